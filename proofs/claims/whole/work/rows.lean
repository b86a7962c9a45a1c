section
-- ===== PART A: goes FIRST, ahead of the names: the tables' words, and 'selects' of the private methods out of them =====
/-- a private method of a class that the tables say can be made, by its rows of tables_1 -/
def lw_okq (q : MethodName × Nat) : Prop := (q.1.cls ≠ "java/lang/invoke/MethodHandle" ∧ q.1.cls ≠ "java/lang/invoke/VarHandle") ∧ Cond.instantiable q.1.cls q.2 ∈ tables_1 ∧ Cond.privateMethod q.1 ∈ tables_1 ∧ Cond.instanceMethod q.1 ∈ tables_1
theorem lw_p0 : lw_okq (⟨"InterestNet$History", "stateAt", "(I)LInterestNet$Net;"⟩, 3) := ⟨⟨by decide +kernel, by decide +kernel⟩, List.mem_of_getElem? (i := 99) (by decide +kernel), List.mem_of_getElem? (i := 197) (by decide +kernel), List.mem_of_getElem? (i := 198) (by decide +kernel)⟩
theorem lw_p1 : lw_okq (⟨"InterestNet$Net", "waysOf", "(I)I"⟩, 7) := ⟨⟨by decide +kernel, by decide +kernel⟩, List.mem_of_getElem? (i := 21) (by decide +kernel), List.mem_of_getElem? (i := 342) (by decide +kernel), List.mem_of_getElem? (i := 343) (by decide +kernel)⟩
theorem lw_p2 : lw_okq (⟨"InterestNet$Runner", "takeTurn", "(II)Z"⟩, 4) := ⟨⟨by decide +kernel, by decide +kernel⟩, List.mem_of_getElem? (i := 53) (by decide +kernel), List.mem_of_getElem? (i := 377) (by decide +kernel), List.mem_of_getElem? (i := 378) (by decide +kernel)⟩
theorem lw_p3 : lw_okq (⟨"InterestNet$Runner", "isExploringRound", "()Z"⟩, 4) := ⟨⟨by decide +kernel, by decide +kernel⟩, List.mem_of_getElem? (i := 53) (by decide +kernel), List.mem_of_getElem? (i := 398) (by decide +kernel), List.mem_of_getElem? (i := 399) (by decide +kernel)⟩
theorem lw_p4 : lw_okq (⟨"InterestNet$Paths", "delayBetween", "(II)I"⟩, 5) := ⟨⟨by decide +kernel, by decide +kernel⟩, List.mem_of_getElem? (i := 61) (by decide +kernel), List.mem_of_getElem? (i := 415) (by decide +kernel), List.mem_of_getElem? (i := 416) (by decide +kernel)⟩
theorem lw_p5 : lw_okq (⟨"InterestNet$Runner", "exploreWay", "(IIII)V"⟩, 4) := ⟨⟨by decide +kernel, by decide +kernel⟩, List.mem_of_getElem? (i := 53) (by decide +kernel), List.mem_of_getElem? (i := 420) (by decide +kernel), List.mem_of_getElem? (i := 421) (by decide +kernel)⟩
theorem lw_p6 : lw_okq (⟨"InterestNet$Paths", "findTimes", "(II)V"⟩, 5) := ⟨⟨by decide +kernel, by decide +kernel⟩, List.mem_of_getElem? (i := 61) (by decide +kernel), List.mem_of_getElem? (i := 428) (by decide +kernel), List.mem_of_getElem? (i := 429) (by decide +kernel)⟩
theorem lw_p7 : lw_okq (⟨"InterestNet$Paths", "findNodeBefore", "(II)I"⟩, 5) := ⟨⟨by decide +kernel, by decide +kernel⟩, List.mem_of_getElem? (i := 61) (by decide +kernel), List.mem_of_getElem? (i := 433) (by decide +kernel), List.mem_of_getElem? (i := 434) (by decide +kernel)⟩
theorem lw_p8 : lw_okq (⟨"InterestNet$Runner", "traceBack", "(II)I"⟩, 4) := ⟨⟨by decide +kernel, by decide +kernel⟩, List.mem_of_getElem? (i := 53) (by decide +kernel), List.mem_of_getElem? (i := 450) (by decide +kernel), List.mem_of_getElem? (i := 451) (by decide +kernel)⟩
theorem lw_p9 : lw_okq (⟨"InterestNet$Runner", "keptLinks", "(II)I"⟩, 4) := ⟨⟨by decide +kernel, by decide +kernel⟩, List.mem_of_getElem? (i := 53) (by decide +kernel), List.mem_of_getElem? (i := 459) (by decide +kernel), List.mem_of_getElem? (i := 460) (by decide +kernel)⟩
theorem lw_p10 : lw_okq (⟨"InterestNet$Runner", "send", "(II)V"⟩, 4) := ⟨⟨by decide +kernel, by decide +kernel⟩, List.mem_of_getElem? (i := 53) (by decide +kernel), List.mem_of_getElem? (i := 480) (by decide +kernel), List.mem_of_getElem? (i := 481) (by decide +kernel)⟩
theorem lw_p11 : lw_okq (⟨"InterestNet", "hasWay", "(II)Z"⟩, 5) := ⟨⟨by decide +kernel, by decide +kernel⟩, List.mem_of_getElem? (i := 13) (by decide +kernel), List.mem_of_getElem? (i := 498) (by decide +kernel), List.mem_of_getElem? (i := 499) (by decide +kernel)⟩
theorem lw_p12 : lw_okq (⟨"InterestNet$Text", "readItem", "()Z"⟩, 7) := ⟨⟨by decide +kernel, by decide +kernel⟩, List.mem_of_getElem? (i := 119) (by decide +kernel), List.mem_of_getElem? (i := 575) (by decide +kernel), List.mem_of_getElem? (i := 576) (by decide +kernel)⟩
theorem lw_p13 : lw_okq (⟨"InterestNet$Text", "nextCode", "()I"⟩, 7) := ⟨⟨by decide +kernel, by decide +kernel⟩, List.mem_of_getElem? (i := 119) (by decide +kernel), List.mem_of_getElem? (i := 579) (by decide +kernel), List.mem_of_getElem? (i := 580) (by decide +kernel)⟩
theorem lw_p14 : lw_okq (⟨"InterestNet$Text", "readNode", "()Z"⟩, 7) := ⟨⟨by decide +kernel, by decide +kernel⟩, List.mem_of_getElem? (i := 119) (by decide +kernel), List.mem_of_getElem? (i := 584) (by decide +kernel), List.mem_of_getElem? (i := 585) (by decide +kernel)⟩
theorem lw_p15 : lw_okq (⟨"InterestNet$Text", "refuse", "(I)Z"⟩, 7) := ⟨⟨by decide +kernel, by decide +kernel⟩, List.mem_of_getElem? (i := 119) (by decide +kernel), List.mem_of_getElem? (i := 589) (by decide +kernel), List.mem_of_getElem? (i := 590) (by decide +kernel)⟩
def lw_privs_1 : List (MethodName × Nat) := [(⟨"InterestNet$History", "stateAt", "(I)LInterestNet$Net;"⟩, 3), (⟨"InterestNet$Net", "waysOf", "(I)I"⟩, 7), (⟨"InterestNet$Runner", "takeTurn", "(II)Z"⟩, 4), (⟨"InterestNet$Runner", "isExploringRound", "()Z"⟩, 4), (⟨"InterestNet$Paths", "delayBetween", "(II)I"⟩, 5), (⟨"InterestNet$Runner", "exploreWay", "(IIII)V"⟩, 4), (⟨"InterestNet$Paths", "findTimes", "(II)V"⟩, 5), (⟨"InterestNet$Paths", "findNodeBefore", "(II)I"⟩, 5), (⟨"InterestNet$Runner", "traceBack", "(II)I"⟩, 4), (⟨"InterestNet$Runner", "keptLinks", "(II)I"⟩, 4), (⟨"InterestNet$Runner", "send", "(II)V"⟩, 4), (⟨"InterestNet", "hasWay", "(II)Z"⟩, 5), (⟨"InterestNet$Text", "readItem", "()Z"⟩, 7), (⟨"InterestNet$Text", "nextCode", "()I"⟩, 7), (⟨"InterestNet$Text", "readNode", "()Z"⟩, 7), (⟨"InterestNet$Text", "refuse", "(I)Z"⟩, 7)]
theorem lw_r1 : ∀ q ∈ lw_privs_1, lw_okq q := List.forall_mem_cons.mpr ⟨lw_p0, List.forall_mem_cons.mpr ⟨lw_p1, List.forall_mem_cons.mpr ⟨lw_p2, List.forall_mem_cons.mpr ⟨lw_p3, List.forall_mem_cons.mpr ⟨lw_p4, List.forall_mem_cons.mpr ⟨lw_p5, List.forall_mem_cons.mpr ⟨lw_p6, List.forall_mem_cons.mpr ⟨lw_p7, List.forall_mem_cons.mpr ⟨lw_p8, List.forall_mem_cons.mpr ⟨lw_p9, List.forall_mem_cons.mpr ⟨lw_p10, List.forall_mem_cons.mpr ⟨lw_p11, List.forall_mem_cons.mpr ⟨lw_p12, List.forall_mem_cons.mpr ⟨lw_p13, List.forall_mem_cons.mpr ⟨lw_p14, List.forall_mem_cons.mpr ⟨lw_p15, fun _ h => absurd h List.not_mem_nil⟩⟩⟩⟩⟩⟩⟩⟩⟩⟩⟩⟩⟩⟩⟩⟩
theorem lw_p16 : lw_okq (⟨"InterestNet$Text", "readSign", "(I)Z"⟩, 7) := ⟨⟨by decide +kernel, by decide +kernel⟩, List.mem_of_getElem? (i := 119) (by decide +kernel), List.mem_of_getElem? (i := 593) (by decide +kernel), List.mem_of_getElem? (i := 594) (by decide +kernel)⟩
theorem lw_p17 : lw_okq (⟨"InterestNet$Text", "readNumber", "(II)I"⟩, 7) := ⟨⟨by decide +kernel, by decide +kernel⟩, List.mem_of_getElem? (i := 119) (by decide +kernel), List.mem_of_getElem? (i := 597) (by decide +kernel), List.mem_of_getElem? (i := 598) (by decide +kernel)⟩
theorem lw_p18 : lw_okq (⟨"InterestNet$Text", "readSensor", "()Z"⟩, 7) := ⟨⟨by decide +kernel, by decide +kernel⟩, List.mem_of_getElem? (i := 119) (by decide +kernel), List.mem_of_getElem? (i := 606) (by decide +kernel), List.mem_of_getElem? (i := 607) (by decide +kernel)⟩
theorem lw_p19 : lw_okq (⟨"InterestNet$Text", "readLink", "()Z"⟩, 7) := ⟨⟨by decide +kernel, by decide +kernel⟩, List.mem_of_getElem? (i := 119) (by decide +kernel), List.mem_of_getElem? (i := 611) (by decide +kernel), List.mem_of_getElem? (i := 612) (by decide +kernel)⟩
theorem lw_p20 : lw_okq (⟨"InterestNet$Net", "hashOfWays", "(JI)J"⟩, 7) := ⟨⟨by decide +kernel, by decide +kernel⟩, List.mem_of_getElem? (i := 21) (by decide +kernel), List.mem_of_getElem? (i := 636) (by decide +kernel), List.mem_of_getElem? (i := 637) (by decide +kernel)⟩
theorem lw_p21 : lw_okq (⟨"InterestNetModel", "saves", "()V"⟩, 16) := ⟨⟨by decide +kernel, by decide +kernel⟩, List.mem_of_getElem? (i := 641) (by decide +kernel), List.mem_of_getElem? (i := 704) (by decide +kernel), List.mem_of_getElem? (i := 705) (by decide +kernel)⟩
theorem lw_p22 : lw_okq (⟨"InterestNetModel", "copies", "(II)V"⟩, 16) := ⟨⟨by decide +kernel, by decide +kernel⟩, List.mem_of_getElem? (i := 641) (by decide +kernel), List.mem_of_getElem? (i := 708) (by decide +kernel), List.mem_of_getElem? (i := 709) (by decide +kernel)⟩
theorem lw_p23 : lw_okq (⟨"InterestNetModel", "laysNode", "(I)V"⟩, 16) := ⟨⟨by decide +kernel, by decide +kernel⟩, List.mem_of_getElem? (i := 641) (by decide +kernel), List.mem_of_getElem? (i := 712) (by decide +kernel), List.mem_of_getElem? (i := 713) (by decide +kernel)⟩
theorem lw_p24 : lw_okq (⟨"InterestNetModel", "isNode", "(I)Z"⟩, 16) := ⟨⟨by decide +kernel, by decide +kernel⟩, List.mem_of_getElem? (i := 641) (by decide +kernel), List.mem_of_getElem? (i := 720) (by decide +kernel), List.mem_of_getElem? (i := 721) (by decide +kernel)⟩
theorem lw_p25 : lw_okq (⟨"InterestNetModel", "linkOf", "(II)I"⟩, 16) := ⟨⟨by decide +kernel, by decide +kernel⟩, List.mem_of_getElem? (i := 641) (by decide +kernel), List.mem_of_getElem? (i := 728) (by decide +kernel), List.mem_of_getElem? (i := 729) (by decide +kernel)⟩
theorem lw_p26 : lw_okq (⟨"InterestNetModel", "ofLink", "(II)I"⟩, 16) := ⟨⟨by decide +kernel, by decide +kernel⟩, List.mem_of_getElem? (i := 641) (by decide +kernel), List.mem_of_getElem? (i := 732) (by decide +kernel), List.mem_of_getElem? (i := 733) (by decide +kernel)⟩
theorem lw_p27 : lw_okq (⟨"InterestNetModel", "laysLink", "(III)V"⟩, 16) := ⟨⟨by decide +kernel, by decide +kernel⟩, List.mem_of_getElem? (i := 641) (by decide +kernel), List.mem_of_getElem? (i := 736) (by decide +kernel), List.mem_of_getElem? (i := 737) (by decide +kernel)⟩
theorem lw_p28 : lw_okq (⟨"InterestNetModel", "isLink", "(I)Z"⟩, 16) := ⟨⟨by decide +kernel, by decide +kernel⟩, List.mem_of_getElem? (i := 641) (by decide +kernel), List.mem_of_getElem? (i := 744) (by decide +kernel), List.mem_of_getElem? (i := 745) (by decide +kernel)⟩
theorem lw_p29 : lw_okq (⟨"InterestNetModel", "laysSensor", "(III)V"⟩, 16) := ⟨⟨by decide +kernel, by decide +kernel⟩, List.mem_of_getElem? (i := 641) (by decide +kernel), List.mem_of_getElem? (i := 758) (by decide +kernel), List.mem_of_getElem? (i := 759) (by decide +kernel)⟩
theorem lw_p30 : lw_okq (⟨"InterestNetModel", "wayAt", "(II)I"⟩, 16) := ⟨⟨by decide +kernel, by decide +kernel⟩, List.mem_of_getElem? (i := 641) (by decide +kernel), List.mem_of_getElem? (i := 762) (by decide +kernel), List.mem_of_getElem? (i := 763) (by decide +kernel)⟩
theorem lw_p31 : lw_okq (⟨"InterestNetModel", "isSensor", "(I)Z"⟩, 16) := ⟨⟨by decide +kernel, by decide +kernel⟩, List.mem_of_getElem? (i := 641) (by decide +kernel), List.mem_of_getElem? (i := 770) (by decide +kernel), List.mem_of_getElem? (i := 771) (by decide +kernel)⟩
def lw_privs_2 : List (MethodName × Nat) := [(⟨"InterestNet$Text", "readSign", "(I)Z"⟩, 7), (⟨"InterestNet$Text", "readNumber", "(II)I"⟩, 7), (⟨"InterestNet$Text", "readSensor", "()Z"⟩, 7), (⟨"InterestNet$Text", "readLink", "()Z"⟩, 7), (⟨"InterestNet$Net", "hashOfWays", "(JI)J"⟩, 7), (⟨"InterestNetModel", "saves", "()V"⟩, 16), (⟨"InterestNetModel", "copies", "(II)V"⟩, 16), (⟨"InterestNetModel", "laysNode", "(I)V"⟩, 16), (⟨"InterestNetModel", "isNode", "(I)Z"⟩, 16), (⟨"InterestNetModel", "linkOf", "(II)I"⟩, 16), (⟨"InterestNetModel", "ofLink", "(II)I"⟩, 16), (⟨"InterestNetModel", "laysLink", "(III)V"⟩, 16), (⟨"InterestNetModel", "isLink", "(I)Z"⟩, 16), (⟨"InterestNetModel", "laysSensor", "(III)V"⟩, 16), (⟨"InterestNetModel", "wayAt", "(II)I"⟩, 16), (⟨"InterestNetModel", "isSensor", "(I)Z"⟩, 16)]
theorem lw_r2 : ∀ q ∈ lw_privs_2, lw_okq q := List.forall_mem_cons.mpr ⟨lw_p16, List.forall_mem_cons.mpr ⟨lw_p17, List.forall_mem_cons.mpr ⟨lw_p18, List.forall_mem_cons.mpr ⟨lw_p19, List.forall_mem_cons.mpr ⟨lw_p20, List.forall_mem_cons.mpr ⟨lw_p21, List.forall_mem_cons.mpr ⟨lw_p22, List.forall_mem_cons.mpr ⟨lw_p23, List.forall_mem_cons.mpr ⟨lw_p24, List.forall_mem_cons.mpr ⟨lw_p25, List.forall_mem_cons.mpr ⟨lw_p26, List.forall_mem_cons.mpr ⟨lw_p27, List.forall_mem_cons.mpr ⟨lw_p28, List.forall_mem_cons.mpr ⟨lw_p29, List.forall_mem_cons.mpr ⟨lw_p30, List.forall_mem_cons.mpr ⟨lw_p31, fun _ h => absurd h List.not_mem_nil⟩⟩⟩⟩⟩⟩⟩⟩⟩⟩⟩⟩⟩⟩⟩⟩
theorem lw_p32 : lw_okq (⟨"InterestNetModel", "ofSensor", "(II)I"⟩, 16) := ⟨⟨by decide +kernel, by decide +kernel⟩, List.mem_of_getElem? (i := 641) (by decide +kernel), List.mem_of_getElem? (i := 774) (by decide +kernel), List.mem_of_getElem? (i := 775) (by decide +kernel)⟩
theorem lw_p33 : lw_okq (⟨"InterestNetModel", "isInterest", "(I)Z"⟩, 16) := ⟨⟨by decide +kernel, by decide +kernel⟩, List.mem_of_getElem? (i := 641) (by decide +kernel), List.mem_of_getElem? (i := 787) (by decide +kernel), List.mem_of_getElem? (i := 788) (by decide +kernel)⟩
theorem lw_p34 : lw_okq (⟨"InterestNetModel", "removes", "(I)V"⟩, 16) := ⟨⟨by decide +kernel, by decide +kernel⟩, List.mem_of_getElem? (i := 641) (by decide +kernel), List.mem_of_getElem? (i := 791) (by decide +kernel), List.mem_of_getElem? (i := 792) (by decide +kernel)⟩
theorem lw_p35 : lw_okq (⟨"InterestNetModel", "living", "()I"⟩, 16) := ⟨⟨by decide +kernel, by decide +kernel⟩, List.mem_of_getElem? (i := 641) (by decide +kernel), List.mem_of_getElem? (i := 803) (by decide +kernel), List.mem_of_getElem? (i := 804) (by decide +kernel)⟩
theorem lw_p36 : lw_okq (⟨"InterestNetModel", "isAlive", "(I)Z"⟩, 16) := ⟨⟨by decide +kernel, by decide +kernel⟩, List.mem_of_getElem? (i := 641) (by decide +kernel), List.mem_of_getElem? (i := 807) (by decide +kernel), List.mem_of_getElem? (i := 808) (by decide +kernel)⟩
theorem lw_p37 : lw_okq (⟨"InterestNetModel", "part", "(II)I"⟩, 16) := ⟨⟨by decide +kernel, by decide +kernel⟩, List.mem_of_getElem? (i := 641) (by decide +kernel), List.mem_of_getElem? (i := 827) (by decide +kernel), List.mem_of_getElem? (i := 828) (by decide +kernel)⟩
theorem lw_p38 : lw_okq (⟨"InterestNetModel", "ofInterest", "(II)I"⟩, 16) := ⟨⟨by decide +kernel, by decide +kernel⟩, List.mem_of_getElem? (i := 641) (by decide +kernel), List.mem_of_getElem? (i := 831) (by decide +kernel), List.mem_of_getElem? (i := 832) (by decide +kernel)⟩
theorem lw_p39 : lw_okq (⟨"InterestNetModel", "lengthOf", "(II)I"⟩, 16) := ⟨⟨by decide +kernel, by decide +kernel⟩, List.mem_of_getElem? (i := 641) (by decide +kernel), List.mem_of_getElem? (i := 835) (by decide +kernel), List.mem_of_getElem? (i := 836) (by decide +kernel)⟩
theorem lw_p40 : lw_okq (⟨"InterestNetModel", "goesFor", "(I)I"⟩, 16) := ⟨⟨by decide +kernel, by decide +kernel⟩, List.mem_of_getElem? (i := 641) (by decide +kernel), List.mem_of_getElem? (i := 843) (by decide +kernel), List.mem_of_getElem? (i := 844) (by decide +kernel)⟩
theorem lw_p41 : lw_okq (⟨"InterestNetModel", "goesOn", "()I"⟩, 16) := ⟨⟨by decide +kernel, by decide +kernel⟩, List.mem_of_getElem? (i := 641) (by decide +kernel), List.mem_of_getElem? (i := 847) (by decide +kernel), List.mem_of_getElem? (i := 848) (by decide +kernel)⟩
theorem lw_p42 : lw_okq (⟨"InterestNetModel", "turns", "(II)Z"⟩, 16) := ⟨⟨by decide +kernel, by decide +kernel⟩, List.mem_of_getElem? (i := 641) (by decide +kernel), List.mem_of_getElem? (i := 851) (by decide +kernel), List.mem_of_getElem? (i := 852) (by decide +kernel)⟩
theorem lw_p43 : lw_okq (⟨"InterestNetModel", "looksAlive", "()V"⟩, 16) := ⟨⟨by decide +kernel, by decide +kernel⟩, List.mem_of_getElem? (i := 641) (by decide +kernel), List.mem_of_getElem? (i := 855) (by decide +kernel), List.mem_of_getElem? (i := 856) (by decide +kernel)⟩
theorem lw_p44 : lw_okq (⟨"InterestNetModel", "matches", "(II)Z"⟩, 16) := ⟨⟨by decide +kernel, by decide +kernel⟩, List.mem_of_getElem? (i := 641) (by decide +kernel), List.mem_of_getElem? (i := 859) (by decide +kernel), List.mem_of_getElem? (i := 860) (by decide +kernel)⟩
theorem lw_p45 : lw_okq (⟨"InterestNetModel", "isWholeWay", "(II)Z"⟩, 16) := ⟨⟨by decide +kernel, by decide +kernel⟩, List.mem_of_getElem? (i := 641) (by decide +kernel), List.mem_of_getElem? (i := 863) (by decide +kernel), List.mem_of_getElem? (i := 864) (by decide +kernel)⟩
theorem lw_p46 : lw_okq (⟨"InterestNetModel", "nodeOf", "(III)I"⟩, 16) := ⟨⟨by decide +kernel, by decide +kernel⟩, List.mem_of_getElem? (i := 641) (by decide +kernel), List.mem_of_getElem? (i := 867) (by decide +kernel), List.mem_of_getElem? (i := 868) (by decide +kernel)⟩
theorem lw_p47 : lw_okq (⟨"InterestNetModel", "explores", "(II)V"⟩, 16) := ⟨⟨by decide +kernel, by decide +kernel⟩, List.mem_of_getElem? (i := 641) (by decide +kernel), List.mem_of_getElem? (i := 871) (by decide +kernel), List.mem_of_getElem? (i := 872) (by decide +kernel)⟩
def lw_privs_3 : List (MethodName × Nat) := [(⟨"InterestNetModel", "ofSensor", "(II)I"⟩, 16), (⟨"InterestNetModel", "isInterest", "(I)Z"⟩, 16), (⟨"InterestNetModel", "removes", "(I)V"⟩, 16), (⟨"InterestNetModel", "living", "()I"⟩, 16), (⟨"InterestNetModel", "isAlive", "(I)Z"⟩, 16), (⟨"InterestNetModel", "part", "(II)I"⟩, 16), (⟨"InterestNetModel", "ofInterest", "(II)I"⟩, 16), (⟨"InterestNetModel", "lengthOf", "(II)I"⟩, 16), (⟨"InterestNetModel", "goesFor", "(I)I"⟩, 16), (⟨"InterestNetModel", "goesOn", "()I"⟩, 16), (⟨"InterestNetModel", "turns", "(II)Z"⟩, 16), (⟨"InterestNetModel", "looksAlive", "()V"⟩, 16), (⟨"InterestNetModel", "matches", "(II)Z"⟩, 16), (⟨"InterestNetModel", "isWholeWay", "(II)Z"⟩, 16), (⟨"InterestNetModel", "nodeOf", "(III)I"⟩, 16), (⟨"InterestNetModel", "explores", "(II)V"⟩, 16)]
theorem lw_r3 : ∀ q ∈ lw_privs_3, lw_okq q := List.forall_mem_cons.mpr ⟨lw_p32, List.forall_mem_cons.mpr ⟨lw_p33, List.forall_mem_cons.mpr ⟨lw_p34, List.forall_mem_cons.mpr ⟨lw_p35, List.forall_mem_cons.mpr ⟨lw_p36, List.forall_mem_cons.mpr ⟨lw_p37, List.forall_mem_cons.mpr ⟨lw_p38, List.forall_mem_cons.mpr ⟨lw_p39, List.forall_mem_cons.mpr ⟨lw_p40, List.forall_mem_cons.mpr ⟨lw_p41, List.forall_mem_cons.mpr ⟨lw_p42, List.forall_mem_cons.mpr ⟨lw_p43, List.forall_mem_cons.mpr ⟨lw_p44, List.forall_mem_cons.mpr ⟨lw_p45, List.forall_mem_cons.mpr ⟨lw_p46, List.forall_mem_cons.mpr ⟨lw_p47, fun _ h => absurd h List.not_mem_nil⟩⟩⟩⟩⟩⟩⟩⟩⟩⟩⟩⟩⟩⟩⟩⟩
theorem lw_p48 : lw_okq (⟨"InterestNetModel", "reaches", "(I)V"⟩, 16) := ⟨⟨by decide +kernel, by decide +kernel⟩, List.mem_of_getElem? (i := 641) (by decide +kernel), List.mem_of_getElem? (i := 875) (by decide +kernel), List.mem_of_getElem? (i := 876) (by decide +kernel)⟩
theorem lw_p49 : lw_okq (⟨"InterestNetModel", "traces", "(I)V"⟩, 16) := ⟨⟨by decide +kernel, by decide +kernel⟩, List.mem_of_getElem? (i := 641) (by decide +kernel), List.mem_of_getElem? (i := 879) (by decide +kernel), List.mem_of_getElem? (i := 880) (by decide +kernel)⟩
theorem lw_p50 : lw_okq (⟨"InterestNetModel", "spends", "(II)V"⟩, 16) := ⟨⟨by decide +kernel, by decide +kernel⟩, List.mem_of_getElem? (i := 641) (by decide +kernel), List.mem_of_getElem? (i := 883) (by decide +kernel), List.mem_of_getElem? (i := 884) (by decide +kernel)⟩
theorem lw_p51 : lw_okq (⟨"InterestNetModel", "sends", "(II)V"⟩, 16) := ⟨⟨by decide +kernel, by decide +kernel⟩, List.mem_of_getElem? (i := 641) (by decide +kernel), List.mem_of_getElem? (i := 890) (by decide +kernel), List.mem_of_getElem? (i := 891) (by decide +kernel)⟩
theorem lw_p52 : lw_okq (⟨"InterestNetModel", "readsText", "()Z"⟩, 16) := ⟨⟨by decide +kernel, by decide +kernel⟩, List.mem_of_getElem? (i := 641) (by decide +kernel), List.mem_of_getElem? (i := 942) (by decide +kernel), List.mem_of_getElem? (i := 943) (by decide +kernel)⟩
theorem lw_p53 : lw_okq (⟨"InterestNetModel", "readsItem", "()Z"⟩, 16) := ⟨⟨by decide +kernel, by decide +kernel⟩, List.mem_of_getElem? (i := 641) (by decide +kernel), List.mem_of_getElem? (i := 946) (by decide +kernel), List.mem_of_getElem? (i := 947) (by decide +kernel)⟩
theorem lw_p54 : lw_okq (⟨"InterestNetModel", "here", "()I"⟩, 16) := ⟨⟨by decide +kernel, by decide +kernel⟩, List.mem_of_getElem? (i := 641) (by decide +kernel), List.mem_of_getElem? (i := 950) (by decide +kernel), List.mem_of_getElem? (i := 951) (by decide +kernel)⟩
theorem lw_p55 : lw_okq (⟨"InterestNetModel", "readsNode", "()Z"⟩, 16) := ⟨⟨by decide +kernel, by decide +kernel⟩, List.mem_of_getElem? (i := 641) (by decide +kernel), List.mem_of_getElem? (i := 954) (by decide +kernel), List.mem_of_getElem? (i := 955) (by decide +kernel)⟩
theorem lw_p56 : lw_okq (⟨"InterestNetModel", "reads", "(II)Z"⟩, 16) := ⟨⟨by decide +kernel, by decide +kernel⟩, List.mem_of_getElem? (i := 641) (by decide +kernel), List.mem_of_getElem? (i := 958) (by decide +kernel), List.mem_of_getElem? (i := 959) (by decide +kernel)⟩
theorem lw_p57 : lw_okq (⟨"InterestNetModel", "finds", "(IIZ)I"⟩, 16) := ⟨⟨by decide +kernel, by decide +kernel⟩, List.mem_of_getElem? (i := 641) (by decide +kernel), List.mem_of_getElem? (i := 962) (by decide +kernel), List.mem_of_getElem? (i := 963) (by decide +kernel)⟩
theorem lw_p58 : lw_okq (⟨"InterestNetModel", "readsSensor", "()Z"⟩, 16) := ⟨⟨by decide +kernel, by decide +kernel⟩, List.mem_of_getElem? (i := 641) (by decide +kernel), List.mem_of_getElem? (i := 966) (by decide +kernel), List.mem_of_getElem? (i := 967) (by decide +kernel)⟩
theorem lw_p59 : lw_okq (⟨"InterestNetModel", "sign", "(I)Z"⟩, 16) := ⟨⟨by decide +kernel, by decide +kernel⟩, List.mem_of_getElem? (i := 641) (by decide +kernel), List.mem_of_getElem? (i := 970) (by decide +kernel), List.mem_of_getElem? (i := 971) (by decide +kernel)⟩
theorem lw_p60 : lw_okq (⟨"InterestNetModel", "readsLink", "()Z"⟩, 16) := ⟨⟨by decide +kernel, by decide +kernel⟩, List.mem_of_getElem? (i := 641) (by decide +kernel), List.mem_of_getElem? (i := 974) (by decide +kernel), List.mem_of_getElem? (i := 975) (by decide +kernel)⟩
theorem lw_p61 : lw_okq (⟨"InterestNetModel", "note", "(I)V"⟩, 16) := ⟨⟨by decide +kernel, by decide +kernel⟩, List.mem_of_getElem? (i := 641) (by decide +kernel), List.mem_of_getElem? (i := 988) (by decide +kernel), List.mem_of_getElem? (i := 989) (by decide +kernel)⟩
def lw_privs_4 : List (MethodName × Nat) := [(⟨"InterestNetModel", "reaches", "(I)V"⟩, 16), (⟨"InterestNetModel", "traces", "(I)V"⟩, 16), (⟨"InterestNetModel", "spends", "(II)V"⟩, 16), (⟨"InterestNetModel", "sends", "(II)V"⟩, 16), (⟨"InterestNetModel", "readsText", "()Z"⟩, 16), (⟨"InterestNetModel", "readsItem", "()Z"⟩, 16), (⟨"InterestNetModel", "here", "()I"⟩, 16), (⟨"InterestNetModel", "readsNode", "()Z"⟩, 16), (⟨"InterestNetModel", "reads", "(II)Z"⟩, 16), (⟨"InterestNetModel", "finds", "(IIZ)I"⟩, 16), (⟨"InterestNetModel", "readsSensor", "()Z"⟩, 16), (⟨"InterestNetModel", "sign", "(I)Z"⟩, 16), (⟨"InterestNetModel", "readsLink", "()Z"⟩, 16), (⟨"InterestNetModel", "note", "(I)V"⟩, 16)]
theorem lw_r4 : ∀ q ∈ lw_privs_4, lw_okq q := List.forall_mem_cons.mpr ⟨lw_p48, List.forall_mem_cons.mpr ⟨lw_p49, List.forall_mem_cons.mpr ⟨lw_p50, List.forall_mem_cons.mpr ⟨lw_p51, List.forall_mem_cons.mpr ⟨lw_p52, List.forall_mem_cons.mpr ⟨lw_p53, List.forall_mem_cons.mpr ⟨lw_p54, List.forall_mem_cons.mpr ⟨lw_p55, List.forall_mem_cons.mpr ⟨lw_p56, List.forall_mem_cons.mpr ⟨lw_p57, List.forall_mem_cons.mpr ⟨lw_p58, List.forall_mem_cons.mpr ⟨lw_p59, List.forall_mem_cons.mpr ⟨lw_p60, List.forall_mem_cons.mpr ⟨lw_p61, fun _ h => absurd h List.not_mem_nil⟩⟩⟩⟩⟩⟩⟩⟩⟩⟩⟩⟩⟩⟩
def lw_privs : List (MethodName × Nat) := lw_privs_1 ++ (lw_privs_2 ++ (lw_privs_3 ++ (lw_privs_4)))
def lw_tbl : List Cond := k2_sels lw_privs ++ tables_1
theorem lw_privs_ok : ∀ q ∈ lw_privs, lw_okq q := by
  show ∀ q ∈ lw_privs_1 ++ (lw_privs_2 ++ (lw_privs_3 ++ (lw_privs_4))), lw_okq q
  exact List.forall_mem_append.mpr ⟨lw_r1, List.forall_mem_append.mpr ⟨lw_r2, List.forall_mem_append.mpr ⟨lw_r3, lw_r4⟩⟩⟩
-- ===== end of PART A; then your names; then what follows =====
end
section
/-! ===== BEGIN words of one list among another's, by their places ===== -/
theorem goodIn_r {big : List Cond} (ws : List Cond) (ps : List Nat) (hp : ws = ps.filterMap (fun i => big[i]?)) (h : ws.all goodWord = true) : GoodIn big ws := by
  intro w hw
  have h1 := List.all_eq_true.mp h w hw
  rw [hp] at hw
  obtain ⟨i, -, hi⟩ := List.mem_filterMap.mp hw
  have hm : w ∈ big := by first | exact List.mem_of_getElem? hi | exact List.getElem?_mem hi
  exact ⟨hm, good_of_word h1⟩
theorem goodIn_app {big a b : List Cond} (ha : GoodIn big a) (hb : GoodIn big b) : GoodIn big (a ++ b) := fun w h => (List.mem_append.mp h).elim (ha w) (hb w)
theorem goodIn_ca {big a b : List Cond} {c : Cond} (ha : GoodIn big (c :: a)) (hb : GoodIn big b) : GoodIn big (c :: (a ++ b)) := fun w h => (List.mem_cons.mp h).elim (fun e => ha w (List.mem_cons.mpr (Or.inl e))) (fun h => (List.mem_append.mp h).elim (fun h => ha w (List.mem_cons.mpr (Or.inr h))) (hb w))
theorem goodIn_sub {big ws : List Cond} (hm : ∀ w ∈ ws, w ∈ big) (h : ws.all goodWord = true) : GoodIn big ws := fun w hw => ⟨hm w hw, good_of_word (List.all_eq_true.mp h w hw)⟩
/-! ===== END ===== -/

/-! ===== BEGIN printed: names, fields, word lists, decode rows ===== -/
def RX0 : String := "InterestNet$History"
def TX0 : u_T := fun k => match k with
  | 0 => ("InterestNet$History", "states", "[LInterestNet$Net;", true)
  | 1 => ("InterestNet$History", "oldest", "I", false)
  | _ => ("InterestNet$History", "size", "I", false)
def tyX0 : Nat → FieldType := fun k => match k with
  | 0 => .array (.object "InterestNet$Net")
  | 1 => .int
  | _ => .int
abbrev wsX00 : List Cond := u_ws RX0 TX0 3
theorem nmX0 : ∀ a, a < 3 → ∀ b, b < 3 → a ≠ b → (TX0 a).2.1 ≠ (TX0 b).2.1 := by decide +kernel
theorem tyX0_ok : ∀ k, k < 3 → parseFieldDescriptor (TX0 k).2.2.1 = some (tyX0 k) := by decide +kernel
abbrev cX0_init : ByteArray := prog_2_method_1_code
def yX0_init : MethodName := ⟨RX0, "<init>", "()V"⟩
abbrev cX0_record : ByteArray := prog_2_method_2_code
def yX0_record : MethodName := ⟨RX0, "record", "(LInterestNet$Net;)V"⟩
abbrev cX0_restore : ByteArray := prog_2_method_3_code
def yX0_restore : MethodName := ⟨RX0, "restore", "(LInterestNet$Net;)Z"⟩
abbrev cX0_stateAt : ByteArray := prog_2_method_4_code
def yX0_stateAt : MethodName := ⟨RX0, "stateAt", "(I)LInterestNet$Net;"⟩
def RX1 : String := "InterestNet$Net"
def TX1 : u_T := fun k => match k with
  | 0 => ("InterestNet$Net", "numbers", "[I", true)
  | 1 => ("InterestNet$Net", "energies", "[I", true)
  | 2 => ("InterestNet$Net", "links", "[I", true)
  | 3 => ("InterestNet$Net", "sensors", "[I", true)
  | 4 => ("InterestNet$Net", "interests", "[I", true)
  | 5 => ("InterestNet$Net", "wayLengths", "[I", true)
  | _ => ("InterestNet$Net", "wayNodes", "[I", true)
def tyX1 : Nat → FieldType := fun k => match k with
  | 0 => .array .int
  | 1 => .array .int
  | 2 => .array .int
  | 3 => .array .int
  | 4 => .array .int
  | 5 => .array .int
  | _ => .array .int
abbrev wsX10 : List Cond := u_ws RX1 TX1 7
theorem nmX1 : ∀ a, a < 7 → ∀ b, b < 7 → a ≠ b → (TX1 a).2.1 ≠ (TX1 b).2.1 := by decide +kernel
theorem tyX1_ok : ∀ k, k < 7 → parseFieldDescriptor (TX1 k).2.2.1 = some (tyX1 k) := by decide +kernel
abbrev cX1_init : ByteArray := prog_3_method_1_code
def yX1_init : MethodName := ⟨RX1, "<init>", "()V"⟩
abbrev cX1_copyFrom : ByteArray := prog_3_method_2_code
def yX1_copyFrom : MethodName := ⟨RX1, "copyFrom", "(LInterestNet$Net;)V"⟩
abbrev cX1_number : ByteArray := prog_3_method_3_code
def yX1_number : MethodName := ⟨RX1, "number", "(I)I"⟩
abbrev cX1_setNumber : ByteArray := prog_3_method_4_code
def yX1_setNumber : MethodName := ⟨RX1, "setNumber", "(II)V"⟩
abbrev cX1_raise : ByteArray := prog_3_method_5_code
def yX1_raise : MethodName := ⟨RX1, "raise", "(II)V"⟩
abbrev cX1_has : ByteArray := prog_3_method_6_code
def yX1_has : MethodName := ⟨RX1, "has", "(II)Z"⟩
abbrev cX1_energyOf : ByteArray := prog_3_method_7_code
def yX1_energyOf : MethodName := ⟨RX1, "energyOf", "(I)I"⟩
abbrev cX1_setEnergy : ByteArray := prog_3_method_8_code
def yX1_setEnergy : MethodName := ⟨RX1, "setEnergy", "(II)V"⟩
abbrev cX1_aliveNodes : ByteArray := prog_3_method_9_code
def yX1_aliveNodes : MethodName := ⟨RX1, "aliveNodes", "()I"⟩
abbrev cX1_spend : ByteArray := prog_3_method_10_code
def yX1_spend : MethodName := ⟨RX1, "spend", "(II)V"⟩
abbrev cX1_appendNode : ByteArray := prog_3_method_11_code
def yX1_appendNode : MethodName := ⟨RX1, "appendNode", "(I)I"⟩
abbrev cX1_appendLink : ByteArray := prog_3_method_12_code
def yX1_appendLink : MethodName := ⟨RX1, "appendLink", "(III)I"⟩
abbrev cX1_removeLink : ByteArray := prog_3_method_13_code
def yX1_removeLink : MethodName := ⟨RX1, "removeLink", "(I)I"⟩
abbrev cX1_partOfLink : ByteArray := prog_3_method_14_code
def yX1_partOfLink : MethodName := ⟨RX1, "partOfLink", "(II)I"⟩
abbrev cX1_areLinked : ByteArray := prog_3_method_15_code
def yX1_areLinked : MethodName := ⟨RX1, "areLinked", "(II)Z"⟩
abbrev cX1_isPair : ByteArray := prog_3_method_16_code
def yX1_isPair : MethodName := ⟨RX1, "isPair", "(IIII)Z"⟩
abbrev cX1_appendSensor : ByteArray := prog_3_method_17_code
def yX1_appendSensor : MethodName := ⟨RX1, "appendSensor", "(III)I"⟩
abbrev cX1_sensorPart : ByteArray := prog_3_method_18_code
def yX1_sensorPart : MethodName := ⟨RX1, "sensorPart", "(II)I"⟩
abbrev cX1_setValue : ByteArray := prog_3_method_19_code
def yX1_setValue : MethodName := ⟨RX1, "setValue", "(II)V"⟩
abbrev cX1_appendInterest : ByteArray := prog_3_method_20_code
def yX1_appendInterest : MethodName := ⟨RX1, "appendInterest", "(IIIII)I"⟩
abbrev cX1_removeInterest : ByteArray := prog_3_method_21_code
def yX1_removeInterest : MethodName := ⟨RX1, "removeInterest", "(I)V"⟩
abbrev cX1_endInterests : ByteArray := prog_3_method_22_code
def yX1_endInterests : MethodName := ⟨RX1, "endInterests", "()V"⟩
abbrev cX1_interestPart : ByteArray := prog_3_method_23_code
def yX1_interestPart : MethodName := ⟨RX1, "interestPart", "(II)I"⟩
abbrev cX1_waysOf : ByteArray := prog_3_method_24_code
def yX1_waysOf : MethodName := ⟨RX1, "waysOf", "(I)I"⟩
abbrev cX1_deliver : ByteArray := prog_3_method_25_code
def yX1_deliver : MethodName := ⟨RX1, "deliver", "(II)V"⟩
abbrev cX1_matches : ByteArray := prog_3_method_26_code
def yX1_matches : MethodName := ⟨RX1, "matches", "(II)Z"⟩
abbrev cX1_lengthOf : ByteArray := prog_3_method_27_code
def yX1_lengthOf : MethodName := ⟨RX1, "lengthOf", "(I)I"⟩
abbrev cX1_nodeOf : ByteArray := prog_3_method_28_code
def yX1_nodeOf : MethodName := ⟨RX1, "nodeOf", "(II)I"⟩
abbrev cX1_setWay : ByteArray := prog_3_method_29_code
def yX1_setWay : MethodName := ⟨RX1, "setWay", "(I[II)V"⟩
abbrev cX1_dropWay : ByteArray := prog_3_method_30_code
def yX1_dropWay : MethodName := ⟨RX1, "dropWay", "(I)V"⟩
abbrev cX1_goesOver : ByteArray := prog_3_method_31_code
def yX1_goesOver : MethodName := ⟨RX1, "goesOver", "(III)Z"⟩
abbrev cX1_waysOver : ByteArray := prog_3_method_32_code
def yX1_waysOver : MethodName := ⟨RX1, "waysOver", "(II)I"⟩
abbrev cX1_hash : ByteArray := prog_3_method_33_code
def yX1_hash : MethodName := ⟨RX1, "hash", "()J"⟩
abbrev cX1_hashOfWays : ByteArray := prog_3_method_34_code
def yX1_hashOfWays : MethodName := ⟨RX1, "hashOfWays", "(JI)J"⟩
def RX2 : String := "InterestNet$Paths"
def TX2 : u_T := fun k => match k with
  | 0 => ("InterestNet$Paths", "delays", "[I", true)
  | 1 => ("InterestNet$Paths", "exploredAmong", "[I", true)
  | 2 => ("InterestNet$Paths", "reached", "[I", true)
  | 3 => ("InterestNet$Paths", "times", "[I", true)
  | _ => ("InterestNet$Paths", "nodesBefore", "[I", true)
def tyX2 : Nat → FieldType := fun k => match k with
  | 0 => .array .int
  | 1 => .array .int
  | 2 => .array .int
  | 3 => .array .int
  | _ => .array .int
abbrev wsX20 : List Cond := u_ws RX2 TX2 5
theorem nmX2 : ∀ a, a < 5 → ∀ b, b < 5 → a ≠ b → (TX2 a).2.1 ≠ (TX2 b).2.1 := by decide +kernel
theorem tyX2_ok : ∀ k, k < 5 → parseFieldDescriptor (TX2 k).2.2.1 = some (tyX2 k) := by decide +kernel
abbrev cX2_init : ByteArray := prog_4_method_1_code
def yX2_init : MethodName := ⟨RX2, "<init>", "()V"⟩
abbrev cX2_learn : ByteArray := prog_4_method_2_code
def yX2_learn : MethodName := ⟨RX2, "learn", "(LInterestNet$Net;)V"⟩
abbrev cX2_delayBetween : ByteArray := prog_4_method_3_code
def yX2_delayBetween : MethodName := ⟨RX2, "delayBetween", "(II)I"⟩
abbrev cX2_carry : ByteArray := prog_4_method_4_code
def yX2_carry : MethodName := ⟨RX2, "carry", "(LInterestNet$Net;II)Z"⟩
abbrev cX2_delayOf : ByteArray := prog_4_method_5_code
def yX2_delayOf : MethodName := ⟨RX2, "delayOf", "(LInterestNet$Net;I)I"⟩
abbrev cX2_explore : ByteArray := prog_4_method_6_code
def yX2_explore : MethodName := ⟨RX2, "explore", "(II)V"⟩
abbrev cX2_findTimes : ByteArray := prog_4_method_7_code
def yX2_findTimes : MethodName := ⟨RX2, "findTimes", "(II)V"⟩
abbrev cX2_findNodeBefore : ByteArray := prog_4_method_8_code
def yX2_findNodeBefore : MethodName := ⟨RX2, "findNodeBefore", "(II)I"⟩
abbrev cX2_timeOf : ByteArray := prog_4_method_9_code
def yX2_timeOf : MethodName := ⟨RX2, "timeOf", "(II)I"⟩
abbrev cX2_reachedFrom : ByteArray := prog_4_method_10_code
def yX2_reachedFrom : MethodName := ⟨RX2, "reachedFrom", "(I)I"⟩
abbrev cX2_nodeBefore : ByteArray := prog_4_method_11_code
def yX2_nodeBefore : MethodName := ⟨RX2, "nodeBefore", "(II)I"⟩
def RX3 : String := "InterestNet$Runner"
def TX3 : u_T := fun k => match k with
  | 0 => ("InterestNet$Runner", "draft", "LInterestNet$Net;", true)
  | 1 => ("InterestNet$Runner", "paths", "LInterestNet$Paths;", true)
  | 2 => ("InterestNet$Runner", "newWay", "[I", true)
  | _ => ("InterestNet$Runner", "sentTo", "[I", true)
def tyX3 : Nat → FieldType := fun k => match k with
  | 0 => .object "InterestNet$Net"
  | 1 => .object "InterestNet$Paths"
  | 2 => .array .int
  | _ => .array .int
abbrev wsX30 : List Cond := u_ws RX3 TX3 4
theorem nmX3 : ∀ a, a < 4 → ∀ b, b < 4 → a ≠ b → (TX3 a).2.1 ≠ (TX3 b).2.1 := by decide +kernel
theorem tyX3_ok : ∀ k, k < 4 → parseFieldDescriptor (TX3 k).2.2.1 = some (tyX3 k) := by decide +kernel
abbrev cX3_init : ByteArray := prog_5_method_1_code
def yX3_init : MethodName := ⟨RX3, "<init>", "()V"⟩
abbrev cX3_start : ByteArray := prog_5_method_2_code
def yX3_start : MethodName := ⟨RX3, "start", "(LInterestNet$Net;)V"⟩
abbrev cX3_run : ByteArray := prog_5_method_3_code
def yX3_run : MethodName := ⟨RX3, "run", "(I)I"⟩
abbrev cX3_takeTurn : ByteArray := prog_5_method_4_code
def yX3_takeTurn : MethodName := ⟨RX3, "takeTurn", "(II)Z"⟩
abbrev cX3_isExploringRound : ByteArray := prog_5_method_5_code
def yX3_isExploringRound : MethodName := ⟨RX3, "isExploringRound", "()Z"⟩
abbrev cX3_exploreWay : ByteArray := prog_5_method_6_code
def yX3_exploreWay : MethodName := ⟨RX3, "exploreWay", "(IIII)V"⟩
abbrev cX3_traceBack : ByteArray := prog_5_method_7_code
def yX3_traceBack : MethodName := ⟨RX3, "traceBack", "(II)I"⟩
abbrev cX3_keptLinks : ByteArray := prog_5_method_8_code
def yX3_keptLinks : MethodName := ⟨RX3, "keptLinks", "(II)I"⟩
abbrev cX3_send : ByteArray := prog_5_method_9_code
def yX3_send : MethodName := ⟨RX3, "send", "(II)V"⟩
def RX4 : String := "InterestNet$Text"
def TX4 : u_T := fun k => match k with
  | 0 => ("InterestNet$Text", "draft", "LInterestNet$Net;", true)
  | 1 => ("InterestNet$Text", "codes", "[I", true)
  | 2 => ("InterestNet$Text", "length", "I", false)
  | 3 => ("InterestNet$Text", "items", "I", false)
  | 4 => ("InterestNet$Text", "fault", "I", false)
  | 5 => ("InterestNet$Text", "place", "I", false)
  | _ => ("InterestNet$Text", "numberPlace", "I", false)
def tyX4 : Nat → FieldType := fun k => match k with
  | 0 => .object "InterestNet$Net"
  | 1 => .array .int
  | 2 => .int
  | 3 => .int
  | 4 => .int
  | 5 => .int
  | _ => .int
abbrev wsX40 : List Cond := u_ws RX4 TX4 7
theorem nmX4 : ∀ a, a < 7 → ∀ b, b < 7 → a ≠ b → (TX4 a).2.1 ≠ (TX4 b).2.1 := by decide +kernel
theorem tyX4_ok : ∀ k, k < 7 → parseFieldDescriptor (TX4 k).2.2.1 = some (tyX4 k) := by decide +kernel
abbrev cX4_init : ByteArray := prog_6_method_1_code
def yX4_init : MethodName := ⟨RX4, "<init>", "()V"⟩
abbrev cX4_append : ByteArray := prog_6_method_2_code
def yX4_append : MethodName := ⟨RX4, "append", "(I)Z"⟩
abbrev cX4_read : ByteArray := prog_6_method_3_code
def yX4_read : MethodName := ⟨RX4, "read", "(LInterestNet$Net;)Z"⟩
abbrev cX4_readItem : ByteArray := prog_6_method_4_code
def yX4_readItem : MethodName := ⟨RX4, "readItem", "()Z"⟩
abbrev cX4_readNode : ByteArray := prog_6_method_5_code
def yX4_readNode : MethodName := ⟨RX4, "readNode", "()Z"⟩
abbrev cX4_readLink : ByteArray := prog_6_method_6_code
def yX4_readLink : MethodName := ⟨RX4, "readLink", "()Z"⟩
abbrev cX4_readSensor : ByteArray := prog_6_method_7_code
def yX4_readSensor : MethodName := ⟨RX4, "readSensor", "()Z"⟩
abbrev cX4_readNumber : ByteArray := prog_6_method_8_code
def yX4_readNumber : MethodName := ⟨RX4, "readNumber", "(II)I"⟩
abbrev cX4_readSign : ByteArray := prog_6_method_9_code
def yX4_readSign : MethodName := ⟨RX4, "readSign", "(I)Z"⟩
abbrev cX4_nextCode : ByteArray := prog_6_method_10_code
def yX4_nextCode : MethodName := ⟨RX4, "nextCode", "()I"⟩
abbrev cX4_isDigit : ByteArray := prog_6_method_11_code
def yX4_isDigit : MethodName := ⟨RX4, "isDigit", "(I)Z"⟩
abbrev cX4_refuse : ByteArray := prog_6_method_12_code
def yX4_refuse : MethodName := ⟨RX4, "refuse", "(I)Z"⟩
def RX5 : String := "InterestNet"
def TX5 : u_T := fun k => match k with
  | 0 => ("InterestNet", "net", "LInterestNet$Net;", true)
  | 1 => ("InterestNet", "runner", "LInterestNet$Runner;", true)
  | 2 => ("InterestNet", "paths", "LInterestNet$Paths;", true)
  | 3 => ("InterestNet", "history", "LInterestNet$History;", true)
  | _ => ("InterestNet", "text", "LInterestNet$Text;", true)
def tyX5 : Nat → FieldType := fun k => match k with
  | 0 => .object "InterestNet$Net"
  | 1 => .object "InterestNet$Runner"
  | 2 => .object "InterestNet$Paths"
  | 3 => .object "InterestNet$History"
  | _ => .object "InterestNet$Text"
abbrev wsX50 : List Cond := u_ws RX5 TX5 5
theorem nmX5 : ∀ a, a < 5 → ∀ b, b < 5 → a ≠ b → (TX5 a).2.1 ≠ (TX5 b).2.1 := by decide +kernel
theorem tyX5_ok : ∀ k, k < 5 → parseFieldDescriptor (TX5 k).2.2.1 = some (tyX5 k) := by decide +kernel
abbrev cX5_init : ByteArray := prog_1_method_1_code
def yX5_init : MethodName := ⟨RX5, "<init>", "()V"⟩
abbrev cX5_addNode : ByteArray := prog_1_method_2_code
def yX5_addNode : MethodName := ⟨RX5, "addNode", "(I)I"⟩
abbrev cX5_charge : ByteArray := prog_1_method_3_code
def yX5_charge : MethodName := ⟨RX5, "charge", "(II)I"⟩
abbrev cX5_link : ByteArray := prog_1_method_4_code
def yX5_link : MethodName := ⟨RX5, "link", "(III)I"⟩
abbrev cX5_cut : ByteArray := prog_1_method_5_code
def yX5_cut : MethodName := ⟨RX5, "cut", "(I)I"⟩
abbrev cX5_addSensor : ByteArray := prog_1_method_6_code
def yX5_addSensor : MethodName := ⟨RX5, "addSensor", "(III)I"⟩
abbrev cX5_measure : ByteArray := prog_1_method_7_code
def yX5_measure : MethodName := ⟨RX5, "measure", "(II)I"⟩
abbrev cX5_ask : ByteArray := prog_1_method_8_code
def yX5_ask : MethodName := ⟨RX5, "ask", "(IIIII)I"⟩
abbrev cX5_withdraw : ByteArray := prog_1_method_9_code
def yX5_withdraw : MethodName := ⟨RX5, "withdraw", "(I)I"⟩
abbrev cX5_setPeriod : ByteArray := prog_1_method_10_code
def yX5_setPeriod : MethodName := ⟨RX5, "setPeriod", "(I)I"⟩
abbrev cX5_count : ByteArray := prog_1_method_11_code
def yX5_count : MethodName := ⟨RX5, "count", "(I)I"⟩
abbrev cX5_energy : ByteArray := prog_1_method_12_code
def yX5_energy : MethodName := ⟨RX5, "energy", "(I)I"⟩
abbrev cX5_linkPart : ByteArray := prog_1_method_13_code
def yX5_linkPart : MethodName := ⟨RX5, "linkPart", "(II)I"⟩
abbrev cX5_sensor : ByteArray := prog_1_method_14_code
def yX5_sensor : MethodName := ⟨RX5, "sensor", "(II)I"⟩
abbrev cX5_interest : ByteArray := prog_1_method_15_code
def yX5_interest : MethodName := ⟨RX5, "interest", "(II)I"⟩
abbrev cX5_rounds : ByteArray := prog_1_method_16_code
def yX5_rounds : MethodName := ⟨RX5, "rounds", "(I)I"⟩
abbrev cX5_wayLength : ByteArray := prog_1_method_17_code
def yX5_wayLength : MethodName := ⟨RX5, "wayLength", "(II)I"⟩
abbrev cX5_wayNode : ByteArray := prog_1_method_18_code
def yX5_wayNode : MethodName := ⟨RX5, "wayNode", "(III)I"⟩
abbrev cX5_isWhole : ByteArray := prog_1_method_19_code
def yX5_isWhole : MethodName := ⟨RX5, "isWhole", "(II)I"⟩
abbrev cX5_quickest : ByteArray := prog_1_method_20_code
def yX5_quickest : MethodName := ⟨RX5, "quickest", "(II)I"⟩
abbrev cX5_load : ByteArray := prog_1_method_21_code
def yX5_load : MethodName := ⟨RX5, "load", "(I)I"⟩
abbrev cX5_firstDeath : ByteArray := prog_1_method_22_code
def yX5_firstDeath : MethodName := ⟨RX5, "firstDeath", "()I"⟩
abbrev cX5_willDeliver : ByteArray := prog_1_method_23_code
def yX5_willDeliver : MethodName := ⟨RX5, "willDeliver", "(I)I"⟩
abbrev cX5_bestPeriod : ByteArray := prog_1_method_24_code
def yX5_bestPeriod : MethodName := ⟨RX5, "bestPeriod", "(I)I"⟩
abbrev cX5_undo : ByteArray := prog_1_method_25_code
def yX5_undo : MethodName := ⟨RX5, "undo", "()I"⟩
abbrev cX5_type : ByteArray := prog_1_method_26_code
def yX5_type : MethodName := ⟨RX5, "type", "(I)I"⟩
abbrev cX5_clearText : ByteArray := prog_1_method_27_code
def yX5_clearText : MethodName := ⟨RX5, "clearText", "()I"⟩
abbrev cX5_textFault : ByteArray := prog_1_method_28_code
def yX5_textFault : MethodName := ⟨RX5, "textFault", "()I"⟩
abbrev cX5_build : ByteArray := prog_1_method_29_code
def yX5_build : MethodName := ⟨RX5, "build", "()I"⟩
abbrev cX5_digest : ByteArray := prog_1_method_30_code
def yX5_digest : MethodName := ⟨RX5, "digest", "()J"⟩
abbrev cX5_hasWay : ByteArray := prog_1_method_31_code
def yX5_hasWay : MethodName := ⟨RX5, "hasWay", "(II)Z"⟩
abbrev cX5_wayOf : ByteArray := prog_1_method_32_code
def yX5_wayOf : MethodName := ⟨RX5, "wayOf", "(II)I"⟩
abbrev cX5_isWithin : ByteArray := prog_1_method_33_code
def yX5_isWithin : MethodName := ⟨RX5, "isWithin", "(III)Z"⟩
abbrev cX5_holds : ByteArray := prog_1_method_34_code
def yX5_holds : MethodName := ⟨RX5, "holds", "(II)Z"⟩
abbrev cX5_at : ByteArray := prog_1_method_35_code
def yX5_at : MethodName := ⟨RX5, "at", "([II)I"⟩
abbrev cX5_put : ByteArray := prog_1_method_36_code
def yX5_put : MethodName := ⟨RX5, "put", "([III)V"⟩
abbrev cX5_increase : ByteArray := prog_1_method_37_code
def yX5_increase : MethodName := ⟨RX5, "increase", "([III)V"⟩
abbrev cX5_copy : ByteArray := prog_1_method_38_code
def yX5_copy : MethodName := ⟨RX5, "copy", "([I[I)V"⟩
abbrev cX5_removePiece : ByteArray := prog_1_method_39_code
def yX5_removePiece : MethodName := ⟨RX5, "removePiece", "([III)V"⟩
abbrev cX5_hashOf : ByteArray := prog_1_method_40_code
def yX5_hashOf : MethodName := ⟨RX5, "hashOf", "(J[III)J"⟩
def RX6 : String := "InterestNetModel"
def TX6 : u_T := fun k => match k with
  | 0 => ("InterestNetModel", "row", "[I", true)
  | 1 => ("InterestNetModel", "saved", "I", false)
  | 2 => ("InterestNetModel", "time", "[I", true)
  | 3 => ("InterestNetModel", "alive", "[Z", true)
  | 4 => ("InterestNetModel", "done", "[Z", true)
  | 5 => ("InterestNetModel", "found", "[I", true)
  | 6 => ("InterestNetModel", "foundMany", "I", false)
  | 7 => ("InterestNetModel", "old", "[I", true)
  | 8 => ("InterestNetModel", "oldMany", "I", false)
  | 9 => ("InterestNetModel", "sent", "[Z", true)
  | 10 => ("InterestNetModel", "text", "[I", true)
  | 11 => ("InterestNetModel", "length", "I", false)
  | 12 => ("InterestNetModel", "at", "I", false)
  | 13 => ("InterestNetModel", "number", "I", false)
  | 14 => ("InterestNetModel", "items", "I", false)
  | _ => ("InterestNetModel", "h", "J", false)
def tyX6 : Nat → FieldType := fun k => match k with
  | 0 => .array .int
  | 1 => .int
  | 2 => .array .int
  | 3 => .array .boolean
  | 4 => .array .boolean
  | 5 => .array .int
  | 6 => .int
  | 7 => .array .int
  | 8 => .int
  | 9 => .array .boolean
  | 10 => .array .int
  | 11 => .int
  | 12 => .int
  | 13 => .int
  | 14 => .int
  | _ => .long
abbrev wsX60 : List Cond := u_ws RX6 TX6 16
theorem nmX6 : ∀ a, a < 16 → ∀ b, b < 16 → a ≠ b → (TX6 a).2.1 ≠ (TX6 b).2.1 := by decide +kernel
theorem tyX6_ok : ∀ k, k < 16 → parseFieldDescriptor (TX6 k).2.2.1 = some (tyX6 k) := by decide +kernel
abbrev cX6_init : ByteArray := prog_8_method_1_code
def yX6_init : MethodName := ⟨RX6, "<init>", "()V"⟩
abbrev cX6_in : ByteArray := prog_8_method_2_code
def yX6_in : MethodName := ⟨RX6, "in", "(III)Z"⟩
abbrev cX6_copies : ByteArray := prog_8_method_3_code
def yX6_copies : MethodName := ⟨RX6, "copies", "(II)V"⟩
abbrev cX6_saves : ByteArray := prog_8_method_4_code
def yX6_saves : MethodName := ⟨RX6, "saves", "()V"⟩
abbrev cX6_isNode : ByteArray := prog_8_method_5_code
def yX6_isNode : MethodName := ⟨RX6, "isNode", "(I)Z"⟩
abbrev cX6_isLink : ByteArray := prog_8_method_6_code
def yX6_isLink : MethodName := ⟨RX6, "isLink", "(I)Z"⟩
abbrev cX6_isSensor : ByteArray := prog_8_method_7_code
def yX6_isSensor : MethodName := ⟨RX6, "isSensor", "(I)Z"⟩
abbrev cX6_isInterest : ByteArray := prog_8_method_8_code
def yX6_isInterest : MethodName := ⟨RX6, "isInterest", "(I)Z"⟩
abbrev cX6_ofLink : ByteArray := prog_8_method_9_code
def yX6_ofLink : MethodName := ⟨RX6, "ofLink", "(II)I"⟩
abbrev cX6_ofSensor : ByteArray := prog_8_method_10_code
def yX6_ofSensor : MethodName := ⟨RX6, "ofSensor", "(II)I"⟩
abbrev cX6_ofInterest : ByteArray := prog_8_method_11_code
def yX6_ofInterest : MethodName := ⟨RX6, "ofInterest", "(II)I"⟩
abbrev cX6_isAlive : ByteArray := prog_8_method_12_code
def yX6_isAlive : MethodName := ⟨RX6, "isAlive", "(I)Z"⟩
abbrev cX6_linkOf : ByteArray := prog_8_method_13_code
def yX6_linkOf : MethodName := ⟨RX6, "linkOf", "(II)I"⟩
abbrev cX6_wayAt : ByteArray := prog_8_method_14_code
def yX6_wayAt : MethodName := ⟨RX6, "wayAt", "(II)I"⟩
abbrev cX6_lengthOf : ByteArray := prog_8_method_15_code
def yX6_lengthOf : MethodName := ⟨RX6, "lengthOf", "(II)I"⟩
abbrev cX6_nodeOf : ByteArray := prog_8_method_16_code
def yX6_nodeOf : MethodName := ⟨RX6, "nodeOf", "(III)I"⟩
abbrev cX6_laysNode : ByteArray := prog_8_method_17_code
def yX6_laysNode : MethodName := ⟨RX6, "laysNode", "(I)V"⟩
abbrev cX6_laysLink : ByteArray := prog_8_method_18_code
def yX6_laysLink : MethodName := ⟨RX6, "laysLink", "(III)V"⟩
abbrev cX6_laysSensor : ByteArray := prog_8_method_19_code
def yX6_laysSensor : MethodName := ⟨RX6, "laysSensor", "(III)V"⟩
abbrev cX6_addNode : ByteArray := prog_8_method_20_code
def yX6_addNode : MethodName := ⟨RX6, "addNode", "(I)I"⟩
abbrev cX6_charge : ByteArray := prog_8_method_21_code
def yX6_charge : MethodName := ⟨RX6, "charge", "(II)I"⟩
abbrev cX6_link : ByteArray := prog_8_method_22_code
def yX6_link : MethodName := ⟨RX6, "link", "(III)I"⟩
abbrev cX6_cut : ByteArray := prog_8_method_23_code
def yX6_cut : MethodName := ⟨RX6, "cut", "(I)I"⟩
abbrev cX6_isKind : ByteArray := prog_8_method_24_code
def yX6_isKind : MethodName := ⟨RX6, "isKind", "(I)Z"⟩
abbrev cX6_isMeasure : ByteArray := prog_8_method_25_code
def yX6_isMeasure : MethodName := ⟨RX6, "isMeasure", "(I)Z"⟩
abbrev cX6_addSensor : ByteArray := prog_8_method_26_code
def yX6_addSensor : MethodName := ⟨RX6, "addSensor", "(III)I"⟩
abbrev cX6_measure : ByteArray := prog_8_method_27_code
def yX6_measure : MethodName := ⟨RX6, "measure", "(II)I"⟩
abbrev cX6_ask : ByteArray := prog_8_method_28_code
def yX6_ask : MethodName := ⟨RX6, "ask", "(IIIII)I"⟩
abbrev cX6_removes : ByteArray := prog_8_method_29_code
def yX6_removes : MethodName := ⟨RX6, "removes", "(I)V"⟩
abbrev cX6_withdraw : ByteArray := prog_8_method_30_code
def yX6_withdraw : MethodName := ⟨RX6, "withdraw", "(I)I"⟩
abbrev cX6_setPeriod : ByteArray := prog_8_method_31_code
def yX6_setPeriod : MethodName := ⟨RX6, "setPeriod", "(I)I"⟩
abbrev cX6_living : ByteArray := prog_8_method_32_code
def yX6_living : MethodName := ⟨RX6, "living", "()I"⟩
abbrev cX6_count : ByteArray := prog_8_method_33_code
def yX6_count : MethodName := ⟨RX6, "count", "(I)I"⟩
abbrev cX6_energy : ByteArray := prog_8_method_34_code
def yX6_energy : MethodName := ⟨RX6, "energy", "(I)I"⟩
abbrev cX6_linkPart : ByteArray := prog_8_method_35_code
def yX6_linkPart : MethodName := ⟨RX6, "linkPart", "(II)I"⟩
abbrev cX6_sensor : ByteArray := prog_8_method_36_code
def yX6_sensor : MethodName := ⟨RX6, "sensor", "(II)I"⟩
abbrev cX6_part : ByteArray := prog_8_method_37_code
def yX6_part : MethodName := ⟨RX6, "part", "(II)I"⟩
abbrev cX6_interest : ByteArray := prog_8_method_38_code
def yX6_interest : MethodName := ⟨RX6, "interest", "(II)I"⟩
abbrev cX6_looksAlive : ByteArray := prog_8_method_39_code
def yX6_looksAlive : MethodName := ⟨RX6, "looksAlive", "()V"⟩
abbrev cX6_reaches : ByteArray := prog_8_method_40_code
def yX6_reaches : MethodName := ⟨RX6, "reaches", "(I)V"⟩
abbrev cX6_isWholeWay : ByteArray := prog_8_method_41_code
def yX6_isWholeWay : MethodName := ⟨RX6, "isWholeWay", "(II)Z"⟩
abbrev cX6_spends : ByteArray := prog_8_method_42_code
def yX6_spends : MethodName := ⟨RX6, "spends", "(II)V"⟩
abbrev cX6_traces : ByteArray := prog_8_method_43_code
def yX6_traces : MethodName := ⟨RX6, "traces", "(I)V"⟩
abbrev cX6_goesOver : ByteArray := prog_8_method_44_code
def yX6_goesOver : MethodName := ⟨RX6, "goesOver", "([IIII)Z"⟩
abbrev cX6_explores : ByteArray := prog_8_method_45_code
def yX6_explores : MethodName := ⟨RX6, "explores", "(II)V"⟩
abbrev cX6_sends : ByteArray := prog_8_method_46_code
def yX6_sends : MethodName := ⟨RX6, "sends", "(II)V"⟩
abbrev cX6_matches : ByteArray := prog_8_method_47_code
def yX6_matches : MethodName := ⟨RX6, "matches", "(II)Z"⟩
abbrev cX6_turns : ByteArray := prog_8_method_48_code
def yX6_turns : MethodName := ⟨RX6, "turns", "(II)Z"⟩
abbrev cX6_goesOn : ByteArray := prog_8_method_49_code
def yX6_goesOn : MethodName := ⟨RX6, "goesOn", "()I"⟩
abbrev cX6_goesFor : ByteArray := prog_8_method_50_code
def yX6_goesFor : MethodName := ⟨RX6, "goesFor", "(I)I"⟩
abbrev cX6_rounds : ByteArray := prog_8_method_51_code
def yX6_rounds : MethodName := ⟨RX6, "rounds", "(I)I"⟩
abbrev cX6_wayLength : ByteArray := prog_8_method_52_code
def yX6_wayLength : MethodName := ⟨RX6, "wayLength", "(II)I"⟩
abbrev cX6_wayNode : ByteArray := prog_8_method_53_code
def yX6_wayNode : MethodName := ⟨RX6, "wayNode", "(III)I"⟩
abbrev cX6_isWhole : ByteArray := prog_8_method_54_code
def yX6_isWhole : MethodName := ⟨RX6, "isWhole", "(II)I"⟩
abbrev cX6_quickest : ByteArray := prog_8_method_55_code
def yX6_quickest : MethodName := ⟨RX6, "quickest", "(II)I"⟩
abbrev cX6_load : ByteArray := prog_8_method_56_code
def yX6_load : MethodName := ⟨RX6, "load", "(I)I"⟩
abbrev cX6_firstDeath : ByteArray := prog_8_method_57_code
def yX6_firstDeath : MethodName := ⟨RX6, "firstDeath", "()I"⟩
abbrev cX6_willDeliver : ByteArray := prog_8_method_58_code
def yX6_willDeliver : MethodName := ⟨RX6, "willDeliver", "(I)I"⟩
abbrev cX6_bestPeriod : ByteArray := prog_8_method_59_code
def yX6_bestPeriod : MethodName := ⟨RX6, "bestPeriod", "(I)I"⟩
abbrev cX6_undo : ByteArray := prog_8_method_60_code
def yX6_undo : MethodName := ⟨RX6, "undo", "()I"⟩
abbrev cX6_type : ByteArray := prog_8_method_61_code
def yX6_type : MethodName := ⟨RX6, "type", "(I)I"⟩
abbrev cX6_clearText : ByteArray := prog_8_method_62_code
def yX6_clearText : MethodName := ⟨RX6, "clearText", "()I"⟩
abbrev cX6_here : ByteArray := prog_8_method_63_code
def yX6_here : MethodName := ⟨RX6, "here", "()I"⟩
abbrev cX6_sign : ByteArray := prog_8_method_64_code
def yX6_sign : MethodName := ⟨RX6, "sign", "(I)Z"⟩
abbrev cX6_finds : ByteArray := prog_8_method_65_code
def yX6_finds : MethodName := ⟨RX6, "finds", "(IIZ)I"⟩
abbrev cX6_reads : ByteArray := prog_8_method_66_code
def yX6_reads : MethodName := ⟨RX6, "reads", "(II)Z"⟩
abbrev cX6_readsNode : ByteArray := prog_8_method_67_code
def yX6_readsNode : MethodName := ⟨RX6, "readsNode", "()Z"⟩
abbrev cX6_readsLink : ByteArray := prog_8_method_68_code
def yX6_readsLink : MethodName := ⟨RX6, "readsLink", "()Z"⟩
abbrev cX6_readsSensor : ByteArray := prog_8_method_69_code
def yX6_readsSensor : MethodName := ⟨RX6, "readsSensor", "()Z"⟩
abbrev cX6_readsItem : ByteArray := prog_8_method_70_code
def yX6_readsItem : MethodName := ⟨RX6, "readsItem", "()Z"⟩
abbrev cX6_readsText : ByteArray := prog_8_method_71_code
def yX6_readsText : MethodName := ⟨RX6, "readsText", "()Z"⟩
abbrev cX6_textFault : ByteArray := prog_8_method_72_code
def yX6_textFault : MethodName := ⟨RX6, "textFault", "()I"⟩
abbrev cX6_build : ByteArray := prog_8_method_73_code
def yX6_build : MethodName := ⟨RX6, "build", "()I"⟩
abbrev cX6_note : ByteArray := prog_8_method_74_code
def yX6_note : MethodName := ⟨RX6, "note", "(I)V"⟩
abbrev cX6_digest : ByteArray := prog_8_method_75_code
def yX6_digest : MethodName := ⟨RX6, "digest", "()J"⟩
def RJ6 : String := "java/lang/Integer"
def TJ6 : u_T := fun k => match k with
  | _ => ("", "", "", false)
def tyJ6 : Nat → FieldType := fun k => match k with
  | _ => .int
abbrev wsJ60 : List Cond := u_ws RJ6 TJ6 0
theorem nmJ6 : ∀ a, a < 0 → ∀ b, b < 0 → a ≠ b → (TJ6 a).2.1 ≠ (TJ6 b).2.1 := by decide +kernel
theorem tyJ6_ok : ∀ k, k < 0 → parseFieldDescriptor (TJ6 k).2.2.1 = some (tyJ6 k) := by decide +kernel
abbrev cJ6_bitCount_0f7a4 : ByteArray := prog_9_method_49_code
def yJ6_bitCount_0f7a4 : MethodName := ⟨RJ6, "bitCount", "(I)I"⟩
def RJ9 : String := "java/lang/Math"
def TJ9 : u_T := fun k => match k with
  | _ => ("", "", "", false)
def tyJ9 : Nat → FieldType := fun k => match k with
  | _ => .int
abbrev wsJ90 : List Cond := u_ws RJ9 TJ9 0
theorem nmJ9 : ∀ a, a < 0 → ∀ b, b < 0 → a ≠ b → (TJ9 a).2.1 ≠ (TJ9 b).2.1 := by decide +kernel
theorem tyJ9_ok : ∀ k, k < 0 → parseFieldDescriptor (TJ9 k).2.2.1 = some (tyJ9 k) := by decide +kernel
abbrev cJ9_max_7cf53 : ByteArray := prog_10_method_65_code
def yJ9_max_7cf53 : MethodName := ⟨RJ9, "max", "(II)I"⟩
abbrev cJ9_min_7cf53 : ByteArray := prog_10_method_69_code
def yJ9_min_7cf53 : MethodName := ⟨RJ9, "min", "(II)I"⟩
def RJ10 : String := "java/lang/System"
def TJ10 : u_T := fun k => match k with
  | _ => ("", "", "", false)
def tyJ10 : Nat → FieldType := fun k => match k with
  | _ => .int
abbrev wsJ100 : List Cond := u_ws RJ10 TJ10 0
theorem nmJ10 : ∀ a, a < 0 → ∀ b, b < 0 → a ≠ b → (TJ10 a).2.1 ≠ (TJ10 b).2.1 := by decide +kernel
theorem tyJ10_ok : ∀ k, k < 0 → parseFieldDescriptor (TJ10 k).2.2.1 = some (tyJ10 k) := by decide +kernel
def RJ7 : String := "java/util/Arrays"
def TJ7 : u_T := fun k => match k with
  | _ => ("", "", "", false)
def tyJ7 : Nat → FieldType := fun k => match k with
  | _ => .int
abbrev wsJ70 : List Cond := u_ws RJ7 TJ7 0
theorem nmJ7 : ∀ a, a < 0 → ∀ b, b < 0 → a ≠ b → (TJ7 a).2.1 ≠ (TJ7 b).2.1 := by decide +kernel
theorem tyJ7_ok : ∀ k, k < 0 → parseFieldDescriptor (TJ7 k).2.2.1 = some (tyJ7 k) := by decide +kernel
abbrev cJ7_fill_53178 : ByteArray := prog_12_method_103_code
def yJ7_fill_53178 : MethodName := ⟨RJ7, "fill", "([II)V"⟩
def RL : String := "InterestNetLaw"
abbrev cL_law : ByteArray := code
def yL_law : MethodName := ⟨RL, "law", "([I)Z"⟩
def wsX5_put : List Cond := .code yX5_put cX5_put 3 none :: ([])
def wsX1_init : List Cond := .code yX1_init cX1_init 1 none :: ([.methodLink RX1 3 objectInit, .instanceMethod objectInit, .code objectInit ⟨#[0xb1]⟩ 1 none, .arrayClass .int, .fieldLink RX1 9 "InterestNet$Net" "numbers" "[I", .fieldLink RX1 15 "InterestNet$Net" "energies" "[I", .fieldLink RX1 18 "InterestNet$Net" "links" "[I", .fieldLink RX1 21 "InterestNet$Net" "sensors" "[I", .fieldLink RX1 24 "InterestNet$Net" "interests" "[I", .fieldLink RX1 27 "InterestNet$Net" "wayLengths" "[I", .fieldLink RX1 30 "InterestNet$Net" "wayNodes" "[I", .static yX5_put, .initialized RX5, .code yX5_put cX5_put 3 none] ++ wsX10)
def wsX0_init : List Cond := .code yX0_init cX0_init 2 none :: ([.methodLink RX0 3 objectInit, .instanceMethod objectInit, .code objectInit ⟨#[0xb1]⟩ 1 none, .classLink RX0 9 RX1, .fieldLink RX0 11 "InterestNet$History" "states" "[LInterestNet$Net;", .instantiable RX1 7, .initialized RX1, .methodLink RX0 17 yX1_init, .instanceMethod yX1_init, .code yX1_init cX1_init 1 none, .methodLink RX1 3 objectInit, .arrayClass .int, .fieldLink RX1 9 "InterestNet$Net" "numbers" "[I", .fieldLink RX1 15 "InterestNet$Net" "energies" "[I", .fieldLink RX1 18 "InterestNet$Net" "links" "[I", .fieldLink RX1 21 "InterestNet$Net" "sensors" "[I", .fieldLink RX1 24 "InterestNet$Net" "interests" "[I", .fieldLink RX1 27 "InterestNet$Net" "wayLengths" "[I", .fieldLink RX1 30 "InterestNet$Net" "wayNodes" "[I", .static yX5_put, .initialized RX5, .code yX5_put cX5_put 3 none] ++ wsX00 ++ wsX10)
def wsX0_stateAt : List Cond := .code yX0_stateAt cX0_stateAt 3 (some (.object "InterestNet$Net")) :: ([.fieldLink RX0 22 "InterestNet$History" "oldest" "I", .fieldLink RX0 11 "InterestNet$History" "states" "[LInterestNet$Net;"] ++ wsX00)
def wsX5_copy : List Cond := .code yX5_copy cX5_copy 2 none :: ([.methodLink RX5 195 Lib.Math.min.name, .static Lib.Math.min.name, .initialized "java/lang/Math", .code Lib.Math.min.name Lib.Math.min.code 2 (some .int), .methodLink RX5 200 arraycopyName, .native arraycopyName, .static arraycopyName, .initialized "java/lang/System"])
def wsX1_copyFrom : List Cond := .code yX1_copyFrom cX1_copyFrom 2 none :: ([.fieldLink RX1 9 "InterestNet$Net" "numbers" "[I", .fieldLink RX1 15 "InterestNet$Net" "energies" "[I", .fieldLink RX1 18 "InterestNet$Net" "links" "[I", .fieldLink RX1 21 "InterestNet$Net" "sensors" "[I", .fieldLink RX1 24 "InterestNet$Net" "interests" "[I", .fieldLink RX1 27 "InterestNet$Net" "wayLengths" "[I", .fieldLink RX1 30 "InterestNet$Net" "wayNodes" "[I", .static yX5_copy, .initialized RX5, .code yX5_copy cX5_copy 2 none, .methodLink RX5 195 Lib.Math.min.name, .static Lib.Math.min.name, .initialized "java/lang/Math", .code Lib.Math.min.name Lib.Math.min.code 2 (some .int), .methodLink RX5 200 arraycopyName, .native arraycopyName, .static arraycopyName, .initialized "java/lang/System"] ++ wsX10)
def wsX0_record_r1 : List Cond := [Cond.fieldLink RX0 18 "InterestNet$History" "size" "I", Cond.fieldLink RX0 22 "InterestNet$History" "oldest" "I", Cond.methodLink RX0 25 yX0_stateAt, Cond.instanceMethod yX0_stateAt, Cond.selects RX0 yX0_stateAt yX0_stateAt, Cond.initialized RX0, Cond.code yX0_stateAt cX0_stateAt 3 (some (.object "InterestNet$Net")), Cond.fieldLink RX0 11 "InterestNet$History" "states" "[LInterestNet$Net;", Cond.methodLink RX0 29 yX1_copyFrom, Cond.instanceMethod yX1_copyFrom, Cond.selects RX1 yX1_copyFrom yX1_copyFrom, Cond.initialized RX1, Cond.code yX1_copyFrom cX1_copyFrom 2 none, Cond.fieldLink RX1 9 "InterestNet$Net" "numbers" "[I", Cond.fieldLink RX1 15 "InterestNet$Net" "energies" "[I", Cond.fieldLink RX1 18 "InterestNet$Net" "links" "[I", Cond.fieldLink RX1 21 "InterestNet$Net" "sensors" "[I", Cond.fieldLink RX1 24 "InterestNet$Net" "interests" "[I", Cond.fieldLink RX1 27 "InterestNet$Net" "wayLengths" "[I", Cond.fieldLink RX1 30 "InterestNet$Net" "wayNodes" "[I", Cond.static yX5_copy, Cond.initialized RX5, Cond.code yX5_copy cX5_copy 2 none, Cond.methodLink RX5 195 Lib.Math.min.name]
def wsX0_record_r2 : List Cond := [Cond.static Lib.Math.min.name, Cond.initialized "java/lang/Math", Cond.code Lib.Math.min.name Lib.Math.min.code 2 (some .int), Cond.methodLink RX5 200 arraycopyName, Cond.native arraycopyName, Cond.static arraycopyName, Cond.initialized "java/lang/System"]
def wsX0_record : List Cond := .code yX0_record cX0_record 3 none :: ((wsX0_record_r1 ++ wsX0_record_r2) ++ wsX00 ++ wsX10)
def wsX0_restore_r1 : List Cond := [Cond.fieldLink RX0 18 "InterestNet$History" "size" "I", Cond.methodLink RX0 25 yX0_stateAt, Cond.instanceMethod yX0_stateAt, Cond.selects RX0 yX0_stateAt yX0_stateAt, Cond.initialized RX0, Cond.code yX0_stateAt cX0_stateAt 3 (some (.object "InterestNet$Net")), Cond.fieldLink RX0 22 "InterestNet$History" "oldest" "I", Cond.fieldLink RX0 11 "InterestNet$History" "states" "[LInterestNet$Net;", Cond.methodLink RX0 29 yX1_copyFrom, Cond.instanceMethod yX1_copyFrom, Cond.selects RX1 yX1_copyFrom yX1_copyFrom, Cond.initialized RX1, Cond.code yX1_copyFrom cX1_copyFrom 2 none, Cond.fieldLink RX1 9 "InterestNet$Net" "numbers" "[I", Cond.fieldLink RX1 15 "InterestNet$Net" "energies" "[I", Cond.fieldLink RX1 18 "InterestNet$Net" "links" "[I", Cond.fieldLink RX1 21 "InterestNet$Net" "sensors" "[I", Cond.fieldLink RX1 24 "InterestNet$Net" "interests" "[I", Cond.fieldLink RX1 27 "InterestNet$Net" "wayLengths" "[I", Cond.fieldLink RX1 30 "InterestNet$Net" "wayNodes" "[I", Cond.static yX5_copy, Cond.initialized RX5, Cond.code yX5_copy cX5_copy 2 none, Cond.methodLink RX5 195 Lib.Math.min.name]
def wsX0_restore_r2 : List Cond := [Cond.static Lib.Math.min.name, Cond.initialized "java/lang/Math", Cond.code Lib.Math.min.name Lib.Math.min.code 2 (some .int), Cond.methodLink RX5 200 arraycopyName, Cond.native arraycopyName, Cond.static arraycopyName, Cond.initialized "java/lang/System"]
def wsX0_restore : List Cond := .code yX0_restore cX0_restore 3 (some .boolean) :: ((wsX0_restore_r1 ++ wsX0_restore_r2) ++ wsX00 ++ wsX10)
def wsX5_at : List Cond := .code yX5_at cX5_at 2 (some .int) :: ([])
def wsX1_aliveNodes : List Cond := .code yX1_aliveNodes cX1_aliveNodes 3 (some .int) :: ([.fieldLink RX1 9 "InterestNet$Net" "numbers" "[I", .fieldLink RX1 15 "InterestNet$Net" "energies" "[I", .static yX5_at, .initialized RX5, .code yX5_at cX5_at 2 (some .int)] ++ wsX10)
def wsJ6_bitCount_0f7a4 : List Cond := .code yJ6_bitCount_0f7a4 cJ6_bitCount_0f7a4 1 (some .int) :: ([.constant RJ6 265 (1431655765), .constant RJ6 266 (858993459), .constant RJ6 267 (252645135)])
def wsX1_number : List Cond := .code yX1_number cX1_number 2 (some .int) :: ([.fieldLink RX1 9 "InterestNet$Net" "numbers" "[I", .methodLink RX1 41 yX1_aliveNodes, .instanceMethod yX1_aliveNodes, .selects RX1 yX1_aliveNodes yX1_aliveNodes, .initialized RX1, .code yX1_aliveNodes cX1_aliveNodes 3 (some .int), .fieldLink RX1 15 "InterestNet$Net" "energies" "[I", .static yX5_at, .initialized RX5, .code yX5_at cX5_at 2 (some .int), .methodLink RX1 45 yJ6_bitCount_0f7a4, .static yJ6_bitCount_0f7a4, .initialized RJ6, .code yJ6_bitCount_0f7a4 cJ6_bitCount_0f7a4 1 (some .int), .constant RJ6 265 (1431655765), .constant RJ6 266 (858993459), .constant RJ6 267 (252645135)] ++ wsX10)
def wsX1_setNumber : List Cond := .code yX1_setNumber cX1_setNumber 3 none :: ([.fieldLink RX1 9 "InterestNet$Net" "numbers" "[I", .static yX5_put, .initialized RX5, .code yX5_put cX5_put 3 none] ++ wsX10)
def wsX5_increase : List Cond := .code yX5_increase cX5_increase 3 none :: ([.methodLink RX5 187 yX5_at, .static yX5_at, .initialized RX5, .code yX5_at cX5_at 2 (some .int), .methodLink RX5 191 yX5_put, .static yX5_put, .code yX5_put cX5_put 3 none])
def wsX1_raise : List Cond := .code yX1_raise cX1_raise 3 none :: ([.fieldLink RX1 9 "InterestNet$Net" "numbers" "[I", .static yX5_increase, .initialized RX5, .code yX5_increase cX5_increase 3 none, .methodLink RX5 187 yX5_at, .static yX5_at, .code yX5_at cX5_at 2 (some .int), .methodLink RX5 191 yX5_put, .static yX5_put, .code yX5_put cX5_put 3 none] ++ wsX10)
def wsX1_has : List Cond := .code yX1_has cX1_has 3 (some .boolean) :: ([.fieldLink RX1 9 "InterestNet$Net" "numbers" "[I", .static yX5_at, .initialized RX5, .code yX5_at cX5_at 2 (some .int)] ++ wsX10)
def wsX1_energyOf : List Cond := .code yX1_energyOf cX1_energyOf 2 (some .int) :: ([.fieldLink RX1 15 "InterestNet$Net" "energies" "[I", .static yX5_at, .initialized RX5, .code yX5_at cX5_at 2 (some .int)] ++ wsX10)
def wsX1_setEnergy : List Cond := .code yX1_setEnergy cX1_setEnergy 3 none :: ([.fieldLink RX1 15 "InterestNet$Net" "energies" "[I", .static yX5_put, .initialized RX5, .code yX5_put cX5_put 3 none] ++ wsX10)
def wsX1_spend : List Cond := .code yX1_spend cX1_spend 4 none :: ([.fieldLink RX1 15 "InterestNet$Net" "energies" "[I", .methodLink RX1 58 Lib.Math.min.name, .static Lib.Math.min.name, .initialized "java/lang/Math", .code Lib.Math.min.name Lib.Math.min.code 2 (some .int), .fieldLink RX1 9 "InterestNet$Net" "numbers" "[I", .static yX5_at, .initialized RX5, .code yX5_at cX5_at 2 (some .int), .static yX5_increase, .code yX5_increase cX5_increase 3 none, .methodLink RX5 187 yX5_at, .methodLink RX5 191 yX5_put, .static yX5_put, .code yX5_put cX5_put 3 none] ++ wsX10)
def wsX1_appendNode : List Cond := .code yX1_appendNode cX1_appendNode 3 (some .int) :: ([.fieldLink RX1 9 "InterestNet$Net" "numbers" "[I", .fieldLink RX1 15 "InterestNet$Net" "energies" "[I", .static yX5_at, .initialized RX5, .code yX5_at cX5_at 2 (some .int), .static yX5_put, .code yX5_put cX5_put 3 none] ++ wsX10)
def wsX1_appendLink : List Cond := .code yX1_appendLink cX1_appendLink 5 (some .int) :: ([.fieldLink RX1 9 "InterestNet$Net" "numbers" "[I", .fieldLink RX1 18 "InterestNet$Net" "links" "[I", .static yX5_at, .initialized RX5, .code yX5_at cX5_at 2 (some .int), .static yX5_put, .code yX5_put cX5_put 3 none] ++ wsX10)
def wsX5_removePiece : List Cond := .code yX5_removePiece cX5_removePiece 4 none :: ([.methodLink RX5 187 yX5_at, .static yX5_at, .initialized RX5, .code yX5_at cX5_at 2 (some .int), .methodLink RX5 191 yX5_put, .static yX5_put, .code yX5_put cX5_put 3 none])
def wsX1_removeLink : List Cond := .code yX1_removeLink cX1_removeLink 2 (some .int) :: ([.fieldLink RX1 18 "InterestNet$Net" "links" "[I", .fieldLink RX1 9 "InterestNet$Net" "numbers" "[I", .static yX5_removePiece, .initialized RX5, .code yX5_removePiece cX5_removePiece 4 none, .methodLink RX5 187 yX5_at, .static yX5_at, .code yX5_at cX5_at 2 (some .int), .methodLink RX5 191 yX5_put, .static yX5_put, .code yX5_put cX5_put 3 none, .static yX5_increase, .code yX5_increase cX5_increase 3 none] ++ wsX10)
def wsX1_partOfLink : List Cond := .code yX1_partOfLink cX1_partOfLink 3 (some .int) :: ([.fieldLink RX1 18 "InterestNet$Net" "links" "[I", .static yX5_at, .initialized RX5, .code yX5_at cX5_at 2 (some .int)] ++ wsX10)
def wsX1_isPair : List Cond := .code yX1_isPair cX1_isPair 4 (some .boolean) :: ([])
def wsX1_areLinked : List Cond := .code yX1_areLinked cX1_areLinked 4 (some .boolean) :: ([.fieldLink RX1 9 "InterestNet$Net" "numbers" "[I", .static yX5_at, .initialized RX5, .code yX5_at cX5_at 2 (some .int), .methodLink RX1 67 yX1_partOfLink, .instanceMethod yX1_partOfLink, .selects RX1 yX1_partOfLink yX1_partOfLink, .initialized RX1, .code yX1_partOfLink cX1_partOfLink 3 (some .int), .fieldLink RX1 18 "InterestNet$Net" "links" "[I", .methodLink RX1 70 yX1_isPair, .static yX1_isPair, .code yX1_isPair cX1_isPair 4 (some .boolean)] ++ wsX10)
def wsX1_appendSensor : List Cond := .code yX1_appendSensor cX1_appendSensor 5 (some .int) :: ([.fieldLink RX1 9 "InterestNet$Net" "numbers" "[I", .fieldLink RX1 21 "InterestNet$Net" "sensors" "[I", .static yX5_at, .initialized RX5, .code yX5_at cX5_at 2 (some .int), .static yX5_put, .code yX5_put cX5_put 3 none] ++ wsX10)
def wsX1_sensorPart : List Cond := .code yX1_sensorPart cX1_sensorPart 3 (some .int) :: ([.fieldLink RX1 21 "InterestNet$Net" "sensors" "[I", .static yX5_at, .initialized RX5, .code yX5_at cX5_at 2 (some .int)] ++ wsX10)
def wsX1_setValue : List Cond := .code yX1_setValue cX1_setValue 3 none :: ([.fieldLink RX1 21 "InterestNet$Net" "sensors" "[I", .static yX5_put, .initialized RX5, .code yX5_put cX5_put 3 none] ++ wsX10)
def wsX5_wayOf : List Cond := .code yX5_wayOf cX5_wayOf 2 (some .int) :: ([])
def wsX1_appendInterest : List Cond := .code yX1_appendInterest cX1_appendInterest 8 (some .int) :: ([.fieldLink RX1 9 "InterestNet$Net" "numbers" "[I", .fieldLink RX1 24 "InterestNet$Net" "interests" "[I", .fieldLink RX1 27 "InterestNet$Net" "wayLengths" "[I", .static yX5_at, .initialized RX5, .code yX5_at cX5_at 2 (some .int), .static yX5_put, .code yX5_put cX5_put 3 none, .static yX5_wayOf, .code yX5_wayOf cX5_wayOf 2 (some .int)] ++ wsX10)
def wsX1_removeInterest : List Cond := .code yX1_removeInterest cX1_removeInterest 2 none :: ([.fieldLink RX1 24 "InterestNet$Net" "interests" "[I", .fieldLink RX1 27 "InterestNet$Net" "wayLengths" "[I", .fieldLink RX1 30 "InterestNet$Net" "wayNodes" "[I", .fieldLink RX1 9 "InterestNet$Net" "numbers" "[I", .static yX5_removePiece, .initialized RX5, .code yX5_removePiece cX5_removePiece 4 none, .methodLink RX5 187 yX5_at, .static yX5_at, .code yX5_at cX5_at 2 (some .int), .methodLink RX5 191 yX5_put, .static yX5_put, .code yX5_put cX5_put 3 none, .static yX5_increase, .code yX5_increase cX5_increase 3 none] ++ wsX10)
def wsX1_waysOf : List Cond := .code yX1_waysOf cX1_waysOf 4 (some .int) :: ([.fieldLink RX1 9 "InterestNet$Net" "numbers" "[I", .fieldLink RX1 27 "InterestNet$Net" "wayLengths" "[I", .static yX5_at, .initialized RX5, .code yX5_at cX5_at 2 (some .int), .static yX5_wayOf, .code yX5_wayOf cX5_wayOf 2 (some .int)] ++ wsX10)
def wsX1_interestPart : List Cond := .code yX1_interestPart cX1_interestPart 3 (some .int) :: ([.fieldLink RX1 24 "InterestNet$Net" "interests" "[I", .methodLink RX1 84 yX1_waysOf, .instanceMethod yX1_waysOf, .selects RX1 yX1_waysOf yX1_waysOf, .initialized RX1, .code yX1_waysOf cX1_waysOf 4 (some .int), .fieldLink RX1 9 "InterestNet$Net" "numbers" "[I", .fieldLink RX1 27 "InterestNet$Net" "wayLengths" "[I", .static yX5_at, .initialized RX5, .code yX5_at cX5_at 2 (some .int), .static yX5_wayOf, .code yX5_wayOf cX5_wayOf 2 (some .int)] ++ wsX10)
def wsX1_endInterests_r1 : List Cond := [Cond.fieldLink RX1 9 "InterestNet$Net" "numbers" "[I", Cond.static yX5_at, Cond.initialized RX5, Cond.code yX5_at cX5_at 2 (some .int), Cond.methodLink RX1 77 yX1_interestPart, Cond.instanceMethod yX1_interestPart, Cond.selects RX1 yX1_interestPart yX1_interestPart, Cond.initialized RX1, Cond.code yX1_interestPart cX1_interestPart 3 (some .int), Cond.fieldLink RX1 24 "InterestNet$Net" "interests" "[I", Cond.methodLink RX1 84 yX1_waysOf, Cond.instanceMethod yX1_waysOf, Cond.selects RX1 yX1_waysOf yX1_waysOf, Cond.code yX1_waysOf cX1_waysOf 4 (some .int), Cond.fieldLink RX1 27 "InterestNet$Net" "wayLengths" "[I", Cond.static yX5_wayOf, Cond.code yX5_wayOf cX5_wayOf 2 (some .int), Cond.methodLink RX1 80 yX1_removeInterest, Cond.instanceMethod yX1_removeInterest, Cond.selects RX1 yX1_removeInterest yX1_removeInterest, Cond.code yX1_removeInterest cX1_removeInterest 2 none, Cond.fieldLink RX1 30 "InterestNet$Net" "wayNodes" "[I", Cond.static yX5_removePiece, Cond.code yX5_removePiece cX5_removePiece 4 none]
def wsX1_endInterests_r2 : List Cond := [Cond.methodLink RX5 187 yX5_at, Cond.methodLink RX5 191 yX5_put, Cond.static yX5_put, Cond.code yX5_put cX5_put 3 none, Cond.static yX5_increase, Cond.code yX5_increase cX5_increase 3 none]
def wsX1_endInterests : List Cond := .code yX1_endInterests cX1_endInterests 2 none :: ((wsX1_endInterests_r1 ++ wsX1_endInterests_r2) ++ wsX10)
def wsX1_deliver : List Cond := .code yX1_deliver cX1_deliver 3 none :: ([.fieldLink RX1 24 "InterestNet$Net" "interests" "[I", .static yX5_increase, .initialized RX5, .code yX5_increase cX5_increase 3 none, .methodLink RX5 187 yX5_at, .static yX5_at, .code yX5_at cX5_at 2 (some .int), .methodLink RX5 191 yX5_put, .static yX5_put, .code yX5_put cX5_put 3 none] ++ wsX10)
def wsX5_isWithin : List Cond := .code yX5_isWithin cX5_isWithin 3 (some .boolean) :: ([])
def wsX1_matches : List Cond := .code yX1_matches cX1_matches 3 (some .boolean) :: ([.methodLink RX1 87 yX1_sensorPart, .instanceMethod yX1_sensorPart, .selects RX1 yX1_sensorPart yX1_sensorPart, .initialized RX1, .code yX1_sensorPart cX1_sensorPart 3 (some .int), .fieldLink RX1 21 "InterestNet$Net" "sensors" "[I", .static yX5_at, .initialized RX5, .code yX5_at cX5_at 2 (some .int), .methodLink RX1 77 yX1_interestPart, .instanceMethod yX1_interestPart, .selects RX1 yX1_interestPart yX1_interestPart, .code yX1_interestPart cX1_interestPart 3 (some .int), .fieldLink RX1 24 "InterestNet$Net" "interests" "[I", .methodLink RX1 84 yX1_waysOf, .instanceMethod yX1_waysOf, .selects RX1 yX1_waysOf yX1_waysOf, .code yX1_waysOf cX1_waysOf 4 (some .int), .fieldLink RX1 9 "InterestNet$Net" "numbers" "[I", .fieldLink RX1 27 "InterestNet$Net" "wayLengths" "[I", .static yX5_wayOf, .code yX5_wayOf cX5_wayOf 2 (some .int), .static yX5_isWithin, .code yX5_isWithin cX5_isWithin 3 (some .boolean)] ++ wsX10)
def wsX1_lengthOf : List Cond := .code yX1_lengthOf cX1_lengthOf 2 (some .int) :: ([.fieldLink RX1 27 "InterestNet$Net" "wayLengths" "[I", .static yX5_at, .initialized RX5, .code yX5_at cX5_at 2 (some .int)] ++ wsX10)
def wsX1_nodeOf : List Cond := .code yX1_nodeOf cX1_nodeOf 3 (some .int) :: ([.fieldLink RX1 30 "InterestNet$Net" "wayNodes" "[I", .static yX5_at, .initialized RX5, .code yX5_at cX5_at 2 (some .int)] ++ wsX10)
def wsX1_setWay : List Cond := .code yX1_setWay cX1_setWay 5 none :: ([.fieldLink RX1 27 "InterestNet$Net" "wayLengths" "[I", .fieldLink RX1 30 "InterestNet$Net" "wayNodes" "[I", .static yX5_put, .initialized RX5, .code yX5_put cX5_put 3 none, .static yX5_at, .code yX5_at cX5_at 2 (some .int)] ++ wsX10)
def wsX1_dropWay : List Cond := .code yX1_dropWay cX1_dropWay 2 none :: ([.fieldLink RX1 27 "InterestNet$Net" "wayLengths" "[I", .static yX5_put, .initialized RX5, .code yX5_put cX5_put 3 none] ++ wsX10)
def wsX1_goesOver : List Cond := .code yX1_goesOver cX1_goesOver 6 (some .boolean) :: ([.fieldLink RX1 27 "InterestNet$Net" "wayLengths" "[I", .fieldLink RX1 30 "InterestNet$Net" "wayNodes" "[I", .static yX5_at, .initialized RX5, .code yX5_at cX5_at 2 (some .int), .methodLink RX1 70 yX1_isPair, .static yX1_isPair, .initialized RX1, .code yX1_isPair cX1_isPair 4 (some .boolean)] ++ wsX10)
def wsX1_waysOver : List Cond := .code yX1_waysOver cX1_waysOver 6 (some .int) :: ([.fieldLink RX1 9 "InterestNet$Net" "numbers" "[I", .static yX5_at, .initialized RX5, .code yX5_at cX5_at 2 (some .int), .static yX5_wayOf, .code yX5_wayOf cX5_wayOf 2 (some .int), .methodLink RX1 94 yX1_goesOver, .instanceMethod yX1_goesOver, .selects RX1 yX1_goesOver yX1_goesOver, .initialized RX1, .code yX1_goesOver cX1_goesOver 6 (some .boolean), .fieldLink RX1 27 "InterestNet$Net" "wayLengths" "[I", .fieldLink RX1 30 "InterestNet$Net" "wayNodes" "[I", .methodLink RX1 70 yX1_isPair, .static yX1_isPair, .code yX1_isPair cX1_isPair 4 (some .boolean)] ++ wsX10)
def wsX5_hashOf : List Cond := .code yX5_hashOf cX5_hashOf 8 (some .long) :: ([.constantLong RX5 206 (31), .methodLink RX5 187 yX5_at, .static yX5_at, .initialized RX5, .code yX5_at cX5_at 2 (some .int)])
def wsX1_hashOfWays : List Cond := .code yX1_hashOfWays cX1_hashOfWays 8 (some .long) :: ([.fieldLink RX1 9 "InterestNet$Net" "numbers" "[I", .constantLong RX1 99 (31), .fieldLink RX1 30 "InterestNet$Net" "wayNodes" "[I", .static yX5_at, .initialized RX5, .code yX5_at cX5_at 2 (some .int), .static yX5_wayOf, .code yX5_wayOf cX5_wayOf 2 (some .int), .methodLink RX1 112 yX1_lengthOf, .instanceMethod yX1_lengthOf, .selects RX1 yX1_lengthOf yX1_lengthOf, .initialized RX1, .code yX1_lengthOf cX1_lengthOf 2 (some .int), .fieldLink RX1 27 "InterestNet$Net" "wayLengths" "[I", .static yX5_hashOf, .code yX5_hashOf cX5_hashOf 8 (some .long), .constantLong RX5 206 (31), .methodLink RX5 187 yX5_at] ++ wsX10)
def wsX1_hash_r1 : List Cond := [Cond.constantLong RX1 97 (17), Cond.constantLong RX1 99 (31), Cond.fieldLink RX1 15 "InterestNet$Net" "energies" "[I", Cond.fieldLink RX1 9 "InterestNet$Net" "numbers" "[I", Cond.fieldLink RX1 18 "InterestNet$Net" "links" "[I", Cond.fieldLink RX1 21 "InterestNet$Net" "sensors" "[I", Cond.fieldLink RX1 24 "InterestNet$Net" "interests" "[I", Cond.methodLink RX1 101 yX1_number, Cond.instanceMethod yX1_number, Cond.selects RX1 yX1_number yX1_number, Cond.initialized RX1, Cond.code yX1_number cX1_number 2 (some .int), Cond.methodLink RX1 41 yX1_aliveNodes, Cond.instanceMethod yX1_aliveNodes, Cond.selects RX1 yX1_aliveNodes yX1_aliveNodes, Cond.code yX1_aliveNodes cX1_aliveNodes 3 (some .int), Cond.static yX5_at, Cond.initialized RX5, Cond.code yX5_at cX5_at 2 (some .int), Cond.methodLink RX1 45 yJ6_bitCount_0f7a4, Cond.static yJ6_bitCount_0f7a4, Cond.initialized RJ6, Cond.code yJ6_bitCount_0f7a4 cJ6_bitCount_0f7a4 1 (some .int), Cond.constant RJ6 265 (1431655765)]
def wsX1_hash_r2 : List Cond := [Cond.constant RJ6 266 (858993459), Cond.constant RJ6 267 (252645135), Cond.static yX5_hashOf, Cond.code yX5_hashOf cX5_hashOf 8 (some .long), Cond.constantLong RX5 206 (31), Cond.methodLink RX5 187 yX5_at, Cond.methodLink RX1 84 yX1_waysOf, Cond.instanceMethod yX1_waysOf, Cond.selects RX1 yX1_waysOf yX1_waysOf, Cond.code yX1_waysOf cX1_waysOf 4 (some .int), Cond.fieldLink RX1 27 "InterestNet$Net" "wayLengths" "[I", Cond.static yX5_wayOf, Cond.code yX5_wayOf cX5_wayOf 2 (some .int), Cond.methodLink RX1 108 yX1_hashOfWays, Cond.instanceMethod yX1_hashOfWays, Cond.selects RX1 yX1_hashOfWays yX1_hashOfWays, Cond.code yX1_hashOfWays cX1_hashOfWays 8 (some .long), Cond.fieldLink RX1 30 "InterestNet$Net" "wayNodes" "[I", Cond.methodLink RX1 112 yX1_lengthOf, Cond.instanceMethod yX1_lengthOf, Cond.selects RX1 yX1_lengthOf yX1_lengthOf, Cond.code yX1_lengthOf cX1_lengthOf 2 (some .int)]
def wsX1_hash : List Cond := .code yX1_hash cX1_hash 4 (some .long) :: ((wsX1_hash_r1 ++ wsX1_hash_r2) ++ wsX10)
def wsX2_init : List Cond := .code yX2_init cX2_init 1 none :: ([.methodLink RX2 3 objectInit, .instanceMethod objectInit, .code objectInit ⟨#[0xb1]⟩ 1 none, .arrayClass .int, .fieldLink RX2 9 "InterestNet$Paths" "delays" "[I", .fieldLink RX2 15 "InterestNet$Paths" "exploredAmong" "[I", .fieldLink RX2 18 "InterestNet$Paths" "reached" "[I", .fieldLink RX2 21 "InterestNet$Paths" "times" "[I", .fieldLink RX2 24 "InterestNet$Paths" "nodesBefore" "[I"] ++ wsX20)
def wsJ7_fill_53178 : List Cond := .code yJ7_fill_53178 cJ7_fill_53178 4 none :: ([])
def wsX2_learn_r1 : List Cond := [Cond.fieldLink RX2 9 "InterestNet$Paths" "delays" "[I", Cond.fieldLink RX2 15 "InterestNet$Paths" "exploredAmong" "[I", Cond.methodLink RX2 27 yJ7_fill_53178, Cond.static yJ7_fill_53178, Cond.initialized RJ7, Cond.code yJ7_fill_53178 cJ7_fill_53178 4 none, Cond.methodLink RX2 33 yX1_number, Cond.instanceMethod yX1_number, Cond.selects RX1 yX1_number yX1_number, Cond.initialized RX1, Cond.code yX1_number cX1_number 2 (some .int), Cond.fieldLink RX1 9 "InterestNet$Net" "numbers" "[I", Cond.methodLink RX1 41 yX1_aliveNodes, Cond.instanceMethod yX1_aliveNodes, Cond.selects RX1 yX1_aliveNodes yX1_aliveNodes, Cond.code yX1_aliveNodes cX1_aliveNodes 3 (some .int), Cond.fieldLink RX1 15 "InterestNet$Net" "energies" "[I", Cond.static yX5_at, Cond.initialized RX5, Cond.code yX5_at cX5_at 2 (some .int), Cond.methodLink RX1 45 yJ6_bitCount_0f7a4, Cond.static yJ6_bitCount_0f7a4, Cond.initialized RJ6, Cond.code yJ6_bitCount_0f7a4 cJ6_bitCount_0f7a4 1 (some .int)]
def wsX2_learn_r2 : List Cond := [Cond.constant RJ6 265 (1431655765), Cond.constant RJ6 266 (858993459), Cond.constant RJ6 267 (252645135), Cond.methodLink RX2 39 yX1_partOfLink, Cond.instanceMethod yX1_partOfLink, Cond.selects RX1 yX1_partOfLink yX1_partOfLink, Cond.code yX1_partOfLink cX1_partOfLink 3 (some .int), Cond.fieldLink RX1 18 "InterestNet$Net" "links" "[I", Cond.static yX5_put, Cond.code yX5_put cX5_put 3 none]
def wsX2_learn : List Cond := .code yX2_learn cX2_learn 5 none :: ((wsX2_learn_r1 ++ wsX2_learn_r2) ++ wsX20 ++ wsX10)
def wsX2_delayBetween : List Cond := .code yX2_delayBetween cX2_delayBetween 3 (some .int) :: ([.fieldLink RX2 9 "InterestNet$Paths" "delays" "[I", .static yX5_at, .initialized RX5, .code yX5_at cX5_at 2 (some .int)] ++ wsX20)
def wsX5_holds : List Cond := .code yX5_holds cX5_holds 2 (some .boolean) :: ([])
def wsX2_carry : List Cond := .code yX2_carry cX2_carry 7 (some .boolean) :: ([.methodLink RX2 51 yX1_lengthOf, .instanceMethod yX1_lengthOf, .selects RX1 yX1_lengthOf yX1_lengthOf, .initialized RX1, .code yX1_lengthOf cX1_lengthOf 2 (some .int), .fieldLink RX1 27 "InterestNet$Net" "wayLengths" "[I", .static yX5_at, .initialized RX5, .code yX5_at cX5_at 2 (some .int), .methodLink RX2 54 yX1_nodeOf, .instanceMethod yX1_nodeOf, .selects RX1 yX1_nodeOf yX1_nodeOf, .code yX1_nodeOf cX1_nodeOf 3 (some .int), .fieldLink RX1 30 "InterestNet$Net" "wayNodes" "[I", .static yX5_holds, .code yX5_holds cX5_holds 2 (some .boolean), .methodLink RX2 61 yX2_delayBetween, .instanceMethod yX2_delayBetween, .selects RX2 yX2_delayBetween yX2_delayBetween, .initialized RX2, .code yX2_delayBetween cX2_delayBetween 3 (some .int), .fieldLink RX2 9 "InterestNet$Paths" "delays" "[I"] ++ wsX10 ++ wsX20)
def wsX2_delayOf : List Cond := .code yX2_delayOf cX2_delayOf 5 (some .int) :: ([.methodLink RX2 51 yX1_lengthOf, .instanceMethod yX1_lengthOf, .selects RX1 yX1_lengthOf yX1_lengthOf, .initialized RX1, .code yX1_lengthOf cX1_lengthOf 2 (some .int), .fieldLink RX1 27 "InterestNet$Net" "wayLengths" "[I", .static yX5_at, .initialized RX5, .code yX5_at cX5_at 2 (some .int), .methodLink RX2 54 yX1_nodeOf, .instanceMethod yX1_nodeOf, .selects RX1 yX1_nodeOf yX1_nodeOf, .code yX1_nodeOf cX1_nodeOf 3 (some .int), .fieldLink RX1 30 "InterestNet$Net" "wayNodes" "[I", .methodLink RX2 61 yX2_delayBetween, .instanceMethod yX2_delayBetween, .selects RX2 yX2_delayBetween yX2_delayBetween, .initialized RX2, .code yX2_delayBetween cX2_delayBetween 3 (some .int), .fieldLink RX2 9 "InterestNet$Paths" "delays" "[I"] ++ wsX10 ++ wsX20)
def wsX2_findTimes : List Cond := .code yX2_findTimes cX2_findTimes 9 none :: ([.fieldLink RX2 21 "InterestNet$Paths" "times" "[I", .constant RX2 74 (1000000), .fieldLink RX2 9 "InterestNet$Paths" "delays" "[I", .static yX5_put, .initialized RX5, .code yX5_put cX5_put 3 none, .static yX5_at, .code yX5_at cX5_at 2 (some .int), .static yX5_holds, .code yX5_holds cX5_holds 2 (some .boolean)] ++ wsX20)
def wsX2_findNodeBefore : List Cond := .code yX2_findNodeBefore cX2_findNodeBefore 6 (some .int) :: ([.fieldLink RX2 9 "InterestNet$Paths" "delays" "[I", .fieldLink RX2 21 "InterestNet$Paths" "times" "[I", .static yX5_at, .initialized RX5, .code yX5_at cX5_at 2 (some .int)] ++ wsX20)
def wsX2_timeOf : List Cond := .code yX2_timeOf cX2_timeOf 3 (some .int) :: ([.fieldLink RX2 21 "InterestNet$Paths" "times" "[I", .static yX5_at, .initialized RX5, .code yX5_at cX5_at 2 (some .int)] ++ wsX20)
def wsX2_explore_r1 : List Cond := [Cond.fieldLink RX2 15 "InterestNet$Paths" "exploredAmong" "[I", Cond.fieldLink RX2 24 "InterestNet$Paths" "nodesBefore" "[I", Cond.constant RX2 74 (1000000), Cond.fieldLink RX2 18 "InterestNet$Paths" "reached" "[I", Cond.static yX5_at, Cond.initialized RX5, Cond.code yX5_at cX5_at 2 (some .int), Cond.static yX5_put, Cond.code yX5_put cX5_put 3 none, Cond.methodLink RX2 64 yX2_findTimes, Cond.instanceMethod yX2_findTimes, Cond.selects RX2 yX2_findTimes yX2_findTimes, Cond.initialized RX2, Cond.code yX2_findTimes cX2_findTimes 9 none, Cond.fieldLink RX2 21 "InterestNet$Paths" "times" "[I", Cond.fieldLink RX2 9 "InterestNet$Paths" "delays" "[I", Cond.static yX5_holds, Cond.code yX5_holds cX5_holds 2 (some .boolean), Cond.methodLink RX2 68 yX2_findNodeBefore, Cond.instanceMethod yX2_findNodeBefore, Cond.selects RX2 yX2_findNodeBefore yX2_findNodeBefore, Cond.code yX2_findNodeBefore cX2_findNodeBefore 6 (some .int), Cond.methodLink RX2 71 yX2_timeOf, Cond.instanceMethod yX2_timeOf]
def wsX2_explore_r2 : List Cond := [Cond.selects RX2 yX2_timeOf yX2_timeOf, Cond.code yX2_timeOf cX2_timeOf 3 (some .int)]
def wsX2_explore : List Cond := .code yX2_explore cX2_explore 5 none :: ((wsX2_explore_r1 ++ wsX2_explore_r2) ++ wsX20)
def wsX2_reachedFrom : List Cond := .code yX2_reachedFrom cX2_reachedFrom 2 (some .int) :: ([.fieldLink RX2 18 "InterestNet$Paths" "reached" "[I", .static yX5_at, .initialized RX5, .code yX5_at cX5_at 2 (some .int)] ++ wsX20)
def wsX2_nodeBefore : List Cond := .code yX2_nodeBefore cX2_nodeBefore 3 (some .int) :: ([.fieldLink RX2 24 "InterestNet$Paths" "nodesBefore" "[I", .static yX5_at, .initialized RX5, .code yX5_at cX5_at 2 (some .int)] ++ wsX20)
def wsX3_init_r1 : List Cond := [Cond.methodLink RX3 3 objectInit, Cond.instanceMethod objectInit, Cond.code objectInit ⟨#[0xb1]⟩ 1 none, Cond.classLink RX3 9 RX1, Cond.instantiable RX1 7, Cond.initialized RX1, Cond.fieldLink RX3 12 "InterestNet$Runner" "draft" "LInterestNet$Net;", Cond.classLink RX3 18 RX2, Cond.instantiable RX2 5, Cond.initialized RX2, Cond.fieldLink RX3 21 "InterestNet$Runner" "paths" "LInterestNet$Paths;", Cond.arrayClass .int, Cond.fieldLink RX3 25 "InterestNet$Runner" "newWay" "[I", Cond.fieldLink RX3 29 "InterestNet$Runner" "sentTo" "[I", Cond.methodLink RX3 11 yX1_init, Cond.instanceMethod yX1_init, Cond.code yX1_init cX1_init 1 none, Cond.methodLink RX1 3 objectInit, Cond.fieldLink RX1 9 "InterestNet$Net" "numbers" "[I", Cond.fieldLink RX1 15 "InterestNet$Net" "energies" "[I", Cond.fieldLink RX1 18 "InterestNet$Net" "links" "[I", Cond.fieldLink RX1 21 "InterestNet$Net" "sensors" "[I", Cond.fieldLink RX1 24 "InterestNet$Net" "interests" "[I", Cond.fieldLink RX1 27 "InterestNet$Net" "wayLengths" "[I"]
def wsX3_init_r2 : List Cond := [Cond.fieldLink RX1 30 "InterestNet$Net" "wayNodes" "[I", Cond.static yX5_put, Cond.initialized RX5, Cond.code yX5_put cX5_put 3 none, Cond.instanceMethod yX2_init, Cond.code yX2_init cX2_init 1 none, Cond.methodLink RX2 3 objectInit, Cond.fieldLink RX2 9 "InterestNet$Paths" "delays" "[I", Cond.fieldLink RX2 15 "InterestNet$Paths" "exploredAmong" "[I", Cond.fieldLink RX2 18 "InterestNet$Paths" "reached" "[I", Cond.fieldLink RX2 21 "InterestNet$Paths" "times" "[I", Cond.fieldLink RX2 24 "InterestNet$Paths" "nodesBefore" "[I"]
def wsX3_init : List Cond := .code yX3_init cX3_init 1 none :: ((wsX3_init_r1 ++ wsX3_init_r2) ++ wsX10 ++ wsX30 ++ wsX20)
def wsX3_start_r1 : List Cond := [Cond.fieldLink RX3 12 "InterestNet$Runner" "draft" "LInterestNet$Net;", Cond.fieldLink RX3 21 "InterestNet$Runner" "paths" "LInterestNet$Paths;", Cond.methodLink RX3 32 yX1_copyFrom, Cond.instanceMethod yX1_copyFrom, Cond.selects RX1 yX1_copyFrom yX1_copyFrom, Cond.initialized RX1, Cond.code yX1_copyFrom cX1_copyFrom 2 none, Cond.fieldLink RX1 9 "InterestNet$Net" "numbers" "[I", Cond.fieldLink RX1 15 "InterestNet$Net" "energies" "[I", Cond.fieldLink RX1 18 "InterestNet$Net" "links" "[I", Cond.fieldLink RX1 21 "InterestNet$Net" "sensors" "[I", Cond.fieldLink RX1 24 "InterestNet$Net" "interests" "[I", Cond.fieldLink RX1 27 "InterestNet$Net" "wayLengths" "[I", Cond.fieldLink RX1 30 "InterestNet$Net" "wayNodes" "[I", Cond.static yX5_copy, Cond.initialized RX5, Cond.code yX5_copy cX5_copy 2 none, Cond.methodLink RX5 195 Lib.Math.min.name, Cond.static Lib.Math.min.name, Cond.initialized "java/lang/Math", Cond.code Lib.Math.min.name Lib.Math.min.code 2 (some .int), Cond.methodLink RX5 200 arraycopyName, Cond.native arraycopyName, Cond.static arraycopyName]
def wsX3_start_r2 : List Cond := [Cond.initialized "java/lang/System", Cond.methodLink RX3 36 yX2_learn, Cond.instanceMethod yX2_learn, Cond.selects RX2 yX2_learn yX2_learn, Cond.initialized RX2, Cond.code yX2_learn cX2_learn 5 none, Cond.fieldLink RX2 9 "InterestNet$Paths" "delays" "[I", Cond.fieldLink RX2 15 "InterestNet$Paths" "exploredAmong" "[I", Cond.methodLink RX2 27 yJ7_fill_53178, Cond.static yJ7_fill_53178, Cond.initialized RJ7, Cond.code yJ7_fill_53178 cJ7_fill_53178 4 none, Cond.methodLink RX2 33 yX1_number, Cond.instanceMethod yX1_number, Cond.selects RX1 yX1_number yX1_number, Cond.code yX1_number cX1_number 2 (some .int), Cond.methodLink RX1 41 yX1_aliveNodes, Cond.instanceMethod yX1_aliveNodes, Cond.selects RX1 yX1_aliveNodes yX1_aliveNodes, Cond.code yX1_aliveNodes cX1_aliveNodes 3 (some .int), Cond.static yX5_at, Cond.code yX5_at cX5_at 2 (some .int), Cond.methodLink RX1 45 yJ6_bitCount_0f7a4, Cond.static yJ6_bitCount_0f7a4]
def wsX3_start_r3 : List Cond := [Cond.initialized RJ6, Cond.code yJ6_bitCount_0f7a4 cJ6_bitCount_0f7a4 1 (some .int), Cond.constant RJ6 265 (1431655765), Cond.constant RJ6 266 (858993459), Cond.constant RJ6 267 (252645135), Cond.methodLink RX2 39 yX1_partOfLink, Cond.instanceMethod yX1_partOfLink, Cond.selects RX1 yX1_partOfLink yX1_partOfLink, Cond.code yX1_partOfLink cX1_partOfLink 3 (some .int), Cond.static yX5_put, Cond.code yX5_put cX5_put 3 none]
def wsX3_start : List Cond := .code yX3_start cX3_start 2 none :: ((wsX3_start_r1 ++ (wsX3_start_r2 ++ wsX3_start_r3)) ++ wsX30 ++ wsX10 ++ wsX20)
def wsX3_isExploringRound : List Cond := .code yX3_isExploringRound cX3_isExploringRound 2 (some .boolean) :: ([.fieldLink RX3 12 "InterestNet$Runner" "draft" "LInterestNet$Net;", .methodLink RX3 48 yX1_number, .instanceMethod yX1_number, .selects RX1 yX1_number yX1_number, .initialized RX1, .code yX1_number cX1_number 2 (some .int), .fieldLink RX1 9 "InterestNet$Net" "numbers" "[I", .methodLink RX1 41 yX1_aliveNodes, .instanceMethod yX1_aliveNodes, .selects RX1 yX1_aliveNodes yX1_aliveNodes, .code yX1_aliveNodes cX1_aliveNodes 3 (some .int), .fieldLink RX1 15 "InterestNet$Net" "energies" "[I", .static yX5_at, .initialized RX5, .code yX5_at cX5_at 2 (some .int), .methodLink RX1 45 yJ6_bitCount_0f7a4, .static yJ6_bitCount_0f7a4, .initialized RJ6, .code yJ6_bitCount_0f7a4 cJ6_bitCount_0f7a4 1 (some .int), .constant RJ6 265 (1431655765), .constant RJ6 266 (858993459), .constant RJ6 267 (252645135)] ++ wsX30 ++ wsX10)
def wsX3_traceBack : List Cond := .code yX3_traceBack cX3_traceBack 5 (some .int) :: ([.fieldLink RX3 25 "InterestNet$Runner" "newWay" "[I", .fieldLink RX3 21 "InterestNet$Runner" "paths" "LInterestNet$Paths;", .static yX5_put, .initialized RX5, .code yX5_put cX5_put 3 none, .methodLink RX3 137 yX2_nodeBefore, .instanceMethod yX2_nodeBefore, .selects RX2 yX2_nodeBefore yX2_nodeBefore, .initialized RX2, .code yX2_nodeBefore cX2_nodeBefore 3 (some .int), .fieldLink RX2 24 "InterestNet$Paths" "nodesBefore" "[I", .static yX5_at, .code yX5_at cX5_at 2 (some .int)] ++ wsX30 ++ wsX20)
def wsX3_keptLinks : List Cond := .code yX3_keptLinks cX3_keptLinks 5 (some .int) :: ([.fieldLink RX3 12 "InterestNet$Runner" "draft" "LInterestNet$Net;", .fieldLink RX3 25 "InterestNet$Runner" "newWay" "[I", .static yX5_at, .initialized RX5, .code yX5_at cX5_at 2 (some .int), .methodLink RX3 144 yX1_goesOver, .instanceMethod yX1_goesOver, .selects RX1 yX1_goesOver yX1_goesOver, .initialized RX1, .code yX1_goesOver cX1_goesOver 6 (some .boolean), .fieldLink RX1 27 "InterestNet$Net" "wayLengths" "[I", .fieldLink RX1 30 "InterestNet$Net" "wayNodes" "[I", .methodLink RX1 70 yX1_isPair, .static yX1_isPair, .code yX1_isPair cX1_isPair 4 (some .boolean)] ++ wsX30 ++ wsX10)
def wsX3_exploreWay_r1 : List Cond := [Cond.fieldLink RX3 21 "InterestNet$Runner" "paths" "LInterestNet$Paths;", Cond.fieldLink RX3 12 "InterestNet$Runner" "draft" "LInterestNet$Net;", Cond.methodLink RX3 124 Lib.Math.max.name, Cond.static Lib.Math.max.name, Cond.initialized "java/lang/Math", Cond.code Lib.Math.max.name Lib.Math.max.code 2 (some .int), Cond.fieldLink RX3 25 "InterestNet$Runner" "newWay" "[I", Cond.methodLink RX3 109 yX2_explore, Cond.instanceMethod yX2_explore, Cond.selects RX2 yX2_explore yX2_explore, Cond.initialized RX2, Cond.code yX2_explore cX2_explore 5 none, Cond.fieldLink RX2 15 "InterestNet$Paths" "exploredAmong" "[I", Cond.fieldLink RX2 24 "InterestNet$Paths" "nodesBefore" "[I", Cond.constant RX2 74 (1000000), Cond.fieldLink RX2 18 "InterestNet$Paths" "reached" "[I", Cond.static yX5_at, Cond.initialized RX5, Cond.code yX5_at cX5_at 2 (some .int), Cond.static yX5_put, Cond.code yX5_put cX5_put 3 none, Cond.methodLink RX2 64 yX2_findTimes, Cond.instanceMethod yX2_findTimes, Cond.selects RX2 yX2_findTimes yX2_findTimes]
def wsX3_exploreWay_r2 : List Cond := [Cond.code yX2_findTimes cX2_findTimes 9 none, Cond.fieldLink RX2 21 "InterestNet$Paths" "times" "[I", Cond.fieldLink RX2 9 "InterestNet$Paths" "delays" "[I", Cond.static yX5_holds, Cond.code yX5_holds cX5_holds 2 (some .boolean), Cond.methodLink RX2 68 yX2_findNodeBefore, Cond.instanceMethod yX2_findNodeBefore, Cond.selects RX2 yX2_findNodeBefore yX2_findNodeBefore, Cond.code yX2_findNodeBefore cX2_findNodeBefore 6 (some .int), Cond.methodLink RX2 71 yX2_timeOf, Cond.instanceMethod yX2_timeOf, Cond.selects RX2 yX2_timeOf yX2_timeOf, Cond.code yX2_timeOf cX2_timeOf 3 (some .int), Cond.methodLink RX3 112 yX2_reachedFrom, Cond.instanceMethod yX2_reachedFrom, Cond.selects RX2 yX2_reachedFrom yX2_reachedFrom, Cond.code yX2_reachedFrom cX2_reachedFrom 2 (some .int), Cond.methodLink RX3 115 yX1_spend, Cond.instanceMethod yX1_spend, Cond.selects RX1 yX1_spend yX1_spend, Cond.initialized RX1, Cond.code yX1_spend cX1_spend 4 none, Cond.fieldLink RX1 15 "InterestNet$Net" "energies" "[I", Cond.methodLink RX1 58 Lib.Math.min.name]
def wsX3_exploreWay_r3 : List Cond := [Cond.static Lib.Math.min.name, Cond.code Lib.Math.min.name Lib.Math.min.code 2 (some .int), Cond.fieldLink RX1 9 "InterestNet$Net" "numbers" "[I", Cond.static yX5_increase, Cond.code yX5_increase cX5_increase 3 none, Cond.methodLink RX5 187 yX5_at, Cond.methodLink RX5 191 yX5_put, Cond.methodLink RX3 118 yX3_traceBack, Cond.instanceMethod yX3_traceBack, Cond.selects RX3 yX3_traceBack yX3_traceBack, Cond.initialized RX3, Cond.code yX3_traceBack cX3_traceBack 5 (some .int), Cond.methodLink RX3 137 yX2_nodeBefore, Cond.instanceMethod yX2_nodeBefore, Cond.selects RX2 yX2_nodeBefore yX2_nodeBefore, Cond.code yX2_nodeBefore cX2_nodeBefore 3 (some .int), Cond.methodLink RX3 121 yX3_keptLinks, Cond.instanceMethod yX3_keptLinks, Cond.selects RX3 yX3_keptLinks yX3_keptLinks, Cond.code yX3_keptLinks cX3_keptLinks 5 (some .int), Cond.methodLink RX3 144 yX1_goesOver, Cond.instanceMethod yX1_goesOver, Cond.selects RX1 yX1_goesOver yX1_goesOver, Cond.code yX1_goesOver cX1_goesOver 6 (some .boolean)]
def wsX3_exploreWay_r4 : List Cond := [Cond.fieldLink RX1 27 "InterestNet$Net" "wayLengths" "[I", Cond.fieldLink RX1 30 "InterestNet$Net" "wayNodes" "[I", Cond.methodLink RX1 70 yX1_isPair, Cond.static yX1_isPair, Cond.code yX1_isPair cX1_isPair 4 (some .boolean), Cond.methodLink RX3 56 yX1_raise, Cond.instanceMethod yX1_raise, Cond.selects RX1 yX1_raise yX1_raise, Cond.code yX1_raise cX1_raise 3 none, Cond.methodLink RX3 96 yX1_lengthOf, Cond.instanceMethod yX1_lengthOf, Cond.selects RX1 yX1_lengthOf yX1_lengthOf, Cond.code yX1_lengthOf cX1_lengthOf 2 (some .int), Cond.methodLink RX3 129 yX1_setWay, Cond.instanceMethod yX1_setWay, Cond.selects RX1 yX1_setWay yX1_setWay, Cond.code yX1_setWay cX1_setWay 5 none]
def wsX3_exploreWay : List Cond := .code yX3_exploreWay cX3_exploreWay 8 none :: ((wsX3_exploreWay_r1 ++ (wsX3_exploreWay_r2 ++ (wsX3_exploreWay_r3 ++ wsX3_exploreWay_r4))) ++ wsX30 ++ wsX20 ++ wsX10)
def wsX3_send_r1 : List Cond := [Cond.fieldLink RX3 12 "InterestNet$Runner" "draft" "LInterestNet$Net;", Cond.fieldLink RX3 29 "InterestNet$Runner" "sentTo" "[I", Cond.methodLink RX3 96 yX1_lengthOf, Cond.instanceMethod yX1_lengthOf, Cond.selects RX1 yX1_lengthOf yX1_lengthOf, Cond.initialized RX1, Cond.code yX1_lengthOf cX1_lengthOf 2 (some .int), Cond.fieldLink RX1 27 "InterestNet$Net" "wayLengths" "[I", Cond.static yX5_at, Cond.initialized RX5, Cond.code yX5_at cX5_at 2 (some .int), Cond.methodLink RX3 148 yX1_nodeOf, Cond.instanceMethod yX1_nodeOf, Cond.selects RX1 yX1_nodeOf yX1_nodeOf, Cond.code yX1_nodeOf cX1_nodeOf 3 (some .int), Cond.fieldLink RX1 30 "InterestNet$Net" "wayNodes" "[I", Cond.static yX5_holds, Cond.code yX5_holds cX5_holds 2 (some .boolean), Cond.static yX5_put, Cond.code yX5_put cX5_put 3 none, Cond.methodLink RX3 115 yX1_spend, Cond.instanceMethod yX1_spend, Cond.selects RX1 yX1_spend yX1_spend, Cond.code yX1_spend cX1_spend 4 none]
def wsX3_send_r2 : List Cond := [Cond.fieldLink RX1 15 "InterestNet$Net" "energies" "[I", Cond.methodLink RX1 58 Lib.Math.min.name, Cond.static Lib.Math.min.name, Cond.initialized "java/lang/Math", Cond.code Lib.Math.min.name Lib.Math.min.code 2 (some .int), Cond.fieldLink RX1 9 "InterestNet$Net" "numbers" "[I", Cond.static yX5_increase, Cond.code yX5_increase cX5_increase 3 none, Cond.methodLink RX5 187 yX5_at, Cond.methodLink RX5 191 yX5_put]
def wsX3_send : List Cond := .code yX3_send cX3_send 7 none :: ((wsX3_send_r1 ++ wsX3_send_r2) ++ wsX30 ++ wsX10)
def wsX3_takeTurn_r1 : List Cond := [Cond.fieldLink RX3 12 "InterestNet$Runner" "draft" "LInterestNet$Net;", Cond.fieldLink RX3 21 "InterestNet$Runner" "paths" "LInterestNet$Paths;", Cond.static yX5_wayOf, Cond.initialized RX5, Cond.code yX5_wayOf cX5_wayOf 2 (some .int), Cond.methodLink RX3 64 yX1_sensorPart, Cond.instanceMethod yX1_sensorPart, Cond.selects RX1 yX1_sensorPart yX1_sensorPart, Cond.initialized RX1, Cond.code yX1_sensorPart cX1_sensorPart 3 (some .int), Cond.fieldLink RX1 21 "InterestNet$Net" "sensors" "[I", Cond.static yX5_at, Cond.code yX5_at cX5_at 2 (some .int), Cond.methodLink RX3 67 yX1_interestPart, Cond.instanceMethod yX1_interestPart, Cond.selects RX1 yX1_interestPart yX1_interestPart, Cond.code yX1_interestPart cX1_interestPart 3 (some .int), Cond.fieldLink RX1 24 "InterestNet$Net" "interests" "[I", Cond.methodLink RX1 84 yX1_waysOf, Cond.instanceMethod yX1_waysOf, Cond.selects RX1 yX1_waysOf yX1_waysOf, Cond.code yX1_waysOf cX1_waysOf 4 (some .int), Cond.fieldLink RX1 9 "InterestNet$Net" "numbers" "[I", Cond.fieldLink RX1 27 "InterestNet$Net" "wayLengths" "[I"]
def wsX3_takeTurn_r2 : List Cond := [Cond.methodLink RX3 70 yX1_aliveNodes, Cond.instanceMethod yX1_aliveNodes, Cond.selects RX1 yX1_aliveNodes yX1_aliveNodes, Cond.code yX1_aliveNodes cX1_aliveNodes 3 (some .int), Cond.fieldLink RX1 15 "InterestNet$Net" "energies" "[I", Cond.methodLink RX3 74 yX1_matches, Cond.instanceMethod yX1_matches, Cond.selects RX1 yX1_matches yX1_matches, Cond.code yX1_matches cX1_matches 3 (some .boolean), Cond.methodLink RX1 87 yX1_sensorPart, Cond.methodLink RX1 77 yX1_interestPart, Cond.static yX5_isWithin, Cond.code yX5_isWithin cX5_isWithin 3 (some .boolean), Cond.static yX5_holds, Cond.code yX5_holds cX5_holds 2 (some .boolean), Cond.methodLink RX3 80 yX1_dropWay, Cond.instanceMethod yX1_dropWay, Cond.selects RX1 yX1_dropWay yX1_dropWay, Cond.code yX1_dropWay cX1_dropWay 2 none, Cond.static yX5_put, Cond.code yX5_put cX5_put 3 none, Cond.methodLink RX3 84 yX3_isExploringRound, Cond.instanceMethod yX3_isExploringRound, Cond.selects RX3 yX3_isExploringRound yX3_isExploringRound]
def wsX3_takeTurn_r3 : List Cond := [Cond.initialized RX3, Cond.code yX3_isExploringRound cX3_isExploringRound 2 (some .boolean), Cond.methodLink RX3 48 yX1_number, Cond.instanceMethod yX1_number, Cond.selects RX1 yX1_number yX1_number, Cond.code yX1_number cX1_number 2 (some .int), Cond.methodLink RX1 41 yX1_aliveNodes, Cond.methodLink RX1 45 yJ6_bitCount_0f7a4, Cond.static yJ6_bitCount_0f7a4, Cond.initialized RJ6, Cond.code yJ6_bitCount_0f7a4 cJ6_bitCount_0f7a4 1 (some .int), Cond.constant RJ6 265 (1431655765), Cond.constant RJ6 266 (858993459), Cond.constant RJ6 267 (252645135), Cond.methodLink RX3 88 yX2_carry, Cond.instanceMethod yX2_carry, Cond.selects RX2 yX2_carry yX2_carry, Cond.initialized RX2, Cond.code yX2_carry cX2_carry 7 (some .boolean), Cond.methodLink RX2 51 yX1_lengthOf, Cond.instanceMethod yX1_lengthOf, Cond.selects RX1 yX1_lengthOf yX1_lengthOf, Cond.code yX1_lengthOf cX1_lengthOf 2 (some .int), Cond.methodLink RX2 54 yX1_nodeOf]
def wsX3_takeTurn_r4 : List Cond := [Cond.instanceMethod yX1_nodeOf, Cond.selects RX1 yX1_nodeOf yX1_nodeOf, Cond.code yX1_nodeOf cX1_nodeOf 3 (some .int), Cond.fieldLink RX1 30 "InterestNet$Net" "wayNodes" "[I", Cond.methodLink RX2 61 yX2_delayBetween, Cond.instanceMethod yX2_delayBetween, Cond.selects RX2 yX2_delayBetween yX2_delayBetween, Cond.code yX2_delayBetween cX2_delayBetween 3 (some .int), Cond.fieldLink RX2 9 "InterestNet$Paths" "delays" "[I", Cond.methodLink RX3 92 yX3_exploreWay, Cond.instanceMethod yX3_exploreWay, Cond.selects RX3 yX3_exploreWay yX3_exploreWay, Cond.code yX3_exploreWay cX3_exploreWay 8 none, Cond.methodLink RX3 124 Lib.Math.max.name, Cond.static Lib.Math.max.name, Cond.initialized "java/lang/Math", Cond.code Lib.Math.max.name Lib.Math.max.code 2 (some .int), Cond.fieldLink RX3 25 "InterestNet$Runner" "newWay" "[I", Cond.methodLink RX3 109 yX2_explore, Cond.instanceMethod yX2_explore, Cond.selects RX2 yX2_explore yX2_explore, Cond.code yX2_explore cX2_explore 5 none, Cond.fieldLink RX2 15 "InterestNet$Paths" "exploredAmong" "[I", Cond.fieldLink RX2 24 "InterestNet$Paths" "nodesBefore" "[I"]
def wsX3_takeTurn_r5 : List Cond := [Cond.constant RX2 74 (1000000), Cond.fieldLink RX2 18 "InterestNet$Paths" "reached" "[I", Cond.methodLink RX2 64 yX2_findTimes, Cond.instanceMethod yX2_findTimes, Cond.selects RX2 yX2_findTimes yX2_findTimes, Cond.code yX2_findTimes cX2_findTimes 9 none, Cond.fieldLink RX2 21 "InterestNet$Paths" "times" "[I", Cond.methodLink RX2 68 yX2_findNodeBefore, Cond.instanceMethod yX2_findNodeBefore, Cond.selects RX2 yX2_findNodeBefore yX2_findNodeBefore, Cond.code yX2_findNodeBefore cX2_findNodeBefore 6 (some .int), Cond.methodLink RX2 71 yX2_timeOf, Cond.instanceMethod yX2_timeOf, Cond.selects RX2 yX2_timeOf yX2_timeOf, Cond.code yX2_timeOf cX2_timeOf 3 (some .int), Cond.methodLink RX3 112 yX2_reachedFrom, Cond.instanceMethod yX2_reachedFrom, Cond.selects RX2 yX2_reachedFrom yX2_reachedFrom, Cond.code yX2_reachedFrom cX2_reachedFrom 2 (some .int), Cond.methodLink RX3 115 yX1_spend, Cond.instanceMethod yX1_spend, Cond.selects RX1 yX1_spend yX1_spend, Cond.code yX1_spend cX1_spend 4 none, Cond.methodLink RX1 58 Lib.Math.min.name]
def wsX3_takeTurn_r6 : List Cond := [Cond.static Lib.Math.min.name, Cond.code Lib.Math.min.name Lib.Math.min.code 2 (some .int), Cond.static yX5_increase, Cond.code yX5_increase cX5_increase 3 none, Cond.methodLink RX5 187 yX5_at, Cond.methodLink RX5 191 yX5_put, Cond.methodLink RX3 118 yX3_traceBack, Cond.instanceMethod yX3_traceBack, Cond.selects RX3 yX3_traceBack yX3_traceBack, Cond.code yX3_traceBack cX3_traceBack 5 (some .int), Cond.methodLink RX3 137 yX2_nodeBefore, Cond.instanceMethod yX2_nodeBefore, Cond.selects RX2 yX2_nodeBefore yX2_nodeBefore, Cond.code yX2_nodeBefore cX2_nodeBefore 3 (some .int), Cond.methodLink RX3 121 yX3_keptLinks, Cond.instanceMethod yX3_keptLinks, Cond.selects RX3 yX3_keptLinks yX3_keptLinks, Cond.code yX3_keptLinks cX3_keptLinks 5 (some .int), Cond.methodLink RX3 144 yX1_goesOver, Cond.instanceMethod yX1_goesOver, Cond.selects RX1 yX1_goesOver yX1_goesOver, Cond.code yX1_goesOver cX1_goesOver 6 (some .boolean), Cond.methodLink RX1 70 yX1_isPair, Cond.static yX1_isPair]
def wsX3_takeTurn_r7 : List Cond := [Cond.code yX1_isPair cX1_isPair 4 (some .boolean), Cond.methodLink RX3 56 yX1_raise, Cond.instanceMethod yX1_raise, Cond.selects RX1 yX1_raise yX1_raise, Cond.code yX1_raise cX1_raise 3 none, Cond.methodLink RX3 96 yX1_lengthOf, Cond.methodLink RX3 129 yX1_setWay, Cond.instanceMethod yX1_setWay, Cond.selects RX1 yX1_setWay yX1_setWay, Cond.code yX1_setWay cX1_setWay 5 none, Cond.methodLink RX3 99 yX3_send, Cond.instanceMethod yX3_send, Cond.selects RX3 yX3_send yX3_send, Cond.code yX3_send cX3_send 7 none, Cond.fieldLink RX3 29 "InterestNet$Runner" "sentTo" "[I", Cond.methodLink RX3 148 yX1_nodeOf, Cond.methodLink RX3 102 yX2_delayOf, Cond.instanceMethod yX2_delayOf, Cond.selects RX2 yX2_delayOf yX2_delayOf, Cond.code yX2_delayOf cX2_delayOf 5 (some .int), Cond.methodLink RX3 106 yX1_deliver, Cond.instanceMethod yX1_deliver, Cond.selects RX1 yX1_deliver yX1_deliver, Cond.code yX1_deliver cX1_deliver 3 none]
def wsX3_takeTurn : List Cond := .code yX3_takeTurn cX3_takeTurn 7 (some .boolean) :: ((wsX3_takeTurn_r1 ++ (wsX3_takeTurn_r2 ++ (wsX3_takeTurn_r3 ++ (wsX3_takeTurn_r4 ++ (wsX3_takeTurn_r5 ++ (wsX3_takeTurn_r6 ++ wsX3_takeTurn_r7)))))) ++ wsX30 ++ wsX10 ++ wsX20)
def wsX3_run_r1 : List Cond := [Cond.fieldLink RX3 12 "InterestNet$Runner" "draft" "LInterestNet$Net;", Cond.fieldLink RX3 29 "InterestNet$Runner" "sentTo" "[I", Cond.methodLink RX3 39 yX1_endInterests, Cond.instanceMethod yX1_endInterests, Cond.selects RX1 yX1_endInterests yX1_endInterests, Cond.initialized RX1, Cond.code yX1_endInterests cX1_endInterests 2 none, Cond.fieldLink RX1 9 "InterestNet$Net" "numbers" "[I", Cond.static yX5_at, Cond.initialized RX5, Cond.code yX5_at cX5_at 2 (some .int), Cond.methodLink RX1 77 yX1_interestPart, Cond.instanceMethod yX1_interestPart, Cond.selects RX1 yX1_interestPart yX1_interestPart, Cond.code yX1_interestPart cX1_interestPart 3 (some .int), Cond.fieldLink RX1 24 "InterestNet$Net" "interests" "[I", Cond.methodLink RX1 84 yX1_waysOf, Cond.instanceMethod yX1_waysOf, Cond.selects RX1 yX1_waysOf yX1_waysOf, Cond.code yX1_waysOf cX1_waysOf 4 (some .int), Cond.fieldLink RX1 27 "InterestNet$Net" "wayLengths" "[I", Cond.static yX5_wayOf, Cond.code yX5_wayOf cX5_wayOf 2 (some .int), Cond.methodLink RX1 80 yX1_removeInterest]
def wsX3_run_r2 : List Cond := [Cond.instanceMethod yX1_removeInterest, Cond.selects RX1 yX1_removeInterest yX1_removeInterest, Cond.code yX1_removeInterest cX1_removeInterest 2 none, Cond.fieldLink RX1 30 "InterestNet$Net" "wayNodes" "[I", Cond.static yX5_removePiece, Cond.code yX5_removePiece cX5_removePiece 4 none, Cond.methodLink RX5 187 yX5_at, Cond.methodLink RX5 191 yX5_put, Cond.static yX5_put, Cond.code yX5_put cX5_put 3 none, Cond.static yX5_increase, Cond.code yX5_increase cX5_increase 3 none, Cond.methodLink RX3 42 yJ7_fill_53178, Cond.static yJ7_fill_53178, Cond.initialized RJ7, Cond.code yJ7_fill_53178 cJ7_fill_53178 4 none, Cond.methodLink RX3 48 yX1_number, Cond.instanceMethod yX1_number, Cond.selects RX1 yX1_number yX1_number, Cond.code yX1_number cX1_number 2 (some .int), Cond.methodLink RX1 41 yX1_aliveNodes, Cond.instanceMethod yX1_aliveNodes, Cond.selects RX1 yX1_aliveNodes yX1_aliveNodes, Cond.code yX1_aliveNodes cX1_aliveNodes 3 (some .int)]
def wsX3_run_r3 : List Cond := [Cond.fieldLink RX1 15 "InterestNet$Net" "energies" "[I", Cond.methodLink RX1 45 yJ6_bitCount_0f7a4, Cond.static yJ6_bitCount_0f7a4, Cond.initialized RJ6, Cond.code yJ6_bitCount_0f7a4 cJ6_bitCount_0f7a4 1 (some .int), Cond.constant RJ6 265 (1431655765), Cond.constant RJ6 266 (858993459), Cond.constant RJ6 267 (252645135), Cond.methodLink RX3 52 yX3_takeTurn, Cond.instanceMethod yX3_takeTurn, Cond.selects RX3 yX3_takeTurn yX3_takeTurn, Cond.initialized RX3, Cond.code yX3_takeTurn cX3_takeTurn 7 (some .boolean), Cond.fieldLink RX3 21 "InterestNet$Runner" "paths" "LInterestNet$Paths;", Cond.methodLink RX3 64 yX1_sensorPart, Cond.instanceMethod yX1_sensorPart, Cond.selects RX1 yX1_sensorPart yX1_sensorPart, Cond.code yX1_sensorPart cX1_sensorPart 3 (some .int), Cond.fieldLink RX1 21 "InterestNet$Net" "sensors" "[I", Cond.methodLink RX3 67 yX1_interestPart, Cond.methodLink RX3 70 yX1_aliveNodes, Cond.methodLink RX3 74 yX1_matches, Cond.instanceMethod yX1_matches, Cond.selects RX1 yX1_matches yX1_matches]
def wsX3_run_r4 : List Cond := [Cond.code yX1_matches cX1_matches 3 (some .boolean), Cond.methodLink RX1 87 yX1_sensorPart, Cond.static yX5_isWithin, Cond.code yX5_isWithin cX5_isWithin 3 (some .boolean), Cond.static yX5_holds, Cond.code yX5_holds cX5_holds 2 (some .boolean), Cond.methodLink RX3 80 yX1_dropWay, Cond.instanceMethod yX1_dropWay, Cond.selects RX1 yX1_dropWay yX1_dropWay, Cond.code yX1_dropWay cX1_dropWay 2 none, Cond.methodLink RX3 84 yX3_isExploringRound, Cond.instanceMethod yX3_isExploringRound, Cond.selects RX3 yX3_isExploringRound yX3_isExploringRound, Cond.code yX3_isExploringRound cX3_isExploringRound 2 (some .boolean), Cond.methodLink RX3 88 yX2_carry, Cond.instanceMethod yX2_carry, Cond.selects RX2 yX2_carry yX2_carry, Cond.initialized RX2, Cond.code yX2_carry cX2_carry 7 (some .boolean), Cond.methodLink RX2 51 yX1_lengthOf, Cond.instanceMethod yX1_lengthOf, Cond.selects RX1 yX1_lengthOf yX1_lengthOf, Cond.code yX1_lengthOf cX1_lengthOf 2 (some .int), Cond.methodLink RX2 54 yX1_nodeOf]
def wsX3_run_r5 : List Cond := [Cond.instanceMethod yX1_nodeOf, Cond.selects RX1 yX1_nodeOf yX1_nodeOf, Cond.code yX1_nodeOf cX1_nodeOf 3 (some .int), Cond.methodLink RX2 61 yX2_delayBetween, Cond.instanceMethod yX2_delayBetween, Cond.selects RX2 yX2_delayBetween yX2_delayBetween, Cond.code yX2_delayBetween cX2_delayBetween 3 (some .int), Cond.fieldLink RX2 9 "InterestNet$Paths" "delays" "[I", Cond.methodLink RX3 92 yX3_exploreWay, Cond.instanceMethod yX3_exploreWay, Cond.selects RX3 yX3_exploreWay yX3_exploreWay, Cond.code yX3_exploreWay cX3_exploreWay 8 none, Cond.methodLink RX3 124 Lib.Math.max.name, Cond.static Lib.Math.max.name, Cond.initialized "java/lang/Math", Cond.code Lib.Math.max.name Lib.Math.max.code 2 (some .int), Cond.fieldLink RX3 25 "InterestNet$Runner" "newWay" "[I", Cond.methodLink RX3 109 yX2_explore, Cond.instanceMethod yX2_explore, Cond.selects RX2 yX2_explore yX2_explore, Cond.code yX2_explore cX2_explore 5 none, Cond.fieldLink RX2 15 "InterestNet$Paths" "exploredAmong" "[I", Cond.fieldLink RX2 24 "InterestNet$Paths" "nodesBefore" "[I", Cond.constant RX2 74 (1000000)]
def wsX3_run_r6 : List Cond := [Cond.fieldLink RX2 18 "InterestNet$Paths" "reached" "[I", Cond.methodLink RX2 64 yX2_findTimes, Cond.instanceMethod yX2_findTimes, Cond.selects RX2 yX2_findTimes yX2_findTimes, Cond.code yX2_findTimes cX2_findTimes 9 none, Cond.fieldLink RX2 21 "InterestNet$Paths" "times" "[I", Cond.methodLink RX2 68 yX2_findNodeBefore, Cond.instanceMethod yX2_findNodeBefore, Cond.selects RX2 yX2_findNodeBefore yX2_findNodeBefore, Cond.code yX2_findNodeBefore cX2_findNodeBefore 6 (some .int), Cond.methodLink RX2 71 yX2_timeOf, Cond.instanceMethod yX2_timeOf, Cond.selects RX2 yX2_timeOf yX2_timeOf, Cond.code yX2_timeOf cX2_timeOf 3 (some .int), Cond.methodLink RX3 112 yX2_reachedFrom, Cond.instanceMethod yX2_reachedFrom, Cond.selects RX2 yX2_reachedFrom yX2_reachedFrom, Cond.code yX2_reachedFrom cX2_reachedFrom 2 (some .int), Cond.methodLink RX3 115 yX1_spend, Cond.instanceMethod yX1_spend, Cond.selects RX1 yX1_spend yX1_spend, Cond.code yX1_spend cX1_spend 4 none, Cond.methodLink RX1 58 Lib.Math.min.name, Cond.static Lib.Math.min.name]
def wsX3_run_r7 : List Cond := [Cond.code Lib.Math.min.name Lib.Math.min.code 2 (some .int), Cond.methodLink RX3 118 yX3_traceBack, Cond.instanceMethod yX3_traceBack, Cond.selects RX3 yX3_traceBack yX3_traceBack, Cond.code yX3_traceBack cX3_traceBack 5 (some .int), Cond.methodLink RX3 137 yX2_nodeBefore, Cond.instanceMethod yX2_nodeBefore, Cond.selects RX2 yX2_nodeBefore yX2_nodeBefore, Cond.code yX2_nodeBefore cX2_nodeBefore 3 (some .int), Cond.methodLink RX3 121 yX3_keptLinks, Cond.instanceMethod yX3_keptLinks, Cond.selects RX3 yX3_keptLinks yX3_keptLinks, Cond.code yX3_keptLinks cX3_keptLinks 5 (some .int), Cond.methodLink RX3 144 yX1_goesOver, Cond.instanceMethod yX1_goesOver, Cond.selects RX1 yX1_goesOver yX1_goesOver, Cond.code yX1_goesOver cX1_goesOver 6 (some .boolean), Cond.methodLink RX1 70 yX1_isPair, Cond.static yX1_isPair, Cond.code yX1_isPair cX1_isPair 4 (some .boolean), Cond.methodLink RX3 56 yX1_raise, Cond.instanceMethod yX1_raise, Cond.selects RX1 yX1_raise yX1_raise, Cond.code yX1_raise cX1_raise 3 none]
def wsX3_run_r8 : List Cond := [Cond.methodLink RX3 96 yX1_lengthOf, Cond.methodLink RX3 129 yX1_setWay, Cond.instanceMethod yX1_setWay, Cond.selects RX1 yX1_setWay yX1_setWay, Cond.code yX1_setWay cX1_setWay 5 none, Cond.methodLink RX3 99 yX3_send, Cond.instanceMethod yX3_send, Cond.selects RX3 yX3_send yX3_send, Cond.code yX3_send cX3_send 7 none, Cond.methodLink RX3 148 yX1_nodeOf, Cond.methodLink RX3 102 yX2_delayOf, Cond.instanceMethod yX2_delayOf, Cond.selects RX2 yX2_delayOf yX2_delayOf, Cond.code yX2_delayOf cX2_delayOf 5 (some .int), Cond.methodLink RX3 106 yX1_deliver, Cond.instanceMethod yX1_deliver, Cond.selects RX1 yX1_deliver yX1_deliver, Cond.code yX1_deliver cX1_deliver 3 none]
def wsX3_run : List Cond := .code yX3_run cX3_run 6 (some .int) :: ((wsX3_run_r1 ++ (wsX3_run_r2 ++ (wsX3_run_r3 ++ (wsX3_run_r4 ++ (wsX3_run_r5 ++ (wsX3_run_r6 ++ (wsX3_run_r7 ++ wsX3_run_r8))))))) ++ wsX30 ++ wsX10 ++ wsX20)
def wsX4_init : List Cond := .code yX4_init cX4_init 1 none :: ([.methodLink RX4 3 objectInit, .instanceMethod objectInit, .code objectInit ⟨#[0xb1]⟩ 1 none, .classLink RX4 9 RX1, .instantiable RX1 7, .initialized RX1, .fieldLink RX4 12 "InterestNet$Text" "draft" "LInterestNet$Net;", .arrayClass .int, .fieldLink RX4 18 "InterestNet$Text" "codes" "[I", .methodLink RX4 11 yX1_init, .instanceMethod yX1_init, .code yX1_init cX1_init 1 none, .methodLink RX1 3 objectInit, .fieldLink RX1 9 "InterestNet$Net" "numbers" "[I", .fieldLink RX1 15 "InterestNet$Net" "energies" "[I", .fieldLink RX1 18 "InterestNet$Net" "links" "[I", .fieldLink RX1 21 "InterestNet$Net" "sensors" "[I", .fieldLink RX1 24 "InterestNet$Net" "interests" "[I", .fieldLink RX1 27 "InterestNet$Net" "wayLengths" "[I", .fieldLink RX1 30 "InterestNet$Net" "wayNodes" "[I", .static yX5_put, .initialized RX5, .code yX5_put cX5_put 3 none] ++ wsX10 ++ wsX40)
def wsX4_append : List Cond := .code yX4_append cX4_append 2 (some .boolean) :: ([.fieldLink RX4 22 "InterestNet$Text" "length" "I", .fieldLink RX4 18 "InterestNet$Text" "codes" "[I", .static yX5_put, .initialized RX5, .code yX5_put cX5_put 3 none] ++ wsX40)
def wsX4_nextCode : List Cond := .code yX4_nextCode cX4_nextCode 1 (some .int) :: ([.fieldLink RX4 34 "InterestNet$Text" "place" "I", .fieldLink RX4 22 "InterestNet$Text" "length" "I", .fieldLink RX4 18 "InterestNet$Text" "codes" "[I", .static yX5_at, .initialized RX5, .code yX5_at cX5_at 2 (some .int)] ++ wsX40)
def wsX4_refuse : List Cond := .code yX4_refuse cX4_refuse 2 (some .boolean) :: ([.fieldLink RX4 100 "InterestNet$Text" "fault" "I"] ++ wsX40)
def wsX4_readSign : List Cond := .code yX4_readSign cX4_readSign 2 (some .boolean) :: ([.fieldLink RX4 34 "InterestNet$Text" "place" "I", .methodLink RX4 44 yX4_nextCode, .instanceMethod yX4_nextCode, .selects RX4 yX4_nextCode yX4_nextCode, .initialized RX4, .code yX4_nextCode cX4_nextCode 1 (some .int), .fieldLink RX4 22 "InterestNet$Text" "length" "I", .fieldLink RX4 18 "InterestNet$Text" "codes" "[I", .static yX5_at, .initialized RX5, .code yX5_at cX5_at 2 (some .int), .methodLink RX4 52 yX4_refuse, .instanceMethod yX4_refuse, .selects RX4 yX4_refuse yX4_refuse, .code yX4_refuse cX4_refuse 2 (some .boolean), .fieldLink RX4 100 "InterestNet$Text" "fault" "I"] ++ wsX40)
def wsX4_isDigit : List Cond := .code yX4_isDigit cX4_isDigit 1 (some .boolean) :: ([])
def wsX4_readNumber : List Cond := .code yX4_readNumber cX4_readNumber 5 (some .int) :: ([.fieldLink RX4 34 "InterestNet$Text" "place" "I", .fieldLink RX4 82 "InterestNet$Text" "numberPlace" "I", .fieldLink RX4 22 "InterestNet$Text" "length" "I", .fieldLink RX4 18 "InterestNet$Text" "codes" "[I", .methodLink RX4 44 yX4_nextCode, .instanceMethod yX4_nextCode, .selects RX4 yX4_nextCode yX4_nextCode, .initialized RX4, .code yX4_nextCode cX4_nextCode 1 (some .int), .static yX5_at, .initialized RX5, .code yX5_at cX5_at 2 (some .int), .methodLink RX4 61 yX4_isDigit, .static yX4_isDigit, .code yX4_isDigit cX4_isDigit 1 (some .boolean), .static yX5_isWithin, .code yX5_isWithin cX5_isWithin 3 (some .boolean), .methodLink RX4 52 yX4_refuse, .instanceMethod yX4_refuse, .selects RX4 yX4_refuse yX4_refuse, .code yX4_refuse cX4_refuse 2 (some .boolean), .fieldLink RX4 100 "InterestNet$Text" "fault" "I"] ++ wsX40)
def wsX4_readNode_r1 : List Cond := [Cond.fieldLink RX4 12 "InterestNet$Text" "draft" "LInterestNet$Net;", Cond.fieldLink RX4 34 "InterestNet$Text" "place" "I", Cond.methodLink RX4 67 yX1_number, Cond.instanceMethod yX1_number, Cond.selects RX1 yX1_number yX1_number, Cond.initialized RX1, Cond.code yX1_number cX1_number 2 (some .int), Cond.fieldLink RX1 9 "InterestNet$Net" "numbers" "[I", Cond.methodLink RX1 41 yX1_aliveNodes, Cond.instanceMethod yX1_aliveNodes, Cond.selects RX1 yX1_aliveNodes yX1_aliveNodes, Cond.code yX1_aliveNodes cX1_aliveNodes 3 (some .int), Cond.fieldLink RX1 15 "InterestNet$Net" "energies" "[I", Cond.static yX5_at, Cond.initialized RX5, Cond.code yX5_at cX5_at 2 (some .int), Cond.methodLink RX1 45 yJ6_bitCount_0f7a4, Cond.static yJ6_bitCount_0f7a4, Cond.initialized RJ6, Cond.code yJ6_bitCount_0f7a4 cJ6_bitCount_0f7a4 1 (some .int), Cond.constant RJ6 265 (1431655765), Cond.constant RJ6 266 (858993459), Cond.constant RJ6 267 (252645135), Cond.methodLink RX4 52 yX4_refuse]
def wsX4_readNode_r2 : List Cond := [Cond.instanceMethod yX4_refuse, Cond.selects RX4 yX4_refuse yX4_refuse, Cond.initialized RX4, Cond.code yX4_refuse cX4_refuse 2 (some .boolean), Cond.fieldLink RX4 100 "InterestNet$Text" "fault" "I", Cond.methodLink RX4 48 yX4_readSign, Cond.instanceMethod yX4_readSign, Cond.selects RX4 yX4_readSign yX4_readSign, Cond.code yX4_readSign cX4_readSign 2 (some .boolean), Cond.methodLink RX4 44 yX4_nextCode, Cond.instanceMethod yX4_nextCode, Cond.selects RX4 yX4_nextCode yX4_nextCode, Cond.code yX4_nextCode cX4_nextCode 1 (some .int), Cond.fieldLink RX4 22 "InterestNet$Text" "length" "I", Cond.fieldLink RX4 18 "InterestNet$Text" "codes" "[I", Cond.methodLink RX4 71 yX4_readNumber, Cond.instanceMethod yX4_readNumber, Cond.selects RX4 yX4_readNumber yX4_readNumber, Cond.code yX4_readNumber cX4_readNumber 5 (some .int), Cond.fieldLink RX4 82 "InterestNet$Text" "numberPlace" "I", Cond.methodLink RX4 61 yX4_isDigit, Cond.static yX4_isDigit, Cond.code yX4_isDigit cX4_isDigit 1 (some .boolean), Cond.static yX5_isWithin]
def wsX4_readNode_r3 : List Cond := [Cond.code yX5_isWithin cX5_isWithin 3 (some .boolean), Cond.methodLink RX4 75 yX1_appendNode, Cond.instanceMethod yX1_appendNode, Cond.selects RX1 yX1_appendNode yX1_appendNode, Cond.code yX1_appendNode cX1_appendNode 3 (some .int), Cond.static yX5_put, Cond.code yX5_put cX5_put 3 none]
def wsX4_readNode : List Cond := .code yX4_readNode cX4_readNode 2 (some .boolean) :: ((wsX4_readNode_r1 ++ (wsX4_readNode_r2 ++ wsX4_readNode_r3)) ++ wsX40 ++ wsX10)
def wsX4_readSensor_r1 : List Cond := [Cond.fieldLink RX4 12 "InterestNet$Text" "draft" "LInterestNet$Net;", Cond.fieldLink RX4 34 "InterestNet$Text" "place" "I", Cond.methodLink RX4 67 yX1_number, Cond.instanceMethod yX1_number, Cond.selects RX1 yX1_number yX1_number, Cond.initialized RX1, Cond.code yX1_number cX1_number 2 (some .int), Cond.fieldLink RX1 9 "InterestNet$Net" "numbers" "[I", Cond.methodLink RX1 41 yX1_aliveNodes, Cond.instanceMethod yX1_aliveNodes, Cond.selects RX1 yX1_aliveNodes yX1_aliveNodes, Cond.code yX1_aliveNodes cX1_aliveNodes 3 (some .int), Cond.fieldLink RX1 15 "InterestNet$Net" "energies" "[I", Cond.static yX5_at, Cond.initialized RX5, Cond.code yX5_at cX5_at 2 (some .int), Cond.methodLink RX1 45 yJ6_bitCount_0f7a4, Cond.static yJ6_bitCount_0f7a4, Cond.initialized RJ6, Cond.code yJ6_bitCount_0f7a4 cJ6_bitCount_0f7a4 1 (some .int), Cond.constant RJ6 265 (1431655765), Cond.constant RJ6 266 (858993459), Cond.constant RJ6 267 (252645135), Cond.methodLink RX4 52 yX4_refuse]
def wsX4_readSensor_r2 : List Cond := [Cond.instanceMethod yX4_refuse, Cond.selects RX4 yX4_refuse yX4_refuse, Cond.initialized RX4, Cond.code yX4_refuse cX4_refuse 2 (some .boolean), Cond.fieldLink RX4 100 "InterestNet$Text" "fault" "I", Cond.methodLink RX4 48 yX4_readSign, Cond.instanceMethod yX4_readSign, Cond.selects RX4 yX4_readSign yX4_readSign, Cond.code yX4_readSign cX4_readSign 2 (some .boolean), Cond.methodLink RX4 44 yX4_nextCode, Cond.instanceMethod yX4_nextCode, Cond.selects RX4 yX4_nextCode yX4_nextCode, Cond.code yX4_nextCode cX4_nextCode 1 (some .int), Cond.fieldLink RX4 22 "InterestNet$Text" "length" "I", Cond.fieldLink RX4 18 "InterestNet$Text" "codes" "[I", Cond.methodLink RX4 71 yX4_readNumber, Cond.instanceMethod yX4_readNumber, Cond.selects RX4 yX4_readNumber yX4_readNumber, Cond.code yX4_readNumber cX4_readNumber 5 (some .int), Cond.fieldLink RX4 82 "InterestNet$Text" "numberPlace" "I", Cond.methodLink RX4 61 yX4_isDigit, Cond.static yX4_isDigit, Cond.code yX4_isDigit cX4_isDigit 1 (some .boolean), Cond.static yX5_isWithin]
def wsX4_readSensor_r3 : List Cond := [Cond.code yX5_isWithin cX5_isWithin 3 (some .boolean), Cond.methodLink RX4 89 yX1_appendSensor, Cond.instanceMethod yX1_appendSensor, Cond.selects RX1 yX1_appendSensor yX1_appendSensor, Cond.code yX1_appendSensor cX1_appendSensor 5 (some .int), Cond.fieldLink RX1 21 "InterestNet$Net" "sensors" "[I", Cond.static yX5_put, Cond.code yX5_put cX5_put 3 none]
def wsX4_readSensor : List Cond := .code yX4_readSensor cX4_readSensor 5 (some .boolean) :: ((wsX4_readSensor_r1 ++ (wsX4_readSensor_r2 ++ wsX4_readSensor_r3)) ++ wsX40 ++ wsX10)
def wsX4_readLink_r1 : List Cond := [Cond.fieldLink RX4 12 "InterestNet$Text" "draft" "LInterestNet$Net;", Cond.fieldLink RX4 34 "InterestNet$Text" "place" "I", Cond.fieldLink RX4 82 "InterestNet$Text" "numberPlace" "I", Cond.methodLink RX4 67 yX1_number, Cond.instanceMethod yX1_number, Cond.selects RX1 yX1_number yX1_number, Cond.initialized RX1, Cond.code yX1_number cX1_number 2 (some .int), Cond.fieldLink RX1 9 "InterestNet$Net" "numbers" "[I", Cond.methodLink RX1 41 yX1_aliveNodes, Cond.instanceMethod yX1_aliveNodes, Cond.selects RX1 yX1_aliveNodes yX1_aliveNodes, Cond.code yX1_aliveNodes cX1_aliveNodes 3 (some .int), Cond.fieldLink RX1 15 "InterestNet$Net" "energies" "[I", Cond.static yX5_at, Cond.initialized RX5, Cond.code yX5_at cX5_at 2 (some .int), Cond.methodLink RX1 45 yJ6_bitCount_0f7a4, Cond.static yJ6_bitCount_0f7a4, Cond.initialized RJ6, Cond.code yJ6_bitCount_0f7a4 cJ6_bitCount_0f7a4 1 (some .int), Cond.constant RJ6 265 (1431655765), Cond.constant RJ6 266 (858993459), Cond.constant RJ6 267 (252645135)]
def wsX4_readLink_r2 : List Cond := [Cond.methodLink RX4 52 yX4_refuse, Cond.instanceMethod yX4_refuse, Cond.selects RX4 yX4_refuse yX4_refuse, Cond.initialized RX4, Cond.code yX4_refuse cX4_refuse 2 (some .boolean), Cond.fieldLink RX4 100 "InterestNet$Text" "fault" "I", Cond.methodLink RX4 71 yX4_readNumber, Cond.instanceMethod yX4_readNumber, Cond.selects RX4 yX4_readNumber yX4_readNumber, Cond.code yX4_readNumber cX4_readNumber 5 (some .int), Cond.fieldLink RX4 22 "InterestNet$Text" "length" "I", Cond.fieldLink RX4 18 "InterestNet$Text" "codes" "[I", Cond.methodLink RX4 44 yX4_nextCode, Cond.instanceMethod yX4_nextCode, Cond.selects RX4 yX4_nextCode yX4_nextCode, Cond.code yX4_nextCode cX4_nextCode 1 (some .int), Cond.methodLink RX4 61 yX4_isDigit, Cond.static yX4_isDigit, Cond.code yX4_isDigit cX4_isDigit 1 (some .boolean), Cond.static yX5_isWithin, Cond.code yX5_isWithin cX5_isWithin 3 (some .boolean), Cond.methodLink RX4 48 yX4_readSign, Cond.instanceMethod yX4_readSign, Cond.selects RX4 yX4_readSign yX4_readSign]
def wsX4_readLink_r3 : List Cond := [Cond.code yX4_readSign cX4_readSign 2 (some .boolean), Cond.methodLink RX4 78 yX1_areLinked, Cond.instanceMethod yX1_areLinked, Cond.selects RX1 yX1_areLinked yX1_areLinked, Cond.code yX1_areLinked cX1_areLinked 4 (some .boolean), Cond.methodLink RX1 67 yX1_partOfLink, Cond.instanceMethod yX1_partOfLink, Cond.selects RX1 yX1_partOfLink yX1_partOfLink, Cond.code yX1_partOfLink cX1_partOfLink 3 (some .int), Cond.fieldLink RX1 18 "InterestNet$Net" "links" "[I", Cond.methodLink RX1 70 yX1_isPair, Cond.static yX1_isPair, Cond.code yX1_isPair cX1_isPair 4 (some .boolean), Cond.methodLink RX4 85 yX1_appendLink, Cond.instanceMethod yX1_appendLink, Cond.selects RX1 yX1_appendLink yX1_appendLink, Cond.code yX1_appendLink cX1_appendLink 5 (some .int), Cond.static yX5_put, Cond.code yX5_put cX5_put 3 none]
def wsX4_readLink : List Cond := .code yX4_readLink cX4_readLink 5 (some .boolean) :: ((wsX4_readLink_r1 ++ (wsX4_readLink_r2 ++ wsX4_readLink_r3)) ++ wsX40 ++ wsX10)
def wsX4_readItem_r1 : List Cond := [Cond.fieldLink RX4 34 "InterestNet$Text" "place" "I", Cond.methodLink RX4 44 yX4_nextCode, Cond.instanceMethod yX4_nextCode, Cond.selects RX4 yX4_nextCode yX4_nextCode, Cond.initialized RX4, Cond.code yX4_nextCode cX4_nextCode 1 (some .int), Cond.fieldLink RX4 22 "InterestNet$Text" "length" "I", Cond.fieldLink RX4 18 "InterestNet$Text" "codes" "[I", Cond.static yX5_at, Cond.initialized RX5, Cond.code yX5_at cX5_at 2 (some .int), Cond.methodLink RX4 55 yX4_readNode, Cond.instanceMethod yX4_readNode, Cond.selects RX4 yX4_readNode yX4_readNode, Cond.code yX4_readNode cX4_readNode 2 (some .boolean), Cond.fieldLink RX4 12 "InterestNet$Text" "draft" "LInterestNet$Net;", Cond.methodLink RX4 67 yX1_number, Cond.instanceMethod yX1_number, Cond.selects RX1 yX1_number yX1_number, Cond.initialized RX1, Cond.code yX1_number cX1_number 2 (some .int), Cond.fieldLink RX1 9 "InterestNet$Net" "numbers" "[I", Cond.methodLink RX1 41 yX1_aliveNodes, Cond.instanceMethod yX1_aliveNodes]
def wsX4_readItem_r2 : List Cond := [Cond.selects RX1 yX1_aliveNodes yX1_aliveNodes, Cond.code yX1_aliveNodes cX1_aliveNodes 3 (some .int), Cond.fieldLink RX1 15 "InterestNet$Net" "energies" "[I", Cond.methodLink RX1 45 yJ6_bitCount_0f7a4, Cond.static yJ6_bitCount_0f7a4, Cond.initialized RJ6, Cond.code yJ6_bitCount_0f7a4 cJ6_bitCount_0f7a4 1 (some .int), Cond.constant RJ6 265 (1431655765), Cond.constant RJ6 266 (858993459), Cond.constant RJ6 267 (252645135), Cond.methodLink RX4 52 yX4_refuse, Cond.instanceMethod yX4_refuse, Cond.selects RX4 yX4_refuse yX4_refuse, Cond.code yX4_refuse cX4_refuse 2 (some .boolean), Cond.fieldLink RX4 100 "InterestNet$Text" "fault" "I", Cond.methodLink RX4 48 yX4_readSign, Cond.instanceMethod yX4_readSign, Cond.selects RX4 yX4_readSign yX4_readSign, Cond.code yX4_readSign cX4_readSign 2 (some .boolean), Cond.methodLink RX4 71 yX4_readNumber, Cond.instanceMethod yX4_readNumber, Cond.selects RX4 yX4_readNumber yX4_readNumber, Cond.code yX4_readNumber cX4_readNumber 5 (some .int), Cond.fieldLink RX4 82 "InterestNet$Text" "numberPlace" "I"]
def wsX4_readItem_r3 : List Cond := [Cond.methodLink RX4 61 yX4_isDigit, Cond.static yX4_isDigit, Cond.code yX4_isDigit cX4_isDigit 1 (some .boolean), Cond.static yX5_isWithin, Cond.code yX5_isWithin cX5_isWithin 3 (some .boolean), Cond.methodLink RX4 75 yX1_appendNode, Cond.instanceMethod yX1_appendNode, Cond.selects RX1 yX1_appendNode yX1_appendNode, Cond.code yX1_appendNode cX1_appendNode 3 (some .int), Cond.static yX5_put, Cond.code yX5_put cX5_put 3 none, Cond.methodLink RX4 58 yX4_readSensor, Cond.instanceMethod yX4_readSensor, Cond.selects RX4 yX4_readSensor yX4_readSensor, Cond.code yX4_readSensor cX4_readSensor 5 (some .boolean), Cond.methodLink RX4 89 yX1_appendSensor, Cond.instanceMethod yX1_appendSensor, Cond.selects RX1 yX1_appendSensor yX1_appendSensor, Cond.code yX1_appendSensor cX1_appendSensor 5 (some .int), Cond.fieldLink RX1 21 "InterestNet$Net" "sensors" "[I", Cond.methodLink RX4 64 yX4_readLink, Cond.instanceMethod yX4_readLink, Cond.selects RX4 yX4_readLink yX4_readLink, Cond.code yX4_readLink cX4_readLink 5 (some .boolean)]
def wsX4_readItem_r4 : List Cond := [Cond.methodLink RX4 78 yX1_areLinked, Cond.instanceMethod yX1_areLinked, Cond.selects RX1 yX1_areLinked yX1_areLinked, Cond.code yX1_areLinked cX1_areLinked 4 (some .boolean), Cond.methodLink RX1 67 yX1_partOfLink, Cond.instanceMethod yX1_partOfLink, Cond.selects RX1 yX1_partOfLink yX1_partOfLink, Cond.code yX1_partOfLink cX1_partOfLink 3 (some .int), Cond.fieldLink RX1 18 "InterestNet$Net" "links" "[I", Cond.methodLink RX1 70 yX1_isPair, Cond.static yX1_isPair, Cond.code yX1_isPair cX1_isPair 4 (some .boolean), Cond.methodLink RX4 85 yX1_appendLink, Cond.instanceMethod yX1_appendLink, Cond.selects RX1 yX1_appendLink yX1_appendLink, Cond.code yX1_appendLink cX1_appendLink 5 (some .int)]
def wsX4_readItem : List Cond := .code yX4_readItem cX4_readItem 2 (some .boolean) :: ((wsX4_readItem_r1 ++ (wsX4_readItem_r2 ++ (wsX4_readItem_r3 ++ wsX4_readItem_r4))) ++ wsX40 ++ wsX10)
def wsX4_read_r1 : List Cond := [Cond.fieldLink RX4 12 "InterestNet$Text" "draft" "LInterestNet$Net;", Cond.fieldLink RX4 34 "InterestNet$Text" "place" "I", Cond.fieldLink RX4 37 "InterestNet$Text" "items" "I", Cond.methodLink RX4 30 yX1_copyFrom, Cond.instanceMethod yX1_copyFrom, Cond.selects RX1 yX1_copyFrom yX1_copyFrom, Cond.initialized RX1, Cond.code yX1_copyFrom cX1_copyFrom 2 none, Cond.fieldLink RX1 9 "InterestNet$Net" "numbers" "[I", Cond.fieldLink RX1 15 "InterestNet$Net" "energies" "[I", Cond.fieldLink RX1 18 "InterestNet$Net" "links" "[I", Cond.fieldLink RX1 21 "InterestNet$Net" "sensors" "[I", Cond.fieldLink RX1 24 "InterestNet$Net" "interests" "[I", Cond.fieldLink RX1 27 "InterestNet$Net" "wayLengths" "[I", Cond.fieldLink RX1 30 "InterestNet$Net" "wayNodes" "[I", Cond.static yX5_copy, Cond.initialized RX5, Cond.code yX5_copy cX5_copy 2 none, Cond.methodLink RX5 195 Lib.Math.min.name, Cond.static Lib.Math.min.name, Cond.initialized "java/lang/Math", Cond.code Lib.Math.min.name Lib.Math.min.code 2 (some .int), Cond.methodLink RX5 200 arraycopyName, Cond.native arraycopyName]
def wsX4_read_r2 : List Cond := [Cond.static arraycopyName, Cond.initialized "java/lang/System", Cond.methodLink RX4 40 yX4_readItem, Cond.instanceMethod yX4_readItem, Cond.selects RX4 yX4_readItem yX4_readItem, Cond.initialized RX4, Cond.code yX4_readItem cX4_readItem 2 (some .boolean), Cond.methodLink RX4 44 yX4_nextCode, Cond.instanceMethod yX4_nextCode, Cond.selects RX4 yX4_nextCode yX4_nextCode, Cond.code yX4_nextCode cX4_nextCode 1 (some .int), Cond.fieldLink RX4 22 "InterestNet$Text" "length" "I", Cond.fieldLink RX4 18 "InterestNet$Text" "codes" "[I", Cond.static yX5_at, Cond.code yX5_at cX5_at 2 (some .int), Cond.methodLink RX4 55 yX4_readNode, Cond.instanceMethod yX4_readNode, Cond.selects RX4 yX4_readNode yX4_readNode, Cond.code yX4_readNode cX4_readNode 2 (some .boolean), Cond.methodLink RX4 67 yX1_number, Cond.instanceMethod yX1_number, Cond.selects RX1 yX1_number yX1_number, Cond.code yX1_number cX1_number 2 (some .int), Cond.methodLink RX1 41 yX1_aliveNodes]
def wsX4_read_r3 : List Cond := [Cond.instanceMethod yX1_aliveNodes, Cond.selects RX1 yX1_aliveNodes yX1_aliveNodes, Cond.code yX1_aliveNodes cX1_aliveNodes 3 (some .int), Cond.methodLink RX1 45 yJ6_bitCount_0f7a4, Cond.static yJ6_bitCount_0f7a4, Cond.initialized RJ6, Cond.code yJ6_bitCount_0f7a4 cJ6_bitCount_0f7a4 1 (some .int), Cond.constant RJ6 265 (1431655765), Cond.constant RJ6 266 (858993459), Cond.constant RJ6 267 (252645135), Cond.methodLink RX4 52 yX4_refuse, Cond.instanceMethod yX4_refuse, Cond.selects RX4 yX4_refuse yX4_refuse, Cond.code yX4_refuse cX4_refuse 2 (some .boolean), Cond.fieldLink RX4 100 "InterestNet$Text" "fault" "I", Cond.methodLink RX4 48 yX4_readSign, Cond.instanceMethod yX4_readSign, Cond.selects RX4 yX4_readSign yX4_readSign, Cond.code yX4_readSign cX4_readSign 2 (some .boolean), Cond.methodLink RX4 71 yX4_readNumber, Cond.instanceMethod yX4_readNumber, Cond.selects RX4 yX4_readNumber yX4_readNumber, Cond.code yX4_readNumber cX4_readNumber 5 (some .int), Cond.fieldLink RX4 82 "InterestNet$Text" "numberPlace" "I"]
def wsX4_read_r4 : List Cond := [Cond.methodLink RX4 61 yX4_isDigit, Cond.static yX4_isDigit, Cond.code yX4_isDigit cX4_isDigit 1 (some .boolean), Cond.static yX5_isWithin, Cond.code yX5_isWithin cX5_isWithin 3 (some .boolean), Cond.methodLink RX4 75 yX1_appendNode, Cond.instanceMethod yX1_appendNode, Cond.selects RX1 yX1_appendNode yX1_appendNode, Cond.code yX1_appendNode cX1_appendNode 3 (some .int), Cond.static yX5_put, Cond.code yX5_put cX5_put 3 none, Cond.methodLink RX4 58 yX4_readSensor, Cond.instanceMethod yX4_readSensor, Cond.selects RX4 yX4_readSensor yX4_readSensor, Cond.code yX4_readSensor cX4_readSensor 5 (some .boolean), Cond.methodLink RX4 89 yX1_appendSensor, Cond.instanceMethod yX1_appendSensor, Cond.selects RX1 yX1_appendSensor yX1_appendSensor, Cond.code yX1_appendSensor cX1_appendSensor 5 (some .int), Cond.methodLink RX4 64 yX4_readLink, Cond.instanceMethod yX4_readLink, Cond.selects RX4 yX4_readLink yX4_readLink, Cond.code yX4_readLink cX4_readLink 5 (some .boolean), Cond.methodLink RX4 78 yX1_areLinked]
def wsX4_read_r5 : List Cond := [Cond.instanceMethod yX1_areLinked, Cond.selects RX1 yX1_areLinked yX1_areLinked, Cond.code yX1_areLinked cX1_areLinked 4 (some .boolean), Cond.methodLink RX1 67 yX1_partOfLink, Cond.instanceMethod yX1_partOfLink, Cond.selects RX1 yX1_partOfLink yX1_partOfLink, Cond.code yX1_partOfLink cX1_partOfLink 3 (some .int), Cond.methodLink RX1 70 yX1_isPair, Cond.static yX1_isPair, Cond.code yX1_isPair cX1_isPair 4 (some .boolean), Cond.methodLink RX4 85 yX1_appendLink, Cond.instanceMethod yX1_appendLink, Cond.selects RX1 yX1_appendLink yX1_appendLink, Cond.code yX1_appendLink cX1_appendLink 5 (some .int)]
def wsX4_read : List Cond := .code yX4_read cX4_read 3 (some .boolean) :: ((wsX4_read_r1 ++ (wsX4_read_r2 ++ (wsX4_read_r3 ++ (wsX4_read_r4 ++ wsX4_read_r5)))) ++ wsX40 ++ wsX10)
def wsX5_init_r1 : List Cond := [Cond.methodLink RX5 1 objectInit, Cond.instanceMethod objectInit, Cond.code objectInit ⟨#[0xb1]⟩ 1 none, Cond.classLink RX5 7 RX1, Cond.instantiable RX1 7, Cond.initialized RX1, Cond.fieldLink RX5 10 "InterestNet" "net" "LInterestNet$Net;", Cond.classLink RX5 16 RX3, Cond.instantiable RX3 4, Cond.initialized RX3, Cond.fieldLink RX5 19 "InterestNet" "runner" "LInterestNet$Runner;", Cond.classLink RX5 23 RX2, Cond.instantiable RX2 5, Cond.initialized RX2, Cond.fieldLink RX5 26 "InterestNet" "paths" "LInterestNet$Paths;", Cond.classLink RX5 30 RX0, Cond.instantiable RX0 3, Cond.initialized RX0, Cond.fieldLink RX5 33 "InterestNet" "history" "LInterestNet$History;", Cond.classLink RX5 37 RX4, Cond.instantiable RX4 7, Cond.initialized RX4, Cond.fieldLink RX5 40 "InterestNet" "text" "LInterestNet$Text;", Cond.methodLink RX5 9 yX1_init]
def wsX5_init_r2 : List Cond := [Cond.instanceMethod yX1_init, Cond.code yX1_init cX1_init 1 none, Cond.methodLink RX1 3 objectInit, Cond.arrayClass .int, Cond.fieldLink RX1 9 "InterestNet$Net" "numbers" "[I", Cond.fieldLink RX1 15 "InterestNet$Net" "energies" "[I", Cond.fieldLink RX1 18 "InterestNet$Net" "links" "[I", Cond.fieldLink RX1 21 "InterestNet$Net" "sensors" "[I", Cond.fieldLink RX1 24 "InterestNet$Net" "interests" "[I", Cond.fieldLink RX1 27 "InterestNet$Net" "wayLengths" "[I", Cond.fieldLink RX1 30 "InterestNet$Net" "wayNodes" "[I", Cond.static yX5_put, Cond.initialized RX5, Cond.code yX5_put cX5_put 3 none, Cond.instanceMethod yX3_init, Cond.code yX3_init cX3_init 1 none, Cond.methodLink RX3 3 objectInit, Cond.classLink RX3 9 RX1, Cond.fieldLink RX3 12 "InterestNet$Runner" "draft" "LInterestNet$Net;", Cond.classLink RX3 18 RX2, Cond.fieldLink RX3 21 "InterestNet$Runner" "paths" "LInterestNet$Paths;", Cond.fieldLink RX3 25 "InterestNet$Runner" "newWay" "[I", Cond.fieldLink RX3 29 "InterestNet$Runner" "sentTo" "[I", Cond.methodLink RX3 11 yX1_init]
def wsX5_init_r3 : List Cond := [Cond.instanceMethod yX2_init, Cond.code yX2_init cX2_init 1 none, Cond.methodLink RX2 3 objectInit, Cond.fieldLink RX2 9 "InterestNet$Paths" "delays" "[I", Cond.fieldLink RX2 15 "InterestNet$Paths" "exploredAmong" "[I", Cond.fieldLink RX2 18 "InterestNet$Paths" "reached" "[I", Cond.fieldLink RX2 21 "InterestNet$Paths" "times" "[I", Cond.fieldLink RX2 24 "InterestNet$Paths" "nodesBefore" "[I", Cond.methodLink RX5 32 yX0_init, Cond.instanceMethod yX0_init, Cond.code yX0_init cX0_init 2 none, Cond.methodLink RX0 3 objectInit, Cond.classLink RX0 9 RX1, Cond.fieldLink RX0 11 "InterestNet$History" "states" "[LInterestNet$Net;", Cond.methodLink RX0 17 yX1_init, Cond.instanceMethod yX4_init, Cond.code yX4_init cX4_init 1 none, Cond.methodLink RX4 3 objectInit, Cond.classLink RX4 9 RX1, Cond.fieldLink RX4 12 "InterestNet$Text" "draft" "LInterestNet$Net;", Cond.fieldLink RX4 18 "InterestNet$Text" "codes" "[I", Cond.methodLink RX4 11 yX1_init]
def wsX5_init : List Cond := .code yX5_init cX5_init 1 none :: ((wsX5_init_r1 ++ (wsX5_init_r2 ++ wsX5_init_r3)) ++ wsX10 ++ wsX50 ++ wsX30 ++ wsX20 ++ wsX00 ++ wsX40)
def wsX5_addNode_r1 : List Cond := [Cond.fieldLink RX5 10 "InterestNet" "net" "LInterestNet$Net;", Cond.fieldLink RX5 33 "InterestNet" "history" "LInterestNet$History;", Cond.methodLink RX5 44 yX5_isWithin, Cond.static yX5_isWithin, Cond.initialized RX5, Cond.code yX5_isWithin cX5_isWithin 3 (some .boolean), Cond.methodLink RX5 48 yX1_number, Cond.instanceMethod yX1_number, Cond.selects RX1 yX1_number yX1_number, Cond.initialized RX1, Cond.code yX1_number cX1_number 2 (some .int), Cond.fieldLink RX1 9 "InterestNet$Net" "numbers" "[I", Cond.methodLink RX1 41 yX1_aliveNodes, Cond.instanceMethod yX1_aliveNodes, Cond.selects RX1 yX1_aliveNodes yX1_aliveNodes, Cond.code yX1_aliveNodes cX1_aliveNodes 3 (some .int), Cond.fieldLink RX1 15 "InterestNet$Net" "energies" "[I", Cond.static yX5_at, Cond.code yX5_at cX5_at 2 (some .int), Cond.methodLink RX1 45 yJ6_bitCount_0f7a4, Cond.static yJ6_bitCount_0f7a4, Cond.initialized RJ6, Cond.code yJ6_bitCount_0f7a4 cJ6_bitCount_0f7a4 1 (some .int), Cond.constant RJ6 265 (1431655765)]
def wsX5_addNode_r2 : List Cond := [Cond.constant RJ6 266 (858993459), Cond.constant RJ6 267 (252645135), Cond.methodLink RX5 52 yX0_record, Cond.instanceMethod yX0_record, Cond.selects RX0 yX0_record yX0_record, Cond.initialized RX0, Cond.code yX0_record cX0_record 3 none, Cond.fieldLink RX0 18 "InterestNet$History" "size" "I", Cond.fieldLink RX0 22 "InterestNet$History" "oldest" "I", Cond.methodLink RX0 25 yX0_stateAt, Cond.instanceMethod yX0_stateAt, Cond.selects RX0 yX0_stateAt yX0_stateAt, Cond.code yX0_stateAt cX0_stateAt 3 (some (.object "InterestNet$Net")), Cond.fieldLink RX0 11 "InterestNet$History" "states" "[LInterestNet$Net;", Cond.methodLink RX0 29 yX1_copyFrom, Cond.instanceMethod yX1_copyFrom, Cond.selects RX1 yX1_copyFrom yX1_copyFrom, Cond.code yX1_copyFrom cX1_copyFrom 2 none, Cond.fieldLink RX1 18 "InterestNet$Net" "links" "[I", Cond.fieldLink RX1 21 "InterestNet$Net" "sensors" "[I", Cond.fieldLink RX1 24 "InterestNet$Net" "interests" "[I", Cond.fieldLink RX1 27 "InterestNet$Net" "wayLengths" "[I", Cond.fieldLink RX1 30 "InterestNet$Net" "wayNodes" "[I", Cond.static yX5_copy]
def wsX5_addNode_r3 : List Cond := [Cond.code yX5_copy cX5_copy 2 none, Cond.methodLink RX5 195 Lib.Math.min.name, Cond.static Lib.Math.min.name, Cond.initialized "java/lang/Math", Cond.code Lib.Math.min.name Lib.Math.min.code 2 (some .int), Cond.methodLink RX5 200 arraycopyName, Cond.native arraycopyName, Cond.static arraycopyName, Cond.initialized "java/lang/System", Cond.methodLink RX5 56 yX1_appendNode, Cond.instanceMethod yX1_appendNode, Cond.selects RX1 yX1_appendNode yX1_appendNode, Cond.code yX1_appendNode cX1_appendNode 3 (some .int), Cond.static yX5_put, Cond.code yX5_put cX5_put 3 none]
def wsX5_addNode : List Cond := .code yX5_addNode cX5_addNode 2 (some .int) :: ((wsX5_addNode_r1 ++ (wsX5_addNode_r2 ++ wsX5_addNode_r3)) ++ wsX50 ++ wsX10 ++ wsX00)
def wsX5_charge_r1 : List Cond := [Cond.fieldLink RX5 10 "InterestNet" "net" "LInterestNet$Net;", Cond.fieldLink RX5 33 "InterestNet" "history" "LInterestNet$History;", Cond.methodLink RX5 59 yX1_has, Cond.instanceMethod yX1_has, Cond.selects RX1 yX1_has yX1_has, Cond.initialized RX1, Cond.code yX1_has cX1_has 3 (some .boolean), Cond.fieldLink RX1 9 "InterestNet$Net" "numbers" "[I", Cond.static yX5_at, Cond.initialized RX5, Cond.code yX5_at cX5_at 2 (some .int), Cond.methodLink RX5 44 yX5_isWithin, Cond.static yX5_isWithin, Cond.code yX5_isWithin cX5_isWithin 3 (some .boolean), Cond.methodLink RX5 52 yX0_record, Cond.instanceMethod yX0_record, Cond.selects RX0 yX0_record yX0_record, Cond.initialized RX0, Cond.code yX0_record cX0_record 3 none, Cond.fieldLink RX0 18 "InterestNet$History" "size" "I", Cond.fieldLink RX0 22 "InterestNet$History" "oldest" "I", Cond.methodLink RX0 25 yX0_stateAt, Cond.instanceMethod yX0_stateAt, Cond.selects RX0 yX0_stateAt yX0_stateAt]
def wsX5_charge_r2 : List Cond := [Cond.code yX0_stateAt cX0_stateAt 3 (some (.object "InterestNet$Net")), Cond.fieldLink RX0 11 "InterestNet$History" "states" "[LInterestNet$Net;", Cond.methodLink RX0 29 yX1_copyFrom, Cond.instanceMethod yX1_copyFrom, Cond.selects RX1 yX1_copyFrom yX1_copyFrom, Cond.code yX1_copyFrom cX1_copyFrom 2 none, Cond.fieldLink RX1 15 "InterestNet$Net" "energies" "[I", Cond.fieldLink RX1 18 "InterestNet$Net" "links" "[I", Cond.fieldLink RX1 21 "InterestNet$Net" "sensors" "[I", Cond.fieldLink RX1 24 "InterestNet$Net" "interests" "[I", Cond.fieldLink RX1 27 "InterestNet$Net" "wayLengths" "[I", Cond.fieldLink RX1 30 "InterestNet$Net" "wayNodes" "[I", Cond.static yX5_copy, Cond.code yX5_copy cX5_copy 2 none, Cond.methodLink RX5 195 Lib.Math.min.name, Cond.static Lib.Math.min.name, Cond.initialized "java/lang/Math", Cond.code Lib.Math.min.name Lib.Math.min.code 2 (some .int), Cond.methodLink RX5 200 arraycopyName, Cond.native arraycopyName, Cond.static arraycopyName, Cond.initialized "java/lang/System", Cond.methodLink RX5 63 yX1_energyOf, Cond.instanceMethod yX1_energyOf]
def wsX5_charge_r3 : List Cond := [Cond.selects RX1 yX1_energyOf yX1_energyOf, Cond.code yX1_energyOf cX1_energyOf 2 (some .int), Cond.methodLink RX5 66 yX1_setEnergy, Cond.instanceMethod yX1_setEnergy, Cond.selects RX1 yX1_setEnergy yX1_setEnergy, Cond.code yX1_setEnergy cX1_setEnergy 3 none, Cond.static yX5_put, Cond.code yX5_put cX5_put 3 none]
def wsX5_charge : List Cond := .code yX5_charge cX5_charge 4 (some .int) :: ((wsX5_charge_r1 ++ (wsX5_charge_r2 ++ wsX5_charge_r3)) ++ wsX50 ++ wsX10 ++ wsX00)
def wsX5_link_r1 : List Cond := [Cond.fieldLink RX5 10 "InterestNet" "net" "LInterestNet$Net;", Cond.fieldLink RX5 33 "InterestNet" "history" "LInterestNet$History;", Cond.methodLink RX5 59 yX1_has, Cond.instanceMethod yX1_has, Cond.selects RX1 yX1_has yX1_has, Cond.initialized RX1, Cond.code yX1_has cX1_has 3 (some .boolean), Cond.fieldLink RX1 9 "InterestNet$Net" "numbers" "[I", Cond.static yX5_at, Cond.initialized RX5, Cond.code yX5_at cX5_at 2 (some .int), Cond.methodLink RX5 44 yX5_isWithin, Cond.static yX5_isWithin, Cond.code yX5_isWithin cX5_isWithin 3 (some .boolean), Cond.methodLink RX5 70 yX1_areLinked, Cond.instanceMethod yX1_areLinked, Cond.selects RX1 yX1_areLinked yX1_areLinked, Cond.code yX1_areLinked cX1_areLinked 4 (some .boolean), Cond.methodLink RX1 67 yX1_partOfLink, Cond.instanceMethod yX1_partOfLink, Cond.selects RX1 yX1_partOfLink yX1_partOfLink, Cond.code yX1_partOfLink cX1_partOfLink 3 (some .int), Cond.fieldLink RX1 18 "InterestNet$Net" "links" "[I", Cond.methodLink RX1 70 yX1_isPair]
def wsX5_link_r2 : List Cond := [Cond.static yX1_isPair, Cond.code yX1_isPair cX1_isPair 4 (some .boolean), Cond.methodLink RX5 48 yX1_number, Cond.instanceMethod yX1_number, Cond.selects RX1 yX1_number yX1_number, Cond.code yX1_number cX1_number 2 (some .int), Cond.methodLink RX1 41 yX1_aliveNodes, Cond.instanceMethod yX1_aliveNodes, Cond.selects RX1 yX1_aliveNodes yX1_aliveNodes, Cond.code yX1_aliveNodes cX1_aliveNodes 3 (some .int), Cond.fieldLink RX1 15 "InterestNet$Net" "energies" "[I", Cond.methodLink RX1 45 yJ6_bitCount_0f7a4, Cond.static yJ6_bitCount_0f7a4, Cond.initialized RJ6, Cond.code yJ6_bitCount_0f7a4 cJ6_bitCount_0f7a4 1 (some .int), Cond.constant RJ6 265 (1431655765), Cond.constant RJ6 266 (858993459), Cond.constant RJ6 267 (252645135), Cond.methodLink RX5 52 yX0_record, Cond.instanceMethod yX0_record, Cond.selects RX0 yX0_record yX0_record, Cond.initialized RX0, Cond.code yX0_record cX0_record 3 none, Cond.fieldLink RX0 18 "InterestNet$History" "size" "I"]
def wsX5_link_r3 : List Cond := [Cond.fieldLink RX0 22 "InterestNet$History" "oldest" "I", Cond.methodLink RX0 25 yX0_stateAt, Cond.instanceMethod yX0_stateAt, Cond.selects RX0 yX0_stateAt yX0_stateAt, Cond.code yX0_stateAt cX0_stateAt 3 (some (.object "InterestNet$Net")), Cond.fieldLink RX0 11 "InterestNet$History" "states" "[LInterestNet$Net;", Cond.methodLink RX0 29 yX1_copyFrom, Cond.instanceMethod yX1_copyFrom, Cond.selects RX1 yX1_copyFrom yX1_copyFrom, Cond.code yX1_copyFrom cX1_copyFrom 2 none, Cond.fieldLink RX1 21 "InterestNet$Net" "sensors" "[I", Cond.fieldLink RX1 24 "InterestNet$Net" "interests" "[I", Cond.fieldLink RX1 27 "InterestNet$Net" "wayLengths" "[I", Cond.fieldLink RX1 30 "InterestNet$Net" "wayNodes" "[I", Cond.static yX5_copy, Cond.code yX5_copy cX5_copy 2 none, Cond.methodLink RX5 195 Lib.Math.min.name, Cond.static Lib.Math.min.name, Cond.initialized "java/lang/Math", Cond.code Lib.Math.min.name Lib.Math.min.code 2 (some .int), Cond.methodLink RX5 200 arraycopyName, Cond.native arraycopyName, Cond.static arraycopyName, Cond.initialized "java/lang/System"]
def wsX5_link_r4 : List Cond := [Cond.methodLink RX5 73 yX1_appendLink, Cond.instanceMethod yX1_appendLink, Cond.selects RX1 yX1_appendLink yX1_appendLink, Cond.code yX1_appendLink cX1_appendLink 5 (some .int), Cond.static yX5_put, Cond.code yX5_put cX5_put 3 none]
def wsX5_link : List Cond := .code yX5_link cX5_link 4 (some .int) :: ((wsX5_link_r1 ++ (wsX5_link_r2 ++ (wsX5_link_r3 ++ wsX5_link_r4))) ++ wsX50 ++ wsX10 ++ wsX00)
def wsX5_cut_r1 : List Cond := [Cond.fieldLink RX5 10 "InterestNet" "net" "LInterestNet$Net;", Cond.fieldLink RX5 33 "InterestNet" "history" "LInterestNet$History;", Cond.methodLink RX5 59 yX1_has, Cond.instanceMethod yX1_has, Cond.selects RX1 yX1_has yX1_has, Cond.initialized RX1, Cond.code yX1_has cX1_has 3 (some .boolean), Cond.fieldLink RX1 9 "InterestNet$Net" "numbers" "[I", Cond.static yX5_at, Cond.initialized RX5, Cond.code yX5_at cX5_at 2 (some .int), Cond.methodLink RX5 52 yX0_record, Cond.instanceMethod yX0_record, Cond.selects RX0 yX0_record yX0_record, Cond.initialized RX0, Cond.code yX0_record cX0_record 3 none, Cond.fieldLink RX0 18 "InterestNet$History" "size" "I", Cond.fieldLink RX0 22 "InterestNet$History" "oldest" "I", Cond.methodLink RX0 25 yX0_stateAt, Cond.instanceMethod yX0_stateAt, Cond.selects RX0 yX0_stateAt yX0_stateAt, Cond.code yX0_stateAt cX0_stateAt 3 (some (.object "InterestNet$Net")), Cond.fieldLink RX0 11 "InterestNet$History" "states" "[LInterestNet$Net;", Cond.methodLink RX0 29 yX1_copyFrom]
def wsX5_cut_r2 : List Cond := [Cond.instanceMethod yX1_copyFrom, Cond.selects RX1 yX1_copyFrom yX1_copyFrom, Cond.code yX1_copyFrom cX1_copyFrom 2 none, Cond.fieldLink RX1 15 "InterestNet$Net" "energies" "[I", Cond.fieldLink RX1 18 "InterestNet$Net" "links" "[I", Cond.fieldLink RX1 21 "InterestNet$Net" "sensors" "[I", Cond.fieldLink RX1 24 "InterestNet$Net" "interests" "[I", Cond.fieldLink RX1 27 "InterestNet$Net" "wayLengths" "[I", Cond.fieldLink RX1 30 "InterestNet$Net" "wayNodes" "[I", Cond.static yX5_copy, Cond.code yX5_copy cX5_copy 2 none, Cond.methodLink RX5 195 Lib.Math.min.name, Cond.static Lib.Math.min.name, Cond.initialized "java/lang/Math", Cond.code Lib.Math.min.name Lib.Math.min.code 2 (some .int), Cond.methodLink RX5 200 arraycopyName, Cond.native arraycopyName, Cond.static arraycopyName, Cond.initialized "java/lang/System", Cond.methodLink RX5 77 yX1_removeLink, Cond.instanceMethod yX1_removeLink, Cond.selects RX1 yX1_removeLink yX1_removeLink, Cond.code yX1_removeLink cX1_removeLink 2 (some .int), Cond.static yX5_removePiece]
def wsX5_cut_r3 : List Cond := [Cond.code yX5_removePiece cX5_removePiece 4 none, Cond.methodLink RX5 187 yX5_at, Cond.methodLink RX5 191 yX5_put, Cond.static yX5_put, Cond.code yX5_put cX5_put 3 none, Cond.static yX5_increase, Cond.code yX5_increase cX5_increase 3 none]
def wsX5_cut : List Cond := .code yX5_cut cX5_cut 2 (some .int) :: ((wsX5_cut_r1 ++ (wsX5_cut_r2 ++ wsX5_cut_r3)) ++ wsX50 ++ wsX10 ++ wsX00)
def wsX5_addSensor_r1 : List Cond := [Cond.fieldLink RX5 10 "InterestNet" "net" "LInterestNet$Net;", Cond.fieldLink RX5 33 "InterestNet" "history" "LInterestNet$History;", Cond.methodLink RX5 59 yX1_has, Cond.instanceMethod yX1_has, Cond.selects RX1 yX1_has yX1_has, Cond.initialized RX1, Cond.code yX1_has cX1_has 3 (some .boolean), Cond.fieldLink RX1 9 "InterestNet$Net" "numbers" "[I", Cond.static yX5_at, Cond.initialized RX5, Cond.code yX5_at cX5_at 2 (some .int), Cond.methodLink RX5 44 yX5_isWithin, Cond.static yX5_isWithin, Cond.code yX5_isWithin cX5_isWithin 3 (some .boolean), Cond.methodLink RX5 48 yX1_number, Cond.instanceMethod yX1_number, Cond.selects RX1 yX1_number yX1_number, Cond.code yX1_number cX1_number 2 (some .int), Cond.methodLink RX1 41 yX1_aliveNodes, Cond.instanceMethod yX1_aliveNodes, Cond.selects RX1 yX1_aliveNodes yX1_aliveNodes, Cond.code yX1_aliveNodes cX1_aliveNodes 3 (some .int), Cond.fieldLink RX1 15 "InterestNet$Net" "energies" "[I", Cond.methodLink RX1 45 yJ6_bitCount_0f7a4]
def wsX5_addSensor_r2 : List Cond := [Cond.static yJ6_bitCount_0f7a4, Cond.initialized RJ6, Cond.code yJ6_bitCount_0f7a4 cJ6_bitCount_0f7a4 1 (some .int), Cond.constant RJ6 265 (1431655765), Cond.constant RJ6 266 (858993459), Cond.constant RJ6 267 (252645135), Cond.methodLink RX5 52 yX0_record, Cond.instanceMethod yX0_record, Cond.selects RX0 yX0_record yX0_record, Cond.initialized RX0, Cond.code yX0_record cX0_record 3 none, Cond.fieldLink RX0 18 "InterestNet$History" "size" "I", Cond.fieldLink RX0 22 "InterestNet$History" "oldest" "I", Cond.methodLink RX0 25 yX0_stateAt, Cond.instanceMethod yX0_stateAt, Cond.selects RX0 yX0_stateAt yX0_stateAt, Cond.code yX0_stateAt cX0_stateAt 3 (some (.object "InterestNet$Net")), Cond.fieldLink RX0 11 "InterestNet$History" "states" "[LInterestNet$Net;", Cond.methodLink RX0 29 yX1_copyFrom, Cond.instanceMethod yX1_copyFrom, Cond.selects RX1 yX1_copyFrom yX1_copyFrom, Cond.code yX1_copyFrom cX1_copyFrom 2 none, Cond.fieldLink RX1 18 "InterestNet$Net" "links" "[I", Cond.fieldLink RX1 21 "InterestNet$Net" "sensors" "[I"]
def wsX5_addSensor_r3 : List Cond := [Cond.fieldLink RX1 24 "InterestNet$Net" "interests" "[I", Cond.fieldLink RX1 27 "InterestNet$Net" "wayLengths" "[I", Cond.fieldLink RX1 30 "InterestNet$Net" "wayNodes" "[I", Cond.static yX5_copy, Cond.code yX5_copy cX5_copy 2 none, Cond.methodLink RX5 195 Lib.Math.min.name, Cond.static Lib.Math.min.name, Cond.initialized "java/lang/Math", Cond.code Lib.Math.min.name Lib.Math.min.code 2 (some .int), Cond.methodLink RX5 200 arraycopyName, Cond.native arraycopyName, Cond.static arraycopyName, Cond.initialized "java/lang/System", Cond.methodLink RX5 80 yX1_appendSensor, Cond.instanceMethod yX1_appendSensor, Cond.selects RX1 yX1_appendSensor yX1_appendSensor, Cond.code yX1_appendSensor cX1_appendSensor 5 (some .int), Cond.static yX5_put, Cond.code yX5_put cX5_put 3 none]
def wsX5_addSensor : List Cond := .code yX5_addSensor cX5_addSensor 4 (some .int) :: ((wsX5_addSensor_r1 ++ (wsX5_addSensor_r2 ++ wsX5_addSensor_r3)) ++ wsX50 ++ wsX10 ++ wsX00)
def wsX5_measure_r1 : List Cond := [Cond.fieldLink RX5 10 "InterestNet" "net" "LInterestNet$Net;", Cond.fieldLink RX5 33 "InterestNet" "history" "LInterestNet$History;", Cond.methodLink RX5 59 yX1_has, Cond.instanceMethod yX1_has, Cond.selects RX1 yX1_has yX1_has, Cond.initialized RX1, Cond.code yX1_has cX1_has 3 (some .boolean), Cond.fieldLink RX1 9 "InterestNet$Net" "numbers" "[I", Cond.static yX5_at, Cond.initialized RX5, Cond.code yX5_at cX5_at 2 (some .int), Cond.methodLink RX5 44 yX5_isWithin, Cond.static yX5_isWithin, Cond.code yX5_isWithin cX5_isWithin 3 (some .boolean), Cond.methodLink RX5 52 yX0_record, Cond.instanceMethod yX0_record, Cond.selects RX0 yX0_record yX0_record, Cond.initialized RX0, Cond.code yX0_record cX0_record 3 none, Cond.fieldLink RX0 18 "InterestNet$History" "size" "I", Cond.fieldLink RX0 22 "InterestNet$History" "oldest" "I", Cond.methodLink RX0 25 yX0_stateAt, Cond.instanceMethod yX0_stateAt, Cond.selects RX0 yX0_stateAt yX0_stateAt]
def wsX5_measure_r2 : List Cond := [Cond.code yX0_stateAt cX0_stateAt 3 (some (.object "InterestNet$Net")), Cond.fieldLink RX0 11 "InterestNet$History" "states" "[LInterestNet$Net;", Cond.methodLink RX0 29 yX1_copyFrom, Cond.instanceMethod yX1_copyFrom, Cond.selects RX1 yX1_copyFrom yX1_copyFrom, Cond.code yX1_copyFrom cX1_copyFrom 2 none, Cond.fieldLink RX1 15 "InterestNet$Net" "energies" "[I", Cond.fieldLink RX1 18 "InterestNet$Net" "links" "[I", Cond.fieldLink RX1 21 "InterestNet$Net" "sensors" "[I", Cond.fieldLink RX1 24 "InterestNet$Net" "interests" "[I", Cond.fieldLink RX1 27 "InterestNet$Net" "wayLengths" "[I", Cond.fieldLink RX1 30 "InterestNet$Net" "wayNodes" "[I", Cond.static yX5_copy, Cond.code yX5_copy cX5_copy 2 none, Cond.methodLink RX5 195 Lib.Math.min.name, Cond.static Lib.Math.min.name, Cond.initialized "java/lang/Math", Cond.code Lib.Math.min.name Lib.Math.min.code 2 (some .int), Cond.methodLink RX5 200 arraycopyName, Cond.native arraycopyName, Cond.static arraycopyName, Cond.initialized "java/lang/System", Cond.methodLink RX5 83 yX1_sensorPart, Cond.instanceMethod yX1_sensorPart]
def wsX5_measure_r3 : List Cond := [Cond.selects RX1 yX1_sensorPart yX1_sensorPart, Cond.code yX1_sensorPart cX1_sensorPart 3 (some .int), Cond.methodLink RX5 87 yX1_setValue, Cond.instanceMethod yX1_setValue, Cond.selects RX1 yX1_setValue yX1_setValue, Cond.code yX1_setValue cX1_setValue 3 none, Cond.static yX5_put, Cond.code yX5_put cX5_put 3 none]
def wsX5_measure : List Cond := .code yX5_measure cX5_measure 4 (some .int) :: ((wsX5_measure_r1 ++ (wsX5_measure_r2 ++ wsX5_measure_r3)) ++ wsX50 ++ wsX10 ++ wsX00)
def wsX5_ask_r1 : List Cond := [Cond.fieldLink RX5 10 "InterestNet" "net" "LInterestNet$Net;", Cond.constant RX5 90 (100000), Cond.fieldLink RX5 33 "InterestNet" "history" "LInterestNet$History;", Cond.methodLink RX5 59 yX1_has, Cond.instanceMethod yX1_has, Cond.selects RX1 yX1_has yX1_has, Cond.initialized RX1, Cond.code yX1_has cX1_has 3 (some .boolean), Cond.fieldLink RX1 9 "InterestNet$Net" "numbers" "[I", Cond.static yX5_at, Cond.initialized RX5, Cond.code yX5_at cX5_at 2 (some .int), Cond.methodLink RX5 44 yX5_isWithin, Cond.static yX5_isWithin, Cond.code yX5_isWithin cX5_isWithin 3 (some .boolean), Cond.methodLink RX5 48 yX1_number, Cond.instanceMethod yX1_number, Cond.selects RX1 yX1_number yX1_number, Cond.code yX1_number cX1_number 2 (some .int), Cond.methodLink RX1 41 yX1_aliveNodes, Cond.instanceMethod yX1_aliveNodes, Cond.selects RX1 yX1_aliveNodes yX1_aliveNodes, Cond.code yX1_aliveNodes cX1_aliveNodes 3 (some .int), Cond.fieldLink RX1 15 "InterestNet$Net" "energies" "[I"]
def wsX5_ask_r2 : List Cond := [Cond.methodLink RX1 45 yJ6_bitCount_0f7a4, Cond.static yJ6_bitCount_0f7a4, Cond.initialized RJ6, Cond.code yJ6_bitCount_0f7a4 cJ6_bitCount_0f7a4 1 (some .int), Cond.constant RJ6 265 (1431655765), Cond.constant RJ6 266 (858993459), Cond.constant RJ6 267 (252645135), Cond.methodLink RX5 52 yX0_record, Cond.instanceMethod yX0_record, Cond.selects RX0 yX0_record yX0_record, Cond.initialized RX0, Cond.code yX0_record cX0_record 3 none, Cond.fieldLink RX0 18 "InterestNet$History" "size" "I", Cond.fieldLink RX0 22 "InterestNet$History" "oldest" "I", Cond.methodLink RX0 25 yX0_stateAt, Cond.instanceMethod yX0_stateAt, Cond.selects RX0 yX0_stateAt yX0_stateAt, Cond.code yX0_stateAt cX0_stateAt 3 (some (.object "InterestNet$Net")), Cond.fieldLink RX0 11 "InterestNet$History" "states" "[LInterestNet$Net;", Cond.methodLink RX0 29 yX1_copyFrom, Cond.instanceMethod yX1_copyFrom, Cond.selects RX1 yX1_copyFrom yX1_copyFrom, Cond.code yX1_copyFrom cX1_copyFrom 2 none, Cond.fieldLink RX1 18 "InterestNet$Net" "links" "[I"]
def wsX5_ask_r3 : List Cond := [Cond.fieldLink RX1 21 "InterestNet$Net" "sensors" "[I", Cond.fieldLink RX1 24 "InterestNet$Net" "interests" "[I", Cond.fieldLink RX1 27 "InterestNet$Net" "wayLengths" "[I", Cond.fieldLink RX1 30 "InterestNet$Net" "wayNodes" "[I", Cond.static yX5_copy, Cond.code yX5_copy cX5_copy 2 none, Cond.methodLink RX5 195 Lib.Math.min.name, Cond.static Lib.Math.min.name, Cond.initialized "java/lang/Math", Cond.code Lib.Math.min.name Lib.Math.min.code 2 (some .int), Cond.methodLink RX5 200 arraycopyName, Cond.native arraycopyName, Cond.static arraycopyName, Cond.initialized "java/lang/System", Cond.methodLink RX5 91 yX1_appendInterest, Cond.instanceMethod yX1_appendInterest, Cond.selects RX1 yX1_appendInterest yX1_appendInterest, Cond.code yX1_appendInterest cX1_appendInterest 8 (some .int), Cond.static yX5_put, Cond.code yX5_put cX5_put 3 none, Cond.static yX5_wayOf, Cond.code yX5_wayOf cX5_wayOf 2 (some .int)]
def wsX5_ask : List Cond := .code yX5_ask cX5_ask 6 (some .int) :: ((wsX5_ask_r1 ++ (wsX5_ask_r2 ++ wsX5_ask_r3)) ++ wsX50 ++ wsX10 ++ wsX00)
def wsX5_withdraw_r1 : List Cond := [Cond.fieldLink RX5 10 "InterestNet" "net" "LInterestNet$Net;", Cond.fieldLink RX5 33 "InterestNet" "history" "LInterestNet$History;", Cond.methodLink RX5 59 yX1_has, Cond.instanceMethod yX1_has, Cond.selects RX1 yX1_has yX1_has, Cond.initialized RX1, Cond.code yX1_has cX1_has 3 (some .boolean), Cond.fieldLink RX1 9 "InterestNet$Net" "numbers" "[I", Cond.static yX5_at, Cond.initialized RX5, Cond.code yX5_at cX5_at 2 (some .int), Cond.methodLink RX5 52 yX0_record, Cond.instanceMethod yX0_record, Cond.selects RX0 yX0_record yX0_record, Cond.initialized RX0, Cond.code yX0_record cX0_record 3 none, Cond.fieldLink RX0 18 "InterestNet$History" "size" "I", Cond.fieldLink RX0 22 "InterestNet$History" "oldest" "I", Cond.methodLink RX0 25 yX0_stateAt, Cond.instanceMethod yX0_stateAt, Cond.selects RX0 yX0_stateAt yX0_stateAt, Cond.code yX0_stateAt cX0_stateAt 3 (some (.object "InterestNet$Net")), Cond.fieldLink RX0 11 "InterestNet$History" "states" "[LInterestNet$Net;", Cond.methodLink RX0 29 yX1_copyFrom]
def wsX5_withdraw_r2 : List Cond := [Cond.instanceMethod yX1_copyFrom, Cond.selects RX1 yX1_copyFrom yX1_copyFrom, Cond.code yX1_copyFrom cX1_copyFrom 2 none, Cond.fieldLink RX1 15 "InterestNet$Net" "energies" "[I", Cond.fieldLink RX1 18 "InterestNet$Net" "links" "[I", Cond.fieldLink RX1 21 "InterestNet$Net" "sensors" "[I", Cond.fieldLink RX1 24 "InterestNet$Net" "interests" "[I", Cond.fieldLink RX1 27 "InterestNet$Net" "wayLengths" "[I", Cond.fieldLink RX1 30 "InterestNet$Net" "wayNodes" "[I", Cond.static yX5_copy, Cond.code yX5_copy cX5_copy 2 none, Cond.methodLink RX5 195 Lib.Math.min.name, Cond.static Lib.Math.min.name, Cond.initialized "java/lang/Math", Cond.code Lib.Math.min.name Lib.Math.min.code 2 (some .int), Cond.methodLink RX5 200 arraycopyName, Cond.native arraycopyName, Cond.static arraycopyName, Cond.initialized "java/lang/System", Cond.methodLink RX5 95 yX1_removeInterest, Cond.instanceMethod yX1_removeInterest, Cond.selects RX1 yX1_removeInterest yX1_removeInterest, Cond.code yX1_removeInterest cX1_removeInterest 2 none, Cond.static yX5_removePiece]
def wsX5_withdraw_r3 : List Cond := [Cond.code yX5_removePiece cX5_removePiece 4 none, Cond.methodLink RX5 187 yX5_at, Cond.methodLink RX5 191 yX5_put, Cond.static yX5_put, Cond.code yX5_put cX5_put 3 none, Cond.static yX5_increase, Cond.code yX5_increase cX5_increase 3 none, Cond.methodLink RX5 48 yX1_number, Cond.instanceMethod yX1_number, Cond.selects RX1 yX1_number yX1_number, Cond.code yX1_number cX1_number 2 (some .int), Cond.methodLink RX1 41 yX1_aliveNodes, Cond.instanceMethod yX1_aliveNodes, Cond.selects RX1 yX1_aliveNodes yX1_aliveNodes, Cond.code yX1_aliveNodes cX1_aliveNodes 3 (some .int), Cond.methodLink RX1 45 yJ6_bitCount_0f7a4, Cond.static yJ6_bitCount_0f7a4, Cond.initialized RJ6, Cond.code yJ6_bitCount_0f7a4 cJ6_bitCount_0f7a4 1 (some .int), Cond.constant RJ6 265 (1431655765), Cond.constant RJ6 266 (858993459), Cond.constant RJ6 267 (252645135)]
def wsX5_withdraw : List Cond := .code yX5_withdraw cX5_withdraw 2 (some .int) :: ((wsX5_withdraw_r1 ++ (wsX5_withdraw_r2 ++ wsX5_withdraw_r3)) ++ wsX50 ++ wsX10 ++ wsX00)
def wsX5_setPeriod_r1 : List Cond := [Cond.fieldLink RX5 33 "InterestNet" "history" "LInterestNet$History;", Cond.fieldLink RX5 10 "InterestNet" "net" "LInterestNet$Net;", Cond.methodLink RX5 44 yX5_isWithin, Cond.static yX5_isWithin, Cond.initialized RX5, Cond.code yX5_isWithin cX5_isWithin 3 (some .boolean), Cond.methodLink RX5 52 yX0_record, Cond.instanceMethod yX0_record, Cond.selects RX0 yX0_record yX0_record, Cond.initialized RX0, Cond.code yX0_record cX0_record 3 none, Cond.fieldLink RX0 18 "InterestNet$History" "size" "I", Cond.fieldLink RX0 22 "InterestNet$History" "oldest" "I", Cond.methodLink RX0 25 yX0_stateAt, Cond.instanceMethod yX0_stateAt, Cond.selects RX0 yX0_stateAt yX0_stateAt, Cond.code yX0_stateAt cX0_stateAt 3 (some (.object "InterestNet$Net")), Cond.fieldLink RX0 11 "InterestNet$History" "states" "[LInterestNet$Net;", Cond.methodLink RX0 29 yX1_copyFrom, Cond.instanceMethod yX1_copyFrom, Cond.selects RX1 yX1_copyFrom yX1_copyFrom, Cond.initialized RX1, Cond.code yX1_copyFrom cX1_copyFrom 2 none, Cond.fieldLink RX1 9 "InterestNet$Net" "numbers" "[I"]
def wsX5_setPeriod_r2 : List Cond := [Cond.fieldLink RX1 15 "InterestNet$Net" "energies" "[I", Cond.fieldLink RX1 18 "InterestNet$Net" "links" "[I", Cond.fieldLink RX1 21 "InterestNet$Net" "sensors" "[I", Cond.fieldLink RX1 24 "InterestNet$Net" "interests" "[I", Cond.fieldLink RX1 27 "InterestNet$Net" "wayLengths" "[I", Cond.fieldLink RX1 30 "InterestNet$Net" "wayNodes" "[I", Cond.static yX5_copy, Cond.code yX5_copy cX5_copy 2 none, Cond.methodLink RX5 195 Lib.Math.min.name, Cond.static Lib.Math.min.name, Cond.initialized "java/lang/Math", Cond.code Lib.Math.min.name Lib.Math.min.code 2 (some .int), Cond.methodLink RX5 200 arraycopyName, Cond.native arraycopyName, Cond.static arraycopyName, Cond.initialized "java/lang/System", Cond.methodLink RX5 48 yX1_number, Cond.instanceMethod yX1_number, Cond.selects RX1 yX1_number yX1_number, Cond.code yX1_number cX1_number 2 (some .int), Cond.methodLink RX1 41 yX1_aliveNodes, Cond.instanceMethod yX1_aliveNodes, Cond.selects RX1 yX1_aliveNodes yX1_aliveNodes, Cond.code yX1_aliveNodes cX1_aliveNodes 3 (some .int)]
def wsX5_setPeriod_r3 : List Cond := [Cond.static yX5_at, Cond.code yX5_at cX5_at 2 (some .int), Cond.methodLink RX1 45 yJ6_bitCount_0f7a4, Cond.static yJ6_bitCount_0f7a4, Cond.initialized RJ6, Cond.code yJ6_bitCount_0f7a4 cJ6_bitCount_0f7a4 1 (some .int), Cond.constant RJ6 265 (1431655765), Cond.constant RJ6 266 (858993459), Cond.constant RJ6 267 (252645135), Cond.methodLink RX5 99 yX1_setNumber, Cond.instanceMethod yX1_setNumber, Cond.selects RX1 yX1_setNumber yX1_setNumber, Cond.code yX1_setNumber cX1_setNumber 3 none, Cond.static yX5_put, Cond.code yX5_put cX5_put 3 none]
def wsX5_setPeriod : List Cond := .code yX5_setPeriod cX5_setPeriod 3 (some .int) :: ((wsX5_setPeriod_r1 ++ (wsX5_setPeriod_r2 ++ wsX5_setPeriod_r3)) ++ wsX50 ++ wsX00 ++ wsX10)
def wsX5_count_r1 : List Cond := [Cond.fieldLink RX5 10 "InterestNet" "net" "LInterestNet$Net;", Cond.methodLink RX5 44 yX5_isWithin, Cond.static yX5_isWithin, Cond.initialized RX5, Cond.code yX5_isWithin cX5_isWithin 3 (some .boolean), Cond.methodLink RX5 48 yX1_number, Cond.instanceMethod yX1_number, Cond.selects RX1 yX1_number yX1_number, Cond.initialized RX1, Cond.code yX1_number cX1_number 2 (some .int), Cond.fieldLink RX1 9 "InterestNet$Net" "numbers" "[I", Cond.methodLink RX1 41 yX1_aliveNodes, Cond.instanceMethod yX1_aliveNodes, Cond.selects RX1 yX1_aliveNodes yX1_aliveNodes, Cond.code yX1_aliveNodes cX1_aliveNodes 3 (some .int), Cond.fieldLink RX1 15 "InterestNet$Net" "energies" "[I", Cond.static yX5_at, Cond.code yX5_at cX5_at 2 (some .int), Cond.methodLink RX1 45 yJ6_bitCount_0f7a4, Cond.static yJ6_bitCount_0f7a4, Cond.initialized RJ6, Cond.code yJ6_bitCount_0f7a4 cJ6_bitCount_0f7a4 1 (some .int), Cond.constant RJ6 265 (1431655765), Cond.constant RJ6 266 (858993459)]
def wsX5_count_r2 : List Cond := [Cond.constant RJ6 267 (252645135)]
def wsX5_count : List Cond := .code yX5_count cX5_count 2 (some .int) :: ((wsX5_count_r1 ++ wsX5_count_r2) ++ wsX50 ++ wsX10)
def wsX5_energy : List Cond := .code yX5_energy cX5_energy 2 (some .int) :: ([.fieldLink RX5 10 "InterestNet" "net" "LInterestNet$Net;", .methodLink RX5 59 yX1_has, .instanceMethod yX1_has, .selects RX1 yX1_has yX1_has, .initialized RX1, .code yX1_has cX1_has 3 (some .boolean), .fieldLink RX1 9 "InterestNet$Net" "numbers" "[I", .static yX5_at, .initialized RX5, .code yX5_at cX5_at 2 (some .int), .methodLink RX5 63 yX1_energyOf, .instanceMethod yX1_energyOf, .selects RX1 yX1_energyOf yX1_energyOf, .code yX1_energyOf cX1_energyOf 2 (some .int), .fieldLink RX1 15 "InterestNet$Net" "energies" "[I"] ++ wsX50 ++ wsX10)
def wsX5_linkPart : List Cond := .code yX5_linkPart cX5_linkPart 3 (some .int) :: ([.fieldLink RX5 10 "InterestNet" "net" "LInterestNet$Net;", .methodLink RX5 59 yX1_has, .instanceMethod yX1_has, .selects RX1 yX1_has yX1_has, .initialized RX1, .code yX1_has cX1_has 3 (some .boolean), .fieldLink RX1 9 "InterestNet$Net" "numbers" "[I", .static yX5_at, .initialized RX5, .code yX5_at cX5_at 2 (some .int), .methodLink RX5 44 yX5_isWithin, .static yX5_isWithin, .code yX5_isWithin cX5_isWithin 3 (some .boolean), .methodLink RX5 102 yX1_partOfLink, .instanceMethod yX1_partOfLink, .selects RX1 yX1_partOfLink yX1_partOfLink, .code yX1_partOfLink cX1_partOfLink 3 (some .int), .fieldLink RX1 18 "InterestNet$Net" "links" "[I"] ++ wsX50 ++ wsX10)
def wsX5_sensor : List Cond := .code yX5_sensor cX5_sensor 3 (some .int) :: ([.fieldLink RX5 10 "InterestNet" "net" "LInterestNet$Net;", .methodLink RX5 59 yX1_has, .instanceMethod yX1_has, .selects RX1 yX1_has yX1_has, .initialized RX1, .code yX1_has cX1_has 3 (some .boolean), .fieldLink RX1 9 "InterestNet$Net" "numbers" "[I", .static yX5_at, .initialized RX5, .code yX5_at cX5_at 2 (some .int), .methodLink RX5 44 yX5_isWithin, .static yX5_isWithin, .code yX5_isWithin cX5_isWithin 3 (some .boolean), .methodLink RX5 83 yX1_sensorPart, .instanceMethod yX1_sensorPart, .selects RX1 yX1_sensorPart yX1_sensorPart, .code yX1_sensorPart cX1_sensorPart 3 (some .int), .fieldLink RX1 21 "InterestNet$Net" "sensors" "[I"] ++ wsX50 ++ wsX10)
def wsX5_interest_r1 : List Cond := [Cond.fieldLink RX5 10 "InterestNet" "net" "LInterestNet$Net;", Cond.methodLink RX5 59 yX1_has, Cond.instanceMethod yX1_has, Cond.selects RX1 yX1_has yX1_has, Cond.initialized RX1, Cond.code yX1_has cX1_has 3 (some .boolean), Cond.fieldLink RX1 9 "InterestNet$Net" "numbers" "[I", Cond.static yX5_at, Cond.initialized RX5, Cond.code yX5_at cX5_at 2 (some .int), Cond.methodLink RX5 44 yX5_isWithin, Cond.static yX5_isWithin, Cond.code yX5_isWithin cX5_isWithin 3 (some .boolean), Cond.methodLink RX5 105 yX1_interestPart, Cond.instanceMethod yX1_interestPart, Cond.selects RX1 yX1_interestPart yX1_interestPart, Cond.code yX1_interestPart cX1_interestPart 3 (some .int), Cond.fieldLink RX1 24 "InterestNet$Net" "interests" "[I", Cond.methodLink RX1 84 yX1_waysOf, Cond.instanceMethod yX1_waysOf, Cond.selects RX1 yX1_waysOf yX1_waysOf, Cond.code yX1_waysOf cX1_waysOf 4 (some .int), Cond.fieldLink RX1 27 "InterestNet$Net" "wayLengths" "[I", Cond.static yX5_wayOf]
def wsX5_interest_r2 : List Cond := [Cond.code yX5_wayOf cX5_wayOf 2 (some .int)]
def wsX5_interest : List Cond := .code yX5_interest cX5_interest 3 (some .int) :: ((wsX5_interest_r1 ++ wsX5_interest_r2) ++ wsX50 ++ wsX10)
def wsX5_rounds_r1 : List Cond := [Cond.fieldLink RX5 10 "InterestNet" "net" "LInterestNet$Net;", Cond.constant RX5 90 (100000), Cond.fieldLink RX5 33 "InterestNet" "history" "LInterestNet$History;", Cond.fieldLink RX5 19 "InterestNet" "runner" "LInterestNet$Runner;", Cond.methodLink RX5 44 yX5_isWithin, Cond.static yX5_isWithin, Cond.initialized RX5, Cond.code yX5_isWithin cX5_isWithin 3 (some .boolean), Cond.methodLink RX5 48 yX1_number, Cond.instanceMethod yX1_number, Cond.selects RX1 yX1_number yX1_number, Cond.initialized RX1, Cond.code yX1_number cX1_number 2 (some .int), Cond.fieldLink RX1 9 "InterestNet$Net" "numbers" "[I", Cond.methodLink RX1 41 yX1_aliveNodes, Cond.instanceMethod yX1_aliveNodes, Cond.selects RX1 yX1_aliveNodes yX1_aliveNodes, Cond.code yX1_aliveNodes cX1_aliveNodes 3 (some .int), Cond.fieldLink RX1 15 "InterestNet$Net" "energies" "[I", Cond.static yX5_at, Cond.code yX5_at cX5_at 2 (some .int), Cond.methodLink RX1 45 yJ6_bitCount_0f7a4, Cond.static yJ6_bitCount_0f7a4, Cond.initialized RJ6]
def wsX5_rounds_r2 : List Cond := [Cond.code yJ6_bitCount_0f7a4 cJ6_bitCount_0f7a4 1 (some .int), Cond.constant RJ6 265 (1431655765), Cond.constant RJ6 266 (858993459), Cond.constant RJ6 267 (252645135), Cond.methodLink RX5 52 yX0_record, Cond.instanceMethod yX0_record, Cond.selects RX0 yX0_record yX0_record, Cond.initialized RX0, Cond.code yX0_record cX0_record 3 none, Cond.fieldLink RX0 18 "InterestNet$History" "size" "I", Cond.fieldLink RX0 22 "InterestNet$History" "oldest" "I", Cond.methodLink RX0 25 yX0_stateAt, Cond.instanceMethod yX0_stateAt, Cond.selects RX0 yX0_stateAt yX0_stateAt, Cond.code yX0_stateAt cX0_stateAt 3 (some (.object "InterestNet$Net")), Cond.fieldLink RX0 11 "InterestNet$History" "states" "[LInterestNet$Net;", Cond.methodLink RX0 29 yX1_copyFrom, Cond.instanceMethod yX1_copyFrom, Cond.selects RX1 yX1_copyFrom yX1_copyFrom, Cond.code yX1_copyFrom cX1_copyFrom 2 none, Cond.fieldLink RX1 18 "InterestNet$Net" "links" "[I", Cond.fieldLink RX1 21 "InterestNet$Net" "sensors" "[I", Cond.fieldLink RX1 24 "InterestNet$Net" "interests" "[I", Cond.fieldLink RX1 27 "InterestNet$Net" "wayLengths" "[I"]
def wsX5_rounds_r3 : List Cond := [Cond.fieldLink RX1 30 "InterestNet$Net" "wayNodes" "[I", Cond.static yX5_copy, Cond.code yX5_copy cX5_copy 2 none, Cond.methodLink RX5 195 Lib.Math.min.name, Cond.static Lib.Math.min.name, Cond.initialized "java/lang/Math", Cond.code Lib.Math.min.name Lib.Math.min.code 2 (some .int), Cond.methodLink RX5 200 arraycopyName, Cond.native arraycopyName, Cond.static arraycopyName, Cond.initialized "java/lang/System", Cond.methodLink RX5 108 yX3_start, Cond.instanceMethod yX3_start, Cond.selects RX3 yX3_start yX3_start, Cond.initialized RX3, Cond.code yX3_start cX3_start 2 none, Cond.fieldLink RX3 12 "InterestNet$Runner" "draft" "LInterestNet$Net;", Cond.fieldLink RX3 21 "InterestNet$Runner" "paths" "LInterestNet$Paths;", Cond.methodLink RX3 32 yX1_copyFrom, Cond.methodLink RX3 36 yX2_learn, Cond.instanceMethod yX2_learn, Cond.selects RX2 yX2_learn yX2_learn, Cond.initialized RX2, Cond.code yX2_learn cX2_learn 5 none]
def wsX5_rounds_r4 : List Cond := [Cond.fieldLink RX2 9 "InterestNet$Paths" "delays" "[I", Cond.fieldLink RX2 15 "InterestNet$Paths" "exploredAmong" "[I", Cond.methodLink RX2 27 yJ7_fill_53178, Cond.static yJ7_fill_53178, Cond.initialized RJ7, Cond.code yJ7_fill_53178 cJ7_fill_53178 4 none, Cond.methodLink RX2 33 yX1_number, Cond.methodLink RX2 39 yX1_partOfLink, Cond.instanceMethod yX1_partOfLink, Cond.selects RX1 yX1_partOfLink yX1_partOfLink, Cond.code yX1_partOfLink cX1_partOfLink 3 (some .int), Cond.static yX5_put, Cond.code yX5_put cX5_put 3 none, Cond.methodLink RX5 111 yX3_run, Cond.instanceMethod yX3_run, Cond.selects RX3 yX3_run yX3_run, Cond.code yX3_run cX3_run 6 (some .int), Cond.fieldLink RX3 29 "InterestNet$Runner" "sentTo" "[I", Cond.methodLink RX3 39 yX1_endInterests, Cond.instanceMethod yX1_endInterests, Cond.selects RX1 yX1_endInterests yX1_endInterests, Cond.code yX1_endInterests cX1_endInterests 2 none, Cond.methodLink RX1 77 yX1_interestPart, Cond.instanceMethod yX1_interestPart]
def wsX5_rounds_r5 : List Cond := [Cond.selects RX1 yX1_interestPart yX1_interestPart, Cond.code yX1_interestPart cX1_interestPart 3 (some .int), Cond.methodLink RX1 84 yX1_waysOf, Cond.instanceMethod yX1_waysOf, Cond.selects RX1 yX1_waysOf yX1_waysOf, Cond.code yX1_waysOf cX1_waysOf 4 (some .int), Cond.static yX5_wayOf, Cond.code yX5_wayOf cX5_wayOf 2 (some .int), Cond.methodLink RX1 80 yX1_removeInterest, Cond.instanceMethod yX1_removeInterest, Cond.selects RX1 yX1_removeInterest yX1_removeInterest, Cond.code yX1_removeInterest cX1_removeInterest 2 none, Cond.static yX5_removePiece, Cond.code yX5_removePiece cX5_removePiece 4 none, Cond.methodLink RX5 187 yX5_at, Cond.methodLink RX5 191 yX5_put, Cond.static yX5_increase, Cond.code yX5_increase cX5_increase 3 none, Cond.methodLink RX3 42 yJ7_fill_53178, Cond.methodLink RX3 48 yX1_number, Cond.methodLink RX3 52 yX3_takeTurn, Cond.instanceMethod yX3_takeTurn, Cond.selects RX3 yX3_takeTurn yX3_takeTurn, Cond.code yX3_takeTurn cX3_takeTurn 7 (some .boolean)]
def wsX5_rounds_r6 : List Cond := [Cond.methodLink RX3 64 yX1_sensorPart, Cond.instanceMethod yX1_sensorPart, Cond.selects RX1 yX1_sensorPart yX1_sensorPart, Cond.code yX1_sensorPart cX1_sensorPart 3 (some .int), Cond.methodLink RX3 67 yX1_interestPart, Cond.methodLink RX3 70 yX1_aliveNodes, Cond.methodLink RX3 74 yX1_matches, Cond.instanceMethod yX1_matches, Cond.selects RX1 yX1_matches yX1_matches, Cond.code yX1_matches cX1_matches 3 (some .boolean), Cond.methodLink RX1 87 yX1_sensorPart, Cond.static yX5_holds, Cond.code yX5_holds cX5_holds 2 (some .boolean), Cond.methodLink RX3 80 yX1_dropWay, Cond.instanceMethod yX1_dropWay, Cond.selects RX1 yX1_dropWay yX1_dropWay, Cond.code yX1_dropWay cX1_dropWay 2 none, Cond.methodLink RX3 84 yX3_isExploringRound, Cond.instanceMethod yX3_isExploringRound, Cond.selects RX3 yX3_isExploringRound yX3_isExploringRound, Cond.code yX3_isExploringRound cX3_isExploringRound 2 (some .boolean), Cond.methodLink RX3 88 yX2_carry, Cond.instanceMethod yX2_carry, Cond.selects RX2 yX2_carry yX2_carry]
def wsX5_rounds_r7 : List Cond := [Cond.code yX2_carry cX2_carry 7 (some .boolean), Cond.methodLink RX2 51 yX1_lengthOf, Cond.instanceMethod yX1_lengthOf, Cond.selects RX1 yX1_lengthOf yX1_lengthOf, Cond.code yX1_lengthOf cX1_lengthOf 2 (some .int), Cond.methodLink RX2 54 yX1_nodeOf, Cond.instanceMethod yX1_nodeOf, Cond.selects RX1 yX1_nodeOf yX1_nodeOf, Cond.code yX1_nodeOf cX1_nodeOf 3 (some .int), Cond.methodLink RX2 61 yX2_delayBetween, Cond.instanceMethod yX2_delayBetween, Cond.selects RX2 yX2_delayBetween yX2_delayBetween, Cond.code yX2_delayBetween cX2_delayBetween 3 (some .int), Cond.methodLink RX3 92 yX3_exploreWay, Cond.instanceMethod yX3_exploreWay, Cond.selects RX3 yX3_exploreWay yX3_exploreWay, Cond.code yX3_exploreWay cX3_exploreWay 8 none, Cond.methodLink RX3 124 Lib.Math.max.name, Cond.static Lib.Math.max.name, Cond.code Lib.Math.max.name Lib.Math.max.code 2 (some .int), Cond.fieldLink RX3 25 "InterestNet$Runner" "newWay" "[I", Cond.methodLink RX3 109 yX2_explore, Cond.instanceMethod yX2_explore, Cond.selects RX2 yX2_explore yX2_explore]
def wsX5_rounds_r8 : List Cond := [Cond.code yX2_explore cX2_explore 5 none, Cond.fieldLink RX2 24 "InterestNet$Paths" "nodesBefore" "[I", Cond.constant RX2 74 (1000000), Cond.fieldLink RX2 18 "InterestNet$Paths" "reached" "[I", Cond.methodLink RX2 64 yX2_findTimes, Cond.instanceMethod yX2_findTimes, Cond.selects RX2 yX2_findTimes yX2_findTimes, Cond.code yX2_findTimes cX2_findTimes 9 none, Cond.fieldLink RX2 21 "InterestNet$Paths" "times" "[I", Cond.methodLink RX2 68 yX2_findNodeBefore, Cond.instanceMethod yX2_findNodeBefore, Cond.selects RX2 yX2_findNodeBefore yX2_findNodeBefore, Cond.code yX2_findNodeBefore cX2_findNodeBefore 6 (some .int), Cond.methodLink RX2 71 yX2_timeOf, Cond.instanceMethod yX2_timeOf, Cond.selects RX2 yX2_timeOf yX2_timeOf, Cond.code yX2_timeOf cX2_timeOf 3 (some .int), Cond.methodLink RX3 112 yX2_reachedFrom, Cond.instanceMethod yX2_reachedFrom, Cond.selects RX2 yX2_reachedFrom yX2_reachedFrom, Cond.code yX2_reachedFrom cX2_reachedFrom 2 (some .int), Cond.methodLink RX3 115 yX1_spend, Cond.instanceMethod yX1_spend, Cond.selects RX1 yX1_spend yX1_spend]
def wsX5_rounds_r9 : List Cond := [Cond.code yX1_spend cX1_spend 4 none, Cond.methodLink RX1 58 Lib.Math.min.name, Cond.methodLink RX3 118 yX3_traceBack, Cond.instanceMethod yX3_traceBack, Cond.selects RX3 yX3_traceBack yX3_traceBack, Cond.code yX3_traceBack cX3_traceBack 5 (some .int), Cond.methodLink RX3 137 yX2_nodeBefore, Cond.instanceMethod yX2_nodeBefore, Cond.selects RX2 yX2_nodeBefore yX2_nodeBefore, Cond.code yX2_nodeBefore cX2_nodeBefore 3 (some .int), Cond.methodLink RX3 121 yX3_keptLinks, Cond.instanceMethod yX3_keptLinks, Cond.selects RX3 yX3_keptLinks yX3_keptLinks, Cond.code yX3_keptLinks cX3_keptLinks 5 (some .int), Cond.methodLink RX3 144 yX1_goesOver, Cond.instanceMethod yX1_goesOver, Cond.selects RX1 yX1_goesOver yX1_goesOver, Cond.code yX1_goesOver cX1_goesOver 6 (some .boolean), Cond.methodLink RX1 70 yX1_isPair, Cond.static yX1_isPair, Cond.code yX1_isPair cX1_isPair 4 (some .boolean), Cond.methodLink RX3 56 yX1_raise, Cond.instanceMethod yX1_raise, Cond.selects RX1 yX1_raise yX1_raise]
def wsX5_rounds_r10 : List Cond := [Cond.code yX1_raise cX1_raise 3 none, Cond.methodLink RX3 96 yX1_lengthOf, Cond.methodLink RX3 129 yX1_setWay, Cond.instanceMethod yX1_setWay, Cond.selects RX1 yX1_setWay yX1_setWay, Cond.code yX1_setWay cX1_setWay 5 none, Cond.methodLink RX3 99 yX3_send, Cond.instanceMethod yX3_send, Cond.selects RX3 yX3_send yX3_send, Cond.code yX3_send cX3_send 7 none, Cond.methodLink RX3 148 yX1_nodeOf, Cond.methodLink RX3 102 yX2_delayOf, Cond.instanceMethod yX2_delayOf, Cond.selects RX2 yX2_delayOf yX2_delayOf, Cond.code yX2_delayOf cX2_delayOf 5 (some .int), Cond.methodLink RX3 106 yX1_deliver, Cond.instanceMethod yX1_deliver, Cond.selects RX1 yX1_deliver yX1_deliver, Cond.code yX1_deliver cX1_deliver 3 none, Cond.methodLink RX5 117 yX1_copyFrom]
def wsX5_rounds : List Cond := .code yX5_rounds cX5_rounds 3 (some .int) :: ((wsX5_rounds_r1 ++ (wsX5_rounds_r2 ++ (wsX5_rounds_r3 ++ (wsX5_rounds_r4 ++ (wsX5_rounds_r5 ++ (wsX5_rounds_r6 ++ (wsX5_rounds_r7 ++ (wsX5_rounds_r8 ++ (wsX5_rounds_r9 ++ wsX5_rounds_r10))))))))) ++ wsX50 ++ wsX30 ++ wsX10 ++ wsX00 ++ wsX20)
def wsX5_hasWay : List Cond := .code yX5_hasWay cX5_hasWay 3 (some .boolean) :: ([.fieldLink RX5 10 "InterestNet" "net" "LInterestNet$Net;", .methodLink RX5 59 yX1_has, .instanceMethod yX1_has, .selects RX1 yX1_has yX1_has, .initialized RX1, .code yX1_has cX1_has 3 (some .boolean), .fieldLink RX1 9 "InterestNet$Net" "numbers" "[I", .static yX5_at, .initialized RX5, .code yX5_at cX5_at 2 (some .int)] ++ wsX50 ++ wsX10)
def wsX5_wayLength : List Cond := .code yX5_wayLength cX5_wayLength 3 (some .int) :: ([.fieldLink RX5 10 "InterestNet" "net" "LInterestNet$Net;", .methodLink RX5 120 yX5_hasWay, .instanceMethod yX5_hasWay, .selects RX5 yX5_hasWay yX5_hasWay, .initialized RX5, .code yX5_hasWay cX5_hasWay 3 (some .boolean), .methodLink RX5 59 yX1_has, .instanceMethod yX1_has, .selects RX1 yX1_has yX1_has, .initialized RX1, .code yX1_has cX1_has 3 (some .boolean), .fieldLink RX1 9 "InterestNet$Net" "numbers" "[I", .static yX5_at, .code yX5_at cX5_at 2 (some .int), .methodLink RX5 123 yX5_wayOf, .static yX5_wayOf, .code yX5_wayOf cX5_wayOf 2 (some .int), .methodLink RX5 126 yX1_lengthOf, .instanceMethod yX1_lengthOf, .selects RX1 yX1_lengthOf yX1_lengthOf, .code yX1_lengthOf cX1_lengthOf 2 (some .int), .fieldLink RX1 27 "InterestNet$Net" "wayLengths" "[I"] ++ wsX50 ++ wsX10)
def wsX5_wayNode_r1 : List Cond := [Cond.fieldLink RX5 10 "InterestNet" "net" "LInterestNet$Net;", Cond.methodLink RX5 120 yX5_hasWay, Cond.instanceMethod yX5_hasWay, Cond.selects RX5 yX5_hasWay yX5_hasWay, Cond.initialized RX5, Cond.code yX5_hasWay cX5_hasWay 3 (some .boolean), Cond.methodLink RX5 59 yX1_has, Cond.instanceMethod yX1_has, Cond.selects RX1 yX1_has yX1_has, Cond.initialized RX1, Cond.code yX1_has cX1_has 3 (some .boolean), Cond.fieldLink RX1 9 "InterestNet$Net" "numbers" "[I", Cond.static yX5_at, Cond.code yX5_at cX5_at 2 (some .int), Cond.methodLink RX5 123 yX5_wayOf, Cond.static yX5_wayOf, Cond.code yX5_wayOf cX5_wayOf 2 (some .int), Cond.methodLink RX5 126 yX1_lengthOf, Cond.instanceMethod yX1_lengthOf, Cond.selects RX1 yX1_lengthOf yX1_lengthOf, Cond.code yX1_lengthOf cX1_lengthOf 2 (some .int), Cond.fieldLink RX1 27 "InterestNet$Net" "wayLengths" "[I", Cond.methodLink RX5 129 yX1_nodeOf, Cond.instanceMethod yX1_nodeOf]
def wsX5_wayNode_r2 : List Cond := [Cond.selects RX1 yX1_nodeOf yX1_nodeOf, Cond.code yX1_nodeOf cX1_nodeOf 3 (some .int), Cond.fieldLink RX1 30 "InterestNet$Net" "wayNodes" "[I"]
def wsX5_wayNode : List Cond := .code yX5_wayNode cX5_wayNode 5 (some .int) :: ((wsX5_wayNode_r1 ++ wsX5_wayNode_r2) ++ wsX50 ++ wsX10)
def wsX5_isWhole_r1 : List Cond := [Cond.fieldLink RX5 26 "InterestNet" "paths" "LInterestNet$Paths;", Cond.fieldLink RX5 10 "InterestNet" "net" "LInterestNet$Net;", Cond.methodLink RX5 120 yX5_hasWay, Cond.instanceMethod yX5_hasWay, Cond.selects RX5 yX5_hasWay yX5_hasWay, Cond.initialized RX5, Cond.code yX5_hasWay cX5_hasWay 3 (some .boolean), Cond.methodLink RX5 59 yX1_has, Cond.instanceMethod yX1_has, Cond.selects RX1 yX1_has yX1_has, Cond.initialized RX1, Cond.code yX1_has cX1_has 3 (some .boolean), Cond.fieldLink RX1 9 "InterestNet$Net" "numbers" "[I", Cond.static yX5_at, Cond.code yX5_at cX5_at 2 (some .int), Cond.methodLink RX5 132 yX2_learn, Cond.instanceMethod yX2_learn, Cond.selects RX2 yX2_learn yX2_learn, Cond.initialized RX2, Cond.code yX2_learn cX2_learn 5 none, Cond.fieldLink RX2 9 "InterestNet$Paths" "delays" "[I", Cond.fieldLink RX2 15 "InterestNet$Paths" "exploredAmong" "[I", Cond.methodLink RX2 27 yJ7_fill_53178, Cond.static yJ7_fill_53178]
def wsX5_isWhole_r2 : List Cond := [Cond.initialized RJ7, Cond.code yJ7_fill_53178 cJ7_fill_53178 4 none, Cond.methodLink RX2 33 yX1_number, Cond.instanceMethod yX1_number, Cond.selects RX1 yX1_number yX1_number, Cond.code yX1_number cX1_number 2 (some .int), Cond.methodLink RX1 41 yX1_aliveNodes, Cond.instanceMethod yX1_aliveNodes, Cond.selects RX1 yX1_aliveNodes yX1_aliveNodes, Cond.code yX1_aliveNodes cX1_aliveNodes 3 (some .int), Cond.fieldLink RX1 15 "InterestNet$Net" "energies" "[I", Cond.methodLink RX1 45 yJ6_bitCount_0f7a4, Cond.static yJ6_bitCount_0f7a4, Cond.initialized RJ6, Cond.code yJ6_bitCount_0f7a4 cJ6_bitCount_0f7a4 1 (some .int), Cond.constant RJ6 265 (1431655765), Cond.constant RJ6 266 (858993459), Cond.constant RJ6 267 (252645135), Cond.methodLink RX2 39 yX1_partOfLink, Cond.instanceMethod yX1_partOfLink, Cond.selects RX1 yX1_partOfLink yX1_partOfLink, Cond.code yX1_partOfLink cX1_partOfLink 3 (some .int), Cond.fieldLink RX1 18 "InterestNet$Net" "links" "[I", Cond.static yX5_put]
def wsX5_isWhole_r3 : List Cond := [Cond.code yX5_put cX5_put 3 none, Cond.methodLink RX5 123 yX5_wayOf, Cond.static yX5_wayOf, Cond.code yX5_wayOf cX5_wayOf 2 (some .int), Cond.methodLink RX5 135 yX1_aliveNodes, Cond.methodLink RX5 139 yX2_carry, Cond.instanceMethod yX2_carry, Cond.selects RX2 yX2_carry yX2_carry, Cond.code yX2_carry cX2_carry 7 (some .boolean), Cond.methodLink RX2 51 yX1_lengthOf, Cond.instanceMethod yX1_lengthOf, Cond.selects RX1 yX1_lengthOf yX1_lengthOf, Cond.code yX1_lengthOf cX1_lengthOf 2 (some .int), Cond.fieldLink RX1 27 "InterestNet$Net" "wayLengths" "[I", Cond.methodLink RX2 54 yX1_nodeOf, Cond.instanceMethod yX1_nodeOf, Cond.selects RX1 yX1_nodeOf yX1_nodeOf, Cond.code yX1_nodeOf cX1_nodeOf 3 (some .int), Cond.fieldLink RX1 30 "InterestNet$Net" "wayNodes" "[I", Cond.static yX5_holds, Cond.code yX5_holds cX5_holds 2 (some .boolean), Cond.methodLink RX2 61 yX2_delayBetween, Cond.instanceMethod yX2_delayBetween, Cond.selects RX2 yX2_delayBetween yX2_delayBetween]
def wsX5_isWhole_r4 : List Cond := [Cond.code yX2_delayBetween cX2_delayBetween 3 (some .int)]
def wsX5_isWhole : List Cond := .code yX5_isWhole cX5_isWhole 3 (some .int) :: ((wsX5_isWhole_r1 ++ (wsX5_isWhole_r2 ++ (wsX5_isWhole_r3 ++ wsX5_isWhole_r4))) ++ wsX50 ++ wsX10 ++ wsX20)
def wsX5_quickest_r1 : List Cond := [Cond.fieldLink RX5 10 "InterestNet" "net" "LInterestNet$Net;", Cond.fieldLink RX5 26 "InterestNet" "paths" "LInterestNet$Paths;", Cond.methodLink RX5 59 yX1_has, Cond.instanceMethod yX1_has, Cond.selects RX1 yX1_has yX1_has, Cond.initialized RX1, Cond.code yX1_has cX1_has 3 (some .boolean), Cond.fieldLink RX1 9 "InterestNet$Net" "numbers" "[I", Cond.static yX5_at, Cond.initialized RX5, Cond.code yX5_at cX5_at 2 (some .int), Cond.methodLink RX5 135 yX1_aliveNodes, Cond.instanceMethod yX1_aliveNodes, Cond.selects RX1 yX1_aliveNodes yX1_aliveNodes, Cond.code yX1_aliveNodes cX1_aliveNodes 3 (some .int), Cond.fieldLink RX1 15 "InterestNet$Net" "energies" "[I", Cond.methodLink RX5 143 yX5_holds, Cond.static yX5_holds, Cond.code yX5_holds cX5_holds 2 (some .boolean), Cond.methodLink RX5 132 yX2_learn, Cond.instanceMethod yX2_learn, Cond.selects RX2 yX2_learn yX2_learn, Cond.initialized RX2, Cond.code yX2_learn cX2_learn 5 none]
def wsX5_quickest_r2 : List Cond := [Cond.fieldLink RX2 9 "InterestNet$Paths" "delays" "[I", Cond.fieldLink RX2 15 "InterestNet$Paths" "exploredAmong" "[I", Cond.methodLink RX2 27 yJ7_fill_53178, Cond.static yJ7_fill_53178, Cond.initialized RJ7, Cond.code yJ7_fill_53178 cJ7_fill_53178 4 none, Cond.methodLink RX2 33 yX1_number, Cond.instanceMethod yX1_number, Cond.selects RX1 yX1_number yX1_number, Cond.code yX1_number cX1_number 2 (some .int), Cond.methodLink RX1 41 yX1_aliveNodes, Cond.methodLink RX1 45 yJ6_bitCount_0f7a4, Cond.static yJ6_bitCount_0f7a4, Cond.initialized RJ6, Cond.code yJ6_bitCount_0f7a4 cJ6_bitCount_0f7a4 1 (some .int), Cond.constant RJ6 265 (1431655765), Cond.constant RJ6 266 (858993459), Cond.constant RJ6 267 (252645135), Cond.methodLink RX2 39 yX1_partOfLink, Cond.instanceMethod yX1_partOfLink, Cond.selects RX1 yX1_partOfLink yX1_partOfLink, Cond.code yX1_partOfLink cX1_partOfLink 3 (some .int), Cond.fieldLink RX1 18 "InterestNet$Net" "links" "[I", Cond.static yX5_put]
def wsX5_quickest_r3 : List Cond := [Cond.code yX5_put cX5_put 3 none, Cond.methodLink RX5 146 yX2_explore, Cond.instanceMethod yX2_explore, Cond.selects RX2 yX2_explore yX2_explore, Cond.code yX2_explore cX2_explore 5 none, Cond.fieldLink RX2 24 "InterestNet$Paths" "nodesBefore" "[I", Cond.constant RX2 74 (1000000), Cond.fieldLink RX2 18 "InterestNet$Paths" "reached" "[I", Cond.methodLink RX2 64 yX2_findTimes, Cond.instanceMethod yX2_findTimes, Cond.selects RX2 yX2_findTimes yX2_findTimes, Cond.code yX2_findTimes cX2_findTimes 9 none, Cond.fieldLink RX2 21 "InterestNet$Paths" "times" "[I", Cond.methodLink RX2 68 yX2_findNodeBefore, Cond.instanceMethod yX2_findNodeBefore, Cond.selects RX2 yX2_findNodeBefore yX2_findNodeBefore, Cond.code yX2_findNodeBefore cX2_findNodeBefore 6 (some .int), Cond.methodLink RX2 71 yX2_timeOf, Cond.instanceMethod yX2_timeOf, Cond.selects RX2 yX2_timeOf yX2_timeOf, Cond.code yX2_timeOf cX2_timeOf 3 (some .int), Cond.methodLink RX5 149 yX2_reachedFrom, Cond.instanceMethod yX2_reachedFrom, Cond.selects RX2 yX2_reachedFrom yX2_reachedFrom]
def wsX5_quickest_r4 : List Cond := [Cond.code yX2_reachedFrom cX2_reachedFrom 2 (some .int), Cond.methodLink RX5 152 yX2_timeOf]
def wsX5_quickest : List Cond := .code yX5_quickest cX5_quickest 4 (some .int) :: ((wsX5_quickest_r1 ++ (wsX5_quickest_r2 ++ (wsX5_quickest_r3 ++ wsX5_quickest_r4))) ++ wsX50 ++ wsX10 ++ wsX20)
def wsX5_load_r1 : List Cond := [Cond.fieldLink RX5 10 "InterestNet" "net" "LInterestNet$Net;", Cond.methodLink RX5 59 yX1_has, Cond.instanceMethod yX1_has, Cond.selects RX1 yX1_has yX1_has, Cond.initialized RX1, Cond.code yX1_has cX1_has 3 (some .boolean), Cond.fieldLink RX1 9 "InterestNet$Net" "numbers" "[I", Cond.static yX5_at, Cond.initialized RX5, Cond.code yX5_at cX5_at 2 (some .int), Cond.methodLink RX5 102 yX1_partOfLink, Cond.instanceMethod yX1_partOfLink, Cond.selects RX1 yX1_partOfLink yX1_partOfLink, Cond.code yX1_partOfLink cX1_partOfLink 3 (some .int), Cond.fieldLink RX1 18 "InterestNet$Net" "links" "[I", Cond.methodLink RX5 155 yX1_waysOver, Cond.instanceMethod yX1_waysOver, Cond.selects RX1 yX1_waysOver yX1_waysOver, Cond.code yX1_waysOver cX1_waysOver 6 (some .int), Cond.static yX5_wayOf, Cond.code yX5_wayOf cX5_wayOf 2 (some .int), Cond.methodLink RX1 94 yX1_goesOver, Cond.instanceMethod yX1_goesOver, Cond.selects RX1 yX1_goesOver yX1_goesOver]
def wsX5_load_r2 : List Cond := [Cond.code yX1_goesOver cX1_goesOver 6 (some .boolean), Cond.fieldLink RX1 27 "InterestNet$Net" "wayLengths" "[I", Cond.fieldLink RX1 30 "InterestNet$Net" "wayNodes" "[I", Cond.methodLink RX1 70 yX1_isPair, Cond.static yX1_isPair, Cond.code yX1_isPair cX1_isPair 4 (some .boolean)]
def wsX5_load : List Cond := .code yX5_load cX5_load 2 (some .int) :: ((wsX5_load_r1 ++ wsX5_load_r2) ++ wsX50 ++ wsX10)
def wsX5_firstDeath_r1 : List Cond := [Cond.fieldLink RX5 10 "InterestNet" "net" "LInterestNet$Net;", Cond.fieldLink RX5 19 "InterestNet" "runner" "LInterestNet$Runner;", Cond.methodLink RX5 48 yX1_number, Cond.instanceMethod yX1_number, Cond.selects RX1 yX1_number yX1_number, Cond.initialized RX1, Cond.code yX1_number cX1_number 2 (some .int), Cond.fieldLink RX1 9 "InterestNet$Net" "numbers" "[I", Cond.methodLink RX1 41 yX1_aliveNodes, Cond.instanceMethod yX1_aliveNodes, Cond.selects RX1 yX1_aliveNodes yX1_aliveNodes, Cond.code yX1_aliveNodes cX1_aliveNodes 3 (some .int), Cond.fieldLink RX1 15 "InterestNet$Net" "energies" "[I", Cond.static yX5_at, Cond.initialized RX5, Cond.code yX5_at cX5_at 2 (some .int), Cond.methodLink RX1 45 yJ6_bitCount_0f7a4, Cond.static yJ6_bitCount_0f7a4, Cond.initialized RJ6, Cond.code yJ6_bitCount_0f7a4 cJ6_bitCount_0f7a4 1 (some .int), Cond.constant RJ6 265 (1431655765), Cond.constant RJ6 266 (858993459), Cond.constant RJ6 267 (252645135), Cond.methodLink RX5 108 yX3_start]
def wsX5_firstDeath_r2 : List Cond := [Cond.instanceMethod yX3_start, Cond.selects RX3 yX3_start yX3_start, Cond.initialized RX3, Cond.code yX3_start cX3_start 2 none, Cond.fieldLink RX3 12 "InterestNet$Runner" "draft" "LInterestNet$Net;", Cond.fieldLink RX3 21 "InterestNet$Runner" "paths" "LInterestNet$Paths;", Cond.methodLink RX3 32 yX1_copyFrom, Cond.instanceMethod yX1_copyFrom, Cond.selects RX1 yX1_copyFrom yX1_copyFrom, Cond.code yX1_copyFrom cX1_copyFrom 2 none, Cond.fieldLink RX1 18 "InterestNet$Net" "links" "[I", Cond.fieldLink RX1 21 "InterestNet$Net" "sensors" "[I", Cond.fieldLink RX1 24 "InterestNet$Net" "interests" "[I", Cond.fieldLink RX1 27 "InterestNet$Net" "wayLengths" "[I", Cond.fieldLink RX1 30 "InterestNet$Net" "wayNodes" "[I", Cond.static yX5_copy, Cond.code yX5_copy cX5_copy 2 none, Cond.methodLink RX5 195 Lib.Math.min.name, Cond.static Lib.Math.min.name, Cond.initialized "java/lang/Math", Cond.code Lib.Math.min.name Lib.Math.min.code 2 (some .int), Cond.methodLink RX5 200 arraycopyName, Cond.native arraycopyName, Cond.static arraycopyName]
def wsX5_firstDeath_r3 : List Cond := [Cond.initialized "java/lang/System", Cond.methodLink RX3 36 yX2_learn, Cond.instanceMethod yX2_learn, Cond.selects RX2 yX2_learn yX2_learn, Cond.initialized RX2, Cond.code yX2_learn cX2_learn 5 none, Cond.fieldLink RX2 9 "InterestNet$Paths" "delays" "[I", Cond.fieldLink RX2 15 "InterestNet$Paths" "exploredAmong" "[I", Cond.methodLink RX2 27 yJ7_fill_53178, Cond.static yJ7_fill_53178, Cond.initialized RJ7, Cond.code yJ7_fill_53178 cJ7_fill_53178 4 none, Cond.methodLink RX2 33 yX1_number, Cond.methodLink RX2 39 yX1_partOfLink, Cond.instanceMethod yX1_partOfLink, Cond.selects RX1 yX1_partOfLink yX1_partOfLink, Cond.code yX1_partOfLink cX1_partOfLink 3 (some .int), Cond.static yX5_put, Cond.code yX5_put cX5_put 3 none, Cond.methodLink RX5 111 yX3_run, Cond.instanceMethod yX3_run, Cond.selects RX3 yX3_run yX3_run, Cond.code yX3_run cX3_run 6 (some .int), Cond.fieldLink RX3 29 "InterestNet$Runner" "sentTo" "[I"]
def wsX5_firstDeath_r4 : List Cond := [Cond.methodLink RX3 39 yX1_endInterests, Cond.instanceMethod yX1_endInterests, Cond.selects RX1 yX1_endInterests yX1_endInterests, Cond.code yX1_endInterests cX1_endInterests 2 none, Cond.methodLink RX1 77 yX1_interestPart, Cond.instanceMethod yX1_interestPart, Cond.selects RX1 yX1_interestPart yX1_interestPart, Cond.code yX1_interestPart cX1_interestPart 3 (some .int), Cond.methodLink RX1 84 yX1_waysOf, Cond.instanceMethod yX1_waysOf, Cond.selects RX1 yX1_waysOf yX1_waysOf, Cond.code yX1_waysOf cX1_waysOf 4 (some .int), Cond.static yX5_wayOf, Cond.code yX5_wayOf cX5_wayOf 2 (some .int), Cond.methodLink RX1 80 yX1_removeInterest, Cond.instanceMethod yX1_removeInterest, Cond.selects RX1 yX1_removeInterest yX1_removeInterest, Cond.code yX1_removeInterest cX1_removeInterest 2 none, Cond.static yX5_removePiece, Cond.code yX5_removePiece cX5_removePiece 4 none, Cond.methodLink RX5 187 yX5_at, Cond.methodLink RX5 191 yX5_put, Cond.static yX5_increase, Cond.code yX5_increase cX5_increase 3 none]
def wsX5_firstDeath_r5 : List Cond := [Cond.methodLink RX3 42 yJ7_fill_53178, Cond.methodLink RX3 48 yX1_number, Cond.methodLink RX3 52 yX3_takeTurn, Cond.instanceMethod yX3_takeTurn, Cond.selects RX3 yX3_takeTurn yX3_takeTurn, Cond.code yX3_takeTurn cX3_takeTurn 7 (some .boolean), Cond.methodLink RX3 64 yX1_sensorPart, Cond.instanceMethod yX1_sensorPart, Cond.selects RX1 yX1_sensorPart yX1_sensorPart, Cond.code yX1_sensorPart cX1_sensorPart 3 (some .int), Cond.methodLink RX3 67 yX1_interestPart, Cond.methodLink RX3 70 yX1_aliveNodes, Cond.methodLink RX3 74 yX1_matches, Cond.instanceMethod yX1_matches, Cond.selects RX1 yX1_matches yX1_matches, Cond.code yX1_matches cX1_matches 3 (some .boolean), Cond.methodLink RX1 87 yX1_sensorPart, Cond.static yX5_isWithin, Cond.code yX5_isWithin cX5_isWithin 3 (some .boolean), Cond.static yX5_holds, Cond.code yX5_holds cX5_holds 2 (some .boolean), Cond.methodLink RX3 80 yX1_dropWay, Cond.instanceMethod yX1_dropWay, Cond.selects RX1 yX1_dropWay yX1_dropWay]
def wsX5_firstDeath_r6 : List Cond := [Cond.code yX1_dropWay cX1_dropWay 2 none, Cond.methodLink RX3 84 yX3_isExploringRound, Cond.instanceMethod yX3_isExploringRound, Cond.selects RX3 yX3_isExploringRound yX3_isExploringRound, Cond.code yX3_isExploringRound cX3_isExploringRound 2 (some .boolean), Cond.methodLink RX3 88 yX2_carry, Cond.instanceMethod yX2_carry, Cond.selects RX2 yX2_carry yX2_carry, Cond.code yX2_carry cX2_carry 7 (some .boolean), Cond.methodLink RX2 51 yX1_lengthOf, Cond.instanceMethod yX1_lengthOf, Cond.selects RX1 yX1_lengthOf yX1_lengthOf, Cond.code yX1_lengthOf cX1_lengthOf 2 (some .int), Cond.methodLink RX2 54 yX1_nodeOf, Cond.instanceMethod yX1_nodeOf, Cond.selects RX1 yX1_nodeOf yX1_nodeOf, Cond.code yX1_nodeOf cX1_nodeOf 3 (some .int), Cond.methodLink RX2 61 yX2_delayBetween, Cond.instanceMethod yX2_delayBetween, Cond.selects RX2 yX2_delayBetween yX2_delayBetween, Cond.code yX2_delayBetween cX2_delayBetween 3 (some .int), Cond.methodLink RX3 92 yX3_exploreWay, Cond.instanceMethod yX3_exploreWay, Cond.selects RX3 yX3_exploreWay yX3_exploreWay]
def wsX5_firstDeath_r7 : List Cond := [Cond.code yX3_exploreWay cX3_exploreWay 8 none, Cond.methodLink RX3 124 Lib.Math.max.name, Cond.static Lib.Math.max.name, Cond.code Lib.Math.max.name Lib.Math.max.code 2 (some .int), Cond.fieldLink RX3 25 "InterestNet$Runner" "newWay" "[I", Cond.methodLink RX3 109 yX2_explore, Cond.instanceMethod yX2_explore, Cond.selects RX2 yX2_explore yX2_explore, Cond.code yX2_explore cX2_explore 5 none, Cond.fieldLink RX2 24 "InterestNet$Paths" "nodesBefore" "[I", Cond.constant RX2 74 (1000000), Cond.fieldLink RX2 18 "InterestNet$Paths" "reached" "[I", Cond.methodLink RX2 64 yX2_findTimes, Cond.instanceMethod yX2_findTimes, Cond.selects RX2 yX2_findTimes yX2_findTimes, Cond.code yX2_findTimes cX2_findTimes 9 none, Cond.fieldLink RX2 21 "InterestNet$Paths" "times" "[I", Cond.methodLink RX2 68 yX2_findNodeBefore, Cond.instanceMethod yX2_findNodeBefore, Cond.selects RX2 yX2_findNodeBefore yX2_findNodeBefore, Cond.code yX2_findNodeBefore cX2_findNodeBefore 6 (some .int), Cond.methodLink RX2 71 yX2_timeOf, Cond.instanceMethod yX2_timeOf, Cond.selects RX2 yX2_timeOf yX2_timeOf]
def wsX5_firstDeath_r8 : List Cond := [Cond.code yX2_timeOf cX2_timeOf 3 (some .int), Cond.methodLink RX3 112 yX2_reachedFrom, Cond.instanceMethod yX2_reachedFrom, Cond.selects RX2 yX2_reachedFrom yX2_reachedFrom, Cond.code yX2_reachedFrom cX2_reachedFrom 2 (some .int), Cond.methodLink RX3 115 yX1_spend, Cond.instanceMethod yX1_spend, Cond.selects RX1 yX1_spend yX1_spend, Cond.code yX1_spend cX1_spend 4 none, Cond.methodLink RX1 58 Lib.Math.min.name, Cond.methodLink RX3 118 yX3_traceBack, Cond.instanceMethod yX3_traceBack, Cond.selects RX3 yX3_traceBack yX3_traceBack, Cond.code yX3_traceBack cX3_traceBack 5 (some .int), Cond.methodLink RX3 137 yX2_nodeBefore, Cond.instanceMethod yX2_nodeBefore, Cond.selects RX2 yX2_nodeBefore yX2_nodeBefore, Cond.code yX2_nodeBefore cX2_nodeBefore 3 (some .int), Cond.methodLink RX3 121 yX3_keptLinks, Cond.instanceMethod yX3_keptLinks, Cond.selects RX3 yX3_keptLinks yX3_keptLinks, Cond.code yX3_keptLinks cX3_keptLinks 5 (some .int), Cond.methodLink RX3 144 yX1_goesOver, Cond.instanceMethod yX1_goesOver]
def wsX5_firstDeath_r9 : List Cond := [Cond.selects RX1 yX1_goesOver yX1_goesOver, Cond.code yX1_goesOver cX1_goesOver 6 (some .boolean), Cond.methodLink RX1 70 yX1_isPair, Cond.static yX1_isPair, Cond.code yX1_isPair cX1_isPair 4 (some .boolean), Cond.methodLink RX3 56 yX1_raise, Cond.instanceMethod yX1_raise, Cond.selects RX1 yX1_raise yX1_raise, Cond.code yX1_raise cX1_raise 3 none, Cond.methodLink RX3 96 yX1_lengthOf, Cond.methodLink RX3 129 yX1_setWay, Cond.instanceMethod yX1_setWay, Cond.selects RX1 yX1_setWay yX1_setWay, Cond.code yX1_setWay cX1_setWay 5 none, Cond.methodLink RX3 99 yX3_send, Cond.instanceMethod yX3_send, Cond.selects RX3 yX3_send yX3_send, Cond.code yX3_send cX3_send 7 none, Cond.methodLink RX3 148 yX1_nodeOf, Cond.methodLink RX3 102 yX2_delayOf, Cond.instanceMethod yX2_delayOf, Cond.selects RX2 yX2_delayOf yX2_delayOf, Cond.code yX2_delayOf cX2_delayOf 5 (some .int), Cond.methodLink RX3 106 yX1_deliver]
def wsX5_firstDeath_r10 : List Cond := [Cond.instanceMethod yX1_deliver, Cond.selects RX1 yX1_deliver yX1_deliver, Cond.code yX1_deliver cX1_deliver 3 none]
def wsX5_firstDeath : List Cond := .code yX5_firstDeath cX5_firstDeath 3 (some .int) :: ((wsX5_firstDeath_r1 ++ (wsX5_firstDeath_r2 ++ (wsX5_firstDeath_r3 ++ (wsX5_firstDeath_r4 ++ (wsX5_firstDeath_r5 ++ (wsX5_firstDeath_r6 ++ (wsX5_firstDeath_r7 ++ (wsX5_firstDeath_r8 ++ (wsX5_firstDeath_r9 ++ wsX5_firstDeath_r10))))))))) ++ wsX50 ++ wsX30 ++ wsX10 ++ wsX20)
def wsX5_willDeliver_r1 : List Cond := [Cond.fieldLink RX5 19 "InterestNet" "runner" "LInterestNet$Runner;", Cond.fieldLink RX5 10 "InterestNet" "net" "LInterestNet$Net;", Cond.methodLink RX5 44 yX5_isWithin, Cond.static yX5_isWithin, Cond.initialized RX5, Cond.code yX5_isWithin cX5_isWithin 3 (some .boolean), Cond.methodLink RX5 108 yX3_start, Cond.instanceMethod yX3_start, Cond.selects RX3 yX3_start yX3_start, Cond.initialized RX3, Cond.code yX3_start cX3_start 2 none, Cond.fieldLink RX3 12 "InterestNet$Runner" "draft" "LInterestNet$Net;", Cond.fieldLink RX3 21 "InterestNet$Runner" "paths" "LInterestNet$Paths;", Cond.methodLink RX3 32 yX1_copyFrom, Cond.instanceMethod yX1_copyFrom, Cond.selects RX1 yX1_copyFrom yX1_copyFrom, Cond.initialized RX1, Cond.code yX1_copyFrom cX1_copyFrom 2 none, Cond.fieldLink RX1 9 "InterestNet$Net" "numbers" "[I", Cond.fieldLink RX1 15 "InterestNet$Net" "energies" "[I", Cond.fieldLink RX1 18 "InterestNet$Net" "links" "[I", Cond.fieldLink RX1 21 "InterestNet$Net" "sensors" "[I", Cond.fieldLink RX1 24 "InterestNet$Net" "interests" "[I", Cond.fieldLink RX1 27 "InterestNet$Net" "wayLengths" "[I"]
def wsX5_willDeliver_r2 : List Cond := [Cond.fieldLink RX1 30 "InterestNet$Net" "wayNodes" "[I", Cond.static yX5_copy, Cond.code yX5_copy cX5_copy 2 none, Cond.methodLink RX5 195 Lib.Math.min.name, Cond.static Lib.Math.min.name, Cond.initialized "java/lang/Math", Cond.code Lib.Math.min.name Lib.Math.min.code 2 (some .int), Cond.methodLink RX5 200 arraycopyName, Cond.native arraycopyName, Cond.static arraycopyName, Cond.initialized "java/lang/System", Cond.methodLink RX3 36 yX2_learn, Cond.instanceMethod yX2_learn, Cond.selects RX2 yX2_learn yX2_learn, Cond.initialized RX2, Cond.code yX2_learn cX2_learn 5 none, Cond.fieldLink RX2 9 "InterestNet$Paths" "delays" "[I", Cond.fieldLink RX2 15 "InterestNet$Paths" "exploredAmong" "[I", Cond.methodLink RX2 27 yJ7_fill_53178, Cond.static yJ7_fill_53178, Cond.initialized RJ7, Cond.code yJ7_fill_53178 cJ7_fill_53178 4 none, Cond.methodLink RX2 33 yX1_number, Cond.instanceMethod yX1_number]
def wsX5_willDeliver_r3 : List Cond := [Cond.selects RX1 yX1_number yX1_number, Cond.code yX1_number cX1_number 2 (some .int), Cond.methodLink RX1 41 yX1_aliveNodes, Cond.instanceMethod yX1_aliveNodes, Cond.selects RX1 yX1_aliveNodes yX1_aliveNodes, Cond.code yX1_aliveNodes cX1_aliveNodes 3 (some .int), Cond.static yX5_at, Cond.code yX5_at cX5_at 2 (some .int), Cond.methodLink RX1 45 yJ6_bitCount_0f7a4, Cond.static yJ6_bitCount_0f7a4, Cond.initialized RJ6, Cond.code yJ6_bitCount_0f7a4 cJ6_bitCount_0f7a4 1 (some .int), Cond.constant RJ6 265 (1431655765), Cond.constant RJ6 266 (858993459), Cond.constant RJ6 267 (252645135), Cond.methodLink RX2 39 yX1_partOfLink, Cond.instanceMethod yX1_partOfLink, Cond.selects RX1 yX1_partOfLink yX1_partOfLink, Cond.code yX1_partOfLink cX1_partOfLink 3 (some .int), Cond.static yX5_put, Cond.code yX5_put cX5_put 3 none, Cond.methodLink RX5 111 yX3_run, Cond.instanceMethod yX3_run, Cond.selects RX3 yX3_run yX3_run]
def wsX5_willDeliver_r4 : List Cond := [Cond.code yX3_run cX3_run 6 (some .int), Cond.fieldLink RX3 29 "InterestNet$Runner" "sentTo" "[I", Cond.methodLink RX3 39 yX1_endInterests, Cond.instanceMethod yX1_endInterests, Cond.selects RX1 yX1_endInterests yX1_endInterests, Cond.code yX1_endInterests cX1_endInterests 2 none, Cond.methodLink RX1 77 yX1_interestPart, Cond.instanceMethod yX1_interestPart, Cond.selects RX1 yX1_interestPart yX1_interestPart, Cond.code yX1_interestPart cX1_interestPart 3 (some .int), Cond.methodLink RX1 84 yX1_waysOf, Cond.instanceMethod yX1_waysOf, Cond.selects RX1 yX1_waysOf yX1_waysOf, Cond.code yX1_waysOf cX1_waysOf 4 (some .int), Cond.static yX5_wayOf, Cond.code yX5_wayOf cX5_wayOf 2 (some .int), Cond.methodLink RX1 80 yX1_removeInterest, Cond.instanceMethod yX1_removeInterest, Cond.selects RX1 yX1_removeInterest yX1_removeInterest, Cond.code yX1_removeInterest cX1_removeInterest 2 none, Cond.static yX5_removePiece, Cond.code yX5_removePiece cX5_removePiece 4 none, Cond.methodLink RX5 187 yX5_at, Cond.methodLink RX5 191 yX5_put]
def wsX5_willDeliver_r5 : List Cond := [Cond.static yX5_increase, Cond.code yX5_increase cX5_increase 3 none, Cond.methodLink RX3 42 yJ7_fill_53178, Cond.methodLink RX3 48 yX1_number, Cond.methodLink RX3 52 yX3_takeTurn, Cond.instanceMethod yX3_takeTurn, Cond.selects RX3 yX3_takeTurn yX3_takeTurn, Cond.code yX3_takeTurn cX3_takeTurn 7 (some .boolean), Cond.methodLink RX3 64 yX1_sensorPart, Cond.instanceMethod yX1_sensorPart, Cond.selects RX1 yX1_sensorPart yX1_sensorPart, Cond.code yX1_sensorPart cX1_sensorPart 3 (some .int), Cond.methodLink RX3 67 yX1_interestPart, Cond.methodLink RX3 70 yX1_aliveNodes, Cond.methodLink RX3 74 yX1_matches, Cond.instanceMethod yX1_matches, Cond.selects RX1 yX1_matches yX1_matches, Cond.code yX1_matches cX1_matches 3 (some .boolean), Cond.methodLink RX1 87 yX1_sensorPart, Cond.static yX5_holds, Cond.code yX5_holds cX5_holds 2 (some .boolean), Cond.methodLink RX3 80 yX1_dropWay, Cond.instanceMethod yX1_dropWay, Cond.selects RX1 yX1_dropWay yX1_dropWay]
def wsX5_willDeliver_r6 : List Cond := [Cond.code yX1_dropWay cX1_dropWay 2 none, Cond.methodLink RX3 84 yX3_isExploringRound, Cond.instanceMethod yX3_isExploringRound, Cond.selects RX3 yX3_isExploringRound yX3_isExploringRound, Cond.code yX3_isExploringRound cX3_isExploringRound 2 (some .boolean), Cond.methodLink RX3 88 yX2_carry, Cond.instanceMethod yX2_carry, Cond.selects RX2 yX2_carry yX2_carry, Cond.code yX2_carry cX2_carry 7 (some .boolean), Cond.methodLink RX2 51 yX1_lengthOf, Cond.instanceMethod yX1_lengthOf, Cond.selects RX1 yX1_lengthOf yX1_lengthOf, Cond.code yX1_lengthOf cX1_lengthOf 2 (some .int), Cond.methodLink RX2 54 yX1_nodeOf, Cond.instanceMethod yX1_nodeOf, Cond.selects RX1 yX1_nodeOf yX1_nodeOf, Cond.code yX1_nodeOf cX1_nodeOf 3 (some .int), Cond.methodLink RX2 61 yX2_delayBetween, Cond.instanceMethod yX2_delayBetween, Cond.selects RX2 yX2_delayBetween yX2_delayBetween, Cond.code yX2_delayBetween cX2_delayBetween 3 (some .int), Cond.methodLink RX3 92 yX3_exploreWay, Cond.instanceMethod yX3_exploreWay, Cond.selects RX3 yX3_exploreWay yX3_exploreWay]
def wsX5_willDeliver_r7 : List Cond := [Cond.code yX3_exploreWay cX3_exploreWay 8 none, Cond.methodLink RX3 124 Lib.Math.max.name, Cond.static Lib.Math.max.name, Cond.code Lib.Math.max.name Lib.Math.max.code 2 (some .int), Cond.fieldLink RX3 25 "InterestNet$Runner" "newWay" "[I", Cond.methodLink RX3 109 yX2_explore, Cond.instanceMethod yX2_explore, Cond.selects RX2 yX2_explore yX2_explore, Cond.code yX2_explore cX2_explore 5 none, Cond.fieldLink RX2 24 "InterestNet$Paths" "nodesBefore" "[I", Cond.constant RX2 74 (1000000), Cond.fieldLink RX2 18 "InterestNet$Paths" "reached" "[I", Cond.methodLink RX2 64 yX2_findTimes, Cond.instanceMethod yX2_findTimes, Cond.selects RX2 yX2_findTimes yX2_findTimes, Cond.code yX2_findTimes cX2_findTimes 9 none, Cond.fieldLink RX2 21 "InterestNet$Paths" "times" "[I", Cond.methodLink RX2 68 yX2_findNodeBefore, Cond.instanceMethod yX2_findNodeBefore, Cond.selects RX2 yX2_findNodeBefore yX2_findNodeBefore, Cond.code yX2_findNodeBefore cX2_findNodeBefore 6 (some .int), Cond.methodLink RX2 71 yX2_timeOf, Cond.instanceMethod yX2_timeOf, Cond.selects RX2 yX2_timeOf yX2_timeOf]
def wsX5_willDeliver_r8 : List Cond := [Cond.code yX2_timeOf cX2_timeOf 3 (some .int), Cond.methodLink RX3 112 yX2_reachedFrom, Cond.instanceMethod yX2_reachedFrom, Cond.selects RX2 yX2_reachedFrom yX2_reachedFrom, Cond.code yX2_reachedFrom cX2_reachedFrom 2 (some .int), Cond.methodLink RX3 115 yX1_spend, Cond.instanceMethod yX1_spend, Cond.selects RX1 yX1_spend yX1_spend, Cond.code yX1_spend cX1_spend 4 none, Cond.methodLink RX1 58 Lib.Math.min.name, Cond.methodLink RX3 118 yX3_traceBack, Cond.instanceMethod yX3_traceBack, Cond.selects RX3 yX3_traceBack yX3_traceBack, Cond.code yX3_traceBack cX3_traceBack 5 (some .int), Cond.methodLink RX3 137 yX2_nodeBefore, Cond.instanceMethod yX2_nodeBefore, Cond.selects RX2 yX2_nodeBefore yX2_nodeBefore, Cond.code yX2_nodeBefore cX2_nodeBefore 3 (some .int), Cond.methodLink RX3 121 yX3_keptLinks, Cond.instanceMethod yX3_keptLinks, Cond.selects RX3 yX3_keptLinks yX3_keptLinks, Cond.code yX3_keptLinks cX3_keptLinks 5 (some .int), Cond.methodLink RX3 144 yX1_goesOver, Cond.instanceMethod yX1_goesOver]
def wsX5_willDeliver_r9 : List Cond := [Cond.selects RX1 yX1_goesOver yX1_goesOver, Cond.code yX1_goesOver cX1_goesOver 6 (some .boolean), Cond.methodLink RX1 70 yX1_isPair, Cond.static yX1_isPair, Cond.code yX1_isPair cX1_isPair 4 (some .boolean), Cond.methodLink RX3 56 yX1_raise, Cond.instanceMethod yX1_raise, Cond.selects RX1 yX1_raise yX1_raise, Cond.code yX1_raise cX1_raise 3 none, Cond.methodLink RX3 96 yX1_lengthOf, Cond.methodLink RX3 129 yX1_setWay, Cond.instanceMethod yX1_setWay, Cond.selects RX1 yX1_setWay yX1_setWay, Cond.code yX1_setWay cX1_setWay 5 none, Cond.methodLink RX3 99 yX3_send, Cond.instanceMethod yX3_send, Cond.selects RX3 yX3_send yX3_send, Cond.code yX3_send cX3_send 7 none, Cond.methodLink RX3 148 yX1_nodeOf, Cond.methodLink RX3 102 yX2_delayOf, Cond.instanceMethod yX2_delayOf, Cond.selects RX2 yX2_delayOf yX2_delayOf, Cond.code yX2_delayOf cX2_delayOf 5 (some .int), Cond.methodLink RX3 106 yX1_deliver]
def wsX5_willDeliver_r10 : List Cond := [Cond.instanceMethod yX1_deliver, Cond.selects RX1 yX1_deliver yX1_deliver, Cond.code yX1_deliver cX1_deliver 3 none]
def wsX5_willDeliver : List Cond := .code yX5_willDeliver cX5_willDeliver 2 (some .int) :: ((wsX5_willDeliver_r1 ++ (wsX5_willDeliver_r2 ++ (wsX5_willDeliver_r3 ++ (wsX5_willDeliver_r4 ++ (wsX5_willDeliver_r5 ++ (wsX5_willDeliver_r6 ++ (wsX5_willDeliver_r7 ++ (wsX5_willDeliver_r8 ++ (wsX5_willDeliver_r9 ++ wsX5_willDeliver_r10))))))))) ++ wsX50 ++ wsX30 ++ wsX10 ++ wsX20)
def wsX5_bestPeriod_r1 : List Cond := [Cond.fieldLink RX5 19 "InterestNet" "runner" "LInterestNet$Runner;", Cond.fieldLink RX5 10 "InterestNet" "net" "LInterestNet$Net;", Cond.methodLink RX5 44 yX5_isWithin, Cond.static yX5_isWithin, Cond.initialized RX5, Cond.code yX5_isWithin cX5_isWithin 3 (some .boolean), Cond.methodLink RX5 108 yX3_start, Cond.instanceMethod yX3_start, Cond.selects RX3 yX3_start yX3_start, Cond.initialized RX3, Cond.code yX3_start cX3_start 2 none, Cond.fieldLink RX3 12 "InterestNet$Runner" "draft" "LInterestNet$Net;", Cond.fieldLink RX3 21 "InterestNet$Runner" "paths" "LInterestNet$Paths;", Cond.methodLink RX3 32 yX1_copyFrom, Cond.instanceMethod yX1_copyFrom, Cond.selects RX1 yX1_copyFrom yX1_copyFrom, Cond.initialized RX1, Cond.code yX1_copyFrom cX1_copyFrom 2 none, Cond.fieldLink RX1 9 "InterestNet$Net" "numbers" "[I", Cond.fieldLink RX1 15 "InterestNet$Net" "energies" "[I", Cond.fieldLink RX1 18 "InterestNet$Net" "links" "[I", Cond.fieldLink RX1 21 "InterestNet$Net" "sensors" "[I", Cond.fieldLink RX1 24 "InterestNet$Net" "interests" "[I", Cond.fieldLink RX1 27 "InterestNet$Net" "wayLengths" "[I"]
def wsX5_bestPeriod_r2 : List Cond := [Cond.fieldLink RX1 30 "InterestNet$Net" "wayNodes" "[I", Cond.static yX5_copy, Cond.code yX5_copy cX5_copy 2 none, Cond.methodLink RX5 195 Lib.Math.min.name, Cond.static Lib.Math.min.name, Cond.initialized "java/lang/Math", Cond.code Lib.Math.min.name Lib.Math.min.code 2 (some .int), Cond.methodLink RX5 200 arraycopyName, Cond.native arraycopyName, Cond.static arraycopyName, Cond.initialized "java/lang/System", Cond.methodLink RX3 36 yX2_learn, Cond.instanceMethod yX2_learn, Cond.selects RX2 yX2_learn yX2_learn, Cond.initialized RX2, Cond.code yX2_learn cX2_learn 5 none, Cond.fieldLink RX2 9 "InterestNet$Paths" "delays" "[I", Cond.fieldLink RX2 15 "InterestNet$Paths" "exploredAmong" "[I", Cond.methodLink RX2 27 yJ7_fill_53178, Cond.static yJ7_fill_53178, Cond.initialized RJ7, Cond.code yJ7_fill_53178 cJ7_fill_53178 4 none, Cond.methodLink RX2 33 yX1_number, Cond.instanceMethod yX1_number]
def wsX5_bestPeriod_r3 : List Cond := [Cond.selects RX1 yX1_number yX1_number, Cond.code yX1_number cX1_number 2 (some .int), Cond.methodLink RX1 41 yX1_aliveNodes, Cond.instanceMethod yX1_aliveNodes, Cond.selects RX1 yX1_aliveNodes yX1_aliveNodes, Cond.code yX1_aliveNodes cX1_aliveNodes 3 (some .int), Cond.static yX5_at, Cond.code yX5_at cX5_at 2 (some .int), Cond.methodLink RX1 45 yJ6_bitCount_0f7a4, Cond.static yJ6_bitCount_0f7a4, Cond.initialized RJ6, Cond.code yJ6_bitCount_0f7a4 cJ6_bitCount_0f7a4 1 (some .int), Cond.constant RJ6 265 (1431655765), Cond.constant RJ6 266 (858993459), Cond.constant RJ6 267 (252645135), Cond.methodLink RX2 39 yX1_partOfLink, Cond.instanceMethod yX1_partOfLink, Cond.selects RX1 yX1_partOfLink yX1_partOfLink, Cond.code yX1_partOfLink cX1_partOfLink 3 (some .int), Cond.static yX5_put, Cond.code yX5_put cX5_put 3 none, Cond.methodLink RX5 99 yX1_setNumber, Cond.instanceMethod yX1_setNumber, Cond.selects RX1 yX1_setNumber yX1_setNumber]
def wsX5_bestPeriod_r4 : List Cond := [Cond.code yX1_setNumber cX1_setNumber 3 none, Cond.methodLink RX5 111 yX3_run, Cond.instanceMethod yX3_run, Cond.selects RX3 yX3_run yX3_run, Cond.code yX3_run cX3_run 6 (some .int), Cond.fieldLink RX3 29 "InterestNet$Runner" "sentTo" "[I", Cond.methodLink RX3 39 yX1_endInterests, Cond.instanceMethod yX1_endInterests, Cond.selects RX1 yX1_endInterests yX1_endInterests, Cond.code yX1_endInterests cX1_endInterests 2 none, Cond.methodLink RX1 77 yX1_interestPart, Cond.instanceMethod yX1_interestPart, Cond.selects RX1 yX1_interestPart yX1_interestPart, Cond.code yX1_interestPart cX1_interestPart 3 (some .int), Cond.methodLink RX1 84 yX1_waysOf, Cond.instanceMethod yX1_waysOf, Cond.selects RX1 yX1_waysOf yX1_waysOf, Cond.code yX1_waysOf cX1_waysOf 4 (some .int), Cond.static yX5_wayOf, Cond.code yX5_wayOf cX5_wayOf 2 (some .int), Cond.methodLink RX1 80 yX1_removeInterest, Cond.instanceMethod yX1_removeInterest, Cond.selects RX1 yX1_removeInterest yX1_removeInterest, Cond.code yX1_removeInterest cX1_removeInterest 2 none]
def wsX5_bestPeriod_r5 : List Cond := [Cond.static yX5_removePiece, Cond.code yX5_removePiece cX5_removePiece 4 none, Cond.methodLink RX5 187 yX5_at, Cond.methodLink RX5 191 yX5_put, Cond.static yX5_increase, Cond.code yX5_increase cX5_increase 3 none, Cond.methodLink RX3 42 yJ7_fill_53178, Cond.methodLink RX3 48 yX1_number, Cond.methodLink RX3 52 yX3_takeTurn, Cond.instanceMethod yX3_takeTurn, Cond.selects RX3 yX3_takeTurn yX3_takeTurn, Cond.code yX3_takeTurn cX3_takeTurn 7 (some .boolean), Cond.methodLink RX3 64 yX1_sensorPart, Cond.instanceMethod yX1_sensorPart, Cond.selects RX1 yX1_sensorPart yX1_sensorPart, Cond.code yX1_sensorPart cX1_sensorPart 3 (some .int), Cond.methodLink RX3 67 yX1_interestPart, Cond.methodLink RX3 70 yX1_aliveNodes, Cond.methodLink RX3 74 yX1_matches, Cond.instanceMethod yX1_matches, Cond.selects RX1 yX1_matches yX1_matches, Cond.code yX1_matches cX1_matches 3 (some .boolean), Cond.methodLink RX1 87 yX1_sensorPart, Cond.static yX5_holds]
def wsX5_bestPeriod_r6 : List Cond := [Cond.code yX5_holds cX5_holds 2 (some .boolean), Cond.methodLink RX3 80 yX1_dropWay, Cond.instanceMethod yX1_dropWay, Cond.selects RX1 yX1_dropWay yX1_dropWay, Cond.code yX1_dropWay cX1_dropWay 2 none, Cond.methodLink RX3 84 yX3_isExploringRound, Cond.instanceMethod yX3_isExploringRound, Cond.selects RX3 yX3_isExploringRound yX3_isExploringRound, Cond.code yX3_isExploringRound cX3_isExploringRound 2 (some .boolean), Cond.methodLink RX3 88 yX2_carry, Cond.instanceMethod yX2_carry, Cond.selects RX2 yX2_carry yX2_carry, Cond.code yX2_carry cX2_carry 7 (some .boolean), Cond.methodLink RX2 51 yX1_lengthOf, Cond.instanceMethod yX1_lengthOf, Cond.selects RX1 yX1_lengthOf yX1_lengthOf, Cond.code yX1_lengthOf cX1_lengthOf 2 (some .int), Cond.methodLink RX2 54 yX1_nodeOf, Cond.instanceMethod yX1_nodeOf, Cond.selects RX1 yX1_nodeOf yX1_nodeOf, Cond.code yX1_nodeOf cX1_nodeOf 3 (some .int), Cond.methodLink RX2 61 yX2_delayBetween, Cond.instanceMethod yX2_delayBetween, Cond.selects RX2 yX2_delayBetween yX2_delayBetween]
def wsX5_bestPeriod_r7 : List Cond := [Cond.code yX2_delayBetween cX2_delayBetween 3 (some .int), Cond.methodLink RX3 92 yX3_exploreWay, Cond.instanceMethod yX3_exploreWay, Cond.selects RX3 yX3_exploreWay yX3_exploreWay, Cond.code yX3_exploreWay cX3_exploreWay 8 none, Cond.methodLink RX3 124 Lib.Math.max.name, Cond.static Lib.Math.max.name, Cond.code Lib.Math.max.name Lib.Math.max.code 2 (some .int), Cond.fieldLink RX3 25 "InterestNet$Runner" "newWay" "[I", Cond.methodLink RX3 109 yX2_explore, Cond.instanceMethod yX2_explore, Cond.selects RX2 yX2_explore yX2_explore, Cond.code yX2_explore cX2_explore 5 none, Cond.fieldLink RX2 24 "InterestNet$Paths" "nodesBefore" "[I", Cond.constant RX2 74 (1000000), Cond.fieldLink RX2 18 "InterestNet$Paths" "reached" "[I", Cond.methodLink RX2 64 yX2_findTimes, Cond.instanceMethod yX2_findTimes, Cond.selects RX2 yX2_findTimes yX2_findTimes, Cond.code yX2_findTimes cX2_findTimes 9 none, Cond.fieldLink RX2 21 "InterestNet$Paths" "times" "[I", Cond.methodLink RX2 68 yX2_findNodeBefore, Cond.instanceMethod yX2_findNodeBefore, Cond.selects RX2 yX2_findNodeBefore yX2_findNodeBefore]
def wsX5_bestPeriod_r8 : List Cond := [Cond.code yX2_findNodeBefore cX2_findNodeBefore 6 (some .int), Cond.methodLink RX2 71 yX2_timeOf, Cond.instanceMethod yX2_timeOf, Cond.selects RX2 yX2_timeOf yX2_timeOf, Cond.code yX2_timeOf cX2_timeOf 3 (some .int), Cond.methodLink RX3 112 yX2_reachedFrom, Cond.instanceMethod yX2_reachedFrom, Cond.selects RX2 yX2_reachedFrom yX2_reachedFrom, Cond.code yX2_reachedFrom cX2_reachedFrom 2 (some .int), Cond.methodLink RX3 115 yX1_spend, Cond.instanceMethod yX1_spend, Cond.selects RX1 yX1_spend yX1_spend, Cond.code yX1_spend cX1_spend 4 none, Cond.methodLink RX1 58 Lib.Math.min.name, Cond.methodLink RX3 118 yX3_traceBack, Cond.instanceMethod yX3_traceBack, Cond.selects RX3 yX3_traceBack yX3_traceBack, Cond.code yX3_traceBack cX3_traceBack 5 (some .int), Cond.methodLink RX3 137 yX2_nodeBefore, Cond.instanceMethod yX2_nodeBefore, Cond.selects RX2 yX2_nodeBefore yX2_nodeBefore, Cond.code yX2_nodeBefore cX2_nodeBefore 3 (some .int), Cond.methodLink RX3 121 yX3_keptLinks, Cond.instanceMethod yX3_keptLinks]
def wsX5_bestPeriod_r9 : List Cond := [Cond.selects RX3 yX3_keptLinks yX3_keptLinks, Cond.code yX3_keptLinks cX3_keptLinks 5 (some .int), Cond.methodLink RX3 144 yX1_goesOver, Cond.instanceMethod yX1_goesOver, Cond.selects RX1 yX1_goesOver yX1_goesOver, Cond.code yX1_goesOver cX1_goesOver 6 (some .boolean), Cond.methodLink RX1 70 yX1_isPair, Cond.static yX1_isPair, Cond.code yX1_isPair cX1_isPair 4 (some .boolean), Cond.methodLink RX3 56 yX1_raise, Cond.instanceMethod yX1_raise, Cond.selects RX1 yX1_raise yX1_raise, Cond.code yX1_raise cX1_raise 3 none, Cond.methodLink RX3 96 yX1_lengthOf, Cond.methodLink RX3 129 yX1_setWay, Cond.instanceMethod yX1_setWay, Cond.selects RX1 yX1_setWay yX1_setWay, Cond.code yX1_setWay cX1_setWay 5 none, Cond.methodLink RX3 99 yX3_send, Cond.instanceMethod yX3_send, Cond.selects RX3 yX3_send yX3_send, Cond.code yX3_send cX3_send 7 none, Cond.methodLink RX3 148 yX1_nodeOf, Cond.methodLink RX3 102 yX2_delayOf]
def wsX5_bestPeriod_r10 : List Cond := [Cond.instanceMethod yX2_delayOf, Cond.selects RX2 yX2_delayOf yX2_delayOf, Cond.code yX2_delayOf cX2_delayOf 5 (some .int), Cond.methodLink RX3 106 yX1_deliver, Cond.instanceMethod yX1_deliver, Cond.selects RX1 yX1_deliver yX1_deliver, Cond.code yX1_deliver cX1_deliver 3 none]
def wsX5_bestPeriod : List Cond := .code yX5_bestPeriod cX5_bestPeriod 6 (some .int) :: ((wsX5_bestPeriod_r1 ++ (wsX5_bestPeriod_r2 ++ (wsX5_bestPeriod_r3 ++ (wsX5_bestPeriod_r4 ++ (wsX5_bestPeriod_r5 ++ (wsX5_bestPeriod_r6 ++ (wsX5_bestPeriod_r7 ++ (wsX5_bestPeriod_r8 ++ (wsX5_bestPeriod_r9 ++ wsX5_bestPeriod_r10))))))))) ++ wsX50 ++ wsX30 ++ wsX10 ++ wsX20)
def wsX5_undo_r1 : List Cond := [Cond.fieldLink RX5 33 "InterestNet" "history" "LInterestNet$History;", Cond.fieldLink RX5 10 "InterestNet" "net" "LInterestNet$Net;", Cond.methodLink RX5 158 yX0_restore, Cond.instanceMethod yX0_restore, Cond.selects RX0 yX0_restore yX0_restore, Cond.initialized RX0, Cond.code yX0_restore cX0_restore 3 (some .boolean), Cond.fieldLink RX0 18 "InterestNet$History" "size" "I", Cond.methodLink RX0 25 yX0_stateAt, Cond.instanceMethod yX0_stateAt, Cond.selects RX0 yX0_stateAt yX0_stateAt, Cond.code yX0_stateAt cX0_stateAt 3 (some (.object "InterestNet$Net")), Cond.fieldLink RX0 22 "InterestNet$History" "oldest" "I", Cond.fieldLink RX0 11 "InterestNet$History" "states" "[LInterestNet$Net;", Cond.methodLink RX0 29 yX1_copyFrom, Cond.instanceMethod yX1_copyFrom, Cond.selects RX1 yX1_copyFrom yX1_copyFrom, Cond.initialized RX1, Cond.code yX1_copyFrom cX1_copyFrom 2 none, Cond.fieldLink RX1 9 "InterestNet$Net" "numbers" "[I", Cond.fieldLink RX1 15 "InterestNet$Net" "energies" "[I", Cond.fieldLink RX1 18 "InterestNet$Net" "links" "[I", Cond.fieldLink RX1 21 "InterestNet$Net" "sensors" "[I", Cond.fieldLink RX1 24 "InterestNet$Net" "interests" "[I"]
def wsX5_undo_r2 : List Cond := [Cond.fieldLink RX1 27 "InterestNet$Net" "wayLengths" "[I", Cond.fieldLink RX1 30 "InterestNet$Net" "wayNodes" "[I", Cond.static yX5_copy, Cond.initialized RX5, Cond.code yX5_copy cX5_copy 2 none, Cond.methodLink RX5 195 Lib.Math.min.name, Cond.static Lib.Math.min.name, Cond.initialized "java/lang/Math", Cond.code Lib.Math.min.name Lib.Math.min.code 2 (some .int), Cond.methodLink RX5 200 arraycopyName, Cond.native arraycopyName, Cond.static arraycopyName, Cond.initialized "java/lang/System"]
def wsX5_undo : List Cond := .code yX5_undo cX5_undo 1 (some .int) :: ((wsX5_undo_r1 ++ wsX5_undo_r2) ++ wsX50 ++ wsX00 ++ wsX10)
def wsX5_type : List Cond := .code yX5_type cX5_type 2 (some .int) :: ([.fieldLink RX5 40 "InterestNet" "text" "LInterestNet$Text;", .methodLink RX5 44 yX5_isWithin, .static yX5_isWithin, .initialized RX5, .code yX5_isWithin cX5_isWithin 3 (some .boolean), .methodLink RX5 166 yX4_append, .instanceMethod yX4_append, .selects RX4 yX4_append yX4_append, .initialized RX4, .code yX4_append cX4_append 2 (some .boolean), .fieldLink RX4 22 "InterestNet$Text" "length" "I", .fieldLink RX4 18 "InterestNet$Text" "codes" "[I", .static yX5_put, .code yX5_put cX5_put 3 none] ++ wsX50 ++ wsX40)
def wsX5_clearText : List Cond := .code yX5_clearText cX5_clearText 2 (some .int) :: ([.fieldLink RX5 40 "InterestNet" "text" "LInterestNet$Text;"] ++ wsX50 ++ wsX40)
def wsX5_textFault_r1 : List Cond := [Cond.fieldLink RX5 40 "InterestNet" "text" "LInterestNet$Text;", Cond.fieldLink RX5 10 "InterestNet" "net" "LInterestNet$Net;", Cond.methodLink RX5 173 yX4_read, Cond.instanceMethod yX4_read, Cond.selects RX4 yX4_read yX4_read, Cond.initialized RX4, Cond.code yX4_read cX4_read 3 (some .boolean), Cond.fieldLink RX4 12 "InterestNet$Text" "draft" "LInterestNet$Net;", Cond.fieldLink RX4 34 "InterestNet$Text" "place" "I", Cond.fieldLink RX4 37 "InterestNet$Text" "items" "I", Cond.methodLink RX4 30 yX1_copyFrom, Cond.instanceMethod yX1_copyFrom, Cond.selects RX1 yX1_copyFrom yX1_copyFrom, Cond.initialized RX1, Cond.code yX1_copyFrom cX1_copyFrom 2 none, Cond.fieldLink RX1 9 "InterestNet$Net" "numbers" "[I", Cond.fieldLink RX1 15 "InterestNet$Net" "energies" "[I", Cond.fieldLink RX1 18 "InterestNet$Net" "links" "[I", Cond.fieldLink RX1 21 "InterestNet$Net" "sensors" "[I", Cond.fieldLink RX1 24 "InterestNet$Net" "interests" "[I", Cond.fieldLink RX1 27 "InterestNet$Net" "wayLengths" "[I", Cond.fieldLink RX1 30 "InterestNet$Net" "wayNodes" "[I", Cond.static yX5_copy, Cond.initialized RX5]
def wsX5_textFault_r2 : List Cond := [Cond.code yX5_copy cX5_copy 2 none, Cond.methodLink RX5 195 Lib.Math.min.name, Cond.static Lib.Math.min.name, Cond.initialized "java/lang/Math", Cond.code Lib.Math.min.name Lib.Math.min.code 2 (some .int), Cond.methodLink RX5 200 arraycopyName, Cond.native arraycopyName, Cond.static arraycopyName, Cond.initialized "java/lang/System", Cond.methodLink RX4 40 yX4_readItem, Cond.instanceMethod yX4_readItem, Cond.selects RX4 yX4_readItem yX4_readItem, Cond.code yX4_readItem cX4_readItem 2 (some .boolean), Cond.methodLink RX4 44 yX4_nextCode, Cond.instanceMethod yX4_nextCode, Cond.selects RX4 yX4_nextCode yX4_nextCode, Cond.code yX4_nextCode cX4_nextCode 1 (some .int), Cond.fieldLink RX4 22 "InterestNet$Text" "length" "I", Cond.fieldLink RX4 18 "InterestNet$Text" "codes" "[I", Cond.static yX5_at, Cond.code yX5_at cX5_at 2 (some .int), Cond.methodLink RX4 55 yX4_readNode, Cond.instanceMethod yX4_readNode, Cond.selects RX4 yX4_readNode yX4_readNode]
def wsX5_textFault_r3 : List Cond := [Cond.code yX4_readNode cX4_readNode 2 (some .boolean), Cond.methodLink RX4 67 yX1_number, Cond.instanceMethod yX1_number, Cond.selects RX1 yX1_number yX1_number, Cond.code yX1_number cX1_number 2 (some .int), Cond.methodLink RX1 41 yX1_aliveNodes, Cond.instanceMethod yX1_aliveNodes, Cond.selects RX1 yX1_aliveNodes yX1_aliveNodes, Cond.code yX1_aliveNodes cX1_aliveNodes 3 (some .int), Cond.methodLink RX1 45 yJ6_bitCount_0f7a4, Cond.static yJ6_bitCount_0f7a4, Cond.initialized RJ6, Cond.code yJ6_bitCount_0f7a4 cJ6_bitCount_0f7a4 1 (some .int), Cond.constant RJ6 265 (1431655765), Cond.constant RJ6 266 (858993459), Cond.constant RJ6 267 (252645135), Cond.methodLink RX4 52 yX4_refuse, Cond.instanceMethod yX4_refuse, Cond.selects RX4 yX4_refuse yX4_refuse, Cond.code yX4_refuse cX4_refuse 2 (some .boolean), Cond.fieldLink RX4 100 "InterestNet$Text" "fault" "I", Cond.methodLink RX4 48 yX4_readSign, Cond.instanceMethod yX4_readSign, Cond.selects RX4 yX4_readSign yX4_readSign]
def wsX5_textFault_r4 : List Cond := [Cond.code yX4_readSign cX4_readSign 2 (some .boolean), Cond.methodLink RX4 71 yX4_readNumber, Cond.instanceMethod yX4_readNumber, Cond.selects RX4 yX4_readNumber yX4_readNumber, Cond.code yX4_readNumber cX4_readNumber 5 (some .int), Cond.fieldLink RX4 82 "InterestNet$Text" "numberPlace" "I", Cond.methodLink RX4 61 yX4_isDigit, Cond.static yX4_isDigit, Cond.code yX4_isDigit cX4_isDigit 1 (some .boolean), Cond.static yX5_isWithin, Cond.code yX5_isWithin cX5_isWithin 3 (some .boolean), Cond.methodLink RX4 75 yX1_appendNode, Cond.instanceMethod yX1_appendNode, Cond.selects RX1 yX1_appendNode yX1_appendNode, Cond.code yX1_appendNode cX1_appendNode 3 (some .int), Cond.static yX5_put, Cond.code yX5_put cX5_put 3 none, Cond.methodLink RX4 58 yX4_readSensor, Cond.instanceMethod yX4_readSensor, Cond.selects RX4 yX4_readSensor yX4_readSensor, Cond.code yX4_readSensor cX4_readSensor 5 (some .boolean), Cond.methodLink RX4 89 yX1_appendSensor, Cond.instanceMethod yX1_appendSensor, Cond.selects RX1 yX1_appendSensor yX1_appendSensor]
def wsX5_textFault_r5 : List Cond := [Cond.code yX1_appendSensor cX1_appendSensor 5 (some .int), Cond.methodLink RX4 64 yX4_readLink, Cond.instanceMethod yX4_readLink, Cond.selects RX4 yX4_readLink yX4_readLink, Cond.code yX4_readLink cX4_readLink 5 (some .boolean), Cond.methodLink RX4 78 yX1_areLinked, Cond.instanceMethod yX1_areLinked, Cond.selects RX1 yX1_areLinked yX1_areLinked, Cond.code yX1_areLinked cX1_areLinked 4 (some .boolean), Cond.methodLink RX1 67 yX1_partOfLink, Cond.instanceMethod yX1_partOfLink, Cond.selects RX1 yX1_partOfLink yX1_partOfLink, Cond.code yX1_partOfLink cX1_partOfLink 3 (some .int), Cond.methodLink RX1 70 yX1_isPair, Cond.static yX1_isPair, Cond.code yX1_isPair cX1_isPair 4 (some .boolean), Cond.methodLink RX4 85 yX1_appendLink, Cond.instanceMethod yX1_appendLink, Cond.selects RX1 yX1_appendLink yX1_appendLink, Cond.code yX1_appendLink cX1_appendLink 5 (some .int)]
def wsX5_textFault : List Cond := .code yX5_textFault cX5_textFault 1 (some .int) :: ((wsX5_textFault_r1 ++ (wsX5_textFault_r2 ++ (wsX5_textFault_r3 ++ (wsX5_textFault_r4 ++ wsX5_textFault_r5)))) ++ wsX50 ++ wsX40 ++ wsX10)
def wsX5_build_r1 : List Cond := [Cond.fieldLink RX5 40 "InterestNet" "text" "LInterestNet$Text;", Cond.fieldLink RX5 10 "InterestNet" "net" "LInterestNet$Net;", Cond.fieldLink RX5 33 "InterestNet" "history" "LInterestNet$History;", Cond.methodLink RX5 173 yX4_read, Cond.instanceMethod yX4_read, Cond.selects RX4 yX4_read yX4_read, Cond.initialized RX4, Cond.code yX4_read cX4_read 3 (some .boolean), Cond.fieldLink RX4 12 "InterestNet$Text" "draft" "LInterestNet$Net;", Cond.fieldLink RX4 34 "InterestNet$Text" "place" "I", Cond.fieldLink RX4 37 "InterestNet$Text" "items" "I", Cond.methodLink RX4 30 yX1_copyFrom, Cond.instanceMethod yX1_copyFrom, Cond.selects RX1 yX1_copyFrom yX1_copyFrom, Cond.initialized RX1, Cond.code yX1_copyFrom cX1_copyFrom 2 none, Cond.fieldLink RX1 9 "InterestNet$Net" "numbers" "[I", Cond.fieldLink RX1 15 "InterestNet$Net" "energies" "[I", Cond.fieldLink RX1 18 "InterestNet$Net" "links" "[I", Cond.fieldLink RX1 21 "InterestNet$Net" "sensors" "[I", Cond.fieldLink RX1 24 "InterestNet$Net" "interests" "[I", Cond.fieldLink RX1 27 "InterestNet$Net" "wayLengths" "[I", Cond.fieldLink RX1 30 "InterestNet$Net" "wayNodes" "[I", Cond.static yX5_copy]
def wsX5_build_r2 : List Cond := [Cond.initialized RX5, Cond.code yX5_copy cX5_copy 2 none, Cond.methodLink RX5 195 Lib.Math.min.name, Cond.static Lib.Math.min.name, Cond.initialized "java/lang/Math", Cond.code Lib.Math.min.name Lib.Math.min.code 2 (some .int), Cond.methodLink RX5 200 arraycopyName, Cond.native arraycopyName, Cond.static arraycopyName, Cond.initialized "java/lang/System", Cond.methodLink RX4 40 yX4_readItem, Cond.instanceMethod yX4_readItem, Cond.selects RX4 yX4_readItem yX4_readItem, Cond.code yX4_readItem cX4_readItem 2 (some .boolean), Cond.methodLink RX4 44 yX4_nextCode, Cond.instanceMethod yX4_nextCode, Cond.selects RX4 yX4_nextCode yX4_nextCode, Cond.code yX4_nextCode cX4_nextCode 1 (some .int), Cond.fieldLink RX4 22 "InterestNet$Text" "length" "I", Cond.fieldLink RX4 18 "InterestNet$Text" "codes" "[I", Cond.static yX5_at, Cond.code yX5_at cX5_at 2 (some .int), Cond.methodLink RX4 55 yX4_readNode, Cond.instanceMethod yX4_readNode]
def wsX5_build_r3 : List Cond := [Cond.selects RX4 yX4_readNode yX4_readNode, Cond.code yX4_readNode cX4_readNode 2 (some .boolean), Cond.methodLink RX4 67 yX1_number, Cond.instanceMethod yX1_number, Cond.selects RX1 yX1_number yX1_number, Cond.code yX1_number cX1_number 2 (some .int), Cond.methodLink RX1 41 yX1_aliveNodes, Cond.instanceMethod yX1_aliveNodes, Cond.selects RX1 yX1_aliveNodes yX1_aliveNodes, Cond.code yX1_aliveNodes cX1_aliveNodes 3 (some .int), Cond.methodLink RX1 45 yJ6_bitCount_0f7a4, Cond.static yJ6_bitCount_0f7a4, Cond.initialized RJ6, Cond.code yJ6_bitCount_0f7a4 cJ6_bitCount_0f7a4 1 (some .int), Cond.constant RJ6 265 (1431655765), Cond.constant RJ6 266 (858993459), Cond.constant RJ6 267 (252645135), Cond.methodLink RX4 52 yX4_refuse, Cond.instanceMethod yX4_refuse, Cond.selects RX4 yX4_refuse yX4_refuse, Cond.code yX4_refuse cX4_refuse 2 (some .boolean), Cond.fieldLink RX4 100 "InterestNet$Text" "fault" "I", Cond.methodLink RX4 48 yX4_readSign, Cond.instanceMethod yX4_readSign]
def wsX5_build_r4 : List Cond := [Cond.selects RX4 yX4_readSign yX4_readSign, Cond.code yX4_readSign cX4_readSign 2 (some .boolean), Cond.methodLink RX4 71 yX4_readNumber, Cond.instanceMethod yX4_readNumber, Cond.selects RX4 yX4_readNumber yX4_readNumber, Cond.code yX4_readNumber cX4_readNumber 5 (some .int), Cond.fieldLink RX4 82 "InterestNet$Text" "numberPlace" "I", Cond.methodLink RX4 61 yX4_isDigit, Cond.static yX4_isDigit, Cond.code yX4_isDigit cX4_isDigit 1 (some .boolean), Cond.static yX5_isWithin, Cond.code yX5_isWithin cX5_isWithin 3 (some .boolean), Cond.methodLink RX4 75 yX1_appendNode, Cond.instanceMethod yX1_appendNode, Cond.selects RX1 yX1_appendNode yX1_appendNode, Cond.code yX1_appendNode cX1_appendNode 3 (some .int), Cond.static yX5_put, Cond.code yX5_put cX5_put 3 none, Cond.methodLink RX4 58 yX4_readSensor, Cond.instanceMethod yX4_readSensor, Cond.selects RX4 yX4_readSensor yX4_readSensor, Cond.code yX4_readSensor cX4_readSensor 5 (some .boolean), Cond.methodLink RX4 89 yX1_appendSensor, Cond.instanceMethod yX1_appendSensor]
def wsX5_build_r5 : List Cond := [Cond.selects RX1 yX1_appendSensor yX1_appendSensor, Cond.code yX1_appendSensor cX1_appendSensor 5 (some .int), Cond.methodLink RX4 64 yX4_readLink, Cond.instanceMethod yX4_readLink, Cond.selects RX4 yX4_readLink yX4_readLink, Cond.code yX4_readLink cX4_readLink 5 (some .boolean), Cond.methodLink RX4 78 yX1_areLinked, Cond.instanceMethod yX1_areLinked, Cond.selects RX1 yX1_areLinked yX1_areLinked, Cond.code yX1_areLinked cX1_areLinked 4 (some .boolean), Cond.methodLink RX1 67 yX1_partOfLink, Cond.instanceMethod yX1_partOfLink, Cond.selects RX1 yX1_partOfLink yX1_partOfLink, Cond.code yX1_partOfLink cX1_partOfLink 3 (some .int), Cond.methodLink RX1 70 yX1_isPair, Cond.static yX1_isPair, Cond.code yX1_isPair cX1_isPair 4 (some .boolean), Cond.methodLink RX4 85 yX1_appendLink, Cond.instanceMethod yX1_appendLink, Cond.selects RX1 yX1_appendLink yX1_appendLink, Cond.code yX1_appendLink cX1_appendLink 5 (some .int), Cond.methodLink RX5 52 yX0_record, Cond.instanceMethod yX0_record, Cond.selects RX0 yX0_record yX0_record]
def wsX5_build_r6 : List Cond := [Cond.initialized RX0, Cond.code yX0_record cX0_record 3 none, Cond.fieldLink RX0 18 "InterestNet$History" "size" "I", Cond.fieldLink RX0 22 "InterestNet$History" "oldest" "I", Cond.methodLink RX0 25 yX0_stateAt, Cond.instanceMethod yX0_stateAt, Cond.selects RX0 yX0_stateAt yX0_stateAt, Cond.code yX0_stateAt cX0_stateAt 3 (some (.object "InterestNet$Net")), Cond.fieldLink RX0 11 "InterestNet$History" "states" "[LInterestNet$Net;", Cond.methodLink RX0 29 yX1_copyFrom, Cond.methodLink RX5 117 yX1_copyFrom]
def wsX5_build : List Cond := .code yX5_build cX5_build 1 (some .int) :: ((wsX5_build_r1 ++ (wsX5_build_r2 ++ (wsX5_build_r3 ++ (wsX5_build_r4 ++ (wsX5_build_r5 ++ wsX5_build_r6))))) ++ wsX50 ++ wsX40 ++ wsX10 ++ wsX00)
def wsX5_digest_r1 : List Cond := [Cond.fieldLink RX5 10 "InterestNet" "net" "LInterestNet$Net;", Cond.methodLink RX5 183 yX1_hash, Cond.instanceMethod yX1_hash, Cond.selects RX1 yX1_hash yX1_hash, Cond.initialized RX1, Cond.code yX1_hash cX1_hash 4 (some .long), Cond.constantLong RX1 97 (17), Cond.constantLong RX1 99 (31), Cond.fieldLink RX1 15 "InterestNet$Net" "energies" "[I", Cond.fieldLink RX1 9 "InterestNet$Net" "numbers" "[I", Cond.fieldLink RX1 18 "InterestNet$Net" "links" "[I", Cond.fieldLink RX1 21 "InterestNet$Net" "sensors" "[I", Cond.fieldLink RX1 24 "InterestNet$Net" "interests" "[I", Cond.methodLink RX1 101 yX1_number, Cond.instanceMethod yX1_number, Cond.selects RX1 yX1_number yX1_number, Cond.code yX1_number cX1_number 2 (some .int), Cond.methodLink RX1 41 yX1_aliveNodes, Cond.instanceMethod yX1_aliveNodes, Cond.selects RX1 yX1_aliveNodes yX1_aliveNodes, Cond.code yX1_aliveNodes cX1_aliveNodes 3 (some .int), Cond.static yX5_at, Cond.initialized RX5, Cond.code yX5_at cX5_at 2 (some .int)]
def wsX5_digest_r2 : List Cond := [Cond.methodLink RX1 45 yJ6_bitCount_0f7a4, Cond.static yJ6_bitCount_0f7a4, Cond.initialized RJ6, Cond.code yJ6_bitCount_0f7a4 cJ6_bitCount_0f7a4 1 (some .int), Cond.constant RJ6 265 (1431655765), Cond.constant RJ6 266 (858993459), Cond.constant RJ6 267 (252645135), Cond.static yX5_hashOf, Cond.code yX5_hashOf cX5_hashOf 8 (some .long), Cond.constantLong RX5 206 (31), Cond.methodLink RX5 187 yX5_at, Cond.methodLink RX1 84 yX1_waysOf, Cond.instanceMethod yX1_waysOf, Cond.selects RX1 yX1_waysOf yX1_waysOf, Cond.code yX1_waysOf cX1_waysOf 4 (some .int), Cond.fieldLink RX1 27 "InterestNet$Net" "wayLengths" "[I", Cond.static yX5_wayOf, Cond.code yX5_wayOf cX5_wayOf 2 (some .int), Cond.methodLink RX1 108 yX1_hashOfWays, Cond.instanceMethod yX1_hashOfWays, Cond.selects RX1 yX1_hashOfWays yX1_hashOfWays, Cond.code yX1_hashOfWays cX1_hashOfWays 8 (some .long), Cond.fieldLink RX1 30 "InterestNet$Net" "wayNodes" "[I", Cond.methodLink RX1 112 yX1_lengthOf]
def wsX5_digest_r3 : List Cond := [Cond.instanceMethod yX1_lengthOf, Cond.selects RX1 yX1_lengthOf yX1_lengthOf, Cond.code yX1_lengthOf cX1_lengthOf 2 (some .int)]
def wsX5_digest : List Cond := .code yX5_digest cX5_digest 1 (some .long) :: ((wsX5_digest_r1 ++ (wsX5_digest_r2 ++ wsX5_digest_r3)) ++ wsX50 ++ wsX10)
def wsX6_init : List Cond := .code yX6_init cX6_init 1 none :: ([.methodLink RX6 1 objectInit, .instanceMethod objectInit, .code objectInit ⟨#[0xb1]⟩ 1 none, .arrayClass .int, .fieldLink RX6 7 "InterestNetModel" "row" "[I", .fieldLink RX6 13 "InterestNetModel" "time" "[I", .arrayClass .boolean, .fieldLink RX6 16 "InterestNetModel" "alive" "[Z", .fieldLink RX6 20 "InterestNetModel" "done" "[Z", .fieldLink RX6 23 "InterestNetModel" "found" "[I", .fieldLink RX6 26 "InterestNetModel" "old" "[I", .fieldLink RX6 29 "InterestNetModel" "sent" "[Z", .fieldLink RX6 32 "InterestNetModel" "text" "[I"] ++ wsX60)
def wsX6_in : List Cond := .code yX6_in cX6_in 3 (some .boolean) :: ([])
def wsX6_copies : List Cond := .code yX6_copies cX6_copies 4 none :: ([.fieldLink RX6 7 "InterestNetModel" "row" "[I"] ++ wsX60)
def wsX6_saves : List Cond := .code yX6_saves cX6_saves 2 none :: ([.fieldLink RX6 35 "InterestNetModel" "saved" "I", .methodLink RX6 39 yX6_copies, .instanceMethod yX6_copies, .selects RX6 yX6_copies yX6_copies, .initialized RX6, .code yX6_copies cX6_copies 4 none, .fieldLink RX6 7 "InterestNetModel" "row" "[I"] ++ wsX60)
def wsX6_isNode : List Cond := .code yX6_isNode cX6_isNode 2 (some .boolean) :: ([.fieldLink RX6 7 "InterestNetModel" "row" "[I", .methodLink RX6 43 yX6_in, .static yX6_in, .initialized RX6, .code yX6_in cX6_in 3 (some .boolean)] ++ wsX60)
def wsX6_isLink : List Cond := .code yX6_isLink cX6_isLink 2 (some .boolean) :: ([.fieldLink RX6 7 "InterestNetModel" "row" "[I", .methodLink RX6 43 yX6_in, .static yX6_in, .initialized RX6, .code yX6_in cX6_in 3 (some .boolean)] ++ wsX60)
def wsX6_isSensor : List Cond := .code yX6_isSensor cX6_isSensor 2 (some .boolean) :: ([.fieldLink RX6 7 "InterestNetModel" "row" "[I", .methodLink RX6 43 yX6_in, .static yX6_in, .initialized RX6, .code yX6_in cX6_in 3 (some .boolean)] ++ wsX60)
def wsX6_isInterest : List Cond := .code yX6_isInterest cX6_isInterest 2 (some .boolean) :: ([.fieldLink RX6 7 "InterestNetModel" "row" "[I", .methodLink RX6 43 yX6_in, .static yX6_in, .initialized RX6, .code yX6_in cX6_in 3 (some .boolean)] ++ wsX60)
def wsX6_ofLink : List Cond := .code yX6_ofLink cX6_ofLink 3 (some .int) :: ([.fieldLink RX6 7 "InterestNetModel" "row" "[I"] ++ wsX60)
def wsX6_ofSensor : List Cond := .code yX6_ofSensor cX6_ofSensor 3 (some .int) :: ([.fieldLink RX6 7 "InterestNetModel" "row" "[I"] ++ wsX60)
def wsX6_ofInterest : List Cond := .code yX6_ofInterest cX6_ofInterest 3 (some .int) :: ([.fieldLink RX6 7 "InterestNetModel" "row" "[I"] ++ wsX60)
def wsX6_isAlive : List Cond := .code yX6_isAlive cX6_isAlive 2 (some .boolean) :: ([.fieldLink RX6 7 "InterestNetModel" "row" "[I"] ++ wsX60)
def wsX6_linkOf : List Cond := .code yX6_linkOf cX6_linkOf 7 (some .int) :: ([.fieldLink RX6 7 "InterestNetModel" "row" "[I", .methodLink RX6 47 yX6_ofLink, .instanceMethod yX6_ofLink, .selects RX6 yX6_ofLink yX6_ofLink, .initialized RX6, .code yX6_ofLink cX6_ofLink 3 (some .int)] ++ wsX60)
def wsX6_wayAt : List Cond := .code yX6_wayAt cX6_wayAt 3 (some .int) :: ([])
def wsX6_lengthOf : List Cond := .code yX6_lengthOf cX6_lengthOf 3 (some .int) :: ([.fieldLink RX6 7 "InterestNetModel" "row" "[I", .methodLink RX6 51 yX6_wayAt, .instanceMethod yX6_wayAt, .selects RX6 yX6_wayAt yX6_wayAt, .initialized RX6, .code yX6_wayAt cX6_wayAt 3 (some .int)] ++ wsX60)
def wsX6_nodeOf : List Cond := .code yX6_nodeOf cX6_nodeOf 4 (some .int) :: ([.fieldLink RX6 7 "InterestNetModel" "row" "[I", .methodLink RX6 51 yX6_wayAt, .instanceMethod yX6_wayAt, .selects RX6 yX6_wayAt yX6_wayAt, .initialized RX6, .code yX6_wayAt cX6_wayAt 3 (some .int)] ++ wsX60)
def wsX6_laysNode : List Cond := .code yX6_laysNode cX6_laysNode 2 none :: ([.fieldLink RX6 7 "InterestNetModel" "row" "[I"] ++ wsX60)
def wsX6_laysLink : List Cond := .code yX6_laysLink cX6_laysLink 5 none :: ([.fieldLink RX6 7 "InterestNetModel" "row" "[I"] ++ wsX60)
def wsX6_laysSensor : List Cond := .code yX6_laysSensor cX6_laysSensor 6 none :: ([.fieldLink RX6 7 "InterestNetModel" "row" "[I", .methodLink RX6 51 yX6_wayAt, .instanceMethod yX6_wayAt, .selects RX6 yX6_wayAt yX6_wayAt, .initialized RX6, .code yX6_wayAt cX6_wayAt 3 (some .int)] ++ wsX60)
def wsX6_addNode : List Cond := .code yX6_addNode cX6_addNode 2 (some .int) :: ([.fieldLink RX6 7 "InterestNetModel" "row" "[I", .methodLink RX6 43 yX6_in, .static yX6_in, .initialized RX6, .code yX6_in cX6_in 3 (some .boolean), .methodLink RX6 54 yX6_saves, .instanceMethod yX6_saves, .selects RX6 yX6_saves yX6_saves, .code yX6_saves cX6_saves 2 none, .fieldLink RX6 35 "InterestNetModel" "saved" "I", .methodLink RX6 39 yX6_copies, .instanceMethod yX6_copies, .selects RX6 yX6_copies yX6_copies, .code yX6_copies cX6_copies 4 none, .methodLink RX6 57 yX6_laysNode, .instanceMethod yX6_laysNode, .selects RX6 yX6_laysNode yX6_laysNode, .code yX6_laysNode cX6_laysNode 2 none] ++ wsX60)
def wsX6_charge : List Cond := .code yX6_charge cX6_charge 4 (some .int) :: ([.fieldLink RX6 7 "InterestNetModel" "row" "[I", .methodLink RX6 61 yX6_isNode, .instanceMethod yX6_isNode, .selects RX6 yX6_isNode yX6_isNode, .initialized RX6, .code yX6_isNode cX6_isNode 2 (some .boolean), .methodLink RX6 43 yX6_in, .static yX6_in, .code yX6_in cX6_in 3 (some .boolean), .methodLink RX6 54 yX6_saves, .instanceMethod yX6_saves, .selects RX6 yX6_saves yX6_saves, .code yX6_saves cX6_saves 2 none, .fieldLink RX6 35 "InterestNetModel" "saved" "I", .methodLink RX6 39 yX6_copies, .instanceMethod yX6_copies, .selects RX6 yX6_copies yX6_copies, .code yX6_copies cX6_copies 4 none] ++ wsX60)
def wsX6_link_r1 : List Cond := [Cond.fieldLink RX6 7 "InterestNetModel" "row" "[I", Cond.methodLink RX6 61 yX6_isNode, Cond.instanceMethod yX6_isNode, Cond.selects RX6 yX6_isNode yX6_isNode, Cond.initialized RX6, Cond.code yX6_isNode cX6_isNode 2 (some .boolean), Cond.methodLink RX6 43 yX6_in, Cond.static yX6_in, Cond.code yX6_in cX6_in 3 (some .boolean), Cond.methodLink RX6 65 yX6_linkOf, Cond.instanceMethod yX6_linkOf, Cond.selects RX6 yX6_linkOf yX6_linkOf, Cond.code yX6_linkOf cX6_linkOf 7 (some .int), Cond.methodLink RX6 47 yX6_ofLink, Cond.instanceMethod yX6_ofLink, Cond.selects RX6 yX6_ofLink yX6_ofLink, Cond.code yX6_ofLink cX6_ofLink 3 (some .int), Cond.methodLink RX6 54 yX6_saves, Cond.instanceMethod yX6_saves, Cond.selects RX6 yX6_saves yX6_saves, Cond.code yX6_saves cX6_saves 2 none, Cond.fieldLink RX6 35 "InterestNetModel" "saved" "I", Cond.methodLink RX6 39 yX6_copies, Cond.instanceMethod yX6_copies]
def wsX6_link_r2 : List Cond := [Cond.selects RX6 yX6_copies yX6_copies, Cond.code yX6_copies cX6_copies 4 none, Cond.methodLink RX6 68 yX6_laysLink, Cond.instanceMethod yX6_laysLink, Cond.selects RX6 yX6_laysLink yX6_laysLink, Cond.code yX6_laysLink cX6_laysLink 5 none]
def wsX6_link : List Cond := .code yX6_link cX6_link 4 (some .int) :: ((wsX6_link_r1 ++ wsX6_link_r2) ++ wsX60)
def wsX6_cut : List Cond := .code yX6_cut cX6_cut 3 (some .int) :: ([.fieldLink RX6 7 "InterestNetModel" "row" "[I", .methodLink RX6 72 yX6_isLink, .instanceMethod yX6_isLink, .selects RX6 yX6_isLink yX6_isLink, .initialized RX6, .code yX6_isLink cX6_isLink 2 (some .boolean), .methodLink RX6 43 yX6_in, .static yX6_in, .code yX6_in cX6_in 3 (some .boolean), .methodLink RX6 54 yX6_saves, .instanceMethod yX6_saves, .selects RX6 yX6_saves yX6_saves, .code yX6_saves cX6_saves 2 none, .fieldLink RX6 35 "InterestNetModel" "saved" "I", .methodLink RX6 39 yX6_copies, .instanceMethod yX6_copies, .selects RX6 yX6_copies yX6_copies, .code yX6_copies cX6_copies 4 none] ++ wsX60)
def wsX6_isKind : List Cond := .code yX6_isKind cX6_isKind 1 (some .boolean) :: ([.methodLink RX6 43 yX6_in, .static yX6_in, .initialized RX6, .code yX6_in cX6_in 3 (some .boolean)])
def wsX6_isMeasure : List Cond := .code yX6_isMeasure cX6_isMeasure 1 (some .boolean) :: ([.methodLink RX6 43 yX6_in, .static yX6_in, .initialized RX6, .code yX6_in cX6_in 3 (some .boolean)])
def wsX6_addSensor_r1 : List Cond := [Cond.fieldLink RX6 7 "InterestNetModel" "row" "[I", Cond.methodLink RX6 61 yX6_isNode, Cond.instanceMethod yX6_isNode, Cond.selects RX6 yX6_isNode yX6_isNode, Cond.initialized RX6, Cond.code yX6_isNode cX6_isNode 2 (some .boolean), Cond.methodLink RX6 43 yX6_in, Cond.static yX6_in, Cond.code yX6_in cX6_in 3 (some .boolean), Cond.methodLink RX6 75 yX6_isKind, Cond.static yX6_isKind, Cond.code yX6_isKind cX6_isKind 1 (some .boolean), Cond.methodLink RX6 78 yX6_isMeasure, Cond.static yX6_isMeasure, Cond.code yX6_isMeasure cX6_isMeasure 1 (some .boolean), Cond.methodLink RX6 54 yX6_saves, Cond.instanceMethod yX6_saves, Cond.selects RX6 yX6_saves yX6_saves, Cond.code yX6_saves cX6_saves 2 none, Cond.fieldLink RX6 35 "InterestNetModel" "saved" "I", Cond.methodLink RX6 39 yX6_copies, Cond.instanceMethod yX6_copies, Cond.selects RX6 yX6_copies yX6_copies, Cond.code yX6_copies cX6_copies 4 none]
def wsX6_addSensor_r2 : List Cond := [Cond.methodLink RX6 81 yX6_laysSensor, Cond.instanceMethod yX6_laysSensor, Cond.selects RX6 yX6_laysSensor yX6_laysSensor, Cond.code yX6_laysSensor cX6_laysSensor 6 none, Cond.methodLink RX6 51 yX6_wayAt, Cond.instanceMethod yX6_wayAt, Cond.selects RX6 yX6_wayAt yX6_wayAt, Cond.code yX6_wayAt cX6_wayAt 3 (some .int)]
def wsX6_addSensor : List Cond := .code yX6_addSensor cX6_addSensor 4 (some .int) :: ((wsX6_addSensor_r1 ++ wsX6_addSensor_r2) ++ wsX60)
def wsX6_measure_r1 : List Cond := [Cond.fieldLink RX6 7 "InterestNetModel" "row" "[I", Cond.methodLink RX6 84 yX6_isSensor, Cond.instanceMethod yX6_isSensor, Cond.selects RX6 yX6_isSensor yX6_isSensor, Cond.initialized RX6, Cond.code yX6_isSensor cX6_isSensor 2 (some .boolean), Cond.methodLink RX6 43 yX6_in, Cond.static yX6_in, Cond.code yX6_in cX6_in 3 (some .boolean), Cond.methodLink RX6 78 yX6_isMeasure, Cond.static yX6_isMeasure, Cond.code yX6_isMeasure cX6_isMeasure 1 (some .boolean), Cond.methodLink RX6 54 yX6_saves, Cond.instanceMethod yX6_saves, Cond.selects RX6 yX6_saves yX6_saves, Cond.code yX6_saves cX6_saves 2 none, Cond.fieldLink RX6 35 "InterestNetModel" "saved" "I", Cond.methodLink RX6 39 yX6_copies, Cond.instanceMethod yX6_copies, Cond.selects RX6 yX6_copies yX6_copies, Cond.code yX6_copies cX6_copies 4 none, Cond.methodLink RX6 87 yX6_ofSensor, Cond.instanceMethod yX6_ofSensor, Cond.selects RX6 yX6_ofSensor yX6_ofSensor]
def wsX6_measure_r2 : List Cond := [Cond.code yX6_ofSensor cX6_ofSensor 3 (some .int)]
def wsX6_measure : List Cond := .code yX6_measure cX6_measure 4 (some .int) :: ((wsX6_measure_r1 ++ wsX6_measure_r2) ++ wsX60)
def wsX6_ask_r1 : List Cond := [Cond.fieldLink RX6 7 "InterestNetModel" "row" "[I", Cond.constant RX6 90 (100000), Cond.methodLink RX6 61 yX6_isNode, Cond.instanceMethod yX6_isNode, Cond.selects RX6 yX6_isNode yX6_isNode, Cond.initialized RX6, Cond.code yX6_isNode cX6_isNode 2 (some .boolean), Cond.methodLink RX6 43 yX6_in, Cond.static yX6_in, Cond.code yX6_in cX6_in 3 (some .boolean), Cond.methodLink RX6 75 yX6_isKind, Cond.static yX6_isKind, Cond.code yX6_isKind cX6_isKind 1 (some .boolean), Cond.methodLink RX6 78 yX6_isMeasure, Cond.static yX6_isMeasure, Cond.code yX6_isMeasure cX6_isMeasure 1 (some .boolean), Cond.methodLink RX6 54 yX6_saves, Cond.instanceMethod yX6_saves, Cond.selects RX6 yX6_saves yX6_saves, Cond.code yX6_saves cX6_saves 2 none, Cond.fieldLink RX6 35 "InterestNetModel" "saved" "I", Cond.methodLink RX6 39 yX6_copies, Cond.instanceMethod yX6_copies, Cond.selects RX6 yX6_copies yX6_copies]
def wsX6_ask_r2 : List Cond := [Cond.code yX6_copies cX6_copies 4 none, Cond.methodLink RX6 51 yX6_wayAt, Cond.instanceMethod yX6_wayAt, Cond.selects RX6 yX6_wayAt yX6_wayAt, Cond.code yX6_wayAt cX6_wayAt 3 (some .int)]
def wsX6_ask : List Cond := .code yX6_ask cX6_ask 9 (some .int) :: ((wsX6_ask_r1 ++ wsX6_ask_r2) ++ wsX60)
def wsX6_removes : List Cond := .code yX6_removes cX6_removes 3 none :: ([.fieldLink RX6 7 "InterestNetModel" "row" "[I", .methodLink RX6 51 yX6_wayAt, .instanceMethod yX6_wayAt, .selects RX6 yX6_wayAt yX6_wayAt, .initialized RX6, .code yX6_wayAt cX6_wayAt 3 (some .int)] ++ wsX60)
def wsX6_withdraw_r1 : List Cond := [Cond.fieldLink RX6 7 "InterestNetModel" "row" "[I", Cond.methodLink RX6 91 yX6_isInterest, Cond.instanceMethod yX6_isInterest, Cond.selects RX6 yX6_isInterest yX6_isInterest, Cond.initialized RX6, Cond.code yX6_isInterest cX6_isInterest 2 (some .boolean), Cond.methodLink RX6 43 yX6_in, Cond.static yX6_in, Cond.code yX6_in cX6_in 3 (some .boolean), Cond.methodLink RX6 54 yX6_saves, Cond.instanceMethod yX6_saves, Cond.selects RX6 yX6_saves yX6_saves, Cond.code yX6_saves cX6_saves 2 none, Cond.fieldLink RX6 35 "InterestNetModel" "saved" "I", Cond.methodLink RX6 39 yX6_copies, Cond.instanceMethod yX6_copies, Cond.selects RX6 yX6_copies yX6_copies, Cond.code yX6_copies cX6_copies 4 none, Cond.methodLink RX6 94 yX6_removes, Cond.instanceMethod yX6_removes, Cond.selects RX6 yX6_removes yX6_removes, Cond.code yX6_removes cX6_removes 3 none, Cond.methodLink RX6 51 yX6_wayAt, Cond.instanceMethod yX6_wayAt]
def wsX6_withdraw_r2 : List Cond := [Cond.selects RX6 yX6_wayAt yX6_wayAt, Cond.code yX6_wayAt cX6_wayAt 3 (some .int)]
def wsX6_withdraw : List Cond := .code yX6_withdraw cX6_withdraw 2 (some .int) :: ((wsX6_withdraw_r1 ++ wsX6_withdraw_r2) ++ wsX60)
def wsX6_setPeriod : List Cond := .code yX6_setPeriod cX6_setPeriod 3 (some .int) :: ([.fieldLink RX6 7 "InterestNetModel" "row" "[I", .methodLink RX6 43 yX6_in, .static yX6_in, .initialized RX6, .code yX6_in cX6_in 3 (some .boolean), .methodLink RX6 54 yX6_saves, .instanceMethod yX6_saves, .selects RX6 yX6_saves yX6_saves, .code yX6_saves cX6_saves 2 none, .fieldLink RX6 35 "InterestNetModel" "saved" "I", .methodLink RX6 39 yX6_copies, .instanceMethod yX6_copies, .selects RX6 yX6_copies yX6_copies, .code yX6_copies cX6_copies 4 none] ++ wsX60)
def wsX6_living : List Cond := .code yX6_living cX6_living 3 (some .int) :: ([.fieldLink RX6 7 "InterestNetModel" "row" "[I", .methodLink RX6 97 yX6_isAlive, .instanceMethod yX6_isAlive, .selects RX6 yX6_isAlive yX6_isAlive, .initialized RX6, .code yX6_isAlive cX6_isAlive 2 (some .boolean)] ++ wsX60)
def wsX6_count : List Cond := .code yX6_count cX6_count 2 (some .int) :: ([.fieldLink RX6 7 "InterestNetModel" "row" "[I", .methodLink RX6 43 yX6_in, .static yX6_in, .initialized RX6, .code yX6_in cX6_in 3 (some .boolean), .methodLink RX6 100 yX6_living, .instanceMethod yX6_living, .selects RX6 yX6_living yX6_living, .code yX6_living cX6_living 3 (some .int), .methodLink RX6 97 yX6_isAlive, .instanceMethod yX6_isAlive, .selects RX6 yX6_isAlive yX6_isAlive, .code yX6_isAlive cX6_isAlive 2 (some .boolean)] ++ wsX60)
def wsX6_energy : List Cond := .code yX6_energy cX6_energy 2 (some .int) :: ([.fieldLink RX6 7 "InterestNetModel" "row" "[I", .methodLink RX6 61 yX6_isNode, .instanceMethod yX6_isNode, .selects RX6 yX6_isNode yX6_isNode, .initialized RX6, .code yX6_isNode cX6_isNode 2 (some .boolean), .methodLink RX6 43 yX6_in, .static yX6_in, .code yX6_in cX6_in 3 (some .boolean)] ++ wsX60)
def wsX6_linkPart : List Cond := .code yX6_linkPart cX6_linkPart 3 (some .int) :: ([.methodLink RX6 72 yX6_isLink, .instanceMethod yX6_isLink, .selects RX6 yX6_isLink yX6_isLink, .initialized RX6, .code yX6_isLink cX6_isLink 2 (some .boolean), .fieldLink RX6 7 "InterestNetModel" "row" "[I", .methodLink RX6 43 yX6_in, .static yX6_in, .code yX6_in cX6_in 3 (some .boolean), .methodLink RX6 47 yX6_ofLink, .instanceMethod yX6_ofLink, .selects RX6 yX6_ofLink yX6_ofLink, .code yX6_ofLink cX6_ofLink 3 (some .int)] ++ wsX60)
def wsX6_sensor : List Cond := .code yX6_sensor cX6_sensor 3 (some .int) :: ([.methodLink RX6 84 yX6_isSensor, .instanceMethod yX6_isSensor, .selects RX6 yX6_isSensor yX6_isSensor, .initialized RX6, .code yX6_isSensor cX6_isSensor 2 (some .boolean), .fieldLink RX6 7 "InterestNetModel" "row" "[I", .methodLink RX6 43 yX6_in, .static yX6_in, .code yX6_in cX6_in 3 (some .boolean), .methodLink RX6 87 yX6_ofSensor, .instanceMethod yX6_ofSensor, .selects RX6 yX6_ofSensor yX6_ofSensor, .code yX6_ofSensor cX6_ofSensor 3 (some .int)] ++ wsX60)
def wsX6_part : List Cond := .code yX6_part cX6_part 5 (some .int) :: ([.fieldLink RX6 7 "InterestNetModel" "row" "[I", .methodLink RX6 104 yX6_ofInterest, .instanceMethod yX6_ofInterest, .selects RX6 yX6_ofInterest yX6_ofInterest, .initialized RX6, .code yX6_ofInterest cX6_ofInterest 3 (some .int), .methodLink RX6 107 yX6_lengthOf, .instanceMethod yX6_lengthOf, .selects RX6 yX6_lengthOf yX6_lengthOf, .code yX6_lengthOf cX6_lengthOf 3 (some .int), .methodLink RX6 51 yX6_wayAt, .instanceMethod yX6_wayAt, .selects RX6 yX6_wayAt yX6_wayAt, .code yX6_wayAt cX6_wayAt 3 (some .int)] ++ wsX60)
def wsX6_interest_r1 : List Cond := [Cond.methodLink RX6 91 yX6_isInterest, Cond.instanceMethod yX6_isInterest, Cond.selects RX6 yX6_isInterest yX6_isInterest, Cond.initialized RX6, Cond.code yX6_isInterest cX6_isInterest 2 (some .boolean), Cond.fieldLink RX6 7 "InterestNetModel" "row" "[I", Cond.methodLink RX6 43 yX6_in, Cond.static yX6_in, Cond.code yX6_in cX6_in 3 (some .boolean), Cond.methodLink RX6 110 yX6_part, Cond.instanceMethod yX6_part, Cond.selects RX6 yX6_part yX6_part, Cond.code yX6_part cX6_part 5 (some .int), Cond.methodLink RX6 104 yX6_ofInterest, Cond.instanceMethod yX6_ofInterest, Cond.selects RX6 yX6_ofInterest yX6_ofInterest, Cond.code yX6_ofInterest cX6_ofInterest 3 (some .int), Cond.methodLink RX6 107 yX6_lengthOf, Cond.instanceMethod yX6_lengthOf, Cond.selects RX6 yX6_lengthOf yX6_lengthOf, Cond.code yX6_lengthOf cX6_lengthOf 3 (some .int), Cond.methodLink RX6 51 yX6_wayAt, Cond.instanceMethod yX6_wayAt, Cond.selects RX6 yX6_wayAt yX6_wayAt]
def wsX6_interest_r2 : List Cond := [Cond.code yX6_wayAt cX6_wayAt 3 (some .int)]
def wsX6_interest : List Cond := .code yX6_interest cX6_interest 3 (some .int) :: ((wsX6_interest_r1 ++ wsX6_interest_r2) ++ wsX60)
def wsX6_looksAlive : List Cond := .code yX6_looksAlive cX6_looksAlive 2 none :: ([.fieldLink RX6 16 "InterestNetModel" "alive" "[Z", .fieldLink RX6 7 "InterestNetModel" "row" "[I", .methodLink RX6 97 yX6_isAlive, .instanceMethod yX6_isAlive, .selects RX6 yX6_isAlive yX6_isAlive, .initialized RX6, .code yX6_isAlive cX6_isAlive 2 (some .boolean)] ++ wsX60)
def wsX6_reaches : List Cond := .code yX6_reaches cX6_reaches 6 none :: ([.fieldLink RX6 13 "InterestNetModel" "time" "[I", .fieldLink RX6 16 "InterestNetModel" "alive" "[Z", .fieldLink RX6 20 "InterestNetModel" "done" "[Z", .fieldLink RX6 7 "InterestNetModel" "row" "[I", .methodLink RX6 47 yX6_ofLink, .instanceMethod yX6_ofLink, .selects RX6 yX6_ofLink yX6_ofLink, .initialized RX6, .code yX6_ofLink cX6_ofLink 3 (some .int)] ++ wsX60)
def wsX6_isWholeWay_r1 : List Cond := [Cond.methodLink RX6 107 yX6_lengthOf, Cond.instanceMethod yX6_lengthOf, Cond.selects RX6 yX6_lengthOf yX6_lengthOf, Cond.initialized RX6, Cond.code yX6_lengthOf cX6_lengthOf 3 (some .int), Cond.fieldLink RX6 7 "InterestNetModel" "row" "[I", Cond.methodLink RX6 51 yX6_wayAt, Cond.instanceMethod yX6_wayAt, Cond.selects RX6 yX6_wayAt yX6_wayAt, Cond.code yX6_wayAt cX6_wayAt 3 (some .int), Cond.methodLink RX6 113 yX6_nodeOf, Cond.instanceMethod yX6_nodeOf, Cond.selects RX6 yX6_nodeOf yX6_nodeOf, Cond.code yX6_nodeOf cX6_nodeOf 4 (some .int), Cond.methodLink RX6 97 yX6_isAlive, Cond.instanceMethod yX6_isAlive, Cond.selects RX6 yX6_isAlive yX6_isAlive, Cond.code yX6_isAlive cX6_isAlive 2 (some .boolean), Cond.methodLink RX6 65 yX6_linkOf, Cond.instanceMethod yX6_linkOf, Cond.selects RX6 yX6_linkOf yX6_linkOf, Cond.code yX6_linkOf cX6_linkOf 7 (some .int), Cond.methodLink RX6 47 yX6_ofLink, Cond.instanceMethod yX6_ofLink]
def wsX6_isWholeWay_r2 : List Cond := [Cond.selects RX6 yX6_ofLink yX6_ofLink, Cond.code yX6_ofLink cX6_ofLink 3 (some .int)]
def wsX6_isWholeWay : List Cond := .code yX6_isWholeWay cX6_isWholeWay 5 (some .boolean) :: ((wsX6_isWholeWay_r1 ++ wsX6_isWholeWay_r2) ++ wsX60)
def wsX6_spends : List Cond := .code yX6_spends cX6_spends 4 none :: ([.fieldLink RX6 7 "InterestNetModel" "row" "[I"] ++ wsX60)
def wsX6_traces : List Cond := .code yX6_traces cX6_traces 6 none :: ([.fieldLink RX6 117 "InterestNetModel" "foundMany" "I", .fieldLink RX6 13 "InterestNetModel" "time" "[I", .fieldLink RX6 23 "InterestNetModel" "found" "[I", .fieldLink RX6 7 "InterestNetModel" "row" "[I", .methodLink RX6 65 yX6_linkOf, .instanceMethod yX6_linkOf, .selects RX6 yX6_linkOf yX6_linkOf, .initialized RX6, .code yX6_linkOf cX6_linkOf 7 (some .int), .methodLink RX6 47 yX6_ofLink, .instanceMethod yX6_ofLink, .selects RX6 yX6_ofLink yX6_ofLink, .code yX6_ofLink cX6_ofLink 3 (some .int)] ++ wsX60)
def wsX6_goesOver : List Cond := .code yX6_goesOver cX6_goesOver 6 (some .boolean) :: ([])
def wsX6_explores_r1 : List Cond := [Cond.fieldLink RX6 7 "InterestNetModel" "row" "[I", Cond.fieldLink RX6 13 "InterestNetModel" "time" "[I", Cond.fieldLink RX6 129 "InterestNetModel" "oldMany" "I", Cond.fieldLink RX6 26 "InterestNetModel" "old" "[I", Cond.fieldLink RX6 117 "InterestNetModel" "foundMany" "I", Cond.fieldLink RX6 23 "InterestNetModel" "found" "[I", Cond.methodLink RX6 87 yX6_ofSensor, Cond.instanceMethod yX6_ofSensor, Cond.selects RX6 yX6_ofSensor yX6_ofSensor, Cond.initialized RX6, Cond.code yX6_ofSensor cX6_ofSensor 3 (some .int), Cond.methodLink RX6 120 yX6_reaches, Cond.instanceMethod yX6_reaches, Cond.selects RX6 yX6_reaches yX6_reaches, Cond.code yX6_reaches cX6_reaches 6 none, Cond.fieldLink RX6 16 "InterestNetModel" "alive" "[Z", Cond.fieldLink RX6 20 "InterestNetModel" "done" "[Z", Cond.methodLink RX6 47 yX6_ofLink, Cond.instanceMethod yX6_ofLink, Cond.selects RX6 yX6_ofLink yX6_ofLink, Cond.code yX6_ofLink cX6_ofLink 3 (some .int), Cond.methodLink RX6 104 yX6_ofInterest, Cond.instanceMethod yX6_ofInterest, Cond.selects RX6 yX6_ofInterest yX6_ofInterest]
def wsX6_explores_r2 : List Cond := [Cond.code yX6_ofInterest cX6_ofInterest 3 (some .int), Cond.methodLink RX6 123 yX6_traces, Cond.instanceMethod yX6_traces, Cond.selects RX6 yX6_traces yX6_traces, Cond.code yX6_traces cX6_traces 6 none, Cond.methodLink RX6 65 yX6_linkOf, Cond.instanceMethod yX6_linkOf, Cond.selects RX6 yX6_linkOf yX6_linkOf, Cond.code yX6_linkOf cX6_linkOf 7 (some .int), Cond.methodLink RX6 126 yX6_spends, Cond.instanceMethod yX6_spends, Cond.selects RX6 yX6_spends yX6_spends, Cond.code yX6_spends cX6_spends 4 none, Cond.methodLink RX6 107 yX6_lengthOf, Cond.instanceMethod yX6_lengthOf, Cond.selects RX6 yX6_lengthOf yX6_lengthOf, Cond.code yX6_lengthOf cX6_lengthOf 3 (some .int), Cond.methodLink RX6 51 yX6_wayAt, Cond.instanceMethod yX6_wayAt, Cond.selects RX6 yX6_wayAt yX6_wayAt, Cond.code yX6_wayAt cX6_wayAt 3 (some .int), Cond.methodLink RX6 113 yX6_nodeOf, Cond.instanceMethod yX6_nodeOf, Cond.selects RX6 yX6_nodeOf yX6_nodeOf]
def wsX6_explores_r3 : List Cond := [Cond.code yX6_nodeOf cX6_nodeOf 4 (some .int), Cond.methodLink RX6 132 yX6_goesOver, Cond.static yX6_goesOver, Cond.code yX6_goesOver cX6_goesOver 6 (some .boolean)]
def wsX6_explores : List Cond := .code yX6_explores cX6_explores 4 none :: ((wsX6_explores_r1 ++ (wsX6_explores_r2 ++ wsX6_explores_r3)) ++ wsX60)
def wsX6_sends_r1 : List Cond := [Cond.fieldLink RX6 29 "InterestNetModel" "sent" "[Z", Cond.fieldLink RX6 7 "InterestNetModel" "row" "[I", Cond.methodLink RX6 107 yX6_lengthOf, Cond.instanceMethod yX6_lengthOf, Cond.selects RX6 yX6_lengthOf yX6_lengthOf, Cond.initialized RX6, Cond.code yX6_lengthOf cX6_lengthOf 3 (some .int), Cond.methodLink RX6 51 yX6_wayAt, Cond.instanceMethod yX6_wayAt, Cond.selects RX6 yX6_wayAt yX6_wayAt, Cond.code yX6_wayAt cX6_wayAt 3 (some .int), Cond.methodLink RX6 113 yX6_nodeOf, Cond.instanceMethod yX6_nodeOf, Cond.selects RX6 yX6_nodeOf yX6_nodeOf, Cond.code yX6_nodeOf cX6_nodeOf 4 (some .int), Cond.methodLink RX6 65 yX6_linkOf, Cond.instanceMethod yX6_linkOf, Cond.selects RX6 yX6_linkOf yX6_linkOf, Cond.code yX6_linkOf cX6_linkOf 7 (some .int), Cond.methodLink RX6 47 yX6_ofLink, Cond.instanceMethod yX6_ofLink, Cond.selects RX6 yX6_ofLink yX6_ofLink, Cond.code yX6_ofLink cX6_ofLink 3 (some .int), Cond.methodLink RX6 126 yX6_spends]
def wsX6_sends_r2 : List Cond := [Cond.instanceMethod yX6_spends, Cond.selects RX6 yX6_spends yX6_spends, Cond.code yX6_spends cX6_spends 4 none]
def wsX6_sends : List Cond := .code yX6_sends cX6_sends 7 none :: ((wsX6_sends_r1 ++ wsX6_sends_r2) ++ wsX60)
def wsX6_matches : List Cond := .code yX6_matches cX6_matches 3 (some .boolean) :: ([.methodLink RX6 104 yX6_ofInterest, .instanceMethod yX6_ofInterest, .selects RX6 yX6_ofInterest yX6_ofInterest, .initialized RX6, .code yX6_ofInterest cX6_ofInterest 3 (some .int), .fieldLink RX6 7 "InterestNetModel" "row" "[I", .methodLink RX6 87 yX6_ofSensor, .instanceMethod yX6_ofSensor, .selects RX6 yX6_ofSensor yX6_ofSensor, .code yX6_ofSensor cX6_ofSensor 3 (some .int), .methodLink RX6 43 yX6_in, .static yX6_in, .code yX6_in cX6_in 3 (some .boolean)] ++ wsX60)
def wsX6_turns_r1 : List Cond := [Cond.fieldLink RX6 16 "InterestNetModel" "alive" "[Z", Cond.fieldLink RX6 7 "InterestNetModel" "row" "[I", Cond.methodLink RX6 136 yX6_looksAlive, Cond.instanceMethod yX6_looksAlive, Cond.selects RX6 yX6_looksAlive yX6_looksAlive, Cond.initialized RX6, Cond.code yX6_looksAlive cX6_looksAlive 2 none, Cond.methodLink RX6 97 yX6_isAlive, Cond.instanceMethod yX6_isAlive, Cond.selects RX6 yX6_isAlive yX6_isAlive, Cond.code yX6_isAlive cX6_isAlive 2 (some .boolean), Cond.methodLink RX6 139 yX6_matches, Cond.instanceMethod yX6_matches, Cond.selects RX6 yX6_matches yX6_matches, Cond.code yX6_matches cX6_matches 3 (some .boolean), Cond.methodLink RX6 104 yX6_ofInterest, Cond.instanceMethod yX6_ofInterest, Cond.selects RX6 yX6_ofInterest yX6_ofInterest, Cond.code yX6_ofInterest cX6_ofInterest 3 (some .int), Cond.methodLink RX6 87 yX6_ofSensor, Cond.instanceMethod yX6_ofSensor, Cond.selects RX6 yX6_ofSensor yX6_ofSensor, Cond.code yX6_ofSensor cX6_ofSensor 3 (some .int), Cond.methodLink RX6 43 yX6_in]
def wsX6_turns_r2 : List Cond := [Cond.static yX6_in, Cond.code yX6_in cX6_in 3 (some .boolean), Cond.methodLink RX6 51 yX6_wayAt, Cond.instanceMethod yX6_wayAt, Cond.selects RX6 yX6_wayAt yX6_wayAt, Cond.code yX6_wayAt cX6_wayAt 3 (some .int), Cond.methodLink RX6 143 yX6_isWholeWay, Cond.instanceMethod yX6_isWholeWay, Cond.selects RX6 yX6_isWholeWay yX6_isWholeWay, Cond.code yX6_isWholeWay cX6_isWholeWay 5 (some .boolean), Cond.methodLink RX6 107 yX6_lengthOf, Cond.instanceMethod yX6_lengthOf, Cond.selects RX6 yX6_lengthOf yX6_lengthOf, Cond.code yX6_lengthOf cX6_lengthOf 3 (some .int), Cond.methodLink RX6 113 yX6_nodeOf, Cond.instanceMethod yX6_nodeOf, Cond.selects RX6 yX6_nodeOf yX6_nodeOf, Cond.code yX6_nodeOf cX6_nodeOf 4 (some .int), Cond.methodLink RX6 65 yX6_linkOf, Cond.instanceMethod yX6_linkOf, Cond.selects RX6 yX6_linkOf yX6_linkOf, Cond.code yX6_linkOf cX6_linkOf 7 (some .int), Cond.methodLink RX6 47 yX6_ofLink, Cond.instanceMethod yX6_ofLink]
def wsX6_turns_r3 : List Cond := [Cond.selects RX6 yX6_ofLink yX6_ofLink, Cond.code yX6_ofLink cX6_ofLink 3 (some .int), Cond.methodLink RX6 146 yX6_explores, Cond.instanceMethod yX6_explores, Cond.selects RX6 yX6_explores yX6_explores, Cond.code yX6_explores cX6_explores 4 none, Cond.fieldLink RX6 13 "InterestNetModel" "time" "[I", Cond.fieldLink RX6 129 "InterestNetModel" "oldMany" "I", Cond.fieldLink RX6 26 "InterestNetModel" "old" "[I", Cond.fieldLink RX6 117 "InterestNetModel" "foundMany" "I", Cond.fieldLink RX6 23 "InterestNetModel" "found" "[I", Cond.methodLink RX6 120 yX6_reaches, Cond.instanceMethod yX6_reaches, Cond.selects RX6 yX6_reaches yX6_reaches, Cond.code yX6_reaches cX6_reaches 6 none, Cond.fieldLink RX6 20 "InterestNetModel" "done" "[Z", Cond.methodLink RX6 123 yX6_traces, Cond.instanceMethod yX6_traces, Cond.selects RX6 yX6_traces yX6_traces, Cond.code yX6_traces cX6_traces 6 none, Cond.methodLink RX6 126 yX6_spends, Cond.instanceMethod yX6_spends, Cond.selects RX6 yX6_spends yX6_spends, Cond.code yX6_spends cX6_spends 4 none]
def wsX6_turns_r4 : List Cond := [Cond.methodLink RX6 132 yX6_goesOver, Cond.static yX6_goesOver, Cond.code yX6_goesOver cX6_goesOver 6 (some .boolean), Cond.methodLink RX6 149 yX6_sends, Cond.instanceMethod yX6_sends, Cond.selects RX6 yX6_sends yX6_sends, Cond.code yX6_sends cX6_sends 7 none, Cond.fieldLink RX6 29 "InterestNetModel" "sent" "[Z"]
def wsX6_turns : List Cond := .code yX6_turns cX6_turns 3 (some .boolean) :: ((wsX6_turns_r1 ++ (wsX6_turns_r2 ++ (wsX6_turns_r3 ++ wsX6_turns_r4))) ++ wsX60)
def wsX6_goesOn_r1 : List Cond := [Cond.fieldLink RX6 7 "InterestNetModel" "row" "[I", Cond.fieldLink RX6 29 "InterestNetModel" "sent" "[Z", Cond.methodLink RX6 104 yX6_ofInterest, Cond.instanceMethod yX6_ofInterest, Cond.selects RX6 yX6_ofInterest yX6_ofInterest, Cond.initialized RX6, Cond.code yX6_ofInterest cX6_ofInterest 3 (some .int), Cond.methodLink RX6 94 yX6_removes, Cond.instanceMethod yX6_removes, Cond.selects RX6 yX6_removes yX6_removes, Cond.code yX6_removes cX6_removes 3 none, Cond.methodLink RX6 51 yX6_wayAt, Cond.instanceMethod yX6_wayAt, Cond.selects RX6 yX6_wayAt yX6_wayAt, Cond.code yX6_wayAt cX6_wayAt 3 (some .int), Cond.methodLink RX6 152 yX6_turns, Cond.instanceMethod yX6_turns, Cond.selects RX6 yX6_turns yX6_turns, Cond.code yX6_turns cX6_turns 3 (some .boolean), Cond.fieldLink RX6 16 "InterestNetModel" "alive" "[Z", Cond.methodLink RX6 136 yX6_looksAlive, Cond.instanceMethod yX6_looksAlive, Cond.selects RX6 yX6_looksAlive yX6_looksAlive, Cond.code yX6_looksAlive cX6_looksAlive 2 none]
def wsX6_goesOn_r2 : List Cond := [Cond.methodLink RX6 97 yX6_isAlive, Cond.instanceMethod yX6_isAlive, Cond.selects RX6 yX6_isAlive yX6_isAlive, Cond.code yX6_isAlive cX6_isAlive 2 (some .boolean), Cond.methodLink RX6 139 yX6_matches, Cond.instanceMethod yX6_matches, Cond.selects RX6 yX6_matches yX6_matches, Cond.code yX6_matches cX6_matches 3 (some .boolean), Cond.methodLink RX6 87 yX6_ofSensor, Cond.instanceMethod yX6_ofSensor, Cond.selects RX6 yX6_ofSensor yX6_ofSensor, Cond.code yX6_ofSensor cX6_ofSensor 3 (some .int), Cond.methodLink RX6 43 yX6_in, Cond.static yX6_in, Cond.code yX6_in cX6_in 3 (some .boolean), Cond.methodLink RX6 143 yX6_isWholeWay, Cond.instanceMethod yX6_isWholeWay, Cond.selects RX6 yX6_isWholeWay yX6_isWholeWay, Cond.code yX6_isWholeWay cX6_isWholeWay 5 (some .boolean), Cond.methodLink RX6 107 yX6_lengthOf, Cond.instanceMethod yX6_lengthOf, Cond.selects RX6 yX6_lengthOf yX6_lengthOf, Cond.code yX6_lengthOf cX6_lengthOf 3 (some .int), Cond.methodLink RX6 113 yX6_nodeOf]
def wsX6_goesOn_r3 : List Cond := [Cond.instanceMethod yX6_nodeOf, Cond.selects RX6 yX6_nodeOf yX6_nodeOf, Cond.code yX6_nodeOf cX6_nodeOf 4 (some .int), Cond.methodLink RX6 65 yX6_linkOf, Cond.instanceMethod yX6_linkOf, Cond.selects RX6 yX6_linkOf yX6_linkOf, Cond.code yX6_linkOf cX6_linkOf 7 (some .int), Cond.methodLink RX6 47 yX6_ofLink, Cond.instanceMethod yX6_ofLink, Cond.selects RX6 yX6_ofLink yX6_ofLink, Cond.code yX6_ofLink cX6_ofLink 3 (some .int), Cond.methodLink RX6 146 yX6_explores, Cond.instanceMethod yX6_explores, Cond.selects RX6 yX6_explores yX6_explores, Cond.code yX6_explores cX6_explores 4 none, Cond.fieldLink RX6 13 "InterestNetModel" "time" "[I", Cond.fieldLink RX6 129 "InterestNetModel" "oldMany" "I", Cond.fieldLink RX6 26 "InterestNetModel" "old" "[I", Cond.fieldLink RX6 117 "InterestNetModel" "foundMany" "I", Cond.fieldLink RX6 23 "InterestNetModel" "found" "[I", Cond.methodLink RX6 120 yX6_reaches, Cond.instanceMethod yX6_reaches, Cond.selects RX6 yX6_reaches yX6_reaches, Cond.code yX6_reaches cX6_reaches 6 none]
def wsX6_goesOn_r4 : List Cond := [Cond.fieldLink RX6 20 "InterestNetModel" "done" "[Z", Cond.methodLink RX6 123 yX6_traces, Cond.instanceMethod yX6_traces, Cond.selects RX6 yX6_traces yX6_traces, Cond.code yX6_traces cX6_traces 6 none, Cond.methodLink RX6 126 yX6_spends, Cond.instanceMethod yX6_spends, Cond.selects RX6 yX6_spends yX6_spends, Cond.code yX6_spends cX6_spends 4 none, Cond.methodLink RX6 132 yX6_goesOver, Cond.static yX6_goesOver, Cond.code yX6_goesOver cX6_goesOver 6 (some .boolean), Cond.methodLink RX6 149 yX6_sends, Cond.instanceMethod yX6_sends, Cond.selects RX6 yX6_sends yX6_sends, Cond.code yX6_sends cX6_sends 7 none]
def wsX6_goesOn : List Cond := .code yX6_goesOn cX6_goesOn 4 (some .int) :: ((wsX6_goesOn_r1 ++ (wsX6_goesOn_r2 ++ (wsX6_goesOn_r3 ++ wsX6_goesOn_r4))) ++ wsX60)
def wsX6_goesFor_r1 : List Cond := [Cond.methodLink RX6 155 yX6_goesOn, Cond.instanceMethod yX6_goesOn, Cond.selects RX6 yX6_goesOn yX6_goesOn, Cond.initialized RX6, Cond.code yX6_goesOn cX6_goesOn 4 (some .int), Cond.fieldLink RX6 7 "InterestNetModel" "row" "[I", Cond.fieldLink RX6 29 "InterestNetModel" "sent" "[Z", Cond.methodLink RX6 104 yX6_ofInterest, Cond.instanceMethod yX6_ofInterest, Cond.selects RX6 yX6_ofInterest yX6_ofInterest, Cond.code yX6_ofInterest cX6_ofInterest 3 (some .int), Cond.methodLink RX6 94 yX6_removes, Cond.instanceMethod yX6_removes, Cond.selects RX6 yX6_removes yX6_removes, Cond.code yX6_removes cX6_removes 3 none, Cond.methodLink RX6 51 yX6_wayAt, Cond.instanceMethod yX6_wayAt, Cond.selects RX6 yX6_wayAt yX6_wayAt, Cond.code yX6_wayAt cX6_wayAt 3 (some .int), Cond.methodLink RX6 152 yX6_turns, Cond.instanceMethod yX6_turns, Cond.selects RX6 yX6_turns yX6_turns, Cond.code yX6_turns cX6_turns 3 (some .boolean), Cond.fieldLink RX6 16 "InterestNetModel" "alive" "[Z"]
def wsX6_goesFor_r2 : List Cond := [Cond.methodLink RX6 136 yX6_looksAlive, Cond.instanceMethod yX6_looksAlive, Cond.selects RX6 yX6_looksAlive yX6_looksAlive, Cond.code yX6_looksAlive cX6_looksAlive 2 none, Cond.methodLink RX6 97 yX6_isAlive, Cond.instanceMethod yX6_isAlive, Cond.selects RX6 yX6_isAlive yX6_isAlive, Cond.code yX6_isAlive cX6_isAlive 2 (some .boolean), Cond.methodLink RX6 139 yX6_matches, Cond.instanceMethod yX6_matches, Cond.selects RX6 yX6_matches yX6_matches, Cond.code yX6_matches cX6_matches 3 (some .boolean), Cond.methodLink RX6 87 yX6_ofSensor, Cond.instanceMethod yX6_ofSensor, Cond.selects RX6 yX6_ofSensor yX6_ofSensor, Cond.code yX6_ofSensor cX6_ofSensor 3 (some .int), Cond.methodLink RX6 43 yX6_in, Cond.static yX6_in, Cond.code yX6_in cX6_in 3 (some .boolean), Cond.methodLink RX6 143 yX6_isWholeWay, Cond.instanceMethod yX6_isWholeWay, Cond.selects RX6 yX6_isWholeWay yX6_isWholeWay, Cond.code yX6_isWholeWay cX6_isWholeWay 5 (some .boolean), Cond.methodLink RX6 107 yX6_lengthOf]
def wsX6_goesFor_r3 : List Cond := [Cond.instanceMethod yX6_lengthOf, Cond.selects RX6 yX6_lengthOf yX6_lengthOf, Cond.code yX6_lengthOf cX6_lengthOf 3 (some .int), Cond.methodLink RX6 113 yX6_nodeOf, Cond.instanceMethod yX6_nodeOf, Cond.selects RX6 yX6_nodeOf yX6_nodeOf, Cond.code yX6_nodeOf cX6_nodeOf 4 (some .int), Cond.methodLink RX6 65 yX6_linkOf, Cond.instanceMethod yX6_linkOf, Cond.selects RX6 yX6_linkOf yX6_linkOf, Cond.code yX6_linkOf cX6_linkOf 7 (some .int), Cond.methodLink RX6 47 yX6_ofLink, Cond.instanceMethod yX6_ofLink, Cond.selects RX6 yX6_ofLink yX6_ofLink, Cond.code yX6_ofLink cX6_ofLink 3 (some .int), Cond.methodLink RX6 146 yX6_explores, Cond.instanceMethod yX6_explores, Cond.selects RX6 yX6_explores yX6_explores, Cond.code yX6_explores cX6_explores 4 none, Cond.fieldLink RX6 13 "InterestNetModel" "time" "[I", Cond.fieldLink RX6 129 "InterestNetModel" "oldMany" "I", Cond.fieldLink RX6 26 "InterestNetModel" "old" "[I", Cond.fieldLink RX6 117 "InterestNetModel" "foundMany" "I", Cond.fieldLink RX6 23 "InterestNetModel" "found" "[I"]
def wsX6_goesFor_r4 : List Cond := [Cond.methodLink RX6 120 yX6_reaches, Cond.instanceMethod yX6_reaches, Cond.selects RX6 yX6_reaches yX6_reaches, Cond.code yX6_reaches cX6_reaches 6 none, Cond.fieldLink RX6 20 "InterestNetModel" "done" "[Z", Cond.methodLink RX6 123 yX6_traces, Cond.instanceMethod yX6_traces, Cond.selects RX6 yX6_traces yX6_traces, Cond.code yX6_traces cX6_traces 6 none, Cond.methodLink RX6 126 yX6_spends, Cond.instanceMethod yX6_spends, Cond.selects RX6 yX6_spends yX6_spends, Cond.code yX6_spends cX6_spends 4 none, Cond.methodLink RX6 132 yX6_goesOver, Cond.static yX6_goesOver, Cond.code yX6_goesOver cX6_goesOver 6 (some .boolean), Cond.methodLink RX6 149 yX6_sends, Cond.instanceMethod yX6_sends, Cond.selects RX6 yX6_sends yX6_sends, Cond.code yX6_sends cX6_sends 7 none]
def wsX6_goesFor : List Cond := .code yX6_goesFor cX6_goesFor 4 (some .int) :: ((wsX6_goesFor_r1 ++ (wsX6_goesFor_r2 ++ (wsX6_goesFor_r3 ++ wsX6_goesFor_r4))) ++ wsX60)
def wsX6_rounds_r1 : List Cond := [Cond.fieldLink RX6 7 "InterestNetModel" "row" "[I", Cond.constant RX6 90 (100000), Cond.methodLink RX6 43 yX6_in, Cond.static yX6_in, Cond.initialized RX6, Cond.code yX6_in cX6_in 3 (some .boolean), Cond.methodLink RX6 54 yX6_saves, Cond.instanceMethod yX6_saves, Cond.selects RX6 yX6_saves yX6_saves, Cond.code yX6_saves cX6_saves 2 none, Cond.fieldLink RX6 35 "InterestNetModel" "saved" "I", Cond.methodLink RX6 39 yX6_copies, Cond.instanceMethod yX6_copies, Cond.selects RX6 yX6_copies yX6_copies, Cond.code yX6_copies cX6_copies 4 none, Cond.methodLink RX6 158 yX6_goesFor, Cond.instanceMethod yX6_goesFor, Cond.selects RX6 yX6_goesFor yX6_goesFor, Cond.code yX6_goesFor cX6_goesFor 4 (some .int), Cond.methodLink RX6 155 yX6_goesOn, Cond.instanceMethod yX6_goesOn, Cond.selects RX6 yX6_goesOn yX6_goesOn, Cond.code yX6_goesOn cX6_goesOn 4 (some .int), Cond.fieldLink RX6 29 "InterestNetModel" "sent" "[Z"]
def wsX6_rounds_r2 : List Cond := [Cond.methodLink RX6 104 yX6_ofInterest, Cond.instanceMethod yX6_ofInterest, Cond.selects RX6 yX6_ofInterest yX6_ofInterest, Cond.code yX6_ofInterest cX6_ofInterest 3 (some .int), Cond.methodLink RX6 94 yX6_removes, Cond.instanceMethod yX6_removes, Cond.selects RX6 yX6_removes yX6_removes, Cond.code yX6_removes cX6_removes 3 none, Cond.methodLink RX6 51 yX6_wayAt, Cond.instanceMethod yX6_wayAt, Cond.selects RX6 yX6_wayAt yX6_wayAt, Cond.code yX6_wayAt cX6_wayAt 3 (some .int), Cond.methodLink RX6 152 yX6_turns, Cond.instanceMethod yX6_turns, Cond.selects RX6 yX6_turns yX6_turns, Cond.code yX6_turns cX6_turns 3 (some .boolean), Cond.fieldLink RX6 16 "InterestNetModel" "alive" "[Z", Cond.methodLink RX6 136 yX6_looksAlive, Cond.instanceMethod yX6_looksAlive, Cond.selects RX6 yX6_looksAlive yX6_looksAlive, Cond.code yX6_looksAlive cX6_looksAlive 2 none, Cond.methodLink RX6 97 yX6_isAlive, Cond.instanceMethod yX6_isAlive, Cond.selects RX6 yX6_isAlive yX6_isAlive]
def wsX6_rounds_r3 : List Cond := [Cond.code yX6_isAlive cX6_isAlive 2 (some .boolean), Cond.methodLink RX6 139 yX6_matches, Cond.instanceMethod yX6_matches, Cond.selects RX6 yX6_matches yX6_matches, Cond.code yX6_matches cX6_matches 3 (some .boolean), Cond.methodLink RX6 87 yX6_ofSensor, Cond.instanceMethod yX6_ofSensor, Cond.selects RX6 yX6_ofSensor yX6_ofSensor, Cond.code yX6_ofSensor cX6_ofSensor 3 (some .int), Cond.methodLink RX6 143 yX6_isWholeWay, Cond.instanceMethod yX6_isWholeWay, Cond.selects RX6 yX6_isWholeWay yX6_isWholeWay, Cond.code yX6_isWholeWay cX6_isWholeWay 5 (some .boolean), Cond.methodLink RX6 107 yX6_lengthOf, Cond.instanceMethod yX6_lengthOf, Cond.selects RX6 yX6_lengthOf yX6_lengthOf, Cond.code yX6_lengthOf cX6_lengthOf 3 (some .int), Cond.methodLink RX6 113 yX6_nodeOf, Cond.instanceMethod yX6_nodeOf, Cond.selects RX6 yX6_nodeOf yX6_nodeOf, Cond.code yX6_nodeOf cX6_nodeOf 4 (some .int), Cond.methodLink RX6 65 yX6_linkOf, Cond.instanceMethod yX6_linkOf, Cond.selects RX6 yX6_linkOf yX6_linkOf]
def wsX6_rounds_r4 : List Cond := [Cond.code yX6_linkOf cX6_linkOf 7 (some .int), Cond.methodLink RX6 47 yX6_ofLink, Cond.instanceMethod yX6_ofLink, Cond.selects RX6 yX6_ofLink yX6_ofLink, Cond.code yX6_ofLink cX6_ofLink 3 (some .int), Cond.methodLink RX6 146 yX6_explores, Cond.instanceMethod yX6_explores, Cond.selects RX6 yX6_explores yX6_explores, Cond.code yX6_explores cX6_explores 4 none, Cond.fieldLink RX6 13 "InterestNetModel" "time" "[I", Cond.fieldLink RX6 129 "InterestNetModel" "oldMany" "I", Cond.fieldLink RX6 26 "InterestNetModel" "old" "[I", Cond.fieldLink RX6 117 "InterestNetModel" "foundMany" "I", Cond.fieldLink RX6 23 "InterestNetModel" "found" "[I", Cond.methodLink RX6 120 yX6_reaches, Cond.instanceMethod yX6_reaches, Cond.selects RX6 yX6_reaches yX6_reaches, Cond.code yX6_reaches cX6_reaches 6 none, Cond.fieldLink RX6 20 "InterestNetModel" "done" "[Z", Cond.methodLink RX6 123 yX6_traces, Cond.instanceMethod yX6_traces, Cond.selects RX6 yX6_traces yX6_traces, Cond.code yX6_traces cX6_traces 6 none, Cond.methodLink RX6 126 yX6_spends]
def wsX6_rounds_r5 : List Cond := [Cond.instanceMethod yX6_spends, Cond.selects RX6 yX6_spends yX6_spends, Cond.code yX6_spends cX6_spends 4 none, Cond.methodLink RX6 132 yX6_goesOver, Cond.static yX6_goesOver, Cond.code yX6_goesOver cX6_goesOver 6 (some .boolean), Cond.methodLink RX6 149 yX6_sends, Cond.instanceMethod yX6_sends, Cond.selects RX6 yX6_sends yX6_sends, Cond.code yX6_sends cX6_sends 7 none]
def wsX6_rounds : List Cond := .code yX6_rounds cX6_rounds 2 (some .int) :: ((wsX6_rounds_r1 ++ (wsX6_rounds_r2 ++ (wsX6_rounds_r3 ++ (wsX6_rounds_r4 ++ wsX6_rounds_r5)))) ++ wsX60)
def wsX6_wayLength : List Cond := .code yX6_wayLength cX6_wayLength 3 (some .int) :: ([.methodLink RX6 91 yX6_isInterest, .instanceMethod yX6_isInterest, .selects RX6 yX6_isInterest yX6_isInterest, .initialized RX6, .code yX6_isInterest cX6_isInterest 2 (some .boolean), .fieldLink RX6 7 "InterestNetModel" "row" "[I", .methodLink RX6 43 yX6_in, .static yX6_in, .code yX6_in cX6_in 3 (some .boolean), .methodLink RX6 84 yX6_isSensor, .instanceMethod yX6_isSensor, .selects RX6 yX6_isSensor yX6_isSensor, .code yX6_isSensor cX6_isSensor 2 (some .boolean), .methodLink RX6 107 yX6_lengthOf, .instanceMethod yX6_lengthOf, .selects RX6 yX6_lengthOf yX6_lengthOf, .code yX6_lengthOf cX6_lengthOf 3 (some .int), .methodLink RX6 51 yX6_wayAt, .instanceMethod yX6_wayAt, .selects RX6 yX6_wayAt yX6_wayAt, .code yX6_wayAt cX6_wayAt 3 (some .int)] ++ wsX60)
def wsX6_wayNode_r1 : List Cond := [Cond.methodLink RX6 91 yX6_isInterest, Cond.instanceMethod yX6_isInterest, Cond.selects RX6 yX6_isInterest yX6_isInterest, Cond.initialized RX6, Cond.code yX6_isInterest cX6_isInterest 2 (some .boolean), Cond.fieldLink RX6 7 "InterestNetModel" "row" "[I", Cond.methodLink RX6 43 yX6_in, Cond.static yX6_in, Cond.code yX6_in cX6_in 3 (some .boolean), Cond.methodLink RX6 84 yX6_isSensor, Cond.instanceMethod yX6_isSensor, Cond.selects RX6 yX6_isSensor yX6_isSensor, Cond.code yX6_isSensor cX6_isSensor 2 (some .boolean), Cond.methodLink RX6 107 yX6_lengthOf, Cond.instanceMethod yX6_lengthOf, Cond.selects RX6 yX6_lengthOf yX6_lengthOf, Cond.code yX6_lengthOf cX6_lengthOf 3 (some .int), Cond.methodLink RX6 51 yX6_wayAt, Cond.instanceMethod yX6_wayAt, Cond.selects RX6 yX6_wayAt yX6_wayAt, Cond.code yX6_wayAt cX6_wayAt 3 (some .int), Cond.methodLink RX6 113 yX6_nodeOf, Cond.instanceMethod yX6_nodeOf, Cond.selects RX6 yX6_nodeOf yX6_nodeOf]
def wsX6_wayNode_r2 : List Cond := [Cond.code yX6_nodeOf cX6_nodeOf 4 (some .int)]
def wsX6_wayNode : List Cond := .code yX6_wayNode cX6_wayNode 4 (some .int) :: ((wsX6_wayNode_r1 ++ wsX6_wayNode_r2) ++ wsX60)
def wsX6_isWhole_r1 : List Cond := [Cond.methodLink RX6 91 yX6_isInterest, Cond.instanceMethod yX6_isInterest, Cond.selects RX6 yX6_isInterest yX6_isInterest, Cond.initialized RX6, Cond.code yX6_isInterest cX6_isInterest 2 (some .boolean), Cond.fieldLink RX6 7 "InterestNetModel" "row" "[I", Cond.methodLink RX6 43 yX6_in, Cond.static yX6_in, Cond.code yX6_in cX6_in 3 (some .boolean), Cond.methodLink RX6 84 yX6_isSensor, Cond.instanceMethod yX6_isSensor, Cond.selects RX6 yX6_isSensor yX6_isSensor, Cond.code yX6_isSensor cX6_isSensor 2 (some .boolean), Cond.methodLink RX6 143 yX6_isWholeWay, Cond.instanceMethod yX6_isWholeWay, Cond.selects RX6 yX6_isWholeWay yX6_isWholeWay, Cond.code yX6_isWholeWay cX6_isWholeWay 5 (some .boolean), Cond.methodLink RX6 107 yX6_lengthOf, Cond.instanceMethod yX6_lengthOf, Cond.selects RX6 yX6_lengthOf yX6_lengthOf, Cond.code yX6_lengthOf cX6_lengthOf 3 (some .int), Cond.methodLink RX6 51 yX6_wayAt, Cond.instanceMethod yX6_wayAt, Cond.selects RX6 yX6_wayAt yX6_wayAt]
def wsX6_isWhole_r2 : List Cond := [Cond.code yX6_wayAt cX6_wayAt 3 (some .int), Cond.methodLink RX6 113 yX6_nodeOf, Cond.instanceMethod yX6_nodeOf, Cond.selects RX6 yX6_nodeOf yX6_nodeOf, Cond.code yX6_nodeOf cX6_nodeOf 4 (some .int), Cond.methodLink RX6 97 yX6_isAlive, Cond.instanceMethod yX6_isAlive, Cond.selects RX6 yX6_isAlive yX6_isAlive, Cond.code yX6_isAlive cX6_isAlive 2 (some .boolean), Cond.methodLink RX6 65 yX6_linkOf, Cond.instanceMethod yX6_linkOf, Cond.selects RX6 yX6_linkOf yX6_linkOf, Cond.code yX6_linkOf cX6_linkOf 7 (some .int), Cond.methodLink RX6 47 yX6_ofLink, Cond.instanceMethod yX6_ofLink, Cond.selects RX6 yX6_ofLink yX6_ofLink, Cond.code yX6_ofLink cX6_ofLink 3 (some .int)]
def wsX6_isWhole : List Cond := .code yX6_isWhole cX6_isWhole 3 (some .int) :: ((wsX6_isWhole_r1 ++ wsX6_isWhole_r2) ++ wsX60)
def wsX6_quickest_r1 : List Cond := [Cond.fieldLink RX6 13 "InterestNetModel" "time" "[I", Cond.methodLink RX6 61 yX6_isNode, Cond.instanceMethod yX6_isNode, Cond.selects RX6 yX6_isNode yX6_isNode, Cond.initialized RX6, Cond.code yX6_isNode cX6_isNode 2 (some .boolean), Cond.fieldLink RX6 7 "InterestNetModel" "row" "[I", Cond.methodLink RX6 43 yX6_in, Cond.static yX6_in, Cond.code yX6_in cX6_in 3 (some .boolean), Cond.methodLink RX6 136 yX6_looksAlive, Cond.instanceMethod yX6_looksAlive, Cond.selects RX6 yX6_looksAlive yX6_looksAlive, Cond.code yX6_looksAlive cX6_looksAlive 2 none, Cond.fieldLink RX6 16 "InterestNetModel" "alive" "[Z", Cond.methodLink RX6 97 yX6_isAlive, Cond.instanceMethod yX6_isAlive, Cond.selects RX6 yX6_isAlive yX6_isAlive, Cond.code yX6_isAlive cX6_isAlive 2 (some .boolean), Cond.methodLink RX6 120 yX6_reaches, Cond.instanceMethod yX6_reaches, Cond.selects RX6 yX6_reaches yX6_reaches, Cond.code yX6_reaches cX6_reaches 6 none, Cond.fieldLink RX6 20 "InterestNetModel" "done" "[Z"]
def wsX6_quickest_r2 : List Cond := [Cond.methodLink RX6 47 yX6_ofLink, Cond.instanceMethod yX6_ofLink, Cond.selects RX6 yX6_ofLink yX6_ofLink, Cond.code yX6_ofLink cX6_ofLink 3 (some .int)]
def wsX6_quickest : List Cond := .code yX6_quickest cX6_quickest 3 (some .int) :: ((wsX6_quickest_r1 ++ wsX6_quickest_r2) ++ wsX60)
def wsX6_load_r1 : List Cond := [Cond.fieldLink RX6 7 "InterestNetModel" "row" "[I", Cond.methodLink RX6 72 yX6_isLink, Cond.instanceMethod yX6_isLink, Cond.selects RX6 yX6_isLink yX6_isLink, Cond.initialized RX6, Cond.code yX6_isLink cX6_isLink 2 (some .boolean), Cond.methodLink RX6 43 yX6_in, Cond.static yX6_in, Cond.code yX6_in cX6_in 3 (some .boolean), Cond.methodLink RX6 107 yX6_lengthOf, Cond.instanceMethod yX6_lengthOf, Cond.selects RX6 yX6_lengthOf yX6_lengthOf, Cond.code yX6_lengthOf cX6_lengthOf 3 (some .int), Cond.methodLink RX6 51 yX6_wayAt, Cond.instanceMethod yX6_wayAt, Cond.selects RX6 yX6_wayAt yX6_wayAt, Cond.code yX6_wayAt cX6_wayAt 3 (some .int), Cond.methodLink RX6 113 yX6_nodeOf, Cond.instanceMethod yX6_nodeOf, Cond.selects RX6 yX6_nodeOf yX6_nodeOf, Cond.code yX6_nodeOf cX6_nodeOf 4 (some .int), Cond.methodLink RX6 65 yX6_linkOf, Cond.instanceMethod yX6_linkOf, Cond.selects RX6 yX6_linkOf yX6_linkOf]
def wsX6_load_r2 : List Cond := [Cond.code yX6_linkOf cX6_linkOf 7 (some .int), Cond.methodLink RX6 47 yX6_ofLink, Cond.instanceMethod yX6_ofLink, Cond.selects RX6 yX6_ofLink yX6_ofLink, Cond.code yX6_ofLink cX6_ofLink 3 (some .int)]
def wsX6_load : List Cond := .code yX6_load cX6_load 6 (some .int) :: ((wsX6_load_r1 ++ wsX6_load_r2) ++ wsX60)
def wsX6_firstDeath_r1 : List Cond := [Cond.methodLink RX6 39 yX6_copies, Cond.instanceMethod yX6_copies, Cond.selects RX6 yX6_copies yX6_copies, Cond.initialized RX6, Cond.code yX6_copies cX6_copies 4 none, Cond.fieldLink RX6 7 "InterestNetModel" "row" "[I", Cond.methodLink RX6 100 yX6_living, Cond.instanceMethod yX6_living, Cond.selects RX6 yX6_living yX6_living, Cond.code yX6_living cX6_living 3 (some .int), Cond.methodLink RX6 97 yX6_isAlive, Cond.instanceMethod yX6_isAlive, Cond.selects RX6 yX6_isAlive yX6_isAlive, Cond.code yX6_isAlive cX6_isAlive 2 (some .boolean), Cond.methodLink RX6 155 yX6_goesOn, Cond.instanceMethod yX6_goesOn, Cond.selects RX6 yX6_goesOn yX6_goesOn, Cond.code yX6_goesOn cX6_goesOn 4 (some .int), Cond.fieldLink RX6 29 "InterestNetModel" "sent" "[Z", Cond.methodLink RX6 104 yX6_ofInterest, Cond.instanceMethod yX6_ofInterest, Cond.selects RX6 yX6_ofInterest yX6_ofInterest, Cond.code yX6_ofInterest cX6_ofInterest 3 (some .int), Cond.methodLink RX6 94 yX6_removes]
def wsX6_firstDeath_r2 : List Cond := [Cond.instanceMethod yX6_removes, Cond.selects RX6 yX6_removes yX6_removes, Cond.code yX6_removes cX6_removes 3 none, Cond.methodLink RX6 51 yX6_wayAt, Cond.instanceMethod yX6_wayAt, Cond.selects RX6 yX6_wayAt yX6_wayAt, Cond.code yX6_wayAt cX6_wayAt 3 (some .int), Cond.methodLink RX6 152 yX6_turns, Cond.instanceMethod yX6_turns, Cond.selects RX6 yX6_turns yX6_turns, Cond.code yX6_turns cX6_turns 3 (some .boolean), Cond.fieldLink RX6 16 "InterestNetModel" "alive" "[Z", Cond.methodLink RX6 136 yX6_looksAlive, Cond.instanceMethod yX6_looksAlive, Cond.selects RX6 yX6_looksAlive yX6_looksAlive, Cond.code yX6_looksAlive cX6_looksAlive 2 none, Cond.methodLink RX6 139 yX6_matches, Cond.instanceMethod yX6_matches, Cond.selects RX6 yX6_matches yX6_matches, Cond.code yX6_matches cX6_matches 3 (some .boolean), Cond.methodLink RX6 87 yX6_ofSensor, Cond.instanceMethod yX6_ofSensor, Cond.selects RX6 yX6_ofSensor yX6_ofSensor, Cond.code yX6_ofSensor cX6_ofSensor 3 (some .int)]
def wsX6_firstDeath_r3 : List Cond := [Cond.methodLink RX6 43 yX6_in, Cond.static yX6_in, Cond.code yX6_in cX6_in 3 (some .boolean), Cond.methodLink RX6 143 yX6_isWholeWay, Cond.instanceMethod yX6_isWholeWay, Cond.selects RX6 yX6_isWholeWay yX6_isWholeWay, Cond.code yX6_isWholeWay cX6_isWholeWay 5 (some .boolean), Cond.methodLink RX6 107 yX6_lengthOf, Cond.instanceMethod yX6_lengthOf, Cond.selects RX6 yX6_lengthOf yX6_lengthOf, Cond.code yX6_lengthOf cX6_lengthOf 3 (some .int), Cond.methodLink RX6 113 yX6_nodeOf, Cond.instanceMethod yX6_nodeOf, Cond.selects RX6 yX6_nodeOf yX6_nodeOf, Cond.code yX6_nodeOf cX6_nodeOf 4 (some .int), Cond.methodLink RX6 65 yX6_linkOf, Cond.instanceMethod yX6_linkOf, Cond.selects RX6 yX6_linkOf yX6_linkOf, Cond.code yX6_linkOf cX6_linkOf 7 (some .int), Cond.methodLink RX6 47 yX6_ofLink, Cond.instanceMethod yX6_ofLink, Cond.selects RX6 yX6_ofLink yX6_ofLink, Cond.code yX6_ofLink cX6_ofLink 3 (some .int), Cond.methodLink RX6 146 yX6_explores]
def wsX6_firstDeath_r4 : List Cond := [Cond.instanceMethod yX6_explores, Cond.selects RX6 yX6_explores yX6_explores, Cond.code yX6_explores cX6_explores 4 none, Cond.fieldLink RX6 13 "InterestNetModel" "time" "[I", Cond.fieldLink RX6 129 "InterestNetModel" "oldMany" "I", Cond.fieldLink RX6 26 "InterestNetModel" "old" "[I", Cond.fieldLink RX6 117 "InterestNetModel" "foundMany" "I", Cond.fieldLink RX6 23 "InterestNetModel" "found" "[I", Cond.methodLink RX6 120 yX6_reaches, Cond.instanceMethod yX6_reaches, Cond.selects RX6 yX6_reaches yX6_reaches, Cond.code yX6_reaches cX6_reaches 6 none, Cond.fieldLink RX6 20 "InterestNetModel" "done" "[Z", Cond.methodLink RX6 123 yX6_traces, Cond.instanceMethod yX6_traces, Cond.selects RX6 yX6_traces yX6_traces, Cond.code yX6_traces cX6_traces 6 none, Cond.methodLink RX6 126 yX6_spends, Cond.instanceMethod yX6_spends, Cond.selects RX6 yX6_spends yX6_spends, Cond.code yX6_spends cX6_spends 4 none, Cond.methodLink RX6 132 yX6_goesOver, Cond.static yX6_goesOver, Cond.code yX6_goesOver cX6_goesOver 6 (some .boolean)]
def wsX6_firstDeath_r5 : List Cond := [Cond.methodLink RX6 149 yX6_sends, Cond.instanceMethod yX6_sends, Cond.selects RX6 yX6_sends yX6_sends, Cond.code yX6_sends cX6_sends 7 none]
def wsX6_firstDeath : List Cond := .code yX6_firstDeath cX6_firstDeath 5 (some .int) :: ((wsX6_firstDeath_r1 ++ (wsX6_firstDeath_r2 ++ (wsX6_firstDeath_r3 ++ (wsX6_firstDeath_r4 ++ wsX6_firstDeath_r5)))) ++ wsX60)
def wsX6_willDeliver_r1 : List Cond := [Cond.methodLink RX6 43 yX6_in, Cond.static yX6_in, Cond.initialized RX6, Cond.code yX6_in cX6_in 3 (some .boolean), Cond.methodLink RX6 39 yX6_copies, Cond.instanceMethod yX6_copies, Cond.selects RX6 yX6_copies yX6_copies, Cond.code yX6_copies cX6_copies 4 none, Cond.fieldLink RX6 7 "InterestNetModel" "row" "[I", Cond.methodLink RX6 158 yX6_goesFor, Cond.instanceMethod yX6_goesFor, Cond.selects RX6 yX6_goesFor yX6_goesFor, Cond.code yX6_goesFor cX6_goesFor 4 (some .int), Cond.methodLink RX6 155 yX6_goesOn, Cond.instanceMethod yX6_goesOn, Cond.selects RX6 yX6_goesOn yX6_goesOn, Cond.code yX6_goesOn cX6_goesOn 4 (some .int), Cond.fieldLink RX6 29 "InterestNetModel" "sent" "[Z", Cond.methodLink RX6 104 yX6_ofInterest, Cond.instanceMethod yX6_ofInterest, Cond.selects RX6 yX6_ofInterest yX6_ofInterest, Cond.code yX6_ofInterest cX6_ofInterest 3 (some .int), Cond.methodLink RX6 94 yX6_removes, Cond.instanceMethod yX6_removes]
def wsX6_willDeliver_r2 : List Cond := [Cond.selects RX6 yX6_removes yX6_removes, Cond.code yX6_removes cX6_removes 3 none, Cond.methodLink RX6 51 yX6_wayAt, Cond.instanceMethod yX6_wayAt, Cond.selects RX6 yX6_wayAt yX6_wayAt, Cond.code yX6_wayAt cX6_wayAt 3 (some .int), Cond.methodLink RX6 152 yX6_turns, Cond.instanceMethod yX6_turns, Cond.selects RX6 yX6_turns yX6_turns, Cond.code yX6_turns cX6_turns 3 (some .boolean), Cond.fieldLink RX6 16 "InterestNetModel" "alive" "[Z", Cond.methodLink RX6 136 yX6_looksAlive, Cond.instanceMethod yX6_looksAlive, Cond.selects RX6 yX6_looksAlive yX6_looksAlive, Cond.code yX6_looksAlive cX6_looksAlive 2 none, Cond.methodLink RX6 97 yX6_isAlive, Cond.instanceMethod yX6_isAlive, Cond.selects RX6 yX6_isAlive yX6_isAlive, Cond.code yX6_isAlive cX6_isAlive 2 (some .boolean), Cond.methodLink RX6 139 yX6_matches, Cond.instanceMethod yX6_matches, Cond.selects RX6 yX6_matches yX6_matches, Cond.code yX6_matches cX6_matches 3 (some .boolean), Cond.methodLink RX6 87 yX6_ofSensor]
def wsX6_willDeliver_r3 : List Cond := [Cond.instanceMethod yX6_ofSensor, Cond.selects RX6 yX6_ofSensor yX6_ofSensor, Cond.code yX6_ofSensor cX6_ofSensor 3 (some .int), Cond.methodLink RX6 143 yX6_isWholeWay, Cond.instanceMethod yX6_isWholeWay, Cond.selects RX6 yX6_isWholeWay yX6_isWholeWay, Cond.code yX6_isWholeWay cX6_isWholeWay 5 (some .boolean), Cond.methodLink RX6 107 yX6_lengthOf, Cond.instanceMethod yX6_lengthOf, Cond.selects RX6 yX6_lengthOf yX6_lengthOf, Cond.code yX6_lengthOf cX6_lengthOf 3 (some .int), Cond.methodLink RX6 113 yX6_nodeOf, Cond.instanceMethod yX6_nodeOf, Cond.selects RX6 yX6_nodeOf yX6_nodeOf, Cond.code yX6_nodeOf cX6_nodeOf 4 (some .int), Cond.methodLink RX6 65 yX6_linkOf, Cond.instanceMethod yX6_linkOf, Cond.selects RX6 yX6_linkOf yX6_linkOf, Cond.code yX6_linkOf cX6_linkOf 7 (some .int), Cond.methodLink RX6 47 yX6_ofLink, Cond.instanceMethod yX6_ofLink, Cond.selects RX6 yX6_ofLink yX6_ofLink, Cond.code yX6_ofLink cX6_ofLink 3 (some .int), Cond.methodLink RX6 146 yX6_explores]
def wsX6_willDeliver_r4 : List Cond := [Cond.instanceMethod yX6_explores, Cond.selects RX6 yX6_explores yX6_explores, Cond.code yX6_explores cX6_explores 4 none, Cond.fieldLink RX6 13 "InterestNetModel" "time" "[I", Cond.fieldLink RX6 129 "InterestNetModel" "oldMany" "I", Cond.fieldLink RX6 26 "InterestNetModel" "old" "[I", Cond.fieldLink RX6 117 "InterestNetModel" "foundMany" "I", Cond.fieldLink RX6 23 "InterestNetModel" "found" "[I", Cond.methodLink RX6 120 yX6_reaches, Cond.instanceMethod yX6_reaches, Cond.selects RX6 yX6_reaches yX6_reaches, Cond.code yX6_reaches cX6_reaches 6 none, Cond.fieldLink RX6 20 "InterestNetModel" "done" "[Z", Cond.methodLink RX6 123 yX6_traces, Cond.instanceMethod yX6_traces, Cond.selects RX6 yX6_traces yX6_traces, Cond.code yX6_traces cX6_traces 6 none, Cond.methodLink RX6 126 yX6_spends, Cond.instanceMethod yX6_spends, Cond.selects RX6 yX6_spends yX6_spends, Cond.code yX6_spends cX6_spends 4 none, Cond.methodLink RX6 132 yX6_goesOver, Cond.static yX6_goesOver, Cond.code yX6_goesOver cX6_goesOver 6 (some .boolean)]
def wsX6_willDeliver_r5 : List Cond := [Cond.methodLink RX6 149 yX6_sends, Cond.instanceMethod yX6_sends, Cond.selects RX6 yX6_sends yX6_sends, Cond.code yX6_sends cX6_sends 7 none]
def wsX6_willDeliver : List Cond := .code yX6_willDeliver cX6_willDeliver 3 (some .int) :: ((wsX6_willDeliver_r1 ++ (wsX6_willDeliver_r2 ++ (wsX6_willDeliver_r3 ++ (wsX6_willDeliver_r4 ++ wsX6_willDeliver_r5)))) ++ wsX60)
def wsX6_bestPeriod_r1 : List Cond := [Cond.fieldLink RX6 7 "InterestNetModel" "row" "[I", Cond.methodLink RX6 43 yX6_in, Cond.static yX6_in, Cond.initialized RX6, Cond.code yX6_in cX6_in 3 (some .boolean), Cond.methodLink RX6 39 yX6_copies, Cond.instanceMethod yX6_copies, Cond.selects RX6 yX6_copies yX6_copies, Cond.code yX6_copies cX6_copies 4 none, Cond.methodLink RX6 158 yX6_goesFor, Cond.instanceMethod yX6_goesFor, Cond.selects RX6 yX6_goesFor yX6_goesFor, Cond.code yX6_goesFor cX6_goesFor 4 (some .int), Cond.methodLink RX6 155 yX6_goesOn, Cond.instanceMethod yX6_goesOn, Cond.selects RX6 yX6_goesOn yX6_goesOn, Cond.code yX6_goesOn cX6_goesOn 4 (some .int), Cond.fieldLink RX6 29 "InterestNetModel" "sent" "[Z", Cond.methodLink RX6 104 yX6_ofInterest, Cond.instanceMethod yX6_ofInterest, Cond.selects RX6 yX6_ofInterest yX6_ofInterest, Cond.code yX6_ofInterest cX6_ofInterest 3 (some .int), Cond.methodLink RX6 94 yX6_removes, Cond.instanceMethod yX6_removes]
def wsX6_bestPeriod_r2 : List Cond := [Cond.selects RX6 yX6_removes yX6_removes, Cond.code yX6_removes cX6_removes 3 none, Cond.methodLink RX6 51 yX6_wayAt, Cond.instanceMethod yX6_wayAt, Cond.selects RX6 yX6_wayAt yX6_wayAt, Cond.code yX6_wayAt cX6_wayAt 3 (some .int), Cond.methodLink RX6 152 yX6_turns, Cond.instanceMethod yX6_turns, Cond.selects RX6 yX6_turns yX6_turns, Cond.code yX6_turns cX6_turns 3 (some .boolean), Cond.fieldLink RX6 16 "InterestNetModel" "alive" "[Z", Cond.methodLink RX6 136 yX6_looksAlive, Cond.instanceMethod yX6_looksAlive, Cond.selects RX6 yX6_looksAlive yX6_looksAlive, Cond.code yX6_looksAlive cX6_looksAlive 2 none, Cond.methodLink RX6 97 yX6_isAlive, Cond.instanceMethod yX6_isAlive, Cond.selects RX6 yX6_isAlive yX6_isAlive, Cond.code yX6_isAlive cX6_isAlive 2 (some .boolean), Cond.methodLink RX6 139 yX6_matches, Cond.instanceMethod yX6_matches, Cond.selects RX6 yX6_matches yX6_matches, Cond.code yX6_matches cX6_matches 3 (some .boolean), Cond.methodLink RX6 87 yX6_ofSensor]
def wsX6_bestPeriod_r3 : List Cond := [Cond.instanceMethod yX6_ofSensor, Cond.selects RX6 yX6_ofSensor yX6_ofSensor, Cond.code yX6_ofSensor cX6_ofSensor 3 (some .int), Cond.methodLink RX6 143 yX6_isWholeWay, Cond.instanceMethod yX6_isWholeWay, Cond.selects RX6 yX6_isWholeWay yX6_isWholeWay, Cond.code yX6_isWholeWay cX6_isWholeWay 5 (some .boolean), Cond.methodLink RX6 107 yX6_lengthOf, Cond.instanceMethod yX6_lengthOf, Cond.selects RX6 yX6_lengthOf yX6_lengthOf, Cond.code yX6_lengthOf cX6_lengthOf 3 (some .int), Cond.methodLink RX6 113 yX6_nodeOf, Cond.instanceMethod yX6_nodeOf, Cond.selects RX6 yX6_nodeOf yX6_nodeOf, Cond.code yX6_nodeOf cX6_nodeOf 4 (some .int), Cond.methodLink RX6 65 yX6_linkOf, Cond.instanceMethod yX6_linkOf, Cond.selects RX6 yX6_linkOf yX6_linkOf, Cond.code yX6_linkOf cX6_linkOf 7 (some .int), Cond.methodLink RX6 47 yX6_ofLink, Cond.instanceMethod yX6_ofLink, Cond.selects RX6 yX6_ofLink yX6_ofLink, Cond.code yX6_ofLink cX6_ofLink 3 (some .int), Cond.methodLink RX6 146 yX6_explores]
def wsX6_bestPeriod_r4 : List Cond := [Cond.instanceMethod yX6_explores, Cond.selects RX6 yX6_explores yX6_explores, Cond.code yX6_explores cX6_explores 4 none, Cond.fieldLink RX6 13 "InterestNetModel" "time" "[I", Cond.fieldLink RX6 129 "InterestNetModel" "oldMany" "I", Cond.fieldLink RX6 26 "InterestNetModel" "old" "[I", Cond.fieldLink RX6 117 "InterestNetModel" "foundMany" "I", Cond.fieldLink RX6 23 "InterestNetModel" "found" "[I", Cond.methodLink RX6 120 yX6_reaches, Cond.instanceMethod yX6_reaches, Cond.selects RX6 yX6_reaches yX6_reaches, Cond.code yX6_reaches cX6_reaches 6 none, Cond.fieldLink RX6 20 "InterestNetModel" "done" "[Z", Cond.methodLink RX6 123 yX6_traces, Cond.instanceMethod yX6_traces, Cond.selects RX6 yX6_traces yX6_traces, Cond.code yX6_traces cX6_traces 6 none, Cond.methodLink RX6 126 yX6_spends, Cond.instanceMethod yX6_spends, Cond.selects RX6 yX6_spends yX6_spends, Cond.code yX6_spends cX6_spends 4 none, Cond.methodLink RX6 132 yX6_goesOver, Cond.static yX6_goesOver, Cond.code yX6_goesOver cX6_goesOver 6 (some .boolean)]
def wsX6_bestPeriod_r5 : List Cond := [Cond.methodLink RX6 149 yX6_sends, Cond.instanceMethod yX6_sends, Cond.selects RX6 yX6_sends yX6_sends, Cond.code yX6_sends cX6_sends 7 none]
def wsX6_bestPeriod : List Cond := .code yX6_bestPeriod cX6_bestPeriod 6 (some .int) :: ((wsX6_bestPeriod_r1 ++ (wsX6_bestPeriod_r2 ++ (wsX6_bestPeriod_r3 ++ (wsX6_bestPeriod_r4 ++ wsX6_bestPeriod_r5)))) ++ wsX60)
def wsX6_undo : List Cond := .code yX6_undo cX6_undo 1 (some .int) :: ([.fieldLink RX6 35 "InterestNetModel" "saved" "I", .methodLink RX6 39 yX6_copies, .instanceMethod yX6_copies, .selects RX6 yX6_copies yX6_copies, .initialized RX6, .code yX6_copies cX6_copies 4 none, .fieldLink RX6 7 "InterestNetModel" "row" "[I"] ++ wsX60)
def wsX6_type : List Cond := .code yX6_type cX6_type 2 (some .int) :: ([.fieldLink RX6 162 "InterestNetModel" "length" "I", .fieldLink RX6 32 "InterestNetModel" "text" "[I", .methodLink RX6 43 yX6_in, .static yX6_in, .initialized RX6, .code yX6_in cX6_in 3 (some .boolean)] ++ wsX60)
def wsX6_clearText : List Cond := .code yX6_clearText cX6_clearText 2 (some .int) :: ([.fieldLink RX6 162 "InterestNetModel" "length" "I"] ++ wsX60)
def wsX6_here : List Cond := .code yX6_here cX6_here 1 (some .int) :: ([.fieldLink RX6 165 "InterestNetModel" "at" "I", .fieldLink RX6 162 "InterestNetModel" "length" "I", .fieldLink RX6 32 "InterestNetModel" "text" "[I"] ++ wsX60)
def wsX6_sign : List Cond := .code yX6_sign cX6_sign 3 (some .boolean) :: ([.fieldLink RX6 165 "InterestNetModel" "at" "I", .methodLink RX6 168 yX6_here, .instanceMethod yX6_here, .selects RX6 yX6_here yX6_here, .initialized RX6, .code yX6_here cX6_here 1 (some .int), .fieldLink RX6 162 "InterestNetModel" "length" "I", .fieldLink RX6 32 "InterestNetModel" "text" "[I"] ++ wsX60)
def wsX6_finds : List Cond := .code yX6_finds cX6_finds 7 (some .int) :: ([.fieldLink RX6 165 "InterestNetModel" "at" "I", .fieldLink RX6 162 "InterestNetModel" "length" "I", .fieldLink RX6 32 "InterestNetModel" "text" "[I", .fieldLink RX6 171 "InterestNetModel" "number" "I", .methodLink RX6 168 yX6_here, .instanceMethod yX6_here, .selects RX6 yX6_here yX6_here, .initialized RX6, .code yX6_here cX6_here 1 (some .int), .methodLink RX6 43 yX6_in, .static yX6_in, .code yX6_in cX6_in 3 (some .boolean)] ++ wsX60)
def wsX6_reads : List Cond := .code yX6_reads cX6_reads 4 (some .boolean) :: ([.fieldLink RX6 165 "InterestNetModel" "at" "I", .methodLink RX6 174 yX6_finds, .instanceMethod yX6_finds, .selects RX6 yX6_finds yX6_finds, .initialized RX6, .code yX6_finds cX6_finds 7 (some .int), .fieldLink RX6 162 "InterestNetModel" "length" "I", .fieldLink RX6 32 "InterestNetModel" "text" "[I", .fieldLink RX6 171 "InterestNetModel" "number" "I", .methodLink RX6 168 yX6_here, .instanceMethod yX6_here, .selects RX6 yX6_here yX6_here, .code yX6_here cX6_here 1 (some .int), .methodLink RX6 43 yX6_in, .static yX6_in, .code yX6_in cX6_in 3 (some .boolean)] ++ wsX60)
def wsX6_readsNode_r1 : List Cond := [Cond.fieldLink RX6 7 "InterestNetModel" "row" "[I", Cond.fieldLink RX6 165 "InterestNetModel" "at" "I", Cond.fieldLink RX6 171 "InterestNetModel" "number" "I", Cond.methodLink RX6 178 yX6_reads, Cond.instanceMethod yX6_reads, Cond.selects RX6 yX6_reads yX6_reads, Cond.initialized RX6, Cond.code yX6_reads cX6_reads 4 (some .boolean), Cond.methodLink RX6 174 yX6_finds, Cond.instanceMethod yX6_finds, Cond.selects RX6 yX6_finds yX6_finds, Cond.code yX6_finds cX6_finds 7 (some .int), Cond.fieldLink RX6 162 "InterestNetModel" "length" "I", Cond.fieldLink RX6 32 "InterestNetModel" "text" "[I", Cond.methodLink RX6 168 yX6_here, Cond.instanceMethod yX6_here, Cond.selects RX6 yX6_here yX6_here, Cond.code yX6_here cX6_here 1 (some .int), Cond.methodLink RX6 43 yX6_in, Cond.static yX6_in, Cond.code yX6_in cX6_in 3 (some .boolean), Cond.methodLink RX6 57 yX6_laysNode, Cond.instanceMethod yX6_laysNode, Cond.selects RX6 yX6_laysNode yX6_laysNode]
def wsX6_readsNode_r2 : List Cond := [Cond.code yX6_laysNode cX6_laysNode 2 none]
def wsX6_readsNode : List Cond := .code yX6_readsNode cX6_readsNode 1 (some .boolean) :: ((wsX6_readsNode_r1 ++ wsX6_readsNode_r2) ++ wsX60)
def wsX6_readsLink_r1 : List Cond := [Cond.fieldLink RX6 7 "InterestNetModel" "row" "[I", Cond.fieldLink RX6 171 "InterestNetModel" "number" "I", Cond.fieldLink RX6 165 "InterestNetModel" "at" "I", Cond.methodLink RX6 178 yX6_reads, Cond.instanceMethod yX6_reads, Cond.selects RX6 yX6_reads yX6_reads, Cond.initialized RX6, Cond.code yX6_reads cX6_reads 4 (some .boolean), Cond.methodLink RX6 174 yX6_finds, Cond.instanceMethod yX6_finds, Cond.selects RX6 yX6_finds yX6_finds, Cond.code yX6_finds cX6_finds 7 (some .int), Cond.fieldLink RX6 162 "InterestNetModel" "length" "I", Cond.fieldLink RX6 32 "InterestNetModel" "text" "[I", Cond.methodLink RX6 168 yX6_here, Cond.instanceMethod yX6_here, Cond.selects RX6 yX6_here yX6_here, Cond.code yX6_here cX6_here 1 (some .int), Cond.methodLink RX6 43 yX6_in, Cond.static yX6_in, Cond.code yX6_in cX6_in 3 (some .boolean), Cond.methodLink RX6 181 yX6_sign, Cond.instanceMethod yX6_sign, Cond.selects RX6 yX6_sign yX6_sign]
def wsX6_readsLink_r2 : List Cond := [Cond.code yX6_sign cX6_sign 3 (some .boolean), Cond.methodLink RX6 65 yX6_linkOf, Cond.instanceMethod yX6_linkOf, Cond.selects RX6 yX6_linkOf yX6_linkOf, Cond.code yX6_linkOf cX6_linkOf 7 (some .int), Cond.methodLink RX6 47 yX6_ofLink, Cond.instanceMethod yX6_ofLink, Cond.selects RX6 yX6_ofLink yX6_ofLink, Cond.code yX6_ofLink cX6_ofLink 3 (some .int), Cond.methodLink RX6 68 yX6_laysLink, Cond.instanceMethod yX6_laysLink, Cond.selects RX6 yX6_laysLink yX6_laysLink, Cond.code yX6_laysLink cX6_laysLink 5 none]
def wsX6_readsLink : List Cond := .code yX6_readsLink cX6_readsLink 4 (some .boolean) :: ((wsX6_readsLink_r1 ++ wsX6_readsLink_r2) ++ wsX60)
def wsX6_readsSensor_r1 : List Cond := [Cond.fieldLink RX6 7 "InterestNetModel" "row" "[I", Cond.fieldLink RX6 165 "InterestNetModel" "at" "I", Cond.fieldLink RX6 171 "InterestNetModel" "number" "I", Cond.methodLink RX6 178 yX6_reads, Cond.instanceMethod yX6_reads, Cond.selects RX6 yX6_reads yX6_reads, Cond.initialized RX6, Cond.code yX6_reads cX6_reads 4 (some .boolean), Cond.methodLink RX6 174 yX6_finds, Cond.instanceMethod yX6_finds, Cond.selects RX6 yX6_finds yX6_finds, Cond.code yX6_finds cX6_finds 7 (some .int), Cond.fieldLink RX6 162 "InterestNetModel" "length" "I", Cond.fieldLink RX6 32 "InterestNetModel" "text" "[I", Cond.methodLink RX6 168 yX6_here, Cond.instanceMethod yX6_here, Cond.selects RX6 yX6_here yX6_here, Cond.code yX6_here cX6_here 1 (some .int), Cond.methodLink RX6 43 yX6_in, Cond.static yX6_in, Cond.code yX6_in cX6_in 3 (some .boolean), Cond.methodLink RX6 181 yX6_sign, Cond.instanceMethod yX6_sign, Cond.selects RX6 yX6_sign yX6_sign]
def wsX6_readsSensor_r2 : List Cond := [Cond.code yX6_sign cX6_sign 3 (some .boolean), Cond.methodLink RX6 81 yX6_laysSensor, Cond.instanceMethod yX6_laysSensor, Cond.selects RX6 yX6_laysSensor yX6_laysSensor, Cond.code yX6_laysSensor cX6_laysSensor 6 none, Cond.methodLink RX6 51 yX6_wayAt, Cond.instanceMethod yX6_wayAt, Cond.selects RX6 yX6_wayAt yX6_wayAt, Cond.code yX6_wayAt cX6_wayAt 3 (some .int)]
def wsX6_readsSensor : List Cond := .code yX6_readsSensor cX6_readsSensor 5 (some .boolean) :: ((wsX6_readsSensor_r1 ++ wsX6_readsSensor_r2) ++ wsX60)
def wsX6_readsItem_r1 : List Cond := [Cond.fieldLink RX6 184 "InterestNetModel" "items" "I", Cond.methodLink RX6 168 yX6_here, Cond.instanceMethod yX6_here, Cond.selects RX6 yX6_here yX6_here, Cond.initialized RX6, Cond.code yX6_here cX6_here 1 (some .int), Cond.fieldLink RX6 165 "InterestNetModel" "at" "I", Cond.fieldLink RX6 162 "InterestNetModel" "length" "I", Cond.fieldLink RX6 32 "InterestNetModel" "text" "[I", Cond.methodLink RX6 187 yX6_readsNode, Cond.instanceMethod yX6_readsNode, Cond.selects RX6 yX6_readsNode yX6_readsNode, Cond.code yX6_readsNode cX6_readsNode 1 (some .boolean), Cond.fieldLink RX6 7 "InterestNetModel" "row" "[I", Cond.fieldLink RX6 171 "InterestNetModel" "number" "I", Cond.methodLink RX6 178 yX6_reads, Cond.instanceMethod yX6_reads, Cond.selects RX6 yX6_reads yX6_reads, Cond.code yX6_reads cX6_reads 4 (some .boolean), Cond.methodLink RX6 174 yX6_finds, Cond.instanceMethod yX6_finds, Cond.selects RX6 yX6_finds yX6_finds, Cond.code yX6_finds cX6_finds 7 (some .int), Cond.methodLink RX6 43 yX6_in]
def wsX6_readsItem_r2 : List Cond := [Cond.static yX6_in, Cond.code yX6_in cX6_in 3 (some .boolean), Cond.methodLink RX6 57 yX6_laysNode, Cond.instanceMethod yX6_laysNode, Cond.selects RX6 yX6_laysNode yX6_laysNode, Cond.code yX6_laysNode cX6_laysNode 2 none, Cond.methodLink RX6 191 yX6_readsSensor, Cond.instanceMethod yX6_readsSensor, Cond.selects RX6 yX6_readsSensor yX6_readsSensor, Cond.code yX6_readsSensor cX6_readsSensor 5 (some .boolean), Cond.methodLink RX6 181 yX6_sign, Cond.instanceMethod yX6_sign, Cond.selects RX6 yX6_sign yX6_sign, Cond.code yX6_sign cX6_sign 3 (some .boolean), Cond.methodLink RX6 81 yX6_laysSensor, Cond.instanceMethod yX6_laysSensor, Cond.selects RX6 yX6_laysSensor yX6_laysSensor, Cond.code yX6_laysSensor cX6_laysSensor 6 none, Cond.methodLink RX6 51 yX6_wayAt, Cond.instanceMethod yX6_wayAt, Cond.selects RX6 yX6_wayAt yX6_wayAt, Cond.code yX6_wayAt cX6_wayAt 3 (some .int), Cond.methodLink RX6 194 yX6_readsLink, Cond.instanceMethod yX6_readsLink]
def wsX6_readsItem_r3 : List Cond := [Cond.selects RX6 yX6_readsLink yX6_readsLink, Cond.code yX6_readsLink cX6_readsLink 4 (some .boolean), Cond.methodLink RX6 65 yX6_linkOf, Cond.instanceMethod yX6_linkOf, Cond.selects RX6 yX6_linkOf yX6_linkOf, Cond.code yX6_linkOf cX6_linkOf 7 (some .int), Cond.methodLink RX6 47 yX6_ofLink, Cond.instanceMethod yX6_ofLink, Cond.selects RX6 yX6_ofLink yX6_ofLink, Cond.code yX6_ofLink cX6_ofLink 3 (some .int), Cond.methodLink RX6 68 yX6_laysLink, Cond.instanceMethod yX6_laysLink, Cond.selects RX6 yX6_laysLink yX6_laysLink, Cond.code yX6_laysLink cX6_laysLink 5 none]
def wsX6_readsItem : List Cond := .code yX6_readsItem cX6_readsItem 2 (some .boolean) :: ((wsX6_readsItem_r1 ++ (wsX6_readsItem_r2 ++ wsX6_readsItem_r3)) ++ wsX60)
def wsX6_readsText_r1 : List Cond := [Cond.fieldLink RX6 165 "InterestNetModel" "at" "I", Cond.fieldLink RX6 184 "InterestNetModel" "items" "I", Cond.methodLink RX6 197 yX6_readsItem, Cond.instanceMethod yX6_readsItem, Cond.selects RX6 yX6_readsItem yX6_readsItem, Cond.initialized RX6, Cond.code yX6_readsItem cX6_readsItem 2 (some .boolean), Cond.methodLink RX6 168 yX6_here, Cond.instanceMethod yX6_here, Cond.selects RX6 yX6_here yX6_here, Cond.code yX6_here cX6_here 1 (some .int), Cond.fieldLink RX6 162 "InterestNetModel" "length" "I", Cond.fieldLink RX6 32 "InterestNetModel" "text" "[I", Cond.methodLink RX6 187 yX6_readsNode, Cond.instanceMethod yX6_readsNode, Cond.selects RX6 yX6_readsNode yX6_readsNode, Cond.code yX6_readsNode cX6_readsNode 1 (some .boolean), Cond.fieldLink RX6 7 "InterestNetModel" "row" "[I", Cond.fieldLink RX6 171 "InterestNetModel" "number" "I", Cond.methodLink RX6 178 yX6_reads, Cond.instanceMethod yX6_reads, Cond.selects RX6 yX6_reads yX6_reads, Cond.code yX6_reads cX6_reads 4 (some .boolean), Cond.methodLink RX6 174 yX6_finds]
def wsX6_readsText_r2 : List Cond := [Cond.instanceMethod yX6_finds, Cond.selects RX6 yX6_finds yX6_finds, Cond.code yX6_finds cX6_finds 7 (some .int), Cond.methodLink RX6 43 yX6_in, Cond.static yX6_in, Cond.code yX6_in cX6_in 3 (some .boolean), Cond.methodLink RX6 57 yX6_laysNode, Cond.instanceMethod yX6_laysNode, Cond.selects RX6 yX6_laysNode yX6_laysNode, Cond.code yX6_laysNode cX6_laysNode 2 none, Cond.methodLink RX6 191 yX6_readsSensor, Cond.instanceMethod yX6_readsSensor, Cond.selects RX6 yX6_readsSensor yX6_readsSensor, Cond.code yX6_readsSensor cX6_readsSensor 5 (some .boolean), Cond.methodLink RX6 181 yX6_sign, Cond.instanceMethod yX6_sign, Cond.selects RX6 yX6_sign yX6_sign, Cond.code yX6_sign cX6_sign 3 (some .boolean), Cond.methodLink RX6 81 yX6_laysSensor, Cond.instanceMethod yX6_laysSensor, Cond.selects RX6 yX6_laysSensor yX6_laysSensor, Cond.code yX6_laysSensor cX6_laysSensor 6 none, Cond.methodLink RX6 51 yX6_wayAt, Cond.instanceMethod yX6_wayAt]
def wsX6_readsText_r3 : List Cond := [Cond.selects RX6 yX6_wayAt yX6_wayAt, Cond.code yX6_wayAt cX6_wayAt 3 (some .int), Cond.methodLink RX6 194 yX6_readsLink, Cond.instanceMethod yX6_readsLink, Cond.selects RX6 yX6_readsLink yX6_readsLink, Cond.code yX6_readsLink cX6_readsLink 4 (some .boolean), Cond.methodLink RX6 65 yX6_linkOf, Cond.instanceMethod yX6_linkOf, Cond.selects RX6 yX6_linkOf yX6_linkOf, Cond.code yX6_linkOf cX6_linkOf 7 (some .int), Cond.methodLink RX6 47 yX6_ofLink, Cond.instanceMethod yX6_ofLink, Cond.selects RX6 yX6_ofLink yX6_ofLink, Cond.code yX6_ofLink cX6_ofLink 3 (some .int), Cond.methodLink RX6 68 yX6_laysLink, Cond.instanceMethod yX6_laysLink, Cond.selects RX6 yX6_laysLink yX6_laysLink, Cond.code yX6_laysLink cX6_laysLink 5 none]
def wsX6_readsText : List Cond := .code yX6_readsText cX6_readsText 3 (some .boolean) :: ((wsX6_readsText_r1 ++ (wsX6_readsText_r2 ++ wsX6_readsText_r3)) ++ wsX60)
def wsX6_textFault_r1 : List Cond := [Cond.fieldLink RX6 165 "InterestNetModel" "at" "I", Cond.methodLink RX6 39 yX6_copies, Cond.instanceMethod yX6_copies, Cond.selects RX6 yX6_copies yX6_copies, Cond.initialized RX6, Cond.code yX6_copies cX6_copies 4 none, Cond.fieldLink RX6 7 "InterestNetModel" "row" "[I", Cond.methodLink RX6 200 yX6_readsText, Cond.instanceMethod yX6_readsText, Cond.selects RX6 yX6_readsText yX6_readsText, Cond.code yX6_readsText cX6_readsText 3 (some .boolean), Cond.fieldLink RX6 184 "InterestNetModel" "items" "I", Cond.methodLink RX6 197 yX6_readsItem, Cond.instanceMethod yX6_readsItem, Cond.selects RX6 yX6_readsItem yX6_readsItem, Cond.code yX6_readsItem cX6_readsItem 2 (some .boolean), Cond.methodLink RX6 168 yX6_here, Cond.instanceMethod yX6_here, Cond.selects RX6 yX6_here yX6_here, Cond.code yX6_here cX6_here 1 (some .int), Cond.fieldLink RX6 162 "InterestNetModel" "length" "I", Cond.fieldLink RX6 32 "InterestNetModel" "text" "[I", Cond.methodLink RX6 187 yX6_readsNode, Cond.instanceMethod yX6_readsNode]
def wsX6_textFault_r2 : List Cond := [Cond.selects RX6 yX6_readsNode yX6_readsNode, Cond.code yX6_readsNode cX6_readsNode 1 (some .boolean), Cond.fieldLink RX6 171 "InterestNetModel" "number" "I", Cond.methodLink RX6 178 yX6_reads, Cond.instanceMethod yX6_reads, Cond.selects RX6 yX6_reads yX6_reads, Cond.code yX6_reads cX6_reads 4 (some .boolean), Cond.methodLink RX6 174 yX6_finds, Cond.instanceMethod yX6_finds, Cond.selects RX6 yX6_finds yX6_finds, Cond.code yX6_finds cX6_finds 7 (some .int), Cond.methodLink RX6 43 yX6_in, Cond.static yX6_in, Cond.code yX6_in cX6_in 3 (some .boolean), Cond.methodLink RX6 57 yX6_laysNode, Cond.instanceMethod yX6_laysNode, Cond.selects RX6 yX6_laysNode yX6_laysNode, Cond.code yX6_laysNode cX6_laysNode 2 none, Cond.methodLink RX6 191 yX6_readsSensor, Cond.instanceMethod yX6_readsSensor, Cond.selects RX6 yX6_readsSensor yX6_readsSensor, Cond.code yX6_readsSensor cX6_readsSensor 5 (some .boolean), Cond.methodLink RX6 181 yX6_sign, Cond.instanceMethod yX6_sign]
def wsX6_textFault_r3 : List Cond := [Cond.selects RX6 yX6_sign yX6_sign, Cond.code yX6_sign cX6_sign 3 (some .boolean), Cond.methodLink RX6 81 yX6_laysSensor, Cond.instanceMethod yX6_laysSensor, Cond.selects RX6 yX6_laysSensor yX6_laysSensor, Cond.code yX6_laysSensor cX6_laysSensor 6 none, Cond.methodLink RX6 51 yX6_wayAt, Cond.instanceMethod yX6_wayAt, Cond.selects RX6 yX6_wayAt yX6_wayAt, Cond.code yX6_wayAt cX6_wayAt 3 (some .int), Cond.methodLink RX6 194 yX6_readsLink, Cond.instanceMethod yX6_readsLink, Cond.selects RX6 yX6_readsLink yX6_readsLink, Cond.code yX6_readsLink cX6_readsLink 4 (some .boolean), Cond.methodLink RX6 65 yX6_linkOf, Cond.instanceMethod yX6_linkOf, Cond.selects RX6 yX6_linkOf yX6_linkOf, Cond.code yX6_linkOf cX6_linkOf 7 (some .int), Cond.methodLink RX6 47 yX6_ofLink, Cond.instanceMethod yX6_ofLink, Cond.selects RX6 yX6_ofLink yX6_ofLink, Cond.code yX6_ofLink cX6_ofLink 3 (some .int), Cond.methodLink RX6 68 yX6_laysLink, Cond.instanceMethod yX6_laysLink]
def wsX6_textFault_r4 : List Cond := [Cond.selects RX6 yX6_laysLink yX6_laysLink, Cond.code yX6_laysLink cX6_laysLink 5 none]
def wsX6_textFault : List Cond := .code yX6_textFault cX6_textFault 2 (some .int) :: ((wsX6_textFault_r1 ++ (wsX6_textFault_r2 ++ (wsX6_textFault_r3 ++ wsX6_textFault_r4))) ++ wsX60)
def wsX6_build_r1 : List Cond := [Cond.fieldLink RX6 184 "InterestNetModel" "items" "I", Cond.methodLink RX6 203 yX6_textFault, Cond.instanceMethod yX6_textFault, Cond.selects RX6 yX6_textFault yX6_textFault, Cond.initialized RX6, Cond.code yX6_textFault cX6_textFault 2 (some .int), Cond.fieldLink RX6 165 "InterestNetModel" "at" "I", Cond.methodLink RX6 39 yX6_copies, Cond.instanceMethod yX6_copies, Cond.selects RX6 yX6_copies yX6_copies, Cond.code yX6_copies cX6_copies 4 none, Cond.fieldLink RX6 7 "InterestNetModel" "row" "[I", Cond.methodLink RX6 200 yX6_readsText, Cond.instanceMethod yX6_readsText, Cond.selects RX6 yX6_readsText yX6_readsText, Cond.code yX6_readsText cX6_readsText 3 (some .boolean), Cond.methodLink RX6 197 yX6_readsItem, Cond.instanceMethod yX6_readsItem, Cond.selects RX6 yX6_readsItem yX6_readsItem, Cond.code yX6_readsItem cX6_readsItem 2 (some .boolean), Cond.methodLink RX6 168 yX6_here, Cond.instanceMethod yX6_here, Cond.selects RX6 yX6_here yX6_here, Cond.code yX6_here cX6_here 1 (some .int)]
def wsX6_build_r2 : List Cond := [Cond.fieldLink RX6 162 "InterestNetModel" "length" "I", Cond.fieldLink RX6 32 "InterestNetModel" "text" "[I", Cond.methodLink RX6 187 yX6_readsNode, Cond.instanceMethod yX6_readsNode, Cond.selects RX6 yX6_readsNode yX6_readsNode, Cond.code yX6_readsNode cX6_readsNode 1 (some .boolean), Cond.fieldLink RX6 171 "InterestNetModel" "number" "I", Cond.methodLink RX6 178 yX6_reads, Cond.instanceMethod yX6_reads, Cond.selects RX6 yX6_reads yX6_reads, Cond.code yX6_reads cX6_reads 4 (some .boolean), Cond.methodLink RX6 174 yX6_finds, Cond.instanceMethod yX6_finds, Cond.selects RX6 yX6_finds yX6_finds, Cond.code yX6_finds cX6_finds 7 (some .int), Cond.methodLink RX6 43 yX6_in, Cond.static yX6_in, Cond.code yX6_in cX6_in 3 (some .boolean), Cond.methodLink RX6 57 yX6_laysNode, Cond.instanceMethod yX6_laysNode, Cond.selects RX6 yX6_laysNode yX6_laysNode, Cond.code yX6_laysNode cX6_laysNode 2 none, Cond.methodLink RX6 191 yX6_readsSensor, Cond.instanceMethod yX6_readsSensor]
def wsX6_build_r3 : List Cond := [Cond.selects RX6 yX6_readsSensor yX6_readsSensor, Cond.code yX6_readsSensor cX6_readsSensor 5 (some .boolean), Cond.methodLink RX6 181 yX6_sign, Cond.instanceMethod yX6_sign, Cond.selects RX6 yX6_sign yX6_sign, Cond.code yX6_sign cX6_sign 3 (some .boolean), Cond.methodLink RX6 81 yX6_laysSensor, Cond.instanceMethod yX6_laysSensor, Cond.selects RX6 yX6_laysSensor yX6_laysSensor, Cond.code yX6_laysSensor cX6_laysSensor 6 none, Cond.methodLink RX6 51 yX6_wayAt, Cond.instanceMethod yX6_wayAt, Cond.selects RX6 yX6_wayAt yX6_wayAt, Cond.code yX6_wayAt cX6_wayAt 3 (some .int), Cond.methodLink RX6 194 yX6_readsLink, Cond.instanceMethod yX6_readsLink, Cond.selects RX6 yX6_readsLink yX6_readsLink, Cond.code yX6_readsLink cX6_readsLink 4 (some .boolean), Cond.methodLink RX6 65 yX6_linkOf, Cond.instanceMethod yX6_linkOf, Cond.selects RX6 yX6_linkOf yX6_linkOf, Cond.code yX6_linkOf cX6_linkOf 7 (some .int), Cond.methodLink RX6 47 yX6_ofLink, Cond.instanceMethod yX6_ofLink]
def wsX6_build_r4 : List Cond := [Cond.selects RX6 yX6_ofLink yX6_ofLink, Cond.code yX6_ofLink cX6_ofLink 3 (some .int), Cond.methodLink RX6 68 yX6_laysLink, Cond.instanceMethod yX6_laysLink, Cond.selects RX6 yX6_laysLink yX6_laysLink, Cond.code yX6_laysLink cX6_laysLink 5 none, Cond.methodLink RX6 54 yX6_saves, Cond.instanceMethod yX6_saves, Cond.selects RX6 yX6_saves yX6_saves, Cond.code yX6_saves cX6_saves 2 none, Cond.fieldLink RX6 35 "InterestNetModel" "saved" "I"]
def wsX6_build : List Cond := .code yX6_build cX6_build 2 (some .int) :: ((wsX6_build_r1 ++ (wsX6_build_r2 ++ (wsX6_build_r3 ++ wsX6_build_r4))) ++ wsX60)
def wsX6_note : List Cond := .code yX6_note cX6_note 2 none :: ([.constantLong RX6 206 (31), .fieldLink RX6 208 "InterestNetModel" "h" "J"] ++ wsX60)
def wsX6_digest_r1 : List Cond := [Cond.constantLong RX6 212 (17), Cond.fieldLink RX6 208 "InterestNetModel" "h" "J", Cond.fieldLink RX6 7 "InterestNetModel" "row" "[I", Cond.methodLink RX6 100 yX6_living, Cond.instanceMethod yX6_living, Cond.selects RX6 yX6_living yX6_living, Cond.initialized RX6, Cond.code yX6_living cX6_living 3 (some .int), Cond.methodLink RX6 97 yX6_isAlive, Cond.instanceMethod yX6_isAlive, Cond.selects RX6 yX6_isAlive yX6_isAlive, Cond.code yX6_isAlive cX6_isAlive 2 (some .boolean), Cond.methodLink RX6 214 yX6_note, Cond.instanceMethod yX6_note, Cond.selects RX6 yX6_note yX6_note, Cond.code yX6_note cX6_note 2 none, Cond.constantLong RX6 206 (31), Cond.methodLink RX6 110 yX6_part, Cond.instanceMethod yX6_part, Cond.selects RX6 yX6_part yX6_part, Cond.code yX6_part cX6_part 5 (some .int), Cond.methodLink RX6 104 yX6_ofInterest, Cond.instanceMethod yX6_ofInterest, Cond.selects RX6 yX6_ofInterest yX6_ofInterest]
def wsX6_digest_r2 : List Cond := [Cond.code yX6_ofInterest cX6_ofInterest 3 (some .int), Cond.methodLink RX6 107 yX6_lengthOf, Cond.instanceMethod yX6_lengthOf, Cond.selects RX6 yX6_lengthOf yX6_lengthOf, Cond.code yX6_lengthOf cX6_lengthOf 3 (some .int), Cond.methodLink RX6 51 yX6_wayAt, Cond.instanceMethod yX6_wayAt, Cond.selects RX6 yX6_wayAt yX6_wayAt, Cond.code yX6_wayAt cX6_wayAt 3 (some .int), Cond.methodLink RX6 113 yX6_nodeOf, Cond.instanceMethod yX6_nodeOf, Cond.selects RX6 yX6_nodeOf yX6_nodeOf, Cond.code yX6_nodeOf cX6_nodeOf 4 (some .int)]
def wsX6_digest : List Cond := .code yX6_digest cX6_digest 4 (some .long) :: ((wsX6_digest_r1 ++ wsX6_digest_r2) ++ wsX60)
def wsJ9_max_7cf53 : List Cond := .code yJ9_max_7cf53 cJ9_max_7cf53 2 (some .int) :: ([])
def wsJ9_min_7cf53 : List Cond := .code yJ9_min_7cf53 cJ9_min_7cf53 2 (some .int) :: ([])
def wsL_law_r1 : List Cond := [Cond.classLink RL 7 RX5, Cond.instantiable RX5 5, Cond.initialized RX5, Cond.classLink RL 10 RX6, Cond.instantiable RX6 16, Cond.initialized RX6, Cond.methodLink RL 9 yX5_init, Cond.instanceMethod yX5_init, Cond.code yX5_init cX5_init 1 none, Cond.methodLink RX5 1 objectInit, Cond.instanceMethod objectInit, Cond.code objectInit ⟨#[0xb1]⟩ 1 none, Cond.classLink RX5 7 RX1, Cond.instantiable RX1 7, Cond.initialized RX1, Cond.fieldLink RX5 10 "InterestNet" "net" "LInterestNet$Net;", Cond.classLink RX5 16 RX3, Cond.instantiable RX3 4, Cond.initialized RX3, Cond.fieldLink RX5 19 "InterestNet" "runner" "LInterestNet$Runner;", Cond.classLink RX5 23 RX2, Cond.instantiable RX2 5, Cond.initialized RX2, Cond.fieldLink RX5 26 "InterestNet" "paths" "LInterestNet$Paths;"]
def wsL_law_r2 : List Cond := [Cond.classLink RX5 30 RX0, Cond.instantiable RX0 3, Cond.initialized RX0, Cond.fieldLink RX5 33 "InterestNet" "history" "LInterestNet$History;", Cond.classLink RX5 37 RX4, Cond.instantiable RX4 7, Cond.initialized RX4, Cond.fieldLink RX5 40 "InterestNet" "text" "LInterestNet$Text;", Cond.methodLink RX5 9 yX1_init, Cond.instanceMethod yX1_init, Cond.code yX1_init cX1_init 1 none, Cond.methodLink RX1 3 objectInit, Cond.arrayClass .int, Cond.fieldLink RX1 9 "InterestNet$Net" "numbers" "[I", Cond.fieldLink RX1 15 "InterestNet$Net" "energies" "[I", Cond.fieldLink RX1 18 "InterestNet$Net" "links" "[I", Cond.fieldLink RX1 21 "InterestNet$Net" "sensors" "[I", Cond.fieldLink RX1 24 "InterestNet$Net" "interests" "[I", Cond.fieldLink RX1 27 "InterestNet$Net" "wayLengths" "[I", Cond.fieldLink RX1 30 "InterestNet$Net" "wayNodes" "[I", Cond.static yX5_put, Cond.code yX5_put cX5_put 3 none, Cond.instanceMethod yX3_init, Cond.code yX3_init cX3_init 1 none]
def wsL_law_r3 : List Cond := [Cond.methodLink RX3 3 objectInit, Cond.classLink RX3 9 RX1, Cond.fieldLink RX3 12 "InterestNet$Runner" "draft" "LInterestNet$Net;", Cond.classLink RX3 18 RX2, Cond.fieldLink RX3 21 "InterestNet$Runner" "paths" "LInterestNet$Paths;", Cond.fieldLink RX3 25 "InterestNet$Runner" "newWay" "[I", Cond.fieldLink RX3 29 "InterestNet$Runner" "sentTo" "[I", Cond.methodLink RX3 11 yX1_init, Cond.instanceMethod yX2_init, Cond.code yX2_init cX2_init 1 none, Cond.methodLink RX2 3 objectInit, Cond.fieldLink RX2 9 "InterestNet$Paths" "delays" "[I", Cond.fieldLink RX2 15 "InterestNet$Paths" "exploredAmong" "[I", Cond.fieldLink RX2 18 "InterestNet$Paths" "reached" "[I", Cond.fieldLink RX2 21 "InterestNet$Paths" "times" "[I", Cond.fieldLink RX2 24 "InterestNet$Paths" "nodesBefore" "[I", Cond.methodLink RX5 32 yX0_init, Cond.instanceMethod yX0_init, Cond.code yX0_init cX0_init 2 none, Cond.methodLink RX0 3 objectInit, Cond.classLink RX0 9 RX1, Cond.fieldLink RX0 11 "InterestNet$History" "states" "[LInterestNet$Net;", Cond.methodLink RX0 17 yX1_init, Cond.instanceMethod yX4_init]
def wsL_law_r4 : List Cond := [Cond.code yX4_init cX4_init 1 none, Cond.methodLink RX4 3 objectInit, Cond.classLink RX4 9 RX1, Cond.fieldLink RX4 12 "InterestNet$Text" "draft" "LInterestNet$Net;", Cond.fieldLink RX4 18 "InterestNet$Text" "codes" "[I", Cond.methodLink RX4 11 yX1_init, Cond.methodLink RL 12 yX6_init, Cond.instanceMethod yX6_init, Cond.code yX6_init cX6_init 1 none, Cond.methodLink RX6 1 objectInit, Cond.fieldLink RX6 7 "InterestNetModel" "row" "[I", Cond.fieldLink RX6 13 "InterestNetModel" "time" "[I", Cond.arrayClass .boolean, Cond.fieldLink RX6 16 "InterestNetModel" "alive" "[Z", Cond.fieldLink RX6 20 "InterestNetModel" "done" "[Z", Cond.fieldLink RX6 23 "InterestNetModel" "found" "[I", Cond.fieldLink RX6 26 "InterestNetModel" "old" "[I", Cond.fieldLink RX6 29 "InterestNetModel" "sent" "[Z", Cond.fieldLink RX6 32 "InterestNetModel" "text" "[I", Cond.methodLink RL 13 yX5_addNode, Cond.instanceMethod yX5_addNode, Cond.selects RX5 yX5_addNode yX5_addNode, Cond.code yX5_addNode cX5_addNode 2 (some .int), Cond.methodLink RX5 44 yX5_isWithin]
def wsL_law_r5 : List Cond := [Cond.static yX5_isWithin, Cond.code yX5_isWithin cX5_isWithin 3 (some .boolean), Cond.methodLink RX5 48 yX1_number, Cond.instanceMethod yX1_number, Cond.selects RX1 yX1_number yX1_number, Cond.code yX1_number cX1_number 2 (some .int), Cond.methodLink RX1 41 yX1_aliveNodes, Cond.instanceMethod yX1_aliveNodes, Cond.selects RX1 yX1_aliveNodes yX1_aliveNodes, Cond.code yX1_aliveNodes cX1_aliveNodes 3 (some .int), Cond.static yX5_at, Cond.code yX5_at cX5_at 2 (some .int), Cond.methodLink RX1 45 yJ6_bitCount_0f7a4, Cond.static yJ6_bitCount_0f7a4, Cond.initialized RJ6, Cond.code yJ6_bitCount_0f7a4 cJ6_bitCount_0f7a4 1 (some .int), Cond.constant RJ6 265 (1431655765), Cond.constant RJ6 266 (858993459), Cond.constant RJ6 267 (252645135), Cond.methodLink RX5 52 yX0_record, Cond.instanceMethod yX0_record, Cond.selects RX0 yX0_record yX0_record, Cond.code yX0_record cX0_record 3 none, Cond.fieldLink RX0 18 "InterestNet$History" "size" "I"]
def wsL_law_r6 : List Cond := [Cond.fieldLink RX0 22 "InterestNet$History" "oldest" "I", Cond.methodLink RX0 25 yX0_stateAt, Cond.instanceMethod yX0_stateAt, Cond.selects RX0 yX0_stateAt yX0_stateAt, Cond.code yX0_stateAt cX0_stateAt 3 (some (.object "InterestNet$Net")), Cond.methodLink RX0 29 yX1_copyFrom, Cond.instanceMethod yX1_copyFrom, Cond.selects RX1 yX1_copyFrom yX1_copyFrom, Cond.code yX1_copyFrom cX1_copyFrom 2 none, Cond.static yX5_copy, Cond.code yX5_copy cX5_copy 2 none, Cond.methodLink RX5 195 Lib.Math.min.name, Cond.static Lib.Math.min.name, Cond.initialized "java/lang/Math", Cond.code Lib.Math.min.name Lib.Math.min.code 2 (some .int), Cond.methodLink RX5 200 arraycopyName, Cond.native arraycopyName, Cond.static arraycopyName, Cond.initialized "java/lang/System", Cond.methodLink RX5 56 yX1_appendNode, Cond.instanceMethod yX1_appendNode, Cond.selects RX1 yX1_appendNode yX1_appendNode, Cond.code yX1_appendNode cX1_appendNode 3 (some .int), Cond.methodLink RL 17 yX6_addNode]
def wsL_law_r7 : List Cond := [Cond.instanceMethod yX6_addNode, Cond.selects RX6 yX6_addNode yX6_addNode, Cond.code yX6_addNode cX6_addNode 2 (some .int), Cond.methodLink RX6 43 yX6_in, Cond.static yX6_in, Cond.code yX6_in cX6_in 3 (some .boolean), Cond.methodLink RX6 54 yX6_saves, Cond.instanceMethod yX6_saves, Cond.selects RX6 yX6_saves yX6_saves, Cond.code yX6_saves cX6_saves 2 none, Cond.fieldLink RX6 35 "InterestNetModel" "saved" "I", Cond.methodLink RX6 39 yX6_copies, Cond.instanceMethod yX6_copies, Cond.selects RX6 yX6_copies yX6_copies, Cond.code yX6_copies cX6_copies 4 none, Cond.methodLink RX6 57 yX6_laysNode, Cond.instanceMethod yX6_laysNode, Cond.selects RX6 yX6_laysNode yX6_laysNode, Cond.code yX6_laysNode cX6_laysNode 2 none, Cond.methodLink RL 18 yX5_charge, Cond.instanceMethod yX5_charge, Cond.selects RX5 yX5_charge yX5_charge, Cond.code yX5_charge cX5_charge 4 (some .int), Cond.methodLink RX5 59 yX1_has]
def wsL_law_r8 : List Cond := [Cond.instanceMethod yX1_has, Cond.selects RX1 yX1_has yX1_has, Cond.code yX1_has cX1_has 3 (some .boolean), Cond.methodLink RX5 63 yX1_energyOf, Cond.instanceMethod yX1_energyOf, Cond.selects RX1 yX1_energyOf yX1_energyOf, Cond.code yX1_energyOf cX1_energyOf 2 (some .int), Cond.methodLink RX5 66 yX1_setEnergy, Cond.instanceMethod yX1_setEnergy, Cond.selects RX1 yX1_setEnergy yX1_setEnergy, Cond.code yX1_setEnergy cX1_setEnergy 3 none, Cond.methodLink RL 22 yX6_charge, Cond.instanceMethod yX6_charge, Cond.selects RX6 yX6_charge yX6_charge, Cond.code yX6_charge cX6_charge 4 (some .int), Cond.methodLink RX6 61 yX6_isNode, Cond.instanceMethod yX6_isNode, Cond.selects RX6 yX6_isNode yX6_isNode, Cond.code yX6_isNode cX6_isNode 2 (some .boolean), Cond.methodLink RL 23 yX5_link, Cond.instanceMethod yX5_link, Cond.selects RX5 yX5_link yX5_link, Cond.code yX5_link cX5_link 4 (some .int), Cond.methodLink RX5 70 yX1_areLinked]
def wsL_law_r9 : List Cond := [Cond.instanceMethod yX1_areLinked, Cond.selects RX1 yX1_areLinked yX1_areLinked, Cond.code yX1_areLinked cX1_areLinked 4 (some .boolean), Cond.methodLink RX1 67 yX1_partOfLink, Cond.instanceMethod yX1_partOfLink, Cond.selects RX1 yX1_partOfLink yX1_partOfLink, Cond.code yX1_partOfLink cX1_partOfLink 3 (some .int), Cond.methodLink RX1 70 yX1_isPair, Cond.static yX1_isPair, Cond.code yX1_isPair cX1_isPair 4 (some .boolean), Cond.methodLink RX5 73 yX1_appendLink, Cond.instanceMethod yX1_appendLink, Cond.selects RX1 yX1_appendLink yX1_appendLink, Cond.code yX1_appendLink cX1_appendLink 5 (some .int), Cond.methodLink RL 27 yX6_link, Cond.instanceMethod yX6_link, Cond.selects RX6 yX6_link yX6_link, Cond.code yX6_link cX6_link 4 (some .int), Cond.methodLink RX6 65 yX6_linkOf, Cond.instanceMethod yX6_linkOf, Cond.selects RX6 yX6_linkOf yX6_linkOf, Cond.code yX6_linkOf cX6_linkOf 7 (some .int), Cond.methodLink RX6 47 yX6_ofLink, Cond.instanceMethod yX6_ofLink]
def wsL_law_r10 : List Cond := [Cond.selects RX6 yX6_ofLink yX6_ofLink, Cond.code yX6_ofLink cX6_ofLink 3 (some .int), Cond.methodLink RX6 68 yX6_laysLink, Cond.instanceMethod yX6_laysLink, Cond.selects RX6 yX6_laysLink yX6_laysLink, Cond.code yX6_laysLink cX6_laysLink 5 none, Cond.methodLink RL 28 yX5_cut, Cond.instanceMethod yX5_cut, Cond.selects RX5 yX5_cut yX5_cut, Cond.code yX5_cut cX5_cut 2 (some .int), Cond.methodLink RX5 77 yX1_removeLink, Cond.instanceMethod yX1_removeLink, Cond.selects RX1 yX1_removeLink yX1_removeLink, Cond.code yX1_removeLink cX1_removeLink 2 (some .int), Cond.static yX5_removePiece, Cond.code yX5_removePiece cX5_removePiece 4 none, Cond.methodLink RX5 187 yX5_at, Cond.methodLink RX5 191 yX5_put, Cond.static yX5_increase, Cond.code yX5_increase cX5_increase 3 none, Cond.methodLink RL 31 yX6_cut, Cond.instanceMethod yX6_cut, Cond.selects RX6 yX6_cut yX6_cut, Cond.code yX6_cut cX6_cut 3 (some .int)]
def wsL_law_r11 : List Cond := [Cond.methodLink RX6 72 yX6_isLink, Cond.instanceMethod yX6_isLink, Cond.selects RX6 yX6_isLink yX6_isLink, Cond.code yX6_isLink cX6_isLink 2 (some .boolean), Cond.methodLink RL 32 yX5_addSensor, Cond.instanceMethod yX5_addSensor, Cond.selects RX5 yX5_addSensor yX5_addSensor, Cond.code yX5_addSensor cX5_addSensor 4 (some .int), Cond.methodLink RX5 80 yX1_appendSensor, Cond.instanceMethod yX1_appendSensor, Cond.selects RX1 yX1_appendSensor yX1_appendSensor, Cond.code yX1_appendSensor cX1_appendSensor 5 (some .int), Cond.methodLink RL 35 yX6_addSensor, Cond.instanceMethod yX6_addSensor, Cond.selects RX6 yX6_addSensor yX6_addSensor, Cond.code yX6_addSensor cX6_addSensor 4 (some .int), Cond.methodLink RX6 75 yX6_isKind, Cond.static yX6_isKind, Cond.code yX6_isKind cX6_isKind 1 (some .boolean), Cond.methodLink RX6 78 yX6_isMeasure, Cond.static yX6_isMeasure, Cond.code yX6_isMeasure cX6_isMeasure 1 (some .boolean), Cond.methodLink RX6 81 yX6_laysSensor, Cond.instanceMethod yX6_laysSensor]
def wsL_law_r12 : List Cond := [Cond.selects RX6 yX6_laysSensor yX6_laysSensor, Cond.code yX6_laysSensor cX6_laysSensor 6 none, Cond.methodLink RX6 51 yX6_wayAt, Cond.instanceMethod yX6_wayAt, Cond.selects RX6 yX6_wayAt yX6_wayAt, Cond.code yX6_wayAt cX6_wayAt 3 (some .int), Cond.methodLink RL 36 yX5_measure, Cond.instanceMethod yX5_measure, Cond.selects RX5 yX5_measure yX5_measure, Cond.code yX5_measure cX5_measure 4 (some .int), Cond.methodLink RX5 83 yX1_sensorPart, Cond.instanceMethod yX1_sensorPart, Cond.selects RX1 yX1_sensorPart yX1_sensorPart, Cond.code yX1_sensorPart cX1_sensorPart 3 (some .int), Cond.methodLink RX5 87 yX1_setValue, Cond.instanceMethod yX1_setValue, Cond.selects RX1 yX1_setValue yX1_setValue, Cond.code yX1_setValue cX1_setValue 3 none, Cond.methodLink RL 39 yX6_measure, Cond.instanceMethod yX6_measure, Cond.selects RX6 yX6_measure yX6_measure, Cond.code yX6_measure cX6_measure 4 (some .int), Cond.methodLink RX6 84 yX6_isSensor, Cond.instanceMethod yX6_isSensor]
def wsL_law_r13 : List Cond := [Cond.selects RX6 yX6_isSensor yX6_isSensor, Cond.code yX6_isSensor cX6_isSensor 2 (some .boolean), Cond.methodLink RX6 87 yX6_ofSensor, Cond.instanceMethod yX6_ofSensor, Cond.selects RX6 yX6_ofSensor yX6_ofSensor, Cond.code yX6_ofSensor cX6_ofSensor 3 (some .int), Cond.methodLink RL 40 yX5_ask, Cond.instanceMethod yX5_ask, Cond.selects RX5 yX5_ask yX5_ask, Cond.code yX5_ask cX5_ask 6 (some .int), Cond.constant RX5 90 (100000), Cond.methodLink RX5 91 yX1_appendInterest, Cond.instanceMethod yX1_appendInterest, Cond.selects RX1 yX1_appendInterest yX1_appendInterest, Cond.code yX1_appendInterest cX1_appendInterest 8 (some .int), Cond.static yX5_wayOf, Cond.code yX5_wayOf cX5_wayOf 2 (some .int), Cond.methodLink RL 44 yX6_ask, Cond.instanceMethod yX6_ask, Cond.selects RX6 yX6_ask yX6_ask, Cond.code yX6_ask cX6_ask 9 (some .int), Cond.constant RX6 90 (100000), Cond.methodLink RL 45 yX5_withdraw, Cond.instanceMethod yX5_withdraw]
def wsL_law_r14 : List Cond := [Cond.selects RX5 yX5_withdraw yX5_withdraw, Cond.code yX5_withdraw cX5_withdraw 2 (some .int), Cond.methodLink RX5 95 yX1_removeInterest, Cond.instanceMethod yX1_removeInterest, Cond.selects RX1 yX1_removeInterest yX1_removeInterest, Cond.code yX1_removeInterest cX1_removeInterest 2 none, Cond.methodLink RL 48 yX6_withdraw, Cond.instanceMethod yX6_withdraw, Cond.selects RX6 yX6_withdraw yX6_withdraw, Cond.code yX6_withdraw cX6_withdraw 2 (some .int), Cond.methodLink RX6 91 yX6_isInterest, Cond.instanceMethod yX6_isInterest, Cond.selects RX6 yX6_isInterest yX6_isInterest, Cond.code yX6_isInterest cX6_isInterest 2 (some .boolean), Cond.methodLink RX6 94 yX6_removes, Cond.instanceMethod yX6_removes, Cond.selects RX6 yX6_removes yX6_removes, Cond.code yX6_removes cX6_removes 3 none, Cond.methodLink RL 49 yX5_setPeriod, Cond.instanceMethod yX5_setPeriod, Cond.selects RX5 yX5_setPeriod yX5_setPeriod, Cond.code yX5_setPeriod cX5_setPeriod 3 (some .int), Cond.methodLink RX5 99 yX1_setNumber, Cond.instanceMethod yX1_setNumber]
def wsL_law_r15 : List Cond := [Cond.selects RX1 yX1_setNumber yX1_setNumber, Cond.code yX1_setNumber cX1_setNumber 3 none, Cond.methodLink RL 52 yX6_setPeriod, Cond.instanceMethod yX6_setPeriod, Cond.selects RX6 yX6_setPeriod yX6_setPeriod, Cond.code yX6_setPeriod cX6_setPeriod 3 (some .int), Cond.methodLink RL 53 yX5_count, Cond.instanceMethod yX5_count, Cond.selects RX5 yX5_count yX5_count, Cond.code yX5_count cX5_count 2 (some .int), Cond.methodLink RL 56 yX6_count, Cond.instanceMethod yX6_count, Cond.selects RX6 yX6_count yX6_count, Cond.code yX6_count cX6_count 2 (some .int), Cond.methodLink RX6 100 yX6_living, Cond.instanceMethod yX6_living, Cond.selects RX6 yX6_living yX6_living, Cond.code yX6_living cX6_living 3 (some .int), Cond.methodLink RX6 97 yX6_isAlive, Cond.instanceMethod yX6_isAlive, Cond.selects RX6 yX6_isAlive yX6_isAlive, Cond.code yX6_isAlive cX6_isAlive 2 (some .boolean), Cond.methodLink RL 57 yX5_energy, Cond.instanceMethod yX5_energy]
def wsL_law_r16 : List Cond := [Cond.selects RX5 yX5_energy yX5_energy, Cond.code yX5_energy cX5_energy 2 (some .int), Cond.methodLink RL 60 yX6_energy, Cond.instanceMethod yX6_energy, Cond.selects RX6 yX6_energy yX6_energy, Cond.code yX6_energy cX6_energy 2 (some .int), Cond.methodLink RL 61 yX5_linkPart, Cond.instanceMethod yX5_linkPart, Cond.selects RX5 yX5_linkPart yX5_linkPart, Cond.code yX5_linkPart cX5_linkPart 3 (some .int), Cond.methodLink RX5 102 yX1_partOfLink, Cond.methodLink RL 64 yX6_linkPart, Cond.instanceMethod yX6_linkPart, Cond.selects RX6 yX6_linkPart yX6_linkPart, Cond.code yX6_linkPart cX6_linkPart 3 (some .int), Cond.methodLink RL 65 yX5_sensor, Cond.instanceMethod yX5_sensor, Cond.selects RX5 yX5_sensor yX5_sensor, Cond.code yX5_sensor cX5_sensor 3 (some .int), Cond.methodLink RL 68 yX6_sensor, Cond.instanceMethod yX6_sensor, Cond.selects RX6 yX6_sensor yX6_sensor, Cond.code yX6_sensor cX6_sensor 3 (some .int), Cond.methodLink RL 69 yX5_interest]
def wsL_law_r17 : List Cond := [Cond.instanceMethod yX5_interest, Cond.selects RX5 yX5_interest yX5_interest, Cond.code yX5_interest cX5_interest 3 (some .int), Cond.methodLink RX5 105 yX1_interestPart, Cond.instanceMethod yX1_interestPart, Cond.selects RX1 yX1_interestPart yX1_interestPart, Cond.code yX1_interestPart cX1_interestPart 3 (some .int), Cond.methodLink RX1 84 yX1_waysOf, Cond.instanceMethod yX1_waysOf, Cond.selects RX1 yX1_waysOf yX1_waysOf, Cond.code yX1_waysOf cX1_waysOf 4 (some .int), Cond.methodLink RL 72 yX6_interest, Cond.instanceMethod yX6_interest, Cond.selects RX6 yX6_interest yX6_interest, Cond.code yX6_interest cX6_interest 3 (some .int), Cond.methodLink RX6 110 yX6_part, Cond.instanceMethod yX6_part, Cond.selects RX6 yX6_part yX6_part, Cond.code yX6_part cX6_part 5 (some .int), Cond.methodLink RX6 104 yX6_ofInterest, Cond.instanceMethod yX6_ofInterest, Cond.selects RX6 yX6_ofInterest yX6_ofInterest, Cond.code yX6_ofInterest cX6_ofInterest 3 (some .int), Cond.methodLink RX6 107 yX6_lengthOf]
def wsL_law_r18 : List Cond := [Cond.instanceMethod yX6_lengthOf, Cond.selects RX6 yX6_lengthOf yX6_lengthOf, Cond.code yX6_lengthOf cX6_lengthOf 3 (some .int), Cond.methodLink RL 73 yX5_rounds, Cond.instanceMethod yX5_rounds, Cond.selects RX5 yX5_rounds yX5_rounds, Cond.code yX5_rounds cX5_rounds 3 (some .int), Cond.methodLink RX5 108 yX3_start, Cond.instanceMethod yX3_start, Cond.selects RX3 yX3_start yX3_start, Cond.code yX3_start cX3_start 2 none, Cond.methodLink RX3 32 yX1_copyFrom, Cond.methodLink RX3 36 yX2_learn, Cond.instanceMethod yX2_learn, Cond.selects RX2 yX2_learn yX2_learn, Cond.code yX2_learn cX2_learn 5 none, Cond.methodLink RX2 27 yJ7_fill_53178, Cond.static yJ7_fill_53178, Cond.initialized RJ7, Cond.code yJ7_fill_53178 cJ7_fill_53178 4 none, Cond.methodLink RX2 33 yX1_number, Cond.methodLink RX2 39 yX1_partOfLink, Cond.methodLink RX5 111 yX3_run, Cond.instanceMethod yX3_run]
def wsL_law_r19 : List Cond := [Cond.selects RX3 yX3_run yX3_run, Cond.code yX3_run cX3_run 6 (some .int), Cond.methodLink RX3 39 yX1_endInterests, Cond.instanceMethod yX1_endInterests, Cond.selects RX1 yX1_endInterests yX1_endInterests, Cond.code yX1_endInterests cX1_endInterests 2 none, Cond.methodLink RX1 77 yX1_interestPart, Cond.methodLink RX1 80 yX1_removeInterest, Cond.methodLink RX3 42 yJ7_fill_53178, Cond.methodLink RX3 48 yX1_number, Cond.methodLink RX3 52 yX3_takeTurn, Cond.instanceMethod yX3_takeTurn, Cond.selects RX3 yX3_takeTurn yX3_takeTurn, Cond.code yX3_takeTurn cX3_takeTurn 7 (some .boolean), Cond.methodLink RX3 64 yX1_sensorPart, Cond.methodLink RX3 67 yX1_interestPart, Cond.methodLink RX3 70 yX1_aliveNodes, Cond.methodLink RX3 74 yX1_matches, Cond.instanceMethod yX1_matches, Cond.selects RX1 yX1_matches yX1_matches, Cond.code yX1_matches cX1_matches 3 (some .boolean), Cond.methodLink RX1 87 yX1_sensorPart, Cond.static yX5_holds, Cond.code yX5_holds cX5_holds 2 (some .boolean)]
def wsL_law_r20 : List Cond := [Cond.methodLink RX3 80 yX1_dropWay, Cond.instanceMethod yX1_dropWay, Cond.selects RX1 yX1_dropWay yX1_dropWay, Cond.code yX1_dropWay cX1_dropWay 2 none, Cond.methodLink RX3 84 yX3_isExploringRound, Cond.instanceMethod yX3_isExploringRound, Cond.selects RX3 yX3_isExploringRound yX3_isExploringRound, Cond.code yX3_isExploringRound cX3_isExploringRound 2 (some .boolean), Cond.methodLink RX3 88 yX2_carry, Cond.instanceMethod yX2_carry, Cond.selects RX2 yX2_carry yX2_carry, Cond.code yX2_carry cX2_carry 7 (some .boolean), Cond.methodLink RX2 51 yX1_lengthOf, Cond.instanceMethod yX1_lengthOf, Cond.selects RX1 yX1_lengthOf yX1_lengthOf, Cond.code yX1_lengthOf cX1_lengthOf 2 (some .int), Cond.methodLink RX2 54 yX1_nodeOf, Cond.instanceMethod yX1_nodeOf, Cond.selects RX1 yX1_nodeOf yX1_nodeOf, Cond.code yX1_nodeOf cX1_nodeOf 3 (some .int), Cond.methodLink RX2 61 yX2_delayBetween, Cond.instanceMethod yX2_delayBetween, Cond.selects RX2 yX2_delayBetween yX2_delayBetween, Cond.code yX2_delayBetween cX2_delayBetween 3 (some .int)]
def wsL_law_r21 : List Cond := [Cond.methodLink RX3 92 yX3_exploreWay, Cond.instanceMethod yX3_exploreWay, Cond.selects RX3 yX3_exploreWay yX3_exploreWay, Cond.code yX3_exploreWay cX3_exploreWay 8 none, Cond.methodLink RX3 124 Lib.Math.max.name, Cond.static Lib.Math.max.name, Cond.code Lib.Math.max.name Lib.Math.max.code 2 (some .int), Cond.methodLink RX3 109 yX2_explore, Cond.instanceMethod yX2_explore, Cond.selects RX2 yX2_explore yX2_explore, Cond.code yX2_explore cX2_explore 5 none, Cond.constant RX2 74 (1000000), Cond.methodLink RX2 64 yX2_findTimes, Cond.instanceMethod yX2_findTimes, Cond.selects RX2 yX2_findTimes yX2_findTimes, Cond.code yX2_findTimes cX2_findTimes 9 none, Cond.methodLink RX2 68 yX2_findNodeBefore, Cond.instanceMethod yX2_findNodeBefore, Cond.selects RX2 yX2_findNodeBefore yX2_findNodeBefore, Cond.code yX2_findNodeBefore cX2_findNodeBefore 6 (some .int), Cond.methodLink RX2 71 yX2_timeOf, Cond.instanceMethod yX2_timeOf, Cond.selects RX2 yX2_timeOf yX2_timeOf, Cond.code yX2_timeOf cX2_timeOf 3 (some .int)]
def wsL_law_r22 : List Cond := [Cond.methodLink RX3 112 yX2_reachedFrom, Cond.instanceMethod yX2_reachedFrom, Cond.selects RX2 yX2_reachedFrom yX2_reachedFrom, Cond.code yX2_reachedFrom cX2_reachedFrom 2 (some .int), Cond.methodLink RX3 115 yX1_spend, Cond.instanceMethod yX1_spend, Cond.selects RX1 yX1_spend yX1_spend, Cond.code yX1_spend cX1_spend 4 none, Cond.methodLink RX1 58 Lib.Math.min.name, Cond.methodLink RX3 118 yX3_traceBack, Cond.instanceMethod yX3_traceBack, Cond.selects RX3 yX3_traceBack yX3_traceBack, Cond.code yX3_traceBack cX3_traceBack 5 (some .int), Cond.methodLink RX3 137 yX2_nodeBefore, Cond.instanceMethod yX2_nodeBefore, Cond.selects RX2 yX2_nodeBefore yX2_nodeBefore, Cond.code yX2_nodeBefore cX2_nodeBefore 3 (some .int), Cond.methodLink RX3 121 yX3_keptLinks, Cond.instanceMethod yX3_keptLinks, Cond.selects RX3 yX3_keptLinks yX3_keptLinks, Cond.code yX3_keptLinks cX3_keptLinks 5 (some .int), Cond.methodLink RX3 144 yX1_goesOver, Cond.instanceMethod yX1_goesOver, Cond.selects RX1 yX1_goesOver yX1_goesOver]
def wsL_law_r23 : List Cond := [Cond.code yX1_goesOver cX1_goesOver 6 (some .boolean), Cond.methodLink RX3 56 yX1_raise, Cond.instanceMethod yX1_raise, Cond.selects RX1 yX1_raise yX1_raise, Cond.code yX1_raise cX1_raise 3 none, Cond.methodLink RX3 96 yX1_lengthOf, Cond.methodLink RX3 129 yX1_setWay, Cond.instanceMethod yX1_setWay, Cond.selects RX1 yX1_setWay yX1_setWay, Cond.code yX1_setWay cX1_setWay 5 none, Cond.methodLink RX3 99 yX3_send, Cond.instanceMethod yX3_send, Cond.selects RX3 yX3_send yX3_send, Cond.code yX3_send cX3_send 7 none, Cond.methodLink RX3 148 yX1_nodeOf, Cond.methodLink RX3 102 yX2_delayOf, Cond.instanceMethod yX2_delayOf, Cond.selects RX2 yX2_delayOf yX2_delayOf, Cond.code yX2_delayOf cX2_delayOf 5 (some .int), Cond.methodLink RX3 106 yX1_deliver, Cond.instanceMethod yX1_deliver, Cond.selects RX1 yX1_deliver yX1_deliver, Cond.code yX1_deliver cX1_deliver 3 none, Cond.methodLink RX5 117 yX1_copyFrom]
def wsL_law_r24 : List Cond := [Cond.methodLink RL 76 yX6_rounds, Cond.instanceMethod yX6_rounds, Cond.selects RX6 yX6_rounds yX6_rounds, Cond.code yX6_rounds cX6_rounds 2 (some .int), Cond.methodLink RX6 158 yX6_goesFor, Cond.instanceMethod yX6_goesFor, Cond.selects RX6 yX6_goesFor yX6_goesFor, Cond.code yX6_goesFor cX6_goesFor 4 (some .int), Cond.methodLink RX6 155 yX6_goesOn, Cond.instanceMethod yX6_goesOn, Cond.selects RX6 yX6_goesOn yX6_goesOn, Cond.code yX6_goesOn cX6_goesOn 4 (some .int), Cond.methodLink RX6 152 yX6_turns, Cond.instanceMethod yX6_turns, Cond.selects RX6 yX6_turns yX6_turns, Cond.code yX6_turns cX6_turns 3 (some .boolean), Cond.methodLink RX6 136 yX6_looksAlive, Cond.instanceMethod yX6_looksAlive, Cond.selects RX6 yX6_looksAlive yX6_looksAlive, Cond.code yX6_looksAlive cX6_looksAlive 2 none, Cond.methodLink RX6 139 yX6_matches, Cond.instanceMethod yX6_matches, Cond.selects RX6 yX6_matches yX6_matches, Cond.code yX6_matches cX6_matches 3 (some .boolean)]
def wsL_law_r25 : List Cond := [Cond.methodLink RX6 143 yX6_isWholeWay, Cond.instanceMethod yX6_isWholeWay, Cond.selects RX6 yX6_isWholeWay yX6_isWholeWay, Cond.code yX6_isWholeWay cX6_isWholeWay 5 (some .boolean), Cond.methodLink RX6 113 yX6_nodeOf, Cond.instanceMethod yX6_nodeOf, Cond.selects RX6 yX6_nodeOf yX6_nodeOf, Cond.code yX6_nodeOf cX6_nodeOf 4 (some .int), Cond.methodLink RX6 146 yX6_explores, Cond.instanceMethod yX6_explores, Cond.selects RX6 yX6_explores yX6_explores, Cond.code yX6_explores cX6_explores 4 none, Cond.fieldLink RX6 129 "InterestNetModel" "oldMany" "I", Cond.fieldLink RX6 117 "InterestNetModel" "foundMany" "I", Cond.methodLink RX6 120 yX6_reaches, Cond.instanceMethod yX6_reaches, Cond.selects RX6 yX6_reaches yX6_reaches, Cond.code yX6_reaches cX6_reaches 6 none, Cond.methodLink RX6 123 yX6_traces, Cond.instanceMethod yX6_traces, Cond.selects RX6 yX6_traces yX6_traces, Cond.code yX6_traces cX6_traces 6 none, Cond.methodLink RX6 126 yX6_spends, Cond.instanceMethod yX6_spends]
def wsL_law_r26 : List Cond := [Cond.selects RX6 yX6_spends yX6_spends, Cond.code yX6_spends cX6_spends 4 none, Cond.methodLink RX6 132 yX6_goesOver, Cond.static yX6_goesOver, Cond.code yX6_goesOver cX6_goesOver 6 (some .boolean), Cond.methodLink RX6 149 yX6_sends, Cond.instanceMethod yX6_sends, Cond.selects RX6 yX6_sends yX6_sends, Cond.code yX6_sends cX6_sends 7 none, Cond.methodLink RL 77 yX5_wayLength, Cond.instanceMethod yX5_wayLength, Cond.selects RX5 yX5_wayLength yX5_wayLength, Cond.code yX5_wayLength cX5_wayLength 3 (some .int), Cond.methodLink RX5 120 yX5_hasWay, Cond.instanceMethod yX5_hasWay, Cond.selects RX5 yX5_hasWay yX5_hasWay, Cond.code yX5_hasWay cX5_hasWay 3 (some .boolean), Cond.methodLink RX5 123 yX5_wayOf, Cond.methodLink RX5 126 yX1_lengthOf, Cond.methodLink RL 80 yX6_wayLength, Cond.instanceMethod yX6_wayLength, Cond.selects RX6 yX6_wayLength yX6_wayLength, Cond.code yX6_wayLength cX6_wayLength 3 (some .int), Cond.methodLink RL 81 yX5_wayNode]
def wsL_law_r27 : List Cond := [Cond.instanceMethod yX5_wayNode, Cond.selects RX5 yX5_wayNode yX5_wayNode, Cond.code yX5_wayNode cX5_wayNode 5 (some .int), Cond.methodLink RX5 129 yX1_nodeOf, Cond.methodLink RL 84 yX6_wayNode, Cond.instanceMethod yX6_wayNode, Cond.selects RX6 yX6_wayNode yX6_wayNode, Cond.code yX6_wayNode cX6_wayNode 4 (some .int), Cond.methodLink RL 85 yX5_isWhole, Cond.instanceMethod yX5_isWhole, Cond.selects RX5 yX5_isWhole yX5_isWhole, Cond.code yX5_isWhole cX5_isWhole 3 (some .int), Cond.methodLink RX5 132 yX2_learn, Cond.methodLink RX5 135 yX1_aliveNodes, Cond.methodLink RX5 139 yX2_carry, Cond.methodLink RL 88 yX6_isWhole, Cond.instanceMethod yX6_isWhole, Cond.selects RX6 yX6_isWhole yX6_isWhole, Cond.code yX6_isWhole cX6_isWhole 3 (some .int), Cond.methodLink RL 89 yX5_quickest, Cond.instanceMethod yX5_quickest, Cond.selects RX5 yX5_quickest yX5_quickest, Cond.code yX5_quickest cX5_quickest 4 (some .int), Cond.methodLink RX5 143 yX5_holds]
def wsL_law_r28 : List Cond := [Cond.methodLink RX5 146 yX2_explore, Cond.methodLink RX5 149 yX2_reachedFrom, Cond.methodLink RX5 152 yX2_timeOf, Cond.methodLink RL 92 yX6_quickest, Cond.instanceMethod yX6_quickest, Cond.selects RX6 yX6_quickest yX6_quickest, Cond.code yX6_quickest cX6_quickest 3 (some .int), Cond.methodLink RL 93 yX5_load, Cond.instanceMethod yX5_load, Cond.selects RX5 yX5_load yX5_load, Cond.code yX5_load cX5_load 2 (some .int), Cond.methodLink RX5 155 yX1_waysOver, Cond.instanceMethod yX1_waysOver, Cond.selects RX1 yX1_waysOver yX1_waysOver, Cond.code yX1_waysOver cX1_waysOver 6 (some .int), Cond.methodLink RX1 94 yX1_goesOver, Cond.methodLink RL 96 yX6_load, Cond.instanceMethod yX6_load, Cond.selects RX6 yX6_load yX6_load, Cond.code yX6_load cX6_load 6 (some .int), Cond.methodLink RL 97 yX5_firstDeath, Cond.instanceMethod yX5_firstDeath, Cond.selects RX5 yX5_firstDeath yX5_firstDeath, Cond.code yX5_firstDeath cX5_firstDeath 3 (some .int)]
def wsL_law_r29 : List Cond := [Cond.methodLink RL 101 yX6_firstDeath, Cond.instanceMethod yX6_firstDeath, Cond.selects RX6 yX6_firstDeath yX6_firstDeath, Cond.code yX6_firstDeath cX6_firstDeath 5 (some .int), Cond.methodLink RL 102 yX5_willDeliver, Cond.instanceMethod yX5_willDeliver, Cond.selects RX5 yX5_willDeliver yX5_willDeliver, Cond.code yX5_willDeliver cX5_willDeliver 2 (some .int), Cond.methodLink RL 105 yX6_willDeliver, Cond.instanceMethod yX6_willDeliver, Cond.selects RX6 yX6_willDeliver yX6_willDeliver, Cond.code yX6_willDeliver cX6_willDeliver 3 (some .int), Cond.methodLink RL 106 yX5_bestPeriod, Cond.instanceMethod yX5_bestPeriod, Cond.selects RX5 yX5_bestPeriod yX5_bestPeriod, Cond.code yX5_bestPeriod cX5_bestPeriod 6 (some .int), Cond.methodLink RL 109 yX6_bestPeriod, Cond.instanceMethod yX6_bestPeriod, Cond.selects RX6 yX6_bestPeriod yX6_bestPeriod, Cond.code yX6_bestPeriod cX6_bestPeriod 6 (some .int), Cond.methodLink RL 110 yX5_undo, Cond.instanceMethod yX5_undo, Cond.selects RX5 yX5_undo yX5_undo, Cond.code yX5_undo cX5_undo 1 (some .int)]
def wsL_law_r30 : List Cond := [Cond.methodLink RX5 158 yX0_restore, Cond.instanceMethod yX0_restore, Cond.selects RX0 yX0_restore yX0_restore, Cond.code yX0_restore cX0_restore 3 (some .boolean), Cond.methodLink RL 113 yX6_undo, Cond.instanceMethod yX6_undo, Cond.selects RX6 yX6_undo yX6_undo, Cond.code yX6_undo cX6_undo 1 (some .int), Cond.methodLink RL 114 yX5_type, Cond.instanceMethod yX5_type, Cond.selects RX5 yX5_type yX5_type, Cond.code yX5_type cX5_type 2 (some .int), Cond.methodLink RX5 166 yX4_append, Cond.instanceMethod yX4_append, Cond.selects RX4 yX4_append yX4_append, Cond.code yX4_append cX4_append 2 (some .boolean), Cond.fieldLink RX4 22 "InterestNet$Text" "length" "I", Cond.methodLink RL 117 yX6_type, Cond.instanceMethod yX6_type, Cond.selects RX6 yX6_type yX6_type, Cond.code yX6_type cX6_type 2 (some .int), Cond.fieldLink RX6 162 "InterestNetModel" "length" "I", Cond.methodLink RL 118 yX5_clearText, Cond.instanceMethod yX5_clearText]
def wsL_law_r31 : List Cond := [Cond.selects RX5 yX5_clearText yX5_clearText, Cond.code yX5_clearText cX5_clearText 2 (some .int), Cond.methodLink RL 121 yX6_clearText, Cond.instanceMethod yX6_clearText, Cond.selects RX6 yX6_clearText yX6_clearText, Cond.code yX6_clearText cX6_clearText 2 (some .int), Cond.methodLink RL 122 yX5_textFault, Cond.instanceMethod yX5_textFault, Cond.selects RX5 yX5_textFault yX5_textFault, Cond.code yX5_textFault cX5_textFault 1 (some .int), Cond.methodLink RX5 173 yX4_read, Cond.instanceMethod yX4_read, Cond.selects RX4 yX4_read yX4_read, Cond.code yX4_read cX4_read 3 (some .boolean), Cond.fieldLink RX4 34 "InterestNet$Text" "place" "I", Cond.fieldLink RX4 37 "InterestNet$Text" "items" "I", Cond.methodLink RX4 30 yX1_copyFrom, Cond.methodLink RX4 40 yX4_readItem, Cond.instanceMethod yX4_readItem, Cond.selects RX4 yX4_readItem yX4_readItem, Cond.code yX4_readItem cX4_readItem 2 (some .boolean), Cond.methodLink RX4 44 yX4_nextCode, Cond.instanceMethod yX4_nextCode, Cond.selects RX4 yX4_nextCode yX4_nextCode]
def wsL_law_r32 : List Cond := [Cond.code yX4_nextCode cX4_nextCode 1 (some .int), Cond.methodLink RX4 55 yX4_readNode, Cond.instanceMethod yX4_readNode, Cond.selects RX4 yX4_readNode yX4_readNode, Cond.code yX4_readNode cX4_readNode 2 (some .boolean), Cond.methodLink RX4 67 yX1_number, Cond.methodLink RX4 52 yX4_refuse, Cond.instanceMethod yX4_refuse, Cond.selects RX4 yX4_refuse yX4_refuse, Cond.code yX4_refuse cX4_refuse 2 (some .boolean), Cond.fieldLink RX4 100 "InterestNet$Text" "fault" "I", Cond.methodLink RX4 48 yX4_readSign, Cond.instanceMethod yX4_readSign, Cond.selects RX4 yX4_readSign yX4_readSign, Cond.code yX4_readSign cX4_readSign 2 (some .boolean), Cond.methodLink RX4 71 yX4_readNumber, Cond.instanceMethod yX4_readNumber, Cond.selects RX4 yX4_readNumber yX4_readNumber, Cond.code yX4_readNumber cX4_readNumber 5 (some .int), Cond.fieldLink RX4 82 "InterestNet$Text" "numberPlace" "I", Cond.methodLink RX4 61 yX4_isDigit, Cond.static yX4_isDigit, Cond.code yX4_isDigit cX4_isDigit 1 (some .boolean), Cond.methodLink RX4 75 yX1_appendNode]
def wsL_law_r33 : List Cond := [Cond.methodLink RX4 58 yX4_readSensor, Cond.instanceMethod yX4_readSensor, Cond.selects RX4 yX4_readSensor yX4_readSensor, Cond.code yX4_readSensor cX4_readSensor 5 (some .boolean), Cond.methodLink RX4 89 yX1_appendSensor, Cond.methodLink RX4 64 yX4_readLink, Cond.instanceMethod yX4_readLink, Cond.selects RX4 yX4_readLink yX4_readLink, Cond.code yX4_readLink cX4_readLink 5 (some .boolean), Cond.methodLink RX4 78 yX1_areLinked, Cond.methodLink RX4 85 yX1_appendLink, Cond.methodLink RL 125 yX6_textFault, Cond.instanceMethod yX6_textFault, Cond.selects RX6 yX6_textFault yX6_textFault, Cond.code yX6_textFault cX6_textFault 2 (some .int), Cond.fieldLink RX6 165 "InterestNetModel" "at" "I", Cond.methodLink RX6 200 yX6_readsText, Cond.instanceMethod yX6_readsText, Cond.selects RX6 yX6_readsText yX6_readsText, Cond.code yX6_readsText cX6_readsText 3 (some .boolean), Cond.fieldLink RX6 184 "InterestNetModel" "items" "I", Cond.methodLink RX6 197 yX6_readsItem, Cond.instanceMethod yX6_readsItem, Cond.selects RX6 yX6_readsItem yX6_readsItem]
def wsL_law_r34 : List Cond := [Cond.code yX6_readsItem cX6_readsItem 2 (some .boolean), Cond.methodLink RX6 168 yX6_here, Cond.instanceMethod yX6_here, Cond.selects RX6 yX6_here yX6_here, Cond.code yX6_here cX6_here 1 (some .int), Cond.methodLink RX6 187 yX6_readsNode, Cond.instanceMethod yX6_readsNode, Cond.selects RX6 yX6_readsNode yX6_readsNode, Cond.code yX6_readsNode cX6_readsNode 1 (some .boolean), Cond.fieldLink RX6 171 "InterestNetModel" "number" "I", Cond.methodLink RX6 178 yX6_reads, Cond.instanceMethod yX6_reads, Cond.selects RX6 yX6_reads yX6_reads, Cond.code yX6_reads cX6_reads 4 (some .boolean), Cond.methodLink RX6 174 yX6_finds, Cond.instanceMethod yX6_finds, Cond.selects RX6 yX6_finds yX6_finds, Cond.code yX6_finds cX6_finds 7 (some .int), Cond.methodLink RX6 191 yX6_readsSensor, Cond.instanceMethod yX6_readsSensor, Cond.selects RX6 yX6_readsSensor yX6_readsSensor, Cond.code yX6_readsSensor cX6_readsSensor 5 (some .boolean), Cond.methodLink RX6 181 yX6_sign, Cond.instanceMethod yX6_sign]
def wsL_law_r35 : List Cond := [Cond.selects RX6 yX6_sign yX6_sign, Cond.code yX6_sign cX6_sign 3 (some .boolean), Cond.methodLink RX6 194 yX6_readsLink, Cond.instanceMethod yX6_readsLink, Cond.selects RX6 yX6_readsLink yX6_readsLink, Cond.code yX6_readsLink cX6_readsLink 4 (some .boolean), Cond.methodLink RL 126 yX5_build, Cond.instanceMethod yX5_build, Cond.selects RX5 yX5_build yX5_build, Cond.code yX5_build cX5_build 1 (some .int), Cond.methodLink RL 129 yX6_build, Cond.instanceMethod yX6_build, Cond.selects RX6 yX6_build yX6_build, Cond.code yX6_build cX6_build 2 (some .int), Cond.methodLink RX6 203 yX6_textFault, Cond.methodLink RL 130 yX5_digest, Cond.instanceMethod yX5_digest, Cond.selects RX5 yX5_digest yX5_digest, Cond.code yX5_digest cX5_digest 1 (some .long), Cond.methodLink RX5 183 yX1_hash, Cond.instanceMethod yX1_hash, Cond.selects RX1 yX1_hash yX1_hash, Cond.code yX1_hash cX1_hash 4 (some .long), Cond.constantLong RX1 97 (17)]
def wsL_law_r36 : List Cond := [Cond.constantLong RX1 99 (31), Cond.methodLink RX1 101 yX1_number, Cond.static yX5_hashOf, Cond.code yX5_hashOf cX5_hashOf 8 (some .long), Cond.constantLong RX5 206 (31), Cond.methodLink RX1 108 yX1_hashOfWays, Cond.instanceMethod yX1_hashOfWays, Cond.selects RX1 yX1_hashOfWays yX1_hashOfWays, Cond.code yX1_hashOfWays cX1_hashOfWays 8 (some .long), Cond.methodLink RX1 112 yX1_lengthOf, Cond.methodLink RL 134 yX6_digest, Cond.instanceMethod yX6_digest, Cond.selects RX6 yX6_digest yX6_digest, Cond.code yX6_digest cX6_digest 4 (some .long), Cond.constantLong RX6 212 (17), Cond.fieldLink RX6 208 "InterestNetModel" "h" "J", Cond.methodLink RX6 214 yX6_note, Cond.instanceMethod yX6_note, Cond.selects RX6 yX6_note yX6_note, Cond.code yX6_note cX6_note 2 none, Cond.constantLong RX6 206 (31)]
def wsL_law : List Cond := (wsL_law_r1 ++ (wsL_law_r2 ++ (wsL_law_r3 ++ (wsL_law_r4 ++ (wsL_law_r5 ++ (wsL_law_r6 ++ (wsL_law_r7 ++ (wsL_law_r8 ++ (wsL_law_r9 ++ (wsL_law_r10 ++ (wsL_law_r11 ++ (wsL_law_r12 ++ (wsL_law_r13 ++ (wsL_law_r14 ++ (wsL_law_r15 ++ (wsL_law_r16 ++ (wsL_law_r17 ++ (wsL_law_r18 ++ (wsL_law_r19 ++ (wsL_law_r20 ++ (wsL_law_r21 ++ (wsL_law_r22 ++ (wsL_law_r23 ++ (wsL_law_r24 ++ (wsL_law_r25 ++ (wsL_law_r26 ++ (wsL_law_r27 ++ (wsL_law_r28 ++ (wsL_law_r29 ++ (wsL_law_r30 ++ (wsL_law_r31 ++ (wsL_law_r32 ++ (wsL_law_r33 ++ (wsL_law_r34 ++ (wsL_law_r35 ++ wsL_law_r36))))))))))))))))))))))))))))))))))) ++ wsX50 ++ wsX60 ++ wsX10 ++ wsX30 ++ wsX20 ++ wsX00 ++ wsX40 ++ ([] : List Cond)
abbrev vwCl : List vw_C := [(RX0, TX0, 3), (RX1, TX1, 7), (RX2, TX2, 5), (RX3, TX3, 4), (RX4, TX4, 7), (RX5, TX5, 5), (RX6, TX6, 16)]
end
section
/-! the one world: every object and array of the class and of the reference, by a number ('id'); what they hold is one function of id and index -/
abbrev iw_M : Type := Nat → Nat → Int32
abbrev iw_G : Type := va_G × (Nat → Nat) × ClassId × ClassId × ClassId
def iw_nth (l : List Nat) (i : Nat) : Nat := l.getD i 0
/-- the kind of an id: 0 History, 1 Net, 2 Paths, 3 Runner, 4 Text, 5 InterestNet, 6 the reference, 7 ints, 8 booleans, 9 nets -/
def iw_kd (a : Nat) : Nat := if a < 8 then iw_nth [5, 3, 7, 7, 0, 9, 4, 7] a else if a < 20 then (if (a - 8) % 6 = 0 then 2 else 7) else if a < 84 then (if (a - 20) % 8 = 0 then 1 else 7) else iw_nth [6, 7, 7, 8, 8, 7, 7, 8, 7] (a - 84)
/-- how long an array is -/
def iw_al (a : Nat) : Nat := if a < 8 then iw_nth [0, 0, 10, 60, 0, 5, 0, 120] a else if a < 20 then iw_nth [0, 100, 10, 10, 100, 100] ((a - 8) % 6) else if a < 84 then iw_nth [0, 12, 10, 60, 18, 35, 30, 300] ((a - 20) % 8) else iw_nth [0, 3255, 10, 10, 10, 10, 10, 600, 120] (a - 84)
def iw_h (hi lo : Int32) : Int64 := Int64.ofBitVec (hi.toBitVec ++ lo.toBitVec)
def iw_hi (v : Int64) : Int32 := Int32.ofBitVec (v.toBitVec.extractLsb' 32 32)
def iw_lo (v : Int64) : Int32 := Int32.ofBitVec (v.toBitVec.extractLsb' 0 32)
theorem iw_h_hl (v : Int64) : iw_h (iw_hi v) (iw_lo v) = v := by
  apply Int64.toBitVec_inj.mp
  show (v.toBitVec.extractLsb' 32 32 ++ v.toBitVec.extractLsb' 0 32 : BitVec 64) = v.toBitVec
  apply BitVec.eq_of_getLsbD_eq
  intro i hi
  rw [BitVec.getLsbD_append]
  by_cases h : i < 32
  · simp [h]
  · have h2 : i - 32 < 32 := by omega
    have h3 : 32 + (i - 32) = i := by omega
    simp [h, h2, h3]
def iw_E (G : iw_G) (σ : iw_M) (a : Nat) : va_E :=
  if iw_kd a = 7 then .inl (G.2.2.1, iw_al a, .inl (σ a))
  else if iw_kd a = 8 then .inl (G.2.2.2.1, iw_al a, .inl (σ a))
  else if iw_kd a = 9 then .inl (G.2.2.2.2, 5, .inr (.inr (.inr (.inr (fun j => some (G.2.1 (44 + 8 * j)))))))
  else if iw_kd a = 1 then .inr (1, [.ref (G.2.1 (a + 1)), .ref (G.2.1 (a + 2)), .ref (G.2.1 (a + 3)), .ref (G.2.1 (a + 4)), .ref (G.2.1 (a + 5)), .ref (G.2.1 (a + 6)), .ref (G.2.1 (a + 7))])
  else if iw_kd a = 2 then .inr (2, [.ref (G.2.1 (a + 1)), .ref (G.2.1 (a + 2)), .ref (G.2.1 (a + 3)), .ref (G.2.1 (a + 4)), .ref (G.2.1 (a + 5))])
  else if iw_kd a = 3 then .inr (3, [.ref (G.2.1 28), .ref (G.2.1 14), .ref (G.2.1 2), .ref (G.2.1 3)])
  else if iw_kd a = 4 then .inr (4, [.ref (G.2.1 36), .ref (G.2.1 7), .int (σ a 2), .int (σ a 3), .int (σ a 4), .int (σ a 5), .int (σ a 6)])
  else if iw_kd a = 5 then .inr (5, [.ref (G.2.1 20), .ref (G.2.1 1), .ref (G.2.1 8), .ref (G.2.1 4), .ref (G.2.1 6)])
  else if iw_kd a = 0 then .inr (0, [.ref (G.2.1 5), .int (σ a 1), .int (σ a 2)])
  else .inr (6, [.ref (G.2.1 85), .int (σ a 1), .ref (G.2.1 86), .ref (G.2.1 87), .ref (G.2.1 88), .ref (G.2.1 89), .int (σ a 6), .ref (G.2.1 90), .int (σ a 8), .ref (G.2.1 91), .ref (G.2.1 92), .int (σ a 11), .int (σ a 12), .int (σ a 13), .int (σ a 14), .long (iw_h (σ a 15) (σ a 16))])
def iw_wl (G : iw_G) (σ : iw_M) : va_W := (List.range 93).map (fun a => (G.2.1 a, iw_E G σ a))
def iw_up (σ : iw_M) (a i : Nat) (v : Int32) : iw_M := fun b => if b = a then upd (σ a) i v else σ b
theorem iw_at {G : iw_G} {σ : iw_M} {a : Nat} (h : a < 93) : (iw_wl G σ)[a]? = some (G.2.1 a, iw_E G σ a) := by
  simp [iw_wl, h]
theorem iw_E_congr {G : iw_G} {σ σ' : iw_M} {a : Nat} (h : σ' a = σ a) : iw_E G σ' a = iw_E G σ a := by
  unfold iw_E
  rw [h]
theorem iw_set {G : iw_G} {σ σ' : iw_M} {a : Nat} {e : va_E} (he : iw_E G σ' a = e) (hne : ∀ b, b ≠ a → σ' b = σ b) : (iw_wl G σ).set a (G.2.1 a, e) = iw_wl G σ' := by
  apply List.ext_getElem?
  intro i
  by_cases hi : i = a
  · subst hi
    by_cases h : i < 93
    · rw [List.getElem?_set_self (by simpa [iw_wl] using h), iw_at h, he]
    · simp [iw_wl, h]
  · rw [List.getElem?_set_ne (fun q => hi q.symm)]
    by_cases h : i < 93
    · rw [iw_at h, iw_at h, iw_E_congr (hne i hi)]
    · simp [iw_wl, h]
theorem iw_up_ne {σ : iw_M} {a i b : Nat} {v : Int32} (h : b ≠ a) : iw_up σ a i v b = σ b := if_neg h
theorem iw_up_eq {σ : iw_M} {a i : Nat} {v : Int32} : iw_up σ a i v a = upd (σ a) i v := if_pos rfl
theorem iw_E7 {G : iw_G} {σ : iw_M} {a : Nat} (h : iw_kd a = 7) : iw_E G σ a = .inl (G.2.2.1, iw_al a, .inl (σ a)) := by
  unfold iw_E
  rw [if_pos h]
theorem iw_E8 {G : iw_G} {σ : iw_M} {a : Nat} (h : iw_kd a = 8) : iw_E G σ a = .inl (G.2.2.2.1, iw_al a, .inl (σ a)) := by
  unfold iw_E
  rw [if_neg (by rw [h]; decide), if_pos h]
theorem iw_E1 {G : iw_G} {σ : iw_M} {a : Nat} (h : iw_kd a = 1) : iw_E G σ a = .inr (1, [.ref (G.2.1 (a + 1)), .ref (G.2.1 (a + 2)), .ref (G.2.1 (a + 3)), .ref (G.2.1 (a + 4)), .ref (G.2.1 (a + 5)), .ref (G.2.1 (a + 6)), .ref (G.2.1 (a + 7))]) := by
  unfold iw_E
  rw [if_neg (by rw [h]; decide), if_neg (by rw [h]; decide), if_neg (by rw [h]; decide), if_pos h]
theorem iw_E2 {G : iw_G} {σ : iw_M} {a : Nat} (h : iw_kd a = 2) : iw_E G σ a = .inr (2, [.ref (G.2.1 (a + 1)), .ref (G.2.1 (a + 2)), .ref (G.2.1 (a + 3)), .ref (G.2.1 (a + 4)), .ref (G.2.1 (a + 5))]) := by
  unfold iw_E
  rw [if_neg (by rw [h]; decide), if_neg (by rw [h]; decide), if_neg (by rw [h]; decide), if_neg (by rw [h]; decide), if_pos h]
def iw_tys (G : iw_G) : List (ClassId × FieldType) := [(G.2.2.1, .int), (G.2.2.2.1, .boolean), (G.2.2.2.2, .object "InterestNet$Net")]
def iw_nm : List (String × Nat × MethodName) := [
  (RX1, 33, yX5_put), (RX1, 51, yX5_at), (RX1, 37, yX5_copy), (RX1, 64, yX5_removePiece), (RX1, 55, yX5_increase), (RX1, 74, yX5_wayOf), (RX1, 90, yX5_isWithin), (RX1, 104, yX5_hashOf),
  (RX2, 43, yX5_put), (RX2, 57, yX5_holds), (RX2, 47, yX5_at),
  (RX3, 60, yX5_wayOf), (RX3, 77, yX5_holds), (RX3, 133, yX5_put), (RX3, 140, yX5_at),
  (RX4, 26, yX5_put), (RX4, 92, yX5_at), (RX4, 96, yX5_isWithin)]
def iw_nf : List (String × Nat × String × String × String) := [
  (RX5, 114, RX3, "draft", "LInterestNet$Net;"), (RX5, 162, RX0, "size", "I"), (RX5, 179, RX4, "draft", "LInterestNet$Net;"), (RX5, 170, RX4, "length", "I"), (RX5, 180, RX4, "items", "I"), (RX5, 176, RX4, "fault", "I")]
def iw_K (G : iw_G) (U : State) : Prop := va_K G.1 vwCl (iw_tys G) U ∧ (∀ q ∈ iw_nm, va_Nw (.methodLinkNest q.1 q.2.1 q.2.2 "InterestNet") U) ∧ ∀ q ∈ iw_nf, va_Nw (.fieldLinkNest q.1 q.2.1 q.2.2.1 q.2.2.2.1 q.2.2.2.2 "InterestNet") U
theorem iw_K.warm {G : iw_G} {s U : State} (hW : s.WarmedH U.vm) (h : iw_K G s) : iw_K G U := ⟨va_K.moved hW.alike h.1, fun q hq => va_Nw.warmM hW (h.2.1 q hq), fun q hq => va_Nw.warmF hW (h.2.2 q hq)⟩
theorem iw_K.same {G : iw_G} {u U : State} (hW : u.vm = U.vm) (h : iw_K G u) : iw_K G U := ⟨va_K.moved (by rw [hW]; exact Vm.Alike.refl U.vm) h.1, fun q hq => va_Nw.same rfl hW (h.2.1 q hq), fun q hq => va_Nw.same rfl hW (h.2.2 q hq)⟩
def iw_Wd (G : iw_G) (σ : iw_M) (U : State) : Prop := va_P G.1 vwCl (iw_wl G σ) U.heap ∧ iw_K G U
def iw_A (G : iw_G) : Nat → Prop := fun q => ∃ a, a < 93 ∧ q = G.2.1 a
def iw_J (G : iw_G) : Prop := ∀ a b, a < 93 → b < 93 → G.2.1 a = G.2.1 b → a = b
def iw_Q (v : Option Value) (G : iw_G) (σ' : iw_M) : Array Value → State → Outcome → State → Prop := fun _ st oc t => oc = .returned v ∧ iw_Wd G σ' t ∧ va_F (iw_A G) st t
def iw_Ct (l : Launch) (y : MethodName) (ws : List Cond) (rm : Room) (G : iw_G) (as : List Value) (σ : iw_M) (v : Option Value) (σ' : iw_M) : Prop :=
  Met l y ws rm (va_Pc as (iw_Wd G σ)) (iw_Q v G σ') 0 0 (iw_A G)
theorem iw_lt {G : iw_G} {σ : iw_M} {a : Nat} {q : Nat × va_E} (h : (iw_wl G σ)[a]? = some q) : a < 93 ∧ q = (G.2.1 a, iw_E G σ a) := by
  have h1 : a < (iw_wl G σ).length := (List.getElem?_eq_some_iff.mp h).1
  have h2 : a < 93 := by simpa [iw_wl] using h1
  rw [iw_at h2] at h
  exact ⟨h2, (Option.some.inj h).symm⟩
theorem iw_D {G : iw_G} {σ : iw_M} {A : Nat → Prop} (hJ : iw_J G) (hA : ∀ a, a < 93 → A (G.2.1 a)) : va_D A (iw_wl G σ) := by
  refine ⟨fun i j p q hi hj e => ?_, fun k q hk => ?_⟩
  · obtain ⟨h1, rfl⟩ := iw_lt hi
    obtain ⟨h2, rfl⟩ := iw_lt hj
    exact hJ i j h1 h2 e
  · obtain ⟨h1, rfl⟩ := iw_lt hk
    exact hA k h1
def iw_C (p : Program) (R : Room) (s : State) (m : MethodId) (args : Array Value) (c : Code) (cc : ByteArray) (nL : Nat) (Ts : List Cond) (own : String) (G : iw_G) (A : Nat → Prop) (cells slots : Nat) : Prop :=
  p.tables.exec = Jvm.exec ∧ c.code = cc ∧ c.maxLocals = nL ∧ s.vm.findClass own = some m.cls ∧ (∀ w ∈ Ts, w.before args s = true) ∧ iw_K G s ∧ iw_J G ∧ (∀ a, a < 93 → A (G.2.1 a)) ∧ cells ≤ R.cells ∧ slots ≤ R.slots
/-- from here on, with this memory, these locals and this stack, the machine comes to Q -/
def iw_V (p : Program) (l : Launch) (e : Env) (R : Room) (s : State) (m : MethodId) (args : Array Value) (below : List Frame) (meth : Method) (c : Code) (cells slots : Nat) (Q : State → Prop) (nL : Nat) (G : iw_G) (A : Nat → Prop) (σ : iw_M) (pc : Nat) (lv : List (Nat × Value)) (st : List Value) : Prop :=
  ∀ (H : Heap) (locs : List Loc) (ls : Array Slot), va_P G.1 vwCl (iw_wl G σ) H → va_S A s.heap H locs → lv_has ls nL lv → W p l e R s m args below meth c H locs cells slots Q (F0 m pc ls st)
end
section
section IV
variable {p : Program} {l : Launch} {e : Env} {R : Room} {s : State} {m : MethodId} {args : Array Value} {below : List Frame} {meth : Method} {c : Code} {cells slots : Nat} {Q : State → Prop} {nL : Nat} {G : iw_G} {A : Nat → Prop} {σ : iw_M} {pc : Nat} {lv : List (Nat × Value)} {st : List Value} {cc : ByteArray} {Ts : List Cond} {own : String}
theorem iw_C.D (C : iw_C p R s m args c cc nL Ts own G A cells slots) : va_D A (iw_wl G σ) := iw_D C.2.2.2.2.2.2.1 C.2.2.2.2.2.2.2.1
theorem iw_C.K (C : iw_C p R s m args c cc nL Ts own G A cells slots) : iw_K G s := C.2.2.2.2.2.1
theorem iv_iconst (C : iw_C p R s m args c cc nL Ts own G A cells slots) {n : Int} (v : Int32) (hdg : decode cc pc = .ok (.iconst n, 1)) (hv : Int32.ofInt n = v) (k : iw_V p l e R s m args below meth c cells slots Q nL G A σ (pc + 1) lv (.int v :: st)) : iw_V p l e R s m args below meth c cells slots Q nL G A σ pc lv st := fun H locs ls hP hS hl => lv_iconst C.1 C.2.1 hdg hv (k H locs ls hP hS hl)
theorem iv_bipush (C : iw_C p R s m args c cc nL Ts own G A cells slots) {n : Int} (v : Int32) (hdg : decode cc pc = .ok (.bipush n, 2)) (hv : (Int8.ofInt n).toInt32 = v) (k : iw_V p l e R s m args below meth c cells slots Q nL G A σ (pc + 2) lv (.int v :: st)) : iw_V p l e R s m args below meth c cells slots Q nL G A σ pc lv st := fun H locs ls hP hS hl => lv_bipush C.1 C.2.1 hdg hv (k H locs ls hP hS hl)
theorem iv_sipush (C : iw_C p R s m args c cc nL Ts own G A cells slots) {n : Int} (v : Int32) (hdg : decode cc pc = .ok (.sipush n, 3)) (hv : (Int16.ofInt n).toInt32 = v) (k : iw_V p l e R s m args below meth c cells slots Q nL G A σ (pc + 3) lv (.int v :: st)) : iw_V p l e R s m args below meth c cells slots Q nL G A σ pc lv st := fun H locs ls hP hS hl => lv_sipush C.1 C.2.1 hdg hv (k H locs ls hP hS hl)
theorem iv_ldc (C : iw_C p R s m args c cc nL Ts own G A cells slots) {index : Nat} (v : Int32) (hc : Cond.constant own index v ∈ Ts) (hdg : decode cc pc = .ok (.ldc index, 2)) (k : iw_V p l e R s m args below meth c cells slots Q nL G A σ (pc + 2) lv (.int v :: st)) : iw_V p l e R s m args below meth c cells slots Q nL G A σ pc lv st := fun H locs ls hP hS hl => lv_ldc C.1 C.2.1 C.2.2.2.1 (C.2.2.2.2.1 _ hc) hdg (k H locs ls hP hS hl)
theorem iv_ldc_w (C : iw_C p R s m args c cc nL Ts own G A cells slots) {index : Nat} (v : Int32) (hc : Cond.constant own index v ∈ Ts) (hdg : decode cc pc = .ok (.ldc_w index, 3)) (k : iw_V p l e R s m args below meth c cells slots Q nL G A σ (pc + 3) lv (.int v :: st)) : iw_V p l e R s m args below meth c cells slots Q nL G A σ pc lv st := fun H locs ls hP hS hl => lv_ldcw C.1 C.2.1 C.2.2.2.1 (C.2.2.2.2.1 _ hc) hdg (k H locs ls hP hS hl)
theorem iv_ldc2_w (C : iw_C p R s m args c cc nL Ts own G A cells slots) {index : Nat} (v : Int64) (hc : Cond.constantLong own index v ∈ Ts) (hdg : decode cc pc = .ok (.ldc2_w index, 3)) (k : iw_V p l e R s m args below meth c cells slots Q nL G A σ (pc + 3) lv (.long v :: st)) : iw_V p l e R s m args below meth c cells slots Q nL G A σ pc lv st := fun H locs ls hP hS hl => lv_ldc2 C.1 C.2.1 C.2.2.2.1 (C.2.2.2.2.1 _ hc) hdg (k H locs ls hP hS hl)
theorem iv_null (C : iw_C p R s m args c cc nL Ts own G A cells slots) (hdg : decode cc pc = .ok (.aconst_null, 1)) (k : iw_V p l e R s m args below meth c cells slots Q nL G A σ (pc + 1) lv (.null :: st)) : iw_V p l e R s m args below meth c cells slots Q nL G A σ pc lv st := fun H locs ls hP hS hl => lv_null C.1 C.2.1 hdg (k H locs ls hP hS hl)
theorem iv_iload_n (C : iw_C p R s m args c cc nL Ts own G A cells slots) (j : Nat) {k : Fin 4} {i : Nat} {x : Int32} (hdg : decode cc pc = .ok (.iload_n k, 1)) (hi : (k : Nat) = i) (h : lv[j]? = some (i, .int x)) (q : iw_V p l e R s m args below meth c cells slots Q nL G A σ (pc + 1) lv (.int x :: st)) : iw_V p l e R s m args below meth c cells slots Q nL G A σ pc lv st := fun H locs ls hP hS hl => lv_iload_n C.1 C.2.1 hdg hi (lv_at hl j h) (q H locs ls hP hS hl)
theorem iv_iload (C : iw_C p R s m args c cc nL Ts own G A cells slots) (j : Nat) {i : Nat} {x : Int32} (hdg : decode cc pc = .ok (.iload i, 2)) (h : lv[j]? = some (i, .int x)) (q : iw_V p l e R s m args below meth c cells slots Q nL G A σ (pc + 2) lv (.int x :: st)) : iw_V p l e R s m args below meth c cells slots Q nL G A σ pc lv st := fun H locs ls hP hS hl => lv_iload C.1 C.2.1 hdg (lv_at hl j h) (q H locs ls hP hS hl)
theorem iv_istore_n (C : iw_C p R s m args c cc nL Ts own G A cells slots) (lv' : List (Nat × Value)) {k : Fin 4} {i : Nat} {x : Int32} (hdg : decode cc pc = .ok (.istore_n k, 1)) (hi : (k : Nat) = i) (hn : i < nL) (h : (i, Value.int x) :: lv.filter (fun q => !(q.1 == i) && !(q.1 + 1 == i && q.2.category == 2)) = lv') (q : iw_V p l e R s m args below meth c cells slots Q nL G A σ (pc + 1) lv' st) : iw_V p l e R s m args below meth c cells slots Q nL G A σ pc lv (.int x :: st) := fun H locs ls hP hS hl => lv_istore_n C.1 C.2.1 hdg hi hl hn h (fun ls' hl' => q H locs ls' hP hS hl')
theorem iv_istore (C : iw_C p R s m args c cc nL Ts own G A cells slots) (lv' : List (Nat × Value)) {i : Nat} {x : Int32} (hdg : decode cc pc = .ok (.istore i, 2)) (hn : i < nL) (h : (i, Value.int x) :: lv.filter (fun q => !(q.1 == i) && !(q.1 + 1 == i && q.2.category == 2)) = lv') (q : iw_V p l e R s m args below meth c cells slots Q nL G A σ (pc + 2) lv' st) : iw_V p l e R s m args below meth c cells slots Q nL G A σ pc lv (.int x :: st) := fun H locs ls hP hS hl => lv_istore C.1 C.2.1 hdg hl hn h (fun ls' hl' => q H locs ls' hP hS hl')
theorem iv_lload_n (C : iw_C p R s m args c cc nL Ts own G A cells slots) (j : Nat) {k : Fin 4} {i : Nat} {x : Int64} (hdg : decode cc pc = .ok (.lload_n k, 1)) (hi : (k : Nat) = i) (h : lv[j]? = some (i, .long x)) (q : iw_V p l e R s m args below meth c cells slots Q nL G A σ (pc + 1) lv (.long x :: st)) : iw_V p l e R s m args below meth c cells slots Q nL G A σ pc lv st := fun H locs ls hP hS hl => lv_lload_n C.1 C.2.1 hdg hi (lv_at hl j h) (q H locs ls hP hS hl)
theorem iv_lload (C : iw_C p R s m args c cc nL Ts own G A cells slots) (j : Nat) {i : Nat} {x : Int64} (hdg : decode cc pc = .ok (.lload i, 2)) (h : lv[j]? = some (i, .long x)) (q : iw_V p l e R s m args below meth c cells slots Q nL G A σ (pc + 2) lv (.long x :: st)) : iw_V p l e R s m args below meth c cells slots Q nL G A σ pc lv st := fun H locs ls hP hS hl => lv_lload C.1 C.2.1 hdg (lv_at hl j h) (q H locs ls hP hS hl)
theorem iv_lstore_n (C : iw_C p R s m args c cc nL Ts own G A cells slots) (lv' : List (Nat × Value)) {k : Fin 4} {i : Nat} {x : Int64} (hdg : decode cc pc = .ok (.lstore_n k, 1)) (hi : (k : Nat) = i) (hn : i + 1 < nL) (h : (i, Value.long x) :: lv.filter (fun q => !(q.1 == i) && (!(q.1 == i + 1) && !(q.1 + 1 == i && q.2.category == 2))) = lv') (q : iw_V p l e R s m args below meth c cells slots Q nL G A σ (pc + 1) lv' st) : iw_V p l e R s m args below meth c cells slots Q nL G A σ pc lv (.long x :: st) := fun H locs ls hP hS hl => lv_lstore_n C.1 C.2.1 hdg hi hl hn h (fun ls' hl' => q H locs ls' hP hS hl')
theorem iv_lstore (C : iw_C p R s m args c cc nL Ts own G A cells slots) (lv' : List (Nat × Value)) {i : Nat} {x : Int64} (hdg : decode cc pc = .ok (.lstore i, 2)) (hn : i + 1 < nL) (h : (i, Value.long x) :: lv.filter (fun q => !(q.1 == i) && (!(q.1 == i + 1) && !(q.1 + 1 == i && q.2.category == 2))) = lv') (q : iw_V p l e R s m args below meth c cells slots Q nL G A σ (pc + 2) lv' st) : iw_V p l e R s m args below meth c cells slots Q nL G A σ pc lv (.long x :: st) := fun H locs ls hP hS hl => lv_lstore C.1 C.2.1 hdg hl hn h (fun ls' hl' => q H locs ls' hP hS hl')
theorem iv_aload_n (C : iw_C p R s m args c cc nL Ts own G A cells slots) (j : Nat) {k : Fin 4} {i : Nat} {x : Nat} (hdg : decode cc pc = .ok (.aload_n k, 1)) (hi : (k : Nat) = i) (h : lv[j]? = some (i, .ref x)) (q : iw_V p l e R s m args below meth c cells slots Q nL G A σ (pc + 1) lv (.ref x :: st)) : iw_V p l e R s m args below meth c cells slots Q nL G A σ pc lv st := fun H locs ls hP hS hl => lv_aload_n C.1 C.2.1 hdg hi (lv_at hl j h) (q H locs ls hP hS hl)
theorem iv_aload (C : iw_C p R s m args c cc nL Ts own G A cells slots) (j : Nat) {i : Nat} {x : Nat} (hdg : decode cc pc = .ok (.aload i, 2)) (h : lv[j]? = some (i, .ref x)) (q : iw_V p l e R s m args below meth c cells slots Q nL G A σ (pc + 2) lv (.ref x :: st)) : iw_V p l e R s m args below meth c cells slots Q nL G A σ pc lv st := fun H locs ls hP hS hl => lv_aload C.1 C.2.1 hdg (lv_at hl j h) (q H locs ls hP hS hl)
theorem iv_astore_n (C : iw_C p R s m args c cc nL Ts own G A cells slots) (lv' : List (Nat × Value)) {k : Fin 4} {i : Nat} {x : Nat} (hdg : decode cc pc = .ok (.astore_n k, 1)) (hi : (k : Nat) = i) (hn : i < nL) (h : (i, Value.ref x) :: lv.filter (fun q => !(q.1 == i) && !(q.1 + 1 == i && q.2.category == 2)) = lv') (q : iw_V p l e R s m args below meth c cells slots Q nL G A σ (pc + 1) lv' st) : iw_V p l e R s m args below meth c cells slots Q nL G A σ pc lv (.ref x :: st) := fun H locs ls hP hS hl => lv_astore_n C.1 C.2.1 hdg hi hl hn h (fun ls' hl' => q H locs ls' hP hS hl')
theorem iv_astore (C : iw_C p R s m args c cc nL Ts own G A cells slots) (lv' : List (Nat × Value)) {i : Nat} {x : Nat} (hdg : decode cc pc = .ok (.astore i, 2)) (hn : i < nL) (h : (i, Value.ref x) :: lv.filter (fun q => !(q.1 == i) && !(q.1 + 1 == i && q.2.category == 2)) = lv') (q : iw_V p l e R s m args below meth c cells slots Q nL G A σ (pc + 2) lv' st) : iw_V p l e R s m args below meth c cells slots Q nL G A σ pc lv (.ref x :: st) := fun H locs ls hP hS hl => lv_astore C.1 C.2.1 hdg hl hn h (fun ls' hl' => q H locs ls' hP hS hl')
theorem iv_astore_nN (C : iw_C p R s m args c cc nL Ts own G A cells slots) (lv' : List (Nat × Value)) {k : Fin 4} {i : Nat} (hdg : decode cc pc = .ok (.astore_n k, 1)) (hi : (k : Nat) = i) (hn : i < nL) (h : (i, Value.null) :: lv.filter (fun q => !(q.1 == i) && !(q.1 + 1 == i && q.2.category == 2)) = lv') (q : iw_V p l e R s m args below meth c cells slots Q nL G A σ (pc + 1) lv' st) : iw_V p l e R s m args below meth c cells slots Q nL G A σ pc lv (.null :: st) := fun H locs ls hP hS hl => lv_astore_nN C.1 C.2.1 hdg hi hl hn h (fun ls' hl' => q H locs ls' hP hS hl')
theorem iv_aload_nN (C : iw_C p R s m args c cc nL Ts own G A cells slots) (j : Nat) {k : Fin 4} {i : Nat} (hdg : decode cc pc = .ok (.aload_n k, 1)) (hi : (k : Nat) = i) (h : lv[j]? = some (i, .null)) (q : iw_V p l e R s m args below meth c cells slots Q nL G A σ (pc + 1) lv (.null :: st)) : iw_V p l e R s m args below meth c cells slots Q nL G A σ pc lv st := fun H locs ls hP hS hl => lv_aload_nN C.1 C.2.1 hdg hi (lv_at hl j h) (q H locs ls hP hS hl)
theorem iv_iinc (C : iw_C p R s m args c cc nL Ts own G A cells slots) (j : Nat) (v : Int32) (lv' : List (Nat × Value)) {i : Nat} {n : Int} {x : Int32} (hdg : decode cc pc = .ok (.iinc i n, 3)) (hk : lv[j]? = some (i, .int x)) (hv : x + Int32.ofInt n = v) (hn : i < nL) (h : (i, Value.int v) :: lv.filter (fun q => !(q.1 == i) && !(q.1 + 1 == i && q.2.category == 2)) = lv') (q : iw_V p l e R s m args below meth c cells slots Q nL G A σ (pc + 3) lv' st) : iw_V p l e R s m args below meth c cells slots Q nL G A σ pc lv st := fun H locs ls hP hS hl => lv_iinc C.1 C.2.1 hdg hl hk hv hn h (fun ls' hl' => q H locs ls' hP hS hl')
theorem iv_iadd (C : iw_C p R s m args c cc nL Ts own G A cells slots) {x y : Int32} (hdg : decode cc pc = .ok (.iadd, 1)) (q : iw_V p l e R s m args below meth c cells slots Q nL G A σ (pc + 1) lv (.int (x + y) :: st)) : iw_V p l e R s m args below meth c cells slots Q nL G A σ pc lv (.int y :: .int x :: st) := fun H locs ls hP hS hl => lv_iadd C.1 C.2.1 hdg (q H locs ls hP hS hl)
theorem iv_isub (C : iw_C p R s m args c cc nL Ts own G A cells slots) {x y : Int32} (hdg : decode cc pc = .ok (.isub, 1)) (q : iw_V p l e R s m args below meth c cells slots Q nL G A σ (pc + 1) lv (.int (x - y) :: st)) : iw_V p l e R s m args below meth c cells slots Q nL G A σ pc lv (.int y :: .int x :: st) := fun H locs ls hP hS hl => lv_isub C.1 C.2.1 hdg (q H locs ls hP hS hl)
theorem iv_imul (C : iw_C p R s m args c cc nL Ts own G A cells slots) {x y : Int32} (hdg : decode cc pc = .ok (.imul, 1)) (q : iw_V p l e R s m args below meth c cells slots Q nL G A σ (pc + 1) lv (.int (x * y) :: st)) : iw_V p l e R s m args below meth c cells slots Q nL G A σ pc lv (.int y :: .int x :: st) := fun H locs ls hP hS hl => lv_imul C.1 C.2.1 hdg (q H locs ls hP hS hl)
theorem iv_iand (C : iw_C p R s m args c cc nL Ts own G A cells slots) {x y : Int32} (hdg : decode cc pc = .ok (.iand, 1)) (q : iw_V p l e R s m args below meth c cells slots Q nL G A σ (pc + 1) lv (.int (x &&& y) :: st)) : iw_V p l e R s m args below meth c cells slots Q nL G A σ pc lv (.int y :: .int x :: st) := fun H locs ls hP hS hl => lv_iand C.1 C.2.1 hdg (q H locs ls hP hS hl)
theorem iv_ior (C : iw_C p R s m args c cc nL Ts own G A cells slots) {x y : Int32} (hdg : decode cc pc = .ok (.ior, 1)) (q : iw_V p l e R s m args below meth c cells slots Q nL G A σ (pc + 1) lv (.int (x ||| y) :: st)) : iw_V p l e R s m args below meth c cells slots Q nL G A σ pc lv (.int y :: .int x :: st) := fun H locs ls hP hS hl => lv_ior C.1 C.2.1 hdg (q H locs ls hP hS hl)
theorem iv_ishl (C : iw_C p R s m args c cc nL Ts own G A cells slots) {x y : Int32} (hdg : decode cc pc = .ok (.ishl, 1)) (q : iw_V p l e R s m args below meth c cells slots Q nL G A σ (pc + 1) lv (.int (x <<< (y &&& 31)) :: st)) : iw_V p l e R s m args below meth c cells slots Q nL G A σ pc lv (.int y :: .int x :: st) := fun H locs ls hP hS hl => lv_ishl C.1 C.2.1 hdg (q H locs ls hP hS hl)
theorem iv_ishr (C : iw_C p R s m args c cc nL Ts own G A cells slots) {x y : Int32} (hdg : decode cc pc = .ok (.ishr, 1)) (q : iw_V p l e R s m args below meth c cells slots Q nL G A σ (pc + 1) lv (.int (x >>> (y &&& 31)) :: st)) : iw_V p l e R s m args below meth c cells slots Q nL G A σ pc lv (.int y :: .int x :: st) := fun H locs ls hP hS hl => lv_ishr C.1 C.2.1 hdg (q H locs ls hP hS hl)
theorem iv_iushr (C : iw_C p R s m args c cc nL Ts own G A cells slots) {x y : Int32} (hdg : decode cc pc = .ok (.iushr, 1)) (q : iw_V p l e R s m args below meth c cells slots Q nL G A σ (pc + 1) lv (.int (x.toUInt32 >>> (y.toUInt32 &&& Int32.toUInt32 31)).toInt32 :: st)) : iw_V p l e R s m args below meth c cells slots Q nL G A σ pc lv (.int y :: .int x :: st) := fun H locs ls hP hS hl => lv_iushr C.1 C.2.1 hdg rfl (q H locs ls hP hS hl)
theorem iv_ineg (C : iw_C p R s m args c cc nL Ts own G A cells slots) {x : Int32} (hdg : decode cc pc = .ok (.ineg, 1)) (q : iw_V p l e R s m args below meth c cells slots Q nL G A σ (pc + 1) lv (.int (-x) :: st)) : iw_V p l e R s m args below meth c cells slots Q nL G A σ pc lv (.int x :: st) := fun H locs ls hP hS hl => lv_ineg C.1 C.2.1 hdg (q H locs ls hP hS hl)
theorem iv_irem (C : iw_C p R s m args c cc nL Ts own G A cells slots) {x y : Int32} (hne : ¬ y = 0) (hdg : decode cc pc = .ok (.irem, 1)) (q : iw_V p l e R s m args below meth c cells slots Q nL G A σ (pc + 1) lv (.int (x - x / y * y) :: st)) : iw_V p l e R s m args below meth c cells slots Q nL G A σ pc lv (.int y :: .int x :: st) := fun H locs ls hP hS hl => lv_irem C.1 C.2.1 hdg hne (q H locs ls hP hS hl)
theorem iv_ladd (C : iw_C p R s m args c cc nL Ts own G A cells slots) {x y : Int64} (hdg : decode cc pc = .ok (.ladd, 1)) (q : iw_V p l e R s m args below meth c cells slots Q nL G A σ (pc + 1) lv (.long (x + y) :: st)) : iw_V p l e R s m args below meth c cells slots Q nL G A σ pc lv (.long y :: .long x :: st) := fun H locs ls hP hS hl => lv_ladd C.1 C.2.1 hdg (q H locs ls hP hS hl)
theorem iv_lmul (C : iw_C p R s m args c cc nL Ts own G A cells slots) {x y : Int64} (hdg : decode cc pc = .ok (.lmul, 1)) (q : iw_V p l e R s m args below meth c cells slots Q nL G A σ (pc + 1) lv (.long (x * y) :: st)) : iw_V p l e R s m args below meth c cells slots Q nL G A σ pc lv (.long y :: .long x :: st) := fun H locs ls hP hS hl => lv_lmul C.1 C.2.1 hdg (q H locs ls hP hS hl)
theorem iv_i2l (C : iw_C p R s m args c cc nL Ts own G A cells slots) {x : Int32} (hdg : decode cc pc = .ok (.i2l, 1)) (q : iw_V p l e R s m args below meth c cells slots Q nL G A σ (pc + 1) lv (.long x.toInt64 :: st)) : iw_V p l e R s m args below meth c cells slots Q nL G A σ pc lv (.int x :: st) := fun H locs ls hP hS hl => lv_i2l C.1 C.2.1 hdg rfl (q H locs ls hP hS hl)
theorem iv_dup (C : iw_C p R s m args c cc nL Ts own G A cells slots) {va : Value} (hva : va.category = 1) (hdg : decode cc pc = .ok (.dup, 1)) (q : iw_V p l e R s m args below meth c cells slots Q nL G A σ (pc + 1) lv (va :: va :: st)) : iw_V p l e R s m args below meth c cells slots Q nL G A σ pc lv (va :: st) := fun H locs ls hP hS hl => lv_dup C.1 C.2.1 hdg hva (q H locs ls hP hS hl)
theorem iv_pop (C : iw_C p R s m args c cc nL Ts own G A cells slots) {va : Value} (hva : va.category = 1) (hdg : decode cc pc = .ok (.pop, 1)) (q : iw_V p l e R s m args below meth c cells slots Q nL G A σ (pc + 1) lv st) : iw_V p l e R s m args below meth c cells slots Q nL G A σ pc lv (va :: st) := fun H locs ls hP hS hl => lv_pop C.1 C.2.1 hdg hva (q H locs ls hP hS hl)
theorem iv_dup2 (C : iw_C p R s m args c cc nL Ts own G A cells slots) {va vb : Value} (hva : va.category = 1) (hvb : vb.category = 1) (hdg : decode cc pc = .ok (.dup2, 1)) (q : iw_V p l e R s m args below meth c cells slots Q nL G A σ (pc + 1) lv (va :: vb :: va :: vb :: st)) : iw_V p l e R s m args below meth c cells slots Q nL G A σ pc lv (va :: vb :: st) := fun H locs ls hP hS hl => lv_dup2_11 C.1 C.2.1 hdg hva hvb (q H locs ls hP hS hl)
theorem iv_if_eq (C : iw_C p R s m args c cc nL Ts own G A cells slots) (tgt : Nat) {x : Int32} {off : Int} (hdg : decode cc pc = .ok (.ifCond .eq off, 3)) (ht : (pc : Int) + off = (tgt : Int)) (kt : x = 0 → iw_V p l e R s m args below meth c cells slots Q nL G A σ tgt lv st) (kf : ¬ x = 0 → iw_V p l e R s m args below meth c cells slots Q nL G A σ (pc + 3) lv st) : iw_V p l e R s m args below meth c cells slots Q nL G A σ pc lv (.int x :: st) := fun H locs ls hP hS hl => lv_if_eq C.1 C.2.1 hdg ht (fun h => kt h H locs ls hP hS hl) (fun h => kf h H locs ls hP hS hl)
theorem iv_icmp_eq (C : iw_C p R s m args c cc nL Ts own G A cells slots) (tgt : Nat) {x y : Int32} {off : Int} (hdg : decode cc pc = .ok (.if_icmp .eq off, 3)) (ht : (pc : Int) + off = (tgt : Int)) (kt : x = y → iw_V p l e R s m args below meth c cells slots Q nL G A σ tgt lv st) (kf : ¬ x = y → iw_V p l e R s m args below meth c cells slots Q nL G A σ (pc + 3) lv st) : iw_V p l e R s m args below meth c cells slots Q nL G A σ pc lv (.int y :: .int x :: st) := fun H locs ls hP hS hl => lv_icmp_eq C.1 C.2.1 hdg ht (fun h => kt h H locs ls hP hS hl) (fun h => kf h H locs ls hP hS hl)
theorem iv_if_ne (C : iw_C p R s m args c cc nL Ts own G A cells slots) (tgt : Nat) {x : Int32} {off : Int} (hdg : decode cc pc = .ok (.ifCond .ne off, 3)) (ht : (pc : Int) + off = (tgt : Int)) (kt : ¬ x = 0 → iw_V p l e R s m args below meth c cells slots Q nL G A σ tgt lv st) (kf : x = 0 → iw_V p l e R s m args below meth c cells slots Q nL G A σ (pc + 3) lv st) : iw_V p l e R s m args below meth c cells slots Q nL G A σ pc lv (.int x :: st) := fun H locs ls hP hS hl => lv_if_ne C.1 C.2.1 hdg ht (fun h => kt h H locs ls hP hS hl) (fun h => kf h H locs ls hP hS hl)
theorem iv_icmp_ne (C : iw_C p R s m args c cc nL Ts own G A cells slots) (tgt : Nat) {x y : Int32} {off : Int} (hdg : decode cc pc = .ok (.if_icmp .ne off, 3)) (ht : (pc : Int) + off = (tgt : Int)) (kt : ¬ x = y → iw_V p l e R s m args below meth c cells slots Q nL G A σ tgt lv st) (kf : x = y → iw_V p l e R s m args below meth c cells slots Q nL G A σ (pc + 3) lv st) : iw_V p l e R s m args below meth c cells slots Q nL G A σ pc lv (.int y :: .int x :: st) := fun H locs ls hP hS hl => lv_icmp_ne C.1 C.2.1 hdg ht (fun h => kt h H locs ls hP hS hl) (fun h => kf h H locs ls hP hS hl)
theorem iv_if_lt (C : iw_C p R s m args c cc nL Ts own G A cells slots) (tgt : Nat) {x : Int32} {off : Int} (hdg : decode cc pc = .ok (.ifCond .lt off, 3)) (ht : (pc : Int) + off = (tgt : Int)) (kt : x < 0 → iw_V p l e R s m args below meth c cells slots Q nL G A σ tgt lv st) (kf : ¬ x < 0 → iw_V p l e R s m args below meth c cells slots Q nL G A σ (pc + 3) lv st) : iw_V p l e R s m args below meth c cells slots Q nL G A σ pc lv (.int x :: st) := fun H locs ls hP hS hl => lv_if_lt C.1 C.2.1 hdg ht (fun h => kt h H locs ls hP hS hl) (fun h => kf h H locs ls hP hS hl)
theorem iv_icmp_lt (C : iw_C p R s m args c cc nL Ts own G A cells slots) (tgt : Nat) {x y : Int32} {off : Int} (hdg : decode cc pc = .ok (.if_icmp .lt off, 3)) (ht : (pc : Int) + off = (tgt : Int)) (kt : x < y → iw_V p l e R s m args below meth c cells slots Q nL G A σ tgt lv st) (kf : ¬ x < y → iw_V p l e R s m args below meth c cells slots Q nL G A σ (pc + 3) lv st) : iw_V p l e R s m args below meth c cells slots Q nL G A σ pc lv (.int y :: .int x :: st) := fun H locs ls hP hS hl => lv_icmp_lt C.1 C.2.1 hdg ht (fun h => kt h H locs ls hP hS hl) (fun h => kf h H locs ls hP hS hl)
theorem iv_if_ge (C : iw_C p R s m args c cc nL Ts own G A cells slots) (tgt : Nat) {x : Int32} {off : Int} (hdg : decode cc pc = .ok (.ifCond .ge off, 3)) (ht : (pc : Int) + off = (tgt : Int)) (kt : 0 ≤ x → iw_V p l e R s m args below meth c cells slots Q nL G A σ tgt lv st) (kf : ¬ 0 ≤ x → iw_V p l e R s m args below meth c cells slots Q nL G A σ (pc + 3) lv st) : iw_V p l e R s m args below meth c cells slots Q nL G A σ pc lv (.int x :: st) := fun H locs ls hP hS hl => lv_if_ge C.1 C.2.1 hdg ht (fun h => kt h H locs ls hP hS hl) (fun h => kf h H locs ls hP hS hl)
theorem iv_icmp_ge (C : iw_C p R s m args c cc nL Ts own G A cells slots) (tgt : Nat) {x y : Int32} {off : Int} (hdg : decode cc pc = .ok (.if_icmp .ge off, 3)) (ht : (pc : Int) + off = (tgt : Int)) (kt : y ≤ x → iw_V p l e R s m args below meth c cells slots Q nL G A σ tgt lv st) (kf : ¬ y ≤ x → iw_V p l e R s m args below meth c cells slots Q nL G A σ (pc + 3) lv st) : iw_V p l e R s m args below meth c cells slots Q nL G A σ pc lv (.int y :: .int x :: st) := fun H locs ls hP hS hl => lv_icmp_ge C.1 C.2.1 hdg ht (fun h => kt h H locs ls hP hS hl) (fun h => kf h H locs ls hP hS hl)
theorem iv_if_gt (C : iw_C p R s m args c cc nL Ts own G A cells slots) (tgt : Nat) {x : Int32} {off : Int} (hdg : decode cc pc = .ok (.ifCond .gt off, 3)) (ht : (pc : Int) + off = (tgt : Int)) (kt : 0 < x → iw_V p l e R s m args below meth c cells slots Q nL G A σ tgt lv st) (kf : ¬ 0 < x → iw_V p l e R s m args below meth c cells slots Q nL G A σ (pc + 3) lv st) : iw_V p l e R s m args below meth c cells slots Q nL G A σ pc lv (.int x :: st) := fun H locs ls hP hS hl => lv_if_gt C.1 C.2.1 hdg ht (fun h => kt h H locs ls hP hS hl) (fun h => kf h H locs ls hP hS hl)
theorem iv_icmp_gt (C : iw_C p R s m args c cc nL Ts own G A cells slots) (tgt : Nat) {x y : Int32} {off : Int} (hdg : decode cc pc = .ok (.if_icmp .gt off, 3)) (ht : (pc : Int) + off = (tgt : Int)) (kt : y < x → iw_V p l e R s m args below meth c cells slots Q nL G A σ tgt lv st) (kf : ¬ y < x → iw_V p l e R s m args below meth c cells slots Q nL G A σ (pc + 3) lv st) : iw_V p l e R s m args below meth c cells slots Q nL G A σ pc lv (.int y :: .int x :: st) := fun H locs ls hP hS hl => lv_icmp_gt C.1 C.2.1 hdg ht (fun h => kt h H locs ls hP hS hl) (fun h => kf h H locs ls hP hS hl)
theorem iv_if_le (C : iw_C p R s m args c cc nL Ts own G A cells slots) (tgt : Nat) {x : Int32} {off : Int} (hdg : decode cc pc = .ok (.ifCond .le off, 3)) (ht : (pc : Int) + off = (tgt : Int)) (kt : x ≤ 0 → iw_V p l e R s m args below meth c cells slots Q nL G A σ tgt lv st) (kf : ¬ x ≤ 0 → iw_V p l e R s m args below meth c cells slots Q nL G A σ (pc + 3) lv st) : iw_V p l e R s m args below meth c cells slots Q nL G A σ pc lv (.int x :: st) := fun H locs ls hP hS hl => lv_if_le C.1 C.2.1 hdg ht (fun h => kt h H locs ls hP hS hl) (fun h => kf h H locs ls hP hS hl)
theorem iv_icmp_le (C : iw_C p R s m args c cc nL Ts own G A cells slots) (tgt : Nat) {x y : Int32} {off : Int} (hdg : decode cc pc = .ok (.if_icmp .le off, 3)) (ht : (pc : Int) + off = (tgt : Int)) (kt : x ≤ y → iw_V p l e R s m args below meth c cells slots Q nL G A σ tgt lv st) (kf : ¬ x ≤ y → iw_V p l e R s m args below meth c cells slots Q nL G A σ (pc + 3) lv st) : iw_V p l e R s m args below meth c cells slots Q nL G A σ pc lv (.int y :: .int x :: st) := fun H locs ls hP hS hl => lv_icmp_le C.1 C.2.1 hdg ht (fun h => kt h H locs ls hP hS hl) (fun h => kf h H locs ls hP hS hl)
theorem iv_goto (C : iw_C p R s m args c cc nL Ts own G A cells slots) (tgt : Nat) {off : Int} (hdg : decode cc pc = .ok (.goto off, 3)) (ht : (pc : Int) + off = (tgt : Int)) (q : iw_V p l e R s m args below meth c cells slots Q nL G A σ tgt lv st) : iw_V p l e R s m args below meth c cells slots Q nL G A σ pc lv st := fun H locs ls hP hS hl => lv_goto C.1 C.2.1 hdg ht (q H locs ls hP hS hl)
theorem iv_ifnonnull (C : iw_C p R s m args c cc nL Ts own G A cells slots) (tgt : Nat) {x : Nat} {off : Int} (hdg : decode cc pc = .ok (.ifnonnull off, 3)) (ht : (pc : Int) + off = (tgt : Int)) (q : iw_V p l e R s m args below meth c cells slots Q nL G A σ tgt lv st) : iw_V p l e R s m args below meth c cells slots Q nL G A σ pc lv (.ref x :: st) := fun H locs ls hP hS hl => lv_ifnonnull C.1 C.2.1 hdg ht (q H locs ls hP hS hl)
theorem iv_ifnonnullN (C : iw_C p R s m args c cc nL Ts own G A cells slots) {off : Int} (hdg : decode cc pc = .ok (.ifnonnull off, 3)) (q : iw_V p l e R s m args below meth c cells slots Q nL G A σ (pc + 3) lv st) : iw_V p l e R s m args below meth c cells slots Q nL G A σ pc lv (.null :: st) := fun H locs ls hP hS hl => lv_ifnonnullN C.1 C.2.1 hdg (q H locs ls hP hS hl)
theorem iv_ifnull (C : iw_C p R s m args c cc nL Ts own G A cells slots) {x : Nat} {off : Int} (hdg : decode cc pc = .ok (.ifnull off, 3)) (q : iw_V p l e R s m args below meth c cells slots Q nL G A σ (pc + 3) lv st) : iw_V p l e R s m args below meth c cells slots Q nL G A σ pc lv (.ref x :: st) := fun H locs ls hP hS hl => lv_ifnull C.1 C.2.1 hdg (q H locs ls hP hS hl)
theorem iv_ifnullN (C : iw_C p R s m args c cc nL Ts own G A cells slots) (tgt : Nat) {off : Int} (hdg : decode cc pc = .ok (.ifnull off, 3)) (ht : (pc : Int) + off = (tgt : Int)) (q : iw_V p l e R s m args below meth c cells slots Q nL G A σ tgt lv st) : iw_V p l e R s m args below meth c cells slots Q nL G A σ pc lv (.null :: st) := fun H locs ls hP hS hl => lv_ifnullN C.1 C.2.1 hdg ht (q H locs ls hP hS hl)
theorem iv_sub (ks : List Nat) {lv' : List (Nat × Value)} (h : lv_pick lv ks = lv') (q : iw_V p l e R s m args below meth c cells slots Q nL G A σ pc lv' st) : iw_V p l e R s m args below meth c cells slots Q nL G A σ pc lv st := fun H locs ls hP hS hl => q H locs ls hP hS (lv_sub hl ks h)
theorem iv_topi {x : Int32} (q : ∀ y : Int32, y = x → iw_V p l e R s m args below meth c cells slots Q nL G A σ pc lv (.int y :: st)) : iw_V p l e R s m args below meth c cells slots Q nL G A σ pc lv (.int x :: st) := q x rfl
theorem iv_topl {x : Int64} (q : ∀ y : Int64, y = x → iw_V p l e R s m args below meth c cells slots Q nL G A σ pc lv (.long y :: st)) : iw_V p l e R s m args below meth c cells slots Q nL G A σ pc lv (.long x :: st) := q x rfl
theorem iv_getf (C : iw_C p R s m args c cc nL Ts own G A cells slots) {Cn ref : String} {T : u_T} {N ci index : Nat} {fs : List Value} (a : Nat) (k : Nat) {v : Value} (hin : ∀ w ∈ u_ws Cn T N, w ∈ Ts) (ha : a < 93) (he : iw_E G σ a = .inr (ci, fs)) (hc : vwCl[ci]? = some (Cn, T, N)) (hk : k < N) (hlink : Cond.fieldLink own index ref (T k).2.1 (T k).2.2.1 ∈ Ts) (href : (T k).1 = ref) (hv : fs[k]? = some v) (hdg : decode cc pc = .ok (.getfield index, 3)) (q : iw_V p l e R s m args below meth c cells slots Q nL G A σ (pc + 3) lv (v :: st)) : iw_V p l e R s m args below meth c cells slots Q nL G A σ pc lv (.ref (G.2.1 a) :: st) := fun H locs ls hP hS hl =>
  va_get C.1 C.2.1 C.2.2.2.2.1 hin C.2.2.2.1 C.K.1 hP a (by rw [iw_at ha, he]) hc k hk (C.2.2.2.2.1 _ hlink) (fun x h => by rw [← href]; exact h) hv hdg (q H locs ls hP hS hl)
theorem iv_getfN (C : iw_C p R s m args c cc nL Ts own G A cells slots) {Cn ref : String} {T : u_T} {N ci index : Nat} {fs : List Value} (a : Nat) (k : Nat) {v : Value} (hin : ∀ w ∈ u_ws Cn T N, w ∈ Ts) (ha : a < 93) (he : iw_E G σ a = .inr (ci, fs)) (hc : vwCl[ci]? = some (Cn, T, N)) (hk : k < N) (hlink : (own, index, ref, (T k).2.1, (T k).2.2.1) ∈ iw_nf) (href : (T k).1 = ref) (hv : fs[k]? = some v) (hdg : decode cc pc = .ok (.getfield index, 3)) (q : iw_V p l e R s m args below meth c cells slots Q nL G A σ (pc + 3) lv (v :: st)) : iw_V p l e R s m args below meth c cells slots Q nL G A σ pc lv (.ref (G.2.1 a) :: st) := fun H locs ls hP hS hl =>
  va_getN (host := "InterestNet") C.1 C.2.1 C.2.2.2.2.1 hin C.2.2.2.1 C.K.1 hP a (by rw [iw_at ha, he]) hc k hk (va_Nw.use rfl (C.K.2.2 _ hlink)) (fun x h => by rw [← href]; exact h) hv hdg (q H locs ls hP hS hl)
theorem iv_putf (C : iw_C p R s m args c cc nL Ts own G A cells slots) {Cn ref : String} {T : u_T} {N ci index : Nat} {fs : List Value} {ty0 : Nat → FieldType} {ty : FieldType} (a : Nat) (k : Nat) {v : Value} (σ' : iw_M) (hin : ∀ w ∈ u_ws Cn T N, w ∈ Ts) (ha : a < 93) (he : iw_E G σ a = .inr (ci, fs)) (hty : ∀ k, k < N → parseFieldDescriptor (T k).2.2.1 = some (ty0 k)) (hnm : ∀ a, a < N → ∀ b, b < N → a ≠ b → (T a).2.1 ≠ (T b).2.1) (hc : vwCl[ci]? = some (Cn, T, N)) (hk : k < N) (hlink : Cond.fieldLink own index ref (T k).2.1 (T k).2.2.1 ∈ Ts) (href : (T k).1 = ref) (hfin : (T k).2.2.2 = false) (hd : parseFieldDescriptor (T k).2.2.1 = some ty) (hn : narrow ty v = v) (hfit : fits ty v = true) (hl : k < fs.length) (he' : iw_E G σ' a = .inr (ci, fs.set k v)) (hne : ∀ b, b ≠ a → σ' b = σ b) (hdg : decode cc pc = .ok (.putfield index, 3)) (q : iw_V p l e R s m args below meth c cells slots Q nL G A σ' (pc + 3) lv st) : iw_V p l e R s m args below meth c cells slots Q nL G A σ pc lv (v :: .ref (G.2.1 a) :: st) := fun H locs ls hP hS hls =>
  va_put C.1 C.2.1 C.2.2.2.2.1 hin ty0 hty hnm C.2.2.2.1 C.K.1 hP C.D hS a (by rw [iw_at ha, he]) hc k hk (C.2.2.2.2.1 _ hlink) (fun x h => by rw [← href]; exact h) hfin hd hn hfit hl hdg (fun H1 locs1 hP1 _ hS1 => q H1 locs1 ls (by rw [iw_set he' hne] at hP1; exact hP1) hS1 hls)
theorem iv_putfN (C : iw_C p R s m args c cc nL Ts own G A cells slots) {Cn ref : String} {T : u_T} {N ci index : Nat} {fs : List Value} {ty0 : Nat → FieldType} {ty : FieldType} (a : Nat) (k : Nat) {v : Value} (σ' : iw_M) (hin : ∀ w ∈ u_ws Cn T N, w ∈ Ts) (ha : a < 93) (he : iw_E G σ a = .inr (ci, fs)) (hty : ∀ k, k < N → parseFieldDescriptor (T k).2.2.1 = some (ty0 k)) (hnm : ∀ a, a < N → ∀ b, b < N → a ≠ b → (T a).2.1 ≠ (T b).2.1) (hc : vwCl[ci]? = some (Cn, T, N)) (hk : k < N) (hlink : (own, index, ref, (T k).2.1, (T k).2.2.1) ∈ iw_nf) (href : (T k).1 = ref) (hfin : (T k).2.2.2 = false) (hd : parseFieldDescriptor (T k).2.2.1 = some ty) (hn : narrow ty v = v) (hfit : fits ty v = true) (hl : k < fs.length) (he' : iw_E G σ' a = .inr (ci, fs.set k v)) (hne : ∀ b, b ≠ a → σ' b = σ b) (hdg : decode cc pc = .ok (.putfield index, 3)) (q : iw_V p l e R s m args below meth c cells slots Q nL G A σ' (pc + 3) lv st) : iw_V p l e R s m args below meth c cells slots Q nL G A σ pc lv (v :: .ref (G.2.1 a) :: st) := fun H locs ls hP hS hls =>
  va_putN (host := "InterestNet") C.1 C.2.1 C.2.2.2.2.1 hin ty0 hty hnm C.2.2.2.1 C.K.1 hP C.D hS a (by rw [iw_at ha, he]) hc k hk (va_Nw.use rfl (C.K.2.2 _ hlink)) (fun x h => by rw [← href]; exact h) hfin hd hn hfit hl hdg (fun H1 locs1 hP1 _ hS1 => q H1 locs1 ls (by rw [iw_set he' hne] at hP1; exact hP1) hS1 hls)
theorem iv_iald (C : iw_C p R s m args c cc nL Ts own G A cells slots) (a : Nat) (ha : a < 93) (h7 : iw_kd a = 7) {i : Int32} (hin : vp_in i (iw_al a)) (hdg : decode cc pc = .ok (.iaload, 1)) (q : iw_V p l e R s m args below meth c cells slots Q nL G A σ (pc + 1) lv (.int (σ a i.toNatClampNeg) :: st)) : iw_V p l e R s m args below meth c cells slots Q nL G A σ pc lv (.int i :: .ref (G.2.1 a) :: st) := fun H locs ls hP hS hl =>
  va_iald C.1 C.2.1 C.K.1 hP a 0 (by rw [iw_at ha, iw_E7 h7]) rfl hin hdg (q H locs ls hP hS hl)
theorem iv_zald (C : iw_C p R s m args c cc nL Ts own G A cells slots) (a : Nat) (ha : a < 93) (h8 : iw_kd a = 8) {i : Int32} (hin : vp_in i (iw_al a)) (hdg : decode cc pc = .ok (.baload, 1)) (q : iw_V p l e R s m args below meth c cells slots Q nL G A σ (pc + 1) lv (.int (σ a i.toNatClampNeg) :: st)) : iw_V p l e R s m args below meth c cells slots Q nL G A σ pc lv (.int i :: .ref (G.2.1 a) :: st) := fun H locs ls hP hS hl =>
  va_zald C.1 C.2.1 C.K.1 hP a 1 (by rw [iw_at ha, iw_E8 h8]) rfl hin hdg (q H locs ls hP hS hl)
theorem iv_iast (C : iw_C p R s m args c cc nL Ts own G A cells slots) (a : Nat) (ha : a < 93) (h7 : iw_kd a = 7) {i x : Int32} (hin : vp_in i (iw_al a)) (hdg : decode cc pc = .ok (.iastore, 1)) (q : iw_V p l e R s m args below meth c cells slots Q nL G A (iw_up σ a i.toNatClampNeg x) (pc + 1) lv st) : iw_V p l e R s m args below meth c cells slots Q nL G A σ pc lv (.int x :: .int i :: .ref (G.2.1 a) :: st) := fun H locs ls hP hS hl =>
  va_iast C.1 C.2.1 C.K.1 hP C.D hS a 0 (by rw [iw_at ha, iw_E7 h7]) rfl hin hdg (fun H1 locs1 hP1 _ hS1 => q H1 locs1 ls (by rw [iw_set (σ' := iw_up σ a i.toNatClampNeg x) (by rw [iw_E7 h7, iw_up_eq]) (fun b hb => iw_up_ne hb)] at hP1; exact hP1) hS1 hl)
theorem iv_zast (C : iw_C p R s m args c cc nL Ts own G A cells slots) (a : Nat) (ha : a < 93) (h8 : iw_kd a = 8) {i x : Int32} (hin : vp_in i (iw_al a)) (hdg : decode cc pc = .ok (.bastore, 1)) (q : iw_V p l e R s m args below meth c cells slots Q nL G A (iw_up σ a i.toNatClampNeg (vp_nar .boolean x)) (pc + 1) lv st) : iw_V p l e R s m args below meth c cells slots Q nL G A σ pc lv (.int x :: .int i :: .ref (G.2.1 a) :: st) := fun H locs ls hP hS hl =>
  va_zast C.1 C.2.1 C.K.1 hP C.D hS a 1 (by rw [iw_at ha, iw_E8 h8]) rfl hin hdg (fun H1 locs1 hP1 _ hS1 => q H1 locs1 ls (by rw [iw_set (σ' := iw_up σ a i.toNatClampNeg (vp_nar .boolean x)) (by rw [iw_E8 h8, iw_up_eq]) (fun b hb => iw_up_ne hb)] at hP1; exact hP1) hS1 hl)
theorem iv_alen (C : iw_C p R s m args c cc nL Ts own G A cells slots) (a : Nat) (ha : a < 93) (h7 : iw_kd a = 7) (hdg : decode cc pc = .ok (.arraylength, 1)) (q : iw_V p l e R s m args below meth c cells slots Q nL G A σ (pc + 1) lv (.int (nI (iw_al a)) :: st)) : iw_V p l e R s m args below meth c cells slots Q nL G A σ pc lv (.ref (G.2.1 a) :: st) := fun H locs ls hP hS hl =>
  va_alen (x := (iw_al a, .inl (σ a))) C.1 C.2.1 C.K.1 hP a 0 (by rw [iw_at ha, iw_E7 h7]) rfl rfl hdg (q H locs ls hP hS hl)
theorem iv_alen9 (C : iw_C p R s m args c cc nL Ts own G A cells slots) (hdg : decode cc pc = .ok (.arraylength, 1)) (q : iw_V p l e R s m args below meth c cells slots Q nL G A σ (pc + 1) lv (.int 5 :: st)) : iw_V p l e R s m args below meth c cells slots Q nL G A σ pc lv (.ref (G.2.1 5) :: st) := fun H locs ls hP hS hl =>
  va_alen (x := (5, .inr (.inr (.inr (.inr (fun j => some (G.2.1 (44 + 8 * j)))))))) C.1 C.2.1 C.K.1 hP 5 2 (by rw [iw_at (by decide)]; rfl) rfl rfl hdg (q H locs ls hP hS hl)
theorem iv_aald (C : iw_C p R s m args c cc nL Ts own G A cells slots) {i : Int32} (hin : vp_in i 5) (hdg : decode cc pc = .ok (.aaload, 1)) (q : iw_V p l e R s m args below meth c cells slots Q nL G A σ (pc + 1) lv (.ref (G.2.1 (44 + 8 * i.toNatClampNeg)) :: st)) : iw_V p l e R s m args below meth c cells slots Q nL G A σ pc lv (.int i :: .ref (G.2.1 5) :: st) := fun H locs ls hP hS hl =>
  va_aldq (n := 5) (f := fun j => some (G.2.1 (44 + 8 * j))) C.1 C.2.1 C.K.1 hP 5 2 (by rw [iw_at (by decide)]; rfl) rfl hin hdg (q H locs ls hP hS hl)
theorem iv_call (C : iw_C p R s m args c cc nL Ts own G A cells slots) {as : List Value} {v : Option Value} {σ' : iw_M} {st0 : List Value} (hr : ∀ (H : Heap) (locs : List Loc) (ls : Array Slot), va_P G.1 vwCl (iw_wl G σ) H → va_S A s.heap H locs → lv_has ls nL lv → va_Run p l e R s m args below meth c H locs cells slots 0 0 (F0 m pc ls st0) st (iw_Q v G σ' as.toArray) (iw_A G)) (q : iw_V p l e R s m args below meth c cells slots Q nL G A σ' (pc + 3) lv (v.toList ++ st)) : iw_V p l e R s m args below meth c cells slots Q nL G A σ pc lv st0 := by
  intro H locs ls hP hS hl T hT X
  obtain ⟨v1, st₀, t, T', L, h0, X', hL, e1, e2, ⟨hv, hw, hz, hk⟩, hst⟩ := hr H locs ls hP hS hl T hT X
  have hv : v1 = v := by injection hv
  subst hv
  rw [h0] at hz hk
  have hA : ∀ q, iw_A G q → A q := fun q ⟨a, h1, h2⟩ => by rw [h2]; exact C.2.2.2.2.2.2.2.1 a h1
  obtain ⟨t2, a1, b1⟩ := q T'.heap (locs ++ L) ls (by rw [e1]; exact hw.1)
    ⟨Nat.le_trans hS.1 (by rw [e1]; exact hz), fun q h1 h2 => by rw [e1, hk q (Nat.lt_of_lt_of_le h1 hS.1) (fun z => h2 (hA q z))]; exact hS.2.1 q h1 h2, fun q hq => by
      rcases List.mem_append.mp hq with h | h
      · exact hS.2.2 q h
      · exact hA _ (hL q h)⟩ hl T' rfl X'
  exact ⟨t2, hst t2 a1, b1⟩
theorem iw_blind {as : List Value} : FrameBlind (va_Pc as (iw_Wd G σ)) := fun _ _ _ _ q => ⟨q.1, q.2.1, iw_K.same rfl q.2.2⟩
theorem iv_callV (C : iw_C p R s m args c cc nL Ts own G A cells slots) {y : MethodName} {ws ws' : List Cond} {rm : Room} {Cn : String} {T : u_T} {N ci maxL index n b : Nat} {ret : Option FieldType} {bytes : ByteArray} {fs : List Value} (As : List Value) {v : Option Value} {σ' : iw_M} {st0 : List Value} (hM : iw_Ct l y ws rm G (.ref (G.2.1 b) :: As) σ v σ') (hG : GoodIn Ts (wsV own index Cn y ws)) (hw : ws = Cond.code y bytes maxL ret :: ws') (hd : y.cls = Cn ∧ y.cls ≠ "java/lang/invoke/MethodHandle" ∧ y.cls ≠ "java/lang/invoke/VarHandle" ∧ (parseMethodDescriptor y.desc).map (fun d => d.parameters.length) = some n) (hrm : rm.cells = 0 ∧ rm.slots = 0 ∧ rm.frames + 1 ≤ R.frames ∧ 8 + (maxL + 11) + rm.locals ≤ R.locals) (hb : b < 93) (he : iw_E G σ b = .inr (ci, fs)) (hc : vwCl[ci]? = some (Cn, T, N)) (hn : As.length = n) (hst : st0 = As.reverse ++ .ref (G.2.1 b) :: st) (hcat : (st.map fun v => v.category).sum ≤ 8) (hdg : decode cc pc = .ok (.invokevirtual index, 3)) (q : iw_V p l e R s m args below meth c cells slots Q nL G A σ' (pc + 3) lv (v.toList ++ st)) : iw_V p l e R s m args below meth c cells slots Q nL G A σ pc lv st0 :=
  iv_call C (fun H locs ls hP hS hl => va_runV (As := As) (rest := st) ⟨C.1, C.2.1, C.2.2.1, C.2.2.2.1, C.2.2.2.2.1⟩ hM (cwV n C.2.2.2.2.1 hG hw hrm.1 hrm.2.1 hd hrm.2.2) ⟨iw_blind, va_recv C.K.1 hP hc (show (iw_wl G σ)[b]? = some (G.2.1 b, .inr (ci, fs)) by rw [iw_at hb, he]), fun U hU hW => ⟨rfl, by rw [hU]; exact hP, C.K.warm hW⟩⟩ rfl hn hl.1 hst (lv_room hcat) hdg ⟨C.2.2.2.2.2.2.2.2.1, C.2.2.2.2.2.2.2.2.2⟩) q
theorem iv_callS (C : iw_C p R s m args c cc nL Ts own G A cells slots) {y : MethodName} {ws ws' : List Cond} {rm : Room} {maxL index n : Nat} {ret : Option FieldType} {bytes : ByteArray} (As : List Value) {v : Option Value} {σ' : iw_M} {st0 : List Value} (hM : iw_Ct l y ws rm G As σ v σ') (hG : GoodIn Ts (va_wsS own index y ws)) (hw : ws = Cond.code y bytes maxL ret :: ws') (hd : y.cls ≠ "java/lang/invoke/MethodHandle" ∧ y.cls ≠ "java/lang/invoke/VarHandle" ∧ (parseMethodDescriptor y.desc).map (fun d => d.parameters.length) = some n) (hrm : rm.cells = 0 ∧ rm.slots = 0 ∧ rm.frames + 1 ≤ R.frames ∧ 8 + (maxL + 11) + rm.locals ≤ R.locals) (hn : As.length = n) (hst : st0 = As.reverse ++ st) (hcat : (st.map fun v => v.category).sum ≤ 8) (hdg : decode cc pc = .ok (.invokestatic index, 3)) (q : iw_V p l e R s m args below meth c cells slots Q nL G A σ' (pc + 3) lv (v.toList ++ st)) : iw_V p l e R s m args below meth c cells slots Q nL G A σ pc lv st0 :=
  iv_call C (fun H locs ls hP hS hl => va_runS (As := As) (rest := st) ⟨C.1, C.2.1, C.2.2.1, C.2.2.2.1, C.2.2.2.2.1⟩ hM (va_cwS n C.2.2.2.2.1 hG hw hrm.1 hrm.2.1 hd hrm.2.2) ⟨iw_blind, fun U hU hW => ⟨rfl, by rw [hU]; exact hP, C.K.warm hW⟩⟩ rfl hn hl.1 hst (lv_room hcat) hdg ⟨C.2.2.2.2.2.2.2.2.1, C.2.2.2.2.2.2.2.2.2⟩) q
theorem iv_callSN (C : iw_C p R s m args c cc nL Ts own G A cells slots) {y : MethodName} {ws ws' : List Cond} {rm : Room} {maxL index n : Nat} {ret : Option FieldType} {bytes : ByteArray} (As : List Value) {v : Option Value} {σ' : iw_M} {st0 : List Value} (hM : iw_Ct l y ws rm G As σ v σ') (hG : GoodIn Ts ws) (hw : ws = Cond.code y bytes maxL ret :: ws') (hne : (own, index, y) ∈ iw_nm) (hsi : Cond.static y ∈ Ts ∧ Cond.initialized y.cls ∈ Ts) (hd : y.cls ≠ "java/lang/invoke/MethodHandle" ∧ y.cls ≠ "java/lang/invoke/VarHandle" ∧ (parseMethodDescriptor y.desc).map (fun d => d.parameters.length) = some n) (hrm : rm.cells = 0 ∧ rm.slots = 0 ∧ rm.frames + 1 ≤ R.frames ∧ 8 + (maxL + 11) + rm.locals ≤ R.locals) (hn : As.length = n) (hst : st0 = As.reverse ++ st) (hcat : (st.map fun v => v.category).sum ≤ 8) (hdg : decode cc pc = .ok (.invokestatic index, 3)) (q : iw_V p l e R s m args below meth c cells slots Q nL G A σ' (pc + 3) lv (v.toList ++ st)) : iw_V p l e R s m args below meth c cells slots Q nL G A σ pc lv st0 :=
  iv_call C (fun H locs ls hP hS hl => va_runSN (host := "InterestNet") (As := As) (rest := st) ⟨C.1, C.2.1, C.2.2.1, C.2.2.2.1, C.2.2.2.2.1⟩ hM ⟨va_cnB n C.2.2.2.2.1 hG hw hrm.1 hrm.2.1 (C.K.2.1 _ hne) (C.2.2.2.2.1 _ hsi.2) hd hrm.2.2, C.2.2.2.2.1 _ hsi.1, trivial⟩ ⟨iw_blind, fun U hU hW => ⟨rfl, by rw [hU]; exact hP, C.K.warm hW⟩⟩ rfl hn hl.1 hst (lv_room hcat) hdg ⟨C.2.2.2.2.2.2.2.2.1, C.2.2.2.2.2.2.2.2.2⟩) q
theorem iv_max (C : iw_C p R s m args c cc nL Ts own G A cells slots) {index : Nat} {x y : Int32} (hw : Cond.methodLink own index Lib.Math.max.name ∈ Ts ∧ Cond.static Lib.Math.max.name ∈ Ts ∧ Cond.initialized "java/lang/Math" ∈ Ts ∧ Cond.code Lib.Math.max.name Lib.Math.max.code 2 (some .int) ∈ Ts) (hR : 1 ≤ R.frames ∧ (st.map fun v => v.category).sum + 13 ≤ R.locals) (hdg : decode cc pc = .ok (.invokestatic index, 3)) (q : iw_V p l e R s m args below meth c cells slots Q nL G A σ (pc + 3) lv (.int (if x < y then y else x) :: st)) : iw_V p l e R s m args below meth c cells slots Q nL G A σ pc lv (.int y :: .int x :: st) := fun H locs ls hP hS hl =>
  va_mmax C.1 C.2.1 (C.2.2.1.trans hl.1.symm) C.2.2.2.1 (C.2.2.2.2.1 _ hw.1) (C.2.2.2.2.1 _ hw.2.1) (C.2.2.2.2.1 _ hw.2.2.1) (C.2.2.2.2.1 _ hw.2.2.2) hR.1 hR.2 C.2.2.2.2.2.2.2.2.1 C.2.2.2.2.2.2.2.2.2 hdg (q H locs ls hP hS hl)
theorem iv_min (C : iw_C p R s m args c cc nL Ts own G A cells slots) {index : Nat} {x y : Int32} (hw : Cond.methodLink own index Lib.Math.min.name ∈ Ts ∧ Cond.static Lib.Math.min.name ∈ Ts ∧ Cond.initialized "java/lang/Math" ∈ Ts ∧ Cond.code Lib.Math.min.name Lib.Math.min.code 2 (some .int) ∈ Ts) (hR : 1 ≤ R.frames ∧ (st.map fun v => v.category).sum + 13 ≤ R.locals) (hdg : decode cc pc = .ok (.invokestatic index, 3)) (q : iw_V p l e R s m args below meth c cells slots Q nL G A σ (pc + 3) lv (.int (if y < x then y else x) :: st)) : iw_V p l e R s m args below meth c cells slots Q nL G A σ pc lv (.int y :: .int x :: st) := fun H locs ls hP hS hl =>
  va_mmin C.1 C.2.1 (C.2.2.1.trans hl.1.symm) C.2.2.2.1 (C.2.2.2.2.1 _ hw.1) (C.2.2.2.2.1 _ hw.2.1) (C.2.2.2.2.1 _ hw.2.2.1) (C.2.2.2.2.1 _ hw.2.2.2) hR.1 hR.2 C.2.2.2.2.2.2.2.2.1 C.2.2.2.2.2.2.2.2.2 hdg (q H locs ls hP hS hl)
theorem iv_iret (C : iw_C p R s m args c cc nL Ts own G (iw_A G) 0 0) {vo : Option Value} {σ' : iw_M} {v : Int32} (hr : meth.sig.returnType = some .int) (hlk : meth.locks = false) (hv : vo = some (.int v)) (hσ : σ' = σ) (hdg : decode cc pc = .ok (.ireturn, 1)) : iw_V p l e R s m args below meth c 0 0 (MQ below (iw_Q vo G σ') args s 0 0 (iw_A G)) nL G (iw_A G) σ pc lv [.int v] := fun H locs ls hP hS hl =>
  W.iret C.1 C.2.1 hr (fun t ht hW => ⟨by rw [hv], ⟨by rw [ht, hσ]; exact hP, C.K.warm hW⟩, hS.F ht⟩) hS.2.2 hdg hlk
theorem iv_lret (C : iw_C p R s m args c cc nL Ts own G (iw_A G) 0 0) {vo : Option Value} {σ' : iw_M} {v : Int64} (hr : meth.sig.returnType = some .long) (hlk : meth.locks = false) (hv : vo = some (.long v)) (hσ : σ' = σ) (hdg : decode cc pc = .ok (.lreturn, 1)) : iw_V p l e R s m args below meth c 0 0 (MQ below (iw_Q vo G σ') args s 0 0 (iw_A G)) nL G (iw_A G) σ pc lv [.long v] := fun H locs ls hP hS hl =>
  W.lret C.1 C.2.1 hr (fun t ht hW => ⟨by rw [hv], ⟨by rw [ht, hσ]; exact hP, C.K.warm hW⟩, hS.F ht⟩) hS.2.2 hdg hlk
theorem iv_vret (C : iw_C p R s m args c cc nL Ts own G (iw_A G) 0 0) {vo : Option Value} {σ' : iw_M} (hr : meth.sig.returnType = none) (hlk : meth.locks = false) (hv : vo = none) (hσ : σ' = σ) (hdg : decode cc pc = .ok (.return_, 1)) : iw_V p l e R s m args below meth c 0 0 (MQ below (iw_Q vo G σ') args s 0 0 (iw_A G)) nL G (iw_A G) σ pc lv [] := fun H locs ls hP hS hl =>
  W.vret C.1 C.2.1 hr (fun t ht hW => ⟨by rw [hv], ⟨by rw [ht, hσ]; exact hP, C.K.warm hW⟩, hS.F ht⟩) hS.2.2 hdg hlk
theorem iv_aret (C : iw_C p R s m args c cc nL Ts own G (iw_A G) 0 0) {vo : Option Value} {σ' : iw_M} {v : Value} {rt : FieldType} (hr : meth.sig.returnType = some rt) (hrt : ∃ n, rt = .object n) (hlk : meth.locks = false) (hnr : v = .null ∨ ∃ a, v = .ref a) (hv : vo = some v) (hσ : σ' = σ) (hdg : decode cc pc = .ok (.areturn, 1)) : iw_V p l e R s m args below meth c 0 0 (MQ below (iw_Q vo G σ') args s 0 0 (iw_A G)) nL G (iw_A G) σ pc lv [v] := fun H locs ls hP hS hl =>
  W.aret C.1 C.2.1 hr (Or.inl hrt) hnr (fun t ht hW => ⟨by rw [hv], ⟨by rw [ht, hσ]; exact hP, C.K.warm hW⟩, hS.F ht⟩) hS.2.2 hdg hlk
theorem iw_zretW {Qc : Array Value → State → Outcome → State → Prop} {free : Addr → Prop} {H : Heap} {locs : List Loc} {v w : Int32} {ty : FieldType} (hexec : p.tables.exec = Jvm.exec) (hb : c.code = cc) (hr : meth.sig.returnType = some ty) (hn : narrow ty (.int v) = .int w)
    (hq : ∀ t : State, t.heap = H → s.WarmedH t.vm → Qc args s (.returned (some (.int w))) t) (hf : ∀ q ∈ locs, free q.base)
    {ls : Array Slot} (hdg : decode cc pc = .ok (.ireturn, 1)) (hlocks : meth.locks = false) : W p l e R s m args below meth c H locs cells slots (MQ below Qc args s cells slots free) (F0 m pc ls [.int v]) := by
  intro T hT X
  obtain ⟨fs, hret, hrun, hended, hW, hframe⟩ := X.leave (v := some (.int w)) (hlocks := hlocks) (fun h => by rw [hr] at h; cases h)
  have hmeth' : T.vm.method? m = some meth := X.method'
  refine ⟨T.setFrames fs, ?_, .returned (some (.int w)), hrun, hended, hq _ hT hW, locs, ⟨⟨_, rfl⟩, hW, hframe⟩, hf⟩
  jvm_step X.here [X.here.top, hexec, hb, hdg, hmeth', hr, hn]
  (try refine ⟨rfl, ?_⟩); (try refine ⟨rfl, ?_⟩)
  first | (intro acts; rw [hret _ acts rfl rfl rfl]) | rw [hret _ _ rfl rfl rfl]
  exact Steps.refl _
theorem iv_zret (C : iw_C p R s m args c cc nL Ts own G (iw_A G) 0 0) {vo : Option Value} {σ' : iw_M} {v : Int32} (hr : meth.sig.returnType = some .boolean) (hlk : meth.locks = false) (hv : vo = some (.int (v &&& 1))) (hσ : σ' = σ) (hdg : decode cc pc = .ok (.ireturn, 1)) : iw_V p l e R s m args below meth c 0 0 (MQ below (iw_Q vo G σ') args s 0 0 (iw_A G)) nL G (iw_A G) σ pc lv [.int v] := fun H locs ls hP hS hl =>
  iw_zretW C.1 C.2.1 hr rfl (fun t ht hW => ⟨by rw [hv], ⟨by rw [ht, hσ]; exact hP, C.K.warm hW⟩, hS.F ht⟩) hS.2.2 hdg hlk
theorem iv_start {y : MethodName} {ws ws' : List Cond} {rm : Room} {ret : Option FieldType} {as : List Value} {v : Option Value} {σ' : iw_M} (hy : plainName y.cls = true) (hw : ws = .code y cc nL ret :: ws') (hown : y.cls = own) (hJ : iw_J G) (has : (lg_sl as).length ≤ nL)
    (body : ∀ (p : Program) (e : Env) (s : State) (m : MethodId) (below : List Frame) (meth : Method) (c : Code), iw_C p rm s m as.toArray c cc nL ws own G (iw_A G) 0 0 → meth.sig.returnType = ret → meth.locks = false → iw_V p l e rm s m as.toArray below meth c 0 0 (MQ below (iw_Q v G σ') as.toArray s 0 0 (iw_A G)) nL G (iw_A G) σ 0 (lv_args 0 as) []) : iw_Ct l y ws rm G as σ v σ' := by
  refine Met.ofW (cc := cc) (maxL := nL) (ret := ret) hy hw ?_
  intro p e s m args below meth c s₁ B hml hv
  obtain ⟨rfl, hP, hK⟩ := hv
  have hC : iw_C p rm s m as.toArray c cc nL ws own G (iw_A G) 0 0 := ⟨B.exec, B.bytes, hml, hown ▸ findClass_of_methodNamed B.named, atoms_spec (ws := ws) B.pre, hK, hJ, fun a h => ⟨a, h, rfl⟩, Nat.zero_le _, Nat.zero_le _⟩
  rw [lg_entry_eq]
  exact body p e s m below meth c hC B.returns B.notSynchronized s.heap [] _ hP va_S.rf (lv_entry as has)
end IV
end
section
/-! binds of the methods' functions, and what the walks do with them -/
def iw_let {α β : Type} (x : α) (f : α → β) : β := f x
def iw_let2 {α β γ : Type} (x : α × β) (f : α → β → γ) : γ := f x.1 x.2
def iw_b2 {α β γ : Type} (x : Option (α × β)) (f : α → β → Option γ) : Option γ := match x with
  | none => none
  | some q => f q.1 q.2
def iw_on {α : Type} (x : Option Nat) (a : α) (f : Nat → α) : α := match x with
  | none => a
  | some c => f c
def iw_it {α : Type} (b : α → α) (z : α) : Nat → α
  | 0 => z
  | n + 1 => b (iw_it b z n)
theorem iw_ift {α : Type} {c : Prop} [Decidable c] {a b o : α} (hc : c) (h : (if c then a else b) = o) : a = o := by rw [if_pos hc] at h; exact h
theorem iw_iff {α : Type} {c : Prop} [Decidable c] {a b o : α} (hc : ¬ c) (h : (if c then a else b) = o) : b = o := by rw [if_neg hc] at h; exact h
theorem iw_lete {α β : Type} {x y : α} {f : α → β} {o : β} (e : y = x) (h : iw_let x f = o) : f y = o := by subst e; exact h
theorem iw_let2e {α β γ : Type} {x : α × β} {f : α → β → γ} {o : γ} (h : iw_let2 x f = o) : ∃ (a : α) (b : β), x = (a, b) ∧ f a b = o := ⟨x.1, x.2, rfl, h⟩
theorem iw_be {α β : Type} {x : Option α} {f : α → Option β} {o : β} (h : x.bind f = some o) : ∃ a : α, x = some a ∧ f a = some o := by
  cases x with
  | none => cases h
  | some a => exact ⟨a, rfl, h⟩
theorem iw_b2e {α β γ : Type} {x : Option (α × β)} {f : α → β → Option γ} {o : γ} (h : iw_b2 x f = some o) : ∃ (a : α) (b : β), x = some (a, b) ∧ f a b = some o := by
  cases x with
  | none => cases h
  | some q => exact ⟨q.1, q.2, rfl, h⟩
theorem iw_it0 {α : Type} {b : α → α} {z : α} : iw_it b z 0 = z := rfl
theorem iw_itS {α : Type} {b : α → α} {z : α} {n : Nat} : iw_it b z (n + 1) = b (iw_it b z n) := rfl
def iw_rd (σ : iw_M) (a : Nat) (i : Int32) : Option Int32 := if i < 0 ∨ iw_al a ≤ i.toNatClampNeg then none else some (σ a i.toNatClampNeg)
def iw_wr (σ : iw_M) (a : Nat) (i x : Int32) : Option iw_M := if i < 0 ∨ iw_al a ≤ i.toNatClampNeg then none else some (iw_up σ a i.toNatClampNeg x)
def iw_rem (x y : Int32) : Option Int32 := if y = 0 then none else some (x - x / y * y)
def iw_geth (σ : iw_M) : Int64 := iw_h (σ 84 15) (σ 84 16)
def iw_puth (σ : iw_M) (v : Int64) : iw_M := iw_up (iw_up σ 84 15 (iw_hi v)) 84 16 (iw_lo v)
theorem iw_rde {σ : iw_M} {a : Nat} {i v : Int32} (h : iw_rd σ a i = some v) : vp_in i (iw_al a) ∧ σ a i.toNatClampNeg = v := by
  unfold iw_rd at h
  by_cases hc : i < 0 ∨ iw_al a ≤ i.toNatClampNeg
  · rw [if_pos hc] at h; cases h
  · rw [if_neg hc] at h; exact ⟨hc, Option.some.inj h⟩
theorem iw_wre {σ σ' : iw_M} {a : Nat} {i x : Int32} (h : iw_wr σ a i x = some σ') : vp_in i (iw_al a) ∧ iw_up σ a i.toNatClampNeg x = σ' := by
  unfold iw_wr at h
  by_cases hc : i < 0 ∨ iw_al a ≤ i.toNatClampNeg
  · rw [if_pos hc] at h; cases h
  · rw [if_neg hc] at h; exact ⟨hc, Option.some.inj h⟩
theorem iw_reme {x y v : Int32} (h : iw_rem x y = some v) : ¬ y = 0 ∧ x - x / y * y = v := by
  unfold iw_rem at h
  by_cases hc : y = 0
  · rw [if_pos hc] at h; cases h
  · rw [if_neg hc] at h; exact ⟨hc, Option.some.inj h⟩
/-- ids: a Net, a Paths, an int array, a boolean array -/
def iw_net (c : Nat) : Prop := c = 20 ∨ c = 28 ∨ c = 36 ∨ c = 44 ∨ c = 52 ∨ c = 60 ∨ c = 68 ∨ c = 76
def iw_pth (c : Nat) : Prop := c = 8 ∨ c = 14
def iw_ia (a : Nat) : Prop := iw_kd a = 7 ∧ a < 93
def iw_za (a : Nat) : Prop := iw_kd a = 8 ∧ a < 93
theorem iw_net_20 : iw_net 20 := by unfold iw_net; omega
theorem iw_net_28 : iw_net 28 := by unfold iw_net; omega
theorem iw_net_36 : iw_net 36 := by unfold iw_net; omega
theorem iw_pth_8 : iw_pth 8 := Or.inl rfl
theorem iw_pth_14 : iw_pth 14 := Or.inr rfl
theorem iw_nk {c : Nat} (h : iw_net c) : iw_kd c = 1 := by rcases h with rfl | rfl | rfl | rfl | rfl | rfl | rfl | rfl <;> rfl
theorem iw_nl {c : Nat} (h : iw_net c) : c < 93 := by rcases h with rfl | rfl | rfl | rfl | rfl | rfl | rfl | rfl <;> decide
theorem iw_pk {c : Nat} (h : iw_pth c) : iw_kd c = 2 := by rcases h with rfl | rfl <;> rfl
theorem iw_pl {c : Nat} (h : iw_pth c) : c < 93 := by rcases h with rfl | rfl <;> decide
theorem iw_na1 {c : Nat} (h : iw_net c) : iw_ia (c + 1) := by rcases h with rfl | rfl | rfl | rfl | rfl | rfl | rfl | rfl <;> exact ⟨rfl, by decide⟩
theorem iw_na2 {c : Nat} (h : iw_net c) : iw_ia (c + 2) := by rcases h with rfl | rfl | rfl | rfl | rfl | rfl | rfl | rfl <;> exact ⟨rfl, by decide⟩
theorem iw_na3 {c : Nat} (h : iw_net c) : iw_ia (c + 3) := by rcases h with rfl | rfl | rfl | rfl | rfl | rfl | rfl | rfl <;> exact ⟨rfl, by decide⟩
theorem iw_na4 {c : Nat} (h : iw_net c) : iw_ia (c + 4) := by rcases h with rfl | rfl | rfl | rfl | rfl | rfl | rfl | rfl <;> exact ⟨rfl, by decide⟩
theorem iw_na5 {c : Nat} (h : iw_net c) : iw_ia (c + 5) := by rcases h with rfl | rfl | rfl | rfl | rfl | rfl | rfl | rfl <;> exact ⟨rfl, by decide⟩
theorem iw_na6 {c : Nat} (h : iw_net c) : iw_ia (c + 6) := by rcases h with rfl | rfl | rfl | rfl | rfl | rfl | rfl | rfl <;> exact ⟨rfl, by decide⟩
theorem iw_na7 {c : Nat} (h : iw_net c) : iw_ia (c + 7) := by rcases h with rfl | rfl | rfl | rfl | rfl | rfl | rfl | rfl <;> exact ⟨rfl, by decide⟩
theorem iw_pa1 {c : Nat} (h : iw_pth c) : iw_ia (c + 1) := by rcases h with rfl | rfl <;> exact ⟨rfl, by decide⟩
theorem iw_pa2 {c : Nat} (h : iw_pth c) : iw_ia (c + 2) := by rcases h with rfl | rfl <;> exact ⟨rfl, by decide⟩
theorem iw_pa3 {c : Nat} (h : iw_pth c) : iw_ia (c + 3) := by rcases h with rfl | rfl <;> exact ⟨rfl, by decide⟩
theorem iw_pa4 {c : Nat} (h : iw_pth c) : iw_ia (c + 4) := by rcases h with rfl | rfl <;> exact ⟨rfl, by decide⟩
theorem iw_pa5 {c : Nat} (h : iw_pth c) : iw_ia (c + 5) := by rcases h with rfl | rfl <;> exact ⟨rfl, by decide⟩
theorem iw_Eo0 {G : iw_G} {σ : iw_M} : iw_E G σ 0 = .inr (5, [.ref (G.2.1 20), .ref (G.2.1 1), .ref (G.2.1 8), .ref (G.2.1 4), .ref (G.2.1 6)]) := rfl
theorem iw_Eo1 {G : iw_G} {σ : iw_M} : iw_E G σ 1 = .inr (3, [.ref (G.2.1 28), .ref (G.2.1 14), .ref (G.2.1 2), .ref (G.2.1 3)]) := rfl
theorem iw_Eo4 {G : iw_G} {σ : iw_M} : iw_E G σ 4 = .inr (0, [.ref (G.2.1 5), .int (σ 4 1), .int (σ 4 2)]) := rfl
theorem iw_Eo6 {G : iw_G} {σ : iw_M} : iw_E G σ 6 = .inr (4, [.ref (G.2.1 36), .ref (G.2.1 7), .int (σ 6 2), .int (σ 6 3), .int (σ 6 4), .int (σ 6 5), .int (σ 6 6)]) := rfl
theorem iw_Eo84 {G : iw_G} {σ : iw_M} : iw_E G σ 84 = .inr (6, [.ref (G.2.1 85), .int (σ 84 1), .ref (G.2.1 86), .ref (G.2.1 87), .ref (G.2.1 88), .ref (G.2.1 89), .int (σ 84 6), .ref (G.2.1 90), .int (σ 84 8), .ref (G.2.1 91), .ref (G.2.1 92), .int (σ 84 11), .int (σ 84 12), .int (σ 84 13), .int (σ 84 14), .long (iw_geth σ)]) := rfl
section IV2
variable {p : Program} {l : Launch} {e : Env} {R : Room} {s : State} {m : MethodId} {args : Array Value} {below : List Frame} {meth : Method} {c : Code} {cells slots : Nat} {Q : State → Prop} {nL : Nat} {G : iw_G} {A : Nat → Prop} {σ : iw_M} {pc : Nat} {lv : List (Nat × Value)} {st : List Value} {cc : ByteArray} {Ts : List Cond} {own : String}
theorem iv_topm (q : ∀ y : iw_M, y = σ → iw_V p l e R s m args below meth c cells slots Q nL G A y pc lv st) : iw_V p l e R s m args below meth c cells slots Q nL G A σ pc lv st := q σ rfl
theorem iv_rd (C : iw_C p R s m args c cc nL Ts own G A cells slots) (a : Nat) (ha : iw_ia a) {i v : Int32} (e1 : iw_rd σ a i = some v) (hdg : decode cc pc = .ok (.iaload, 1)) (q : iw_V p l e R s m args below meth c cells slots Q nL G A σ (pc + 1) lv (.int v :: st)) : iw_V p l e R s m args below meth c cells slots Q nL G A σ pc lv (.int i :: .ref (G.2.1 a) :: st) := iv_iald C a ha.2 ha.1 (iw_rde e1).1 hdg (by rw [(iw_rde e1).2]; exact q)
theorem iv_rdz (C : iw_C p R s m args c cc nL Ts own G A cells slots) (a : Nat) (ha : iw_za a) {i v : Int32} (e1 : iw_rd σ a i = some v) (hdg : decode cc pc = .ok (.baload, 1)) (q : iw_V p l e R s m args below meth c cells slots Q nL G A σ (pc + 1) lv (.int v :: st)) : iw_V p l e R s m args below meth c cells slots Q nL G A σ pc lv (.int i :: .ref (G.2.1 a) :: st) := iv_zald C a ha.2 ha.1 (iw_rde e1).1 hdg (by rw [(iw_rde e1).2]; exact q)
theorem iv_wr (C : iw_C p R s m args c cc nL Ts own G A cells slots) (a : Nat) (ha : iw_ia a) {i x : Int32} {σ' : iw_M} (e1 : iw_wr σ a i x = some σ') (hdg : decode cc pc = .ok (.iastore, 1)) (q : iw_V p l e R s m args below meth c cells slots Q nL G A σ' (pc + 1) lv st) : iw_V p l e R s m args below meth c cells slots Q nL G A σ pc lv (.int x :: .int i :: .ref (G.2.1 a) :: st) := iv_iast C a ha.2 ha.1 (iw_wre e1).1 hdg (by rw [(iw_wre e1).2]; exact q)
theorem iv_wrz (C : iw_C p R s m args c cc nL Ts own G A cells slots) (a : Nat) (ha : iw_za a) {i x : Int32} {σ' : iw_M} (e1 : iw_wr σ a i (x &&& 1) = some σ') (hdg : decode cc pc = .ok (.bastore, 1)) (q : iw_V p l e R s m args below meth c cells slots Q nL G A σ' (pc + 1) lv st) : iw_V p l e R s m args below meth c cells slots Q nL G A σ pc lv (.int x :: .int i :: .ref (G.2.1 a) :: st) := iv_zast C a ha.2 ha.1 (iw_wre e1).1 hdg (by rw [show vp_nar .boolean x = x &&& 1 from rfl, (iw_wre e1).2]; exact q)
theorem iv_rem (C : iw_C p R s m args c cc nL Ts own G A cells slots) {x y v : Int32} (e1 : iw_rem x y = some v) (hdg : decode cc pc = .ok (.irem, 1)) (q : iw_V p l e R s m args below meth c cells slots Q nL G A σ (pc + 1) lv (.int v :: st)) : iw_V p l e R s m args below meth c cells slots Q nL G A σ pc lv (.int y :: .int x :: st) := iv_irem C (iw_reme e1).1 hdg (by rw [(iw_reme e1).2]; exact q)
end IV2
end
section
set_option maxRecDepth 20000 in
theorem ggX0_init_X1_init : GoodIn wsX0_init wsX1_init := goodIn_r _ [10, 11, 2, 3, 12, 13, 14, 15, 16, 17, 18, 19, 20, 21, 22, 26, 27, 28, 29, 30, 31, 32] (by decide +kernel) (by decide +kernel)
set_option maxRecDepth 20000 in
theorem gX0_init_X1_init : GoodIn wsX0_init (wsX1_init) := ggX0_init_X1_init
theorem dX0_init_0 : decode cX0_init 0 = .ok (.aload_n 0, 1) := by decide +kernel
theorem dX0_init_1 : decode cX0_init 1 = .ok (.invokespecial 3, 3) := by decide +kernel
theorem dX0_init_4 : decode cX0_init 4 = .ok (.aload_n 0, 1) := by decide +kernel
theorem dX0_init_5 : decode cX0_init 5 = .ok (.iconst 5, 1) := by decide +kernel
theorem dX0_init_6 : decode cX0_init 6 = .ok (.anewarray 9, 3) := by decide +kernel
theorem dX0_init_9 : decode cX0_init 9 = .ok (.putfield 11, 3) := by decide +kernel
theorem dX0_init_12 : decode cX0_init 12 = .ok (.iconst 0, 1) := by decide +kernel
theorem dX0_init_13 : decode cX0_init 13 = .ok (.istore_n 1, 1) := by decide +kernel
theorem dX0_init_14 : decode cX0_init 14 = .ok (.iload_n 1, 1) := by decide +kernel
theorem dX0_init_15 : decode cX0_init 15 = .ok (.aload_n 0, 1) := by decide +kernel
theorem dX0_init_16 : decode cX0_init 16 = .ok (.getfield 11, 3) := by decide +kernel
theorem dX0_init_19 : decode cX0_init 19 = .ok (.arraylength, 1) := by decide +kernel
theorem dX0_init_20 : decode cX0_init 20 = .ok (.if_icmp .ge 22, 3) := by decide +kernel
theorem dX0_init_23 : decode cX0_init 23 = .ok (.aload_n 0, 1) := by decide +kernel
theorem dX0_init_24 : decode cX0_init 24 = .ok (.getfield 11, 3) := by decide +kernel
theorem dX0_init_27 : decode cX0_init 27 = .ok (.iload_n 1, 1) := by decide +kernel
theorem dX0_init_28 : decode cX0_init 28 = .ok (.new 9, 3) := by decide +kernel
theorem dX0_init_31 : decode cX0_init 31 = .ok (.dup, 1) := by decide +kernel
theorem dX0_init_32 : decode cX0_init 32 = .ok (.invokespecial 17, 3) := by decide +kernel
theorem dX0_init_35 : decode cX0_init 35 = .ok (.aastore, 1) := by decide +kernel
theorem dX0_init_36 : decode cX0_init 36 = .ok (.iinc 1 1, 3) := by decide +kernel
theorem dX0_init_39 : decode cX0_init 39 = .ok (.goto (-25), 3) := by decide +kernel
theorem dX0_init_42 : decode cX0_init 42 = .ok (.return_, 1) := by decide +kernel
set_option maxRecDepth 20000 in
theorem ggX0_record_X0_stateAt : GoodIn wsX0_record wsX0_stateAt := goodIn_r _ [7, 2, 8, 32, 33, 34] (by decide +kernel) (by decide +kernel)
set_option maxRecDepth 20000 in
theorem gX0_record_X0_stateAt : GoodIn wsX0_record (wsV RX0 25 RX0 yX0_stateAt wsX0_stateAt) := goodIn_app (goodIn_of _ (by decide +kernel)) ggX0_record_X0_stateAt
set_option maxRecDepth 20000 in
theorem ggX0_record_X1_copyFrom : GoodIn wsX0_record wsX1_copyFrom := goodIn_r _ [13, 14, 15, 16, 17, 18, 19, 20, 21, 22, 23, 24, 25, 26, 27, 28, 29, 30, 31, 35, 36, 37, 38, 39, 40, 41] (by decide +kernel) (by decide +kernel)
set_option maxRecDepth 20000 in
theorem gX0_record_X1_copyFrom : GoodIn wsX0_record (wsV RX0 29 RX1 yX1_copyFrom wsX1_copyFrom) := goodIn_app (goodIn_of _ (by decide +kernel)) ggX0_record_X1_copyFrom
theorem dX0_record_0 : decode cX0_record 0 = .ok (.aload_n 0, 1) := by decide +kernel
theorem dX0_record_1 : decode cX0_record 1 = .ok (.getfield 18, 3) := by decide +kernel
theorem dX0_record_4 : decode cX0_record 4 = .ok (.iconst 5, 1) := by decide +kernel
theorem dX0_record_5 : decode cX0_record 5 = .ok (.if_icmp .ne 25, 3) := by decide +kernel
theorem dX0_record_8 : decode cX0_record 8 = .ok (.aload_n 0, 1) := by decide +kernel
theorem dX0_record_9 : decode cX0_record 9 = .ok (.aload_n 0, 1) := by decide +kernel
theorem dX0_record_10 : decode cX0_record 10 = .ok (.getfield 22, 3) := by decide +kernel
theorem dX0_record_13 : decode cX0_record 13 = .ok (.iconst 1, 1) := by decide +kernel
theorem dX0_record_14 : decode cX0_record 14 = .ok (.iadd, 1) := by decide +kernel
theorem dX0_record_15 : decode cX0_record 15 = .ok (.iconst 5, 1) := by decide +kernel
theorem dX0_record_16 : decode cX0_record 16 = .ok (.irem, 1) := by decide +kernel
theorem dX0_record_17 : decode cX0_record 17 = .ok (.putfield 22, 3) := by decide +kernel
theorem dX0_record_20 : decode cX0_record 20 = .ok (.aload_n 0, 1) := by decide +kernel
theorem dX0_record_21 : decode cX0_record 21 = .ok (.dup, 1) := by decide +kernel
theorem dX0_record_22 : decode cX0_record 22 = .ok (.getfield 18, 3) := by decide +kernel
theorem dX0_record_25 : decode cX0_record 25 = .ok (.iconst 1, 1) := by decide +kernel
theorem dX0_record_26 : decode cX0_record 26 = .ok (.isub, 1) := by decide +kernel
theorem dX0_record_27 : decode cX0_record 27 = .ok (.putfield 18, 3) := by decide +kernel
theorem dX0_record_30 : decode cX0_record 30 = .ok (.aload_n 0, 1) := by decide +kernel
theorem dX0_record_31 : decode cX0_record 31 = .ok (.aload_n 0, 1) := by decide +kernel
theorem dX0_record_32 : decode cX0_record 32 = .ok (.getfield 18, 3) := by decide +kernel
theorem dX0_record_35 : decode cX0_record 35 = .ok (.invokevirtual 25, 3) := by decide +kernel
theorem dX0_record_38 : decode cX0_record 38 = .ok (.astore_n 2, 1) := by decide +kernel
theorem dX0_record_39 : decode cX0_record 39 = .ok (.aload_n 2, 1) := by decide +kernel
theorem dX0_record_40 : decode cX0_record 40 = .ok (.ifnull 18, 3) := by decide +kernel
theorem dX0_record_43 : decode cX0_record 43 = .ok (.aload_n 2, 1) := by decide +kernel
theorem dX0_record_44 : decode cX0_record 44 = .ok (.aload_n 1, 1) := by decide +kernel
theorem dX0_record_45 : decode cX0_record 45 = .ok (.invokevirtual 29, 3) := by decide +kernel
theorem dX0_record_48 : decode cX0_record 48 = .ok (.aload_n 0, 1) := by decide +kernel
theorem dX0_record_49 : decode cX0_record 49 = .ok (.dup, 1) := by decide +kernel
theorem dX0_record_50 : decode cX0_record 50 = .ok (.getfield 18, 3) := by decide +kernel
theorem dX0_record_53 : decode cX0_record 53 = .ok (.iconst 1, 1) := by decide +kernel
theorem dX0_record_54 : decode cX0_record 54 = .ok (.iadd, 1) := by decide +kernel
theorem dX0_record_55 : decode cX0_record 55 = .ok (.putfield 18, 3) := by decide +kernel
theorem dX0_record_58 : decode cX0_record 58 = .ok (.return_, 1) := by decide +kernel
set_option maxRecDepth 20000 in
theorem ggX0_restore_X0_stateAt : GoodIn wsX0_restore wsX0_stateAt := goodIn_r _ [6, 7, 8, 32, 33, 34] (by decide +kernel) (by decide +kernel)
set_option maxRecDepth 20000 in
theorem gX0_restore_X0_stateAt : GoodIn wsX0_restore (wsV RX0 25 RX0 yX0_stateAt wsX0_stateAt) := goodIn_app (goodIn_of _ (by decide +kernel)) ggX0_restore_X0_stateAt
set_option maxRecDepth 20000 in
theorem ggX0_restore_X1_copyFrom : GoodIn wsX0_restore wsX1_copyFrom := goodIn_r _ [13, 14, 15, 16, 17, 18, 19, 20, 21, 22, 23, 24, 25, 26, 27, 28, 29, 30, 31, 35, 36, 37, 38, 39, 40, 41] (by decide +kernel) (by decide +kernel)
set_option maxRecDepth 20000 in
theorem gX0_restore_X1_copyFrom : GoodIn wsX0_restore (wsV RX0 29 RX1 yX1_copyFrom wsX1_copyFrom) := goodIn_app (goodIn_of _ (by decide +kernel)) ggX0_restore_X1_copyFrom
theorem dX0_restore_0 : decode cX0_restore 0 = .ok (.aload_n 0, 1) := by decide +kernel
theorem dX0_restore_1 : decode cX0_restore 1 = .ok (.getfield 18, 3) := by decide +kernel
theorem dX0_restore_4 : decode cX0_restore 4 = .ok (.ifCond .le 16, 3) := by decide +kernel
theorem dX0_restore_7 : decode cX0_restore 7 = .ok (.aload_n 0, 1) := by decide +kernel
theorem dX0_restore_8 : decode cX0_restore 8 = .ok (.aload_n 0, 1) := by decide +kernel
theorem dX0_restore_9 : decode cX0_restore 9 = .ok (.getfield 18, 3) := by decide +kernel
theorem dX0_restore_12 : decode cX0_restore 12 = .ok (.iconst 1, 1) := by decide +kernel
theorem dX0_restore_13 : decode cX0_restore 13 = .ok (.isub, 1) := by decide +kernel
theorem dX0_restore_14 : decode cX0_restore 14 = .ok (.invokevirtual 25, 3) := by decide +kernel
theorem dX0_restore_17 : decode cX0_restore 17 = .ok (.goto 4, 3) := by decide +kernel
theorem dX0_restore_20 : decode cX0_restore 20 = .ok (.aconst_null, 1) := by decide +kernel
theorem dX0_restore_21 : decode cX0_restore 21 = .ok (.astore_n 2, 1) := by decide +kernel
theorem dX0_restore_22 : decode cX0_restore 22 = .ok (.aload_n 2, 1) := by decide +kernel
theorem dX0_restore_23 : decode cX0_restore 23 = .ok (.ifnonnull 5, 3) := by decide +kernel
theorem dX0_restore_26 : decode cX0_restore 26 = .ok (.iconst 0, 1) := by decide +kernel
theorem dX0_restore_27 : decode cX0_restore 27 = .ok (.ireturn, 1) := by decide +kernel
theorem dX0_restore_28 : decode cX0_restore 28 = .ok (.aload_n 1, 1) := by decide +kernel
theorem dX0_restore_29 : decode cX0_restore 29 = .ok (.aload_n 2, 1) := by decide +kernel
theorem dX0_restore_30 : decode cX0_restore 30 = .ok (.invokevirtual 29, 3) := by decide +kernel
theorem dX0_restore_33 : decode cX0_restore 33 = .ok (.aload_n 0, 1) := by decide +kernel
theorem dX0_restore_34 : decode cX0_restore 34 = .ok (.dup, 1) := by decide +kernel
theorem dX0_restore_35 : decode cX0_restore 35 = .ok (.getfield 18, 3) := by decide +kernel
theorem dX0_restore_38 : decode cX0_restore 38 = .ok (.iconst 1, 1) := by decide +kernel
theorem dX0_restore_39 : decode cX0_restore 39 = .ok (.isub, 1) := by decide +kernel
theorem dX0_restore_40 : decode cX0_restore 40 = .ok (.putfield 18, 3) := by decide +kernel
theorem dX0_restore_43 : decode cX0_restore 43 = .ok (.iconst 1, 1) := by decide +kernel
theorem dX0_restore_44 : decode cX0_restore 44 = .ok (.ireturn, 1) := by decide +kernel
theorem dX0_stateAt_0 : decode cX0_stateAt 0 = .ok (.aload_n 0, 1) := by decide +kernel
theorem dX0_stateAt_1 : decode cX0_stateAt 1 = .ok (.getfield 22, 3) := by decide +kernel
theorem dX0_stateAt_4 : decode cX0_stateAt 4 = .ok (.iload_n 1, 1) := by decide +kernel
theorem dX0_stateAt_5 : decode cX0_stateAt 5 = .ok (.iadd, 1) := by decide +kernel
theorem dX0_stateAt_6 : decode cX0_stateAt 6 = .ok (.iconst 5, 1) := by decide +kernel
theorem dX0_stateAt_7 : decode cX0_stateAt 7 = .ok (.irem, 1) := by decide +kernel
theorem dX0_stateAt_8 : decode cX0_stateAt 8 = .ok (.istore_n 2, 1) := by decide +kernel
theorem dX0_stateAt_9 : decode cX0_stateAt 9 = .ok (.iload_n 2, 1) := by decide +kernel
theorem dX0_stateAt_10 : decode cX0_stateAt 10 = .ok (.ifCond .lt 21, 3) := by decide +kernel
theorem dX0_stateAt_13 : decode cX0_stateAt 13 = .ok (.iload_n 2, 1) := by decide +kernel
theorem dX0_stateAt_14 : decode cX0_stateAt 14 = .ok (.aload_n 0, 1) := by decide +kernel
theorem dX0_stateAt_15 : decode cX0_stateAt 15 = .ok (.getfield 11, 3) := by decide +kernel
theorem dX0_stateAt_18 : decode cX0_stateAt 18 = .ok (.arraylength, 1) := by decide +kernel
theorem dX0_stateAt_19 : decode cX0_stateAt 19 = .ok (.if_icmp .ge 12, 3) := by decide +kernel
theorem dX0_stateAt_22 : decode cX0_stateAt 22 = .ok (.aload_n 0, 1) := by decide +kernel
theorem dX0_stateAt_23 : decode cX0_stateAt 23 = .ok (.getfield 11, 3) := by decide +kernel
theorem dX0_stateAt_26 : decode cX0_stateAt 26 = .ok (.iload_n 2, 1) := by decide +kernel
theorem dX0_stateAt_27 : decode cX0_stateAt 27 = .ok (.aaload, 1) := by decide +kernel
theorem dX0_stateAt_28 : decode cX0_stateAt 28 = .ok (.goto 4, 3) := by decide +kernel
theorem dX0_stateAt_31 : decode cX0_stateAt 31 = .ok (.aconst_null, 1) := by decide +kernel
theorem dX0_stateAt_32 : decode cX0_stateAt 32 = .ok (.areturn, 1) := by decide +kernel
set_option maxRecDepth 20000 in
theorem ggX1_init_X5_put : GoodIn wsX1_init wsX5_put := goodIn_r _ [14] (by decide +kernel) (by decide +kernel)
set_option maxRecDepth 20000 in
theorem gX1_init_X5_put_n33 : GoodIn wsX1_init (wsX5_put) := ggX1_init_X5_put
theorem dX1_init_0 : decode cX1_init 0 = .ok (.aload_n 0, 1) := by decide +kernel
theorem dX1_init_1 : decode cX1_init 1 = .ok (.invokespecial 3, 3) := by decide +kernel
theorem dX1_init_4 : decode cX1_init 4 = .ok (.aload_n 0, 1) := by decide +kernel
theorem dX1_init_5 : decode cX1_init 5 = .ok (.bipush 12, 2) := by decide +kernel
theorem dX1_init_7 : decode cX1_init 7 = .ok (.newarray .int, 2) := by decide +kernel
theorem dX1_init_9 : decode cX1_init 9 = .ok (.putfield 9, 3) := by decide +kernel
theorem dX1_init_12 : decode cX1_init 12 = .ok (.aload_n 0, 1) := by decide +kernel
theorem dX1_init_13 : decode cX1_init 13 = .ok (.bipush 10, 2) := by decide +kernel
theorem dX1_init_15 : decode cX1_init 15 = .ok (.newarray .int, 2) := by decide +kernel
theorem dX1_init_17 : decode cX1_init 17 = .ok (.putfield 15, 3) := by decide +kernel
theorem dX1_init_20 : decode cX1_init 20 = .ok (.aload_n 0, 1) := by decide +kernel
theorem dX1_init_21 : decode cX1_init 21 = .ok (.bipush 60, 2) := by decide +kernel
theorem dX1_init_23 : decode cX1_init 23 = .ok (.newarray .int, 2) := by decide +kernel
theorem dX1_init_25 : decode cX1_init 25 = .ok (.putfield 18, 3) := by decide +kernel
theorem dX1_init_28 : decode cX1_init 28 = .ok (.aload_n 0, 1) := by decide +kernel
theorem dX1_init_29 : decode cX1_init 29 = .ok (.bipush 18, 2) := by decide +kernel
theorem dX1_init_31 : decode cX1_init 31 = .ok (.newarray .int, 2) := by decide +kernel
theorem dX1_init_33 : decode cX1_init 33 = .ok (.putfield 21, 3) := by decide +kernel
theorem dX1_init_36 : decode cX1_init 36 = .ok (.aload_n 0, 1) := by decide +kernel
theorem dX1_init_37 : decode cX1_init 37 = .ok (.bipush 35, 2) := by decide +kernel
theorem dX1_init_39 : decode cX1_init 39 = .ok (.newarray .int, 2) := by decide +kernel
theorem dX1_init_41 : decode cX1_init 41 = .ok (.putfield 24, 3) := by decide +kernel
theorem dX1_init_44 : decode cX1_init 44 = .ok (.aload_n 0, 1) := by decide +kernel
theorem dX1_init_45 : decode cX1_init 45 = .ok (.bipush 30, 2) := by decide +kernel
theorem dX1_init_47 : decode cX1_init 47 = .ok (.newarray .int, 2) := by decide +kernel
theorem dX1_init_49 : decode cX1_init 49 = .ok (.putfield 27, 3) := by decide +kernel
theorem dX1_init_52 : decode cX1_init 52 = .ok (.aload_n 0, 1) := by decide +kernel
theorem dX1_init_53 : decode cX1_init 53 = .ok (.sipush 300, 3) := by decide +kernel
theorem dX1_init_56 : decode cX1_init 56 = .ok (.newarray .int, 2) := by decide +kernel
theorem dX1_init_58 : decode cX1_init 58 = .ok (.putfield 30, 3) := by decide +kernel
theorem dX1_init_61 : decode cX1_init 61 = .ok (.aload_n 0, 1) := by decide +kernel
theorem dX1_init_62 : decode cX1_init 62 = .ok (.getfield 9, 3) := by decide +kernel
theorem dX1_init_65 : decode cX1_init 65 = .ok (.iconst 4, 1) := by decide +kernel
theorem dX1_init_66 : decode cX1_init 66 = .ok (.bipush 10, 2) := by decide +kernel
theorem dX1_init_68 : decode cX1_init 68 = .ok (.invokestatic 33, 3) := by decide +kernel
theorem dX1_init_71 : decode cX1_init 71 = .ok (.return_, 1) := by decide +kernel
set_option maxRecDepth 20000 in
theorem ggX1_copyFrom_X5_copy : GoodIn wsX1_copyFrom wsX5_copy := goodIn_r _ [10, 11, 12, 13, 14, 15, 16, 17, 18] (by decide +kernel) (by decide +kernel)
set_option maxRecDepth 20000 in
theorem gX1_copyFrom_X5_copy_n37 : GoodIn wsX1_copyFrom (wsX5_copy) := ggX1_copyFrom_X5_copy
theorem dX1_copyFrom_0 : decode cX1_copyFrom 0 = .ok (.aload_n 1, 1) := by decide +kernel
theorem dX1_copyFrom_1 : decode cX1_copyFrom 1 = .ok (.getfield 9, 3) := by decide +kernel
theorem dX1_copyFrom_4 : decode cX1_copyFrom 4 = .ok (.aload_n 0, 1) := by decide +kernel
theorem dX1_copyFrom_5 : decode cX1_copyFrom 5 = .ok (.getfield 9, 3) := by decide +kernel
theorem dX1_copyFrom_8 : decode cX1_copyFrom 8 = .ok (.invokestatic 37, 3) := by decide +kernel
theorem dX1_copyFrom_11 : decode cX1_copyFrom 11 = .ok (.aload_n 1, 1) := by decide +kernel
theorem dX1_copyFrom_12 : decode cX1_copyFrom 12 = .ok (.getfield 15, 3) := by decide +kernel
theorem dX1_copyFrom_15 : decode cX1_copyFrom 15 = .ok (.aload_n 0, 1) := by decide +kernel
theorem dX1_copyFrom_16 : decode cX1_copyFrom 16 = .ok (.getfield 15, 3) := by decide +kernel
theorem dX1_copyFrom_19 : decode cX1_copyFrom 19 = .ok (.invokestatic 37, 3) := by decide +kernel
theorem dX1_copyFrom_22 : decode cX1_copyFrom 22 = .ok (.aload_n 1, 1) := by decide +kernel
theorem dX1_copyFrom_23 : decode cX1_copyFrom 23 = .ok (.getfield 18, 3) := by decide +kernel
theorem dX1_copyFrom_26 : decode cX1_copyFrom 26 = .ok (.aload_n 0, 1) := by decide +kernel
theorem dX1_copyFrom_27 : decode cX1_copyFrom 27 = .ok (.getfield 18, 3) := by decide +kernel
theorem dX1_copyFrom_30 : decode cX1_copyFrom 30 = .ok (.invokestatic 37, 3) := by decide +kernel
theorem dX1_copyFrom_33 : decode cX1_copyFrom 33 = .ok (.aload_n 1, 1) := by decide +kernel
theorem dX1_copyFrom_34 : decode cX1_copyFrom 34 = .ok (.getfield 21, 3) := by decide +kernel
theorem dX1_copyFrom_37 : decode cX1_copyFrom 37 = .ok (.aload_n 0, 1) := by decide +kernel
theorem dX1_copyFrom_38 : decode cX1_copyFrom 38 = .ok (.getfield 21, 3) := by decide +kernel
theorem dX1_copyFrom_41 : decode cX1_copyFrom 41 = .ok (.invokestatic 37, 3) := by decide +kernel
theorem dX1_copyFrom_44 : decode cX1_copyFrom 44 = .ok (.aload_n 1, 1) := by decide +kernel
theorem dX1_copyFrom_45 : decode cX1_copyFrom 45 = .ok (.getfield 24, 3) := by decide +kernel
theorem dX1_copyFrom_48 : decode cX1_copyFrom 48 = .ok (.aload_n 0, 1) := by decide +kernel
theorem dX1_copyFrom_49 : decode cX1_copyFrom 49 = .ok (.getfield 24, 3) := by decide +kernel
theorem dX1_copyFrom_52 : decode cX1_copyFrom 52 = .ok (.invokestatic 37, 3) := by decide +kernel
theorem dX1_copyFrom_55 : decode cX1_copyFrom 55 = .ok (.aload_n 1, 1) := by decide +kernel
theorem dX1_copyFrom_56 : decode cX1_copyFrom 56 = .ok (.getfield 27, 3) := by decide +kernel
theorem dX1_copyFrom_59 : decode cX1_copyFrom 59 = .ok (.aload_n 0, 1) := by decide +kernel
theorem dX1_copyFrom_60 : decode cX1_copyFrom 60 = .ok (.getfield 27, 3) := by decide +kernel
theorem dX1_copyFrom_63 : decode cX1_copyFrom 63 = .ok (.invokestatic 37, 3) := by decide +kernel
theorem dX1_copyFrom_66 : decode cX1_copyFrom 66 = .ok (.aload_n 1, 1) := by decide +kernel
theorem dX1_copyFrom_67 : decode cX1_copyFrom 67 = .ok (.getfield 30, 3) := by decide +kernel
theorem dX1_copyFrom_70 : decode cX1_copyFrom 70 = .ok (.aload_n 0, 1) := by decide +kernel
theorem dX1_copyFrom_71 : decode cX1_copyFrom 71 = .ok (.getfield 30, 3) := by decide +kernel
theorem dX1_copyFrom_74 : decode cX1_copyFrom 74 = .ok (.invokestatic 37, 3) := by decide +kernel
theorem dX1_copyFrom_77 : decode cX1_copyFrom 77 = .ok (.return_, 1) := by decide +kernel
set_option maxRecDepth 20000 in
theorem ggX1_number_X1_aliveNodes : GoodIn wsX1_number wsX1_aliveNodes := goodIn_r _ [6, 1, 7, 8, 9, 10, 18, 19, 20, 21, 22, 23, 24] (by decide +kernel) (by decide +kernel)
set_option maxRecDepth 20000 in
theorem gX1_number_X1_aliveNodes : GoodIn wsX1_number (wsV RX1 41 RX1 yX1_aliveNodes wsX1_aliveNodes) := goodIn_app (goodIn_of _ (by decide +kernel)) ggX1_number_X1_aliveNodes
set_option maxRecDepth 20000 in
theorem ggX1_number_J6_bitCount_0f7a4 : GoodIn wsX1_number wsJ6_bitCount_0f7a4 := goodIn_r _ [14, 15, 16, 17] (by decide +kernel) (by decide +kernel)
set_option maxRecDepth 20000 in
theorem gX1_number_J6_bitCount_0f7a4 : GoodIn wsX1_number (va_wsS RX1 45 yJ6_bitCount_0f7a4 wsJ6_bitCount_0f7a4) := goodIn_app (goodIn_of _ (by decide +kernel)) ggX1_number_J6_bitCount_0f7a4
set_option maxRecDepth 20000 in
theorem ggX1_number_X5_at : GoodIn wsX1_number wsX5_at := goodIn_r _ [10] (by decide +kernel) (by decide +kernel)
set_option maxRecDepth 20000 in
theorem gX1_number_X5_at_n51 : GoodIn wsX1_number (wsX5_at) := ggX1_number_X5_at
theorem dX1_number_0 : decode cX1_number 0 = .ok (.iload_n 1, 1) := by decide +kernel
theorem dX1_number_1 : decode cX1_number 1 = .ok (.bipush 6, 2) := by decide +kernel
theorem dX1_number_3 : decode cX1_number 3 = .ok (.if_icmp .ne 13, 3) := by decide +kernel
theorem dX1_number_6 : decode cX1_number 6 = .ok (.aload_n 0, 1) := by decide +kernel
theorem dX1_number_7 : decode cX1_number 7 = .ok (.invokevirtual 41, 3) := by decide +kernel
theorem dX1_number_10 : decode cX1_number 10 = .ok (.invokestatic 45, 3) := by decide +kernel
theorem dX1_number_13 : decode cX1_number 13 = .ok (.goto 11, 3) := by decide +kernel
theorem dX1_number_16 : decode cX1_number 16 = .ok (.aload_n 0, 1) := by decide +kernel
theorem dX1_number_17 : decode cX1_number 17 = .ok (.getfield 9, 3) := by decide +kernel
theorem dX1_number_20 : decode cX1_number 20 = .ok (.iload_n 1, 1) := by decide +kernel
theorem dX1_number_21 : decode cX1_number 21 = .ok (.invokestatic 51, 3) := by decide +kernel
theorem dX1_number_24 : decode cX1_number 24 = .ok (.ireturn, 1) := by decide +kernel
set_option maxRecDepth 20000 in
theorem ggX1_setNumber_X5_put : GoodIn wsX1_setNumber wsX5_put := goodIn_r _ [4] (by decide +kernel) (by decide +kernel)
set_option maxRecDepth 20000 in
theorem gX1_setNumber_X5_put_n33 : GoodIn wsX1_setNumber (wsX5_put) := ggX1_setNumber_X5_put
theorem dX1_setNumber_0 : decode cX1_setNumber 0 = .ok (.aload_n 0, 1) := by decide +kernel
theorem dX1_setNumber_1 : decode cX1_setNumber 1 = .ok (.getfield 9, 3) := by decide +kernel
theorem dX1_setNumber_4 : decode cX1_setNumber 4 = .ok (.iload_n 1, 1) := by decide +kernel
theorem dX1_setNumber_5 : decode cX1_setNumber 5 = .ok (.iload_n 2, 1) := by decide +kernel
theorem dX1_setNumber_6 : decode cX1_setNumber 6 = .ok (.invokestatic 33, 3) := by decide +kernel
theorem dX1_setNumber_9 : decode cX1_setNumber 9 = .ok (.return_, 1) := by decide +kernel
set_option maxRecDepth 20000 in
theorem ggX1_raise_X5_increase : GoodIn wsX1_raise wsX5_increase := goodIn_r _ [4, 5, 6, 3, 7, 8, 9, 10] (by decide +kernel) (by decide +kernel)
set_option maxRecDepth 20000 in
theorem gX1_raise_X5_increase_n55 : GoodIn wsX1_raise (wsX5_increase) := ggX1_raise_X5_increase
theorem dX1_raise_0 : decode cX1_raise 0 = .ok (.aload_n 0, 1) := by decide +kernel
theorem dX1_raise_1 : decode cX1_raise 1 = .ok (.getfield 9, 3) := by decide +kernel
theorem dX1_raise_4 : decode cX1_raise 4 = .ok (.iload_n 1, 1) := by decide +kernel
theorem dX1_raise_5 : decode cX1_raise 5 = .ok (.iload_n 2, 1) := by decide +kernel
theorem dX1_raise_6 : decode cX1_raise 6 = .ok (.invokestatic 55, 3) := by decide +kernel
theorem dX1_raise_9 : decode cX1_raise 9 = .ok (.return_, 1) := by decide +kernel
set_option maxRecDepth 20000 in
theorem ggX1_has_X5_at : GoodIn wsX1_has wsX5_at := goodIn_r _ [4] (by decide +kernel) (by decide +kernel)
set_option maxRecDepth 20000 in
theorem gX1_has_X5_at_n51 : GoodIn wsX1_has (wsX5_at) := ggX1_has_X5_at
theorem dX1_has_0 : decode cX1_has 0 = .ok (.iload_n 2, 1) := by decide +kernel
theorem dX1_has_1 : decode cX1_has 1 = .ok (.ifCond .lt 19, 3) := by decide +kernel
theorem dX1_has_4 : decode cX1_has 4 = .ok (.iload_n 2, 1) := by decide +kernel
theorem dX1_has_5 : decode cX1_has 5 = .ok (.aload_n 0, 1) := by decide +kernel
theorem dX1_has_6 : decode cX1_has 6 = .ok (.getfield 9, 3) := by decide +kernel
theorem dX1_has_9 : decode cX1_has 9 = .ok (.iload_n 1, 1) := by decide +kernel
theorem dX1_has_10 : decode cX1_has 10 = .ok (.invokestatic 51, 3) := by decide +kernel
theorem dX1_has_13 : decode cX1_has 13 = .ok (.if_icmp .ge 7, 3) := by decide +kernel
theorem dX1_has_16 : decode cX1_has 16 = .ok (.iconst 1, 1) := by decide +kernel
theorem dX1_has_17 : decode cX1_has 17 = .ok (.goto 4, 3) := by decide +kernel
theorem dX1_has_20 : decode cX1_has 20 = .ok (.iconst 0, 1) := by decide +kernel
theorem dX1_has_21 : decode cX1_has 21 = .ok (.ireturn, 1) := by decide +kernel
set_option maxRecDepth 20000 in
theorem ggX1_energyOf_X5_at : GoodIn wsX1_energyOf wsX5_at := goodIn_r _ [4] (by decide +kernel) (by decide +kernel)
set_option maxRecDepth 20000 in
theorem gX1_energyOf_X5_at_n51 : GoodIn wsX1_energyOf (wsX5_at) := ggX1_energyOf_X5_at
theorem dX1_energyOf_0 : decode cX1_energyOf 0 = .ok (.aload_n 0, 1) := by decide +kernel
theorem dX1_energyOf_1 : decode cX1_energyOf 1 = .ok (.getfield 15, 3) := by decide +kernel
theorem dX1_energyOf_4 : decode cX1_energyOf 4 = .ok (.iload_n 1, 1) := by decide +kernel
theorem dX1_energyOf_5 : decode cX1_energyOf 5 = .ok (.invokestatic 51, 3) := by decide +kernel
theorem dX1_energyOf_8 : decode cX1_energyOf 8 = .ok (.ireturn, 1) := by decide +kernel
set_option maxRecDepth 20000 in
theorem ggX1_setEnergy_X5_put : GoodIn wsX1_setEnergy wsX5_put := goodIn_r _ [4] (by decide +kernel) (by decide +kernel)
set_option maxRecDepth 20000 in
theorem gX1_setEnergy_X5_put_n33 : GoodIn wsX1_setEnergy (wsX5_put) := ggX1_setEnergy_X5_put
theorem dX1_setEnergy_0 : decode cX1_setEnergy 0 = .ok (.aload_n 0, 1) := by decide +kernel
theorem dX1_setEnergy_1 : decode cX1_setEnergy 1 = .ok (.getfield 15, 3) := by decide +kernel
theorem dX1_setEnergy_4 : decode cX1_setEnergy 4 = .ok (.iload_n 1, 1) := by decide +kernel
theorem dX1_setEnergy_5 : decode cX1_setEnergy 5 = .ok (.iload_n 2, 1) := by decide +kernel
theorem dX1_setEnergy_6 : decode cX1_setEnergy 6 = .ok (.invokestatic 33, 3) := by decide +kernel
theorem dX1_setEnergy_9 : decode cX1_setEnergy 9 = .ok (.return_, 1) := by decide +kernel
set_option maxRecDepth 20000 in
theorem ggX1_aliveNodes_X5_at : GoodIn wsX1_aliveNodes wsX5_at := goodIn_r _ [5] (by decide +kernel) (by decide +kernel)
set_option maxRecDepth 20000 in
theorem gX1_aliveNodes_X5_at_n51 : GoodIn wsX1_aliveNodes (wsX5_at) := ggX1_aliveNodes_X5_at
theorem dX1_aliveNodes_0 : decode cX1_aliveNodes 0 = .ok (.iconst 0, 1) := by decide +kernel
theorem dX1_aliveNodes_1 : decode cX1_aliveNodes 1 = .ok (.istore_n 1, 1) := by decide +kernel
theorem dX1_aliveNodes_2 : decode cX1_aliveNodes 2 = .ok (.iconst 0, 1) := by decide +kernel
theorem dX1_aliveNodes_3 : decode cX1_aliveNodes 3 = .ok (.istore_n 2, 1) := by decide +kernel
theorem dX1_aliveNodes_4 : decode cX1_aliveNodes 4 = .ok (.iload_n 2, 1) := by decide +kernel
theorem dX1_aliveNodes_5 : decode cX1_aliveNodes 5 = .ok (.aload_n 0, 1) := by decide +kernel
theorem dX1_aliveNodes_6 : decode cX1_aliveNodes 6 = .ok (.getfield 9, 3) := by decide +kernel
theorem dX1_aliveNodes_9 : decode cX1_aliveNodes 9 = .ok (.iconst 0, 1) := by decide +kernel
theorem dX1_aliveNodes_10 : decode cX1_aliveNodes 10 = .ok (.invokestatic 51, 3) := by decide +kernel
theorem dX1_aliveNodes_13 : decode cX1_aliveNodes 13 = .ok (.if_icmp .ge 26, 3) := by decide +kernel
theorem dX1_aliveNodes_16 : decode cX1_aliveNodes 16 = .ok (.aload_n 0, 1) := by decide +kernel
theorem dX1_aliveNodes_17 : decode cX1_aliveNodes 17 = .ok (.getfield 15, 3) := by decide +kernel
theorem dX1_aliveNodes_20 : decode cX1_aliveNodes 20 = .ok (.iload_n 2, 1) := by decide +kernel
theorem dX1_aliveNodes_21 : decode cX1_aliveNodes 21 = .ok (.invokestatic 51, 3) := by decide +kernel
theorem dX1_aliveNodes_24 : decode cX1_aliveNodes 24 = .ok (.ifCond .le 9, 3) := by decide +kernel
theorem dX1_aliveNodes_27 : decode cX1_aliveNodes 27 = .ok (.iload_n 1, 1) := by decide +kernel
theorem dX1_aliveNodes_28 : decode cX1_aliveNodes 28 = .ok (.iconst 1, 1) := by decide +kernel
theorem dX1_aliveNodes_29 : decode cX1_aliveNodes 29 = .ok (.iload_n 2, 1) := by decide +kernel
theorem dX1_aliveNodes_30 : decode cX1_aliveNodes 30 = .ok (.ishl, 1) := by decide +kernel
theorem dX1_aliveNodes_31 : decode cX1_aliveNodes 31 = .ok (.ior, 1) := by decide +kernel
theorem dX1_aliveNodes_32 : decode cX1_aliveNodes 32 = .ok (.istore_n 1, 1) := by decide +kernel
theorem dX1_aliveNodes_33 : decode cX1_aliveNodes 33 = .ok (.iinc 2 1, 3) := by decide +kernel
theorem dX1_aliveNodes_36 : decode cX1_aliveNodes 36 = .ok (.goto (-32), 3) := by decide +kernel
theorem dX1_aliveNodes_39 : decode cX1_aliveNodes 39 = .ok (.iload_n 1, 1) := by decide +kernel
theorem dX1_aliveNodes_40 : decode cX1_aliveNodes 40 = .ok (.ireturn, 1) := by decide +kernel
set_option maxRecDepth 20000 in
theorem ggX1_spend_X5_at : GoodIn wsX1_spend wsX5_at := goodIn_r _ [9] (by decide +kernel) (by decide +kernel)
set_option maxRecDepth 20000 in
theorem gX1_spend_X5_at_n51 : GoodIn wsX1_spend (wsX5_at) := ggX1_spend_X5_at
set_option maxRecDepth 20000 in
theorem ggX1_spend_X5_increase : GoodIn wsX1_spend wsX5_increase := goodIn_r _ [11, 12, 7, 8, 9, 13, 14, 15] (by decide +kernel) (by decide +kernel)
set_option maxRecDepth 20000 in
theorem gX1_spend_X5_increase_n55 : GoodIn wsX1_spend (wsX5_increase) := ggX1_spend_X5_increase
theorem dX1_spend_0 : decode cX1_spend 0 = .ok (.iload_n 2, 1) := by decide +kernel
theorem dX1_spend_1 : decode cX1_spend 1 = .ok (.aload_n 0, 1) := by decide +kernel
theorem dX1_spend_2 : decode cX1_spend 2 = .ok (.getfield 15, 3) := by decide +kernel
theorem dX1_spend_5 : decode cX1_spend 5 = .ok (.iload_n 1, 1) := by decide +kernel
theorem dX1_spend_6 : decode cX1_spend 6 = .ok (.invokestatic 51, 3) := by decide +kernel
theorem dX1_spend_9 : decode cX1_spend 9 = .ok (.invokestatic 58, 3) := by decide +kernel
theorem dX1_spend_12 : decode cX1_spend 12 = .ok (.istore_n 3, 1) := by decide +kernel
theorem dX1_spend_13 : decode cX1_spend 13 = .ok (.aload_n 0, 1) := by decide +kernel
theorem dX1_spend_14 : decode cX1_spend 14 = .ok (.getfield 15, 3) := by decide +kernel
theorem dX1_spend_17 : decode cX1_spend 17 = .ok (.iload_n 1, 1) := by decide +kernel
theorem dX1_spend_18 : decode cX1_spend 18 = .ok (.iload_n 3, 1) := by decide +kernel
theorem dX1_spend_19 : decode cX1_spend 19 = .ok (.ineg, 1) := by decide +kernel
theorem dX1_spend_20 : decode cX1_spend 20 = .ok (.invokestatic 55, 3) := by decide +kernel
theorem dX1_spend_23 : decode cX1_spend 23 = .ok (.aload_n 0, 1) := by decide +kernel
theorem dX1_spend_24 : decode cX1_spend 24 = .ok (.getfield 9, 3) := by decide +kernel
theorem dX1_spend_27 : decode cX1_spend 27 = .ok (.bipush 10, 2) := by decide +kernel
theorem dX1_spend_29 : decode cX1_spend 29 = .ok (.iload_n 3, 1) := by decide +kernel
theorem dX1_spend_30 : decode cX1_spend 30 = .ok (.invokestatic 55, 3) := by decide +kernel
theorem dX1_spend_33 : decode cX1_spend 33 = .ok (.return_, 1) := by decide +kernel
set_option maxRecDepth 20000 in
theorem ggX1_appendNode_X5_at : GoodIn wsX1_appendNode wsX5_at := goodIn_r _ [5] (by decide +kernel) (by decide +kernel)
set_option maxRecDepth 20000 in
theorem gX1_appendNode_X5_at_n51 : GoodIn wsX1_appendNode (wsX5_at) := ggX1_appendNode_X5_at
set_option maxRecDepth 20000 in
theorem ggX1_appendNode_X5_put : GoodIn wsX1_appendNode wsX5_put := goodIn_r _ [7] (by decide +kernel) (by decide +kernel)
set_option maxRecDepth 20000 in
theorem gX1_appendNode_X5_put_n33 : GoodIn wsX1_appendNode (wsX5_put) := ggX1_appendNode_X5_put
theorem dX1_appendNode_0 : decode cX1_appendNode 0 = .ok (.aload_n 0, 1) := by decide +kernel
theorem dX1_appendNode_1 : decode cX1_appendNode 1 = .ok (.getfield 9, 3) := by decide +kernel
theorem dX1_appendNode_4 : decode cX1_appendNode 4 = .ok (.iconst 0, 1) := by decide +kernel
theorem dX1_appendNode_5 : decode cX1_appendNode 5 = .ok (.invokestatic 51, 3) := by decide +kernel
theorem dX1_appendNode_8 : decode cX1_appendNode 8 = .ok (.istore_n 2, 1) := by decide +kernel
theorem dX1_appendNode_9 : decode cX1_appendNode 9 = .ok (.aload_n 0, 1) := by decide +kernel
theorem dX1_appendNode_10 : decode cX1_appendNode 10 = .ok (.getfield 15, 3) := by decide +kernel
theorem dX1_appendNode_13 : decode cX1_appendNode 13 = .ok (.iload_n 2, 1) := by decide +kernel
theorem dX1_appendNode_14 : decode cX1_appendNode 14 = .ok (.iload_n 1, 1) := by decide +kernel
theorem dX1_appendNode_15 : decode cX1_appendNode 15 = .ok (.invokestatic 33, 3) := by decide +kernel
theorem dX1_appendNode_18 : decode cX1_appendNode 18 = .ok (.aload_n 0, 1) := by decide +kernel
theorem dX1_appendNode_19 : decode cX1_appendNode 19 = .ok (.getfield 9, 3) := by decide +kernel
theorem dX1_appendNode_22 : decode cX1_appendNode 22 = .ok (.iconst 0, 1) := by decide +kernel
theorem dX1_appendNode_23 : decode cX1_appendNode 23 = .ok (.iload_n 2, 1) := by decide +kernel
theorem dX1_appendNode_24 : decode cX1_appendNode 24 = .ok (.iconst 1, 1) := by decide +kernel
theorem dX1_appendNode_25 : decode cX1_appendNode 25 = .ok (.iadd, 1) := by decide +kernel
theorem dX1_appendNode_26 : decode cX1_appendNode 26 = .ok (.invokestatic 33, 3) := by decide +kernel
theorem dX1_appendNode_29 : decode cX1_appendNode 29 = .ok (.iload_n 2, 1) := by decide +kernel
theorem dX1_appendNode_30 : decode cX1_appendNode 30 = .ok (.ireturn, 1) := by decide +kernel
set_option maxRecDepth 20000 in
theorem ggX1_appendLink_X5_at : GoodIn wsX1_appendLink wsX5_at := goodIn_r _ [5] (by decide +kernel) (by decide +kernel)
set_option maxRecDepth 20000 in
theorem gX1_appendLink_X5_at_n51 : GoodIn wsX1_appendLink (wsX5_at) := ggX1_appendLink_X5_at
set_option maxRecDepth 20000 in
theorem ggX1_appendLink_X5_put : GoodIn wsX1_appendLink wsX5_put := goodIn_r _ [7] (by decide +kernel) (by decide +kernel)
set_option maxRecDepth 20000 in
theorem gX1_appendLink_X5_put_n33 : GoodIn wsX1_appendLink (wsX5_put) := ggX1_appendLink_X5_put
theorem dX1_appendLink_0 : decode cX1_appendLink 0 = .ok (.aload_n 0, 1) := by decide +kernel
theorem dX1_appendLink_1 : decode cX1_appendLink 1 = .ok (.getfield 9, 3) := by decide +kernel
theorem dX1_appendLink_4 : decode cX1_appendLink 4 = .ok (.iconst 1, 1) := by decide +kernel
theorem dX1_appendLink_5 : decode cX1_appendLink 5 = .ok (.invokestatic 51, 3) := by decide +kernel
theorem dX1_appendLink_8 : decode cX1_appendLink 8 = .ok (.istore 4, 2) := by decide +kernel
theorem dX1_appendLink_10 : decode cX1_appendLink 10 = .ok (.aload_n 0, 1) := by decide +kernel
theorem dX1_appendLink_11 : decode cX1_appendLink 11 = .ok (.getfield 18, 3) := by decide +kernel
theorem dX1_appendLink_14 : decode cX1_appendLink 14 = .ok (.iload 4, 2) := by decide +kernel
theorem dX1_appendLink_16 : decode cX1_appendLink 16 = .ok (.iconst 3, 1) := by decide +kernel
theorem dX1_appendLink_17 : decode cX1_appendLink 17 = .ok (.imul, 1) := by decide +kernel
theorem dX1_appendLink_18 : decode cX1_appendLink 18 = .ok (.iconst 0, 1) := by decide +kernel
theorem dX1_appendLink_19 : decode cX1_appendLink 19 = .ok (.iadd, 1) := by decide +kernel
theorem dX1_appendLink_20 : decode cX1_appendLink 20 = .ok (.iload_n 1, 1) := by decide +kernel
theorem dX1_appendLink_21 : decode cX1_appendLink 21 = .ok (.invokestatic 33, 3) := by decide +kernel
theorem dX1_appendLink_24 : decode cX1_appendLink 24 = .ok (.aload_n 0, 1) := by decide +kernel
theorem dX1_appendLink_25 : decode cX1_appendLink 25 = .ok (.getfield 18, 3) := by decide +kernel
theorem dX1_appendLink_28 : decode cX1_appendLink 28 = .ok (.iload 4, 2) := by decide +kernel
theorem dX1_appendLink_30 : decode cX1_appendLink 30 = .ok (.iconst 3, 1) := by decide +kernel
theorem dX1_appendLink_31 : decode cX1_appendLink 31 = .ok (.imul, 1) := by decide +kernel
theorem dX1_appendLink_32 : decode cX1_appendLink 32 = .ok (.iconst 1, 1) := by decide +kernel
theorem dX1_appendLink_33 : decode cX1_appendLink 33 = .ok (.iadd, 1) := by decide +kernel
theorem dX1_appendLink_34 : decode cX1_appendLink 34 = .ok (.iload_n 2, 1) := by decide +kernel
theorem dX1_appendLink_35 : decode cX1_appendLink 35 = .ok (.invokestatic 33, 3) := by decide +kernel
theorem dX1_appendLink_38 : decode cX1_appendLink 38 = .ok (.aload_n 0, 1) := by decide +kernel
theorem dX1_appendLink_39 : decode cX1_appendLink 39 = .ok (.getfield 18, 3) := by decide +kernel
theorem dX1_appendLink_42 : decode cX1_appendLink 42 = .ok (.iload 4, 2) := by decide +kernel
theorem dX1_appendLink_44 : decode cX1_appendLink 44 = .ok (.iconst 3, 1) := by decide +kernel
theorem dX1_appendLink_45 : decode cX1_appendLink 45 = .ok (.imul, 1) := by decide +kernel
theorem dX1_appendLink_46 : decode cX1_appendLink 46 = .ok (.iconst 2, 1) := by decide +kernel
theorem dX1_appendLink_47 : decode cX1_appendLink 47 = .ok (.iadd, 1) := by decide +kernel
theorem dX1_appendLink_48 : decode cX1_appendLink 48 = .ok (.iload_n 3, 1) := by decide +kernel
theorem dX1_appendLink_49 : decode cX1_appendLink 49 = .ok (.invokestatic 33, 3) := by decide +kernel
theorem dX1_appendLink_52 : decode cX1_appendLink 52 = .ok (.aload_n 0, 1) := by decide +kernel
theorem dX1_appendLink_53 : decode cX1_appendLink 53 = .ok (.getfield 9, 3) := by decide +kernel
theorem dX1_appendLink_56 : decode cX1_appendLink 56 = .ok (.iconst 1, 1) := by decide +kernel
theorem dX1_appendLink_57 : decode cX1_appendLink 57 = .ok (.iload 4, 2) := by decide +kernel
theorem dX1_appendLink_59 : decode cX1_appendLink 59 = .ok (.iconst 1, 1) := by decide +kernel
theorem dX1_appendLink_60 : decode cX1_appendLink 60 = .ok (.iadd, 1) := by decide +kernel
theorem dX1_appendLink_61 : decode cX1_appendLink 61 = .ok (.invokestatic 33, 3) := by decide +kernel
theorem dX1_appendLink_64 : decode cX1_appendLink 64 = .ok (.iload 4, 2) := by decide +kernel
theorem dX1_appendLink_66 : decode cX1_appendLink 66 = .ok (.ireturn, 1) := by decide +kernel
set_option maxRecDepth 20000 in
theorem ggX1_removeLink_X5_removePiece : GoodIn wsX1_removeLink wsX5_removePiece := goodIn_r _ [5, 6, 7, 4, 8, 9, 10, 11] (by decide +kernel) (by decide +kernel)
set_option maxRecDepth 20000 in
theorem gX1_removeLink_X5_removePiece_n64 : GoodIn wsX1_removeLink (wsX5_removePiece) := ggX1_removeLink_X5_removePiece
set_option maxRecDepth 20000 in
theorem ggX1_removeLink_X5_increase : GoodIn wsX1_removeLink wsX5_increase := goodIn_r _ [13, 6, 7, 4, 8, 9, 10, 11] (by decide +kernel) (by decide +kernel)
set_option maxRecDepth 20000 in
theorem gX1_removeLink_X5_increase_n55 : GoodIn wsX1_removeLink (wsX5_increase) := ggX1_removeLink_X5_increase
set_option maxRecDepth 20000 in
theorem ggX1_removeLink_X5_at : GoodIn wsX1_removeLink wsX5_at := goodIn_r _ [8] (by decide +kernel) (by decide +kernel)
set_option maxRecDepth 20000 in
theorem gX1_removeLink_X5_at_n51 : GoodIn wsX1_removeLink (wsX5_at) := ggX1_removeLink_X5_at
theorem dX1_removeLink_0 : decode cX1_removeLink 0 = .ok (.aload_n 0, 1) := by decide +kernel
theorem dX1_removeLink_1 : decode cX1_removeLink 1 = .ok (.getfield 18, 3) := by decide +kernel
theorem dX1_removeLink_4 : decode cX1_removeLink 4 = .ok (.iconst 3, 1) := by decide +kernel
theorem dX1_removeLink_5 : decode cX1_removeLink 5 = .ok (.iload_n 1, 1) := by decide +kernel
theorem dX1_removeLink_6 : decode cX1_removeLink 6 = .ok (.invokestatic 64, 3) := by decide +kernel
theorem dX1_removeLink_9 : decode cX1_removeLink 9 = .ok (.aload_n 0, 1) := by decide +kernel
theorem dX1_removeLink_10 : decode cX1_removeLink 10 = .ok (.getfield 9, 3) := by decide +kernel
theorem dX1_removeLink_13 : decode cX1_removeLink 13 = .ok (.iconst 1, 1) := by decide +kernel
theorem dX1_removeLink_14 : decode cX1_removeLink 14 = .ok (.iconst (-1), 1) := by decide +kernel
theorem dX1_removeLink_15 : decode cX1_removeLink 15 = .ok (.invokestatic 55, 3) := by decide +kernel
theorem dX1_removeLink_18 : decode cX1_removeLink 18 = .ok (.aload_n 0, 1) := by decide +kernel
theorem dX1_removeLink_19 : decode cX1_removeLink 19 = .ok (.getfield 9, 3) := by decide +kernel
theorem dX1_removeLink_22 : decode cX1_removeLink 22 = .ok (.iconst 1, 1) := by decide +kernel
theorem dX1_removeLink_23 : decode cX1_removeLink 23 = .ok (.invokestatic 51, 3) := by decide +kernel
theorem dX1_removeLink_26 : decode cX1_removeLink 26 = .ok (.ireturn, 1) := by decide +kernel
set_option maxRecDepth 20000 in
theorem ggX1_partOfLink_X5_at : GoodIn wsX1_partOfLink wsX5_at := goodIn_r _ [4] (by decide +kernel) (by decide +kernel)
set_option maxRecDepth 20000 in
theorem gX1_partOfLink_X5_at_n51 : GoodIn wsX1_partOfLink (wsX5_at) := ggX1_partOfLink_X5_at
theorem dX1_partOfLink_0 : decode cX1_partOfLink 0 = .ok (.aload_n 0, 1) := by decide +kernel
theorem dX1_partOfLink_1 : decode cX1_partOfLink 1 = .ok (.getfield 18, 3) := by decide +kernel
theorem dX1_partOfLink_4 : decode cX1_partOfLink 4 = .ok (.iload_n 1, 1) := by decide +kernel
theorem dX1_partOfLink_5 : decode cX1_partOfLink 5 = .ok (.iconst 3, 1) := by decide +kernel
theorem dX1_partOfLink_6 : decode cX1_partOfLink 6 = .ok (.imul, 1) := by decide +kernel
theorem dX1_partOfLink_7 : decode cX1_partOfLink 7 = .ok (.iload_n 2, 1) := by decide +kernel
theorem dX1_partOfLink_8 : decode cX1_partOfLink 8 = .ok (.iadd, 1) := by decide +kernel
theorem dX1_partOfLink_9 : decode cX1_partOfLink 9 = .ok (.invokestatic 51, 3) := by decide +kernel
theorem dX1_partOfLink_12 : decode cX1_partOfLink 12 = .ok (.ireturn, 1) := by decide +kernel
set_option maxRecDepth 20000 in
theorem ggX1_areLinked_X5_at : GoodIn wsX1_areLinked wsX5_at := goodIn_r _ [4] (by decide +kernel) (by decide +kernel)
set_option maxRecDepth 20000 in
theorem gX1_areLinked_X5_at_n51 : GoodIn wsX1_areLinked (wsX5_at) := ggX1_areLinked_X5_at
set_option maxRecDepth 20000 in
theorem ggX1_areLinked_X1_partOfLink : GoodIn wsX1_areLinked wsX1_partOfLink := goodIn_r _ [9, 10, 2, 3, 4, 14, 15, 16, 17, 18, 19, 20] (by decide +kernel) (by decide +kernel)
set_option maxRecDepth 20000 in
theorem gX1_areLinked_X1_partOfLink : GoodIn wsX1_areLinked (wsV RX1 67 RX1 yX1_partOfLink wsX1_partOfLink) := goodIn_app (goodIn_of _ (by decide +kernel)) ggX1_areLinked_X1_partOfLink
set_option maxRecDepth 20000 in
theorem ggX1_areLinked_X1_isPair : GoodIn wsX1_areLinked wsX1_isPair := goodIn_r _ [13] (by decide +kernel) (by decide +kernel)
set_option maxRecDepth 20000 in
theorem gX1_areLinked_X1_isPair : GoodIn wsX1_areLinked (va_wsS RX1 70 yX1_isPair wsX1_isPair) := goodIn_app (goodIn_of _ (by decide +kernel)) ggX1_areLinked_X1_isPair
theorem dX1_areLinked_0 : decode cX1_areLinked 0 = .ok (.iconst 0, 1) := by decide +kernel
theorem dX1_areLinked_1 : decode cX1_areLinked 1 = .ok (.istore_n 3, 1) := by decide +kernel
theorem dX1_areLinked_2 : decode cX1_areLinked 2 = .ok (.iload_n 3, 1) := by decide +kernel
theorem dX1_areLinked_3 : decode cX1_areLinked 3 = .ok (.aload_n 0, 1) := by decide +kernel
theorem dX1_areLinked_4 : decode cX1_areLinked 4 = .ok (.getfield 9, 3) := by decide +kernel
theorem dX1_areLinked_7 : decode cX1_areLinked 7 = .ok (.iconst 1, 1) := by decide +kernel
theorem dX1_areLinked_8 : decode cX1_areLinked 8 = .ok (.invokestatic 51, 3) := by decide +kernel
theorem dX1_areLinked_11 : decode cX1_areLinked 11 = .ok (.if_icmp .ge 31, 3) := by decide +kernel
theorem dX1_areLinked_14 : decode cX1_areLinked 14 = .ok (.aload_n 0, 1) := by decide +kernel
theorem dX1_areLinked_15 : decode cX1_areLinked 15 = .ok (.iload_n 3, 1) := by decide +kernel
theorem dX1_areLinked_16 : decode cX1_areLinked 16 = .ok (.iconst 0, 1) := by decide +kernel
theorem dX1_areLinked_17 : decode cX1_areLinked 17 = .ok (.invokevirtual 67, 3) := by decide +kernel
theorem dX1_areLinked_20 : decode cX1_areLinked 20 = .ok (.aload_n 0, 1) := by decide +kernel
theorem dX1_areLinked_21 : decode cX1_areLinked 21 = .ok (.iload_n 3, 1) := by decide +kernel
theorem dX1_areLinked_22 : decode cX1_areLinked 22 = .ok (.iconst 1, 1) := by decide +kernel
theorem dX1_areLinked_23 : decode cX1_areLinked 23 = .ok (.invokevirtual 67, 3) := by decide +kernel
theorem dX1_areLinked_26 : decode cX1_areLinked 26 = .ok (.iload_n 1, 1) := by decide +kernel
theorem dX1_areLinked_27 : decode cX1_areLinked 27 = .ok (.iload_n 2, 1) := by decide +kernel
theorem dX1_areLinked_28 : decode cX1_areLinked 28 = .ok (.invokestatic 70, 3) := by decide +kernel
theorem dX1_areLinked_31 : decode cX1_areLinked 31 = .ok (.ifCond .eq 5, 3) := by decide +kernel
theorem dX1_areLinked_34 : decode cX1_areLinked 34 = .ok (.iconst 1, 1) := by decide +kernel
theorem dX1_areLinked_35 : decode cX1_areLinked 35 = .ok (.ireturn, 1) := by decide +kernel
theorem dX1_areLinked_36 : decode cX1_areLinked 36 = .ok (.iinc 3 1, 3) := by decide +kernel
theorem dX1_areLinked_39 : decode cX1_areLinked 39 = .ok (.goto (-37), 3) := by decide +kernel
theorem dX1_areLinked_42 : decode cX1_areLinked 42 = .ok (.iconst 0, 1) := by decide +kernel
theorem dX1_areLinked_43 : decode cX1_areLinked 43 = .ok (.ireturn, 1) := by decide +kernel
theorem dX1_isPair_0 : decode cX1_isPair 0 = .ok (.iload_n 0, 1) := by decide +kernel
theorem dX1_isPair_1 : decode cX1_isPair 1 = .ok (.iload_n 2, 1) := by decide +kernel
theorem dX1_isPair_2 : decode cX1_isPair 2 = .ok (.if_icmp .ne 8, 3) := by decide +kernel
theorem dX1_isPair_5 : decode cX1_isPair 5 = .ok (.iload_n 1, 1) := by decide +kernel
theorem dX1_isPair_6 : decode cX1_isPair 6 = .ok (.iload_n 3, 1) := by decide +kernel
theorem dX1_isPair_7 : decode cX1_isPair 7 = .ok (.if_icmp .eq 13, 3) := by decide +kernel
theorem dX1_isPair_10 : decode cX1_isPair 10 = .ok (.iload_n 0, 1) := by decide +kernel
theorem dX1_isPair_11 : decode cX1_isPair 11 = .ok (.iload_n 3, 1) := by decide +kernel
theorem dX1_isPair_12 : decode cX1_isPair 12 = .ok (.if_icmp .ne 12, 3) := by decide +kernel
theorem dX1_isPair_15 : decode cX1_isPair 15 = .ok (.iload_n 1, 1) := by decide +kernel
theorem dX1_isPair_16 : decode cX1_isPair 16 = .ok (.iload_n 2, 1) := by decide +kernel
theorem dX1_isPair_17 : decode cX1_isPair 17 = .ok (.if_icmp .ne 7, 3) := by decide +kernel
theorem dX1_isPair_20 : decode cX1_isPair 20 = .ok (.iconst 1, 1) := by decide +kernel
theorem dX1_isPair_21 : decode cX1_isPair 21 = .ok (.goto 4, 3) := by decide +kernel
theorem dX1_isPair_24 : decode cX1_isPair 24 = .ok (.iconst 0, 1) := by decide +kernel
theorem dX1_isPair_25 : decode cX1_isPair 25 = .ok (.ireturn, 1) := by decide +kernel
set_option maxRecDepth 20000 in
theorem ggX1_appendSensor_X5_at : GoodIn wsX1_appendSensor wsX5_at := goodIn_r _ [5] (by decide +kernel) (by decide +kernel)
set_option maxRecDepth 20000 in
theorem gX1_appendSensor_X5_at_n51 : GoodIn wsX1_appendSensor (wsX5_at) := ggX1_appendSensor_X5_at
set_option maxRecDepth 20000 in
theorem ggX1_appendSensor_X5_put : GoodIn wsX1_appendSensor wsX5_put := goodIn_r _ [7] (by decide +kernel) (by decide +kernel)
set_option maxRecDepth 20000 in
theorem gX1_appendSensor_X5_put_n33 : GoodIn wsX1_appendSensor (wsX5_put) := ggX1_appendSensor_X5_put
theorem dX1_appendSensor_0 : decode cX1_appendSensor 0 = .ok (.aload_n 0, 1) := by decide +kernel
theorem dX1_appendSensor_1 : decode cX1_appendSensor 1 = .ok (.getfield 9, 3) := by decide +kernel
theorem dX1_appendSensor_4 : decode cX1_appendSensor 4 = .ok (.iconst 2, 1) := by decide +kernel
theorem dX1_appendSensor_5 : decode cX1_appendSensor 5 = .ok (.invokestatic 51, 3) := by decide +kernel
theorem dX1_appendSensor_8 : decode cX1_appendSensor 8 = .ok (.istore 4, 2) := by decide +kernel
theorem dX1_appendSensor_10 : decode cX1_appendSensor 10 = .ok (.aload_n 0, 1) := by decide +kernel
theorem dX1_appendSensor_11 : decode cX1_appendSensor 11 = .ok (.getfield 21, 3) := by decide +kernel
theorem dX1_appendSensor_14 : decode cX1_appendSensor 14 = .ok (.iload 4, 2) := by decide +kernel
theorem dX1_appendSensor_16 : decode cX1_appendSensor 16 = .ok (.iconst 3, 1) := by decide +kernel
theorem dX1_appendSensor_17 : decode cX1_appendSensor 17 = .ok (.imul, 1) := by decide +kernel
theorem dX1_appendSensor_18 : decode cX1_appendSensor 18 = .ok (.iconst 0, 1) := by decide +kernel
theorem dX1_appendSensor_19 : decode cX1_appendSensor 19 = .ok (.iadd, 1) := by decide +kernel
theorem dX1_appendSensor_20 : decode cX1_appendSensor 20 = .ok (.iload_n 1, 1) := by decide +kernel
theorem dX1_appendSensor_21 : decode cX1_appendSensor 21 = .ok (.invokestatic 33, 3) := by decide +kernel
theorem dX1_appendSensor_24 : decode cX1_appendSensor 24 = .ok (.aload_n 0, 1) := by decide +kernel
theorem dX1_appendSensor_25 : decode cX1_appendSensor 25 = .ok (.getfield 21, 3) := by decide +kernel
theorem dX1_appendSensor_28 : decode cX1_appendSensor 28 = .ok (.iload 4, 2) := by decide +kernel
theorem dX1_appendSensor_30 : decode cX1_appendSensor 30 = .ok (.iconst 3, 1) := by decide +kernel
theorem dX1_appendSensor_31 : decode cX1_appendSensor 31 = .ok (.imul, 1) := by decide +kernel
theorem dX1_appendSensor_32 : decode cX1_appendSensor 32 = .ok (.iconst 1, 1) := by decide +kernel
theorem dX1_appendSensor_33 : decode cX1_appendSensor 33 = .ok (.iadd, 1) := by decide +kernel
theorem dX1_appendSensor_34 : decode cX1_appendSensor 34 = .ok (.iload_n 2, 1) := by decide +kernel
theorem dX1_appendSensor_35 : decode cX1_appendSensor 35 = .ok (.invokestatic 33, 3) := by decide +kernel
theorem dX1_appendSensor_38 : decode cX1_appendSensor 38 = .ok (.aload_n 0, 1) := by decide +kernel
theorem dX1_appendSensor_39 : decode cX1_appendSensor 39 = .ok (.getfield 21, 3) := by decide +kernel
theorem dX1_appendSensor_42 : decode cX1_appendSensor 42 = .ok (.iload 4, 2) := by decide +kernel
theorem dX1_appendSensor_44 : decode cX1_appendSensor 44 = .ok (.iconst 3, 1) := by decide +kernel
theorem dX1_appendSensor_45 : decode cX1_appendSensor 45 = .ok (.imul, 1) := by decide +kernel
theorem dX1_appendSensor_46 : decode cX1_appendSensor 46 = .ok (.iconst 2, 1) := by decide +kernel
theorem dX1_appendSensor_47 : decode cX1_appendSensor 47 = .ok (.iadd, 1) := by decide +kernel
theorem dX1_appendSensor_48 : decode cX1_appendSensor 48 = .ok (.iload_n 3, 1) := by decide +kernel
theorem dX1_appendSensor_49 : decode cX1_appendSensor 49 = .ok (.invokestatic 33, 3) := by decide +kernel
theorem dX1_appendSensor_52 : decode cX1_appendSensor 52 = .ok (.aload_n 0, 1) := by decide +kernel
theorem dX1_appendSensor_53 : decode cX1_appendSensor 53 = .ok (.getfield 9, 3) := by decide +kernel
theorem dX1_appendSensor_56 : decode cX1_appendSensor 56 = .ok (.iconst 2, 1) := by decide +kernel
theorem dX1_appendSensor_57 : decode cX1_appendSensor 57 = .ok (.iload 4, 2) := by decide +kernel
theorem dX1_appendSensor_59 : decode cX1_appendSensor 59 = .ok (.iconst 1, 1) := by decide +kernel
theorem dX1_appendSensor_60 : decode cX1_appendSensor 60 = .ok (.iadd, 1) := by decide +kernel
theorem dX1_appendSensor_61 : decode cX1_appendSensor 61 = .ok (.invokestatic 33, 3) := by decide +kernel
theorem dX1_appendSensor_64 : decode cX1_appendSensor 64 = .ok (.iload 4, 2) := by decide +kernel
theorem dX1_appendSensor_66 : decode cX1_appendSensor 66 = .ok (.ireturn, 1) := by decide +kernel
set_option maxRecDepth 20000 in
theorem ggX1_sensorPart_X5_at : GoodIn wsX1_sensorPart wsX5_at := goodIn_r _ [4] (by decide +kernel) (by decide +kernel)
set_option maxRecDepth 20000 in
theorem gX1_sensorPart_X5_at_n51 : GoodIn wsX1_sensorPart (wsX5_at) := ggX1_sensorPart_X5_at
theorem dX1_sensorPart_0 : decode cX1_sensorPart 0 = .ok (.aload_n 0, 1) := by decide +kernel
theorem dX1_sensorPart_1 : decode cX1_sensorPart 1 = .ok (.getfield 21, 3) := by decide +kernel
theorem dX1_sensorPart_4 : decode cX1_sensorPart 4 = .ok (.iload_n 1, 1) := by decide +kernel
theorem dX1_sensorPart_5 : decode cX1_sensorPart 5 = .ok (.iconst 3, 1) := by decide +kernel
theorem dX1_sensorPart_6 : decode cX1_sensorPart 6 = .ok (.imul, 1) := by decide +kernel
theorem dX1_sensorPart_7 : decode cX1_sensorPart 7 = .ok (.iload_n 2, 1) := by decide +kernel
theorem dX1_sensorPart_8 : decode cX1_sensorPart 8 = .ok (.iadd, 1) := by decide +kernel
theorem dX1_sensorPart_9 : decode cX1_sensorPart 9 = .ok (.invokestatic 51, 3) := by decide +kernel
theorem dX1_sensorPart_12 : decode cX1_sensorPart 12 = .ok (.ireturn, 1) := by decide +kernel
set_option maxRecDepth 20000 in
theorem ggX1_setValue_X5_put : GoodIn wsX1_setValue wsX5_put := goodIn_r _ [4] (by decide +kernel) (by decide +kernel)
set_option maxRecDepth 20000 in
theorem gX1_setValue_X5_put_n33 : GoodIn wsX1_setValue (wsX5_put) := ggX1_setValue_X5_put
theorem dX1_setValue_0 : decode cX1_setValue 0 = .ok (.aload_n 0, 1) := by decide +kernel
theorem dX1_setValue_1 : decode cX1_setValue 1 = .ok (.getfield 21, 3) := by decide +kernel
theorem dX1_setValue_4 : decode cX1_setValue 4 = .ok (.iload_n 1, 1) := by decide +kernel
theorem dX1_setValue_5 : decode cX1_setValue 5 = .ok (.iconst 3, 1) := by decide +kernel
theorem dX1_setValue_6 : decode cX1_setValue 6 = .ok (.imul, 1) := by decide +kernel
theorem dX1_setValue_7 : decode cX1_setValue 7 = .ok (.iconst 2, 1) := by decide +kernel
theorem dX1_setValue_8 : decode cX1_setValue 8 = .ok (.iadd, 1) := by decide +kernel
theorem dX1_setValue_9 : decode cX1_setValue 9 = .ok (.iload_n 2, 1) := by decide +kernel
theorem dX1_setValue_10 : decode cX1_setValue 10 = .ok (.invokestatic 33, 3) := by decide +kernel
theorem dX1_setValue_13 : decode cX1_setValue 13 = .ok (.return_, 1) := by decide +kernel
set_option maxRecDepth 20000 in
theorem ggX1_appendInterest_X5_at : GoodIn wsX1_appendInterest wsX5_at := goodIn_r _ [6] (by decide +kernel) (by decide +kernel)
set_option maxRecDepth 20000 in
theorem gX1_appendInterest_X5_at_n51 : GoodIn wsX1_appendInterest (wsX5_at) := ggX1_appendInterest_X5_at
set_option maxRecDepth 20000 in
theorem ggX1_appendInterest_X5_put : GoodIn wsX1_appendInterest wsX5_put := goodIn_r _ [8] (by decide +kernel) (by decide +kernel)
set_option maxRecDepth 20000 in
theorem gX1_appendInterest_X5_put_n33 : GoodIn wsX1_appendInterest (wsX5_put) := ggX1_appendInterest_X5_put
set_option maxRecDepth 20000 in
theorem ggX1_appendInterest_X5_wayOf : GoodIn wsX1_appendInterest wsX5_wayOf := goodIn_r _ [10] (by decide +kernel) (by decide +kernel)
set_option maxRecDepth 20000 in
theorem gX1_appendInterest_X5_wayOf_n74 : GoodIn wsX1_appendInterest (wsX5_wayOf) := ggX1_appendInterest_X5_wayOf
theorem dX1_appendInterest_0 : decode cX1_appendInterest 0 = .ok (.aload_n 0, 1) := by decide +kernel
theorem dX1_appendInterest_1 : decode cX1_appendInterest 1 = .ok (.getfield 9, 3) := by decide +kernel
theorem dX1_appendInterest_4 : decode cX1_appendInterest 4 = .ok (.iconst 3, 1) := by decide +kernel
theorem dX1_appendInterest_5 : decode cX1_appendInterest 5 = .ok (.invokestatic 51, 3) := by decide +kernel
theorem dX1_appendInterest_8 : decode cX1_appendInterest 8 = .ok (.istore 6, 2) := by decide +kernel
theorem dX1_appendInterest_10 : decode cX1_appendInterest 10 = .ok (.aload_n 0, 1) := by decide +kernel
theorem dX1_appendInterest_11 : decode cX1_appendInterest 11 = .ok (.getfield 24, 3) := by decide +kernel
theorem dX1_appendInterest_14 : decode cX1_appendInterest 14 = .ok (.iload 6, 2) := by decide +kernel
theorem dX1_appendInterest_16 : decode cX1_appendInterest 16 = .ok (.bipush 7, 2) := by decide +kernel
theorem dX1_appendInterest_18 : decode cX1_appendInterest 18 = .ok (.imul, 1) := by decide +kernel
theorem dX1_appendInterest_19 : decode cX1_appendInterest 19 = .ok (.iconst 0, 1) := by decide +kernel
theorem dX1_appendInterest_20 : decode cX1_appendInterest 20 = .ok (.iadd, 1) := by decide +kernel
theorem dX1_appendInterest_21 : decode cX1_appendInterest 21 = .ok (.iload_n 1, 1) := by decide +kernel
theorem dX1_appendInterest_22 : decode cX1_appendInterest 22 = .ok (.invokestatic 33, 3) := by decide +kernel
theorem dX1_appendInterest_25 : decode cX1_appendInterest 25 = .ok (.aload_n 0, 1) := by decide +kernel
theorem dX1_appendInterest_26 : decode cX1_appendInterest 26 = .ok (.getfield 24, 3) := by decide +kernel
theorem dX1_appendInterest_29 : decode cX1_appendInterest 29 = .ok (.iload 6, 2) := by decide +kernel
theorem dX1_appendInterest_31 : decode cX1_appendInterest 31 = .ok (.bipush 7, 2) := by decide +kernel
theorem dX1_appendInterest_33 : decode cX1_appendInterest 33 = .ok (.imul, 1) := by decide +kernel
theorem dX1_appendInterest_34 : decode cX1_appendInterest 34 = .ok (.iconst 1, 1) := by decide +kernel
theorem dX1_appendInterest_35 : decode cX1_appendInterest 35 = .ok (.iadd, 1) := by decide +kernel
theorem dX1_appendInterest_36 : decode cX1_appendInterest 36 = .ok (.iload_n 2, 1) := by decide +kernel
theorem dX1_appendInterest_37 : decode cX1_appendInterest 37 = .ok (.invokestatic 33, 3) := by decide +kernel
theorem dX1_appendInterest_40 : decode cX1_appendInterest 40 = .ok (.aload_n 0, 1) := by decide +kernel
theorem dX1_appendInterest_41 : decode cX1_appendInterest 41 = .ok (.getfield 24, 3) := by decide +kernel
theorem dX1_appendInterest_44 : decode cX1_appendInterest 44 = .ok (.iload 6, 2) := by decide +kernel
theorem dX1_appendInterest_46 : decode cX1_appendInterest 46 = .ok (.bipush 7, 2) := by decide +kernel
theorem dX1_appendInterest_48 : decode cX1_appendInterest 48 = .ok (.imul, 1) := by decide +kernel
theorem dX1_appendInterest_49 : decode cX1_appendInterest 49 = .ok (.iconst 2, 1) := by decide +kernel
theorem dX1_appendInterest_50 : decode cX1_appendInterest 50 = .ok (.iadd, 1) := by decide +kernel
theorem dX1_appendInterest_51 : decode cX1_appendInterest 51 = .ok (.iload_n 3, 1) := by decide +kernel
theorem dX1_appendInterest_52 : decode cX1_appendInterest 52 = .ok (.invokestatic 33, 3) := by decide +kernel
theorem dX1_appendInterest_55 : decode cX1_appendInterest 55 = .ok (.aload_n 0, 1) := by decide +kernel
theorem dX1_appendInterest_56 : decode cX1_appendInterest 56 = .ok (.getfield 24, 3) := by decide +kernel
theorem dX1_appendInterest_59 : decode cX1_appendInterest 59 = .ok (.iload 6, 2) := by decide +kernel
theorem dX1_appendInterest_61 : decode cX1_appendInterest 61 = .ok (.bipush 7, 2) := by decide +kernel
theorem dX1_appendInterest_63 : decode cX1_appendInterest 63 = .ok (.imul, 1) := by decide +kernel
theorem dX1_appendInterest_64 : decode cX1_appendInterest 64 = .ok (.iconst 3, 1) := by decide +kernel
theorem dX1_appendInterest_65 : decode cX1_appendInterest 65 = .ok (.iadd, 1) := by decide +kernel
theorem dX1_appendInterest_66 : decode cX1_appendInterest 66 = .ok (.iload 4, 2) := by decide +kernel
theorem dX1_appendInterest_68 : decode cX1_appendInterest 68 = .ok (.invokestatic 33, 3) := by decide +kernel
theorem dX1_appendInterest_71 : decode cX1_appendInterest 71 = .ok (.aload_n 0, 1) := by decide +kernel
theorem dX1_appendInterest_72 : decode cX1_appendInterest 72 = .ok (.getfield 24, 3) := by decide +kernel
theorem dX1_appendInterest_75 : decode cX1_appendInterest 75 = .ok (.iload 6, 2) := by decide +kernel
theorem dX1_appendInterest_77 : decode cX1_appendInterest 77 = .ok (.bipush 7, 2) := by decide +kernel
theorem dX1_appendInterest_79 : decode cX1_appendInterest 79 = .ok (.imul, 1) := by decide +kernel
theorem dX1_appendInterest_80 : decode cX1_appendInterest 80 = .ok (.iconst 4, 1) := by decide +kernel
theorem dX1_appendInterest_81 : decode cX1_appendInterest 81 = .ok (.iadd, 1) := by decide +kernel
theorem dX1_appendInterest_82 : decode cX1_appendInterest 82 = .ok (.iload 5, 2) := by decide +kernel
theorem dX1_appendInterest_84 : decode cX1_appendInterest 84 = .ok (.invokestatic 33, 3) := by decide +kernel
theorem dX1_appendInterest_87 : decode cX1_appendInterest 87 = .ok (.aload_n 0, 1) := by decide +kernel
theorem dX1_appendInterest_88 : decode cX1_appendInterest 88 = .ok (.getfield 24, 3) := by decide +kernel
theorem dX1_appendInterest_91 : decode cX1_appendInterest 91 = .ok (.iload 6, 2) := by decide +kernel
theorem dX1_appendInterest_93 : decode cX1_appendInterest 93 = .ok (.bipush 7, 2) := by decide +kernel
theorem dX1_appendInterest_95 : decode cX1_appendInterest 95 = .ok (.imul, 1) := by decide +kernel
theorem dX1_appendInterest_96 : decode cX1_appendInterest 96 = .ok (.iconst 5, 1) := by decide +kernel
theorem dX1_appendInterest_97 : decode cX1_appendInterest 97 = .ok (.iadd, 1) := by decide +kernel
theorem dX1_appendInterest_98 : decode cX1_appendInterest 98 = .ok (.iconst 0, 1) := by decide +kernel
theorem dX1_appendInterest_99 : decode cX1_appendInterest 99 = .ok (.invokestatic 33, 3) := by decide +kernel
theorem dX1_appendInterest_102 : decode cX1_appendInterest 102 = .ok (.aload_n 0, 1) := by decide +kernel
theorem dX1_appendInterest_103 : decode cX1_appendInterest 103 = .ok (.getfield 24, 3) := by decide +kernel
theorem dX1_appendInterest_106 : decode cX1_appendInterest 106 = .ok (.iload 6, 2) := by decide +kernel
theorem dX1_appendInterest_108 : decode cX1_appendInterest 108 = .ok (.bipush 7, 2) := by decide +kernel
theorem dX1_appendInterest_110 : decode cX1_appendInterest 110 = .ok (.imul, 1) := by decide +kernel
theorem dX1_appendInterest_111 : decode cX1_appendInterest 111 = .ok (.bipush 6, 2) := by decide +kernel
theorem dX1_appendInterest_113 : decode cX1_appendInterest 113 = .ok (.iadd, 1) := by decide +kernel
theorem dX1_appendInterest_114 : decode cX1_appendInterest 114 = .ok (.iconst 0, 1) := by decide +kernel
theorem dX1_appendInterest_115 : decode cX1_appendInterest 115 = .ok (.invokestatic 33, 3) := by decide +kernel
theorem dX1_appendInterest_118 : decode cX1_appendInterest 118 = .ok (.iconst 0, 1) := by decide +kernel
theorem dX1_appendInterest_119 : decode cX1_appendInterest 119 = .ok (.istore 7, 2) := by decide +kernel
theorem dX1_appendInterest_121 : decode cX1_appendInterest 121 = .ok (.iload 7, 2) := by decide +kernel
theorem dX1_appendInterest_123 : decode cX1_appendInterest 123 = .ok (.bipush 6, 2) := by decide +kernel
theorem dX1_appendInterest_125 : decode cX1_appendInterest 125 = .ok (.if_icmp .ge 24, 3) := by decide +kernel
theorem dX1_appendInterest_128 : decode cX1_appendInterest 128 = .ok (.aload_n 0, 1) := by decide +kernel
theorem dX1_appendInterest_129 : decode cX1_appendInterest 129 = .ok (.getfield 27, 3) := by decide +kernel
theorem dX1_appendInterest_132 : decode cX1_appendInterest 132 = .ok (.iload 6, 2) := by decide +kernel
theorem dX1_appendInterest_134 : decode cX1_appendInterest 134 = .ok (.iload 7, 2) := by decide +kernel
theorem dX1_appendInterest_136 : decode cX1_appendInterest 136 = .ok (.invokestatic 74, 3) := by decide +kernel
theorem dX1_appendInterest_139 : decode cX1_appendInterest 139 = .ok (.iconst 0, 1) := by decide +kernel
theorem dX1_appendInterest_140 : decode cX1_appendInterest 140 = .ok (.invokestatic 33, 3) := by decide +kernel
theorem dX1_appendInterest_143 : decode cX1_appendInterest 143 = .ok (.iinc 7 1, 3) := by decide +kernel
theorem dX1_appendInterest_146 : decode cX1_appendInterest 146 = .ok (.goto (-25), 3) := by decide +kernel
theorem dX1_appendInterest_149 : decode cX1_appendInterest 149 = .ok (.aload_n 0, 1) := by decide +kernel
theorem dX1_appendInterest_150 : decode cX1_appendInterest 150 = .ok (.getfield 9, 3) := by decide +kernel
theorem dX1_appendInterest_153 : decode cX1_appendInterest 153 = .ok (.iconst 3, 1) := by decide +kernel
theorem dX1_appendInterest_154 : decode cX1_appendInterest 154 = .ok (.iload 6, 2) := by decide +kernel
theorem dX1_appendInterest_156 : decode cX1_appendInterest 156 = .ok (.iconst 1, 1) := by decide +kernel
theorem dX1_appendInterest_157 : decode cX1_appendInterest 157 = .ok (.iadd, 1) := by decide +kernel
theorem dX1_appendInterest_158 : decode cX1_appendInterest 158 = .ok (.invokestatic 33, 3) := by decide +kernel
theorem dX1_appendInterest_161 : decode cX1_appendInterest 161 = .ok (.iload 6, 2) := by decide +kernel
theorem dX1_appendInterest_163 : decode cX1_appendInterest 163 = .ok (.ireturn, 1) := by decide +kernel
set_option maxRecDepth 20000 in
theorem ggX1_removeInterest_X5_removePiece : GoodIn wsX1_removeInterest wsX5_removePiece := goodIn_r _ [7, 8, 9, 6, 10, 11, 12, 13] (by decide +kernel) (by decide +kernel)
set_option maxRecDepth 20000 in
theorem gX1_removeInterest_X5_removePiece_n64 : GoodIn wsX1_removeInterest (wsX5_removePiece) := ggX1_removeInterest_X5_removePiece
set_option maxRecDepth 20000 in
theorem ggX1_removeInterest_X5_increase : GoodIn wsX1_removeInterest wsX5_increase := goodIn_r _ [15, 8, 9, 6, 10, 11, 12, 13] (by decide +kernel) (by decide +kernel)
set_option maxRecDepth 20000 in
theorem gX1_removeInterest_X5_increase_n55 : GoodIn wsX1_removeInterest (wsX5_increase) := ggX1_removeInterest_X5_increase
theorem dX1_removeInterest_0 : decode cX1_removeInterest 0 = .ok (.aload_n 0, 1) := by decide +kernel
theorem dX1_removeInterest_1 : decode cX1_removeInterest 1 = .ok (.getfield 24, 3) := by decide +kernel
theorem dX1_removeInterest_4 : decode cX1_removeInterest 4 = .ok (.bipush 7, 2) := by decide +kernel
theorem dX1_removeInterest_6 : decode cX1_removeInterest 6 = .ok (.iload_n 1, 1) := by decide +kernel
theorem dX1_removeInterest_7 : decode cX1_removeInterest 7 = .ok (.invokestatic 64, 3) := by decide +kernel
theorem dX1_removeInterest_10 : decode cX1_removeInterest 10 = .ok (.aload_n 0, 1) := by decide +kernel
theorem dX1_removeInterest_11 : decode cX1_removeInterest 11 = .ok (.getfield 27, 3) := by decide +kernel
theorem dX1_removeInterest_14 : decode cX1_removeInterest 14 = .ok (.bipush 6, 2) := by decide +kernel
theorem dX1_removeInterest_16 : decode cX1_removeInterest 16 = .ok (.iload_n 1, 1) := by decide +kernel
theorem dX1_removeInterest_17 : decode cX1_removeInterest 17 = .ok (.invokestatic 64, 3) := by decide +kernel
theorem dX1_removeInterest_20 : decode cX1_removeInterest 20 = .ok (.aload_n 0, 1) := by decide +kernel
theorem dX1_removeInterest_21 : decode cX1_removeInterest 21 = .ok (.getfield 30, 3) := by decide +kernel
theorem dX1_removeInterest_24 : decode cX1_removeInterest 24 = .ok (.bipush 60, 2) := by decide +kernel
theorem dX1_removeInterest_26 : decode cX1_removeInterest 26 = .ok (.iload_n 1, 1) := by decide +kernel
theorem dX1_removeInterest_27 : decode cX1_removeInterest 27 = .ok (.invokestatic 64, 3) := by decide +kernel
theorem dX1_removeInterest_30 : decode cX1_removeInterest 30 = .ok (.aload_n 0, 1) := by decide +kernel
theorem dX1_removeInterest_31 : decode cX1_removeInterest 31 = .ok (.getfield 9, 3) := by decide +kernel
theorem dX1_removeInterest_34 : decode cX1_removeInterest 34 = .ok (.iconst 3, 1) := by decide +kernel
theorem dX1_removeInterest_35 : decode cX1_removeInterest 35 = .ok (.iconst (-1), 1) := by decide +kernel
theorem dX1_removeInterest_36 : decode cX1_removeInterest 36 = .ok (.invokestatic 55, 3) := by decide +kernel
theorem dX1_removeInterest_39 : decode cX1_removeInterest 39 = .ok (.return_, 1) := by decide +kernel
set_option maxRecDepth 20000 in
theorem ggX1_endInterests_X5_at : GoodIn wsX1_endInterests wsX5_at := goodIn_r _ [4] (by decide +kernel) (by decide +kernel)
set_option maxRecDepth 20000 in
theorem gX1_endInterests_X5_at_n51 : GoodIn wsX1_endInterests (wsX5_at) := ggX1_endInterests_X5_at
set_option maxRecDepth 20000 in
theorem ggX1_endInterests_X1_interestPart : GoodIn wsX1_endInterests wsX1_interestPart := goodIn_r _ [9, 10, 11, 12, 13, 8, 14, 1, 15, 2, 3, 4, 16, 17, 31, 32, 33, 34, 35, 36, 37] (by decide +kernel) (by decide +kernel)
set_option maxRecDepth 20000 in
theorem gX1_endInterests_X1_interestPart : GoodIn wsX1_endInterests (wsV RX1 77 RX1 yX1_interestPart wsX1_interestPart) := goodIn_app (goodIn_of _ (by decide +kernel)) ggX1_endInterests_X1_interestPart
set_option maxRecDepth 20000 in
theorem ggX1_endInterests_X1_removeInterest : GoodIn wsX1_endInterests wsX1_removeInterest := goodIn_r _ [21, 10, 15, 22, 1, 23, 3, 24, 25, 2, 4, 26, 27, 28, 29, 30, 31, 32, 33, 34, 35, 36, 37] (by decide +kernel) (by decide +kernel)
set_option maxRecDepth 20000 in
theorem gX1_endInterests_X1_removeInterest : GoodIn wsX1_endInterests (wsV RX1 80 RX1 yX1_removeInterest wsX1_removeInterest) := goodIn_app (goodIn_of _ (by decide +kernel)) ggX1_endInterests_X1_removeInterest
set_option maxRecDepth 20000 in
theorem ggX1_endInterests_X5_increase : GoodIn wsX1_endInterests wsX5_increase := goodIn_r _ [30, 25, 2, 3, 4, 26, 27, 28] (by decide +kernel) (by decide +kernel)
set_option maxRecDepth 20000 in
theorem gX1_endInterests_X5_increase_n55 : GoodIn wsX1_endInterests (wsX5_increase) := ggX1_endInterests_X5_increase
theorem dX1_endInterests_0 : decode cX1_endInterests 0 = .ok (.aload_n 0, 1) := by decide +kernel
theorem dX1_endInterests_1 : decode cX1_endInterests 1 = .ok (.getfield 9, 3) := by decide +kernel
theorem dX1_endInterests_4 : decode cX1_endInterests 4 = .ok (.iconst 3, 1) := by decide +kernel
theorem dX1_endInterests_5 : decode cX1_endInterests 5 = .ok (.invokestatic 51, 3) := by decide +kernel
theorem dX1_endInterests_8 : decode cX1_endInterests 8 = .ok (.iconst 1, 1) := by decide +kernel
theorem dX1_endInterests_9 : decode cX1_endInterests 9 = .ok (.isub, 1) := by decide +kernel
theorem dX1_endInterests_10 : decode cX1_endInterests 10 = .ok (.istore_n 1, 1) := by decide +kernel
theorem dX1_endInterests_11 : decode cX1_endInterests 11 = .ok (.iload_n 1, 1) := by decide +kernel
theorem dX1_endInterests_12 : decode cX1_endInterests 12 = .ok (.ifCond .lt 41, 3) := by decide +kernel
theorem dX1_endInterests_15 : decode cX1_endInterests 15 = .ok (.aload_n 0, 1) := by decide +kernel
theorem dX1_endInterests_16 : decode cX1_endInterests 16 = .ok (.iload_n 1, 1) := by decide +kernel
theorem dX1_endInterests_17 : decode cX1_endInterests 17 = .ok (.iconst 4, 1) := by decide +kernel
theorem dX1_endInterests_18 : decode cX1_endInterests 18 = .ok (.invokevirtual 77, 3) := by decide +kernel
theorem dX1_endInterests_21 : decode cX1_endInterests 21 = .ok (.aload_n 0, 1) := by decide +kernel
theorem dX1_endInterests_22 : decode cX1_endInterests 22 = .ok (.getfield 9, 3) := by decide +kernel
theorem dX1_endInterests_25 : decode cX1_endInterests 25 = .ok (.iconst 5, 1) := by decide +kernel
theorem dX1_endInterests_26 : decode cX1_endInterests 26 = .ok (.invokestatic 51, 3) := by decide +kernel
theorem dX1_endInterests_29 : decode cX1_endInterests 29 = .ok (.if_icmp .ge 18, 3) := by decide +kernel
theorem dX1_endInterests_32 : decode cX1_endInterests 32 = .ok (.aload_n 0, 1) := by decide +kernel
theorem dX1_endInterests_33 : decode cX1_endInterests 33 = .ok (.iload_n 1, 1) := by decide +kernel
theorem dX1_endInterests_34 : decode cX1_endInterests 34 = .ok (.invokevirtual 80, 3) := by decide +kernel
theorem dX1_endInterests_37 : decode cX1_endInterests 37 = .ok (.aload_n 0, 1) := by decide +kernel
theorem dX1_endInterests_38 : decode cX1_endInterests 38 = .ok (.getfield 9, 3) := by decide +kernel
theorem dX1_endInterests_41 : decode cX1_endInterests 41 = .ok (.bipush 11, 2) := by decide +kernel
theorem dX1_endInterests_43 : decode cX1_endInterests 43 = .ok (.iconst 1, 1) := by decide +kernel
theorem dX1_endInterests_44 : decode cX1_endInterests 44 = .ok (.invokestatic 55, 3) := by decide +kernel
theorem dX1_endInterests_47 : decode cX1_endInterests 47 = .ok (.iinc 1 (-1), 3) := by decide +kernel
theorem dX1_endInterests_50 : decode cX1_endInterests 50 = .ok (.goto (-39), 3) := by decide +kernel
theorem dX1_endInterests_53 : decode cX1_endInterests 53 = .ok (.return_, 1) := by decide +kernel
set_option maxRecDepth 20000 in
theorem ggX1_interestPart_X1_waysOf : GoodIn wsX1_interestPart wsX1_waysOf := goodIn_r _ [6, 7, 8, 9, 10, 11, 12, 13, 14, 15, 16, 17, 18, 19, 20] (by decide +kernel) (by decide +kernel)
set_option maxRecDepth 20000 in
theorem gX1_interestPart_X1_waysOf : GoodIn wsX1_interestPart (wsV RX1 84 RX1 yX1_waysOf wsX1_waysOf) := goodIn_app (goodIn_of _ (by decide +kernel)) ggX1_interestPart_X1_waysOf
set_option maxRecDepth 20000 in
theorem ggX1_interestPart_X5_at : GoodIn wsX1_interestPart wsX5_at := goodIn_r _ [11] (by decide +kernel) (by decide +kernel)
set_option maxRecDepth 20000 in
theorem gX1_interestPart_X5_at_n51 : GoodIn wsX1_interestPart (wsX5_at) := ggX1_interestPart_X5_at
theorem dX1_interestPart_0 : decode cX1_interestPart 0 = .ok (.iload_n 2, 1) := by decide +kernel
theorem dX1_interestPart_1 : decode cX1_interestPart 1 = .ok (.bipush 7, 2) := by decide +kernel
theorem dX1_interestPart_3 : decode cX1_interestPart 3 = .ok (.if_icmp .ne 11, 3) := by decide +kernel
theorem dX1_interestPart_6 : decode cX1_interestPart 6 = .ok (.aload_n 0, 1) := by decide +kernel
theorem dX1_interestPart_7 : decode cX1_interestPart 7 = .ok (.iload_n 1, 1) := by decide +kernel
theorem dX1_interestPart_8 : decode cX1_interestPart 8 = .ok (.invokevirtual 84, 3) := by decide +kernel
theorem dX1_interestPart_11 : decode cX1_interestPart 11 = .ok (.goto 16, 3) := by decide +kernel
theorem dX1_interestPart_14 : decode cX1_interestPart 14 = .ok (.aload_n 0, 1) := by decide +kernel
theorem dX1_interestPart_15 : decode cX1_interestPart 15 = .ok (.getfield 24, 3) := by decide +kernel
theorem dX1_interestPart_18 : decode cX1_interestPart 18 = .ok (.iload_n 1, 1) := by decide +kernel
theorem dX1_interestPart_19 : decode cX1_interestPart 19 = .ok (.bipush 7, 2) := by decide +kernel
theorem dX1_interestPart_21 : decode cX1_interestPart 21 = .ok (.imul, 1) := by decide +kernel
theorem dX1_interestPart_22 : decode cX1_interestPart 22 = .ok (.iload_n 2, 1) := by decide +kernel
theorem dX1_interestPart_23 : decode cX1_interestPart 23 = .ok (.iadd, 1) := by decide +kernel
theorem dX1_interestPart_24 : decode cX1_interestPart 24 = .ok (.invokestatic 51, 3) := by decide +kernel
theorem dX1_interestPart_27 : decode cX1_interestPart 27 = .ok (.ireturn, 1) := by decide +kernel
set_option maxRecDepth 20000 in
theorem ggX1_waysOf_X5_at : GoodIn wsX1_waysOf wsX5_at := goodIn_r _ [5] (by decide +kernel) (by decide +kernel)
set_option maxRecDepth 20000 in
theorem gX1_waysOf_X5_at_n51 : GoodIn wsX1_waysOf (wsX5_at) := ggX1_waysOf_X5_at
set_option maxRecDepth 20000 in
theorem ggX1_waysOf_X5_wayOf : GoodIn wsX1_waysOf wsX5_wayOf := goodIn_r _ [7] (by decide +kernel) (by decide +kernel)
set_option maxRecDepth 20000 in
theorem gX1_waysOf_X5_wayOf_n74 : GoodIn wsX1_waysOf (wsX5_wayOf) := ggX1_waysOf_X5_wayOf
theorem dX1_waysOf_0 : decode cX1_waysOf 0 = .ok (.iconst 0, 1) := by decide +kernel
theorem dX1_waysOf_1 : decode cX1_waysOf 1 = .ok (.istore_n 2, 1) := by decide +kernel
theorem dX1_waysOf_2 : decode cX1_waysOf 2 = .ok (.iconst 0, 1) := by decide +kernel
theorem dX1_waysOf_3 : decode cX1_waysOf 3 = .ok (.istore_n 3, 1) := by decide +kernel
theorem dX1_waysOf_4 : decode cX1_waysOf 4 = .ok (.iload_n 3, 1) := by decide +kernel
theorem dX1_waysOf_5 : decode cX1_waysOf 5 = .ok (.aload_n 0, 1) := by decide +kernel
theorem dX1_waysOf_6 : decode cX1_waysOf 6 = .ok (.getfield 9, 3) := by decide +kernel
theorem dX1_waysOf_9 : decode cX1_waysOf 9 = .ok (.iconst 2, 1) := by decide +kernel
theorem dX1_waysOf_10 : decode cX1_waysOf 10 = .ok (.invokestatic 51, 3) := by decide +kernel
theorem dX1_waysOf_13 : decode cX1_waysOf 13 = .ok (.if_icmp .ge 27, 3) := by decide +kernel
theorem dX1_waysOf_16 : decode cX1_waysOf 16 = .ok (.aload_n 0, 1) := by decide +kernel
theorem dX1_waysOf_17 : decode cX1_waysOf 17 = .ok (.getfield 27, 3) := by decide +kernel
theorem dX1_waysOf_20 : decode cX1_waysOf 20 = .ok (.iload_n 1, 1) := by decide +kernel
theorem dX1_waysOf_21 : decode cX1_waysOf 21 = .ok (.iload_n 3, 1) := by decide +kernel
theorem dX1_waysOf_22 : decode cX1_waysOf 22 = .ok (.invokestatic 74, 3) := by decide +kernel
theorem dX1_waysOf_25 : decode cX1_waysOf 25 = .ok (.invokestatic 51, 3) := by decide +kernel
theorem dX1_waysOf_28 : decode cX1_waysOf 28 = .ok (.ifCond .le 6, 3) := by decide +kernel
theorem dX1_waysOf_31 : decode cX1_waysOf 31 = .ok (.iinc 2 1, 3) := by decide +kernel
theorem dX1_waysOf_34 : decode cX1_waysOf 34 = .ok (.iinc 3 1, 3) := by decide +kernel
theorem dX1_waysOf_37 : decode cX1_waysOf 37 = .ok (.goto (-33), 3) := by decide +kernel
theorem dX1_waysOf_40 : decode cX1_waysOf 40 = .ok (.iload_n 2, 1) := by decide +kernel
theorem dX1_waysOf_41 : decode cX1_waysOf 41 = .ok (.ireturn, 1) := by decide +kernel
set_option maxRecDepth 20000 in
theorem ggX1_deliver_X5_increase : GoodIn wsX1_deliver wsX5_increase := goodIn_r _ [4, 5, 6, 3, 7, 8, 9, 10] (by decide +kernel) (by decide +kernel)
set_option maxRecDepth 20000 in
theorem gX1_deliver_X5_increase_n55 : GoodIn wsX1_deliver (wsX5_increase) := ggX1_deliver_X5_increase
theorem dX1_deliver_0 : decode cX1_deliver 0 = .ok (.aload_n 0, 1) := by decide +kernel
theorem dX1_deliver_1 : decode cX1_deliver 1 = .ok (.getfield 24, 3) := by decide +kernel
theorem dX1_deliver_4 : decode cX1_deliver 4 = .ok (.iload_n 1, 1) := by decide +kernel
theorem dX1_deliver_5 : decode cX1_deliver 5 = .ok (.bipush 7, 2) := by decide +kernel
theorem dX1_deliver_7 : decode cX1_deliver 7 = .ok (.imul, 1) := by decide +kernel
theorem dX1_deliver_8 : decode cX1_deliver 8 = .ok (.iconst 5, 1) := by decide +kernel
theorem dX1_deliver_9 : decode cX1_deliver 9 = .ok (.iadd, 1) := by decide +kernel
theorem dX1_deliver_10 : decode cX1_deliver 10 = .ok (.iconst 1, 1) := by decide +kernel
theorem dX1_deliver_11 : decode cX1_deliver 11 = .ok (.invokestatic 55, 3) := by decide +kernel
theorem dX1_deliver_14 : decode cX1_deliver 14 = .ok (.aload_n 0, 1) := by decide +kernel
theorem dX1_deliver_15 : decode cX1_deliver 15 = .ok (.getfield 24, 3) := by decide +kernel
theorem dX1_deliver_18 : decode cX1_deliver 18 = .ok (.iload_n 1, 1) := by decide +kernel
theorem dX1_deliver_19 : decode cX1_deliver 19 = .ok (.bipush 7, 2) := by decide +kernel
theorem dX1_deliver_21 : decode cX1_deliver 21 = .ok (.imul, 1) := by decide +kernel
theorem dX1_deliver_22 : decode cX1_deliver 22 = .ok (.bipush 6, 2) := by decide +kernel
theorem dX1_deliver_24 : decode cX1_deliver 24 = .ok (.iadd, 1) := by decide +kernel
theorem dX1_deliver_25 : decode cX1_deliver 25 = .ok (.iload_n 2, 1) := by decide +kernel
theorem dX1_deliver_26 : decode cX1_deliver 26 = .ok (.invokestatic 55, 3) := by decide +kernel
theorem dX1_deliver_29 : decode cX1_deliver 29 = .ok (.return_, 1) := by decide +kernel
set_option maxRecDepth 20000 in
theorem ggX1_matches_X1_sensorPart : GoodIn wsX1_matches wsX1_sensorPart := goodIn_r _ [5, 6, 7, 8, 9, 25, 26, 27, 28, 29, 30, 31] (by decide +kernel) (by decide +kernel)
set_option maxRecDepth 20000 in
theorem gX1_matches_X1_sensorPart : GoodIn wsX1_matches (wsV RX1 87 RX1 yX1_sensorPart wsX1_sensorPart) := goodIn_app (goodIn_of _ (by decide +kernel)) ggX1_matches_X1_sensorPart
set_option maxRecDepth 20000 in
theorem ggX1_matches_X1_interestPart : GoodIn wsX1_matches wsX1_interestPart := goodIn_r _ [13, 14, 15, 16, 17, 4, 18, 19, 20, 7, 8, 9, 21, 22, 25, 26, 27, 28, 29, 30, 31] (by decide +kernel) (by decide +kernel)
set_option maxRecDepth 20000 in
theorem gX1_matches_X1_interestPart : GoodIn wsX1_matches (wsV RX1 77 RX1 yX1_interestPart wsX1_interestPart) := goodIn_app (goodIn_of _ (by decide +kernel)) ggX1_matches_X1_interestPart
set_option maxRecDepth 20000 in
theorem ggX1_matches_X5_isWithin : GoodIn wsX1_matches wsX5_isWithin := goodIn_r _ [24] (by decide +kernel) (by decide +kernel)
set_option maxRecDepth 20000 in
theorem gX1_matches_X5_isWithin_n90 : GoodIn wsX1_matches (wsX5_isWithin) := ggX1_matches_X5_isWithin
theorem dX1_matches_0 : decode cX1_matches 0 = .ok (.aload_n 0, 1) := by decide +kernel
theorem dX1_matches_1 : decode cX1_matches 1 = .ok (.iload_n 1, 1) := by decide +kernel
theorem dX1_matches_2 : decode cX1_matches 2 = .ok (.iconst 1, 1) := by decide +kernel
theorem dX1_matches_3 : decode cX1_matches 3 = .ok (.invokevirtual 87, 3) := by decide +kernel
theorem dX1_matches_6 : decode cX1_matches 6 = .ok (.aload_n 0, 1) := by decide +kernel
theorem dX1_matches_7 : decode cX1_matches 7 = .ok (.iload_n 2, 1) := by decide +kernel
theorem dX1_matches_8 : decode cX1_matches 8 = .ok (.iconst 1, 1) := by decide +kernel
theorem dX1_matches_9 : decode cX1_matches 9 = .ok (.invokevirtual 77, 3) := by decide +kernel
theorem dX1_matches_12 : decode cX1_matches 12 = .ok (.if_icmp .ne 31, 3) := by decide +kernel
theorem dX1_matches_15 : decode cX1_matches 15 = .ok (.aload_n 0, 1) := by decide +kernel
theorem dX1_matches_16 : decode cX1_matches 16 = .ok (.iload_n 1, 1) := by decide +kernel
theorem dX1_matches_17 : decode cX1_matches 17 = .ok (.iconst 2, 1) := by decide +kernel
theorem dX1_matches_18 : decode cX1_matches 18 = .ok (.invokevirtual 87, 3) := by decide +kernel
theorem dX1_matches_21 : decode cX1_matches 21 = .ok (.aload_n 0, 1) := by decide +kernel
theorem dX1_matches_22 : decode cX1_matches 22 = .ok (.iload_n 2, 1) := by decide +kernel
theorem dX1_matches_23 : decode cX1_matches 23 = .ok (.iconst 2, 1) := by decide +kernel
theorem dX1_matches_24 : decode cX1_matches 24 = .ok (.invokevirtual 77, 3) := by decide +kernel
theorem dX1_matches_27 : decode cX1_matches 27 = .ok (.aload_n 0, 1) := by decide +kernel
theorem dX1_matches_28 : decode cX1_matches 28 = .ok (.iload_n 2, 1) := by decide +kernel
theorem dX1_matches_29 : decode cX1_matches 29 = .ok (.iconst 3, 1) := by decide +kernel
theorem dX1_matches_30 : decode cX1_matches 30 = .ok (.invokevirtual 77, 3) := by decide +kernel
theorem dX1_matches_33 : decode cX1_matches 33 = .ok (.invokestatic 90, 3) := by decide +kernel
theorem dX1_matches_36 : decode cX1_matches 36 = .ok (.ifCond .eq 7, 3) := by decide +kernel
theorem dX1_matches_39 : decode cX1_matches 39 = .ok (.iconst 1, 1) := by decide +kernel
theorem dX1_matches_40 : decode cX1_matches 40 = .ok (.goto 4, 3) := by decide +kernel
theorem dX1_matches_43 : decode cX1_matches 43 = .ok (.iconst 0, 1) := by decide +kernel
theorem dX1_matches_44 : decode cX1_matches 44 = .ok (.ireturn, 1) := by decide +kernel
set_option maxRecDepth 20000 in
theorem ggX1_lengthOf_X5_at : GoodIn wsX1_lengthOf wsX5_at := goodIn_r _ [4] (by decide +kernel) (by decide +kernel)
set_option maxRecDepth 20000 in
theorem gX1_lengthOf_X5_at_n51 : GoodIn wsX1_lengthOf (wsX5_at) := ggX1_lengthOf_X5_at
theorem dX1_lengthOf_0 : decode cX1_lengthOf 0 = .ok (.aload_n 0, 1) := by decide +kernel
theorem dX1_lengthOf_1 : decode cX1_lengthOf 1 = .ok (.getfield 27, 3) := by decide +kernel
theorem dX1_lengthOf_4 : decode cX1_lengthOf 4 = .ok (.iload_n 1, 1) := by decide +kernel
theorem dX1_lengthOf_5 : decode cX1_lengthOf 5 = .ok (.invokestatic 51, 3) := by decide +kernel
theorem dX1_lengthOf_8 : decode cX1_lengthOf 8 = .ok (.ireturn, 1) := by decide +kernel
set_option maxRecDepth 20000 in
theorem ggX1_nodeOf_X5_at : GoodIn wsX1_nodeOf wsX5_at := goodIn_r _ [4] (by decide +kernel) (by decide +kernel)
set_option maxRecDepth 20000 in
theorem gX1_nodeOf_X5_at_n51 : GoodIn wsX1_nodeOf (wsX5_at) := ggX1_nodeOf_X5_at
theorem dX1_nodeOf_0 : decode cX1_nodeOf 0 = .ok (.aload_n 0, 1) := by decide +kernel
theorem dX1_nodeOf_1 : decode cX1_nodeOf 1 = .ok (.getfield 30, 3) := by decide +kernel
theorem dX1_nodeOf_4 : decode cX1_nodeOf 4 = .ok (.iload_n 1, 1) := by decide +kernel
theorem dX1_nodeOf_5 : decode cX1_nodeOf 5 = .ok (.bipush 10, 2) := by decide +kernel
theorem dX1_nodeOf_7 : decode cX1_nodeOf 7 = .ok (.imul, 1) := by decide +kernel
theorem dX1_nodeOf_8 : decode cX1_nodeOf 8 = .ok (.iload_n 2, 1) := by decide +kernel
theorem dX1_nodeOf_9 : decode cX1_nodeOf 9 = .ok (.iadd, 1) := by decide +kernel
theorem dX1_nodeOf_10 : decode cX1_nodeOf 10 = .ok (.invokestatic 51, 3) := by decide +kernel
theorem dX1_nodeOf_13 : decode cX1_nodeOf 13 = .ok (.ireturn, 1) := by decide +kernel
set_option maxRecDepth 20000 in
theorem ggX1_setWay_X5_put : GoodIn wsX1_setWay wsX5_put := goodIn_r _ [5] (by decide +kernel) (by decide +kernel)
set_option maxRecDepth 20000 in
theorem gX1_setWay_X5_put_n33 : GoodIn wsX1_setWay (wsX5_put) := ggX1_setWay_X5_put
set_option maxRecDepth 20000 in
theorem ggX1_setWay_X5_at : GoodIn wsX1_setWay wsX5_at := goodIn_r _ [7] (by decide +kernel) (by decide +kernel)
set_option maxRecDepth 20000 in
theorem gX1_setWay_X5_at_n51 : GoodIn wsX1_setWay (wsX5_at) := ggX1_setWay_X5_at
theorem dX1_setWay_0 : decode cX1_setWay 0 = .ok (.aload_n 0, 1) := by decide +kernel
theorem dX1_setWay_1 : decode cX1_setWay 1 = .ok (.getfield 27, 3) := by decide +kernel
theorem dX1_setWay_4 : decode cX1_setWay 4 = .ok (.iload_n 1, 1) := by decide +kernel
theorem dX1_setWay_5 : decode cX1_setWay 5 = .ok (.iload_n 3, 1) := by decide +kernel
theorem dX1_setWay_6 : decode cX1_setWay 6 = .ok (.invokestatic 33, 3) := by decide +kernel
theorem dX1_setWay_9 : decode cX1_setWay 9 = .ok (.iconst 0, 1) := by decide +kernel
theorem dX1_setWay_10 : decode cX1_setWay 10 = .ok (.istore 4, 2) := by decide +kernel
theorem dX1_setWay_12 : decode cX1_setWay 12 = .ok (.iload 4, 2) := by decide +kernel
theorem dX1_setWay_14 : decode cX1_setWay 14 = .ok (.iload_n 3, 1) := by decide +kernel
theorem dX1_setWay_15 : decode cX1_setWay 15 = .ok (.if_icmp .ge 33, 3) := by decide +kernel
theorem dX1_setWay_18 : decode cX1_setWay 18 = .ok (.aload_n 0, 1) := by decide +kernel
theorem dX1_setWay_19 : decode cX1_setWay 19 = .ok (.getfield 30, 3) := by decide +kernel
theorem dX1_setWay_22 : decode cX1_setWay 22 = .ok (.iload_n 1, 1) := by decide +kernel
theorem dX1_setWay_23 : decode cX1_setWay 23 = .ok (.bipush 10, 2) := by decide +kernel
theorem dX1_setWay_25 : decode cX1_setWay 25 = .ok (.imul, 1) := by decide +kernel
theorem dX1_setWay_26 : decode cX1_setWay 26 = .ok (.iload 4, 2) := by decide +kernel
theorem dX1_setWay_28 : decode cX1_setWay 28 = .ok (.iadd, 1) := by decide +kernel
theorem dX1_setWay_29 : decode cX1_setWay 29 = .ok (.aload_n 2, 1) := by decide +kernel
theorem dX1_setWay_30 : decode cX1_setWay 30 = .ok (.iload_n 3, 1) := by decide +kernel
theorem dX1_setWay_31 : decode cX1_setWay 31 = .ok (.iconst 1, 1) := by decide +kernel
theorem dX1_setWay_32 : decode cX1_setWay 32 = .ok (.isub, 1) := by decide +kernel
theorem dX1_setWay_33 : decode cX1_setWay 33 = .ok (.iload 4, 2) := by decide +kernel
theorem dX1_setWay_35 : decode cX1_setWay 35 = .ok (.isub, 1) := by decide +kernel
theorem dX1_setWay_36 : decode cX1_setWay 36 = .ok (.invokestatic 51, 3) := by decide +kernel
theorem dX1_setWay_39 : decode cX1_setWay 39 = .ok (.invokestatic 33, 3) := by decide +kernel
theorem dX1_setWay_42 : decode cX1_setWay 42 = .ok (.iinc 4 1, 3) := by decide +kernel
theorem dX1_setWay_45 : decode cX1_setWay 45 = .ok (.goto (-33), 3) := by decide +kernel
theorem dX1_setWay_48 : decode cX1_setWay 48 = .ok (.return_, 1) := by decide +kernel
set_option maxRecDepth 20000 in
theorem ggX1_dropWay_X5_put : GoodIn wsX1_dropWay wsX5_put := goodIn_r _ [4] (by decide +kernel) (by decide +kernel)
set_option maxRecDepth 20000 in
theorem gX1_dropWay_X5_put_n33 : GoodIn wsX1_dropWay (wsX5_put) := ggX1_dropWay_X5_put
theorem dX1_dropWay_0 : decode cX1_dropWay 0 = .ok (.aload_n 0, 1) := by decide +kernel
theorem dX1_dropWay_1 : decode cX1_dropWay 1 = .ok (.getfield 27, 3) := by decide +kernel
theorem dX1_dropWay_4 : decode cX1_dropWay 4 = .ok (.iload_n 1, 1) := by decide +kernel
theorem dX1_dropWay_5 : decode cX1_dropWay 5 = .ok (.iconst 0, 1) := by decide +kernel
theorem dX1_dropWay_6 : decode cX1_dropWay 6 = .ok (.invokestatic 33, 3) := by decide +kernel
theorem dX1_dropWay_9 : decode cX1_dropWay 9 = .ok (.return_, 1) := by decide +kernel
set_option maxRecDepth 20000 in
theorem ggX1_goesOver_X5_at : GoodIn wsX1_goesOver wsX5_at := goodIn_r _ [5] (by decide +kernel) (by decide +kernel)
set_option maxRecDepth 20000 in
theorem gX1_goesOver_X5_at_n51 : GoodIn wsX1_goesOver (wsX5_at) := ggX1_goesOver_X5_at
set_option maxRecDepth 20000 in
theorem ggX1_goesOver_X1_isPair : GoodIn wsX1_goesOver wsX1_isPair := goodIn_r _ [9] (by decide +kernel) (by decide +kernel)
set_option maxRecDepth 20000 in
theorem gX1_goesOver_X1_isPair : GoodIn wsX1_goesOver (va_wsS RX1 70 yX1_isPair wsX1_isPair) := goodIn_app (goodIn_of _ (by decide +kernel)) ggX1_goesOver_X1_isPair
theorem dX1_goesOver_0 : decode cX1_goesOver 0 = .ok (.iload_n 1, 1) := by decide +kernel
theorem dX1_goesOver_1 : decode cX1_goesOver 1 = .ok (.bipush 10, 2) := by decide +kernel
theorem dX1_goesOver_3 : decode cX1_goesOver 3 = .ok (.imul, 1) := by decide +kernel
theorem dX1_goesOver_4 : decode cX1_goesOver 4 = .ok (.istore 4, 2) := by decide +kernel
theorem dX1_goesOver_6 : decode cX1_goesOver 6 = .ok (.iconst 1, 1) := by decide +kernel
theorem dX1_goesOver_7 : decode cX1_goesOver 7 = .ok (.istore 5, 2) := by decide +kernel
theorem dX1_goesOver_9 : decode cX1_goesOver 9 = .ok (.iload 5, 2) := by decide +kernel
theorem dX1_goesOver_11 : decode cX1_goesOver 11 = .ok (.aload_n 0, 1) := by decide +kernel
theorem dX1_goesOver_12 : decode cX1_goesOver 12 = .ok (.getfield 27, 3) := by decide +kernel
theorem dX1_goesOver_15 : decode cX1_goesOver 15 = .ok (.iload_n 1, 1) := by decide +kernel
theorem dX1_goesOver_16 : decode cX1_goesOver 16 = .ok (.invokestatic 51, 3) := by decide +kernel
theorem dX1_goesOver_19 : decode cX1_goesOver 19 = .ok (.if_icmp .ge 45, 3) := by decide +kernel
theorem dX1_goesOver_22 : decode cX1_goesOver 22 = .ok (.aload_n 0, 1) := by decide +kernel
theorem dX1_goesOver_23 : decode cX1_goesOver 23 = .ok (.getfield 30, 3) := by decide +kernel
theorem dX1_goesOver_26 : decode cX1_goesOver 26 = .ok (.iload 4, 2) := by decide +kernel
theorem dX1_goesOver_28 : decode cX1_goesOver 28 = .ok (.iload 5, 2) := by decide +kernel
theorem dX1_goesOver_30 : decode cX1_goesOver 30 = .ok (.iadd, 1) := by decide +kernel
theorem dX1_goesOver_31 : decode cX1_goesOver 31 = .ok (.iconst 1, 1) := by decide +kernel
theorem dX1_goesOver_32 : decode cX1_goesOver 32 = .ok (.isub, 1) := by decide +kernel
theorem dX1_goesOver_33 : decode cX1_goesOver 33 = .ok (.invokestatic 51, 3) := by decide +kernel
theorem dX1_goesOver_36 : decode cX1_goesOver 36 = .ok (.aload_n 0, 1) := by decide +kernel
theorem dX1_goesOver_37 : decode cX1_goesOver 37 = .ok (.getfield 30, 3) := by decide +kernel
theorem dX1_goesOver_40 : decode cX1_goesOver 40 = .ok (.iload 4, 2) := by decide +kernel
theorem dX1_goesOver_42 : decode cX1_goesOver 42 = .ok (.iload 5, 2) := by decide +kernel
theorem dX1_goesOver_44 : decode cX1_goesOver 44 = .ok (.iadd, 1) := by decide +kernel
theorem dX1_goesOver_45 : decode cX1_goesOver 45 = .ok (.invokestatic 51, 3) := by decide +kernel
theorem dX1_goesOver_48 : decode cX1_goesOver 48 = .ok (.iload_n 2, 1) := by decide +kernel
theorem dX1_goesOver_49 : decode cX1_goesOver 49 = .ok (.iload_n 3, 1) := by decide +kernel
theorem dX1_goesOver_50 : decode cX1_goesOver 50 = .ok (.invokestatic 70, 3) := by decide +kernel
theorem dX1_goesOver_53 : decode cX1_goesOver 53 = .ok (.ifCond .eq 5, 3) := by decide +kernel
theorem dX1_goesOver_56 : decode cX1_goesOver 56 = .ok (.iconst 1, 1) := by decide +kernel
theorem dX1_goesOver_57 : decode cX1_goesOver 57 = .ok (.ireturn, 1) := by decide +kernel
theorem dX1_goesOver_58 : decode cX1_goesOver 58 = .ok (.iinc 5 1, 3) := by decide +kernel
theorem dX1_goesOver_61 : decode cX1_goesOver 61 = .ok (.goto (-52), 3) := by decide +kernel
theorem dX1_goesOver_64 : decode cX1_goesOver 64 = .ok (.iconst 0, 1) := by decide +kernel
theorem dX1_goesOver_65 : decode cX1_goesOver 65 = .ok (.ireturn, 1) := by decide +kernel
set_option maxRecDepth 20000 in
theorem ggX1_waysOver_X5_at : GoodIn wsX1_waysOver wsX5_at := goodIn_r _ [4] (by decide +kernel) (by decide +kernel)
set_option maxRecDepth 20000 in
theorem gX1_waysOver_X5_at_n51 : GoodIn wsX1_waysOver (wsX5_at) := ggX1_waysOver_X5_at
set_option maxRecDepth 20000 in
theorem ggX1_waysOver_X5_wayOf : GoodIn wsX1_waysOver wsX5_wayOf := goodIn_r _ [6] (by decide +kernel) (by decide +kernel)
set_option maxRecDepth 20000 in
theorem gX1_waysOver_X5_wayOf_n74 : GoodIn wsX1_waysOver (wsX5_wayOf) := ggX1_waysOver_X5_wayOf
set_option maxRecDepth 20000 in
theorem ggX1_waysOver_X1_goesOver : GoodIn wsX1_waysOver wsX1_goesOver := goodIn_r _ [11, 12, 13, 2, 3, 4, 14, 15, 10, 16, 17, 18, 19, 20, 21, 22, 23] (by decide +kernel) (by decide +kernel)
set_option maxRecDepth 20000 in
theorem gX1_waysOver_X1_goesOver : GoodIn wsX1_waysOver (wsV RX1 94 RX1 yX1_goesOver wsX1_goesOver) := goodIn_app (goodIn_of _ (by decide +kernel)) ggX1_waysOver_X1_goesOver
theorem dX1_waysOver_0 : decode cX1_waysOver 0 = .ok (.iconst 0, 1) := by decide +kernel
theorem dX1_waysOver_1 : decode cX1_waysOver 1 = .ok (.istore_n 3, 1) := by decide +kernel
theorem dX1_waysOver_2 : decode cX1_waysOver 2 = .ok (.iconst 0, 1) := by decide +kernel
theorem dX1_waysOver_3 : decode cX1_waysOver 3 = .ok (.istore 4, 2) := by decide +kernel
theorem dX1_waysOver_5 : decode cX1_waysOver 5 = .ok (.iload 4, 2) := by decide +kernel
theorem dX1_waysOver_7 : decode cX1_waysOver 7 = .ok (.aload_n 0, 1) := by decide +kernel
theorem dX1_waysOver_8 : decode cX1_waysOver 8 = .ok (.getfield 9, 3) := by decide +kernel
theorem dX1_waysOver_11 : decode cX1_waysOver 11 = .ok (.iconst 3, 1) := by decide +kernel
theorem dX1_waysOver_12 : decode cX1_waysOver 12 = .ok (.invokestatic 51, 3) := by decide +kernel
theorem dX1_waysOver_15 : decode cX1_waysOver 15 = .ok (.if_icmp .ge 50, 3) := by decide +kernel
theorem dX1_waysOver_18 : decode cX1_waysOver 18 = .ok (.iconst 0, 1) := by decide +kernel
theorem dX1_waysOver_19 : decode cX1_waysOver 19 = .ok (.istore 5, 2) := by decide +kernel
theorem dX1_waysOver_21 : decode cX1_waysOver 21 = .ok (.iload 5, 2) := by decide +kernel
theorem dX1_waysOver_23 : decode cX1_waysOver 23 = .ok (.aload_n 0, 1) := by decide +kernel
theorem dX1_waysOver_24 : decode cX1_waysOver 24 = .ok (.getfield 9, 3) := by decide +kernel
theorem dX1_waysOver_27 : decode cX1_waysOver 27 = .ok (.iconst 2, 1) := by decide +kernel
theorem dX1_waysOver_28 : decode cX1_waysOver 28 = .ok (.invokestatic 51, 3) := by decide +kernel
theorem dX1_waysOver_31 : decode cX1_waysOver 31 = .ok (.if_icmp .ge 28, 3) := by decide +kernel
theorem dX1_waysOver_34 : decode cX1_waysOver 34 = .ok (.aload_n 0, 1) := by decide +kernel
theorem dX1_waysOver_35 : decode cX1_waysOver 35 = .ok (.iload 4, 2) := by decide +kernel
theorem dX1_waysOver_37 : decode cX1_waysOver 37 = .ok (.iload 5, 2) := by decide +kernel
theorem dX1_waysOver_39 : decode cX1_waysOver 39 = .ok (.invokestatic 74, 3) := by decide +kernel
theorem dX1_waysOver_42 : decode cX1_waysOver 42 = .ok (.iload_n 1, 1) := by decide +kernel
theorem dX1_waysOver_43 : decode cX1_waysOver 43 = .ok (.iload_n 2, 1) := by decide +kernel
theorem dX1_waysOver_44 : decode cX1_waysOver 44 = .ok (.invokevirtual 94, 3) := by decide +kernel
theorem dX1_waysOver_47 : decode cX1_waysOver 47 = .ok (.ifCond .eq 6, 3) := by decide +kernel
theorem dX1_waysOver_50 : decode cX1_waysOver 50 = .ok (.iinc 3 1, 3) := by decide +kernel
theorem dX1_waysOver_53 : decode cX1_waysOver 53 = .ok (.iinc 5 1, 3) := by decide +kernel
theorem dX1_waysOver_56 : decode cX1_waysOver 56 = .ok (.goto (-35), 3) := by decide +kernel
theorem dX1_waysOver_59 : decode cX1_waysOver 59 = .ok (.iinc 4 1, 3) := by decide +kernel
theorem dX1_waysOver_62 : decode cX1_waysOver 62 = .ok (.goto (-57), 3) := by decide +kernel
theorem dX1_waysOver_65 : decode cX1_waysOver 65 = .ok (.iload_n 3, 1) := by decide +kernel
theorem dX1_waysOver_66 : decode cX1_waysOver 66 = .ok (.ireturn, 1) := by decide +kernel
set_option maxRecDepth 20000 in
theorem ggX1_hash_X1_number : GoodIn wsX1_hash wsX1_number := goodIn_r _ [12, 4, 13, 14, 15, 11, 16, 3, 17, 18, 19, 20, 21, 22, 23, 24, 25, 26, 47, 48, 49, 50, 51, 52, 53] (by decide +kernel) (by decide +kernel)
set_option maxRecDepth 20000 in
theorem gX1_hash_X1_number : GoodIn wsX1_hash (wsV RX1 101 RX1 yX1_number wsX1_number) := goodIn_app (goodIn_of _ (by decide +kernel)) ggX1_hash_X1_number
set_option maxRecDepth 20000 in
theorem ggX1_hash_X5_at : GoodIn wsX1_hash wsX5_at := goodIn_r _ [19] (by decide +kernel) (by decide +kernel)
set_option maxRecDepth 20000 in
theorem gX1_hash_X5_at_n51 : GoodIn wsX1_hash (wsX5_at) := ggX1_hash_X5_at
set_option maxRecDepth 20000 in
theorem ggX1_hash_X5_hashOf : GoodIn wsX1_hash wsX5_hashOf := goodIn_r _ [28, 29, 30, 17, 18, 19] (by decide +kernel) (by decide +kernel)
set_option maxRecDepth 20000 in
theorem gX1_hash_X5_hashOf_n104 : GoodIn wsX1_hash (wsX5_hashOf) := ggX1_hash_X5_hashOf
set_option maxRecDepth 20000 in
theorem ggX1_hash_X1_waysOf : GoodIn wsX1_hash wsX1_waysOf := goodIn_r _ [34, 4, 35, 17, 18, 19, 36, 37, 47, 48, 49, 50, 51, 52, 53] (by decide +kernel) (by decide +kernel)
set_option maxRecDepth 20000 in
theorem gX1_hash_X1_waysOf : GoodIn wsX1_hash (wsV RX1 84 RX1 yX1_waysOf wsX1_waysOf) := goodIn_app (goodIn_of _ (by decide +kernel)) ggX1_hash_X1_waysOf
set_option maxRecDepth 20000 in
theorem ggX1_hash_X1_hashOfWays : GoodIn wsX1_hash wsX1_hashOfWays := goodIn_r _ [41, 4, 2, 42, 17, 18, 19, 36, 37, 43, 44, 45, 11, 46, 35, 27, 28, 29, 30, 47, 48, 49, 50, 51, 52, 53] (by decide +kernel) (by decide +kernel)
set_option maxRecDepth 20000 in
theorem gX1_hash_X1_hashOfWays : GoodIn wsX1_hash (wsV RX1 108 RX1 yX1_hashOfWays wsX1_hashOfWays) := goodIn_app (goodIn_of _ (by decide +kernel)) ggX1_hash_X1_hashOfWays
theorem dX1_hash_0 : decode cX1_hash 0 = .ok (.ldc2_w 97, 3) := by decide +kernel
theorem dX1_hash_3 : decode cX1_hash 3 = .ok (.lstore_n 1, 1) := by decide +kernel
theorem dX1_hash_4 : decode cX1_hash 4 = .ok (.iconst 0, 1) := by decide +kernel
theorem dX1_hash_5 : decode cX1_hash 5 = .ok (.istore_n 3, 1) := by decide +kernel
theorem dX1_hash_6 : decode cX1_hash 6 = .ok (.iload_n 3, 1) := by decide +kernel
theorem dX1_hash_7 : decode cX1_hash 7 = .ok (.bipush 12, 2) := by decide +kernel
theorem dX1_hash_9 : decode cX1_hash 9 = .ok (.if_icmp .ge 22, 3) := by decide +kernel
theorem dX1_hash_12 : decode cX1_hash 12 = .ok (.ldc2_w 99, 3) := by decide +kernel
theorem dX1_hash_15 : decode cX1_hash 15 = .ok (.lload_n 1, 1) := by decide +kernel
theorem dX1_hash_16 : decode cX1_hash 16 = .ok (.lmul, 1) := by decide +kernel
theorem dX1_hash_17 : decode cX1_hash 17 = .ok (.aload_n 0, 1) := by decide +kernel
theorem dX1_hash_18 : decode cX1_hash 18 = .ok (.iload_n 3, 1) := by decide +kernel
theorem dX1_hash_19 : decode cX1_hash 19 = .ok (.invokevirtual 101, 3) := by decide +kernel
theorem dX1_hash_22 : decode cX1_hash 22 = .ok (.i2l, 1) := by decide +kernel
theorem dX1_hash_23 : decode cX1_hash 23 = .ok (.ladd, 1) := by decide +kernel
theorem dX1_hash_24 : decode cX1_hash 24 = .ok (.lstore_n 1, 1) := by decide +kernel
theorem dX1_hash_25 : decode cX1_hash 25 = .ok (.iinc 3 1, 3) := by decide +kernel
theorem dX1_hash_28 : decode cX1_hash 28 = .ok (.goto (-22), 3) := by decide +kernel
theorem dX1_hash_31 : decode cX1_hash 31 = .ok (.lload_n 1, 1) := by decide +kernel
theorem dX1_hash_32 : decode cX1_hash 32 = .ok (.aload_n 0, 1) := by decide +kernel
theorem dX1_hash_33 : decode cX1_hash 33 = .ok (.getfield 15, 3) := by decide +kernel
theorem dX1_hash_36 : decode cX1_hash 36 = .ok (.iconst 0, 1) := by decide +kernel
theorem dX1_hash_37 : decode cX1_hash 37 = .ok (.aload_n 0, 1) := by decide +kernel
theorem dX1_hash_38 : decode cX1_hash 38 = .ok (.getfield 9, 3) := by decide +kernel
theorem dX1_hash_41 : decode cX1_hash 41 = .ok (.iconst 0, 1) := by decide +kernel
theorem dX1_hash_42 : decode cX1_hash 42 = .ok (.invokestatic 51, 3) := by decide +kernel
theorem dX1_hash_45 : decode cX1_hash 45 = .ok (.invokestatic 104, 3) := by decide +kernel
theorem dX1_hash_48 : decode cX1_hash 48 = .ok (.lstore_n 1, 1) := by decide +kernel
theorem dX1_hash_49 : decode cX1_hash 49 = .ok (.lload_n 1, 1) := by decide +kernel
theorem dX1_hash_50 : decode cX1_hash 50 = .ok (.aload_n 0, 1) := by decide +kernel
theorem dX1_hash_51 : decode cX1_hash 51 = .ok (.getfield 18, 3) := by decide +kernel
theorem dX1_hash_54 : decode cX1_hash 54 = .ok (.iconst 0, 1) := by decide +kernel
theorem dX1_hash_55 : decode cX1_hash 55 = .ok (.aload_n 0, 1) := by decide +kernel
theorem dX1_hash_56 : decode cX1_hash 56 = .ok (.getfield 9, 3) := by decide +kernel
theorem dX1_hash_59 : decode cX1_hash 59 = .ok (.iconst 1, 1) := by decide +kernel
theorem dX1_hash_60 : decode cX1_hash 60 = .ok (.invokestatic 51, 3) := by decide +kernel
theorem dX1_hash_63 : decode cX1_hash 63 = .ok (.iconst 3, 1) := by decide +kernel
theorem dX1_hash_64 : decode cX1_hash 64 = .ok (.imul, 1) := by decide +kernel
theorem dX1_hash_65 : decode cX1_hash 65 = .ok (.invokestatic 104, 3) := by decide +kernel
theorem dX1_hash_68 : decode cX1_hash 68 = .ok (.lstore_n 1, 1) := by decide +kernel
theorem dX1_hash_69 : decode cX1_hash 69 = .ok (.lload_n 1, 1) := by decide +kernel
theorem dX1_hash_70 : decode cX1_hash 70 = .ok (.aload_n 0, 1) := by decide +kernel
theorem dX1_hash_71 : decode cX1_hash 71 = .ok (.getfield 21, 3) := by decide +kernel
theorem dX1_hash_74 : decode cX1_hash 74 = .ok (.iconst 0, 1) := by decide +kernel
theorem dX1_hash_75 : decode cX1_hash 75 = .ok (.aload_n 0, 1) := by decide +kernel
theorem dX1_hash_76 : decode cX1_hash 76 = .ok (.getfield 9, 3) := by decide +kernel
theorem dX1_hash_79 : decode cX1_hash 79 = .ok (.iconst 2, 1) := by decide +kernel
theorem dX1_hash_80 : decode cX1_hash 80 = .ok (.invokestatic 51, 3) := by decide +kernel
theorem dX1_hash_83 : decode cX1_hash 83 = .ok (.iconst 3, 1) := by decide +kernel
theorem dX1_hash_84 : decode cX1_hash 84 = .ok (.imul, 1) := by decide +kernel
theorem dX1_hash_85 : decode cX1_hash 85 = .ok (.invokestatic 104, 3) := by decide +kernel
theorem dX1_hash_88 : decode cX1_hash 88 = .ok (.lstore_n 1, 1) := by decide +kernel
theorem dX1_hash_89 : decode cX1_hash 89 = .ok (.iconst 0, 1) := by decide +kernel
theorem dX1_hash_90 : decode cX1_hash 90 = .ok (.istore_n 3, 1) := by decide +kernel
theorem dX1_hash_91 : decode cX1_hash 91 = .ok (.iload_n 3, 1) := by decide +kernel
theorem dX1_hash_92 : decode cX1_hash 92 = .ok (.aload_n 0, 1) := by decide +kernel
theorem dX1_hash_93 : decode cX1_hash 93 = .ok (.getfield 9, 3) := by decide +kernel
theorem dX1_hash_96 : decode cX1_hash 96 = .ok (.iconst 3, 1) := by decide +kernel
theorem dX1_hash_97 : decode cX1_hash 97 = .ok (.invokestatic 51, 3) := by decide +kernel
theorem dX1_hash_100 : decode cX1_hash 100 = .ok (.if_icmp .ge 44, 3) := by decide +kernel
theorem dX1_hash_103 : decode cX1_hash 103 = .ok (.lload_n 1, 1) := by decide +kernel
theorem dX1_hash_104 : decode cX1_hash 104 = .ok (.aload_n 0, 1) := by decide +kernel
theorem dX1_hash_105 : decode cX1_hash 105 = .ok (.getfield 24, 3) := by decide +kernel
theorem dX1_hash_108 : decode cX1_hash 108 = .ok (.iload_n 3, 1) := by decide +kernel
theorem dX1_hash_109 : decode cX1_hash 109 = .ok (.bipush 7, 2) := by decide +kernel
theorem dX1_hash_111 : decode cX1_hash 111 = .ok (.imul, 1) := by decide +kernel
theorem dX1_hash_112 : decode cX1_hash 112 = .ok (.bipush 7, 2) := by decide +kernel
theorem dX1_hash_114 : decode cX1_hash 114 = .ok (.invokestatic 104, 3) := by decide +kernel
theorem dX1_hash_117 : decode cX1_hash 117 = .ok (.lstore_n 1, 1) := by decide +kernel
theorem dX1_hash_118 : decode cX1_hash 118 = .ok (.ldc2_w 99, 3) := by decide +kernel
theorem dX1_hash_121 : decode cX1_hash 121 = .ok (.lload_n 1, 1) := by decide +kernel
theorem dX1_hash_122 : decode cX1_hash 122 = .ok (.lmul, 1) := by decide +kernel
theorem dX1_hash_123 : decode cX1_hash 123 = .ok (.aload_n 0, 1) := by decide +kernel
theorem dX1_hash_124 : decode cX1_hash 124 = .ok (.iload_n 3, 1) := by decide +kernel
theorem dX1_hash_125 : decode cX1_hash 125 = .ok (.invokevirtual 84, 3) := by decide +kernel
theorem dX1_hash_128 : decode cX1_hash 128 = .ok (.i2l, 1) := by decide +kernel
theorem dX1_hash_129 : decode cX1_hash 129 = .ok (.ladd, 1) := by decide +kernel
theorem dX1_hash_130 : decode cX1_hash 130 = .ok (.lstore_n 1, 1) := by decide +kernel
theorem dX1_hash_131 : decode cX1_hash 131 = .ok (.aload_n 0, 1) := by decide +kernel
theorem dX1_hash_132 : decode cX1_hash 132 = .ok (.lload_n 1, 1) := by decide +kernel
theorem dX1_hash_133 : decode cX1_hash 133 = .ok (.iload_n 3, 1) := by decide +kernel
theorem dX1_hash_134 : decode cX1_hash 134 = .ok (.invokevirtual 108, 3) := by decide +kernel
theorem dX1_hash_137 : decode cX1_hash 137 = .ok (.lstore_n 1, 1) := by decide +kernel
theorem dX1_hash_138 : decode cX1_hash 138 = .ok (.iinc 3 1, 3) := by decide +kernel
theorem dX1_hash_141 : decode cX1_hash 141 = .ok (.goto (-50), 3) := by decide +kernel
theorem dX1_hash_144 : decode cX1_hash 144 = .ok (.lload_n 1, 1) := by decide +kernel
theorem dX1_hash_145 : decode cX1_hash 145 = .ok (.lreturn, 1) := by decide +kernel
set_option maxRecDepth 20000 in
theorem ggX1_hashOfWays_X5_at : GoodIn wsX1_hashOfWays wsX5_at := goodIn_r _ [6] (by decide +kernel) (by decide +kernel)
set_option maxRecDepth 20000 in
theorem gX1_hashOfWays_X5_at_n51 : GoodIn wsX1_hashOfWays (wsX5_at) := ggX1_hashOfWays_X5_at
set_option maxRecDepth 20000 in
theorem ggX1_hashOfWays_X5_wayOf : GoodIn wsX1_hashOfWays wsX5_wayOf := goodIn_r _ [8] (by decide +kernel) (by decide +kernel)
set_option maxRecDepth 20000 in
theorem gX1_hashOfWays_X5_wayOf_n74 : GoodIn wsX1_hashOfWays (wsX5_wayOf) := ggX1_hashOfWays_X5_wayOf
set_option maxRecDepth 20000 in
theorem ggX1_hashOfWays_X1_lengthOf : GoodIn wsX1_hashOfWays wsX1_lengthOf := goodIn_r _ [13, 14, 4, 5, 6, 19, 20, 21, 22, 23, 24, 25] (by decide +kernel) (by decide +kernel)
set_option maxRecDepth 20000 in
theorem gX1_hashOfWays_X1_lengthOf : GoodIn wsX1_hashOfWays (wsV RX1 112 RX1 yX1_lengthOf wsX1_lengthOf) := goodIn_app (goodIn_of _ (by decide +kernel)) ggX1_hashOfWays_X1_lengthOf
set_option maxRecDepth 20000 in
theorem ggX1_hashOfWays_X5_hashOf : GoodIn wsX1_hashOfWays wsX5_hashOf := goodIn_r _ [16, 17, 18, 4, 5, 6] (by decide +kernel) (by decide +kernel)
set_option maxRecDepth 20000 in
theorem gX1_hashOfWays_X5_hashOf_n104 : GoodIn wsX1_hashOfWays (wsX5_hashOf) := ggX1_hashOfWays_X5_hashOf
theorem dX1_hashOfWays_0 : decode cX1_hashOfWays 0 = .ok (.lload_n 1, 1) := by decide +kernel
theorem dX1_hashOfWays_1 : decode cX1_hashOfWays 1 = .ok (.lstore 4, 2) := by decide +kernel
theorem dX1_hashOfWays_3 : decode cX1_hashOfWays 3 = .ok (.iconst 0, 1) := by decide +kernel
theorem dX1_hashOfWays_4 : decode cX1_hashOfWays 4 = .ok (.istore 6, 2) := by decide +kernel
theorem dX1_hashOfWays_6 : decode cX1_hashOfWays 6 = .ok (.iload 6, 2) := by decide +kernel
theorem dX1_hashOfWays_8 : decode cX1_hashOfWays 8 = .ok (.aload_n 0, 1) := by decide +kernel
theorem dX1_hashOfWays_9 : decode cX1_hashOfWays 9 = .ok (.getfield 9, 3) := by decide +kernel
theorem dX1_hashOfWays_12 : decode cX1_hashOfWays 12 = .ok (.iconst 2, 1) := by decide +kernel
theorem dX1_hashOfWays_13 : decode cX1_hashOfWays 13 = .ok (.invokestatic 51, 3) := by decide +kernel
theorem dX1_hashOfWays_16 : decode cX1_hashOfWays 16 = .ok (.if_icmp .ge 55, 3) := by decide +kernel
theorem dX1_hashOfWays_19 : decode cX1_hashOfWays 19 = .ok (.iload_n 3, 1) := by decide +kernel
theorem dX1_hashOfWays_20 : decode cX1_hashOfWays 20 = .ok (.iload 6, 2) := by decide +kernel
theorem dX1_hashOfWays_22 : decode cX1_hashOfWays 22 = .ok (.invokestatic 74, 3) := by decide +kernel
theorem dX1_hashOfWays_25 : decode cX1_hashOfWays 25 = .ok (.istore 7, 2) := by decide +kernel
theorem dX1_hashOfWays_27 : decode cX1_hashOfWays 27 = .ok (.ldc2_w 99, 3) := by decide +kernel
theorem dX1_hashOfWays_30 : decode cX1_hashOfWays 30 = .ok (.lload 4, 2) := by decide +kernel
theorem dX1_hashOfWays_32 : decode cX1_hashOfWays 32 = .ok (.lmul, 1) := by decide +kernel
theorem dX1_hashOfWays_33 : decode cX1_hashOfWays 33 = .ok (.aload_n 0, 1) := by decide +kernel
theorem dX1_hashOfWays_34 : decode cX1_hashOfWays 34 = .ok (.iload 7, 2) := by decide +kernel
theorem dX1_hashOfWays_36 : decode cX1_hashOfWays 36 = .ok (.invokevirtual 112, 3) := by decide +kernel
theorem dX1_hashOfWays_39 : decode cX1_hashOfWays 39 = .ok (.i2l, 1) := by decide +kernel
theorem dX1_hashOfWays_40 : decode cX1_hashOfWays 40 = .ok (.ladd, 1) := by decide +kernel
theorem dX1_hashOfWays_41 : decode cX1_hashOfWays 41 = .ok (.lstore 4, 2) := by decide +kernel
theorem dX1_hashOfWays_43 : decode cX1_hashOfWays 43 = .ok (.lload 4, 2) := by decide +kernel
theorem dX1_hashOfWays_45 : decode cX1_hashOfWays 45 = .ok (.aload_n 0, 1) := by decide +kernel
theorem dX1_hashOfWays_46 : decode cX1_hashOfWays 46 = .ok (.getfield 30, 3) := by decide +kernel
theorem dX1_hashOfWays_49 : decode cX1_hashOfWays 49 = .ok (.iload 7, 2) := by decide +kernel
theorem dX1_hashOfWays_51 : decode cX1_hashOfWays 51 = .ok (.bipush 10, 2) := by decide +kernel
theorem dX1_hashOfWays_53 : decode cX1_hashOfWays 53 = .ok (.imul, 1) := by decide +kernel
theorem dX1_hashOfWays_54 : decode cX1_hashOfWays 54 = .ok (.aload_n 0, 1) := by decide +kernel
theorem dX1_hashOfWays_55 : decode cX1_hashOfWays 55 = .ok (.iload 7, 2) := by decide +kernel
theorem dX1_hashOfWays_57 : decode cX1_hashOfWays 57 = .ok (.invokevirtual 112, 3) := by decide +kernel
theorem dX1_hashOfWays_60 : decode cX1_hashOfWays 60 = .ok (.invokestatic 104, 3) := by decide +kernel
theorem dX1_hashOfWays_63 : decode cX1_hashOfWays 63 = .ok (.lstore 4, 2) := by decide +kernel
theorem dX1_hashOfWays_65 : decode cX1_hashOfWays 65 = .ok (.iinc 6 1, 3) := by decide +kernel
theorem dX1_hashOfWays_68 : decode cX1_hashOfWays 68 = .ok (.goto (-62), 3) := by decide +kernel
theorem dX1_hashOfWays_71 : decode cX1_hashOfWays 71 = .ok (.lload 4, 2) := by decide +kernel
theorem dX1_hashOfWays_73 : decode cX1_hashOfWays 73 = .ok (.lreturn, 1) := by decide +kernel
theorem dX2_init_0 : decode cX2_init 0 = .ok (.aload_n 0, 1) := by decide +kernel
theorem dX2_init_1 : decode cX2_init 1 = .ok (.invokespecial 3, 3) := by decide +kernel
theorem dX2_init_4 : decode cX2_init 4 = .ok (.aload_n 0, 1) := by decide +kernel
theorem dX2_init_5 : decode cX2_init 5 = .ok (.bipush 100, 2) := by decide +kernel
theorem dX2_init_7 : decode cX2_init 7 = .ok (.newarray .int, 2) := by decide +kernel
theorem dX2_init_9 : decode cX2_init 9 = .ok (.putfield 9, 3) := by decide +kernel
theorem dX2_init_12 : decode cX2_init 12 = .ok (.aload_n 0, 1) := by decide +kernel
theorem dX2_init_13 : decode cX2_init 13 = .ok (.bipush 10, 2) := by decide +kernel
theorem dX2_init_15 : decode cX2_init 15 = .ok (.newarray .int, 2) := by decide +kernel
theorem dX2_init_17 : decode cX2_init 17 = .ok (.putfield 15, 3) := by decide +kernel
theorem dX2_init_20 : decode cX2_init 20 = .ok (.aload_n 0, 1) := by decide +kernel
theorem dX2_init_21 : decode cX2_init 21 = .ok (.bipush 10, 2) := by decide +kernel
theorem dX2_init_23 : decode cX2_init 23 = .ok (.newarray .int, 2) := by decide +kernel
theorem dX2_init_25 : decode cX2_init 25 = .ok (.putfield 18, 3) := by decide +kernel
theorem dX2_init_28 : decode cX2_init 28 = .ok (.aload_n 0, 1) := by decide +kernel
theorem dX2_init_29 : decode cX2_init 29 = .ok (.bipush 100, 2) := by decide +kernel
theorem dX2_init_31 : decode cX2_init 31 = .ok (.newarray .int, 2) := by decide +kernel
theorem dX2_init_33 : decode cX2_init 33 = .ok (.putfield 21, 3) := by decide +kernel
theorem dX2_init_36 : decode cX2_init 36 = .ok (.aload_n 0, 1) := by decide +kernel
theorem dX2_init_37 : decode cX2_init 37 = .ok (.bipush 100, 2) := by decide +kernel
theorem dX2_init_39 : decode cX2_init 39 = .ok (.newarray .int, 2) := by decide +kernel
theorem dX2_init_41 : decode cX2_init 41 = .ok (.putfield 24, 3) := by decide +kernel
theorem dX2_init_44 : decode cX2_init 44 = .ok (.return_, 1) := by decide +kernel
set_option maxRecDepth 20000 in
theorem ggX2_learn_J7_fill_53178 : GoodIn wsX2_learn wsJ7_fill_53178 := goodIn_r _ [6] (by decide +kernel) (by decide +kernel)
set_option maxRecDepth 20000 in
theorem gX2_learn_J7_fill_53178 : GoodIn wsX2_learn (va_wsS RX2 27 yJ7_fill_53178 wsJ7_fill_53178) := goodIn_app (goodIn_of _ (by decide +kernel)) ggX2_learn_J7_fill_53178
set_option maxRecDepth 20000 in
theorem ggX2_learn_X1_number : GoodIn wsX2_learn wsX1_number := goodIn_r _ [11, 12, 13, 14, 15, 10, 16, 17, 18, 19, 20, 21, 22, 23, 24, 25, 26, 27, 40, 41, 42, 43, 44, 45, 46] (by decide +kernel) (by decide +kernel)
set_option maxRecDepth 20000 in
theorem gX2_learn_X1_number : GoodIn wsX2_learn (wsV RX2 33 RX1 yX1_number wsX1_number) := goodIn_app (goodIn_of _ (by decide +kernel)) ggX2_learn_X1_number
set_option maxRecDepth 20000 in
theorem ggX2_learn_X1_partOfLink : GoodIn wsX2_learn wsX1_partOfLink := goodIn_r _ [31, 32, 18, 19, 20, 40, 41, 42, 43, 44, 45, 46] (by decide +kernel) (by decide +kernel)
set_option maxRecDepth 20000 in
theorem gX2_learn_X1_partOfLink : GoodIn wsX2_learn (wsV RX2 39 RX1 yX1_partOfLink wsX1_partOfLink) := goodIn_app (goodIn_of _ (by decide +kernel)) ggX2_learn_X1_partOfLink
set_option maxRecDepth 20000 in
theorem ggX2_learn_X5_put : GoodIn wsX2_learn wsX5_put := goodIn_r _ [34] (by decide +kernel) (by decide +kernel)
set_option maxRecDepth 20000 in
theorem gX2_learn_X5_put_n43 : GoodIn wsX2_learn (wsX5_put) := ggX2_learn_X5_put
theorem dX2_learn_0 : decode cX2_learn 0 = .ok (.aload_n 0, 1) := by decide +kernel
theorem dX2_learn_1 : decode cX2_learn 1 = .ok (.getfield 9, 3) := by decide +kernel
theorem dX2_learn_4 : decode cX2_learn 4 = .ok (.iconst 0, 1) := by decide +kernel
theorem dX2_learn_5 : decode cX2_learn 5 = .ok (.invokestatic 27, 3) := by decide +kernel
theorem dX2_learn_8 : decode cX2_learn 8 = .ok (.aload_n 0, 1) := by decide +kernel
theorem dX2_learn_9 : decode cX2_learn 9 = .ok (.getfield 15, 3) := by decide +kernel
theorem dX2_learn_12 : decode cX2_learn 12 = .ok (.iconst 0, 1) := by decide +kernel
theorem dX2_learn_13 : decode cX2_learn 13 = .ok (.invokestatic 27, 3) := by decide +kernel
theorem dX2_learn_16 : decode cX2_learn 16 = .ok (.iconst 0, 1) := by decide +kernel
theorem dX2_learn_17 : decode cX2_learn 17 = .ok (.istore_n 2, 1) := by decide +kernel
theorem dX2_learn_18 : decode cX2_learn 18 = .ok (.iload_n 2, 1) := by decide +kernel
theorem dX2_learn_19 : decode cX2_learn 19 = .ok (.aload_n 1, 1) := by decide +kernel
theorem dX2_learn_20 : decode cX2_learn 20 = .ok (.iconst 1, 1) := by decide +kernel
theorem dX2_learn_21 : decode cX2_learn 21 = .ok (.invokevirtual 33, 3) := by decide +kernel
theorem dX2_learn_24 : decode cX2_learn 24 = .ok (.if_icmp .ge 64, 3) := by decide +kernel
theorem dX2_learn_27 : decode cX2_learn 27 = .ok (.aload_n 1, 1) := by decide +kernel
theorem dX2_learn_28 : decode cX2_learn 28 = .ok (.iload_n 2, 1) := by decide +kernel
theorem dX2_learn_29 : decode cX2_learn 29 = .ok (.iconst 0, 1) := by decide +kernel
theorem dX2_learn_30 : decode cX2_learn 30 = .ok (.invokevirtual 39, 3) := by decide +kernel
theorem dX2_learn_33 : decode cX2_learn 33 = .ok (.istore_n 3, 1) := by decide +kernel
theorem dX2_learn_34 : decode cX2_learn 34 = .ok (.aload_n 1, 1) := by decide +kernel
theorem dX2_learn_35 : decode cX2_learn 35 = .ok (.iload_n 2, 1) := by decide +kernel
theorem dX2_learn_36 : decode cX2_learn 36 = .ok (.iconst 1, 1) := by decide +kernel
theorem dX2_learn_37 : decode cX2_learn 37 = .ok (.invokevirtual 39, 3) := by decide +kernel
theorem dX2_learn_40 : decode cX2_learn 40 = .ok (.istore 4, 2) := by decide +kernel
theorem dX2_learn_42 : decode cX2_learn 42 = .ok (.aload_n 0, 1) := by decide +kernel
theorem dX2_learn_43 : decode cX2_learn 43 = .ok (.getfield 9, 3) := by decide +kernel
theorem dX2_learn_46 : decode cX2_learn 46 = .ok (.iload_n 3, 1) := by decide +kernel
theorem dX2_learn_47 : decode cX2_learn 47 = .ok (.bipush 10, 2) := by decide +kernel
theorem dX2_learn_49 : decode cX2_learn 49 = .ok (.imul, 1) := by decide +kernel
theorem dX2_learn_50 : decode cX2_learn 50 = .ok (.iload 4, 2) := by decide +kernel
theorem dX2_learn_52 : decode cX2_learn 52 = .ok (.iadd, 1) := by decide +kernel
theorem dX2_learn_53 : decode cX2_learn 53 = .ok (.aload_n 1, 1) := by decide +kernel
theorem dX2_learn_54 : decode cX2_learn 54 = .ok (.iload_n 2, 1) := by decide +kernel
theorem dX2_learn_55 : decode cX2_learn 55 = .ok (.iconst 2, 1) := by decide +kernel
theorem dX2_learn_56 : decode cX2_learn 56 = .ok (.invokevirtual 39, 3) := by decide +kernel
theorem dX2_learn_59 : decode cX2_learn 59 = .ok (.invokestatic 43, 3) := by decide +kernel
theorem dX2_learn_62 : decode cX2_learn 62 = .ok (.aload_n 0, 1) := by decide +kernel
theorem dX2_learn_63 : decode cX2_learn 63 = .ok (.getfield 9, 3) := by decide +kernel
theorem dX2_learn_66 : decode cX2_learn 66 = .ok (.iload 4, 2) := by decide +kernel
theorem dX2_learn_68 : decode cX2_learn 68 = .ok (.bipush 10, 2) := by decide +kernel
theorem dX2_learn_70 : decode cX2_learn 70 = .ok (.imul, 1) := by decide +kernel
theorem dX2_learn_71 : decode cX2_learn 71 = .ok (.iload_n 3, 1) := by decide +kernel
theorem dX2_learn_72 : decode cX2_learn 72 = .ok (.iadd, 1) := by decide +kernel
theorem dX2_learn_73 : decode cX2_learn 73 = .ok (.aload_n 1, 1) := by decide +kernel
theorem dX2_learn_74 : decode cX2_learn 74 = .ok (.iload_n 2, 1) := by decide +kernel
theorem dX2_learn_75 : decode cX2_learn 75 = .ok (.iconst 2, 1) := by decide +kernel
theorem dX2_learn_76 : decode cX2_learn 76 = .ok (.invokevirtual 39, 3) := by decide +kernel
theorem dX2_learn_79 : decode cX2_learn 79 = .ok (.invokestatic 43, 3) := by decide +kernel
theorem dX2_learn_82 : decode cX2_learn 82 = .ok (.iinc 2 1, 3) := by decide +kernel
theorem dX2_learn_85 : decode cX2_learn 85 = .ok (.goto (-67), 3) := by decide +kernel
theorem dX2_learn_88 : decode cX2_learn 88 = .ok (.return_, 1) := by decide +kernel
set_option maxRecDepth 20000 in
theorem ggX2_delayBetween_X5_at : GoodIn wsX2_delayBetween wsX5_at := goodIn_r _ [4] (by decide +kernel) (by decide +kernel)
set_option maxRecDepth 20000 in
theorem gX2_delayBetween_X5_at_n47 : GoodIn wsX2_delayBetween (wsX5_at) := ggX2_delayBetween_X5_at
theorem dX2_delayBetween_0 : decode cX2_delayBetween 0 = .ok (.aload_n 0, 1) := by decide +kernel
theorem dX2_delayBetween_1 : decode cX2_delayBetween 1 = .ok (.getfield 9, 3) := by decide +kernel
theorem dX2_delayBetween_4 : decode cX2_delayBetween 4 = .ok (.iload_n 1, 1) := by decide +kernel
theorem dX2_delayBetween_5 : decode cX2_delayBetween 5 = .ok (.bipush 10, 2) := by decide +kernel
theorem dX2_delayBetween_7 : decode cX2_delayBetween 7 = .ok (.imul, 1) := by decide +kernel
theorem dX2_delayBetween_8 : decode cX2_delayBetween 8 = .ok (.iload_n 2, 1) := by decide +kernel
theorem dX2_delayBetween_9 : decode cX2_delayBetween 9 = .ok (.iadd, 1) := by decide +kernel
theorem dX2_delayBetween_10 : decode cX2_delayBetween 10 = .ok (.invokestatic 47, 3) := by decide +kernel
theorem dX2_delayBetween_13 : decode cX2_delayBetween 13 = .ok (.ireturn, 1) := by decide +kernel
set_option maxRecDepth 20000 in
theorem ggX2_carry_X1_lengthOf : GoodIn wsX2_carry wsX1_lengthOf := goodIn_r _ [5, 6, 7, 8, 9, 23, 24, 25, 26, 27, 28, 29] (by decide +kernel) (by decide +kernel)
set_option maxRecDepth 20000 in
theorem gX2_carry_X1_lengthOf : GoodIn wsX2_carry (wsV RX2 51 RX1 yX1_lengthOf wsX1_lengthOf) := goodIn_app (goodIn_of _ (by decide +kernel)) ggX2_carry_X1_lengthOf
set_option maxRecDepth 20000 in
theorem ggX2_carry_X1_nodeOf : GoodIn wsX2_carry wsX1_nodeOf := goodIn_r _ [13, 14, 7, 8, 9, 23, 24, 25, 26, 27, 28, 29] (by decide +kernel) (by decide +kernel)
set_option maxRecDepth 20000 in
theorem gX2_carry_X1_nodeOf : GoodIn wsX2_carry (wsV RX2 54 RX1 yX1_nodeOf wsX1_nodeOf) := goodIn_app (goodIn_of _ (by decide +kernel)) ggX2_carry_X1_nodeOf
set_option maxRecDepth 20000 in
theorem ggX2_carry_X5_holds : GoodIn wsX2_carry wsX5_holds := goodIn_r _ [16] (by decide +kernel) (by decide +kernel)
set_option maxRecDepth 20000 in
theorem gX2_carry_X5_holds_n57 : GoodIn wsX2_carry (wsX5_holds) := ggX2_carry_X5_holds
set_option maxRecDepth 20000 in
theorem ggX2_carry_X2_delayBetween : GoodIn wsX2_carry wsX2_delayBetween := goodIn_r _ [21, 22, 7, 8, 9, 30, 31, 32, 33, 34] (by decide +kernel) (by decide +kernel)
set_option maxRecDepth 20000 in
theorem gX2_carry_X2_delayBetween : GoodIn wsX2_carry (wsV RX2 61 RX2 yX2_delayBetween wsX2_delayBetween) := goodIn_app (goodIn_of _ (by decide +kernel)) ggX2_carry_X2_delayBetween
theorem dX2_carry_0 : decode cX2_carry 0 = .ok (.aload_n 1, 1) := by decide +kernel
theorem dX2_carry_1 : decode cX2_carry 1 = .ok (.iload_n 2, 1) := by decide +kernel
theorem dX2_carry_2 : decode cX2_carry 2 = .ok (.invokevirtual 51, 3) := by decide +kernel
theorem dX2_carry_5 : decode cX2_carry 5 = .ok (.istore 4, 2) := by decide +kernel
theorem dX2_carry_7 : decode cX2_carry 7 = .ok (.iconst 0, 1) := by decide +kernel
theorem dX2_carry_8 : decode cX2_carry 8 = .ok (.istore 5, 2) := by decide +kernel
theorem dX2_carry_10 : decode cX2_carry 10 = .ok (.iload 5, 2) := by decide +kernel
theorem dX2_carry_12 : decode cX2_carry 12 = .ok (.iload 4, 2) := by decide +kernel
theorem dX2_carry_14 : decode cX2_carry 14 = .ok (.if_icmp .ge 52, 3) := by decide +kernel
theorem dX2_carry_17 : decode cX2_carry 17 = .ok (.aload_n 1, 1) := by decide +kernel
theorem dX2_carry_18 : decode cX2_carry 18 = .ok (.iload_n 2, 1) := by decide +kernel
theorem dX2_carry_19 : decode cX2_carry 19 = .ok (.iload 5, 2) := by decide +kernel
theorem dX2_carry_21 : decode cX2_carry 21 = .ok (.invokevirtual 54, 3) := by decide +kernel
theorem dX2_carry_24 : decode cX2_carry 24 = .ok (.istore 6, 2) := by decide +kernel
theorem dX2_carry_26 : decode cX2_carry 26 = .ok (.iload_n 3, 1) := by decide +kernel
theorem dX2_carry_27 : decode cX2_carry 27 = .ok (.iload 6, 2) := by decide +kernel
theorem dX2_carry_29 : decode cX2_carry 29 = .ok (.invokestatic 57, 3) := by decide +kernel
theorem dX2_carry_32 : decode cX2_carry 32 = .ok (.ifCond .eq 26, 3) := by decide +kernel
theorem dX2_carry_35 : decode cX2_carry 35 = .ok (.iload 5, 2) := by decide +kernel
theorem dX2_carry_37 : decode cX2_carry 37 = .ok (.ifCond .le 23, 3) := by decide +kernel
theorem dX2_carry_40 : decode cX2_carry 40 = .ok (.aload_n 0, 1) := by decide +kernel
theorem dX2_carry_41 : decode cX2_carry 41 = .ok (.aload_n 1, 1) := by decide +kernel
theorem dX2_carry_42 : decode cX2_carry 42 = .ok (.iload_n 2, 1) := by decide +kernel
theorem dX2_carry_43 : decode cX2_carry 43 = .ok (.iload 5, 2) := by decide +kernel
theorem dX2_carry_45 : decode cX2_carry 45 = .ok (.iconst 1, 1) := by decide +kernel
theorem dX2_carry_46 : decode cX2_carry 46 = .ok (.isub, 1) := by decide +kernel
theorem dX2_carry_47 : decode cX2_carry 47 = .ok (.invokevirtual 54, 3) := by decide +kernel
theorem dX2_carry_50 : decode cX2_carry 50 = .ok (.iload 6, 2) := by decide +kernel
theorem dX2_carry_52 : decode cX2_carry 52 = .ok (.invokevirtual 61, 3) := by decide +kernel
theorem dX2_carry_55 : decode cX2_carry 55 = .ok (.ifCond .ne 5, 3) := by decide +kernel
theorem dX2_carry_58 : decode cX2_carry 58 = .ok (.iconst 0, 1) := by decide +kernel
theorem dX2_carry_59 : decode cX2_carry 59 = .ok (.ireturn, 1) := by decide +kernel
theorem dX2_carry_60 : decode cX2_carry 60 = .ok (.iinc 5 1, 3) := by decide +kernel
theorem dX2_carry_63 : decode cX2_carry 63 = .ok (.goto (-53), 3) := by decide +kernel
theorem dX2_carry_66 : decode cX2_carry 66 = .ok (.iload 4, 2) := by decide +kernel
theorem dX2_carry_68 : decode cX2_carry 68 = .ok (.ifCond .le 7, 3) := by decide +kernel
theorem dX2_carry_71 : decode cX2_carry 71 = .ok (.iconst 1, 1) := by decide +kernel
theorem dX2_carry_72 : decode cX2_carry 72 = .ok (.goto 4, 3) := by decide +kernel
theorem dX2_carry_75 : decode cX2_carry 75 = .ok (.iconst 0, 1) := by decide +kernel
theorem dX2_carry_76 : decode cX2_carry 76 = .ok (.ireturn, 1) := by decide +kernel
set_option maxRecDepth 20000 in
theorem ggX2_delayOf_X1_lengthOf : GoodIn wsX2_delayOf wsX1_lengthOf := goodIn_r _ [5, 6, 7, 8, 9, 21, 22, 23, 24, 25, 26, 27] (by decide +kernel) (by decide +kernel)
set_option maxRecDepth 20000 in
theorem gX2_delayOf_X1_lengthOf : GoodIn wsX2_delayOf (wsV RX2 51 RX1 yX1_lengthOf wsX1_lengthOf) := goodIn_app (goodIn_of _ (by decide +kernel)) ggX2_delayOf_X1_lengthOf
set_option maxRecDepth 20000 in
theorem ggX2_delayOf_X1_nodeOf : GoodIn wsX2_delayOf wsX1_nodeOf := goodIn_r _ [13, 14, 7, 8, 9, 21, 22, 23, 24, 25, 26, 27] (by decide +kernel) (by decide +kernel)
set_option maxRecDepth 20000 in
theorem gX2_delayOf_X1_nodeOf : GoodIn wsX2_delayOf (wsV RX2 54 RX1 yX1_nodeOf wsX1_nodeOf) := goodIn_app (goodIn_of _ (by decide +kernel)) ggX2_delayOf_X1_nodeOf
set_option maxRecDepth 20000 in
theorem ggX2_delayOf_X2_delayBetween : GoodIn wsX2_delayOf wsX2_delayBetween := goodIn_r _ [19, 20, 7, 8, 9, 28, 29, 30, 31, 32] (by decide +kernel) (by decide +kernel)
set_option maxRecDepth 20000 in
theorem gX2_delayOf_X2_delayBetween : GoodIn wsX2_delayOf (wsV RX2 61 RX2 yX2_delayBetween wsX2_delayBetween) := goodIn_app (goodIn_of _ (by decide +kernel)) ggX2_delayOf_X2_delayBetween
theorem dX2_delayOf_0 : decode cX2_delayOf 0 = .ok (.iconst 0, 1) := by decide +kernel
theorem dX2_delayOf_1 : decode cX2_delayOf 1 = .ok (.istore_n 3, 1) := by decide +kernel
theorem dX2_delayOf_2 : decode cX2_delayOf 2 = .ok (.iconst 1, 1) := by decide +kernel
theorem dX2_delayOf_3 : decode cX2_delayOf 3 = .ok (.istore 4, 2) := by decide +kernel
theorem dX2_delayOf_5 : decode cX2_delayOf 5 = .ok (.iload 4, 2) := by decide +kernel
theorem dX2_delayOf_7 : decode cX2_delayOf 7 = .ok (.aload_n 1, 1) := by decide +kernel
theorem dX2_delayOf_8 : decode cX2_delayOf 8 = .ok (.iload_n 2, 1) := by decide +kernel
theorem dX2_delayOf_9 : decode cX2_delayOf 9 = .ok (.invokevirtual 51, 3) := by decide +kernel
theorem dX2_delayOf_12 : decode cX2_delayOf 12 = .ok (.if_icmp .ge 32, 3) := by decide +kernel
theorem dX2_delayOf_15 : decode cX2_delayOf 15 = .ok (.iload_n 3, 1) := by decide +kernel
theorem dX2_delayOf_16 : decode cX2_delayOf 16 = .ok (.aload_n 0, 1) := by decide +kernel
theorem dX2_delayOf_17 : decode cX2_delayOf 17 = .ok (.aload_n 1, 1) := by decide +kernel
theorem dX2_delayOf_18 : decode cX2_delayOf 18 = .ok (.iload_n 2, 1) := by decide +kernel
theorem dX2_delayOf_19 : decode cX2_delayOf 19 = .ok (.iload 4, 2) := by decide +kernel
theorem dX2_delayOf_21 : decode cX2_delayOf 21 = .ok (.iconst 1, 1) := by decide +kernel
theorem dX2_delayOf_22 : decode cX2_delayOf 22 = .ok (.isub, 1) := by decide +kernel
theorem dX2_delayOf_23 : decode cX2_delayOf 23 = .ok (.invokevirtual 54, 3) := by decide +kernel
theorem dX2_delayOf_26 : decode cX2_delayOf 26 = .ok (.aload_n 1, 1) := by decide +kernel
theorem dX2_delayOf_27 : decode cX2_delayOf 27 = .ok (.iload_n 2, 1) := by decide +kernel
theorem dX2_delayOf_28 : decode cX2_delayOf 28 = .ok (.iload 4, 2) := by decide +kernel
theorem dX2_delayOf_30 : decode cX2_delayOf 30 = .ok (.invokevirtual 54, 3) := by decide +kernel
theorem dX2_delayOf_33 : decode cX2_delayOf 33 = .ok (.invokevirtual 61, 3) := by decide +kernel
theorem dX2_delayOf_36 : decode cX2_delayOf 36 = .ok (.iadd, 1) := by decide +kernel
theorem dX2_delayOf_37 : decode cX2_delayOf 37 = .ok (.istore_n 3, 1) := by decide +kernel
theorem dX2_delayOf_38 : decode cX2_delayOf 38 = .ok (.iinc 4 1, 3) := by decide +kernel
theorem dX2_delayOf_41 : decode cX2_delayOf 41 = .ok (.goto (-36), 3) := by decide +kernel
theorem dX2_delayOf_44 : decode cX2_delayOf 44 = .ok (.iload_n 3, 1) := by decide +kernel
theorem dX2_delayOf_45 : decode cX2_delayOf 45 = .ok (.ireturn, 1) := by decide +kernel
set_option maxRecDepth 20000 in
theorem ggX2_explore_X5_at : GoodIn wsX2_explore wsX5_at := goodIn_r _ [7] (by decide +kernel) (by decide +kernel)
set_option maxRecDepth 20000 in
theorem gX2_explore_X5_at_n47 : GoodIn wsX2_explore (wsX5_at) := ggX2_explore_X5_at
set_option maxRecDepth 20000 in
theorem ggX2_explore_X5_put : GoodIn wsX2_explore wsX5_put := goodIn_r _ [9] (by decide +kernel) (by decide +kernel)
set_option maxRecDepth 20000 in
theorem gX2_explore_X5_put_n43 : GoodIn wsX2_explore (wsX5_put) := ggX2_explore_X5_put
set_option maxRecDepth 20000 in
theorem ggX2_explore_X2_findTimes : GoodIn wsX2_explore wsX2_findTimes := goodIn_r _ [14, 15, 3, 16, 8, 6, 9, 5, 7, 17, 18, 27, 28, 29, 30, 31] (by decide +kernel) (by decide +kernel)
set_option maxRecDepth 20000 in
theorem gX2_explore_X2_findTimes : GoodIn wsX2_explore (wsV RX2 64 RX2 yX2_findTimes wsX2_findTimes) := goodIn_app (goodIn_of _ (by decide +kernel)) ggX2_explore_X2_findTimes
set_option maxRecDepth 20000 in
theorem ggX2_explore_X2_findNodeBefore : GoodIn wsX2_explore wsX2_findNodeBefore := goodIn_r _ [22, 16, 15, 5, 6, 7, 27, 28, 29, 30, 31] (by decide +kernel) (by decide +kernel)
set_option maxRecDepth 20000 in
theorem gX2_explore_X2_findNodeBefore : GoodIn wsX2_explore (wsV RX2 68 RX2 yX2_findNodeBefore wsX2_findNodeBefore) := goodIn_app (goodIn_of _ (by decide +kernel)) ggX2_explore_X2_findNodeBefore
set_option maxRecDepth 20000 in
theorem ggX2_explore_X2_timeOf : GoodIn wsX2_explore wsX2_timeOf := goodIn_r _ [26, 15, 5, 6, 7, 27, 28, 29, 30, 31] (by decide +kernel) (by decide +kernel)
set_option maxRecDepth 20000 in
theorem gX2_explore_X2_timeOf : GoodIn wsX2_explore (wsV RX2 71 RX2 yX2_timeOf wsX2_timeOf) := goodIn_app (goodIn_of _ (by decide +kernel)) ggX2_explore_X2_timeOf
theorem dX2_explore_0 : decode cX2_explore 0 = .ok (.aload_n 0, 1) := by decide +kernel
theorem dX2_explore_1 : decode cX2_explore 1 = .ok (.getfield 15, 3) := by decide +kernel
theorem dX2_explore_4 : decode cX2_explore 4 = .ok (.iload_n 1, 1) := by decide +kernel
theorem dX2_explore_5 : decode cX2_explore 5 = .ok (.invokestatic 47, 3) := by decide +kernel
theorem dX2_explore_8 : decode cX2_explore 8 = .ok (.iload_n 2, 1) := by decide +kernel
theorem dX2_explore_9 : decode cX2_explore 9 = .ok (.if_icmp .ne 4, 3) := by decide +kernel
theorem dX2_explore_12 : decode cX2_explore 12 = .ok (.return_, 1) := by decide +kernel
theorem dX2_explore_13 : decode cX2_explore 13 = .ok (.aload_n 0, 1) := by decide +kernel
theorem dX2_explore_14 : decode cX2_explore 14 = .ok (.getfield 15, 3) := by decide +kernel
theorem dX2_explore_17 : decode cX2_explore 17 = .ok (.iload_n 1, 1) := by decide +kernel
theorem dX2_explore_18 : decode cX2_explore 18 = .ok (.iload_n 2, 1) := by decide +kernel
theorem dX2_explore_19 : decode cX2_explore 19 = .ok (.invokestatic 43, 3) := by decide +kernel
theorem dX2_explore_22 : decode cX2_explore 22 = .ok (.aload_n 0, 1) := by decide +kernel
theorem dX2_explore_23 : decode cX2_explore 23 = .ok (.iload_n 1, 1) := by decide +kernel
theorem dX2_explore_24 : decode cX2_explore 24 = .ok (.iload_n 2, 1) := by decide +kernel
theorem dX2_explore_25 : decode cX2_explore 25 = .ok (.invokevirtual 64, 3) := by decide +kernel
theorem dX2_explore_28 : decode cX2_explore 28 = .ok (.iconst 0, 1) := by decide +kernel
theorem dX2_explore_29 : decode cX2_explore 29 = .ok (.istore_n 3, 1) := by decide +kernel
theorem dX2_explore_30 : decode cX2_explore 30 = .ok (.iconst 0, 1) := by decide +kernel
theorem dX2_explore_31 : decode cX2_explore 31 = .ok (.istore 4, 2) := by decide +kernel
theorem dX2_explore_33 : decode cX2_explore 33 = .ok (.iload 4, 2) := by decide +kernel
theorem dX2_explore_35 : decode cX2_explore 35 = .ok (.bipush 10, 2) := by decide +kernel
theorem dX2_explore_37 : decode cX2_explore 37 = .ok (.if_icmp .ge 49, 3) := by decide +kernel
theorem dX2_explore_40 : decode cX2_explore 40 = .ok (.aload_n 0, 1) := by decide +kernel
theorem dX2_explore_41 : decode cX2_explore 41 = .ok (.getfield 24, 3) := by decide +kernel
theorem dX2_explore_44 : decode cX2_explore 44 = .ok (.iload_n 1, 1) := by decide +kernel
theorem dX2_explore_45 : decode cX2_explore 45 = .ok (.bipush 10, 2) := by decide +kernel
theorem dX2_explore_47 : decode cX2_explore 47 = .ok (.imul, 1) := by decide +kernel
theorem dX2_explore_48 : decode cX2_explore 48 = .ok (.iload 4, 2) := by decide +kernel
theorem dX2_explore_50 : decode cX2_explore 50 = .ok (.iadd, 1) := by decide +kernel
theorem dX2_explore_51 : decode cX2_explore 51 = .ok (.aload_n 0, 1) := by decide +kernel
theorem dX2_explore_52 : decode cX2_explore 52 = .ok (.iload_n 1, 1) := by decide +kernel
theorem dX2_explore_53 : decode cX2_explore 53 = .ok (.iload 4, 2) := by decide +kernel
theorem dX2_explore_55 : decode cX2_explore 55 = .ok (.invokevirtual 68, 3) := by decide +kernel
theorem dX2_explore_58 : decode cX2_explore 58 = .ok (.invokestatic 43, 3) := by decide +kernel
theorem dX2_explore_61 : decode cX2_explore 61 = .ok (.aload_n 0, 1) := by decide +kernel
theorem dX2_explore_62 : decode cX2_explore 62 = .ok (.iload_n 1, 1) := by decide +kernel
theorem dX2_explore_63 : decode cX2_explore 63 = .ok (.iload 4, 2) := by decide +kernel
theorem dX2_explore_65 : decode cX2_explore 65 = .ok (.invokevirtual 71, 3) := by decide +kernel
theorem dX2_explore_68 : decode cX2_explore 68 = .ok (.ldc 74, 2) := by decide +kernel
theorem dX2_explore_70 : decode cX2_explore 70 = .ok (.if_icmp .ge 10, 3) := by decide +kernel
theorem dX2_explore_73 : decode cX2_explore 73 = .ok (.iload_n 3, 1) := by decide +kernel
theorem dX2_explore_74 : decode cX2_explore 74 = .ok (.iconst 1, 1) := by decide +kernel
theorem dX2_explore_75 : decode cX2_explore 75 = .ok (.iload 4, 2) := by decide +kernel
theorem dX2_explore_77 : decode cX2_explore 77 = .ok (.ishl, 1) := by decide +kernel
theorem dX2_explore_78 : decode cX2_explore 78 = .ok (.ior, 1) := by decide +kernel
theorem dX2_explore_79 : decode cX2_explore 79 = .ok (.istore_n 3, 1) := by decide +kernel
theorem dX2_explore_80 : decode cX2_explore 80 = .ok (.iinc 4 1, 3) := by decide +kernel
theorem dX2_explore_83 : decode cX2_explore 83 = .ok (.goto (-50), 3) := by decide +kernel
theorem dX2_explore_86 : decode cX2_explore 86 = .ok (.aload_n 0, 1) := by decide +kernel
theorem dX2_explore_87 : decode cX2_explore 87 = .ok (.getfield 18, 3) := by decide +kernel
theorem dX2_explore_90 : decode cX2_explore 90 = .ok (.iload_n 1, 1) := by decide +kernel
theorem dX2_explore_91 : decode cX2_explore 91 = .ok (.iload_n 3, 1) := by decide +kernel
theorem dX2_explore_92 : decode cX2_explore 92 = .ok (.invokestatic 43, 3) := by decide +kernel
theorem dX2_explore_95 : decode cX2_explore 95 = .ok (.return_, 1) := by decide +kernel
set_option maxRecDepth 20000 in
theorem ggX2_findTimes_X5_put : GoodIn wsX2_findTimes wsX5_put := goodIn_r _ [6] (by decide +kernel) (by decide +kernel)
set_option maxRecDepth 20000 in
theorem gX2_findTimes_X5_put_n43 : GoodIn wsX2_findTimes (wsX5_put) := ggX2_findTimes_X5_put
set_option maxRecDepth 20000 in
theorem ggX2_findTimes_X5_at : GoodIn wsX2_findTimes wsX5_at := goodIn_r _ [8] (by decide +kernel) (by decide +kernel)
set_option maxRecDepth 20000 in
theorem gX2_findTimes_X5_at_n47 : GoodIn wsX2_findTimes (wsX5_at) := ggX2_findTimes_X5_at
set_option maxRecDepth 20000 in
theorem ggX2_findTimes_X5_holds : GoodIn wsX2_findTimes wsX5_holds := goodIn_r _ [10] (by decide +kernel) (by decide +kernel)
set_option maxRecDepth 20000 in
theorem gX2_findTimes_X5_holds_n57 : GoodIn wsX2_findTimes (wsX5_holds) := ggX2_findTimes_X5_holds
theorem dX2_findTimes_0 : decode cX2_findTimes 0 = .ok (.iload_n 1, 1) := by decide +kernel
theorem dX2_findTimes_1 : decode cX2_findTimes 1 = .ok (.bipush 10, 2) := by decide +kernel
theorem dX2_findTimes_3 : decode cX2_findTimes 3 = .ok (.imul, 1) := by decide +kernel
theorem dX2_findTimes_4 : decode cX2_findTimes 4 = .ok (.istore_n 3, 1) := by decide +kernel
theorem dX2_findTimes_5 : decode cX2_findTimes 5 = .ok (.iconst 0, 1) := by decide +kernel
theorem dX2_findTimes_6 : decode cX2_findTimes 6 = .ok (.istore 4, 2) := by decide +kernel
theorem dX2_findTimes_8 : decode cX2_findTimes 8 = .ok (.iload 4, 2) := by decide +kernel
theorem dX2_findTimes_10 : decode cX2_findTimes 10 = .ok (.bipush 10, 2) := by decide +kernel
theorem dX2_findTimes_12 : decode cX2_findTimes 12 = .ok (.if_icmp .ge 32, 3) := by decide +kernel
theorem dX2_findTimes_15 : decode cX2_findTimes 15 = .ok (.aload_n 0, 1) := by decide +kernel
theorem dX2_findTimes_16 : decode cX2_findTimes 16 = .ok (.getfield 21, 3) := by decide +kernel
theorem dX2_findTimes_19 : decode cX2_findTimes 19 = .ok (.iload_n 3, 1) := by decide +kernel
theorem dX2_findTimes_20 : decode cX2_findTimes 20 = .ok (.iload 4, 2) := by decide +kernel
theorem dX2_findTimes_22 : decode cX2_findTimes 22 = .ok (.iadd, 1) := by decide +kernel
theorem dX2_findTimes_23 : decode cX2_findTimes 23 = .ok (.iload 4, 2) := by decide +kernel
end
section
theorem dX2_findTimes_25 : decode cX2_findTimes 25 = .ok (.iload_n 1, 1) := by decide +kernel
theorem dX2_findTimes_26 : decode cX2_findTimes 26 = .ok (.if_icmp .ne 7, 3) := by decide +kernel
theorem dX2_findTimes_29 : decode cX2_findTimes 29 = .ok (.iconst 0, 1) := by decide +kernel
theorem dX2_findTimes_30 : decode cX2_findTimes 30 = .ok (.goto 5, 3) := by decide +kernel
theorem dX2_findTimes_33 : decode cX2_findTimes 33 = .ok (.ldc 74, 2) := by decide +kernel
theorem dX2_findTimes_35 : decode cX2_findTimes 35 = .ok (.invokestatic 43, 3) := by decide +kernel
theorem dX2_findTimes_38 : decode cX2_findTimes 38 = .ok (.iinc 4 1, 3) := by decide +kernel
theorem dX2_findTimes_41 : decode cX2_findTimes 41 = .ok (.goto (-33), 3) := by decide +kernel
theorem dX2_findTimes_44 : decode cX2_findTimes 44 = .ok (.iconst 1, 1) := by decide +kernel
theorem dX2_findTimes_45 : decode cX2_findTimes 45 = .ok (.istore 4, 2) := by decide +kernel
theorem dX2_findTimes_47 : decode cX2_findTimes 47 = .ok (.iload 4, 2) := by decide +kernel
theorem dX2_findTimes_49 : decode cX2_findTimes 49 = .ok (.bipush 10, 2) := by decide +kernel
theorem dX2_findTimes_51 : decode cX2_findTimes 51 = .ok (.if_icmp .ge 117, 3) := by decide +kernel
theorem dX2_findTimes_54 : decode cX2_findTimes 54 = .ok (.iconst 0, 1) := by decide +kernel
theorem dX2_findTimes_55 : decode cX2_findTimes 55 = .ok (.istore 5, 2) := by decide +kernel
theorem dX2_findTimes_57 : decode cX2_findTimes 57 = .ok (.iload 5, 2) := by decide +kernel
theorem dX2_findTimes_59 : decode cX2_findTimes 59 = .ok (.bipush 10, 2) := by decide +kernel
theorem dX2_findTimes_61 : decode cX2_findTimes 61 = .ok (.if_icmp .ge 101, 3) := by decide +kernel
theorem dX2_findTimes_64 : decode cX2_findTimes 64 = .ok (.iconst 0, 1) := by decide +kernel
theorem dX2_findTimes_65 : decode cX2_findTimes 65 = .ok (.istore 6, 2) := by decide +kernel
theorem dX2_findTimes_67 : decode cX2_findTimes 67 = .ok (.iload 6, 2) := by decide +kernel
theorem dX2_findTimes_69 : decode cX2_findTimes 69 = .ok (.bipush 10, 2) := by decide +kernel
theorem dX2_findTimes_71 : decode cX2_findTimes 71 = .ok (.if_icmp .ge 85, 3) := by decide +kernel
theorem dX2_findTimes_74 : decode cX2_findTimes 74 = .ok (.aload_n 0, 1) := by decide +kernel
theorem dX2_findTimes_75 : decode cX2_findTimes 75 = .ok (.getfield 9, 3) := by decide +kernel
theorem dX2_findTimes_78 : decode cX2_findTimes 78 = .ok (.iload 5, 2) := by decide +kernel
theorem dX2_findTimes_80 : decode cX2_findTimes 80 = .ok (.bipush 10, 2) := by decide +kernel
theorem dX2_findTimes_82 : decode cX2_findTimes 82 = .ok (.imul, 1) := by decide +kernel
theorem dX2_findTimes_83 : decode cX2_findTimes 83 = .ok (.iload 6, 2) := by decide +kernel
theorem dX2_findTimes_85 : decode cX2_findTimes 85 = .ok (.iadd, 1) := by decide +kernel
theorem dX2_findTimes_86 : decode cX2_findTimes 86 = .ok (.invokestatic 47, 3) := by decide +kernel
theorem dX2_findTimes_89 : decode cX2_findTimes 89 = .ok (.istore 7, 2) := by decide +kernel
theorem dX2_findTimes_91 : decode cX2_findTimes 91 = .ok (.aload_n 0, 1) := by decide +kernel
theorem dX2_findTimes_92 : decode cX2_findTimes 92 = .ok (.getfield 21, 3) := by decide +kernel
theorem dX2_findTimes_95 : decode cX2_findTimes 95 = .ok (.iload_n 3, 1) := by decide +kernel
theorem dX2_findTimes_96 : decode cX2_findTimes 96 = .ok (.iload 5, 2) := by decide +kernel
theorem dX2_findTimes_98 : decode cX2_findTimes 98 = .ok (.iadd, 1) := by decide +kernel
theorem dX2_findTimes_99 : decode cX2_findTimes 99 = .ok (.invokestatic 47, 3) := by decide +kernel
theorem dX2_findTimes_102 : decode cX2_findTimes 102 = .ok (.iload 7, 2) := by decide +kernel
theorem dX2_findTimes_104 : decode cX2_findTimes 104 = .ok (.iadd, 1) := by decide +kernel
theorem dX2_findTimes_105 : decode cX2_findTimes 105 = .ok (.istore 8, 2) := by decide +kernel
theorem dX2_findTimes_107 : decode cX2_findTimes 107 = .ok (.iload 7, 2) := by decide +kernel
theorem dX2_findTimes_109 : decode cX2_findTimes 109 = .ok (.ifCond .le 41, 3) := by decide +kernel
theorem dX2_findTimes_112 : decode cX2_findTimes 112 = .ok (.iload_n 2, 1) := by decide +kernel
theorem dX2_findTimes_113 : decode cX2_findTimes 113 = .ok (.iload 6, 2) := by decide +kernel
theorem dX2_findTimes_115 : decode cX2_findTimes 115 = .ok (.invokestatic 57, 3) := by decide +kernel
theorem dX2_findTimes_118 : decode cX2_findTimes 118 = .ok (.ifCond .eq 32, 3) := by decide +kernel
theorem dX2_findTimes_121 : decode cX2_findTimes 121 = .ok (.iload 8, 2) := by decide +kernel
theorem dX2_findTimes_123 : decode cX2_findTimes 123 = .ok (.aload_n 0, 1) := by decide +kernel
theorem dX2_findTimes_124 : decode cX2_findTimes 124 = .ok (.getfield 21, 3) := by decide +kernel
theorem dX2_findTimes_127 : decode cX2_findTimes 127 = .ok (.iload_n 3, 1) := by decide +kernel
theorem dX2_findTimes_128 : decode cX2_findTimes 128 = .ok (.iload 6, 2) := by decide +kernel
theorem dX2_findTimes_130 : decode cX2_findTimes 130 = .ok (.iadd, 1) := by decide +kernel
theorem dX2_findTimes_131 : decode cX2_findTimes 131 = .ok (.invokestatic 47, 3) := by decide +kernel
theorem dX2_findTimes_134 : decode cX2_findTimes 134 = .ok (.if_icmp .ge 16, 3) := by decide +kernel
theorem dX2_findTimes_137 : decode cX2_findTimes 137 = .ok (.aload_n 0, 1) := by decide +kernel
theorem dX2_findTimes_138 : decode cX2_findTimes 138 = .ok (.getfield 21, 3) := by decide +kernel
theorem dX2_findTimes_141 : decode cX2_findTimes 141 = .ok (.iload_n 3, 1) := by decide +kernel
theorem dX2_findTimes_142 : decode cX2_findTimes 142 = .ok (.iload 6, 2) := by decide +kernel
theorem dX2_findTimes_144 : decode cX2_findTimes 144 = .ok (.iadd, 1) := by decide +kernel
theorem dX2_findTimes_145 : decode cX2_findTimes 145 = .ok (.iload 8, 2) := by decide +kernel
theorem dX2_findTimes_147 : decode cX2_findTimes 147 = .ok (.invokestatic 43, 3) := by decide +kernel
theorem dX2_findTimes_150 : decode cX2_findTimes 150 = .ok (.iinc 6 1, 3) := by decide +kernel
theorem dX2_findTimes_153 : decode cX2_findTimes 153 = .ok (.goto (-86), 3) := by decide +kernel
theorem dX2_findTimes_156 : decode cX2_findTimes 156 = .ok (.iinc 5 1, 3) := by decide +kernel
theorem dX2_findTimes_159 : decode cX2_findTimes 159 = .ok (.goto (-102), 3) := by decide +kernel
theorem dX2_findTimes_162 : decode cX2_findTimes 162 = .ok (.iinc 4 1, 3) := by decide +kernel
theorem dX2_findTimes_165 : decode cX2_findTimes 165 = .ok (.goto (-118), 3) := by decide +kernel
theorem dX2_findTimes_168 : decode cX2_findTimes 168 = .ok (.return_, 1) := by decide +kernel
set_option maxRecDepth 20000 in
theorem ggX2_findNodeBefore_X5_at : GoodIn wsX2_findNodeBefore wsX5_at := goodIn_r _ [5] (by decide +kernel) (by decide +kernel)
set_option maxRecDepth 20000 in
theorem gX2_findNodeBefore_X5_at_n47 : GoodIn wsX2_findNodeBefore (wsX5_at) := ggX2_findNodeBefore_X5_at
theorem dX2_findNodeBefore_0 : decode cX2_findNodeBefore 0 = .ok (.iload_n 1, 1) := by decide +kernel
theorem dX2_findNodeBefore_1 : decode cX2_findNodeBefore 1 = .ok (.bipush 10, 2) := by decide +kernel
theorem dX2_findNodeBefore_3 : decode cX2_findNodeBefore 3 = .ok (.imul, 1) := by decide +kernel
theorem dX2_findNodeBefore_4 : decode cX2_findNodeBefore 4 = .ok (.istore_n 3, 1) := by decide +kernel
theorem dX2_findNodeBefore_5 : decode cX2_findNodeBefore 5 = .ok (.iconst 0, 1) := by decide +kernel
theorem dX2_findNodeBefore_6 : decode cX2_findNodeBefore 6 = .ok (.istore 4, 2) := by decide +kernel
theorem dX2_findNodeBefore_8 : decode cX2_findNodeBefore 8 = .ok (.iload 4, 2) := by decide +kernel
theorem dX2_findNodeBefore_10 : decode cX2_findNodeBefore 10 = .ok (.bipush 10, 2) := by decide +kernel
theorem dX2_findNodeBefore_12 : decode cX2_findNodeBefore 12 = .ok (.if_icmp .ge 60, 3) := by decide +kernel
theorem dX2_findNodeBefore_15 : decode cX2_findNodeBefore 15 = .ok (.aload_n 0, 1) := by decide +kernel
theorem dX2_findNodeBefore_16 : decode cX2_findNodeBefore 16 = .ok (.getfield 9, 3) := by decide +kernel
theorem dX2_findNodeBefore_19 : decode cX2_findNodeBefore 19 = .ok (.iload 4, 2) := by decide +kernel
theorem dX2_findNodeBefore_21 : decode cX2_findNodeBefore 21 = .ok (.bipush 10, 2) := by decide +kernel
theorem dX2_findNodeBefore_23 : decode cX2_findNodeBefore 23 = .ok (.imul, 1) := by decide +kernel
theorem dX2_findNodeBefore_24 : decode cX2_findNodeBefore 24 = .ok (.iload_n 2, 1) := by decide +kernel
theorem dX2_findNodeBefore_25 : decode cX2_findNodeBefore 25 = .ok (.iadd, 1) := by decide +kernel
theorem dX2_findNodeBefore_26 : decode cX2_findNodeBefore 26 = .ok (.invokestatic 47, 3) := by decide +kernel
theorem dX2_findNodeBefore_29 : decode cX2_findNodeBefore 29 = .ok (.istore 5, 2) := by decide +kernel
theorem dX2_findNodeBefore_31 : decode cX2_findNodeBefore 31 = .ok (.iload 5, 2) := by decide +kernel
theorem dX2_findNodeBefore_33 : decode cX2_findNodeBefore 33 = .ok (.ifCond .le 33, 3) := by decide +kernel
theorem dX2_findNodeBefore_36 : decode cX2_findNodeBefore 36 = .ok (.aload_n 0, 1) := by decide +kernel
theorem dX2_findNodeBefore_37 : decode cX2_findNodeBefore 37 = .ok (.getfield 21, 3) := by decide +kernel
theorem dX2_findNodeBefore_40 : decode cX2_findNodeBefore 40 = .ok (.iload_n 3, 1) := by decide +kernel
theorem dX2_findNodeBefore_41 : decode cX2_findNodeBefore 41 = .ok (.iload 4, 2) := by decide +kernel
theorem dX2_findNodeBefore_43 : decode cX2_findNodeBefore 43 = .ok (.iadd, 1) := by decide +kernel
theorem dX2_findNodeBefore_44 : decode cX2_findNodeBefore 44 = .ok (.invokestatic 47, 3) := by decide +kernel
theorem dX2_findNodeBefore_47 : decode cX2_findNodeBefore 47 = .ok (.iload 5, 2) := by decide +kernel
theorem dX2_findNodeBefore_49 : decode cX2_findNodeBefore 49 = .ok (.iadd, 1) := by decide +kernel
theorem dX2_findNodeBefore_50 : decode cX2_findNodeBefore 50 = .ok (.aload_n 0, 1) := by decide +kernel
theorem dX2_findNodeBefore_51 : decode cX2_findNodeBefore 51 = .ok (.getfield 21, 3) := by decide +kernel
theorem dX2_findNodeBefore_54 : decode cX2_findNodeBefore 54 = .ok (.iload_n 3, 1) := by decide +kernel
theorem dX2_findNodeBefore_55 : decode cX2_findNodeBefore 55 = .ok (.iload_n 2, 1) := by decide +kernel
theorem dX2_findNodeBefore_56 : decode cX2_findNodeBefore 56 = .ok (.iadd, 1) := by decide +kernel
theorem dX2_findNodeBefore_57 : decode cX2_findNodeBefore 57 = .ok (.invokestatic 47, 3) := by decide +kernel
theorem dX2_findNodeBefore_60 : decode cX2_findNodeBefore 60 = .ok (.if_icmp .ne 6, 3) := by decide +kernel
theorem dX2_findNodeBefore_63 : decode cX2_findNodeBefore 63 = .ok (.iload 4, 2) := by decide +kernel
theorem dX2_findNodeBefore_65 : decode cX2_findNodeBefore 65 = .ok (.ireturn, 1) := by decide +kernel
theorem dX2_findNodeBefore_66 : decode cX2_findNodeBefore 66 = .ok (.iinc 4 1, 3) := by decide +kernel
theorem dX2_findNodeBefore_69 : decode cX2_findNodeBefore 69 = .ok (.goto (-61), 3) := by decide +kernel
theorem dX2_findNodeBefore_72 : decode cX2_findNodeBefore 72 = .ok (.iconst (-1), 1) := by decide +kernel
theorem dX2_findNodeBefore_73 : decode cX2_findNodeBefore 73 = .ok (.ireturn, 1) := by decide +kernel
set_option maxRecDepth 20000 in
theorem ggX2_timeOf_X5_at : GoodIn wsX2_timeOf wsX5_at := goodIn_r _ [4] (by decide +kernel) (by decide +kernel)
set_option maxRecDepth 20000 in
theorem gX2_timeOf_X5_at_n47 : GoodIn wsX2_timeOf (wsX5_at) := ggX2_timeOf_X5_at
theorem dX2_timeOf_0 : decode cX2_timeOf 0 = .ok (.aload_n 0, 1) := by decide +kernel
theorem dX2_timeOf_1 : decode cX2_timeOf 1 = .ok (.getfield 21, 3) := by decide +kernel
theorem dX2_timeOf_4 : decode cX2_timeOf 4 = .ok (.iload_n 1, 1) := by decide +kernel
theorem dX2_timeOf_5 : decode cX2_timeOf 5 = .ok (.bipush 10, 2) := by decide +kernel
theorem dX2_timeOf_7 : decode cX2_timeOf 7 = .ok (.imul, 1) := by decide +kernel
theorem dX2_timeOf_8 : decode cX2_timeOf 8 = .ok (.iload_n 2, 1) := by decide +kernel
theorem dX2_timeOf_9 : decode cX2_timeOf 9 = .ok (.iadd, 1) := by decide +kernel
theorem dX2_timeOf_10 : decode cX2_timeOf 10 = .ok (.invokestatic 47, 3) := by decide +kernel
theorem dX2_timeOf_13 : decode cX2_timeOf 13 = .ok (.ireturn, 1) := by decide +kernel
set_option maxRecDepth 20000 in
theorem ggX2_reachedFrom_X5_at : GoodIn wsX2_reachedFrom wsX5_at := goodIn_r _ [4] (by decide +kernel) (by decide +kernel)
set_option maxRecDepth 20000 in
theorem gX2_reachedFrom_X5_at_n47 : GoodIn wsX2_reachedFrom (wsX5_at) := ggX2_reachedFrom_X5_at
theorem dX2_reachedFrom_0 : decode cX2_reachedFrom 0 = .ok (.aload_n 0, 1) := by decide +kernel
theorem dX2_reachedFrom_1 : decode cX2_reachedFrom 1 = .ok (.getfield 18, 3) := by decide +kernel
theorem dX2_reachedFrom_4 : decode cX2_reachedFrom 4 = .ok (.iload_n 1, 1) := by decide +kernel
theorem dX2_reachedFrom_5 : decode cX2_reachedFrom 5 = .ok (.invokestatic 47, 3) := by decide +kernel
theorem dX2_reachedFrom_8 : decode cX2_reachedFrom 8 = .ok (.ireturn, 1) := by decide +kernel
set_option maxRecDepth 20000 in
theorem ggX2_nodeBefore_X5_at : GoodIn wsX2_nodeBefore wsX5_at := goodIn_r _ [4] (by decide +kernel) (by decide +kernel)
set_option maxRecDepth 20000 in
theorem gX2_nodeBefore_X5_at_n47 : GoodIn wsX2_nodeBefore (wsX5_at) := ggX2_nodeBefore_X5_at
theorem dX2_nodeBefore_0 : decode cX2_nodeBefore 0 = .ok (.aload_n 0, 1) := by decide +kernel
theorem dX2_nodeBefore_1 : decode cX2_nodeBefore 1 = .ok (.getfield 24, 3) := by decide +kernel
theorem dX2_nodeBefore_4 : decode cX2_nodeBefore 4 = .ok (.iload_n 1, 1) := by decide +kernel
theorem dX2_nodeBefore_5 : decode cX2_nodeBefore 5 = .ok (.bipush 10, 2) := by decide +kernel
theorem dX2_nodeBefore_7 : decode cX2_nodeBefore 7 = .ok (.imul, 1) := by decide +kernel
theorem dX2_nodeBefore_8 : decode cX2_nodeBefore 8 = .ok (.iload_n 2, 1) := by decide +kernel
theorem dX2_nodeBefore_9 : decode cX2_nodeBefore 9 = .ok (.iadd, 1) := by decide +kernel
theorem dX2_nodeBefore_10 : decode cX2_nodeBefore 10 = .ok (.invokestatic 47, 3) := by decide +kernel
theorem dX2_nodeBefore_13 : decode cX2_nodeBefore 13 = .ok (.ireturn, 1) := by decide +kernel
set_option maxRecDepth 20000 in
theorem ggX3_init_X1_init : GoodIn wsX3_init wsX1_init := goodIn_r _ [17, 18, 2, 3, 12, 19, 20, 21, 22, 23, 24, 25, 26, 27, 28, 37, 38, 39, 40, 41, 42, 43] (by decide +kernel) (by decide +kernel)
set_option maxRecDepth 20000 in
theorem gX3_init_X1_init : GoodIn wsX3_init (wsX1_init) := ggX3_init_X1_init
set_option maxRecDepth 20000 in
theorem ggX3_init_X2_init : GoodIn wsX3_init wsX2_init := goodIn_r _ [30, 31, 2, 3, 12, 32, 33, 34, 35, 36, 48, 49, 50, 51, 52] (by decide +kernel) (by decide +kernel)
set_option maxRecDepth 20000 in
theorem gX3_init_X2_init_n20 : GoodIn wsX3_init (wsX2_init) := ggX3_init_X2_init
theorem dX3_init_0 : decode cX3_init 0 = .ok (.aload_n 0, 1) := by decide +kernel
theorem dX3_init_1 : decode cX3_init 1 = .ok (.invokespecial 3, 3) := by decide +kernel
theorem dX3_init_4 : decode cX3_init 4 = .ok (.aload_n 0, 1) := by decide +kernel
theorem dX3_init_5 : decode cX3_init 5 = .ok (.new 9, 3) := by decide +kernel
theorem dX3_init_8 : decode cX3_init 8 = .ok (.dup, 1) := by decide +kernel
theorem dX3_init_9 : decode cX3_init 9 = .ok (.invokespecial 11, 3) := by decide +kernel
theorem dX3_init_12 : decode cX3_init 12 = .ok (.putfield 12, 3) := by decide +kernel
theorem dX3_init_15 : decode cX3_init 15 = .ok (.aload_n 0, 1) := by decide +kernel
theorem dX3_init_16 : decode cX3_init 16 = .ok (.new 18, 3) := by decide +kernel
theorem dX3_init_19 : decode cX3_init 19 = .ok (.dup, 1) := by decide +kernel
theorem dX3_init_20 : decode cX3_init 20 = .ok (.invokespecial 20, 3) := by decide +kernel
theorem dX3_init_23 : decode cX3_init 23 = .ok (.putfield 21, 3) := by decide +kernel
theorem dX3_init_26 : decode cX3_init 26 = .ok (.aload_n 0, 1) := by decide +kernel
theorem dX3_init_27 : decode cX3_init 27 = .ok (.bipush 10, 2) := by decide +kernel
theorem dX3_init_29 : decode cX3_init 29 = .ok (.newarray .int, 2) := by decide +kernel
theorem dX3_init_31 : decode cX3_init 31 = .ok (.putfield 25, 3) := by decide +kernel
theorem dX3_init_34 : decode cX3_init 34 = .ok (.aload_n 0, 1) := by decide +kernel
theorem dX3_init_35 : decode cX3_init 35 = .ok (.bipush 60, 2) := by decide +kernel
theorem dX3_init_37 : decode cX3_init 37 = .ok (.newarray .int, 2) := by decide +kernel
theorem dX3_init_39 : decode cX3_init 39 = .ok (.putfield 29, 3) := by decide +kernel
theorem dX3_init_42 : decode cX3_init 42 = .ok (.return_, 1) := by decide +kernel
set_option maxRecDepth 20000 in
theorem ggX3_start_X1_copyFrom : GoodIn wsX3_start wsX1_copyFrom := goodIn_r _ [7, 8, 9, 10, 11, 12, 13, 14, 15, 16, 17, 18, 19, 20, 21, 22, 23, 24, 25, 64, 65, 66, 67, 68, 69, 70] (by decide +kernel) (by decide +kernel)
set_option maxRecDepth 20000 in
theorem gX3_start_X1_copyFrom : GoodIn wsX3_start (wsV RX3 32 RX1 yX1_copyFrom wsX1_copyFrom) := goodIn_app (goodIn_of _ (by decide +kernel)) ggX3_start_X1_copyFrom
set_option maxRecDepth 20000 in
theorem ggX3_start_X2_learn : GoodIn wsX3_start wsX2_learn := goodIn_r _ [30, 31, 32, 33, 34, 35, 36, 37, 38, 39, 6, 40, 8, 41, 42, 43, 44, 9, 45, 16, 46, 47, 48, 49, 50, 51, 52, 53, 54, 55, 56, 57, 10, 58, 59, 71, 72, 73, 74, 75, 64, 65, 66, 67, 68, 69, 70] (by decide +kernel) (by decide +kernel)
set_option maxRecDepth 20000 in
theorem gX3_start_X2_learn : GoodIn wsX3_start (wsV RX3 36 RX2 yX2_learn wsX2_learn) := goodIn_app (goodIn_of _ (by decide +kernel)) ggX3_start_X2_learn
theorem dX3_start_0 : decode cX3_start 0 = .ok (.aload_n 0, 1) := by decide +kernel
theorem dX3_start_1 : decode cX3_start 1 = .ok (.getfield 12, 3) := by decide +kernel
theorem dX3_start_4 : decode cX3_start 4 = .ok (.aload_n 1, 1) := by decide +kernel
theorem dX3_start_5 : decode cX3_start 5 = .ok (.invokevirtual 32, 3) := by decide +kernel
theorem dX3_start_8 : decode cX3_start 8 = .ok (.aload_n 0, 1) := by decide +kernel
theorem dX3_start_9 : decode cX3_start 9 = .ok (.getfield 21, 3) := by decide +kernel
theorem dX3_start_12 : decode cX3_start 12 = .ok (.aload_n 1, 1) := by decide +kernel
theorem dX3_start_13 : decode cX3_start 13 = .ok (.invokevirtual 36, 3) := by decide +kernel
theorem dX3_start_16 : decode cX3_start 16 = .ok (.return_, 1) := by decide +kernel
set_option maxRecDepth 20000 in
theorem ggX3_run_X1_endInterests : GoodIn wsX3_run wsX1_endInterests := goodIn_r _ [7, 8, 9, 10, 11, 12, 13, 14, 6, 15, 16, 17, 18, 19, 20, 21, 22, 23, 24, 25, 26, 27, 28, 29, 30, 31, 32, 33, 34, 35, 36, 191, 192, 193, 194, 195, 196, 197] (by decide +kernel) (by decide +kernel)
set_option maxRecDepth 20000 in
theorem gX3_run_X1_endInterests : GoodIn wsX3_run (wsV RX3 39 RX1 yX1_endInterests wsX1_endInterests) := goodIn_app (goodIn_of _ (by decide +kernel)) ggX3_run_X1_endInterests
set_option maxRecDepth 20000 in
theorem ggX3_run_J7_fill_53178 : GoodIn wsX3_run wsJ7_fill_53178 := goodIn_r _ [40] (by decide +kernel) (by decide +kernel)
set_option maxRecDepth 20000 in
theorem gX3_run_J7_fill_53178 : GoodIn wsX3_run (va_wsS RX3 42 yJ7_fill_53178 wsJ7_fill_53178) := goodIn_app (goodIn_of _ (by decide +kernel)) ggX3_run_J7_fill_53178
set_option maxRecDepth 20000 in
theorem ggX3_run_X1_number : GoodIn wsX3_run wsX1_number := goodIn_r _ [44, 8, 45, 46, 47, 6, 48, 49, 9, 10, 11, 50, 51, 52, 53, 54, 55, 56, 191, 192, 193, 194, 195, 196, 197] (by decide +kernel) (by decide +kernel)
set_option maxRecDepth 20000 in
theorem gX3_run_X1_number : GoodIn wsX3_run (wsV RX3 48 RX1 yX1_number wsX1_number) := goodIn_app (goodIn_of _ (by decide +kernel)) ggX3_run_X1_number
set_option maxRecDepth 20000 in
theorem ggX3_run_X3_takeTurn : GoodIn wsX3_run wsX3_takeTurn := goodIn_r _ [61, 1, 62, 22, 10, 23, 63, 64, 65, 6, 66, 67, 9, 11, 68, 13, 14, 15, 16, 17, 18, 19, 20, 8, 21, 69, 46, 47, 48, 49, 70, 71, 72, 73, 74, 12, 75, 76, 77, 78, 79, 80, 81, 82, 33, 34, 83, 84, 85, 60, 86, 41, 42, 43, 44, 45, 50, 51, 52, 53, 54, 55, 56, 87, 88, 89, 90, 91, 92, 93, 94, 95, 96, 97, 98, 99, 28, 100, 101, 102, 103, 104, 105, 106, 107, 108, 109, 110, 111, 112, 113, 114, 115, 116, 117, 118, 119, 120, 121, 122, 123, 124, 125, 126, 127, 128, 129, 130, 131, 132, 133, 134, 135, 136, 137, 138, 139, 140, 141, 142, 143, 144, 145, 35, 36, 31, 32, 146, 147, 148, 149, 150, 151, 152, 153, 154, 155, 156, 157, 158, 159, 160, 161, 162, 163, 164, 165, 166, 167, 168, 169, 170, 171, 172, 173, 174, 175, 176, 177, 2, 178, 179, 180, 181, 182, 183, 184, 185, 186, 187, 188, 189, 190, 191, 192, 193, 194, 195, 196, 197, 198, 199, 200, 201, 202] (by decide +kernel) (by decide +kernel)
set_option maxRecDepth 20000 in
theorem gX3_run_X3_takeTurn : GoodIn wsX3_run (wsV RX3 52 RX3 yX3_takeTurn wsX3_takeTurn) := goodIn_app (goodIn_of _ (by decide +kernel)) ggX3_run_X3_takeTurn
set_option maxRecDepth 20000 in
theorem ggX3_run_X1_raise : GoodIn wsX3_run wsX1_raise := goodIn_r _ [168, 8, 35, 10, 36, 31, 9, 11, 32, 33, 34, 191, 192, 193, 194, 195, 196, 197] (by decide +kernel) (by decide +kernel)
set_option maxRecDepth 20000 in
theorem gX3_run_X1_raise : GoodIn wsX3_run (wsV RX3 56 RX1 yX1_raise wsX1_raise) := goodIn_app (goodIn_of _ (by decide +kernel)) ggX3_run_X1_raise
theorem dX3_run_0 : decode cX3_run 0 = .ok (.iconst 0, 1) := by decide +kernel
theorem dX3_run_1 : decode cX3_run 1 = .ok (.istore_n 2, 1) := by decide +kernel
theorem dX3_run_2 : decode cX3_run 2 = .ok (.iconst 0, 1) := by decide +kernel
theorem dX3_run_3 : decode cX3_run 3 = .ok (.istore_n 3, 1) := by decide +kernel
theorem dX3_run_4 : decode cX3_run 4 = .ok (.iload_n 3, 1) := by decide +kernel
theorem dX3_run_5 : decode cX3_run 5 = .ok (.iload_n 1, 1) := by decide +kernel
theorem dX3_run_6 : decode cX3_run 6 = .ok (.if_icmp .ge 91, 3) := by decide +kernel
theorem dX3_run_9 : decode cX3_run 9 = .ok (.aload_n 0, 1) := by decide +kernel
theorem dX3_run_10 : decode cX3_run 10 = .ok (.getfield 12, 3) := by decide +kernel
theorem dX3_run_13 : decode cX3_run 13 = .ok (.invokevirtual 39, 3) := by decide +kernel
theorem dX3_run_16 : decode cX3_run 16 = .ok (.aload_n 0, 1) := by decide +kernel
theorem dX3_run_17 : decode cX3_run 17 = .ok (.getfield 29, 3) := by decide +kernel
theorem dX3_run_20 : decode cX3_run 20 = .ok (.iconst 0, 1) := by decide +kernel
theorem dX3_run_21 : decode cX3_run 21 = .ok (.invokestatic 42, 3) := by decide +kernel
theorem dX3_run_24 : decode cX3_run 24 = .ok (.iconst 0, 1) := by decide +kernel
theorem dX3_run_25 : decode cX3_run 25 = .ok (.istore 4, 2) := by decide +kernel
theorem dX3_run_27 : decode cX3_run 27 = .ok (.iload 4, 2) := by decide +kernel
theorem dX3_run_29 : decode cX3_run 29 = .ok (.aload_n 0, 1) := by decide +kernel
theorem dX3_run_30 : decode cX3_run 30 = .ok (.getfield 12, 3) := by decide +kernel
theorem dX3_run_33 : decode cX3_run 33 = .ok (.iconst 3, 1) := by decide +kernel
theorem dX3_run_34 : decode cX3_run 34 = .ok (.invokevirtual 48, 3) := by decide +kernel
theorem dX3_run_37 : decode cX3_run 37 = .ok (.if_icmp .ge 45, 3) := by decide +kernel
theorem dX3_run_40 : decode cX3_run 40 = .ok (.iconst 0, 1) := by decide +kernel
theorem dX3_run_41 : decode cX3_run 41 = .ok (.istore 5, 2) := by decide +kernel
theorem dX3_run_43 : decode cX3_run 43 = .ok (.iload 5, 2) := by decide +kernel
theorem dX3_run_45 : decode cX3_run 45 = .ok (.aload_n 0, 1) := by decide +kernel
theorem dX3_run_46 : decode cX3_run 46 = .ok (.getfield 12, 3) := by decide +kernel
theorem dX3_run_49 : decode cX3_run 49 = .ok (.iconst 2, 1) := by decide +kernel
theorem dX3_run_50 : decode cX3_run 50 = .ok (.invokevirtual 48, 3) := by decide +kernel
theorem dX3_run_53 : decode cX3_run 53 = .ok (.if_icmp .ge 23, 3) := by decide +kernel
theorem dX3_run_56 : decode cX3_run 56 = .ok (.aload_n 0, 1) := by decide +kernel
theorem dX3_run_57 : decode cX3_run 57 = .ok (.iload 4, 2) := by decide +kernel
theorem dX3_run_59 : decode cX3_run 59 = .ok (.iload 5, 2) := by decide +kernel
theorem dX3_run_61 : decode cX3_run 61 = .ok (.invokevirtual 52, 3) := by decide +kernel
theorem dX3_run_64 : decode cX3_run 64 = .ok (.ifCond .eq 6, 3) := by decide +kernel
theorem dX3_run_67 : decode cX3_run 67 = .ok (.iinc 2 1, 3) := by decide +kernel
theorem dX3_run_70 : decode cX3_run 70 = .ok (.iinc 5 1, 3) := by decide +kernel
theorem dX3_run_73 : decode cX3_run 73 = .ok (.goto (-30), 3) := by decide +kernel
theorem dX3_run_76 : decode cX3_run 76 = .ok (.iinc 4 1, 3) := by decide +kernel
theorem dX3_run_79 : decode cX3_run 79 = .ok (.goto (-52), 3) := by decide +kernel
theorem dX3_run_82 : decode cX3_run 82 = .ok (.aload_n 0, 1) := by decide +kernel
theorem dX3_run_83 : decode cX3_run 83 = .ok (.getfield 12, 3) := by decide +kernel
theorem dX3_run_86 : decode cX3_run 86 = .ok (.iconst 5, 1) := by decide +kernel
theorem dX3_run_87 : decode cX3_run 87 = .ok (.iconst 1, 1) := by decide +kernel
theorem dX3_run_88 : decode cX3_run 88 = .ok (.invokevirtual 56, 3) := by decide +kernel
theorem dX3_run_91 : decode cX3_run 91 = .ok (.iinc 3 1, 3) := by decide +kernel
theorem dX3_run_94 : decode cX3_run 94 = .ok (.goto (-90), 3) := by decide +kernel
theorem dX3_run_97 : decode cX3_run 97 = .ok (.iload_n 2, 1) := by decide +kernel
theorem dX3_run_98 : decode cX3_run 98 = .ok (.ireturn, 1) := by decide +kernel
set_option maxRecDepth 20000 in
theorem ggX3_takeTurn_X5_wayOf : GoodIn wsX3_takeTurn wsX5_wayOf := goodIn_r _ [5] (by decide +kernel) (by decide +kernel)
set_option maxRecDepth 20000 in
theorem gX3_takeTurn_X5_wayOf_n60 : GoodIn wsX3_takeTurn (wsX5_wayOf) := ggX3_takeTurn_X5_wayOf
set_option maxRecDepth 20000 in
theorem ggX3_takeTurn_X1_sensorPart : GoodIn wsX3_takeTurn wsX1_sensorPart := goodIn_r _ [10, 11, 12, 4, 13, 173, 174, 175, 176, 177, 178, 179] (by decide +kernel) (by decide +kernel)
set_option maxRecDepth 20000 in
theorem gX3_takeTurn_X1_sensorPart : GoodIn wsX3_takeTurn (wsV RX3 64 RX1 yX1_sensorPart wsX1_sensorPart) := goodIn_app (goodIn_of _ (by decide +kernel)) ggX3_takeTurn_X1_sensorPart
set_option maxRecDepth 20000 in
theorem ggX3_takeTurn_X1_interestPart : GoodIn wsX3_takeTurn wsX1_interestPart := goodIn_r _ [17, 18, 19, 20, 21, 9, 22, 23, 24, 12, 4, 13, 3, 5, 173, 174, 175, 176, 177, 178, 179] (by decide +kernel) (by decide +kernel)
set_option maxRecDepth 20000 in
theorem gX3_takeTurn_X1_interestPart : GoodIn wsX3_takeTurn (wsV RX3 67 RX1 yX1_interestPart wsX1_interestPart) := goodIn_app (goodIn_of _ (by decide +kernel)) ggX3_takeTurn_X1_interestPart
set_option maxRecDepth 20000 in
theorem ggX3_takeTurn_X1_aliveNodes : GoodIn wsX3_takeTurn wsX1_aliveNodes := goodIn_r _ [28, 23, 29, 12, 4, 13, 173, 174, 175, 176, 177, 178, 179] (by decide +kernel) (by decide +kernel)
set_option maxRecDepth 20000 in
theorem gX3_takeTurn_X1_aliveNodes : GoodIn wsX3_takeTurn (wsV RX3 70 RX1 yX1_aliveNodes wsX1_aliveNodes) := goodIn_app (goodIn_of _ (by decide +kernel)) ggX3_takeTurn_X1_aliveNodes
set_option maxRecDepth 20000 in
theorem ggX3_takeTurn_X1_matches : GoodIn wsX3_takeTurn wsX1_matches := goodIn_r _ [33, 34, 7, 8, 9, 10, 11, 12, 4, 13, 35, 15, 16, 17, 18, 19, 20, 21, 22, 23, 24, 3, 5, 36, 37, 173, 174, 175, 176, 177, 178, 179] (by decide +kernel) (by decide +kernel)
set_option maxRecDepth 20000 in
theorem gX3_takeTurn_X1_matches : GoodIn wsX3_takeTurn (wsV RX3 74 RX1 yX1_matches wsX1_matches) := goodIn_app (goodIn_of _ (by decide +kernel)) ggX3_takeTurn_X1_matches
set_option maxRecDepth 20000 in
theorem ggX3_takeTurn_X5_holds : GoodIn wsX3_takeTurn wsX5_holds := goodIn_r _ [39] (by decide +kernel) (by decide +kernel)
set_option maxRecDepth 20000 in
theorem gX3_takeTurn_X5_holds_n77 : GoodIn wsX3_takeTurn (wsX5_holds) := ggX3_takeTurn_X5_holds
set_option maxRecDepth 20000 in
theorem ggX3_takeTurn_X1_dropWay : GoodIn wsX3_takeTurn wsX1_dropWay := goodIn_r _ [43, 24, 44, 4, 45, 173, 174, 175, 176, 177, 178, 179] (by decide +kernel) (by decide +kernel)
set_option maxRecDepth 20000 in
theorem gX3_takeTurn_X1_dropWay : GoodIn wsX3_takeTurn (wsV RX3 80 RX1 yX1_dropWay wsX1_dropWay) := goodIn_app (goodIn_of _ (by decide +kernel)) ggX3_takeTurn_X1_dropWay
set_option maxRecDepth 20000 in
theorem ggX3_takeTurn_X3_isExploringRound : GoodIn wsX3_takeTurn wsX3_isExploringRound := goodIn_r _ [50, 1, 51, 52, 53, 9, 54, 23, 55, 26, 27, 28, 29, 12, 4, 13, 56, 57, 58, 59, 60, 61, 62, 169, 170, 171, 172, 173, 174, 175, 176, 177, 178, 179] (by decide +kernel) (by decide +kernel)
set_option maxRecDepth 20000 in
theorem gX3_takeTurn_X3_isExploringRound : GoodIn wsX3_takeTurn (wsV RX3 84 RX3 yX3_isExploringRound wsX3_isExploringRound) := goodIn_app (goodIn_of _ (by decide +kernel)) ggX3_takeTurn_X3_isExploringRound
set_option maxRecDepth 20000 in
theorem ggX3_takeTurn_X2_carry : GoodIn wsX3_takeTurn wsX2_carry := goodIn_r _ [67, 68, 69, 70, 9, 71, 24, 12, 4, 13, 72, 73, 74, 75, 76, 38, 39, 77, 78, 79, 66, 80, 81, 173, 174, 175, 176, 177, 178, 179, 180, 181, 182, 183, 184] (by decide +kernel) (by decide +kernel)
set_option maxRecDepth 20000 in
theorem gX3_takeTurn_X2_carry : GoodIn wsX3_takeTurn (wsV RX3 88 RX2 yX2_carry wsX2_carry) := goodIn_app (goodIn_of _ (by decide +kernel)) ggX3_takeTurn_X2_carry
set_option maxRecDepth 20000 in
theorem ggX3_takeTurn_X3_exploreWay : GoodIn wsX3_takeTurn wsX3_exploreWay := goodIn_r _ [85, 2, 1, 86, 87, 88, 89, 90, 91, 92, 93, 66, 94, 95, 96, 97, 98, 12, 4, 13, 44, 45, 99, 100, 101, 102, 103, 81, 38, 39, 104, 105, 106, 107, 108, 109, 110, 111, 112, 113, 114, 115, 116, 117, 118, 9, 119, 29, 120, 121, 122, 23, 123, 124, 125, 126, 127, 128, 129, 49, 130, 131, 132, 133, 134, 135, 136, 137, 138, 139, 140, 141, 142, 24, 76, 143, 144, 145, 146, 147, 148, 149, 150, 69, 70, 71, 151, 152, 153, 154, 169, 170, 171, 172, 180, 181, 182, 183, 184, 173, 174, 175, 176, 177, 178, 179] (by decide +kernel) (by decide +kernel)
set_option maxRecDepth 20000 in
theorem gX3_takeTurn_X3_exploreWay : GoodIn wsX3_takeTurn (wsV RX3 92 RX3 yX3_exploreWay wsX3_exploreWay) := goodIn_app (goodIn_of _ (by decide +kernel)) ggX3_takeTurn_X3_exploreWay
set_option maxRecDepth 20000 in
theorem ggX3_takeTurn_X1_lengthOf : GoodIn wsX3_takeTurn wsX1_lengthOf := goodIn_r _ [71, 24, 12, 4, 13, 173, 174, 175, 176, 177, 178, 179] (by decide +kernel) (by decide +kernel)
set_option maxRecDepth 20000 in
theorem gX3_takeTurn_X1_lengthOf : GoodIn wsX3_takeTurn (wsV RX3 96 RX1 yX1_lengthOf wsX1_lengthOf) := goodIn_app (goodIn_of _ (by decide +kernel)) ggX3_takeTurn_X1_lengthOf
set_option maxRecDepth 20000 in
theorem ggX3_takeTurn_X3_send : GoodIn wsX3_takeTurn wsX3_send := goodIn_r _ [158, 1, 159, 150, 69, 70, 9, 71, 24, 12, 4, 13, 160, 73, 74, 75, 76, 38, 39, 44, 45, 116, 117, 118, 119, 29, 120, 121, 88, 122, 23, 123, 124, 125, 126, 169, 170, 171, 172, 173, 174, 175, 176, 177, 178, 179] (by decide +kernel) (by decide +kernel)
set_option maxRecDepth 20000 in
theorem gX3_takeTurn_X3_send : GoodIn wsX3_takeTurn (wsV RX3 99 RX3 yX3_send wsX3_send) := goodIn_app (goodIn_of _ (by decide +kernel)) ggX3_takeTurn_X3_send
set_option maxRecDepth 20000 in
theorem ggX3_takeTurn_X2_delayOf : GoodIn wsX3_takeTurn wsX2_delayOf := goodIn_r _ [164, 68, 69, 70, 9, 71, 24, 12, 4, 13, 72, 73, 74, 75, 76, 77, 78, 79, 66, 80, 81, 173, 174, 175, 176, 177, 178, 179, 180, 181, 182, 183, 184] (by decide +kernel) (by decide +kernel)
set_option maxRecDepth 20000 in
theorem gX3_takeTurn_X2_delayOf : GoodIn wsX3_takeTurn (wsV RX3 102 RX2 yX2_delayOf wsX2_delayOf) := goodIn_app (goodIn_of _ (by decide +kernel)) ggX3_takeTurn_X2_delayOf
set_option maxRecDepth 20000 in
theorem ggX3_takeTurn_X1_deliver : GoodIn wsX3_takeTurn wsX1_deliver := goodIn_r _ [168, 18, 123, 4, 124, 125, 12, 13, 126, 44, 45, 173, 174, 175, 176, 177, 178, 179] (by decide +kernel) (by decide +kernel)
set_option maxRecDepth 20000 in
theorem gX3_takeTurn_X1_deliver : GoodIn wsX3_takeTurn (wsV RX3 106 RX1 yX1_deliver wsX1_deliver) := goodIn_app (goodIn_of _ (by decide +kernel)) ggX3_takeTurn_X1_deliver
theorem dX3_takeTurn_0 : decode cX3_takeTurn 0 = .ok (.iload_n 1, 1) := by decide +kernel
theorem dX3_takeTurn_1 : decode cX3_takeTurn 1 = .ok (.iload_n 2, 1) := by decide +kernel
theorem dX3_takeTurn_2 : decode cX3_takeTurn 2 = .ok (.invokestatic 60, 3) := by decide +kernel
theorem dX3_takeTurn_5 : decode cX3_takeTurn 5 = .ok (.istore_n 3, 1) := by decide +kernel
theorem dX3_takeTurn_6 : decode cX3_takeTurn 6 = .ok (.aload_n 0, 1) := by decide +kernel
theorem dX3_takeTurn_7 : decode cX3_takeTurn 7 = .ok (.getfield 12, 3) := by decide +kernel
theorem dX3_takeTurn_10 : decode cX3_takeTurn 10 = .ok (.iload_n 2, 1) := by decide +kernel
theorem dX3_takeTurn_11 : decode cX3_takeTurn 11 = .ok (.iconst 0, 1) := by decide +kernel
theorem dX3_takeTurn_12 : decode cX3_takeTurn 12 = .ok (.invokevirtual 64, 3) := by decide +kernel
theorem dX3_takeTurn_15 : decode cX3_takeTurn 15 = .ok (.istore 4, 2) := by decide +kernel
theorem dX3_takeTurn_17 : decode cX3_takeTurn 17 = .ok (.aload_n 0, 1) := by decide +kernel
theorem dX3_takeTurn_18 : decode cX3_takeTurn 18 = .ok (.getfield 12, 3) := by decide +kernel
theorem dX3_takeTurn_21 : decode cX3_takeTurn 21 = .ok (.iload_n 1, 1) := by decide +kernel
theorem dX3_takeTurn_22 : decode cX3_takeTurn 22 = .ok (.iconst 0, 1) := by decide +kernel
theorem dX3_takeTurn_23 : decode cX3_takeTurn 23 = .ok (.invokevirtual 67, 3) := by decide +kernel
theorem dX3_takeTurn_26 : decode cX3_takeTurn 26 = .ok (.istore 5, 2) := by decide +kernel
theorem dX3_takeTurn_28 : decode cX3_takeTurn 28 = .ok (.aload_n 0, 1) := by decide +kernel
theorem dX3_takeTurn_29 : decode cX3_takeTurn 29 = .ok (.getfield 12, 3) := by decide +kernel
theorem dX3_takeTurn_32 : decode cX3_takeTurn 32 = .ok (.invokevirtual 70, 3) := by decide +kernel
theorem dX3_takeTurn_35 : decode cX3_takeTurn 35 = .ok (.istore 6, 2) := by decide +kernel
theorem dX3_takeTurn_37 : decode cX3_takeTurn 37 = .ok (.aload_n 0, 1) := by decide +kernel
theorem dX3_takeTurn_38 : decode cX3_takeTurn 38 = .ok (.getfield 12, 3) := by decide +kernel
theorem dX3_takeTurn_41 : decode cX3_takeTurn 41 = .ok (.iload_n 2, 1) := by decide +kernel
theorem dX3_takeTurn_42 : decode cX3_takeTurn 42 = .ok (.iload_n 1, 1) := by decide +kernel
theorem dX3_takeTurn_43 : decode cX3_takeTurn 43 = .ok (.invokevirtual 74, 3) := by decide +kernel
theorem dX3_takeTurn_46 : decode cX3_takeTurn 46 = .ok (.ifCond .eq 23, 3) := by decide +kernel
theorem dX3_takeTurn_49 : decode cX3_takeTurn 49 = .ok (.iload 6, 2) := by decide +kernel
theorem dX3_takeTurn_51 : decode cX3_takeTurn 51 = .ok (.iload 4, 2) := by decide +kernel
theorem dX3_takeTurn_53 : decode cX3_takeTurn 53 = .ok (.invokestatic 77, 3) := by decide +kernel
theorem dX3_takeTurn_56 : decode cX3_takeTurn 56 = .ok (.ifCond .eq 13, 3) := by decide +kernel
theorem dX3_takeTurn_59 : decode cX3_takeTurn 59 = .ok (.iload 6, 2) := by decide +kernel
theorem dX3_takeTurn_61 : decode cX3_takeTurn 61 = .ok (.iload 5, 2) := by decide +kernel
theorem dX3_takeTurn_63 : decode cX3_takeTurn 63 = .ok (.invokestatic 77, 3) := by decide +kernel
theorem dX3_takeTurn_66 : decode cX3_takeTurn 66 = .ok (.ifCond .ne 13, 3) := by decide +kernel
theorem dX3_takeTurn_69 : decode cX3_takeTurn 69 = .ok (.aload_n 0, 1) := by decide +kernel
theorem dX3_takeTurn_70 : decode cX3_takeTurn 70 = .ok (.getfield 12, 3) := by decide +kernel
theorem dX3_takeTurn_73 : decode cX3_takeTurn 73 = .ok (.iload_n 3, 1) := by decide +kernel
theorem dX3_takeTurn_74 : decode cX3_takeTurn 74 = .ok (.invokevirtual 80, 3) := by decide +kernel
theorem dX3_takeTurn_77 : decode cX3_takeTurn 77 = .ok (.iconst 0, 1) := by decide +kernel
theorem dX3_takeTurn_78 : decode cX3_takeTurn 78 = .ok (.ireturn, 1) := by decide +kernel
theorem dX3_takeTurn_79 : decode cX3_takeTurn 79 = .ok (.aload_n 0, 1) := by decide +kernel
theorem dX3_takeTurn_80 : decode cX3_takeTurn 80 = .ok (.invokevirtual 84, 3) := by decide +kernel
theorem dX3_takeTurn_83 : decode cX3_takeTurn 83 = .ok (.ifCond .ne 20, 3) := by decide +kernel
theorem dX3_takeTurn_86 : decode cX3_takeTurn 86 = .ok (.aload_n 0, 1) := by decide +kernel
theorem dX3_takeTurn_87 : decode cX3_takeTurn 87 = .ok (.getfield 21, 3) := by decide +kernel
theorem dX3_takeTurn_90 : decode cX3_takeTurn 90 = .ok (.aload_n 0, 1) := by decide +kernel
theorem dX3_takeTurn_91 : decode cX3_takeTurn 91 = .ok (.getfield 12, 3) := by decide +kernel
theorem dX3_takeTurn_94 : decode cX3_takeTurn 94 = .ok (.iload_n 3, 1) := by decide +kernel
theorem dX3_takeTurn_95 : decode cX3_takeTurn 95 = .ok (.iload 6, 2) := by decide +kernel
theorem dX3_takeTurn_97 : decode cX3_takeTurn 97 = .ok (.invokevirtual 88, 3) := by decide +kernel
theorem dX3_takeTurn_100 : decode cX3_takeTurn 100 = .ok (.ifCond .ne 14, 3) := by decide +kernel
theorem dX3_takeTurn_103 : decode cX3_takeTurn 103 = .ok (.aload_n 0, 1) := by decide +kernel
theorem dX3_takeTurn_104 : decode cX3_takeTurn 104 = .ok (.iload_n 3, 1) := by decide +kernel
theorem dX3_takeTurn_105 : decode cX3_takeTurn 105 = .ok (.iload 4, 2) := by decide +kernel
theorem dX3_takeTurn_107 : decode cX3_takeTurn 107 = .ok (.iload 5, 2) := by decide +kernel
theorem dX3_takeTurn_109 : decode cX3_takeTurn 109 = .ok (.iload 6, 2) := by decide +kernel
theorem dX3_takeTurn_111 : decode cX3_takeTurn 111 = .ok (.invokevirtual 92, 3) := by decide +kernel
theorem dX3_takeTurn_114 : decode cX3_takeTurn 114 = .ok (.aload_n 0, 1) := by decide +kernel
theorem dX3_takeTurn_115 : decode cX3_takeTurn 115 = .ok (.getfield 12, 3) := by decide +kernel
theorem dX3_takeTurn_118 : decode cX3_takeTurn 118 = .ok (.iload_n 3, 1) := by decide +kernel
theorem dX3_takeTurn_119 : decode cX3_takeTurn 119 = .ok (.invokevirtual 96, 3) := by decide +kernel
theorem dX3_takeTurn_122 : decode cX3_takeTurn 122 = .ok (.ifCond .ne 5, 3) := by decide +kernel
theorem dX3_takeTurn_125 : decode cX3_takeTurn 125 = .ok (.iconst 0, 1) := by decide +kernel
theorem dX3_takeTurn_126 : decode cX3_takeTurn 126 = .ok (.ireturn, 1) := by decide +kernel
theorem dX3_takeTurn_127 : decode cX3_takeTurn 127 = .ok (.aload_n 0, 1) := by decide +kernel
theorem dX3_takeTurn_128 : decode cX3_takeTurn 128 = .ok (.iload_n 3, 1) := by decide +kernel
theorem dX3_takeTurn_129 : decode cX3_takeTurn 129 = .ok (.iload_n 2, 1) := by decide +kernel
theorem dX3_takeTurn_130 : decode cX3_takeTurn 130 = .ok (.invokevirtual 99, 3) := by decide +kernel
theorem dX3_takeTurn_133 : decode cX3_takeTurn 133 = .ok (.aload_n 0, 1) := by decide +kernel
theorem dX3_takeTurn_134 : decode cX3_takeTurn 134 = .ok (.getfield 12, 3) := by decide +kernel
theorem dX3_takeTurn_137 : decode cX3_takeTurn 137 = .ok (.iload_n 1, 1) := by decide +kernel
theorem dX3_takeTurn_138 : decode cX3_takeTurn 138 = .ok (.aload_n 0, 1) := by decide +kernel
theorem dX3_takeTurn_139 : decode cX3_takeTurn 139 = .ok (.getfield 21, 3) := by decide +kernel
theorem dX3_takeTurn_142 : decode cX3_takeTurn 142 = .ok (.aload_n 0, 1) := by decide +kernel
theorem dX3_takeTurn_143 : decode cX3_takeTurn 143 = .ok (.getfield 12, 3) := by decide +kernel
theorem dX3_takeTurn_146 : decode cX3_takeTurn 146 = .ok (.iload_n 3, 1) := by decide +kernel
theorem dX3_takeTurn_147 : decode cX3_takeTurn 147 = .ok (.invokevirtual 102, 3) := by decide +kernel
theorem dX3_takeTurn_150 : decode cX3_takeTurn 150 = .ok (.invokevirtual 106, 3) := by decide +kernel
theorem dX3_takeTurn_153 : decode cX3_takeTurn 153 = .ok (.iconst 1, 1) := by decide +kernel
theorem dX3_takeTurn_154 : decode cX3_takeTurn 154 = .ok (.ireturn, 1) := by decide +kernel
set_option maxRecDepth 20000 in
theorem ggX3_isExploringRound_X1_number : GoodIn wsX3_isExploringRound wsX1_number := goodIn_r _ [6, 7, 8, 9, 10, 5, 11, 12, 13, 14, 15, 16, 17, 18, 19, 20, 21, 22, 27, 28, 29, 30, 31, 32, 33] (by decide +kernel) (by decide +kernel)
set_option maxRecDepth 20000 in
theorem gX3_isExploringRound_X1_number : GoodIn wsX3_isExploringRound (wsV RX3 48 RX1 yX1_number wsX1_number) := goodIn_app (goodIn_of _ (by decide +kernel)) ggX3_isExploringRound_X1_number
theorem dX3_isExploringRound_0 : decode cX3_isExploringRound 0 = .ok (.aload_n 0, 1) := by decide +kernel
theorem dX3_isExploringRound_1 : decode cX3_isExploringRound 1 = .ok (.getfield 12, 3) := by decide +kernel
theorem dX3_isExploringRound_4 : decode cX3_isExploringRound 4 = .ok (.iconst 4, 1) := by decide +kernel
theorem dX3_isExploringRound_5 : decode cX3_isExploringRound 5 = .ok (.invokevirtual 48, 3) := by decide +kernel
theorem dX3_isExploringRound_8 : decode cX3_isExploringRound 8 = .ok (.istore_n 1, 1) := by decide +kernel
theorem dX3_isExploringRound_9 : decode cX3_isExploringRound 9 = .ok (.iload_n 1, 1) := by decide +kernel
theorem dX3_isExploringRound_10 : decode cX3_isExploringRound 10 = .ok (.ifCond .le 20, 3) := by decide +kernel
theorem dX3_isExploringRound_13 : decode cX3_isExploringRound 13 = .ok (.aload_n 0, 1) := by decide +kernel
theorem dX3_isExploringRound_14 : decode cX3_isExploringRound 14 = .ok (.getfield 12, 3) := by decide +kernel
theorem dX3_isExploringRound_17 : decode cX3_isExploringRound 17 = .ok (.iconst 5, 1) := by decide +kernel
theorem dX3_isExploringRound_18 : decode cX3_isExploringRound 18 = .ok (.invokevirtual 48, 3) := by decide +kernel
theorem dX3_isExploringRound_21 : decode cX3_isExploringRound 21 = .ok (.iload_n 1, 1) := by decide +kernel
theorem dX3_isExploringRound_22 : decode cX3_isExploringRound 22 = .ok (.irem, 1) := by decide +kernel
theorem dX3_isExploringRound_23 : decode cX3_isExploringRound 23 = .ok (.ifCond .ne 7, 3) := by decide +kernel
theorem dX3_isExploringRound_26 : decode cX3_isExploringRound 26 = .ok (.iconst 1, 1) := by decide +kernel
theorem dX3_isExploringRound_27 : decode cX3_isExploringRound 27 = .ok (.goto 4, 3) := by decide +kernel
theorem dX3_isExploringRound_30 : decode cX3_isExploringRound 30 = .ok (.iconst 0, 1) := by decide +kernel
theorem dX3_isExploringRound_31 : decode cX3_isExploringRound 31 = .ok (.ireturn, 1) := by decide +kernel
set_option maxRecDepth 20000 in
theorem ggX3_exploreWay_X2_explore : GoodIn wsX3_exploreWay wsX2_explore := goodIn_r _ [12, 13, 14, 15, 16, 17, 18, 19, 20, 21, 22, 23, 24, 11, 25, 26, 27, 28, 29, 30, 31, 32, 33, 34, 35, 36, 37, 94, 95, 96, 97, 98] (by decide +kernel) (by decide +kernel)
set_option maxRecDepth 20000 in
theorem gX3_exploreWay_X2_explore : GoodIn wsX3_exploreWay (wsV RX3 109 RX2 yX2_explore wsX2_explore) := goodIn_app (goodIn_of _ (by decide +kernel)) ggX3_exploreWay_X2_explore
set_option maxRecDepth 20000 in
theorem ggX3_exploreWay_X2_reachedFrom : GoodIn wsX3_exploreWay wsX2_reachedFrom := goodIn_r _ [41, 16, 17, 18, 19, 94, 95, 96, 97, 98] (by decide +kernel) (by decide +kernel)
set_option maxRecDepth 20000 in
theorem gX3_exploreWay_X2_reachedFrom : GoodIn wsX3_exploreWay (wsV RX3 112 RX2 yX2_reachedFrom wsX2_reachedFrom) := goodIn_app (goodIn_of _ (by decide +kernel)) ggX3_exploreWay_X2_reachedFrom
set_option maxRecDepth 20000 in
theorem ggX3_exploreWay_X5_holds : GoodIn wsX3_exploreWay wsX5_holds := goodIn_r _ [29] (by decide +kernel) (by decide +kernel)
set_option maxRecDepth 20000 in
theorem gX3_exploreWay_X5_holds_n77 : GoodIn wsX3_exploreWay (wsX5_holds) := ggX3_exploreWay_X5_holds
set_option maxRecDepth 20000 in
theorem ggX3_exploreWay_X1_spend : GoodIn wsX3_exploreWay wsX1_spend := goodIn_r _ [46, 47, 48, 49, 5, 50, 51, 17, 18, 19, 52, 53, 54, 55, 20, 21, 99, 100, 101, 102, 103, 104, 105] (by decide +kernel) (by decide +kernel)
set_option maxRecDepth 20000 in
theorem gX3_exploreWay_X1_spend : GoodIn wsX3_exploreWay (wsV RX3 115 RX1 yX1_spend wsX1_spend) := goodIn_app (goodIn_of _ (by decide +kernel)) ggX3_exploreWay_X1_spend
set_option maxRecDepth 20000 in
theorem ggX3_exploreWay_X3_traceBack : GoodIn wsX3_exploreWay wsX3_traceBack := goodIn_r _ [60, 7, 1, 20, 18, 21, 61, 62, 63, 11, 64, 14, 17, 19, 90, 91, 92, 93, 94, 95, 96, 97, 98] (by decide +kernel) (by decide +kernel)
set_option maxRecDepth 20000 in
theorem gX3_exploreWay_X3_traceBack : GoodIn wsX3_exploreWay (wsV RX3 118 RX3 yX3_traceBack wsX3_traceBack) := goodIn_app (goodIn_of _ (by decide +kernel)) ggX3_exploreWay_X3_traceBack
set_option maxRecDepth 20000 in
theorem ggX3_exploreWay_X3_keptLinks : GoodIn wsX3_exploreWay wsX3_keptLinks := goodIn_r _ [68, 2, 7, 17, 18, 19, 69, 70, 71, 45, 72, 73, 74, 75, 76, 77, 90, 91, 92, 93, 99, 100, 101, 102, 103, 104, 105] (by decide +kernel) (by decide +kernel)
set_option maxRecDepth 20000 in
theorem gX3_exploreWay_X3_keptLinks : GoodIn wsX3_exploreWay (wsV RX3 121 RX3 yX3_keptLinks wsX3_keptLinks) := goodIn_app (goodIn_of _ (by decide +kernel)) ggX3_exploreWay_X3_keptLinks
set_option maxRecDepth 20000 in
theorem ggX3_exploreWay_X1_raise : GoodIn wsX3_exploreWay wsX1_raise := goodIn_r _ [81, 51, 52, 18, 53, 54, 17, 19, 55, 20, 21, 99, 100, 101, 102, 103, 104, 105] (by decide +kernel) (by decide +kernel)
set_option maxRecDepth 20000 in
theorem gX3_exploreWay_X1_raise : GoodIn wsX3_exploreWay (wsV RX3 56 RX1 yX1_raise wsX1_raise) := goodIn_app (goodIn_of _ (by decide +kernel)) ggX3_exploreWay_X1_raise
set_option maxRecDepth 20000 in
theorem ggX3_exploreWay_X1_lengthOf : GoodIn wsX3_exploreWay wsX1_lengthOf := goodIn_r _ [85, 73, 17, 18, 19, 99, 100, 101, 102, 103, 104, 105] (by decide +kernel) (by decide +kernel)
set_option maxRecDepth 20000 in
theorem gX3_exploreWay_X1_lengthOf : GoodIn wsX3_exploreWay (wsV RX3 96 RX1 yX1_lengthOf wsX1_lengthOf) := goodIn_app (goodIn_of _ (by decide +kernel)) ggX3_exploreWay_X1_lengthOf
set_option maxRecDepth 20000 in
theorem ggX3_exploreWay_X1_setWay : GoodIn wsX3_exploreWay wsX1_setWay := goodIn_r _ [89, 73, 74, 20, 18, 21, 17, 19, 99, 100, 101, 102, 103, 104, 105] (by decide +kernel) (by decide +kernel)
set_option maxRecDepth 20000 in
theorem gX3_exploreWay_X1_setWay : GoodIn wsX3_exploreWay (wsV RX3 129 RX1 yX1_setWay wsX1_setWay) := goodIn_app (goodIn_of _ (by decide +kernel)) ggX3_exploreWay_X1_setWay
theorem dX3_exploreWay_0 : decode cX3_exploreWay 0 = .ok (.aload_n 0, 1) := by decide +kernel
theorem dX3_exploreWay_1 : decode cX3_exploreWay 1 = .ok (.getfield 21, 3) := by decide +kernel
theorem dX3_exploreWay_4 : decode cX3_exploreWay 4 = .ok (.iload_n 2, 1) := by decide +kernel
theorem dX3_exploreWay_5 : decode cX3_exploreWay 5 = .ok (.iload 4, 2) := by decide +kernel
theorem dX3_exploreWay_7 : decode cX3_exploreWay 7 = .ok (.invokevirtual 109, 3) := by decide +kernel
theorem dX3_exploreWay_10 : decode cX3_exploreWay 10 = .ok (.aload_n 0, 1) := by decide +kernel
theorem dX3_exploreWay_11 : decode cX3_exploreWay 11 = .ok (.getfield 21, 3) := by decide +kernel
theorem dX3_exploreWay_14 : decode cX3_exploreWay 14 = .ok (.iload_n 2, 1) := by decide +kernel
theorem dX3_exploreWay_15 : decode cX3_exploreWay 15 = .ok (.invokevirtual 112, 3) := by decide +kernel
theorem dX3_exploreWay_18 : decode cX3_exploreWay 18 = .ok (.istore 5, 2) := by decide +kernel
theorem dX3_exploreWay_20 : decode cX3_exploreWay 20 = .ok (.iconst 0, 1) := by decide +kernel
theorem dX3_exploreWay_21 : decode cX3_exploreWay 21 = .ok (.istore 6, 2) := by decide +kernel
theorem dX3_exploreWay_23 : decode cX3_exploreWay 23 = .ok (.iload 6, 2) := by decide +kernel
theorem dX3_exploreWay_25 : decode cX3_exploreWay 25 = .ok (.bipush 10, 2) := by decide +kernel
theorem dX3_exploreWay_27 : decode cX3_exploreWay 27 = .ok (.if_icmp .ge 29, 3) := by decide +kernel
theorem dX3_exploreWay_30 : decode cX3_exploreWay 30 = .ok (.iload 5, 2) := by decide +kernel
theorem dX3_exploreWay_32 : decode cX3_exploreWay 32 = .ok (.iload 6, 2) := by decide +kernel
theorem dX3_exploreWay_34 : decode cX3_exploreWay 34 = .ok (.invokestatic 77, 3) := by decide +kernel
theorem dX3_exploreWay_37 : decode cX3_exploreWay 37 = .ok (.ifCond .eq 13, 3) := by decide +kernel
theorem dX3_exploreWay_40 : decode cX3_exploreWay 40 = .ok (.aload_n 0, 1) := by decide +kernel
theorem dX3_exploreWay_41 : decode cX3_exploreWay 41 = .ok (.getfield 12, 3) := by decide +kernel
theorem dX3_exploreWay_44 : decode cX3_exploreWay 44 = .ok (.iload 6, 2) := by decide +kernel
theorem dX3_exploreWay_46 : decode cX3_exploreWay 46 = .ok (.iconst 1, 1) := by decide +kernel
theorem dX3_exploreWay_47 : decode cX3_exploreWay 47 = .ok (.invokevirtual 115, 3) := by decide +kernel
theorem dX3_exploreWay_50 : decode cX3_exploreWay 50 = .ok (.iinc 6 1, 3) := by decide +kernel
theorem dX3_exploreWay_53 : decode cX3_exploreWay 53 = .ok (.goto (-30), 3) := by decide +kernel
theorem dX3_exploreWay_56 : decode cX3_exploreWay 56 = .ok (.iload 5, 2) := by decide +kernel
theorem dX3_exploreWay_58 : decode cX3_exploreWay 58 = .ok (.iload_n 3, 1) := by decide +kernel
theorem dX3_exploreWay_59 : decode cX3_exploreWay 59 = .ok (.invokestatic 77, 3) := by decide +kernel
theorem dX3_exploreWay_62 : decode cX3_exploreWay 62 = .ok (.ifCond .eq 12, 3) := by decide +kernel
theorem dX3_exploreWay_65 : decode cX3_exploreWay 65 = .ok (.aload_n 0, 1) := by decide +kernel
theorem dX3_exploreWay_66 : decode cX3_exploreWay 66 = .ok (.iload_n 2, 1) := by decide +kernel
theorem dX3_exploreWay_67 : decode cX3_exploreWay 67 = .ok (.iload_n 3, 1) := by decide +kernel
theorem dX3_exploreWay_68 : decode cX3_exploreWay 68 = .ok (.invokevirtual 118, 3) := by decide +kernel
theorem dX3_exploreWay_71 : decode cX3_exploreWay 71 = .ok (.goto 4, 3) := by decide +kernel
theorem dX3_exploreWay_74 : decode cX3_exploreWay 74 = .ok (.iconst 0, 1) := by decide +kernel
theorem dX3_exploreWay_75 : decode cX3_exploreWay 75 = .ok (.istore 6, 2) := by decide +kernel
theorem dX3_exploreWay_77 : decode cX3_exploreWay 77 = .ok (.aload_n 0, 1) := by decide +kernel
theorem dX3_exploreWay_78 : decode cX3_exploreWay 78 = .ok (.iload_n 1, 1) := by decide +kernel
theorem dX3_exploreWay_79 : decode cX3_exploreWay 79 = .ok (.iload 6, 2) := by decide +kernel
theorem dX3_exploreWay_81 : decode cX3_exploreWay 81 = .ok (.invokevirtual 121, 3) := by decide +kernel
theorem dX3_exploreWay_84 : decode cX3_exploreWay 84 = .ok (.istore 7, 2) := by decide +kernel
theorem dX3_exploreWay_86 : decode cX3_exploreWay 86 = .ok (.aload_n 0, 1) := by decide +kernel
theorem dX3_exploreWay_87 : decode cX3_exploreWay 87 = .ok (.getfield 12, 3) := by decide +kernel
theorem dX3_exploreWay_90 : decode cX3_exploreWay 90 = .ok (.bipush 7, 2) := by decide +kernel
theorem dX3_exploreWay_92 : decode cX3_exploreWay 92 = .ok (.iconst 1, 1) := by decide +kernel
theorem dX3_exploreWay_93 : decode cX3_exploreWay 93 = .ok (.invokevirtual 56, 3) := by decide +kernel
theorem dX3_exploreWay_96 : decode cX3_exploreWay 96 = .ok (.aload_n 0, 1) := by decide +kernel
theorem dX3_exploreWay_97 : decode cX3_exploreWay 97 = .ok (.getfield 12, 3) := by decide +kernel
theorem dX3_exploreWay_100 : decode cX3_exploreWay 100 = .ok (.bipush 8, 2) := by decide +kernel
theorem dX3_exploreWay_102 : decode cX3_exploreWay 102 = .ok (.iload 6, 2) := by decide +kernel
theorem dX3_exploreWay_104 : decode cX3_exploreWay 104 = .ok (.iconst 1, 1) := by decide +kernel
theorem dX3_exploreWay_105 : decode cX3_exploreWay 105 = .ok (.isub, 1) := by decide +kernel
theorem dX3_exploreWay_106 : decode cX3_exploreWay 106 = .ok (.iconst 0, 1) := by decide +kernel
theorem dX3_exploreWay_107 : decode cX3_exploreWay 107 = .ok (.invokestatic 124, 3) := by decide +kernel
theorem dX3_exploreWay_110 : decode cX3_exploreWay 110 = .ok (.iload 7, 2) := by decide +kernel
theorem dX3_exploreWay_112 : decode cX3_exploreWay 112 = .ok (.isub, 1) := by decide +kernel
theorem dX3_exploreWay_113 : decode cX3_exploreWay 113 = .ok (.invokevirtual 56, 3) := by decide +kernel
theorem dX3_exploreWay_116 : decode cX3_exploreWay 116 = .ok (.aload_n 0, 1) := by decide +kernel
theorem dX3_exploreWay_117 : decode cX3_exploreWay 117 = .ok (.getfield 12, 3) := by decide +kernel
theorem dX3_exploreWay_120 : decode cX3_exploreWay 120 = .ok (.bipush 9, 2) := by decide +kernel
theorem dX3_exploreWay_122 : decode cX3_exploreWay 122 = .ok (.aload_n 0, 1) := by decide +kernel
theorem dX3_exploreWay_123 : decode cX3_exploreWay 123 = .ok (.getfield 12, 3) := by decide +kernel
theorem dX3_exploreWay_126 : decode cX3_exploreWay 126 = .ok (.iload_n 1, 1) := by decide +kernel
theorem dX3_exploreWay_127 : decode cX3_exploreWay 127 = .ok (.invokevirtual 96, 3) := by decide +kernel
theorem dX3_exploreWay_130 : decode cX3_exploreWay 130 = .ok (.iconst 1, 1) := by decide +kernel
theorem dX3_exploreWay_131 : decode cX3_exploreWay 131 = .ok (.isub, 1) := by decide +kernel
theorem dX3_exploreWay_132 : decode cX3_exploreWay 132 = .ok (.iconst 0, 1) := by decide +kernel
theorem dX3_exploreWay_133 : decode cX3_exploreWay 133 = .ok (.invokestatic 124, 3) := by decide +kernel
theorem dX3_exploreWay_136 : decode cX3_exploreWay 136 = .ok (.iload 7, 2) := by decide +kernel
theorem dX3_exploreWay_138 : decode cX3_exploreWay 138 = .ok (.isub, 1) := by decide +kernel
theorem dX3_exploreWay_139 : decode cX3_exploreWay 139 = .ok (.invokevirtual 56, 3) := by decide +kernel
theorem dX3_exploreWay_142 : decode cX3_exploreWay 142 = .ok (.aload_n 0, 1) := by decide +kernel
theorem dX3_exploreWay_143 : decode cX3_exploreWay 143 = .ok (.getfield 12, 3) := by decide +kernel
theorem dX3_exploreWay_146 : decode cX3_exploreWay 146 = .ok (.iload_n 1, 1) := by decide +kernel
theorem dX3_exploreWay_147 : decode cX3_exploreWay 147 = .ok (.aload_n 0, 1) := by decide +kernel
theorem dX3_exploreWay_148 : decode cX3_exploreWay 148 = .ok (.getfield 25, 3) := by decide +kernel
theorem dX3_exploreWay_151 : decode cX3_exploreWay 151 = .ok (.iload 6, 2) := by decide +kernel
theorem dX3_exploreWay_153 : decode cX3_exploreWay 153 = .ok (.invokevirtual 129, 3) := by decide +kernel
theorem dX3_exploreWay_156 : decode cX3_exploreWay 156 = .ok (.return_, 1) := by decide +kernel
set_option maxRecDepth 20000 in
theorem ggX3_traceBack_X5_put : GoodIn wsX3_traceBack wsX5_put := goodIn_r _ [5] (by decide +kernel) (by decide +kernel)
set_option maxRecDepth 20000 in
theorem gX3_traceBack_X5_put_n133 : GoodIn wsX3_traceBack (wsX5_put) := ggX3_traceBack_X5_put
set_option maxRecDepth 20000 in
theorem ggX3_traceBack_X2_nodeBefore : GoodIn wsX3_traceBack wsX2_nodeBefore := goodIn_r _ [10, 11, 12, 4, 13, 18, 19, 20, 21, 22] (by decide +kernel) (by decide +kernel)
set_option maxRecDepth 20000 in
theorem gX3_traceBack_X2_nodeBefore : GoodIn wsX3_traceBack (wsV RX3 137 RX2 yX2_nodeBefore wsX2_nodeBefore) := goodIn_app (goodIn_of _ (by decide +kernel)) ggX3_traceBack_X2_nodeBefore
theorem dX3_traceBack_0 : decode cX3_traceBack 0 = .ok (.iload_n 2, 1) := by decide +kernel
theorem dX3_traceBack_1 : decode cX3_traceBack 1 = .ok (.istore_n 3, 1) := by decide +kernel
theorem dX3_traceBack_2 : decode cX3_traceBack 2 = .ok (.iconst 1, 1) := by decide +kernel
theorem dX3_traceBack_3 : decode cX3_traceBack 3 = .ok (.istore 4, 2) := by decide +kernel
theorem dX3_traceBack_5 : decode cX3_traceBack 5 = .ok (.aload_n 0, 1) := by decide +kernel
theorem dX3_traceBack_6 : decode cX3_traceBack 6 = .ok (.getfield 25, 3) := by decide +kernel
theorem dX3_traceBack_9 : decode cX3_traceBack 9 = .ok (.iconst 0, 1) := by decide +kernel
theorem dX3_traceBack_10 : decode cX3_traceBack 10 = .ok (.iload_n 3, 1) := by decide +kernel
theorem dX3_traceBack_11 : decode cX3_traceBack 11 = .ok (.invokestatic 133, 3) := by decide +kernel
theorem dX3_traceBack_14 : decode cX3_traceBack 14 = .ok (.iload_n 3, 1) := by decide +kernel
theorem dX3_traceBack_15 : decode cX3_traceBack 15 = .ok (.iload_n 1, 1) := by decide +kernel
theorem dX3_traceBack_16 : decode cX3_traceBack 16 = .ok (.if_icmp .eq 36, 3) := by decide +kernel
theorem dX3_traceBack_19 : decode cX3_traceBack 19 = .ok (.iload 4, 2) := by decide +kernel
theorem dX3_traceBack_21 : decode cX3_traceBack 21 = .ok (.bipush 10, 2) := by decide +kernel
theorem dX3_traceBack_23 : decode cX3_traceBack 23 = .ok (.if_icmp .ge 29, 3) := by decide +kernel
theorem dX3_traceBack_26 : decode cX3_traceBack 26 = .ok (.aload_n 0, 1) := by decide +kernel
theorem dX3_traceBack_27 : decode cX3_traceBack 27 = .ok (.getfield 21, 3) := by decide +kernel
theorem dX3_traceBack_30 : decode cX3_traceBack 30 = .ok (.iload_n 1, 1) := by decide +kernel
theorem dX3_traceBack_31 : decode cX3_traceBack 31 = .ok (.iload_n 3, 1) := by decide +kernel
theorem dX3_traceBack_32 : decode cX3_traceBack 32 = .ok (.invokevirtual 137, 3) := by decide +kernel
theorem dX3_traceBack_35 : decode cX3_traceBack 35 = .ok (.istore_n 3, 1) := by decide +kernel
theorem dX3_traceBack_36 : decode cX3_traceBack 36 = .ok (.aload_n 0, 1) := by decide +kernel
theorem dX3_traceBack_37 : decode cX3_traceBack 37 = .ok (.getfield 25, 3) := by decide +kernel
theorem dX3_traceBack_40 : decode cX3_traceBack 40 = .ok (.iload 4, 2) := by decide +kernel
theorem dX3_traceBack_42 : decode cX3_traceBack 42 = .ok (.iload_n 3, 1) := by decide +kernel
theorem dX3_traceBack_43 : decode cX3_traceBack 43 = .ok (.invokestatic 133, 3) := by decide +kernel
theorem dX3_traceBack_46 : decode cX3_traceBack 46 = .ok (.iinc 4 1, 3) := by decide +kernel
theorem dX3_traceBack_49 : decode cX3_traceBack 49 = .ok (.goto (-35), 3) := by decide +kernel
theorem dX3_traceBack_52 : decode cX3_traceBack 52 = .ok (.iload 4, 2) := by decide +kernel
theorem dX3_traceBack_54 : decode cX3_traceBack 54 = .ok (.ireturn, 1) := by decide +kernel
set_option maxRecDepth 20000 in
theorem ggX3_keptLinks_X5_at : GoodIn wsX3_keptLinks wsX5_at := goodIn_r _ [5] (by decide +kernel) (by decide +kernel)
set_option maxRecDepth 20000 in
theorem gX3_keptLinks_X5_at_n140 : GoodIn wsX3_keptLinks (wsX5_at) := ggX3_keptLinks_X5_at
set_option maxRecDepth 20000 in
theorem ggX3_keptLinks_X1_goesOver : GoodIn wsX3_keptLinks wsX1_goesOver := goodIn_r _ [10, 11, 12, 3, 4, 5, 13, 14, 9, 15, 20, 21, 22, 23, 24, 25, 26] (by decide +kernel) (by decide +kernel)
set_option maxRecDepth 20000 in
theorem gX3_keptLinks_X1_goesOver : GoodIn wsX3_keptLinks (wsV RX3 144 RX1 yX1_goesOver wsX1_goesOver) := goodIn_app (goodIn_of _ (by decide +kernel)) ggX3_keptLinks_X1_goesOver
theorem dX3_keptLinks_0 : decode cX3_keptLinks 0 = .ok (.iconst 0, 1) := by decide +kernel
theorem dX3_keptLinks_1 : decode cX3_keptLinks 1 = .ok (.istore_n 3, 1) := by decide +kernel
theorem dX3_keptLinks_2 : decode cX3_keptLinks 2 = .ok (.iconst 1, 1) := by decide +kernel
theorem dX3_keptLinks_3 : decode cX3_keptLinks 3 = .ok (.istore 4, 2) := by decide +kernel
theorem dX3_keptLinks_5 : decode cX3_keptLinks 5 = .ok (.iload 4, 2) := by decide +kernel
theorem dX3_keptLinks_7 : decode cX3_keptLinks 7 = .ok (.iload_n 2, 1) := by decide +kernel
theorem dX3_keptLinks_8 : decode cX3_keptLinks 8 = .ok (.if_icmp .ge 43, 3) := by decide +kernel
theorem dX3_keptLinks_11 : decode cX3_keptLinks 11 = .ok (.aload_n 0, 1) := by decide +kernel
theorem dX3_keptLinks_12 : decode cX3_keptLinks 12 = .ok (.getfield 12, 3) := by decide +kernel
theorem dX3_keptLinks_15 : decode cX3_keptLinks 15 = .ok (.iload_n 1, 1) := by decide +kernel
theorem dX3_keptLinks_16 : decode cX3_keptLinks 16 = .ok (.aload_n 0, 1) := by decide +kernel
theorem dX3_keptLinks_17 : decode cX3_keptLinks 17 = .ok (.getfield 25, 3) := by decide +kernel
theorem dX3_keptLinks_20 : decode cX3_keptLinks 20 = .ok (.iload 4, 2) := by decide +kernel
theorem dX3_keptLinks_22 : decode cX3_keptLinks 22 = .ok (.iconst 1, 1) := by decide +kernel
theorem dX3_keptLinks_23 : decode cX3_keptLinks 23 = .ok (.isub, 1) := by decide +kernel
theorem dX3_keptLinks_24 : decode cX3_keptLinks 24 = .ok (.invokestatic 140, 3) := by decide +kernel
theorem dX3_keptLinks_27 : decode cX3_keptLinks 27 = .ok (.aload_n 0, 1) := by decide +kernel
theorem dX3_keptLinks_28 : decode cX3_keptLinks 28 = .ok (.getfield 25, 3) := by decide +kernel
theorem dX3_keptLinks_31 : decode cX3_keptLinks 31 = .ok (.iload 4, 2) := by decide +kernel
theorem dX3_keptLinks_33 : decode cX3_keptLinks 33 = .ok (.invokestatic 140, 3) := by decide +kernel
theorem dX3_keptLinks_36 : decode cX3_keptLinks 36 = .ok (.invokevirtual 144, 3) := by decide +kernel
theorem dX3_keptLinks_39 : decode cX3_keptLinks 39 = .ok (.ifCond .eq 6, 3) := by decide +kernel
theorem dX3_keptLinks_42 : decode cX3_keptLinks 42 = .ok (.iinc 3 1, 3) := by decide +kernel
theorem dX3_keptLinks_45 : decode cX3_keptLinks 45 = .ok (.iinc 4 1, 3) := by decide +kernel
theorem dX3_keptLinks_48 : decode cX3_keptLinks 48 = .ok (.goto (-43), 3) := by decide +kernel
theorem dX3_keptLinks_51 : decode cX3_keptLinks 51 = .ok (.iload_n 3, 1) := by decide +kernel
theorem dX3_keptLinks_52 : decode cX3_keptLinks 52 = .ok (.ireturn, 1) := by decide +kernel
set_option maxRecDepth 20000 in
theorem ggX3_send_X1_lengthOf : GoodIn wsX3_send wsX1_lengthOf := goodIn_r _ [7, 8, 9, 10, 11, 39, 40, 41, 42, 43, 44, 45] (by decide +kernel) (by decide +kernel)
set_option maxRecDepth 20000 in
theorem gX3_send_X1_lengthOf : GoodIn wsX3_send (wsV RX3 96 RX1 yX1_lengthOf wsX1_lengthOf) := goodIn_app (goodIn_of _ (by decide +kernel)) ggX3_send_X1_lengthOf
set_option maxRecDepth 20000 in
theorem ggX3_send_X1_nodeOf : GoodIn wsX3_send wsX1_nodeOf := goodIn_r _ [15, 16, 9, 10, 11, 39, 40, 41, 42, 43, 44, 45] (by decide +kernel) (by decide +kernel)
set_option maxRecDepth 20000 in
theorem gX3_send_X1_nodeOf : GoodIn wsX3_send (wsV RX3 148 RX1 yX1_nodeOf wsX1_nodeOf) := goodIn_app (goodIn_of _ (by decide +kernel)) ggX3_send_X1_nodeOf
set_option maxRecDepth 20000 in
theorem ggX3_send_X5_at : GoodIn wsX3_send wsX5_at := goodIn_r _ [11] (by decide +kernel) (by decide +kernel)
set_option maxRecDepth 20000 in
theorem gX3_send_X5_at_n140 : GoodIn wsX3_send (wsX5_at) := ggX3_send_X5_at
set_option maxRecDepth 20000 in
theorem ggX3_send_X5_holds : GoodIn wsX3_send wsX5_holds := goodIn_r _ [18] (by decide +kernel) (by decide +kernel)
set_option maxRecDepth 20000 in
theorem gX3_send_X5_holds_n77 : GoodIn wsX3_send (wsX5_holds) := ggX3_send_X5_holds
set_option maxRecDepth 20000 in
theorem ggX3_send_X5_put : GoodIn wsX3_send wsX5_put := goodIn_r _ [20] (by decide +kernel) (by decide +kernel)
set_option maxRecDepth 20000 in
theorem gX3_send_X5_put_n133 : GoodIn wsX3_send (wsX5_put) := ggX3_send_X5_put
set_option maxRecDepth 20000 in
theorem ggX3_send_X1_spend : GoodIn wsX3_send wsX1_spend := goodIn_r _ [24, 25, 26, 27, 28, 29, 30, 9, 10, 11, 31, 32, 33, 34, 19, 20, 39, 40, 41, 42, 43, 44, 45] (by decide +kernel) (by decide +kernel)
set_option maxRecDepth 20000 in
theorem gX3_send_X1_spend : GoodIn wsX3_send (wsV RX3 115 RX1 yX1_spend wsX1_spend) := goodIn_app (goodIn_of _ (by decide +kernel)) ggX3_send_X1_spend
theorem dX3_send_0 : decode cX3_send 0 = .ok (.iconst 1, 1) := by decide +kernel
theorem dX3_send_1 : decode cX3_send 1 = .ok (.istore_n 3, 1) := by decide +kernel
theorem dX3_send_2 : decode cX3_send 2 = .ok (.iload_n 3, 1) := by decide +kernel
theorem dX3_send_3 : decode cX3_send 3 = .ok (.aload_n 0, 1) := by decide +kernel
theorem dX3_send_4 : decode cX3_send 4 = .ok (.getfield 12, 3) := by decide +kernel
theorem dX3_send_7 : decode cX3_send 7 = .ok (.iload_n 1, 1) := by decide +kernel
theorem dX3_send_8 : decode cX3_send 8 = .ok (.invokevirtual 96, 3) := by decide +kernel
theorem dX3_send_11 : decode cX3_send 11 = .ok (.if_icmp .ge 100, 3) := by decide +kernel
theorem dX3_send_14 : decode cX3_send 14 = .ok (.aload_n 0, 1) := by decide +kernel
theorem dX3_send_15 : decode cX3_send 15 = .ok (.getfield 12, 3) := by decide +kernel
theorem dX3_send_18 : decode cX3_send 18 = .ok (.iload_n 1, 1) := by decide +kernel
theorem dX3_send_19 : decode cX3_send 19 = .ok (.iload_n 3, 1) := by decide +kernel
theorem dX3_send_20 : decode cX3_send 20 = .ok (.iconst 1, 1) := by decide +kernel
theorem dX3_send_21 : decode cX3_send 21 = .ok (.isub, 1) := by decide +kernel
theorem dX3_send_22 : decode cX3_send 22 = .ok (.invokevirtual 148, 3) := by decide +kernel
theorem dX3_send_25 : decode cX3_send 25 = .ok (.istore 4, 2) := by decide +kernel
theorem dX3_send_27 : decode cX3_send 27 = .ok (.aload_n 0, 1) := by decide +kernel
theorem dX3_send_28 : decode cX3_send 28 = .ok (.getfield 12, 3) := by decide +kernel
theorem dX3_send_31 : decode cX3_send 31 = .ok (.iload_n 1, 1) := by decide +kernel
theorem dX3_send_32 : decode cX3_send 32 = .ok (.iload_n 3, 1) := by decide +kernel
theorem dX3_send_33 : decode cX3_send 33 = .ok (.invokevirtual 148, 3) := by decide +kernel
theorem dX3_send_36 : decode cX3_send 36 = .ok (.istore 5, 2) := by decide +kernel
theorem dX3_send_38 : decode cX3_send 38 = .ok (.aload_n 0, 1) := by decide +kernel
theorem dX3_send_39 : decode cX3_send 39 = .ok (.getfield 29, 3) := by decide +kernel
theorem dX3_send_42 : decode cX3_send 42 = .ok (.iload_n 2, 1) := by decide +kernel
theorem dX3_send_43 : decode cX3_send 43 = .ok (.bipush 10, 2) := by decide +kernel
theorem dX3_send_45 : decode cX3_send 45 = .ok (.imul, 1) := by decide +kernel
theorem dX3_send_46 : decode cX3_send 46 = .ok (.iload 4, 2) := by decide +kernel
theorem dX3_send_48 : decode cX3_send 48 = .ok (.iadd, 1) := by decide +kernel
theorem dX3_send_49 : decode cX3_send 49 = .ok (.invokestatic 140, 3) := by decide +kernel
theorem dX3_send_52 : decode cX3_send 52 = .ok (.istore 6, 2) := by decide +kernel
theorem dX3_send_54 : decode cX3_send 54 = .ok (.iload 6, 2) := by decide +kernel
theorem dX3_send_56 : decode cX3_send 56 = .ok (.iload 5, 2) := by decide +kernel
theorem dX3_send_58 : decode cX3_send 58 = .ok (.invokestatic 77, 3) := by decide +kernel
theorem dX3_send_61 : decode cX3_send 61 = .ok (.ifCond .ne 44, 3) := by decide +kernel
theorem dX3_send_64 : decode cX3_send 64 = .ok (.aload_n 0, 1) := by decide +kernel
theorem dX3_send_65 : decode cX3_send 65 = .ok (.getfield 29, 3) := by decide +kernel
theorem dX3_send_68 : decode cX3_send 68 = .ok (.iload_n 2, 1) := by decide +kernel
theorem dX3_send_69 : decode cX3_send 69 = .ok (.bipush 10, 2) := by decide +kernel
theorem dX3_send_71 : decode cX3_send 71 = .ok (.imul, 1) := by decide +kernel
theorem dX3_send_72 : decode cX3_send 72 = .ok (.iload 4, 2) := by decide +kernel
theorem dX3_send_74 : decode cX3_send 74 = .ok (.iadd, 1) := by decide +kernel
theorem dX3_send_75 : decode cX3_send 75 = .ok (.iload 6, 2) := by decide +kernel
theorem dX3_send_77 : decode cX3_send 77 = .ok (.iconst 1, 1) := by decide +kernel
theorem dX3_send_78 : decode cX3_send 78 = .ok (.iload 5, 2) := by decide +kernel
theorem dX3_send_80 : decode cX3_send 80 = .ok (.ishl, 1) := by decide +kernel
theorem dX3_send_81 : decode cX3_send 81 = .ok (.ior, 1) := by decide +kernel
theorem dX3_send_82 : decode cX3_send 82 = .ok (.invokestatic 133, 3) := by decide +kernel
theorem dX3_send_85 : decode cX3_send 85 = .ok (.aload_n 0, 1) := by decide +kernel
theorem dX3_send_86 : decode cX3_send 86 = .ok (.getfield 12, 3) := by decide +kernel
theorem dX3_send_89 : decode cX3_send 89 = .ok (.iload 4, 2) := by decide +kernel
theorem dX3_send_91 : decode cX3_send 91 = .ok (.iconst 2, 1) := by decide +kernel
theorem dX3_send_92 : decode cX3_send 92 = .ok (.invokevirtual 115, 3) := by decide +kernel
theorem dX3_send_95 : decode cX3_send 95 = .ok (.aload_n 0, 1) := by decide +kernel
theorem dX3_send_96 : decode cX3_send 96 = .ok (.getfield 12, 3) := by decide +kernel
theorem dX3_send_99 : decode cX3_send 99 = .ok (.iload 5, 2) := by decide +kernel
theorem dX3_send_101 : decode cX3_send 101 = .ok (.iconst 1, 1) := by decide +kernel
theorem dX3_send_102 : decode cX3_send 102 = .ok (.invokevirtual 115, 3) := by decide +kernel
theorem dX3_send_105 : decode cX3_send 105 = .ok (.iinc 3 1, 3) := by decide +kernel
theorem dX3_send_108 : decode cX3_send 108 = .ok (.goto (-106), 3) := by decide +kernel
theorem dX3_send_111 : decode cX3_send 111 = .ok (.return_, 1) := by decide +kernel
set_option maxRecDepth 20000 in
theorem ggX4_init_X1_init : GoodIn wsX4_init wsX1_init := goodIn_r _ [12, 13, 2, 3, 8, 14, 15, 16, 17, 18, 19, 20, 21, 22, 23, 24, 25, 26, 27, 28, 29, 30] (by decide +kernel) (by decide +kernel)
set_option maxRecDepth 20000 in
theorem gX4_init_X1_init : GoodIn wsX4_init (wsX1_init) := ggX4_init_X1_init
theorem dX4_init_0 : decode cX4_init 0 = .ok (.aload_n 0, 1) := by decide +kernel
theorem dX4_init_1 : decode cX4_init 1 = .ok (.invokespecial 3, 3) := by decide +kernel
theorem dX4_init_4 : decode cX4_init 4 = .ok (.aload_n 0, 1) := by decide +kernel
theorem dX4_init_5 : decode cX4_init 5 = .ok (.new 9, 3) := by decide +kernel
theorem dX4_init_8 : decode cX4_init 8 = .ok (.dup, 1) := by decide +kernel
theorem dX4_init_9 : decode cX4_init 9 = .ok (.invokespecial 11, 3) := by decide +kernel
theorem dX4_init_12 : decode cX4_init 12 = .ok (.putfield 12, 3) := by decide +kernel
theorem dX4_init_15 : decode cX4_init 15 = .ok (.aload_n 0, 1) := by decide +kernel
theorem dX4_init_16 : decode cX4_init 16 = .ok (.bipush 120, 2) := by decide +kernel
theorem dX4_init_18 : decode cX4_init 18 = .ok (.newarray .int, 2) := by decide +kernel
theorem dX4_init_20 : decode cX4_init 20 = .ok (.putfield 18, 3) := by decide +kernel
theorem dX4_init_23 : decode cX4_init 23 = .ok (.return_, 1) := by decide +kernel
set_option maxRecDepth 20000 in
theorem ggX4_append_X5_put : GoodIn wsX4_append wsX5_put := goodIn_r _ [5] (by decide +kernel) (by decide +kernel)
set_option maxRecDepth 20000 in
theorem gX4_append_X5_put_n26 : GoodIn wsX4_append (wsX5_put) := ggX4_append_X5_put
theorem dX4_append_0 : decode cX4_append 0 = .ok (.aload_n 0, 1) := by decide +kernel
theorem dX4_append_1 : decode cX4_append 1 = .ok (.getfield 22, 3) := by decide +kernel
theorem dX4_append_4 : decode cX4_append 4 = .ok (.bipush 120, 2) := by decide +kernel
theorem dX4_append_6 : decode cX4_append 6 = .ok (.if_icmp .lt 5, 3) := by decide +kernel
theorem dX4_append_9 : decode cX4_append 9 = .ok (.iconst 0, 1) := by decide +kernel
theorem dX4_append_10 : decode cX4_append 10 = .ok (.ireturn, 1) := by decide +kernel
theorem dX4_append_11 : decode cX4_append 11 = .ok (.aload_n 0, 1) := by decide +kernel
theorem dX4_append_12 : decode cX4_append 12 = .ok (.getfield 18, 3) := by decide +kernel
theorem dX4_append_15 : decode cX4_append 15 = .ok (.aload_n 0, 1) := by decide +kernel
theorem dX4_append_16 : decode cX4_append 16 = .ok (.getfield 22, 3) := by decide +kernel
theorem dX4_append_19 : decode cX4_append 19 = .ok (.iload_n 1, 1) := by decide +kernel
theorem dX4_append_20 : decode cX4_append 20 = .ok (.invokestatic 26, 3) := by decide +kernel
theorem dX4_append_23 : decode cX4_append 23 = .ok (.aload_n 0, 1) := by decide +kernel
theorem dX4_append_24 : decode cX4_append 24 = .ok (.dup, 1) := by decide +kernel
theorem dX4_append_25 : decode cX4_append 25 = .ok (.getfield 22, 3) := by decide +kernel
theorem dX4_append_28 : decode cX4_append 28 = .ok (.iconst 1, 1) := by decide +kernel
theorem dX4_append_29 : decode cX4_append 29 = .ok (.iadd, 1) := by decide +kernel
theorem dX4_append_30 : decode cX4_append 30 = .ok (.putfield 22, 3) := by decide +kernel
theorem dX4_append_33 : decode cX4_append 33 = .ok (.iconst 1, 1) := by decide +kernel
theorem dX4_append_34 : decode cX4_append 34 = .ok (.ireturn, 1) := by decide +kernel
set_option maxRecDepth 20000 in
theorem ggX4_read_X1_copyFrom : GoodIn wsX4_read wsX1_copyFrom := goodIn_r _ [8, 9, 10, 11, 12, 13, 14, 15, 16, 17, 18, 19, 20, 21, 22, 23, 24, 25, 26, 118, 119, 120, 121, 122, 123, 124] (by decide +kernel) (by decide +kernel)
set_option maxRecDepth 20000 in
theorem gX4_read_X1_copyFrom : GoodIn wsX4_read (wsV RX4 30 RX1 yX1_copyFrom wsX1_copyFrom) := goodIn_app (goodIn_of _ (by decide +kernel)) ggX4_read_X1_copyFrom
set_option maxRecDepth 20000 in
theorem ggX4_read_X4_readItem : GoodIn wsX4_read wsX4_readItem := goodIn_r _ [31, 2, 32, 33, 34, 30, 35, 36, 37, 38, 17, 39, 40, 41, 42, 43, 1, 44, 45, 46, 7, 47, 9, 48, 49, 50, 51, 10, 52, 53, 54, 55, 56, 57, 58, 59, 60, 61, 62, 63, 64, 65, 66, 67, 68, 69, 70, 71, 72, 73, 74, 75, 76, 77, 78, 79, 80, 81, 82, 83, 84, 85, 86, 87, 88, 89, 90, 91, 12, 92, 93, 94, 95, 96, 97, 98, 99, 100, 101, 102, 103, 11, 104, 105, 106, 107, 108, 109, 110, 111, 112, 113, 114, 115, 116, 117, 118, 119, 120, 121, 122, 123, 124] (by decide +kernel) (by decide +kernel)
set_option maxRecDepth 20000 in
theorem gX4_read_X4_readItem : GoodIn wsX4_read (wsV RX4 40 RX4 yX4_readItem wsX4_readItem) := goodIn_app (goodIn_of _ (by decide +kernel)) ggX4_read_X4_readItem
set_option maxRecDepth 20000 in
theorem ggX4_read_X4_nextCode : GoodIn wsX4_read wsX4_nextCode := goodIn_r _ [35, 2, 36, 37, 38, 17, 39, 111, 112, 113, 114, 115, 116, 117] (by decide +kernel) (by decide +kernel)
set_option maxRecDepth 20000 in
theorem gX4_read_X4_nextCode : GoodIn wsX4_read (wsV RX4 44 RX4 yX4_nextCode wsX4_nextCode) := goodIn_app (goodIn_of _ (by decide +kernel)) ggX4_read_X4_nextCode
set_option maxRecDepth 20000 in
theorem ggX4_read_X4_readSign : GoodIn wsX4_read wsX4_readSign := goodIn_r _ [67, 2, 32, 33, 34, 30, 35, 36, 37, 38, 17, 39, 59, 60, 61, 62, 63, 111, 112, 113, 114, 115, 116, 117] (by decide +kernel) (by decide +kernel)
set_option maxRecDepth 20000 in
theorem gX4_read_X4_readSign : GoodIn wsX4_read (wsV RX4 48 RX4 yX4_readSign wsX4_readSign) := goodIn_app (goodIn_of _ (by decide +kernel)) ggX4_read_X4_readSign
set_option maxRecDepth 20000 in
theorem ggX4_read_X4_refuse : GoodIn wsX4_read wsX4_refuse := goodIn_r _ [62, 63, 111, 112, 113, 114, 115, 116, 117] (by decide +kernel) (by decide +kernel)
set_option maxRecDepth 20000 in
theorem gX4_read_X4_refuse : GoodIn wsX4_read (wsV RX4 52 RX4 yX4_refuse wsX4_refuse) := goodIn_app (goodIn_of _ (by decide +kernel)) ggX4_read_X4_refuse
theorem dX4_read_0 : decode cX4_read 0 = .ok (.aload_n 0, 1) := by decide +kernel
theorem dX4_read_1 : decode cX4_read 1 = .ok (.getfield 12, 3) := by decide +kernel
theorem dX4_read_4 : decode cX4_read 4 = .ok (.aload_n 1, 1) := by decide +kernel
theorem dX4_read_5 : decode cX4_read 5 = .ok (.invokevirtual 30, 3) := by decide +kernel
theorem dX4_read_8 : decode cX4_read 8 = .ok (.aload_n 0, 1) := by decide +kernel
theorem dX4_read_9 : decode cX4_read 9 = .ok (.iconst 0, 1) := by decide +kernel
theorem dX4_read_10 : decode cX4_read 10 = .ok (.putfield 34, 3) := by decide +kernel
theorem dX4_read_13 : decode cX4_read 13 = .ok (.aload_n 0, 1) := by decide +kernel
theorem dX4_read_14 : decode cX4_read 14 = .ok (.iconst 0, 1) := by decide +kernel
theorem dX4_read_15 : decode cX4_read 15 = .ok (.putfield 37, 3) := by decide +kernel
theorem dX4_read_18 : decode cX4_read 18 = .ok (.iconst 0, 1) := by decide +kernel
theorem dX4_read_19 : decode cX4_read 19 = .ok (.istore_n 2, 1) := by decide +kernel
theorem dX4_read_20 : decode cX4_read 20 = .ok (.iload_n 2, 1) := by decide +kernel
theorem dX4_read_21 : decode cX4_read 21 = .ok (.bipush 120, 2) := by decide +kernel
theorem dX4_read_23 : decode cX4_read 23 = .ok (.if_icmp .ge 49, 3) := by decide +kernel
theorem dX4_read_26 : decode cX4_read 26 = .ok (.aload_n 0, 1) := by decide +kernel
theorem dX4_read_27 : decode cX4_read 27 = .ok (.invokevirtual 40, 3) := by decide +kernel
theorem dX4_read_30 : decode cX4_read 30 = .ok (.ifCond .ne 5, 3) := by decide +kernel
theorem dX4_read_33 : decode cX4_read 33 = .ok (.iconst 0, 1) := by decide +kernel
theorem dX4_read_34 : decode cX4_read 34 = .ok (.ireturn, 1) := by decide +kernel
theorem dX4_read_35 : decode cX4_read 35 = .ok (.aload_n 0, 1) := by decide +kernel
theorem dX4_read_36 : decode cX4_read 36 = .ok (.dup, 1) := by decide +kernel
theorem dX4_read_37 : decode cX4_read 37 = .ok (.getfield 37, 3) := by decide +kernel
theorem dX4_read_40 : decode cX4_read 40 = .ok (.iconst 1, 1) := by decide +kernel
theorem dX4_read_41 : decode cX4_read 41 = .ok (.iadd, 1) := by decide +kernel
theorem dX4_read_42 : decode cX4_read 42 = .ok (.putfield 37, 3) := by decide +kernel
theorem dX4_read_45 : decode cX4_read 45 = .ok (.aload_n 0, 1) := by decide +kernel
theorem dX4_read_46 : decode cX4_read 46 = .ok (.invokevirtual 44, 3) := by decide +kernel
theorem dX4_read_49 : decode cX4_read 49 = .ok (.iconst (-1), 1) := by decide +kernel
theorem dX4_read_50 : decode cX4_read 50 = .ok (.if_icmp .ne 5, 3) := by decide +kernel
theorem dX4_read_53 : decode cX4_read 53 = .ok (.iconst 1, 1) := by decide +kernel
theorem dX4_read_54 : decode cX4_read 54 = .ok (.ireturn, 1) := by decide +kernel
theorem dX4_read_55 : decode cX4_read 55 = .ok (.aload_n 0, 1) := by decide +kernel
theorem dX4_read_56 : decode cX4_read 56 = .ok (.bipush 59, 2) := by decide +kernel
theorem dX4_read_58 : decode cX4_read 58 = .ok (.invokevirtual 48, 3) := by decide +kernel
theorem dX4_read_61 : decode cX4_read 61 = .ok (.ifCond .ne 5, 3) := by decide +kernel
theorem dX4_read_64 : decode cX4_read 64 = .ok (.iconst 0, 1) := by decide +kernel
theorem dX4_read_65 : decode cX4_read 65 = .ok (.ireturn, 1) := by decide +kernel
theorem dX4_read_66 : decode cX4_read 66 = .ok (.iinc 2 1, 3) := by decide +kernel
theorem dX4_read_69 : decode cX4_read 69 = .ok (.goto (-49), 3) := by decide +kernel
theorem dX4_read_72 : decode cX4_read 72 = .ok (.aload_n 0, 1) := by decide +kernel
theorem dX4_read_73 : decode cX4_read 73 = .ok (.aload_n 0, 1) := by decide +kernel
theorem dX4_read_74 : decode cX4_read 74 = .ok (.getfield 34, 3) := by decide +kernel
theorem dX4_read_77 : decode cX4_read 77 = .ok (.invokevirtual 52, 3) := by decide +kernel
theorem dX4_read_80 : decode cX4_read 80 = .ok (.ireturn, 1) := by decide +kernel
set_option maxRecDepth 20000 in
theorem ggX4_readItem_X4_nextCode : GoodIn wsX4_readItem wsX4_nextCode := goodIn_r _ [6, 1, 7, 8, 9, 10, 11, 89, 90, 91, 92, 93, 94, 95] (by decide +kernel) (by decide +kernel)
set_option maxRecDepth 20000 in
theorem gX4_readItem_X4_nextCode : GoodIn wsX4_readItem (wsV RX4 44 RX4 yX4_nextCode wsX4_nextCode) := goodIn_app (goodIn_of _ (by decide +kernel)) ggX4_readItem_X4_nextCode
set_option maxRecDepth 20000 in
theorem ggX4_readItem_X4_readNode : GoodIn wsX4_readItem wsX4_readNode := goodIn_r _ [15, 16, 1, 17, 18, 19, 20, 21, 22, 23, 24, 25, 26, 27, 9, 10, 11, 28, 29, 30, 31, 32, 33, 34, 35, 36, 37, 5, 38, 39, 40, 41, 42, 43, 2, 3, 4, 6, 7, 8, 44, 45, 46, 47, 48, 49, 50, 51, 52, 53, 54, 55, 56, 57, 58, 59, 89, 90, 91, 92, 93, 94, 95, 96, 97, 98, 99, 100, 101, 102] (by decide +kernel) (by decide +kernel)
set_option maxRecDepth 20000 in
theorem gX4_readItem_X4_readNode : GoodIn wsX4_readItem (wsV RX4 55 RX4 yX4_readNode wsX4_readNode) := goodIn_app (goodIn_of _ (by decide +kernel)) ggX4_readItem_X4_readNode
set_option maxRecDepth 20000 in
theorem ggX4_readItem_X4_readSensor : GoodIn wsX4_readItem wsX4_readSensor := goodIn_r _ [63, 16, 1, 17, 18, 19, 20, 21, 22, 23, 24, 25, 26, 27, 9, 10, 11, 28, 29, 30, 31, 32, 33, 34, 35, 36, 37, 5, 38, 39, 40, 41, 42, 43, 2, 3, 4, 6, 7, 8, 44, 45, 46, 47, 48, 49, 50, 51, 52, 53, 64, 65, 66, 67, 68, 58, 59, 89, 90, 91, 92, 93, 94, 95, 96, 97, 98, 99, 100, 101, 102] (by decide +kernel) (by decide +kernel)
set_option maxRecDepth 20000 in
theorem gX4_readItem_X4_readSensor : GoodIn wsX4_readItem (wsV RX4 58 RX4 yX4_readSensor wsX4_readSensor) := goodIn_app (goodIn_of _ (by decide +kernel)) ggX4_readItem_X4_readSensor
set_option maxRecDepth 20000 in
theorem ggX4_readItem_X4_isDigit : GoodIn wsX4_readItem wsX4_isDigit := goodIn_r _ [51] (by decide +kernel) (by decide +kernel)
set_option maxRecDepth 20000 in
theorem gX4_readItem_X4_isDigit : GoodIn wsX4_readItem (va_wsS RX4 61 yX4_isDigit wsX4_isDigit) := goodIn_app (goodIn_of _ (by decide +kernel)) ggX4_readItem_X4_isDigit
set_option maxRecDepth 20000 in
theorem ggX4_readItem_X4_readLink : GoodIn wsX4_readItem wsX4_readLink := goodIn_r _ [72, 16, 1, 48, 17, 18, 19, 20, 21, 22, 23, 24, 25, 26, 27, 9, 10, 11, 28, 29, 30, 31, 32, 33, 34, 35, 36, 37, 5, 38, 39, 44, 45, 46, 47, 7, 8, 2, 3, 4, 6, 49, 50, 51, 52, 53, 40, 41, 42, 43, 73, 74, 75, 76, 77, 78, 79, 80, 81, 82, 83, 84, 85, 86, 87, 88, 58, 59, 89, 90, 91, 92, 93, 94, 95, 96, 97, 98, 99, 100, 101, 102] (by decide +kernel) (by decide +kernel)
set_option maxRecDepth 20000 in
theorem gX4_readItem_X4_readLink : GoodIn wsX4_readItem (wsV RX4 64 RX4 yX4_readLink wsX4_readLink) := goodIn_app (goodIn_of _ (by decide +kernel)) ggX4_readItem_X4_readLink
set_option maxRecDepth 20000 in
theorem ggX4_readItem_X4_refuse : GoodIn wsX4_readItem wsX4_refuse := goodIn_r _ [38, 39, 89, 90, 91, 92, 93, 94, 95] (by decide +kernel) (by decide +kernel)
set_option maxRecDepth 20000 in
theorem gX4_readItem_X4_refuse : GoodIn wsX4_readItem (wsV RX4 52 RX4 yX4_refuse wsX4_refuse) := goodIn_app (goodIn_of _ (by decide +kernel)) ggX4_readItem_X4_refuse
theorem dX4_readItem_0 : decode cX4_readItem 0 = .ok (.aload_n 0, 1) := by decide +kernel
theorem dX4_readItem_1 : decode cX4_readItem 1 = .ok (.invokevirtual 44, 3) := by decide +kernel
theorem dX4_readItem_4 : decode cX4_readItem 4 = .ok (.istore_n 1, 1) := by decide +kernel
theorem dX4_readItem_5 : decode cX4_readItem 5 = .ok (.iload_n 1, 1) := by decide +kernel
theorem dX4_readItem_6 : decode cX4_readItem 6 = .ok (.bipush 110, 2) := by decide +kernel
theorem dX4_readItem_8 : decode cX4_readItem 8 = .ok (.if_icmp .ne 8, 3) := by decide +kernel
theorem dX4_readItem_11 : decode cX4_readItem 11 = .ok (.aload_n 0, 1) := by decide +kernel
theorem dX4_readItem_12 : decode cX4_readItem 12 = .ok (.invokevirtual 55, 3) := by decide +kernel
theorem dX4_readItem_15 : decode cX4_readItem 15 = .ok (.ireturn, 1) := by decide +kernel
theorem dX4_readItem_16 : decode cX4_readItem 16 = .ok (.iload_n 1, 1) := by decide +kernel
theorem dX4_readItem_17 : decode cX4_readItem 17 = .ok (.bipush 115, 2) := by decide +kernel
theorem dX4_readItem_19 : decode cX4_readItem 19 = .ok (.if_icmp .ne 8, 3) := by decide +kernel
theorem dX4_readItem_22 : decode cX4_readItem 22 = .ok (.aload_n 0, 1) := by decide +kernel
theorem dX4_readItem_23 : decode cX4_readItem 23 = .ok (.invokevirtual 58, 3) := by decide +kernel
theorem dX4_readItem_26 : decode cX4_readItem 26 = .ok (.ireturn, 1) := by decide +kernel
theorem dX4_readItem_27 : decode cX4_readItem 27 = .ok (.iload_n 1, 1) := by decide +kernel
theorem dX4_readItem_28 : decode cX4_readItem 28 = .ok (.invokestatic 61, 3) := by decide +kernel
theorem dX4_readItem_31 : decode cX4_readItem 31 = .ok (.ifCond .eq 10, 3) := by decide +kernel
theorem dX4_readItem_34 : decode cX4_readItem 34 = .ok (.aload_n 0, 1) := by decide +kernel
theorem dX4_readItem_35 : decode cX4_readItem 35 = .ok (.invokevirtual 64, 3) := by decide +kernel
theorem dX4_readItem_38 : decode cX4_readItem 38 = .ok (.goto 11, 3) := by decide +kernel
theorem dX4_readItem_41 : decode cX4_readItem 41 = .ok (.aload_n 0, 1) := by decide +kernel
theorem dX4_readItem_42 : decode cX4_readItem 42 = .ok (.aload_n 0, 1) := by decide +kernel
theorem dX4_readItem_43 : decode cX4_readItem 43 = .ok (.getfield 34, 3) := by decide +kernel
theorem dX4_readItem_46 : decode cX4_readItem 46 = .ok (.invokevirtual 52, 3) := by decide +kernel
theorem dX4_readItem_49 : decode cX4_readItem 49 = .ok (.ireturn, 1) := by decide +kernel
set_option maxRecDepth 20000 in
theorem ggX4_readNode_X1_number : GoodIn wsX4_readNode wsX1_number := goodIn_r _ [7, 8, 9, 10, 11, 6, 12, 13, 14, 15, 16, 17, 18, 19, 20, 21, 22, 23, 63, 64, 65, 66, 67, 68, 69] (by decide +kernel) (by decide +kernel)
set_option maxRecDepth 20000 in
theorem gX4_readNode_X1_number : GoodIn wsX4_readNode (wsV RX4 67 RX1 yX1_number wsX1_number) := goodIn_app (goodIn_of _ (by decide +kernel)) ggX4_readNode_X1_number
set_option maxRecDepth 20000 in
theorem ggX4_readNode_X4_refuse : GoodIn wsX4_readNode wsX4_refuse := goodIn_r _ [28, 29, 56, 57, 58, 59, 60, 61, 62] (by decide +kernel) (by decide +kernel)
set_option maxRecDepth 20000 in
theorem gX4_readNode_X4_refuse : GoodIn wsX4_readNode (wsV RX4 52 RX4 yX4_refuse wsX4_refuse) := goodIn_app (goodIn_of _ (by decide +kernel)) ggX4_readNode_X4_refuse
set_option maxRecDepth 20000 in
theorem ggX4_readNode_X4_readSign : GoodIn wsX4_readNode wsX4_readSign := goodIn_r _ [33, 2, 34, 35, 36, 27, 37, 38, 39, 14, 15, 16, 24, 25, 26, 28, 29, 56, 57, 58, 59, 60, 61, 62] (by decide +kernel) (by decide +kernel)
set_option maxRecDepth 20000 in
theorem gX4_readNode_X4_readSign : GoodIn wsX4_readNode (wsV RX4 48 RX4 yX4_readSign wsX4_readSign) := goodIn_app (goodIn_of _ (by decide +kernel)) ggX4_readNode_X4_readSign
set_option maxRecDepth 20000 in
theorem ggX4_readNode_X4_readNumber : GoodIn wsX4_readNode wsX4_readNumber := goodIn_r _ [43, 2, 44, 38, 39, 34, 35, 36, 27, 37, 14, 15, 16, 45, 46, 47, 48, 49, 24, 25, 26, 28, 29, 56, 57, 58, 59, 60, 61, 62] (by decide +kernel) (by decide +kernel)
set_option maxRecDepth 20000 in
theorem gX4_readNode_X4_readNumber : GoodIn wsX4_readNode (wsV RX4 71 RX4 yX4_readNumber wsX4_readNumber) := goodIn_app (goodIn_of _ (by decide +kernel)) ggX4_readNode_X4_readNumber
set_option maxRecDepth 20000 in
theorem ggX4_readNode_X1_appendNode : GoodIn wsX4_readNode wsX1_appendNode := goodIn_r _ [53, 8, 13, 14, 15, 16, 54, 55, 63, 64, 65, 66, 67, 68, 69] (by decide +kernel) (by decide +kernel)
set_option maxRecDepth 20000 in
theorem gX4_readNode_X1_appendNode : GoodIn wsX4_readNode (wsV RX4 75 RX1 yX1_appendNode wsX1_appendNode) := goodIn_app (goodIn_of _ (by decide +kernel)) ggX4_readNode_X1_appendNode
theorem dX4_readNode_0 : decode cX4_readNode 0 = .ok (.aload_n 0, 1) := by decide +kernel
theorem dX4_readNode_1 : decode cX4_readNode 1 = .ok (.getfield 12, 3) := by decide +kernel
theorem dX4_readNode_4 : decode cX4_readNode 4 = .ok (.iconst 0, 1) := by decide +kernel
theorem dX4_readNode_5 : decode cX4_readNode 5 = .ok (.invokevirtual 67, 3) := by decide +kernel
theorem dX4_readNode_8 : decode cX4_readNode 8 = .ok (.bipush 10, 2) := by decide +kernel
theorem dX4_readNode_10 : decode cX4_readNode 10 = .ok (.if_icmp .lt 12, 3) := by decide +kernel
theorem dX4_readNode_13 : decode cX4_readNode 13 = .ok (.aload_n 0, 1) := by decide +kernel
theorem dX4_readNode_14 : decode cX4_readNode 14 = .ok (.aload_n 0, 1) := by decide +kernel
theorem dX4_readNode_15 : decode cX4_readNode 15 = .ok (.getfield 34, 3) := by decide +kernel
theorem dX4_readNode_18 : decode cX4_readNode 18 = .ok (.invokevirtual 52, 3) := by decide +kernel
theorem dX4_readNode_21 : decode cX4_readNode 21 = .ok (.ireturn, 1) := by decide +kernel
theorem dX4_readNode_22 : decode cX4_readNode 22 = .ok (.aload_n 0, 1) := by decide +kernel
theorem dX4_readNode_23 : decode cX4_readNode 23 = .ok (.bipush 110, 2) := by decide +kernel
theorem dX4_readNode_25 : decode cX4_readNode 25 = .ok (.invokevirtual 48, 3) := by decide +kernel
theorem dX4_readNode_28 : decode cX4_readNode 28 = .ok (.ifCond .eq 14, 3) := by decide +kernel
theorem dX4_readNode_31 : decode cX4_readNode 31 = .ok (.aload_n 0, 1) := by decide +kernel
theorem dX4_readNode_32 : decode cX4_readNode 32 = .ok (.iconst 1, 1) := by decide +kernel
theorem dX4_readNode_33 : decode cX4_readNode 33 = .ok (.sipush 10000, 3) := by decide +kernel
theorem dX4_readNode_36 : decode cX4_readNode 36 = .ok (.invokevirtual 71, 3) := by decide +kernel
theorem dX4_readNode_39 : decode cX4_readNode 39 = .ok (.goto 4, 3) := by decide +kernel
theorem dX4_readNode_42 : decode cX4_readNode 42 = .ok (.iconst (-1), 1) := by decide +kernel
theorem dX4_readNode_43 : decode cX4_readNode 43 = .ok (.istore_n 1, 1) := by decide +kernel
theorem dX4_readNode_44 : decode cX4_readNode 44 = .ok (.iload_n 1, 1) := by decide +kernel
theorem dX4_readNode_45 : decode cX4_readNode 45 = .ok (.iconst (-1), 1) := by decide +kernel
theorem dX4_readNode_46 : decode cX4_readNode 46 = .ok (.if_icmp .ne 5, 3) := by decide +kernel
theorem dX4_readNode_49 : decode cX4_readNode 49 = .ok (.iconst 0, 1) := by decide +kernel
theorem dX4_readNode_50 : decode cX4_readNode 50 = .ok (.ireturn, 1) := by decide +kernel
theorem dX4_readNode_51 : decode cX4_readNode 51 = .ok (.aload_n 0, 1) := by decide +kernel
theorem dX4_readNode_52 : decode cX4_readNode 52 = .ok (.getfield 12, 3) := by decide +kernel
theorem dX4_readNode_55 : decode cX4_readNode 55 = .ok (.iload_n 1, 1) := by decide +kernel
theorem dX4_readNode_56 : decode cX4_readNode 56 = .ok (.invokevirtual 75, 3) := by decide +kernel
theorem dX4_readNode_59 : decode cX4_readNode 59 = .ok (.pop, 1) := by decide +kernel
theorem dX4_readNode_60 : decode cX4_readNode 60 = .ok (.iconst 1, 1) := by decide +kernel
theorem dX4_readNode_61 : decode cX4_readNode 61 = .ok (.ireturn, 1) := by decide +kernel
set_option maxRecDepth 20000 in
theorem ggX4_readLink_X1_number : GoodIn wsX4_readLink wsX1_number := goodIn_r _ [8, 9, 10, 11, 12, 7, 13, 14, 15, 16, 17, 18, 19, 20, 21, 22, 23, 24, 75, 76, 77, 78, 79, 80, 81] (by decide +kernel) (by decide +kernel)
set_option maxRecDepth 20000 in
theorem gX4_readLink_X1_number : GoodIn wsX4_readLink (wsV RX4 67 RX1 yX1_number wsX1_number) := goodIn_app (goodIn_of _ (by decide +kernel)) ggX4_readLink_X1_number
set_option maxRecDepth 20000 in
theorem ggX4_readLink_X4_refuse : GoodIn wsX4_readLink wsX4_refuse := goodIn_r _ [29, 30, 68, 69, 70, 71, 72, 73, 74] (by decide +kernel) (by decide +kernel)
set_option maxRecDepth 20000 in
theorem gX4_readLink_X4_refuse : GoodIn wsX4_readLink (wsV RX4 52 RX4 yX4_refuse wsX4_refuse) := goodIn_app (goodIn_of _ (by decide +kernel)) ggX4_readLink_X4_refuse
set_option maxRecDepth 20000 in
theorem ggX4_readLink_X4_readNumber : GoodIn wsX4_readLink wsX4_readNumber := goodIn_r _ [34, 2, 3, 35, 36, 37, 38, 39, 28, 40, 15, 16, 17, 41, 42, 43, 44, 45, 25, 26, 27, 29, 30, 68, 69, 70, 71, 72, 73, 74] (by decide +kernel) (by decide +kernel)
set_option maxRecDepth 20000 in
theorem gX4_readLink_X4_readNumber : GoodIn wsX4_readLink (wsV RX4 71 RX4 yX4_readNumber wsX4_readNumber) := goodIn_app (goodIn_of _ (by decide +kernel)) ggX4_readLink_X4_readNumber
set_option maxRecDepth 20000 in
theorem ggX4_readLink_X4_readSign : GoodIn wsX4_readLink wsX4_readSign := goodIn_r _ [49, 2, 37, 38, 39, 28, 40, 35, 36, 15, 16, 17, 25, 26, 27, 29, 30, 68, 69, 70, 71, 72, 73, 74] (by decide +kernel) (by decide +kernel)
set_option maxRecDepth 20000 in
theorem gX4_readLink_X4_readSign : GoodIn wsX4_readLink (wsV RX4 48 RX4 yX4_readSign wsX4_readSign) := goodIn_app (goodIn_of _ (by decide +kernel)) ggX4_readLink_X4_readSign
set_option maxRecDepth 20000 in
theorem ggX4_readLink_X1_areLinked : GoodIn wsX4_readLink wsX1_areLinked := goodIn_r _ [53, 9, 15, 16, 17, 54, 55, 56, 7, 57, 58, 59, 60, 61, 75, 76, 77, 78, 79, 80, 81] (by decide +kernel) (by decide +kernel)
set_option maxRecDepth 20000 in
theorem gX4_readLink_X1_areLinked : GoodIn wsX4_readLink (wsV RX4 78 RX1 yX1_areLinked wsX1_areLinked) := goodIn_app (goodIn_of _ (by decide +kernel)) ggX4_readLink_X1_areLinked
set_option maxRecDepth 20000 in
theorem ggX4_readLink_X1_appendLink : GoodIn wsX4_readLink wsX1_appendLink := goodIn_r _ [65, 9, 58, 15, 16, 17, 66, 67, 75, 76, 77, 78, 79, 80, 81] (by decide +kernel) (by decide +kernel)
set_option maxRecDepth 20000 in
theorem gX4_readLink_X1_appendLink : GoodIn wsX4_readLink (wsV RX4 85 RX1 yX1_appendLink wsX1_appendLink) := goodIn_app (goodIn_of _ (by decide +kernel)) ggX4_readLink_X1_appendLink
theorem dX4_readLink_0 : decode cX4_readLink 0 = .ok (.aload_n 0, 1) := by decide +kernel
theorem dX4_readLink_1 : decode cX4_readLink 1 = .ok (.getfield 12, 3) := by decide +kernel
theorem dX4_readLink_4 : decode cX4_readLink 4 = .ok (.iconst 1, 1) := by decide +kernel
theorem dX4_readLink_5 : decode cX4_readLink 5 = .ok (.invokevirtual 67, 3) := by decide +kernel
theorem dX4_readLink_8 : decode cX4_readLink 8 = .ok (.bipush 20, 2) := by decide +kernel
theorem dX4_readLink_10 : decode cX4_readLink 10 = .ok (.if_icmp .lt 12, 3) := by decide +kernel
theorem dX4_readLink_13 : decode cX4_readLink 13 = .ok (.aload_n 0, 1) := by decide +kernel
theorem dX4_readLink_14 : decode cX4_readLink 14 = .ok (.aload_n 0, 1) := by decide +kernel
theorem dX4_readLink_15 : decode cX4_readLink 15 = .ok (.getfield 34, 3) := by decide +kernel
theorem dX4_readLink_18 : decode cX4_readLink 18 = .ok (.invokevirtual 52, 3) := by decide +kernel
theorem dX4_readLink_21 : decode cX4_readLink 21 = .ok (.ireturn, 1) := by decide +kernel
theorem dX4_readLink_22 : decode cX4_readLink 22 = .ok (.aload_n 0, 1) := by decide +kernel
theorem dX4_readLink_23 : decode cX4_readLink 23 = .ok (.getfield 12, 3) := by decide +kernel
theorem dX4_readLink_26 : decode cX4_readLink 26 = .ok (.iconst 0, 1) := by decide +kernel
theorem dX4_readLink_27 : decode cX4_readLink 27 = .ok (.invokevirtual 67, 3) := by decide +kernel
theorem dX4_readLink_30 : decode cX4_readLink 30 = .ok (.iconst 1, 1) := by decide +kernel
theorem dX4_readLink_31 : decode cX4_readLink 31 = .ok (.isub, 1) := by decide +kernel
theorem dX4_readLink_32 : decode cX4_readLink 32 = .ok (.istore_n 1, 1) := by decide +kernel
theorem dX4_readLink_33 : decode cX4_readLink 33 = .ok (.aload_n 0, 1) := by decide +kernel
theorem dX4_readLink_34 : decode cX4_readLink 34 = .ok (.iconst 0, 1) := by decide +kernel
theorem dX4_readLink_35 : decode cX4_readLink 35 = .ok (.iload_n 1, 1) := by decide +kernel
theorem dX4_readLink_36 : decode cX4_readLink 36 = .ok (.invokevirtual 71, 3) := by decide +kernel
theorem dX4_readLink_39 : decode cX4_readLink 39 = .ok (.istore_n 2, 1) := by decide +kernel
theorem dX4_readLink_40 : decode cX4_readLink 40 = .ok (.iload_n 2, 1) := by decide +kernel
theorem dX4_readLink_41 : decode cX4_readLink 41 = .ok (.iconst (-1), 1) := by decide +kernel
theorem dX4_readLink_42 : decode cX4_readLink 42 = .ok (.if_icmp .eq 12, 3) := by decide +kernel
theorem dX4_readLink_45 : decode cX4_readLink 45 = .ok (.aload_n 0, 1) := by decide +kernel
theorem dX4_readLink_46 : decode cX4_readLink 46 = .ok (.bipush 45, 2) := by decide +kernel
theorem dX4_readLink_48 : decode cX4_readLink 48 = .ok (.invokevirtual 48, 3) := by decide +kernel
theorem dX4_readLink_51 : decode cX4_readLink 51 = .ok (.ifCond .ne 5, 3) := by decide +kernel
theorem dX4_readLink_54 : decode cX4_readLink 54 = .ok (.iconst 0, 1) := by decide +kernel
theorem dX4_readLink_55 : decode cX4_readLink 55 = .ok (.ireturn, 1) := by decide +kernel
theorem dX4_readLink_56 : decode cX4_readLink 56 = .ok (.aload_n 0, 1) := by decide +kernel
theorem dX4_readLink_57 : decode cX4_readLink 57 = .ok (.iconst 0, 1) := by decide +kernel
theorem dX4_readLink_58 : decode cX4_readLink 58 = .ok (.iload_n 1, 1) := by decide +kernel
theorem dX4_readLink_59 : decode cX4_readLink 59 = .ok (.invokevirtual 71, 3) := by decide +kernel
theorem dX4_readLink_62 : decode cX4_readLink 62 = .ok (.istore_n 3, 1) := by decide +kernel
theorem dX4_readLink_63 : decode cX4_readLink 63 = .ok (.iload_n 3, 1) := by decide +kernel
theorem dX4_readLink_64 : decode cX4_readLink 64 = .ok (.iconst (-1), 1) := by decide +kernel
theorem dX4_readLink_65 : decode cX4_readLink 65 = .ok (.if_icmp .ne 5, 3) := by decide +kernel
theorem dX4_readLink_68 : decode cX4_readLink 68 = .ok (.iconst 0, 1) := by decide +kernel
theorem dX4_readLink_69 : decode cX4_readLink 69 = .ok (.ireturn, 1) := by decide +kernel
theorem dX4_readLink_70 : decode cX4_readLink 70 = .ok (.iload_n 2, 1) := by decide +kernel
theorem dX4_readLink_71 : decode cX4_readLink 71 = .ok (.iload_n 3, 1) := by decide +kernel
theorem dX4_readLink_72 : decode cX4_readLink 72 = .ok (.if_icmp .eq 15, 3) := by decide +kernel
theorem dX4_readLink_75 : decode cX4_readLink 75 = .ok (.aload_n 0, 1) := by decide +kernel
theorem dX4_readLink_76 : decode cX4_readLink 76 = .ok (.getfield 12, 3) := by decide +kernel
theorem dX4_readLink_79 : decode cX4_readLink 79 = .ok (.iload_n 2, 1) := by decide +kernel
theorem dX4_readLink_80 : decode cX4_readLink 80 = .ok (.iload_n 3, 1) := by decide +kernel
theorem dX4_readLink_81 : decode cX4_readLink 81 = .ok (.invokevirtual 78, 3) := by decide +kernel
theorem dX4_readLink_84 : decode cX4_readLink 84 = .ok (.ifCond .eq 12, 3) := by decide +kernel
theorem dX4_readLink_87 : decode cX4_readLink 87 = .ok (.aload_n 0, 1) := by decide +kernel
theorem dX4_readLink_88 : decode cX4_readLink 88 = .ok (.aload_n 0, 1) := by decide +kernel
theorem dX4_readLink_89 : decode cX4_readLink 89 = .ok (.getfield 82, 3) := by decide +kernel
theorem dX4_readLink_92 : decode cX4_readLink 92 = .ok (.invokevirtual 52, 3) := by decide +kernel
theorem dX4_readLink_95 : decode cX4_readLink 95 = .ok (.ireturn, 1) := by decide +kernel
theorem dX4_readLink_96 : decode cX4_readLink 96 = .ok (.aload_n 0, 1) := by decide +kernel
theorem dX4_readLink_97 : decode cX4_readLink 97 = .ok (.bipush 58, 2) := by decide +kernel
theorem dX4_readLink_99 : decode cX4_readLink 99 = .ok (.invokevirtual 48, 3) := by decide +kernel
theorem dX4_readLink_102 : decode cX4_readLink 102 = .ok (.ifCond .eq 13, 3) := by decide +kernel
theorem dX4_readLink_105 : decode cX4_readLink 105 = .ok (.aload_n 0, 1) := by decide +kernel
theorem dX4_readLink_106 : decode cX4_readLink 106 = .ok (.iconst 1, 1) := by decide +kernel
theorem dX4_readLink_107 : decode cX4_readLink 107 = .ok (.bipush 20, 2) := by decide +kernel
theorem dX4_readLink_109 : decode cX4_readLink 109 = .ok (.invokevirtual 71, 3) := by decide +kernel
theorem dX4_readLink_112 : decode cX4_readLink 112 = .ok (.goto 4, 3) := by decide +kernel
theorem dX4_readLink_115 : decode cX4_readLink 115 = .ok (.iconst (-1), 1) := by decide +kernel
theorem dX4_readLink_116 : decode cX4_readLink 116 = .ok (.istore 4, 2) := by decide +kernel
theorem dX4_readLink_118 : decode cX4_readLink 118 = .ok (.iload 4, 2) := by decide +kernel
theorem dX4_readLink_120 : decode cX4_readLink 120 = .ok (.iconst (-1), 1) := by decide +kernel
theorem dX4_readLink_121 : decode cX4_readLink 121 = .ok (.if_icmp .ne 5, 3) := by decide +kernel
theorem dX4_readLink_124 : decode cX4_readLink 124 = .ok (.iconst 0, 1) := by decide +kernel
theorem dX4_readLink_125 : decode cX4_readLink 125 = .ok (.ireturn, 1) := by decide +kernel
theorem dX4_readLink_126 : decode cX4_readLink 126 = .ok (.aload_n 0, 1) := by decide +kernel
theorem dX4_readLink_127 : decode cX4_readLink 127 = .ok (.getfield 12, 3) := by decide +kernel
theorem dX4_readLink_130 : decode cX4_readLink 130 = .ok (.iload_n 2, 1) := by decide +kernel
theorem dX4_readLink_131 : decode cX4_readLink 131 = .ok (.iload_n 3, 1) := by decide +kernel
theorem dX4_readLink_132 : decode cX4_readLink 132 = .ok (.iload 4, 2) := by decide +kernel
theorem dX4_readLink_134 : decode cX4_readLink 134 = .ok (.invokevirtual 85, 3) := by decide +kernel
theorem dX4_readLink_137 : decode cX4_readLink 137 = .ok (.pop, 1) := by decide +kernel
theorem dX4_readLink_138 : decode cX4_readLink 138 = .ok (.iconst 1, 1) := by decide +kernel
theorem dX4_readLink_139 : decode cX4_readLink 139 = .ok (.ireturn, 1) := by decide +kernel
set_option maxRecDepth 20000 in
theorem ggX4_readSensor_X1_number : GoodIn wsX4_readSensor wsX1_number := goodIn_r _ [7, 8, 9, 10, 11, 6, 12, 13, 14, 15, 16, 17, 18, 19, 20, 21, 22, 23, 64, 65, 66, 67, 68, 69, 70] (by decide +kernel) (by decide +kernel)
set_option maxRecDepth 20000 in
theorem gX4_readSensor_X1_number : GoodIn wsX4_readSensor (wsV RX4 67 RX1 yX1_number wsX1_number) := goodIn_app (goodIn_of _ (by decide +kernel)) ggX4_readSensor_X1_number
set_option maxRecDepth 20000 in
theorem ggX4_readSensor_X4_refuse : GoodIn wsX4_readSensor wsX4_refuse := goodIn_r _ [28, 29, 57, 58, 59, 60, 61, 62, 63] (by decide +kernel) (by decide +kernel)
set_option maxRecDepth 20000 in
theorem gX4_readSensor_X4_refuse : GoodIn wsX4_readSensor (wsV RX4 52 RX4 yX4_refuse wsX4_refuse) := goodIn_app (goodIn_of _ (by decide +kernel)) ggX4_readSensor_X4_refuse
set_option maxRecDepth 20000 in
theorem ggX4_readSensor_X4_readSign : GoodIn wsX4_readSensor wsX4_readSign := goodIn_r _ [33, 2, 34, 35, 36, 27, 37, 38, 39, 14, 15, 16, 24, 25, 26, 28, 29, 57, 58, 59, 60, 61, 62, 63] (by decide +kernel) (by decide +kernel)
set_option maxRecDepth 20000 in
theorem gX4_readSensor_X4_readSign : GoodIn wsX4_readSensor (wsV RX4 48 RX4 yX4_readSign wsX4_readSign) := goodIn_app (goodIn_of _ (by decide +kernel)) ggX4_readSensor_X4_readSign
set_option maxRecDepth 20000 in
theorem ggX4_readSensor_X4_readNumber : GoodIn wsX4_readSensor wsX4_readNumber := goodIn_r _ [43, 2, 44, 38, 39, 34, 35, 36, 27, 37, 14, 15, 16, 45, 46, 47, 48, 49, 24, 25, 26, 28, 29, 57, 58, 59, 60, 61, 62, 63] (by decide +kernel) (by decide +kernel)
set_option maxRecDepth 20000 in
theorem gX4_readSensor_X4_readNumber : GoodIn wsX4_readSensor (wsV RX4 71 RX4 yX4_readNumber wsX4_readNumber) := goodIn_app (goodIn_of _ (by decide +kernel)) ggX4_readSensor_X4_readNumber
set_option maxRecDepth 20000 in
theorem ggX4_readSensor_X4_nextCode : GoodIn wsX4_readSensor wsX4_nextCode := goodIn_r _ [37, 2, 38, 39, 14, 15, 16, 57, 58, 59, 60, 61, 62, 63] (by decide +kernel) (by decide +kernel)
set_option maxRecDepth 20000 in
theorem gX4_readSensor_X4_nextCode : GoodIn wsX4_readSensor (wsV RX4 44 RX4 yX4_nextCode wsX4_nextCode) := goodIn_app (goodIn_of _ (by decide +kernel)) ggX4_readSensor_X4_nextCode
set_option maxRecDepth 20000 in
theorem ggX4_readSensor_X1_appendSensor : GoodIn wsX4_readSensor wsX1_appendSensor := goodIn_r _ [53, 8, 54, 14, 15, 16, 55, 56, 64, 65, 66, 67, 68, 69, 70] (by decide +kernel) (by decide +kernel)
set_option maxRecDepth 20000 in
theorem gX4_readSensor_X1_appendSensor : GoodIn wsX4_readSensor (wsV RX4 89 RX1 yX1_appendSensor wsX1_appendSensor) := goodIn_app (goodIn_of _ (by decide +kernel)) ggX4_readSensor_X1_appendSensor
theorem dX4_readSensor_0 : decode cX4_readSensor 0 = .ok (.aload_n 0, 1) := by decide +kernel
theorem dX4_readSensor_1 : decode cX4_readSensor 1 = .ok (.getfield 12, 3) := by decide +kernel
theorem dX4_readSensor_4 : decode cX4_readSensor 4 = .ok (.iconst 2, 1) := by decide +kernel
theorem dX4_readSensor_5 : decode cX4_readSensor 5 = .ok (.invokevirtual 67, 3) := by decide +kernel
theorem dX4_readSensor_8 : decode cX4_readSensor 8 = .ok (.bipush 6, 2) := by decide +kernel
theorem dX4_readSensor_10 : decode cX4_readSensor 10 = .ok (.if_icmp .lt 12, 3) := by decide +kernel
theorem dX4_readSensor_13 : decode cX4_readSensor 13 = .ok (.aload_n 0, 1) := by decide +kernel
theorem dX4_readSensor_14 : decode cX4_readSensor 14 = .ok (.aload_n 0, 1) := by decide +kernel
theorem dX4_readSensor_15 : decode cX4_readSensor 15 = .ok (.getfield 34, 3) := by decide +kernel
theorem dX4_readSensor_18 : decode cX4_readSensor 18 = .ok (.invokevirtual 52, 3) := by decide +kernel
theorem dX4_readSensor_21 : decode cX4_readSensor 21 = .ok (.ireturn, 1) := by decide +kernel
theorem dX4_readSensor_22 : decode cX4_readSensor 22 = .ok (.aload_n 0, 1) := by decide +kernel
theorem dX4_readSensor_23 : decode cX4_readSensor 23 = .ok (.bipush 115, 2) := by decide +kernel
theorem dX4_readSensor_25 : decode cX4_readSensor 25 = .ok (.invokevirtual 48, 3) := by decide +kernel
theorem dX4_readSensor_28 : decode cX4_readSensor 28 = .ok (.ifCond .eq 21, 3) := by decide +kernel
theorem dX4_readSensor_31 : decode cX4_readSensor 31 = .ok (.aload_n 0, 1) := by decide +kernel
theorem dX4_readSensor_32 : decode cX4_readSensor 32 = .ok (.iconst 0, 1) := by decide +kernel
theorem dX4_readSensor_33 : decode cX4_readSensor 33 = .ok (.aload_n 0, 1) := by decide +kernel
theorem dX4_readSensor_34 : decode cX4_readSensor 34 = .ok (.getfield 12, 3) := by decide +kernel
theorem dX4_readSensor_37 : decode cX4_readSensor 37 = .ok (.iconst 0, 1) := by decide +kernel
theorem dX4_readSensor_38 : decode cX4_readSensor 38 = .ok (.invokevirtual 67, 3) := by decide +kernel
theorem dX4_readSensor_41 : decode cX4_readSensor 41 = .ok (.iconst 1, 1) := by decide +kernel
theorem dX4_readSensor_42 : decode cX4_readSensor 42 = .ok (.isub, 1) := by decide +kernel
theorem dX4_readSensor_43 : decode cX4_readSensor 43 = .ok (.invokevirtual 71, 3) := by decide +kernel
theorem dX4_readSensor_46 : decode cX4_readSensor 46 = .ok (.goto 4, 3) := by decide +kernel
theorem dX4_readSensor_49 : decode cX4_readSensor 49 = .ok (.iconst (-1), 1) := by decide +kernel
theorem dX4_readSensor_50 : decode cX4_readSensor 50 = .ok (.istore_n 1, 1) := by decide +kernel
theorem dX4_readSensor_51 : decode cX4_readSensor 51 = .ok (.iload_n 1, 1) := by decide +kernel
theorem dX4_readSensor_52 : decode cX4_readSensor 52 = .ok (.iconst (-1), 1) := by decide +kernel
theorem dX4_readSensor_53 : decode cX4_readSensor 53 = .ok (.if_icmp .eq 12, 3) := by decide +kernel
theorem dX4_readSensor_56 : decode cX4_readSensor 56 = .ok (.aload_n 0, 1) := by decide +kernel
theorem dX4_readSensor_57 : decode cX4_readSensor 57 = .ok (.bipush 44, 2) := by decide +kernel
theorem dX4_readSensor_59 : decode cX4_readSensor 59 = .ok (.invokevirtual 48, 3) := by decide +kernel
theorem dX4_readSensor_62 : decode cX4_readSensor 62 = .ok (.ifCond .ne 5, 3) := by decide +kernel
theorem dX4_readSensor_65 : decode cX4_readSensor 65 = .ok (.iconst 0, 1) := by decide +kernel
theorem dX4_readSensor_66 : decode cX4_readSensor 66 = .ok (.ireturn, 1) := by decide +kernel
theorem dX4_readSensor_67 : decode cX4_readSensor 67 = .ok (.aload_n 0, 1) := by decide +kernel
theorem dX4_readSensor_68 : decode cX4_readSensor 68 = .ok (.iconst 0, 1) := by decide +kernel
theorem dX4_readSensor_69 : decode cX4_readSensor 69 = .ok (.bipush 7, 2) := by decide +kernel
theorem dX4_readSensor_71 : decode cX4_readSensor 71 = .ok (.invokevirtual 71, 3) := by decide +kernel
theorem dX4_readSensor_74 : decode cX4_readSensor 74 = .ok (.istore_n 2, 1) := by decide +kernel
theorem dX4_readSensor_75 : decode cX4_readSensor 75 = .ok (.iload_n 2, 1) := by decide +kernel
theorem dX4_readSensor_76 : decode cX4_readSensor 76 = .ok (.iconst (-1), 1) := by decide +kernel
theorem dX4_readSensor_77 : decode cX4_readSensor 77 = .ok (.if_icmp .eq 12, 3) := by decide +kernel
theorem dX4_readSensor_80 : decode cX4_readSensor 80 = .ok (.aload_n 0, 1) := by decide +kernel
theorem dX4_readSensor_81 : decode cX4_readSensor 81 = .ok (.bipush 61, 2) := by decide +kernel
theorem dX4_readSensor_83 : decode cX4_readSensor 83 = .ok (.invokevirtual 48, 3) := by decide +kernel
theorem dX4_readSensor_86 : decode cX4_readSensor 86 = .ok (.ifCond .ne 5, 3) := by decide +kernel
theorem dX4_readSensor_89 : decode cX4_readSensor 89 = .ok (.iconst 0, 1) := by decide +kernel
theorem dX4_readSensor_90 : decode cX4_readSensor 90 = .ok (.ireturn, 1) := by decide +kernel
theorem dX4_readSensor_91 : decode cX4_readSensor 91 = .ok (.aload_n 0, 1) := by decide +kernel
theorem dX4_readSensor_92 : decode cX4_readSensor 92 = .ok (.invokevirtual 44, 3) := by decide +kernel
theorem dX4_readSensor_95 : decode cX4_readSensor 95 = .ok (.bipush 45, 2) := by decide +kernel
theorem dX4_readSensor_97 : decode cX4_readSensor 97 = .ok (.if_icmp .ne 16, 3) := by decide +kernel
theorem dX4_readSensor_100 : decode cX4_readSensor 100 = .ok (.aload_n 0, 1) := by decide +kernel
theorem dX4_readSensor_101 : decode cX4_readSensor 101 = .ok (.bipush 45, 2) := by decide +kernel
theorem dX4_readSensor_103 : decode cX4_readSensor 103 = .ok (.invokevirtual 48, 3) := by decide +kernel
theorem dX4_readSensor_106 : decode cX4_readSensor 106 = .ok (.ifCond .eq 7, 3) := by decide +kernel
theorem dX4_readSensor_109 : decode cX4_readSensor 109 = .ok (.iconst 1, 1) := by decide +kernel
theorem dX4_readSensor_110 : decode cX4_readSensor 110 = .ok (.goto 4, 3) := by decide +kernel
theorem dX4_readSensor_113 : decode cX4_readSensor 113 = .ok (.iconst 0, 1) := by decide +kernel
theorem dX4_readSensor_114 : decode cX4_readSensor 114 = .ok (.istore_n 3, 1) := by decide +kernel
theorem dX4_readSensor_115 : decode cX4_readSensor 115 = .ok (.aload_n 0, 1) := by decide +kernel
theorem dX4_readSensor_116 : decode cX4_readSensor 116 = .ok (.iconst 0, 1) := by decide +kernel
theorem dX4_readSensor_117 : decode cX4_readSensor 117 = .ok (.bipush 100, 2) := by decide +kernel
theorem dX4_readSensor_119 : decode cX4_readSensor 119 = .ok (.invokevirtual 71, 3) := by decide +kernel
theorem dX4_readSensor_122 : decode cX4_readSensor 122 = .ok (.istore 4, 2) := by decide +kernel
theorem dX4_readSensor_124 : decode cX4_readSensor 124 = .ok (.iload 4, 2) := by decide +kernel
theorem dX4_readSensor_126 : decode cX4_readSensor 126 = .ok (.iconst (-1), 1) := by decide +kernel
theorem dX4_readSensor_127 : decode cX4_readSensor 127 = .ok (.if_icmp .ne 5, 3) := by decide +kernel
theorem dX4_readSensor_130 : decode cX4_readSensor 130 = .ok (.iconst 0, 1) := by decide +kernel
theorem dX4_readSensor_131 : decode cX4_readSensor 131 = .ok (.ireturn, 1) := by decide +kernel
theorem dX4_readSensor_132 : decode cX4_readSensor 132 = .ok (.aload_n 0, 1) := by decide +kernel
theorem dX4_readSensor_133 : decode cX4_readSensor 133 = .ok (.getfield 12, 3) := by decide +kernel
theorem dX4_readSensor_136 : decode cX4_readSensor 136 = .ok (.iload_n 1, 1) := by decide +kernel
theorem dX4_readSensor_137 : decode cX4_readSensor 137 = .ok (.iload_n 2, 1) := by decide +kernel
theorem dX4_readSensor_138 : decode cX4_readSensor 138 = .ok (.iload_n 3, 1) := by decide +kernel
theorem dX4_readSensor_139 : decode cX4_readSensor 139 = .ok (.ifCond .eq 9, 3) := by decide +kernel
theorem dX4_readSensor_142 : decode cX4_readSensor 142 = .ok (.iload 4, 2) := by decide +kernel
theorem dX4_readSensor_144 : decode cX4_readSensor 144 = .ok (.ineg, 1) := by decide +kernel
theorem dX4_readSensor_145 : decode cX4_readSensor 145 = .ok (.goto 5, 3) := by decide +kernel
theorem dX4_readSensor_148 : decode cX4_readSensor 148 = .ok (.iload 4, 2) := by decide +kernel
theorem dX4_readSensor_150 : decode cX4_readSensor 150 = .ok (.invokevirtual 89, 3) := by decide +kernel
theorem dX4_readSensor_153 : decode cX4_readSensor 153 = .ok (.pop, 1) := by decide +kernel
theorem dX4_readSensor_154 : decode cX4_readSensor 154 = .ok (.iconst 1, 1) := by decide +kernel
theorem dX4_readSensor_155 : decode cX4_readSensor 155 = .ok (.ireturn, 1) := by decide +kernel
set_option maxRecDepth 20000 in
theorem ggX4_readNumber_X4_nextCode : GoodIn wsX4_readNumber wsX4_nextCode := goodIn_r _ [9, 1, 3, 4, 10, 11, 12, 23, 24, 25, 26, 27, 28, 29] (by decide +kernel) (by decide +kernel)
set_option maxRecDepth 20000 in
theorem gX4_readNumber_X4_nextCode : GoodIn wsX4_readNumber (wsV RX4 44 RX4 yX4_nextCode wsX4_nextCode) := goodIn_app (goodIn_of _ (by decide +kernel)) ggX4_readNumber_X4_nextCode
set_option maxRecDepth 20000 in
theorem ggX4_readNumber_X5_at : GoodIn wsX4_readNumber wsX5_at := goodIn_r _ [12] (by decide +kernel) (by decide +kernel)
set_option maxRecDepth 20000 in
theorem gX4_readNumber_X5_at_n92 : GoodIn wsX4_readNumber (wsX5_at) := ggX4_readNumber_X5_at
set_option maxRecDepth 20000 in
theorem ggX4_readNumber_X4_isDigit : GoodIn wsX4_readNumber wsX4_isDigit := goodIn_r _ [15] (by decide +kernel) (by decide +kernel)
set_option maxRecDepth 20000 in
theorem gX4_readNumber_X4_isDigit : GoodIn wsX4_readNumber (va_wsS RX4 61 yX4_isDigit wsX4_isDigit) := goodIn_app (goodIn_of _ (by decide +kernel)) ggX4_readNumber_X4_isDigit
set_option maxRecDepth 20000 in
theorem ggX4_readNumber_X5_isWithin : GoodIn wsX4_readNumber wsX5_isWithin := goodIn_r _ [17] (by decide +kernel) (by decide +kernel)
set_option maxRecDepth 20000 in
theorem gX4_readNumber_X5_isWithin_n96 : GoodIn wsX4_readNumber (wsX5_isWithin) := ggX4_readNumber_X5_isWithin
set_option maxRecDepth 20000 in
theorem ggX4_readNumber_X4_refuse : GoodIn wsX4_readNumber wsX4_refuse := goodIn_r _ [21, 22, 23, 24, 25, 26, 27, 28, 29] (by decide +kernel) (by decide +kernel)
set_option maxRecDepth 20000 in
theorem gX4_readNumber_X4_refuse : GoodIn wsX4_readNumber (wsV RX4 52 RX4 yX4_refuse wsX4_refuse) := goodIn_app (goodIn_of _ (by decide +kernel)) ggX4_readNumber_X4_refuse
theorem dX4_readNumber_0 : decode cX4_readNumber 0 = .ok (.aload_n 0, 1) := by decide +kernel
theorem dX4_readNumber_1 : decode cX4_readNumber 1 = .ok (.invokevirtual 44, 3) := by decide +kernel
theorem dX4_readNumber_4 : decode cX4_readNumber 4 = .ok (.pop, 1) := by decide +kernel
theorem dX4_readNumber_5 : decode cX4_readNumber 5 = .ok (.aload_n 0, 1) := by decide +kernel
theorem dX4_readNumber_6 : decode cX4_readNumber 6 = .ok (.aload_n 0, 1) := by decide +kernel
theorem dX4_readNumber_7 : decode cX4_readNumber 7 = .ok (.getfield 34, 3) := by decide +kernel
theorem dX4_readNumber_10 : decode cX4_readNumber 10 = .ok (.putfield 82, 3) := by decide +kernel
theorem dX4_readNumber_13 : decode cX4_readNumber 13 = .ok (.iconst 0, 1) := by decide +kernel
theorem dX4_readNumber_14 : decode cX4_readNumber 14 = .ok (.istore_n 3, 1) := by decide +kernel
theorem dX4_readNumber_15 : decode cX4_readNumber 15 = .ok (.aload_n 0, 1) := by decide +kernel
theorem dX4_readNumber_16 : decode cX4_readNumber 16 = .ok (.getfield 34, 3) := by decide +kernel
theorem dX4_readNumber_19 : decode cX4_readNumber 19 = .ok (.aload_n 0, 1) := by decide +kernel
theorem dX4_readNumber_20 : decode cX4_readNumber 20 = .ok (.getfield 22, 3) := by decide +kernel
theorem dX4_readNumber_23 : decode cX4_readNumber 23 = .ok (.if_icmp .ge 53, 3) := by decide +kernel
theorem dX4_readNumber_26 : decode cX4_readNumber 26 = .ok (.aload_n 0, 1) := by decide +kernel
theorem dX4_readNumber_27 : decode cX4_readNumber 27 = .ok (.getfield 18, 3) := by decide +kernel
theorem dX4_readNumber_30 : decode cX4_readNumber 30 = .ok (.aload_n 0, 1) := by decide +kernel
theorem dX4_readNumber_31 : decode cX4_readNumber 31 = .ok (.getfield 34, 3) := by decide +kernel
theorem dX4_readNumber_34 : decode cX4_readNumber 34 = .ok (.invokestatic 92, 3) := by decide +kernel
theorem dX4_readNumber_37 : decode cX4_readNumber 37 = .ok (.invokestatic 61, 3) := by decide +kernel
theorem dX4_readNumber_40 : decode cX4_readNumber 40 = .ok (.ifCond .eq 36, 3) := by decide +kernel
theorem dX4_readNumber_43 : decode cX4_readNumber 43 = .ok (.bipush 10, 2) := by decide +kernel
theorem dX4_readNumber_45 : decode cX4_readNumber 45 = .ok (.iload_n 3, 1) := by decide +kernel
theorem dX4_readNumber_46 : decode cX4_readNumber 46 = .ok (.imul, 1) := by decide +kernel
theorem dX4_readNumber_47 : decode cX4_readNumber 47 = .ok (.aload_n 0, 1) := by decide +kernel
theorem dX4_readNumber_48 : decode cX4_readNumber 48 = .ok (.getfield 18, 3) := by decide +kernel
theorem dX4_readNumber_51 : decode cX4_readNumber 51 = .ok (.aload_n 0, 1) := by decide +kernel
theorem dX4_readNumber_52 : decode cX4_readNumber 52 = .ok (.getfield 34, 3) := by decide +kernel
theorem dX4_readNumber_55 : decode cX4_readNumber 55 = .ok (.invokestatic 92, 3) := by decide +kernel
theorem dX4_readNumber_58 : decode cX4_readNumber 58 = .ok (.iadd, 1) := by decide +kernel
theorem dX4_readNumber_59 : decode cX4_readNumber 59 = .ok (.bipush 48, 2) := by decide +kernel
theorem dX4_readNumber_61 : decode cX4_readNumber 61 = .ok (.isub, 1) := by decide +kernel
theorem dX4_readNumber_62 : decode cX4_readNumber 62 = .ok (.istore_n 3, 1) := by decide +kernel
theorem dX4_readNumber_63 : decode cX4_readNumber 63 = .ok (.aload_n 0, 1) := by decide +kernel
theorem dX4_readNumber_64 : decode cX4_readNumber 64 = .ok (.dup, 1) := by decide +kernel
theorem dX4_readNumber_65 : decode cX4_readNumber 65 = .ok (.getfield 34, 3) := by decide +kernel
theorem dX4_readNumber_68 : decode cX4_readNumber 68 = .ok (.iconst 1, 1) := by decide +kernel
theorem dX4_readNumber_69 : decode cX4_readNumber 69 = .ok (.iadd, 1) := by decide +kernel
theorem dX4_readNumber_70 : decode cX4_readNumber 70 = .ok (.putfield 34, 3) := by decide +kernel
theorem dX4_readNumber_73 : decode cX4_readNumber 73 = .ok (.goto (-58), 3) := by decide +kernel
theorem dX4_readNumber_76 : decode cX4_readNumber 76 = .ok (.aload_n 0, 1) := by decide +kernel
theorem dX4_readNumber_77 : decode cX4_readNumber 77 = .ok (.getfield 34, 3) := by decide +kernel
theorem dX4_readNumber_80 : decode cX4_readNumber 80 = .ok (.aload_n 0, 1) := by decide +kernel
theorem dX4_readNumber_81 : decode cX4_readNumber 81 = .ok (.getfield 82, 3) := by decide +kernel
theorem dX4_readNumber_84 : decode cX4_readNumber 84 = .ok (.isub, 1) := by decide +kernel
theorem dX4_readNumber_85 : decode cX4_readNumber 85 = .ok (.istore 4, 2) := by decide +kernel
theorem dX4_readNumber_87 : decode cX4_readNumber 87 = .ok (.iload 4, 2) := by decide +kernel
theorem dX4_readNumber_89 : decode cX4_readNumber 89 = .ok (.iconst 1, 1) := by decide +kernel
theorem dX4_readNumber_90 : decode cX4_readNumber 90 = .ok (.iconst 5, 1) := by decide +kernel
theorem dX4_readNumber_91 : decode cX4_readNumber 91 = .ok (.invokestatic 96, 3) := by decide +kernel
theorem dX4_readNumber_94 : decode cX4_readNumber 94 = .ok (.ifCond .eq 12, 3) := by decide +kernel
theorem dX4_readNumber_97 : decode cX4_readNumber 97 = .ok (.iload_n 3, 1) := by decide +kernel
theorem dX4_readNumber_98 : decode cX4_readNumber 98 = .ok (.iload_n 1, 1) := by decide +kernel
theorem dX4_readNumber_99 : decode cX4_readNumber 99 = .ok (.iload_n 2, 1) := by decide +kernel
theorem dX4_readNumber_100 : decode cX4_readNumber 100 = .ok (.invokestatic 96, 3) := by decide +kernel
theorem dX4_readNumber_103 : decode cX4_readNumber 103 = .ok (.ifCond .ne 14, 3) := by decide +kernel
theorem dX4_readNumber_106 : decode cX4_readNumber 106 = .ok (.aload_n 0, 1) := by decide +kernel
theorem dX4_readNumber_107 : decode cX4_readNumber 107 = .ok (.aload_n 0, 1) := by decide +kernel
theorem dX4_readNumber_108 : decode cX4_readNumber 108 = .ok (.getfield 82, 3) := by decide +kernel
theorem dX4_readNumber_111 : decode cX4_readNumber 111 = .ok (.invokevirtual 52, 3) := by decide +kernel
theorem dX4_readNumber_114 : decode cX4_readNumber 114 = .ok (.pop, 1) := by decide +kernel
theorem dX4_readNumber_115 : decode cX4_readNumber 115 = .ok (.iconst (-1), 1) := by decide +kernel
theorem dX4_readNumber_116 : decode cX4_readNumber 116 = .ok (.ireturn, 1) := by decide +kernel
theorem dX4_readNumber_117 : decode cX4_readNumber 117 = .ok (.iload_n 3, 1) := by decide +kernel
theorem dX4_readNumber_118 : decode cX4_readNumber 118 = .ok (.ireturn, 1) := by decide +kernel
set_option maxRecDepth 20000 in
theorem ggX4_readSign_X4_nextCode : GoodIn wsX4_readSign wsX4_nextCode := goodIn_r _ [6, 1, 7, 8, 9, 10, 11, 17, 18, 19, 20, 21, 22, 23] (by decide +kernel) (by decide +kernel)
set_option maxRecDepth 20000 in
theorem gX4_readSign_X4_nextCode : GoodIn wsX4_readSign (wsV RX4 44 RX4 yX4_nextCode wsX4_nextCode) := goodIn_app (goodIn_of _ (by decide +kernel)) ggX4_readSign_X4_nextCode
set_option maxRecDepth 20000 in
theorem ggX4_readSign_X4_refuse : GoodIn wsX4_readSign wsX4_refuse := goodIn_r _ [15, 16, 17, 18, 19, 20, 21, 22, 23] (by decide +kernel) (by decide +kernel)
set_option maxRecDepth 20000 in
theorem gX4_readSign_X4_refuse : GoodIn wsX4_readSign (wsV RX4 52 RX4 yX4_refuse wsX4_refuse) := goodIn_app (goodIn_of _ (by decide +kernel)) ggX4_readSign_X4_refuse
theorem dX4_readSign_0 : decode cX4_readSign 0 = .ok (.aload_n 0, 1) := by decide +kernel
theorem dX4_readSign_1 : decode cX4_readSign 1 = .ok (.invokevirtual 44, 3) := by decide +kernel
theorem dX4_readSign_4 : decode cX4_readSign 4 = .ok (.iload_n 1, 1) := by decide +kernel
theorem dX4_readSign_5 : decode cX4_readSign 5 = .ok (.if_icmp .eq 12, 3) := by decide +kernel
theorem dX4_readSign_8 : decode cX4_readSign 8 = .ok (.aload_n 0, 1) := by decide +kernel
theorem dX4_readSign_9 : decode cX4_readSign 9 = .ok (.aload_n 0, 1) := by decide +kernel
theorem dX4_readSign_10 : decode cX4_readSign 10 = .ok (.getfield 34, 3) := by decide +kernel
theorem dX4_readSign_13 : decode cX4_readSign 13 = .ok (.invokevirtual 52, 3) := by decide +kernel
theorem dX4_readSign_16 : decode cX4_readSign 16 = .ok (.ireturn, 1) := by decide +kernel
theorem dX4_readSign_17 : decode cX4_readSign 17 = .ok (.aload_n 0, 1) := by decide +kernel
theorem dX4_readSign_18 : decode cX4_readSign 18 = .ok (.dup, 1) := by decide +kernel
theorem dX4_readSign_19 : decode cX4_readSign 19 = .ok (.getfield 34, 3) := by decide +kernel
theorem dX4_readSign_22 : decode cX4_readSign 22 = .ok (.iconst 1, 1) := by decide +kernel
theorem dX4_readSign_23 : decode cX4_readSign 23 = .ok (.iadd, 1) := by decide +kernel
theorem dX4_readSign_24 : decode cX4_readSign 24 = .ok (.putfield 34, 3) := by decide +kernel
theorem dX4_readSign_27 : decode cX4_readSign 27 = .ok (.iconst 1, 1) := by decide +kernel
theorem dX4_readSign_28 : decode cX4_readSign 28 = .ok (.ireturn, 1) := by decide +kernel
set_option maxRecDepth 20000 in
theorem ggX4_nextCode_X5_at : GoodIn wsX4_nextCode wsX5_at := goodIn_r _ [6] (by decide +kernel) (by decide +kernel)
set_option maxRecDepth 20000 in
theorem gX4_nextCode_X5_at_n92 : GoodIn wsX4_nextCode (wsX5_at) := ggX4_nextCode_X5_at
theorem dX4_nextCode_0 : decode cX4_nextCode 0 = .ok (.aload_n 0, 1) := by decide +kernel
theorem dX4_nextCode_1 : decode cX4_nextCode 1 = .ok (.getfield 34, 3) := by decide +kernel
theorem dX4_nextCode_4 : decode cX4_nextCode 4 = .ok (.aload_n 0, 1) := by decide +kernel
theorem dX4_nextCode_5 : decode cX4_nextCode 5 = .ok (.getfield 22, 3) := by decide +kernel
theorem dX4_nextCode_8 : decode cX4_nextCode 8 = .ok (.if_icmp .ge 32, 3) := by decide +kernel
theorem dX4_nextCode_11 : decode cX4_nextCode 11 = .ok (.aload_n 0, 1) := by decide +kernel
theorem dX4_nextCode_12 : decode cX4_nextCode 12 = .ok (.getfield 18, 3) := by decide +kernel
theorem dX4_nextCode_15 : decode cX4_nextCode 15 = .ok (.aload_n 0, 1) := by decide +kernel
theorem dX4_nextCode_16 : decode cX4_nextCode 16 = .ok (.getfield 34, 3) := by decide +kernel
theorem dX4_nextCode_19 : decode cX4_nextCode 19 = .ok (.invokestatic 92, 3) := by decide +kernel
theorem dX4_nextCode_22 : decode cX4_nextCode 22 = .ok (.bipush 32, 2) := by decide +kernel
theorem dX4_nextCode_24 : decode cX4_nextCode 24 = .ok (.if_icmp .ne 16, 3) := by decide +kernel
theorem dX4_nextCode_27 : decode cX4_nextCode 27 = .ok (.aload_n 0, 1) := by decide +kernel
theorem dX4_nextCode_28 : decode cX4_nextCode 28 = .ok (.dup, 1) := by decide +kernel
theorem dX4_nextCode_29 : decode cX4_nextCode 29 = .ok (.getfield 34, 3) := by decide +kernel
theorem dX4_nextCode_32 : decode cX4_nextCode 32 = .ok (.iconst 1, 1) := by decide +kernel
theorem dX4_nextCode_33 : decode cX4_nextCode 33 = .ok (.iadd, 1) := by decide +kernel
theorem dX4_nextCode_34 : decode cX4_nextCode 34 = .ok (.putfield 34, 3) := by decide +kernel
theorem dX4_nextCode_37 : decode cX4_nextCode 37 = .ok (.goto (-37), 3) := by decide +kernel
theorem dX4_nextCode_40 : decode cX4_nextCode 40 = .ok (.aload_n 0, 1) := by decide +kernel
theorem dX4_nextCode_41 : decode cX4_nextCode 41 = .ok (.getfield 34, 3) := by decide +kernel
theorem dX4_nextCode_44 : decode cX4_nextCode 44 = .ok (.aload_n 0, 1) := by decide +kernel
theorem dX4_nextCode_45 : decode cX4_nextCode 45 = .ok (.getfield 22, 3) := by decide +kernel
theorem dX4_nextCode_48 : decode cX4_nextCode 48 = .ok (.if_icmp .ge 17, 3) := by decide +kernel
theorem dX4_nextCode_51 : decode cX4_nextCode 51 = .ok (.aload_n 0, 1) := by decide +kernel
theorem dX4_nextCode_52 : decode cX4_nextCode 52 = .ok (.getfield 18, 3) := by decide +kernel
theorem dX4_nextCode_55 : decode cX4_nextCode 55 = .ok (.aload_n 0, 1) := by decide +kernel
theorem dX4_nextCode_56 : decode cX4_nextCode 56 = .ok (.getfield 34, 3) := by decide +kernel
theorem dX4_nextCode_59 : decode cX4_nextCode 59 = .ok (.invokestatic 92, 3) := by decide +kernel
theorem dX4_nextCode_62 : decode cX4_nextCode 62 = .ok (.goto 4, 3) := by decide +kernel
theorem dX4_nextCode_65 : decode cX4_nextCode 65 = .ok (.iconst (-1), 1) := by decide +kernel
theorem dX4_nextCode_66 : decode cX4_nextCode 66 = .ok (.ireturn, 1) := by decide +kernel
theorem dX4_isDigit_0 : decode cX4_isDigit 0 = .ok (.iload_n 0, 1) := by decide +kernel
theorem dX4_isDigit_1 : decode cX4_isDigit 1 = .ok (.bipush 48, 2) := by decide +kernel
theorem dX4_isDigit_3 : decode cX4_isDigit 3 = .ok (.if_icmp .lt 13, 3) := by decide +kernel
theorem dX4_isDigit_6 : decode cX4_isDigit 6 = .ok (.iload_n 0, 1) := by decide +kernel
theorem dX4_isDigit_7 : decode cX4_isDigit 7 = .ok (.bipush 57, 2) := by decide +kernel
theorem dX4_isDigit_9 : decode cX4_isDigit 9 = .ok (.if_icmp .gt 7, 3) := by decide +kernel
theorem dX4_isDigit_12 : decode cX4_isDigit 12 = .ok (.iconst 1, 1) := by decide +kernel
theorem dX4_isDigit_13 : decode cX4_isDigit 13 = .ok (.goto 4, 3) := by decide +kernel
theorem dX4_isDigit_16 : decode cX4_isDigit 16 = .ok (.iconst 0, 1) := by decide +kernel
theorem dX4_isDigit_17 : decode cX4_isDigit 17 = .ok (.ireturn, 1) := by decide +kernel
theorem dX4_refuse_0 : decode cX4_refuse 0 = .ok (.aload_n 0, 1) := by decide +kernel
theorem dX4_refuse_1 : decode cX4_refuse 1 = .ok (.iload_n 1, 1) := by decide +kernel
theorem dX4_refuse_2 : decode cX4_refuse 2 = .ok (.putfield 100, 3) := by decide +kernel
theorem dX4_refuse_5 : decode cX4_refuse 5 = .ok (.iconst 0, 1) := by decide +kernel
theorem dX4_refuse_6 : decode cX4_refuse 6 = .ok (.ireturn, 1) := by decide +kernel
set_option maxRecDepth 20000 in
theorem ggX5_init_X1_init : GoodIn wsX5_init wsX1_init := goodIn_r _ [26, 27, 2, 3, 28, 29, 30, 31, 32, 33, 34, 35, 36, 37, 38, 71, 72, 73, 74, 75, 76, 77] (by decide +kernel) (by decide +kernel)
set_option maxRecDepth 20000 in
theorem gX5_init_X1_init : GoodIn wsX5_init (wsX1_init) := ggX5_init_X1_init
set_option maxRecDepth 20000 in
theorem ggX5_init_X3_init : GoodIn wsX5_init wsX3_init := goodIn_r _ [40, 41, 2, 3, 42, 5, 6, 43, 44, 13, 14, 45, 28, 46, 47, 48, 25, 26, 27, 29, 30, 31, 32, 33, 34, 35, 36, 37, 38, 49, 50, 51, 52, 53, 54, 55, 56, 71, 72, 73, 74, 75, 76, 77, 83, 84, 85, 86, 87, 88, 89, 90, 91] (by decide +kernel) (by decide +kernel)
set_option maxRecDepth 20000 in
theorem gX5_init_X3_init_n18 : GoodIn wsX5_init (wsX3_init) := ggX5_init_X3_init
set_option maxRecDepth 20000 in
theorem ggX5_init_X2_init : GoodIn wsX5_init wsX2_init := goodIn_r _ [50, 51, 2, 3, 28, 52, 53, 54, 55, 56, 87, 88, 89, 90, 91] (by decide +kernel) (by decide +kernel)
set_option maxRecDepth 20000 in
theorem gX5_init_X2_init_n25 : GoodIn wsX5_init (wsX2_init) := ggX5_init_X2_init
set_option maxRecDepth 20000 in
theorem ggX5_init_X0_init : GoodIn wsX5_init wsX0_init := goodIn_r _ [59, 60, 2, 3, 61, 62, 5, 6, 63, 25, 26, 27, 28, 29, 30, 31, 32, 33, 34, 35, 36, 37, 38, 92, 93, 94, 71, 72, 73, 74, 75, 76, 77] (by decide +kernel) (by decide +kernel)
set_option maxRecDepth 20000 in
theorem gX5_init_X0_init : GoodIn wsX5_init (wsX0_init) := ggX5_init_X0_init
set_option maxRecDepth 20000 in
theorem ggX5_init_X4_init : GoodIn wsX5_init wsX4_init := goodIn_r _ [65, 66, 2, 3, 67, 5, 6, 68, 28, 69, 70, 25, 26, 27, 29, 30, 31, 32, 33, 34, 35, 36, 37, 38, 71, 72, 73, 74, 75, 76, 77, 95, 96, 97, 98, 99, 100, 101] (by decide +kernel) (by decide +kernel)
set_option maxRecDepth 20000 in
theorem gX5_init_X4_init_n39 : GoodIn wsX5_init (wsX4_init) := ggX5_init_X4_init
theorem dX5_init_0 : decode cX5_init 0 = .ok (.aload_n 0, 1) := by decide +kernel
theorem dX5_init_1 : decode cX5_init 1 = .ok (.invokespecial 1, 3) := by decide +kernel
theorem dX5_init_4 : decode cX5_init 4 = .ok (.aload_n 0, 1) := by decide +kernel
theorem dX5_init_5 : decode cX5_init 5 = .ok (.new 7, 3) := by decide +kernel
theorem dX5_init_8 : decode cX5_init 8 = .ok (.dup, 1) := by decide +kernel
theorem dX5_init_9 : decode cX5_init 9 = .ok (.invokespecial 9, 3) := by decide +kernel
theorem dX5_init_12 : decode cX5_init 12 = .ok (.putfield 10, 3) := by decide +kernel
theorem dX5_init_15 : decode cX5_init 15 = .ok (.aload_n 0, 1) := by decide +kernel
theorem dX5_init_16 : decode cX5_init 16 = .ok (.new 16, 3) := by decide +kernel
theorem dX5_init_19 : decode cX5_init 19 = .ok (.dup, 1) := by decide +kernel
theorem dX5_init_20 : decode cX5_init 20 = .ok (.invokespecial 18, 3) := by decide +kernel
theorem dX5_init_23 : decode cX5_init 23 = .ok (.putfield 19, 3) := by decide +kernel
theorem dX5_init_26 : decode cX5_init 26 = .ok (.aload_n 0, 1) := by decide +kernel
theorem dX5_init_27 : decode cX5_init 27 = .ok (.new 23, 3) := by decide +kernel
theorem dX5_init_30 : decode cX5_init 30 = .ok (.dup, 1) := by decide +kernel
theorem dX5_init_31 : decode cX5_init 31 = .ok (.invokespecial 25, 3) := by decide +kernel
theorem dX5_init_34 : decode cX5_init 34 = .ok (.putfield 26, 3) := by decide +kernel
theorem dX5_init_37 : decode cX5_init 37 = .ok (.aload_n 0, 1) := by decide +kernel
theorem dX5_init_38 : decode cX5_init 38 = .ok (.new 30, 3) := by decide +kernel
theorem dX5_init_41 : decode cX5_init 41 = .ok (.dup, 1) := by decide +kernel
theorem dX5_init_42 : decode cX5_init 42 = .ok (.invokespecial 32, 3) := by decide +kernel
theorem dX5_init_45 : decode cX5_init 45 = .ok (.putfield 33, 3) := by decide +kernel
theorem dX5_init_48 : decode cX5_init 48 = .ok (.aload_n 0, 1) := by decide +kernel
theorem dX5_init_49 : decode cX5_init 49 = .ok (.new 37, 3) := by decide +kernel
theorem dX5_init_52 : decode cX5_init 52 = .ok (.dup, 1) := by decide +kernel
theorem dX5_init_53 : decode cX5_init 53 = .ok (.invokespecial 39, 3) := by decide +kernel
theorem dX5_init_56 : decode cX5_init 56 = .ok (.putfield 40, 3) := by decide +kernel
theorem dX5_init_59 : decode cX5_init 59 = .ok (.return_, 1) := by decide +kernel
set_option maxRecDepth 20000 in
theorem ggX5_addNode_X5_isWithin : GoodIn wsX5_addNode wsX5_isWithin := goodIn_r _ [6] (by decide +kernel) (by decide +kernel)
set_option maxRecDepth 20000 in
theorem gX5_addNode_X5_isWithin : GoodIn wsX5_addNode (va_wsS RX5 44 yX5_isWithin wsX5_isWithin) := goodIn_app (goodIn_of _ (by decide +kernel)) ggX5_addNode_X5_isWithin
set_option maxRecDepth 20000 in
theorem ggX5_addNode_X1_number : GoodIn wsX5_addNode wsX1_number := goodIn_r _ [11, 12, 13, 14, 15, 10, 16, 17, 18, 5, 19, 20, 21, 22, 23, 24, 25, 26, 69, 70, 71, 72, 73, 74, 75] (by decide +kernel) (by decide +kernel)
set_option maxRecDepth 20000 in
theorem gX5_addNode_X1_number : GoodIn wsX5_addNode (wsV RX5 48 RX1 yX1_number wsX1_number) := goodIn_app (goodIn_of _ (by decide +kernel)) ggX5_addNode_X1_number
set_option maxRecDepth 20000 in
theorem ggX5_addNode_X0_record : GoodIn wsX5_addNode wsX0_record := goodIn_r _ [31, 32, 33, 34, 35, 36, 30, 37, 38, 39, 40, 41, 10, 42, 12, 17, 43, 44, 45, 46, 47, 48, 5, 49, 50, 51, 52, 53, 54, 55, 56, 57, 76, 77, 78, 69, 70, 71, 72, 73, 74, 75] (by decide +kernel) (by decide +kernel)
set_option maxRecDepth 20000 in
theorem gX5_addNode_X0_record : GoodIn wsX5_addNode (wsV RX5 52 RX0 yX0_record wsX0_record) := goodIn_app (goodIn_of _ (by decide +kernel)) ggX5_addNode_X0_record
set_option maxRecDepth 20000 in
theorem ggX5_addNode_X1_appendNode : GoodIn wsX5_addNode wsX1_appendNode := goodIn_r _ [61, 12, 17, 18, 5, 19, 62, 63, 69, 70, 71, 72, 73, 74, 75] (by decide +kernel) (by decide +kernel)
set_option maxRecDepth 20000 in
theorem gX5_addNode_X1_appendNode : GoodIn wsX5_addNode (wsV RX5 56 RX1 yX1_appendNode wsX1_appendNode) := goodIn_app (goodIn_of _ (by decide +kernel)) ggX5_addNode_X1_appendNode
theorem dX5_addNode_0 : decode cX5_addNode 0 = .ok (.iload_n 1, 1) := by decide +kernel
theorem dX5_addNode_1 : decode cX5_addNode 1 = .ok (.iconst 1, 1) := by decide +kernel
theorem dX5_addNode_2 : decode cX5_addNode 2 = .ok (.sipush 10000, 3) := by decide +kernel
theorem dX5_addNode_5 : decode cX5_addNode 5 = .ok (.invokestatic 44, 3) := by decide +kernel
theorem dX5_addNode_8 : decode cX5_addNode 8 = .ok (.ifCond .ne 7, 3) := by decide +kernel
theorem dX5_addNode_11 : decode cX5_addNode 11 = .ok (.sipush (-1002), 3) := by decide +kernel
theorem dX5_addNode_14 : decode cX5_addNode 14 = .ok (.ireturn, 1) := by decide +kernel
theorem dX5_addNode_15 : decode cX5_addNode 15 = .ok (.aload_n 0, 1) := by decide +kernel
theorem dX5_addNode_16 : decode cX5_addNode 16 = .ok (.getfield 10, 3) := by decide +kernel
theorem dX5_addNode_19 : decode cX5_addNode 19 = .ok (.iconst 0, 1) := by decide +kernel
theorem dX5_addNode_20 : decode cX5_addNode 20 = .ok (.invokevirtual 48, 3) := by decide +kernel
theorem dX5_addNode_23 : decode cX5_addNode 23 = .ok (.bipush 10, 2) := by decide +kernel
theorem dX5_addNode_25 : decode cX5_addNode 25 = .ok (.if_icmp .lt 7, 3) := by decide +kernel
theorem dX5_addNode_28 : decode cX5_addNode 28 = .ok (.sipush (-1004), 3) := by decide +kernel
theorem dX5_addNode_31 : decode cX5_addNode 31 = .ok (.ireturn, 1) := by decide +kernel
theorem dX5_addNode_32 : decode cX5_addNode 32 = .ok (.aload_n 0, 1) := by decide +kernel
theorem dX5_addNode_33 : decode cX5_addNode 33 = .ok (.getfield 33, 3) := by decide +kernel
theorem dX5_addNode_36 : decode cX5_addNode 36 = .ok (.aload_n 0, 1) := by decide +kernel
theorem dX5_addNode_37 : decode cX5_addNode 37 = .ok (.getfield 10, 3) := by decide +kernel
theorem dX5_addNode_40 : decode cX5_addNode 40 = .ok (.invokevirtual 52, 3) := by decide +kernel
theorem dX5_addNode_43 : decode cX5_addNode 43 = .ok (.aload_n 0, 1) := by decide +kernel
theorem dX5_addNode_44 : decode cX5_addNode 44 = .ok (.getfield 10, 3) := by decide +kernel
theorem dX5_addNode_47 : decode cX5_addNode 47 = .ok (.iload_n 1, 1) := by decide +kernel
theorem dX5_addNode_48 : decode cX5_addNode 48 = .ok (.invokevirtual 56, 3) := by decide +kernel
theorem dX5_addNode_51 : decode cX5_addNode 51 = .ok (.ireturn, 1) := by decide +kernel
set_option maxRecDepth 20000 in
theorem ggX5_charge_X1_has : GoodIn wsX5_charge wsX1_has := goodIn_r _ [7, 8, 9, 10, 11, 62, 63, 64, 65, 66, 67, 68] (by decide +kernel) (by decide +kernel)
set_option maxRecDepth 20000 in
theorem gX5_charge_X1_has : GoodIn wsX5_charge (wsV RX5 59 RX1 yX1_has wsX1_has) := goodIn_app (goodIn_of _ (by decide +kernel)) ggX5_charge_X1_has
set_option maxRecDepth 20000 in
theorem ggX5_charge_X5_isWithin : GoodIn wsX5_charge wsX5_isWithin := goodIn_r _ [14] (by decide +kernel) (by decide +kernel)
set_option maxRecDepth 20000 in
theorem gX5_charge_X5_isWithin : GoodIn wsX5_charge (va_wsS RX5 44 yX5_isWithin wsX5_isWithin) := goodIn_app (goodIn_of _ (by decide +kernel)) ggX5_charge_X5_isWithin
set_option maxRecDepth 20000 in
theorem ggX5_charge_X0_record : GoodIn wsX5_charge wsX0_record := goodIn_r _ [19, 20, 21, 22, 23, 24, 18, 25, 26, 27, 28, 29, 6, 30, 8, 31, 32, 33, 34, 35, 36, 37, 10, 38, 39, 40, 41, 42, 43, 44, 45, 46, 69, 70, 71, 62, 63, 64, 65, 66, 67, 68] (by decide +kernel) (by decide +kernel)
set_option maxRecDepth 20000 in
theorem gX5_charge_X0_record : GoodIn wsX5_charge (wsV RX5 52 RX0 yX0_record wsX0_record) := goodIn_app (goodIn_of _ (by decide +kernel)) ggX5_charge_X0_record
set_option maxRecDepth 20000 in
theorem ggX5_charge_X1_energyOf : GoodIn wsX5_charge wsX1_energyOf := goodIn_r _ [50, 31, 9, 10, 11, 62, 63, 64, 65, 66, 67, 68] (by decide +kernel) (by decide +kernel)
set_option maxRecDepth 20000 in
theorem gX5_charge_X1_energyOf : GoodIn wsX5_charge (wsV RX5 63 RX1 yX1_energyOf wsX1_energyOf) := goodIn_app (goodIn_of _ (by decide +kernel)) ggX5_charge_X1_energyOf
set_option maxRecDepth 20000 in
theorem ggX5_charge_X1_setEnergy : GoodIn wsX5_charge wsX1_setEnergy := goodIn_r _ [54, 31, 55, 10, 56, 62, 63, 64, 65, 66, 67, 68] (by decide +kernel) (by decide +kernel)
set_option maxRecDepth 20000 in
theorem gX5_charge_X1_setEnergy : GoodIn wsX5_charge (wsV RX5 66 RX1 yX1_setEnergy wsX1_setEnergy) := goodIn_app (goodIn_of _ (by decide +kernel)) ggX5_charge_X1_setEnergy
theorem dX5_charge_0 : decode cX5_charge 0 = .ok (.aload_n 0, 1) := by decide +kernel
theorem dX5_charge_1 : decode cX5_charge 1 = .ok (.getfield 10, 3) := by decide +kernel
theorem dX5_charge_4 : decode cX5_charge 4 = .ok (.iconst 0, 1) := by decide +kernel
theorem dX5_charge_5 : decode cX5_charge 5 = .ok (.iload_n 1, 1) := by decide +kernel
theorem dX5_charge_6 : decode cX5_charge 6 = .ok (.invokevirtual 59, 3) := by decide +kernel
theorem dX5_charge_9 : decode cX5_charge 9 = .ok (.ifCond .ne 7, 3) := by decide +kernel
theorem dX5_charge_12 : decode cX5_charge 12 = .ok (.sipush (-1001), 3) := by decide +kernel
theorem dX5_charge_15 : decode cX5_charge 15 = .ok (.ireturn, 1) := by decide +kernel
theorem dX5_charge_16 : decode cX5_charge 16 = .ok (.iload_n 2, 1) := by decide +kernel
theorem dX5_charge_17 : decode cX5_charge 17 = .ok (.iconst 0, 1) := by decide +kernel
theorem dX5_charge_18 : decode cX5_charge 18 = .ok (.sipush 10000, 3) := by decide +kernel
theorem dX5_charge_21 : decode cX5_charge 21 = .ok (.invokestatic 44, 3) := by decide +kernel
theorem dX5_charge_24 : decode cX5_charge 24 = .ok (.ifCond .ne 7, 3) := by decide +kernel
theorem dX5_charge_27 : decode cX5_charge 27 = .ok (.sipush (-1002), 3) := by decide +kernel
theorem dX5_charge_30 : decode cX5_charge 30 = .ok (.ireturn, 1) := by decide +kernel
theorem dX5_charge_31 : decode cX5_charge 31 = .ok (.aload_n 0, 1) := by decide +kernel
theorem dX5_charge_32 : decode cX5_charge 32 = .ok (.getfield 33, 3) := by decide +kernel
theorem dX5_charge_35 : decode cX5_charge 35 = .ok (.aload_n 0, 1) := by decide +kernel
theorem dX5_charge_36 : decode cX5_charge 36 = .ok (.getfield 10, 3) := by decide +kernel
theorem dX5_charge_39 : decode cX5_charge 39 = .ok (.invokevirtual 52, 3) := by decide +kernel
theorem dX5_charge_42 : decode cX5_charge 42 = .ok (.aload_n 0, 1) := by decide +kernel
theorem dX5_charge_43 : decode cX5_charge 43 = .ok (.getfield 10, 3) := by decide +kernel
theorem dX5_charge_46 : decode cX5_charge 46 = .ok (.iload_n 1, 1) := by decide +kernel
theorem dX5_charge_47 : decode cX5_charge 47 = .ok (.invokevirtual 63, 3) := by decide +kernel
theorem dX5_charge_50 : decode cX5_charge 50 = .ok (.istore_n 3, 1) := by decide +kernel
theorem dX5_charge_51 : decode cX5_charge 51 = .ok (.aload_n 0, 1) := by decide +kernel
theorem dX5_charge_52 : decode cX5_charge 52 = .ok (.getfield 10, 3) := by decide +kernel
theorem dX5_charge_55 : decode cX5_charge 55 = .ok (.iload_n 1, 1) := by decide +kernel
theorem dX5_charge_56 : decode cX5_charge 56 = .ok (.iload_n 2, 1) := by decide +kernel
theorem dX5_charge_57 : decode cX5_charge 57 = .ok (.invokevirtual 66, 3) := by decide +kernel
theorem dX5_charge_60 : decode cX5_charge 60 = .ok (.iload_n 3, 1) := by decide +kernel
theorem dX5_charge_61 : decode cX5_charge 61 = .ok (.ireturn, 1) := by decide +kernel
set_option maxRecDepth 20000 in
theorem ggX5_link_X1_has : GoodIn wsX5_link wsX1_has := goodIn_r _ [7, 8, 9, 10, 11, 84, 85, 86, 87, 88, 89, 90] (by decide +kernel) (by decide +kernel)
set_option maxRecDepth 20000 in
theorem gX5_link_X1_has : GoodIn wsX5_link (wsV RX5 59 RX1 yX1_has wsX1_has) := goodIn_app (goodIn_of _ (by decide +kernel)) ggX5_link_X1_has
set_option maxRecDepth 20000 in
theorem ggX5_link_X5_isWithin : GoodIn wsX5_link wsX5_isWithin := goodIn_r _ [14] (by decide +kernel) (by decide +kernel)
set_option maxRecDepth 20000 in
theorem gX5_link_X5_isWithin : GoodIn wsX5_link (va_wsS RX5 44 yX5_isWithin wsX5_isWithin) := goodIn_app (goodIn_of _ (by decide +kernel)) ggX5_link_X5_isWithin
set_option maxRecDepth 20000 in
theorem ggX5_link_X1_areLinked : GoodIn wsX5_link wsX1_areLinked := goodIn_r _ [18, 8, 9, 10, 11, 19, 20, 21, 6, 22, 23, 24, 25, 26, 84, 85, 86, 87, 88, 89, 90] (by decide +kernel) (by decide +kernel)
set_option maxRecDepth 20000 in
theorem gX5_link_X1_areLinked : GoodIn wsX5_link (wsV RX5 70 RX1 yX1_areLinked wsX1_areLinked) := goodIn_app (goodIn_of _ (by decide +kernel)) ggX5_link_X1_areLinked
set_option maxRecDepth 20000 in
theorem ggX5_link_X1_number : GoodIn wsX5_link wsX1_number := goodIn_r _ [30, 8, 31, 32, 33, 6, 34, 35, 9, 10, 11, 36, 37, 38, 39, 40, 41, 42, 84, 85, 86, 87, 88, 89, 90] (by decide +kernel) (by decide +kernel)
set_option maxRecDepth 20000 in
theorem gX5_link_X1_number : GoodIn wsX5_link (wsV RX5 48 RX1 yX1_number wsX1_number) := goodIn_app (goodIn_of _ (by decide +kernel)) ggX5_link_X1_number
set_option maxRecDepth 20000 in
theorem ggX5_link_X0_record : GoodIn wsX5_link wsX0_record := goodIn_r _ [47, 48, 49, 50, 51, 52, 46, 53, 54, 55, 56, 57, 6, 58, 8, 35, 23, 59, 60, 61, 62, 63, 10, 64, 65, 66, 67, 68, 69, 70, 71, 72, 91, 92, 93, 84, 85, 86, 87, 88, 89, 90] (by decide +kernel) (by decide +kernel)
set_option maxRecDepth 20000 in
theorem gX5_link_X0_record : GoodIn wsX5_link (wsV RX5 52 RX0 yX0_record wsX0_record) := goodIn_app (goodIn_of _ (by decide +kernel)) ggX5_link_X0_record
set_option maxRecDepth 20000 in
theorem ggX5_link_X1_appendLink : GoodIn wsX5_link wsX1_appendLink := goodIn_r _ [76, 8, 23, 9, 10, 11, 77, 78, 84, 85, 86, 87, 88, 89, 90] (by decide +kernel) (by decide +kernel)
set_option maxRecDepth 20000 in
theorem gX5_link_X1_appendLink : GoodIn wsX5_link (wsV RX5 73 RX1 yX1_appendLink wsX1_appendLink) := goodIn_app (goodIn_of _ (by decide +kernel)) ggX5_link_X1_appendLink
theorem dX5_link_0 : decode cX5_link 0 = .ok (.aload_n 0, 1) := by decide +kernel
theorem dX5_link_1 : decode cX5_link 1 = .ok (.getfield 10, 3) := by decide +kernel
theorem dX5_link_4 : decode cX5_link 4 = .ok (.iconst 0, 1) := by decide +kernel
theorem dX5_link_5 : decode cX5_link 5 = .ok (.iload_n 1, 1) := by decide +kernel
theorem dX5_link_6 : decode cX5_link 6 = .ok (.invokevirtual 59, 3) := by decide +kernel
theorem dX5_link_9 : decode cX5_link 9 = .ok (.ifCond .eq 15, 3) := by decide +kernel
theorem dX5_link_12 : decode cX5_link 12 = .ok (.aload_n 0, 1) := by decide +kernel
theorem dX5_link_13 : decode cX5_link 13 = .ok (.getfield 10, 3) := by decide +kernel
theorem dX5_link_16 : decode cX5_link 16 = .ok (.iconst 0, 1) := by decide +kernel
theorem dX5_link_17 : decode cX5_link 17 = .ok (.iload_n 2, 1) := by decide +kernel
theorem dX5_link_18 : decode cX5_link 18 = .ok (.invokevirtual 59, 3) := by decide +kernel
theorem dX5_link_21 : decode cX5_link 21 = .ok (.ifCond .ne 7, 3) := by decide +kernel
theorem dX5_link_24 : decode cX5_link 24 = .ok (.sipush (-1001), 3) := by decide +kernel
theorem dX5_link_27 : decode cX5_link 27 = .ok (.ireturn, 1) := by decide +kernel
theorem dX5_link_28 : decode cX5_link 28 = .ok (.iload_n 3, 1) := by decide +kernel
theorem dX5_link_29 : decode cX5_link 29 = .ok (.iconst 1, 1) := by decide +kernel
theorem dX5_link_30 : decode cX5_link 30 = .ok (.bipush 20, 2) := by decide +kernel
theorem dX5_link_32 : decode cX5_link 32 = .ok (.invokestatic 44, 3) := by decide +kernel
theorem dX5_link_35 : decode cX5_link 35 = .ok (.ifCond .ne 7, 3) := by decide +kernel
theorem dX5_link_38 : decode cX5_link 38 = .ok (.sipush (-1002), 3) := by decide +kernel
theorem dX5_link_41 : decode cX5_link 41 = .ok (.ireturn, 1) := by decide +kernel
theorem dX5_link_42 : decode cX5_link 42 = .ok (.iload_n 1, 1) := by decide +kernel
theorem dX5_link_43 : decode cX5_link 43 = .ok (.iload_n 2, 1) := by decide +kernel
theorem dX5_link_44 : decode cX5_link 44 = .ok (.if_icmp .eq 15, 3) := by decide +kernel
theorem dX5_link_47 : decode cX5_link 47 = .ok (.aload_n 0, 1) := by decide +kernel
theorem dX5_link_48 : decode cX5_link 48 = .ok (.getfield 10, 3) := by decide +kernel
theorem dX5_link_51 : decode cX5_link 51 = .ok (.iload_n 1, 1) := by decide +kernel
theorem dX5_link_52 : decode cX5_link 52 = .ok (.iload_n 2, 1) := by decide +kernel
theorem dX5_link_53 : decode cX5_link 53 = .ok (.invokevirtual 70, 3) := by decide +kernel
theorem dX5_link_56 : decode cX5_link 56 = .ok (.ifCond .eq 7, 3) := by decide +kernel
theorem dX5_link_59 : decode cX5_link 59 = .ok (.sipush (-1003), 3) := by decide +kernel
theorem dX5_link_62 : decode cX5_link 62 = .ok (.ireturn, 1) := by decide +kernel
theorem dX5_link_63 : decode cX5_link 63 = .ok (.aload_n 0, 1) := by decide +kernel
theorem dX5_link_64 : decode cX5_link 64 = .ok (.getfield 10, 3) := by decide +kernel
theorem dX5_link_67 : decode cX5_link 67 = .ok (.iconst 1, 1) := by decide +kernel
theorem dX5_link_68 : decode cX5_link 68 = .ok (.invokevirtual 48, 3) := by decide +kernel
theorem dX5_link_71 : decode cX5_link 71 = .ok (.bipush 20, 2) := by decide +kernel
theorem dX5_link_73 : decode cX5_link 73 = .ok (.if_icmp .lt 7, 3) := by decide +kernel
theorem dX5_link_76 : decode cX5_link 76 = .ok (.sipush (-1004), 3) := by decide +kernel
theorem dX5_link_79 : decode cX5_link 79 = .ok (.ireturn, 1) := by decide +kernel
theorem dX5_link_80 : decode cX5_link 80 = .ok (.aload_n 0, 1) := by decide +kernel
theorem dX5_link_81 : decode cX5_link 81 = .ok (.getfield 33, 3) := by decide +kernel
theorem dX5_link_84 : decode cX5_link 84 = .ok (.aload_n 0, 1) := by decide +kernel
theorem dX5_link_85 : decode cX5_link 85 = .ok (.getfield 10, 3) := by decide +kernel
theorem dX5_link_88 : decode cX5_link 88 = .ok (.invokevirtual 52, 3) := by decide +kernel
theorem dX5_link_91 : decode cX5_link 91 = .ok (.aload_n 0, 1) := by decide +kernel
theorem dX5_link_92 : decode cX5_link 92 = .ok (.getfield 10, 3) := by decide +kernel
theorem dX5_link_95 : decode cX5_link 95 = .ok (.iload_n 1, 1) := by decide +kernel
theorem dX5_link_96 : decode cX5_link 96 = .ok (.iload_n 2, 1) := by decide +kernel
theorem dX5_link_97 : decode cX5_link 97 = .ok (.iload_n 3, 1) := by decide +kernel
theorem dX5_link_98 : decode cX5_link 98 = .ok (.invokevirtual 73, 3) := by decide +kernel
theorem dX5_link_101 : decode cX5_link 101 = .ok (.ireturn, 1) := by decide +kernel
set_option maxRecDepth 20000 in
theorem ggX5_cut_X1_has : GoodIn wsX5_cut wsX1_has := goodIn_r _ [7, 8, 9, 10, 11, 61, 62, 63, 64, 65, 66, 67] (by decide +kernel) (by decide +kernel)
end
