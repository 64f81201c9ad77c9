-- ===== PART A: goes FIRST, ahead of the names: the tables' words, and 'selects' of the private methods out of them =====
/-- a private method of a class that the tables say can be made, by its rows of tables_1 -/
def lw_okq (q : MethodName × Nat) : Prop := (q.1.cls ≠ "java/lang/invoke/MethodHandle" ∧ q.1.cls ≠ "java/lang/invoke/VarHandle") ∧ Cond.instantiable q.1.cls q.2 ∈ tables_1 ∧ Cond.privateMethod q.1 ∈ tables_1 ∧ Cond.instanceMethod q.1 ∈ tables_1
theorem lw_p0 : lw_okq (⟨"SleepPost", "begin", "()V"⟩, 12) := ⟨⟨by decide +kernel, by decide +kernel⟩, List.mem_of_getElem? (i := 29) (by decide +kernel), List.mem_of_getElem? (i := 536) (by decide +kernel), List.mem_of_getElem? (i := 537) (by decide +kernel)⟩
theorem lw_p1 : lw_okq (⟨"SleepPost", "append", "(I)V"⟩, 12) := ⟨⟨by decide +kernel, by decide +kernel⟩, List.mem_of_getElem? (i := 29) (by decide +kernel), List.mem_of_getElem? (i := 602) (by decide +kernel), List.mem_of_getElem? (i := 603) (by decide +kernel)⟩
theorem lw_p2 : lw_okq (⟨"SleepPost$Tokens", "isSmallLetter", "(I)Z"⟩, 6) := ⟨⟨by decide +kernel, by decide +kernel⟩, List.mem_of_getElem? (i := 207) (by decide +kernel), List.mem_of_getElem? (i := 625) (by decide +kernel), List.mem_of_getElem? (i := 626) (by decide +kernel)⟩
theorem lw_p3 : lw_okq (⟨"SleepPost$Tokens", "readWord", "()V"⟩, 6) := ⟨⟨by decide +kernel, by decide +kernel⟩, List.mem_of_getElem? (i := 207) (by decide +kernel), List.mem_of_getElem? (i := 629) (by decide +kernel), List.mem_of_getElem? (i := 630) (by decide +kernel)⟩
theorem lw_p4 : lw_okq (⟨"SleepPost$Tokens", "wordNumber", "()I"⟩, 6) := ⟨⟨by decide +kernel, by decide +kernel⟩, List.mem_of_getElem? (i := 207) (by decide +kernel), List.mem_of_getElem? (i := 633) (by decide +kernel), List.mem_of_getElem? (i := 634) (by decide +kernel)⟩
theorem lw_p5 : lw_okq (⟨"SleepPost$Tokens", "isDigit", "(I)Z"⟩, 6) := ⟨⟨by decide +kernel, by decide +kernel⟩, List.mem_of_getElem? (i := 207) (by decide +kernel), List.mem_of_getElem? (i := 686) (by decide +kernel), List.mem_of_getElem? (i := 687) (by decide +kernel)⟩
theorem lw_p6 : lw_okq (⟨"SleepPost$Tokens", "readNumber", "()V"⟩, 6) := ⟨⟨by decide +kernel, by decide +kernel⟩, List.mem_of_getElem? (i := 207) (by decide +kernel), List.mem_of_getElem? (i := 690) (by decide +kernel), List.mem_of_getElem? (i := 691) (by decide +kernel)⟩
theorem lw_p7 : lw_okq (⟨"SleepPost$Tokens", "readSign", "()V"⟩, 6) := ⟨⟨by decide +kernel, by decide +kernel⟩, List.mem_of_getElem? (i := 207) (by decide +kernel), List.mem_of_getElem? (i := 695) (by decide +kernel), List.mem_of_getElem? (i := 696) (by decide +kernel)⟩
theorem lw_p8 : lw_okq (⟨"SleepPost$Tokens", "isAt", "(IC)Z"⟩, 6) := ⟨⟨by decide +kernel, by decide +kernel⟩, List.mem_of_getElem? (i := 207) (by decide +kernel), List.mem_of_getElem? (i := 699) (by decide +kernel), List.mem_of_getElem? (i := 700) (by decide +kernel)⟩
theorem lw_p9 : lw_okq (⟨"SleepPost$Reader", "readLine", "()Z"⟩, 8) := ⟨⟨by decide +kernel, by decide +kernel⟩, List.mem_of_getElem? (i := 201) (by decide +kernel), List.mem_of_getElem? (i := 761) (by decide +kernel), List.mem_of_getElem? (i := 762) (by decide +kernel)⟩
theorem lw_p10 : lw_okq (⟨"SleepPost$Reader", "readHouse", "()Z"⟩, 8) := ⟨⟨by decide +kernel, by decide +kernel⟩, List.mem_of_getElem? (i := 201) (by decide +kernel), List.mem_of_getElem? (i := 765) (by decide +kernel), List.mem_of_getElem? (i := 766) (by decide +kernel)⟩
theorem lw_p11 : lw_okq (⟨"SleepPost$Reader", "oneMore", "(II)Z"⟩, 8) := ⟨⟨by decide +kernel, by decide +kernel⟩, List.mem_of_getElem? (i := 201) (by decide +kernel), List.mem_of_getElem? (i := 769) (by decide +kernel), List.mem_of_getElem? (i := 770) (by decide +kernel)⟩
theorem lw_p12 : lw_okq (⟨"SleepPost$Reader", "fail", "(I)Z"⟩, 8) := ⟨⟨by decide +kernel, by decide +kernel⟩, List.mem_of_getElem? (i := 201) (by decide +kernel), List.mem_of_getElem? (i := 773) (by decide +kernel), List.mem_of_getElem? (i := 774) (by decide +kernel)⟩
theorem lw_p13 : lw_okq (⟨"SleepPost$Reader", "isNew", "([II)Z"⟩, 8) := ⟨⟨by decide +kernel, by decide +kernel⟩, List.mem_of_getElem? (i := 201) (by decide +kernel), List.mem_of_getElem? (i := 778) (by decide +kernel), List.mem_of_getElem? (i := 779) (by decide +kernel)⟩
theorem lw_p14 : lw_okq (⟨"SleepPost$Reader", "readStreet", "()Z"⟩, 8) := ⟨⟨by decide +kernel, by decide +kernel⟩, List.mem_of_getElem? (i := 201) (by decide +kernel), List.mem_of_getElem? (i := 785) (by decide +kernel), List.mem_of_getElem? (i := 786) (by decide +kernel)⟩
theorem lw_p15 : lw_okq (⟨"SleepPost$Reader", "takeHouse", "()Z"⟩, 8) := ⟨⟨by decide +kernel, by decide +kernel⟩, List.mem_of_getElem? (i := 201) (by decide +kernel), List.mem_of_getElem? (i := 789) (by decide +kernel), List.mem_of_getElem? (i := 790) (by decide +kernel)⟩
def lw_privs_1 : List (MethodName × Nat) := [(⟨"SleepPost", "begin", "()V"⟩, 12), (⟨"SleepPost", "append", "(I)V"⟩, 12), (⟨"SleepPost$Tokens", "isSmallLetter", "(I)Z"⟩, 6), (⟨"SleepPost$Tokens", "readWord", "()V"⟩, 6), (⟨"SleepPost$Tokens", "wordNumber", "()I"⟩, 6), (⟨"SleepPost$Tokens", "isDigit", "(I)Z"⟩, 6), (⟨"SleepPost$Tokens", "readNumber", "()V"⟩, 6), (⟨"SleepPost$Tokens", "readSign", "()V"⟩, 6), (⟨"SleepPost$Tokens", "isAt", "(IC)Z"⟩, 6), (⟨"SleepPost$Reader", "readLine", "()Z"⟩, 8), (⟨"SleepPost$Reader", "readHouse", "()Z"⟩, 8), (⟨"SleepPost$Reader", "oneMore", "(II)Z"⟩, 8), (⟨"SleepPost$Reader", "fail", "(I)Z"⟩, 8), (⟨"SleepPost$Reader", "isNew", "([II)Z"⟩, 8), (⟨"SleepPost$Reader", "readStreet", "()Z"⟩, 8), (⟨"SleepPost$Reader", "takeHouse", "()Z"⟩, 8)]
theorem lw_r1 : ∀ q ∈ lw_privs_1, lw_okq q := List.forall_mem_cons.mpr ⟨lw_p0, List.forall_mem_cons.mpr ⟨lw_p1, List.forall_mem_cons.mpr ⟨lw_p2, List.forall_mem_cons.mpr ⟨lw_p3, List.forall_mem_cons.mpr ⟨lw_p4, List.forall_mem_cons.mpr ⟨lw_p5, List.forall_mem_cons.mpr ⟨lw_p6, List.forall_mem_cons.mpr ⟨lw_p7, List.forall_mem_cons.mpr ⟨lw_p8, List.forall_mem_cons.mpr ⟨lw_p9, List.forall_mem_cons.mpr ⟨lw_p10, List.forall_mem_cons.mpr ⟨lw_p11, List.forall_mem_cons.mpr ⟨lw_p12, List.forall_mem_cons.mpr ⟨lw_p13, List.forall_mem_cons.mpr ⟨lw_p14, List.forall_mem_cons.mpr ⟨lw_p15, fun _ h => absurd h List.not_mem_nil⟩⟩⟩⟩⟩⟩⟩⟩⟩⟩⟩⟩⟩⟩⟩⟩
theorem lw_p16 : lw_okq (⟨"SleepPost$Reader", "isToldHouse", "()Z"⟩, 8) := ⟨⟨by decide +kernel, by decide +kernel⟩, List.mem_of_getElem? (i := 201) (by decide +kernel), List.mem_of_getElem? (i := 793) (by decide +kernel), List.mem_of_getElem? (i := 794) (by decide +kernel)⟩
theorem lw_p17 : lw_okq (⟨"SleepPost$Reader", "isTold", "([II)Z"⟩, 8) := ⟨⟨by decide +kernel, by decide +kernel⟩, List.mem_of_getElem? (i := 201) (by decide +kernel), List.mem_of_getElem? (i := 797) (by decide +kernel), List.mem_of_getElem? (i := 798) (by decide +kernel)⟩
theorem lw_p18 : lw_okq (⟨"SleepPost$Reader", "takeNumber", "(II)Z"⟩, 8) := ⟨⟨by decide +kernel, by decide +kernel⟩, List.mem_of_getElem? (i := 201) (by decide +kernel), List.mem_of_getElem? (i := 801) (by decide +kernel), List.mem_of_getElem? (i := 802) (by decide +kernel)⟩
theorem lw_p19 : lw_okq (⟨"SleepPost$Reader", "readSleeper", "()Z"⟩, 8) := ⟨⟨by decide +kernel, by decide +kernel⟩, List.mem_of_getElem? (i := 201) (by decide +kernel), List.mem_of_getElem? (i := 812) (by decide +kernel), List.mem_of_getElem? (i := 813) (by decide +kernel)⟩
theorem lw_p20 : lw_okq (⟨"SleepPost$Reader", "readLetter", "()Z"⟩, 8) := ⟨⟨by decide +kernel, by decide +kernel⟩, List.mem_of_getElem? (i := 201) (by decide +kernel), List.mem_of_getElem? (i := 816) (by decide +kernel), List.mem_of_getElem? (i := 817) (by decide +kernel)⟩
theorem lw_p21 : lw_okq (⟨"SleepPost$Reader", "readLamp", "()Z"⟩, 8) := ⟨⟨by decide +kernel, by decide +kernel⟩, List.mem_of_getElem? (i := 201) (by decide +kernel), List.mem_of_getElem? (i := 824) (by decide +kernel), List.mem_of_getElem? (i := 825) (by decide +kernel)⟩
theorem lw_p22 : lw_okq (⟨"SleepPost$Reader", "readLoud", "([I)Z"⟩, 8) := ⟨⟨by decide +kernel, by decide +kernel⟩, List.mem_of_getElem? (i := 201) (by decide +kernel), List.mem_of_getElem? (i := 828) (by decide +kernel), List.mem_of_getElem? (i := 829) (by decide +kernel)⟩
theorem lw_p23 : lw_okq (⟨"SleepPost$Reader", "readCat", "()Z"⟩, 8) := ⟨⟨by decide +kernel, by decide +kernel⟩, List.mem_of_getElem? (i := 201) (by decide +kernel), List.mem_of_getElem? (i := 832) (by decide +kernel), List.mem_of_getElem? (i := 833) (by decide +kernel)⟩
theorem lw_p24 : lw_okq (⟨"SleepPost$Reader", "readSeed", "()Z"⟩, 8) := ⟨⟨by decide +kernel, by decide +kernel⟩, List.mem_of_getElem? (i := 201) (by decide +kernel), List.mem_of_getElem? (i := 836) (by decide +kernel), List.mem_of_getElem? (i := 837) (by decide +kernel)⟩
theorem lw_p25 : lw_okq (⟨"SleepPost$Reader", "readLaw", "()Z"⟩, 8) := ⟨⟨by decide +kernel, by decide +kernel⟩, List.mem_of_getElem? (i := 201) (by decide +kernel), List.mem_of_getElem? (i := 841) (by decide +kernel), List.mem_of_getElem? (i := 842) (by decide +kernel)⟩
theorem lw_p26 : lw_okq (⟨"SleepPost$Expression", "settle", "(I)V"⟩, 9) := ⟨⟨by decide +kernel, by decide +kernel⟩, List.mem_of_getElem? (i := 237) (by decide +kernel), List.mem_of_getElem? (i := 857) (by decide +kernel), List.mem_of_getElem? (i := 858) (by decide +kernel)⟩
theorem lw_p27 : lw_okq (⟨"SleepPost$Expression", "readSide", "()I"⟩, 9) := ⟨⟨by decide +kernel, by decide +kernel⟩, List.mem_of_getElem? (i := 237) (by decide +kernel), List.mem_of_getElem? (i := 872) (by decide +kernel), List.mem_of_getElem? (i := 873) (by decide +kernel)⟩
theorem lw_p28 : lw_okq (⟨"SleepPost$Expression", "readOpen", "()I"⟩, 9) := ⟨⟨by decide +kernel, by decide +kernel⟩, List.mem_of_getElem? (i := 237) (by decide +kernel), List.mem_of_getElem? (i := 876) (by decide +kernel), List.mem_of_getElem? (i := 877) (by decide +kernel)⟩
theorem lw_p29 : lw_okq (⟨"SleepPost$Expression", "await", "(I)I"⟩, 9) := ⟨⟨by decide +kernel, by decide +kernel⟩, List.mem_of_getElem? (i := 237) (by decide +kernel), List.mem_of_getElem? (i := 880) (by decide +kernel), List.mem_of_getElem? (i := 881) (by decide +kernel)⟩
theorem lw_p30 : lw_okq (⟨"SleepPost$Expression", "readSign", "()I"⟩, 9) := ⟨⟨by decide +kernel, by decide +kernel⟩, List.mem_of_getElem? (i := 237) (by decide +kernel), List.mem_of_getElem? (i := 884) (by decide +kernel), List.mem_of_getElem? (i := 885) (by decide +kernel)⟩
theorem lw_p31 : lw_okq (⟨"SleepPost$Reader", "pass", "(I)Z"⟩, 8) := ⟨⟨by decide +kernel, by decide +kernel⟩, List.mem_of_getElem? (i := 201) (by decide +kernel), List.mem_of_getElem? (i := 889) (by decide +kernel), List.mem_of_getElem? (i := 890) (by decide +kernel)⟩
def lw_privs_2 : List (MethodName × Nat) := [(⟨"SleepPost$Reader", "isToldHouse", "()Z"⟩, 8), (⟨"SleepPost$Reader", "isTold", "([II)Z"⟩, 8), (⟨"SleepPost$Reader", "takeNumber", "(II)Z"⟩, 8), (⟨"SleepPost$Reader", "readSleeper", "()Z"⟩, 8), (⟨"SleepPost$Reader", "readLetter", "()Z"⟩, 8), (⟨"SleepPost$Reader", "readLamp", "()Z"⟩, 8), (⟨"SleepPost$Reader", "readLoud", "([I)Z"⟩, 8), (⟨"SleepPost$Reader", "readCat", "()Z"⟩, 8), (⟨"SleepPost$Reader", "readSeed", "()Z"⟩, 8), (⟨"SleepPost$Reader", "readLaw", "()Z"⟩, 8), (⟨"SleepPost$Expression", "settle", "(I)V"⟩, 9), (⟨"SleepPost$Expression", "readSide", "()I"⟩, 9), (⟨"SleepPost$Expression", "readOpen", "()I"⟩, 9), (⟨"SleepPost$Expression", "await", "(I)I"⟩, 9), (⟨"SleepPost$Expression", "readSign", "()I"⟩, 9), (⟨"SleepPost$Reader", "pass", "(I)Z"⟩, 8)]
theorem lw_r2 : ∀ q ∈ lw_privs_2, lw_okq q := List.forall_mem_cons.mpr ⟨lw_p16, List.forall_mem_cons.mpr ⟨lw_p17, List.forall_mem_cons.mpr ⟨lw_p18, List.forall_mem_cons.mpr ⟨lw_p19, List.forall_mem_cons.mpr ⟨lw_p20, List.forall_mem_cons.mpr ⟨lw_p21, List.forall_mem_cons.mpr ⟨lw_p22, List.forall_mem_cons.mpr ⟨lw_p23, List.forall_mem_cons.mpr ⟨lw_p24, List.forall_mem_cons.mpr ⟨lw_p25, List.forall_mem_cons.mpr ⟨lw_p26, List.forall_mem_cons.mpr ⟨lw_p27, List.forall_mem_cons.mpr ⟨lw_p28, List.forall_mem_cons.mpr ⟨lw_p29, List.forall_mem_cons.mpr ⟨lw_p30, List.forall_mem_cons.mpr ⟨lw_p31, fun _ h => absurd h List.not_mem_nil⟩⟩⟩⟩⟩⟩⟩⟩⟩⟩⟩⟩⟩⟩⟩⟩
theorem lw_p32 : lw_okq (⟨"SleepPost", "isLetter", "(I)Z"⟩, 12) := ⟨⟨by decide +kernel, by decide +kernel⟩, List.mem_of_getElem? (i := 29) (by decide +kernel), List.mem_of_getElem? (i := 910) (by decide +kernel), List.mem_of_getElem? (i := 911) (by decide +kernel)⟩
theorem lw_p33 : lw_okq (⟨"SleepPost", "placeOf", "(I)I"⟩, 12) := ⟨⟨by decide +kernel, by decide +kernel⟩, List.mem_of_getElem? (i := 29) (by decide +kernel), List.mem_of_getElem? (i := 914) (by decide +kernel), List.mem_of_getElem? (i := 915) (by decide +kernel)⟩
theorem lw_p34 : lw_okq (⟨"SleepPost", "isHouse", "(I)Z"⟩, 12) := ⟨⟨by decide +kernel, by decide +kernel⟩, List.mem_of_getElem? (i := 29) (by decide +kernel), List.mem_of_getElem? (i := 937) (by decide +kernel), List.mem_of_getElem? (i := 938) (by decide +kernel)⟩
theorem lw_p35 : lw_okq (⟨"SleepPost", "isSleeper", "(I)Z"⟩, 12) := ⟨⟨by decide +kernel, by decide +kernel⟩, List.mem_of_getElem? (i := 29) (by decide +kernel), List.mem_of_getElem? (i := 962) (by decide +kernel), List.mem_of_getElem? (i := 963) (by decide +kernel)⟩
theorem lw_p36 : lw_okq (⟨"SleepPost$Reckoner", "workOut", "(LSleepPost$Laws;II)J"⟩, 3) := ⟨⟨by decide +kernel, by decide +kernel⟩, List.mem_of_getElem? (i := 368) (by decide +kernel), List.mem_of_getElem? (i := 989) (by decide +kernel), List.mem_of_getElem? (i := 990) (by decide +kernel)⟩
theorem lw_p37 : lw_okq (⟨"SleepPost$Night", "choose", "(LSleepPost$World;I)I"⟩, 13) := ⟨⟨by decide +kernel, by decide +kernel⟩, List.mem_of_getElem? (i := 362) (by decide +kernel), List.mem_of_getElem? (i := 1039) (by decide +kernel), List.mem_of_getElem? (i := 1040) (by decide +kernel)⟩
theorem lw_p38 : lw_okq (⟨"SleepPost$Night", "arrive", "(LSleepPost$World;I)V"⟩, 13) := ⟨⟨by decide +kernel, by decide +kernel⟩, List.mem_of_getElem? (i := 362) (by decide +kernel), List.mem_of_getElem? (i := 1045) (by decide +kernel), List.mem_of_getElem? (i := 1046) (by decide +kernel)⟩
theorem lw_p39 : lw_okq (⟨"SleepPost$Night", "wakes", "(LSleepPost$World;IJ)Z"⟩, 13) := ⟨⟨by decide +kernel, by decide +kernel⟩, List.mem_of_getElem? (i := 362) (by decide +kernel), List.mem_of_getElem? (i := 1057) (by decide +kernel), List.mem_of_getElem? (i := 1058) (by decide +kernel)⟩
theorem lw_p40 : lw_okq (⟨"SleepPost", "isAhead", "(I)Z"⟩, 12) := ⟨⟨by decide +kernel, by decide +kernel⟩, List.mem_of_getElem? (i := 29) (by decide +kernel), List.mem_of_getElem? (i := 1084) (by decide +kernel), List.mem_of_getElem? (i := 1085) (by decide +kernel)⟩
theorem lw_p41 : lw_okq (⟨"SleepPost$Tries", "allArrive", "(LSleepPost$Town;II)Z"⟩, 10) := ⟨⟨by decide +kernel, by decide +kernel⟩, List.mem_of_getElem? (i := 483) (by decide +kernel), List.mem_of_getElem? (i := 1111) (by decide +kernel), List.mem_of_getElem? (i := 1112) (by decide +kernel)⟩
theorem lw_p42 : lw_okq (⟨"SleepPost", "areSingers", "(II)Z"⟩, 12) := ⟨⟨by decide +kernel, by decide +kernel⟩, List.mem_of_getElem? (i := 29) (by decide +kernel), List.mem_of_getElem? (i := 1211) (by decide +kernel), List.mem_of_getElem? (i := 1212) (by decide +kernel)⟩
theorem lw_p43 : lw_okq (⟨"SleepPost$Tries", "sing", "(LSleepPost$Town;II)V"⟩, 10) := ⟨⟨by decide +kernel, by decide +kernel⟩, List.mem_of_getElem? (i := 483) (by decide +kernel), List.mem_of_getElem? (i := 1219) (by decide +kernel), List.mem_of_getElem? (i := 1220) (by decide +kernel)⟩
theorem lw_p44 : lw_okq (⟨"SleepPost$Tries", "listeners", "(LSleepPost$Town;I)I"⟩, 10) := ⟨⟨by decide +kernel, by decide +kernel⟩, List.mem_of_getElem? (i := 483) (by decide +kernel), List.mem_of_getElem? (i := 1223) (by decide +kernel), List.mem_of_getElem? (i := 1224) (by decide +kernel)⟩
theorem lw_p45 : lw_okq (⟨"SleepPost$Tries", "isRest", "(LSleepPost$Town;II)Z"⟩, 10) := ⟨⟨by decide +kernel, by decide +kernel⟩, List.mem_of_getElem? (i := 483) (by decide +kernel), List.mem_of_getElem? (i := 1227) (by decide +kernel), List.mem_of_getElem? (i := 1228) (by decide +kernel)⟩
theorem lw_p46 : lw_okq (⟨"SleepPost$Tries", "deal", "(LSleepPost$Town;)V"⟩, 10) := ⟨⟨by decide +kernel, by decide +kernel⟩, List.mem_of_getElem? (i := 483) (by decide +kernel), List.mem_of_getElem? (i := 1267) (by decide +kernel), List.mem_of_getElem? (i := 1268) (by decide +kernel)⟩
theorem lw_p47 : lw_okq (⟨"java/lang/Throwable", "fillInStackTrace", "(I)Ljava/lang/Throwable;"⟩, 6) := ⟨⟨by decide +kernel, by decide +kernel⟩, List.mem_of_getElem? (i := 1356) (by decide +kernel), List.mem_of_getElem? (i := 1354) (by decide +kernel), List.mem_of_getElem? (i := 1355) (by decide +kernel)⟩
def lw_privs_3 : List (MethodName × Nat) := [(⟨"SleepPost", "isLetter", "(I)Z"⟩, 12), (⟨"SleepPost", "placeOf", "(I)I"⟩, 12), (⟨"SleepPost", "isHouse", "(I)Z"⟩, 12), (⟨"SleepPost", "isSleeper", "(I)Z"⟩, 12), (⟨"SleepPost$Reckoner", "workOut", "(LSleepPost$Laws;II)J"⟩, 3), (⟨"SleepPost$Night", "choose", "(LSleepPost$World;I)I"⟩, 13), (⟨"SleepPost$Night", "arrive", "(LSleepPost$World;I)V"⟩, 13), (⟨"SleepPost$Night", "wakes", "(LSleepPost$World;IJ)Z"⟩, 13), (⟨"SleepPost", "isAhead", "(I)Z"⟩, 12), (⟨"SleepPost$Tries", "allArrive", "(LSleepPost$Town;II)Z"⟩, 10), (⟨"SleepPost", "areSingers", "(II)Z"⟩, 12), (⟨"SleepPost$Tries", "sing", "(LSleepPost$Town;II)V"⟩, 10), (⟨"SleepPost$Tries", "listeners", "(LSleepPost$Town;I)I"⟩, 10), (⟨"SleepPost$Tries", "isRest", "(LSleepPost$Town;II)Z"⟩, 10), (⟨"SleepPost$Tries", "deal", "(LSleepPost$Town;)V"⟩, 10), (⟨"java/lang/Throwable", "fillInStackTrace", "(I)Ljava/lang/Throwable;"⟩, 6)]
theorem lw_r3 : ∀ q ∈ lw_privs_3, lw_okq q := List.forall_mem_cons.mpr ⟨lw_p32, List.forall_mem_cons.mpr ⟨lw_p33, List.forall_mem_cons.mpr ⟨lw_p34, List.forall_mem_cons.mpr ⟨lw_p35, List.forall_mem_cons.mpr ⟨lw_p36, List.forall_mem_cons.mpr ⟨lw_p37, List.forall_mem_cons.mpr ⟨lw_p38, List.forall_mem_cons.mpr ⟨lw_p39, List.forall_mem_cons.mpr ⟨lw_p40, List.forall_mem_cons.mpr ⟨lw_p41, List.forall_mem_cons.mpr ⟨lw_p42, List.forall_mem_cons.mpr ⟨lw_p43, List.forall_mem_cons.mpr ⟨lw_p44, List.forall_mem_cons.mpr ⟨lw_p45, List.forall_mem_cons.mpr ⟨lw_p46, List.forall_mem_cons.mpr ⟨lw_p47, fun _ h => absurd h List.not_mem_nil⟩⟩⟩⟩⟩⟩⟩⟩⟩⟩⟩⟩⟩⟩⟩⟩
theorem lw_p48 : lw_okq (⟨"SleepPostModel", "begins", "()V"⟩, 79) := ⟨⟨by decide +kernel, by decide +kernel⟩, List.mem_of_getElem? (i := 1401) (by decide +kernel), List.mem_of_getElem? (i := 1407) (by decide +kernel), List.mem_of_getElem? (i := 1408) (by decide +kernel)⟩
theorem lw_p49 : lw_okq (⟨"SleepPostModel", "starts", "(I)V"⟩, 79) := ⟨⟨by decide +kernel, by decide +kernel⟩, List.mem_of_getElem? (i := 1401) (by decide +kernel), List.mem_of_getElem? (i := 1411) (by decide +kernel), List.mem_of_getElem? (i := 1412) (by decide +kernel)⟩
theorem lw_p50 : lw_okq (⟨"SleepPostModel", "reads", "(II)V"⟩, 79) := ⟨⟨by decide +kernel, by decide +kernel⟩, List.mem_of_getElem? (i := 1401) (by decide +kernel), List.mem_of_getElem? (i := 1665) (by decide +kernel), List.mem_of_getElem? (i := 1666) (by decide +kernel)⟩
theorem lw_p51 : lw_okq (⟨"SleepPostModel", "token", "()V"⟩, 79) := ⟨⟨by decide +kernel, by decide +kernel⟩, List.mem_of_getElem? (i := 1401) (by decide +kernel), List.mem_of_getElem? (i := 1669) (by decide +kernel), List.mem_of_getElem? (i := 1670) (by decide +kernel)⟩
theorem lw_p52 : lw_okq (⟨"SleepPostModel", "here", "()I"⟩, 79) := ⟨⟨by decide +kernel, by decide +kernel⟩, List.mem_of_getElem? (i := 1401) (by decide +kernel), List.mem_of_getElem? (i := 1673) (by decide +kernel), List.mem_of_getElem? (i := 1674) (by decide +kernel)⟩
theorem lw_p53 : lw_okq (⟨"SleepPostModel", "word", "()I"⟩, 79) := ⟨⟨by decide +kernel, by decide +kernel⟩, List.mem_of_getElem? (i := 1401) (by decide +kernel), List.mem_of_getElem? (i := 1680) (by decide +kernel), List.mem_of_getElem? (i := 1681) (by decide +kernel)⟩
theorem lw_p54 : lw_okq (⟨"SleepPostModel", "name", "()V"⟩, 79) := ⟨⟨by decide +kernel, by decide +kernel⟩, List.mem_of_getElem? (i := 1401) (by decide +kernel), List.mem_of_getElem? (i := 1687) (by decide +kernel), List.mem_of_getElem? (i := 1688) (by decide +kernel)⟩
theorem lw_p55 : lw_okq (⟨"SleepPostModel", "sign", "(I)V"⟩, 79) := ⟨⟨by decide +kernel, by decide +kernel⟩, List.mem_of_getElem? (i := 1401) (by decide +kernel), List.mem_of_getElem? (i := 1695) (by decide +kernel), List.mem_of_getElem? (i := 1696) (by decide +kernel)⟩
theorem lw_p56 : lw_okq (⟨"SleepPostModel", "line", "()V"⟩, 79) := ⟨⟨by decide +kernel, by decide +kernel⟩, List.mem_of_getElem? (i := 1401) (by decide +kernel), List.mem_of_getElem? (i := 1699) (by decide +kernel), List.mem_of_getElem? (i := 1700) (by decide +kernel)⟩
theorem lw_p57 : lw_okq (⟨"SleepPostModel", "wrong", "(I)V"⟩, 79) := ⟨⟨by decide +kernel, by decide +kernel⟩, List.mem_of_getElem? (i := 1401) (by decide +kernel), List.mem_of_getElem? (i := 1703) (by decide +kernel), List.mem_of_getElem? (i := 1704) (by decide +kernel)⟩
theorem lw_p58 : lw_okq (⟨"SleepPostModel", "isFull", "(I)Z"⟩, 79) := ⟨⟨by decide +kernel, by decide +kernel⟩, List.mem_of_getElem? (i := 1401) (by decide +kernel), List.mem_of_getElem? (i := 1707) (by decide +kernel), List.mem_of_getElem? (i := 1708) (by decide +kernel)⟩
theorem lw_p59 : lw_okq (⟨"SleepPostModel", "fresher", "(I)I"⟩, 79) := ⟨⟨by decide +kernel, by decide +kernel⟩, List.mem_of_getElem? (i := 1401) (by decide +kernel), List.mem_of_getElem? (i := 1711) (by decide +kernel), List.mem_of_getElem? (i := 1712) (by decide +kernel)⟩
theorem lw_p60 : lw_okq (⟨"SleepPostModel", "fresh", "([III)I"⟩, 79) := ⟨⟨by decide +kernel, by decide +kernel⟩, List.mem_of_getElem? (i := 1401) (by decide +kernel), List.mem_of_getElem? (i := 1715) (by decide +kernel), List.mem_of_getElem? (i := 1716) (by decide +kernel)⟩
theorem lw_p61 : lw_okq (⟨"SleepPostModel", "streetLine", "(I)V"⟩, 79) := ⟨⟨by decide +kernel, by decide +kernel⟩, List.mem_of_getElem? (i := 1401) (by decide +kernel), List.mem_of_getElem? (i := 1722) (by decide +kernel), List.mem_of_getElem? (i := 1723) (by decide +kernel)⟩
theorem lw_p62 : lw_okq (⟨"SleepPostModel", "houseAhead", "()I"⟩, 79) := ⟨⟨by decide +kernel, by decide +kernel⟩, List.mem_of_getElem? (i := 1401) (by decide +kernel), List.mem_of_getElem? (i := 1726) (by decide +kernel), List.mem_of_getElem? (i := 1727) (by decide +kernel)⟩
theorem lw_p63 : lw_okq (⟨"SleepPostModel", "houseAtHand", "()I"⟩, 79) := ⟨⟨by decide +kernel, by decide +kernel⟩, List.mem_of_getElem? (i := 1401) (by decide +kernel), List.mem_of_getElem? (i := 1730) (by decide +kernel), List.mem_of_getElem? (i := 1731) (by decide +kernel)⟩
def lw_privs_4 : List (MethodName × Nat) := [(⟨"SleepPostModel", "begins", "()V"⟩, 79), (⟨"SleepPostModel", "starts", "(I)V"⟩, 79), (⟨"SleepPostModel", "reads", "(II)V"⟩, 79), (⟨"SleepPostModel", "token", "()V"⟩, 79), (⟨"SleepPostModel", "here", "()I"⟩, 79), (⟨"SleepPostModel", "word", "()I"⟩, 79), (⟨"SleepPostModel", "name", "()V"⟩, 79), (⟨"SleepPostModel", "sign", "(I)V"⟩, 79), (⟨"SleepPostModel", "line", "()V"⟩, 79), (⟨"SleepPostModel", "wrong", "(I)V"⟩, 79), (⟨"SleepPostModel", "isFull", "(I)Z"⟩, 79), (⟨"SleepPostModel", "fresher", "(I)I"⟩, 79), (⟨"SleepPostModel", "fresh", "([III)I"⟩, 79), (⟨"SleepPostModel", "streetLine", "(I)V"⟩, 79), (⟨"SleepPostModel", "houseAhead", "()I"⟩, 79), (⟨"SleepPostModel", "houseAtHand", "()I"⟩, 79)]
theorem lw_r4 : ∀ q ∈ lw_privs_4, lw_okq q := List.forall_mem_cons.mpr ⟨lw_p48, List.forall_mem_cons.mpr ⟨lw_p49, List.forall_mem_cons.mpr ⟨lw_p50, List.forall_mem_cons.mpr ⟨lw_p51, List.forall_mem_cons.mpr ⟨lw_p52, List.forall_mem_cons.mpr ⟨lw_p53, List.forall_mem_cons.mpr ⟨lw_p54, List.forall_mem_cons.mpr ⟨lw_p55, List.forall_mem_cons.mpr ⟨lw_p56, List.forall_mem_cons.mpr ⟨lw_p57, List.forall_mem_cons.mpr ⟨lw_p58, List.forall_mem_cons.mpr ⟨lw_p59, List.forall_mem_cons.mpr ⟨lw_p60, List.forall_mem_cons.mpr ⟨lw_p61, List.forall_mem_cons.mpr ⟨lw_p62, List.forall_mem_cons.mpr ⟨lw_p63, fun _ h => absurd h List.not_mem_nil⟩⟩⟩⟩⟩⟩⟩⟩⟩⟩⟩⟩⟩⟩⟩⟩
theorem lw_p64 : lw_okq (⟨"SleepPostModel", "atHand", "([III)I"⟩, 79) := ⟨⟨by decide +kernel, by decide +kernel⟩, List.mem_of_getElem? (i := 1401) (by decide +kernel), List.mem_of_getElem? (i := 1734) (by decide +kernel), List.mem_of_getElem? (i := 1735) (by decide +kernel)⟩
theorem lw_p65 : lw_okq (⟨"SleepPostModel", "goOn", "()V"⟩, 79) := ⟨⟨by decide +kernel, by decide +kernel⟩, List.mem_of_getElem? (i := 1401) (by decide +kernel), List.mem_of_getElem? (i := 1738) (by decide +kernel), List.mem_of_getElem? (i := 1739) (by decide +kernel)⟩
theorem lw_p66 : lw_okq (⟨"SleepPostModel", "numeral", "(II)I"⟩, 79) := ⟨⟨by decide +kernel, by decide +kernel⟩, List.mem_of_getElem? (i := 1401) (by decide +kernel), List.mem_of_getElem? (i := 1742) (by decide +kernel), List.mem_of_getElem? (i := 1743) (by decide +kernel)⟩
theorem lw_p67 : lw_okq (⟨"SleepPostModel", "sleeperAhead", "()I"⟩, 79) := ⟨⟨by decide +kernel, by decide +kernel⟩, List.mem_of_getElem? (i := 1401) (by decide +kernel), List.mem_of_getElem? (i := 1746) (by decide +kernel), List.mem_of_getElem? (i := 1747) (by decide +kernel)⟩
theorem lw_p68 : lw_okq (⟨"SleepPostModel", "loudLine", "([I)V"⟩, 79) := ⟨⟨by decide +kernel, by decide +kernel⟩, List.mem_of_getElem? (i := 1401) (by decide +kernel), List.mem_of_getElem? (i := 1750) (by decide +kernel), List.mem_of_getElem? (i := 1751) (by decide +kernel)⟩
theorem lw_p69 : lw_okq (⟨"SleepPostModel", "catLine", "()V"⟩, 79) := ⟨⟨by decide +kernel, by decide +kernel⟩, List.mem_of_getElem? (i := 1401) (by decide +kernel), List.mem_of_getElem? (i := 1754) (by decide +kernel), List.mem_of_getElem? (i := 1755) (by decide +kernel)⟩
theorem lw_p70 : lw_okq (⟨"SleepPostModel", "lawLine", "()V"⟩, 79) := ⟨⟨by decide +kernel, by decide +kernel⟩, List.mem_of_getElem? (i := 1401) (by decide +kernel), List.mem_of_getElem? (i := 1758) (by decide +kernel), List.mem_of_getElem? (i := 1759) (by decide +kernel)⟩
theorem lw_p71 : lw_okq (⟨"SleepPostModel", "expression", "()V"⟩, 79) := ⟨⟨by decide +kernel, by decide +kernel⟩, List.mem_of_getElem? (i := 1401) (by decide +kernel), List.mem_of_getElem? (i := 1762) (by decide +kernel), List.mem_of_getElem? (i := 1763) (by decide +kernel)⟩
theorem lw_p72 : lw_okq (⟨"SleepPostModel", "conjunction", "()V"⟩, 79) := ⟨⟨by decide +kernel, by decide +kernel⟩, List.mem_of_getElem? (i := 1401) (by decide +kernel), List.mem_of_getElem? (i := 1766) (by decide +kernel), List.mem_of_getElem? (i := 1767) (by decide +kernel)⟩
theorem lw_p73 : lw_okq (⟨"SleepPostModel", "negation", "()V"⟩, 79) := ⟨⟨by decide +kernel, by decide +kernel⟩, List.mem_of_getElem? (i := 1401) (by decide +kernel), List.mem_of_getElem? (i := 1770) (by decide +kernel), List.mem_of_getElem? (i := 1771) (by decide +kernel)⟩
theorem lw_p74 : lw_okq (⟨"SleepPostModel", "isWord", "(I)Z"⟩, 79) := ⟨⟨by decide +kernel, by decide +kernel⟩, List.mem_of_getElem? (i := 1401) (by decide +kernel), List.mem_of_getElem? (i := 1774) (by decide +kernel), List.mem_of_getElem? (i := 1775) (by decide +kernel)⟩
theorem lw_p75 : lw_okq (⟨"SleepPostModel", "knot", "()V"⟩, 79) := ⟨⟨by decide +kernel, by decide +kernel⟩, List.mem_of_getElem? (i := 1401) (by decide +kernel), List.mem_of_getElem? (i := 1778) (by decide +kernel), List.mem_of_getElem? (i := 1779) (by decide +kernel)⟩
theorem lw_p76 : lw_okq (⟨"SleepPostModel", "puts", "(II)V"⟩, 79) := ⟨⟨by decide +kernel, by decide +kernel⟩, List.mem_of_getElem? (i := 1401) (by decide +kernel), List.mem_of_getElem? (i := 1782) (by decide +kernel), List.mem_of_getElem? (i := 1783) (by decide +kernel)⟩
theorem lw_p77 : lw_okq (⟨"SleepPostModel", "sum", "()V"⟩, 79) := ⟨⟨by decide +kernel, by decide +kernel⟩, List.mem_of_getElem? (i := 1401) (by decide +kernel), List.mem_of_getElem? (i := 1786) (by decide +kernel), List.mem_of_getElem? (i := 1787) (by decide +kernel)⟩
theorem lw_p78 : lw_okq (⟨"SleepPostModel", "product", "()V"⟩, 79) := ⟨⟨by decide +kernel, by decide +kernel⟩, List.mem_of_getElem? (i := 1401) (by decide +kernel), List.mem_of_getElem? (i := 1790) (by decide +kernel), List.mem_of_getElem? (i := 1791) (by decide +kernel)⟩
theorem lw_p79 : lw_okq (⟨"SleepPostModel", "primary", "()V"⟩, 79) := ⟨⟨by decide +kernel, by decide +kernel⟩, List.mem_of_getElem? (i := 1401) (by decide +kernel), List.mem_of_getElem? (i := 1794) (by decide +kernel), List.mem_of_getElem? (i := 1795) (by decide +kernel)⟩
def lw_privs_5 : List (MethodName × Nat) := [(⟨"SleepPostModel", "atHand", "([III)I"⟩, 79), (⟨"SleepPostModel", "goOn", "()V"⟩, 79), (⟨"SleepPostModel", "numeral", "(II)I"⟩, 79), (⟨"SleepPostModel", "sleeperAhead", "()I"⟩, 79), (⟨"SleepPostModel", "loudLine", "([I)V"⟩, 79), (⟨"SleepPostModel", "catLine", "()V"⟩, 79), (⟨"SleepPostModel", "lawLine", "()V"⟩, 79), (⟨"SleepPostModel", "expression", "()V"⟩, 79), (⟨"SleepPostModel", "conjunction", "()V"⟩, 79), (⟨"SleepPostModel", "negation", "()V"⟩, 79), (⟨"SleepPostModel", "isWord", "(I)Z"⟩, 79), (⟨"SleepPostModel", "knot", "()V"⟩, 79), (⟨"SleepPostModel", "puts", "(II)V"⟩, 79), (⟨"SleepPostModel", "sum", "()V"⟩, 79), (⟨"SleepPostModel", "product", "()V"⟩, 79), (⟨"SleepPostModel", "primary", "()V"⟩, 79)]
theorem lw_r5 : ∀ q ∈ lw_privs_5, lw_okq q := List.forall_mem_cons.mpr ⟨lw_p64, List.forall_mem_cons.mpr ⟨lw_p65, List.forall_mem_cons.mpr ⟨lw_p66, List.forall_mem_cons.mpr ⟨lw_p67, List.forall_mem_cons.mpr ⟨lw_p68, List.forall_mem_cons.mpr ⟨lw_p69, List.forall_mem_cons.mpr ⟨lw_p70, List.forall_mem_cons.mpr ⟨lw_p71, List.forall_mem_cons.mpr ⟨lw_p72, List.forall_mem_cons.mpr ⟨lw_p73, List.forall_mem_cons.mpr ⟨lw_p74, List.forall_mem_cons.mpr ⟨lw_p75, List.forall_mem_cons.mpr ⟨lw_p76, List.forall_mem_cons.mpr ⟨lw_p77, List.forall_mem_cons.mpr ⟨lw_p78, List.forall_mem_cons.mpr ⟨lw_p79, fun _ h => absurd h List.not_mem_nil⟩⟩⟩⟩⟩⟩⟩⟩⟩⟩⟩⟩⟩⟩⟩⟩
theorem lw_p80 : lw_okq (⟨"SleepPostModel", "isSign", "(I)Z"⟩, 79) := ⟨⟨by decide +kernel, by decide +kernel⟩, List.mem_of_getElem? (i := 1401) (by decide +kernel), List.mem_of_getElem? (i := 1798) (by decide +kernel), List.mem_of_getElem? (i := 1799) (by decide +kernel)⟩
theorem lw_p81 : lw_okq (⟨"SleepPostModel", "isSleeper", "(I)Z"⟩, 79) := ⟨⟨by decide +kernel, by decide +kernel⟩, List.mem_of_getElem? (i := 1401) (by decide +kernel), List.mem_of_getElem? (i := 1817) (by decide +kernel), List.mem_of_getElem? (i := 1818) (by decide +kernel)⟩
theorem lw_p82 : lw_okq (⟨"SleepPostModel", "inHand", "(II)I"⟩, 79) := ⟨⟨by decide +kernel, by decide +kernel⟩, List.mem_of_getElem? (i := 1401) (by decide +kernel), List.mem_of_getElem? (i := 1821) (by decide +kernel), List.mem_of_getElem? (i := 1822) (by decide +kernel)⟩
theorem lw_p83 : lw_okq (⟨"SleepPostModel", "isLetter", "(I)Z"⟩, 79) := ⟨⟨by decide +kernel, by decide +kernel⟩, List.mem_of_getElem? (i := 1401) (by decide +kernel), List.mem_of_getElem? (i := 1829) (by decide +kernel), List.mem_of_getElem? (i := 1830) (by decide +kernel)⟩
theorem lw_p84 : lw_okq (⟨"SleepPostModel", "isHouse", "(I)Z"⟩, 79) := ⟨⟨by decide +kernel, by decide +kernel⟩, List.mem_of_getElem? (i := 1401) (by decide +kernel), List.mem_of_getElem? (i := 1837) (by decide +kernel), List.mem_of_getElem? (i := 1838) (by decide +kernel)⟩
theorem lw_p85 : lw_okq (⟨"SleepPostModel", "layFar", "()V"⟩, 79) := ⟨⟨by decide +kernel, by decide +kernel⟩, List.mem_of_getElem? (i := 1401) (by decide +kernel), List.mem_of_getElem? (i := 1841) (by decide +kernel), List.mem_of_getElem? (i := 1842) (by decide +kernel)⟩
theorem lw_p86 : lw_okq (⟨"SleepPostModel", "isGone", "(I)Z"⟩, 79) := ⟨⟨by decide +kernel, by decide +kernel⟩, List.mem_of_getElem? (i := 1401) (by decide +kernel), List.mem_of_getElem? (i := 1845) (by decide +kernel), List.mem_of_getElem? (i := 1846) (by decide +kernel)⟩
theorem lw_p87 : lw_okq (⟨"SleepPostModel", "lightAt", "(III)I"⟩, 79) := ⟨⟨by decide +kernel, by decide +kernel⟩, List.mem_of_getElem? (i := 1401) (by decide +kernel), List.mem_of_getElem? (i := 1854) (by decide +kernel), List.mem_of_getElem? (i := 1855) (by decide +kernel)⟩
theorem lw_p88 : lw_okq (⟨"SleepPostModel", "noiseAt", "(II)I"⟩, 79) := ⟨⟨by decide +kernel, by decide +kernel⟩, List.mem_of_getElem? (i := 1401) (by decide +kernel), List.mem_of_getElem? (i := 1858) (by decide +kernel), List.mem_of_getElem? (i := 1859) (by decide +kernel)⟩
theorem lw_p89 : lw_okq (⟨"SleepPostModel", "hasLaw", "(I)Z"⟩, 79) := ⟨⟨by decide +kernel, by decide +kernel⟩, List.mem_of_getElem? (i := 1401) (by decide +kernel), List.mem_of_getElem? (i := 1866) (by decide +kernel), List.mem_of_getElem? (i := 1867) (by decide +kernel)⟩
theorem lw_p90 : lw_okq (⟨"SleepPostModel", "streetTo", "(II)I"⟩, 79) := ⟨⟨by decide +kernel, by decide +kernel⟩, List.mem_of_getElem? (i := 1401) (by decide +kernel), List.mem_of_getElem? (i := 1871) (by decide +kernel), List.mem_of_getElem? (i := 1872) (by decide +kernel)⟩
theorem lw_p91 : lw_okq (⟨"SleepPostModel", "calls", "(IIII)V"⟩, 79) := ⟨⟨by decide +kernel, by decide +kernel⟩, List.mem_of_getElem? (i := 1401) (by decide +kernel), List.mem_of_getElem? (i := 1875) (by decide +kernel), List.mem_of_getElem? (i := 1876) (by decide +kernel)⟩
theorem lw_p92 : lw_okq (⟨"SleepPostModel", "deepOf", "(I)I"⟩, 79) := ⟨⟨by decide +kernel, by decide +kernel⟩, List.mem_of_getElem? (i := 1401) (by decide +kernel), List.mem_of_getElem? (i := 1879) (by decide +kernel), List.mem_of_getElem? (i := 1880) (by decide +kernel)⟩
theorem lw_p93 : lw_okq (⟨"SleepPostModel", "dreamOf", "(I)I"⟩, 79) := ⟨⟨by decide +kernel, by decide +kernel⟩, List.mem_of_getElem? (i := 1401) (by decide +kernel), List.mem_of_getElem? (i := 1883) (by decide +kernel), List.mem_of_getElem? (i := 1884) (by decide +kernel)⟩
theorem lw_p94 : lw_okq (⟨"SleepPostModel", "goes", "(I)Z"⟩, 79) := ⟨⟨by decide +kernel, by decide +kernel⟩, List.mem_of_getElem? (i := 1401) (by decide +kernel), List.mem_of_getElem? (i := 1890) (by decide +kernel), List.mem_of_getElem? (i := 1891) (by decide +kernel)⟩
theorem lw_p95 : lw_okq (⟨"SleepPostModel", "works", "(I)Z"⟩, 79) := ⟨⟨by decide +kernel, by decide +kernel⟩, List.mem_of_getElem? (i := 1401) (by decide +kernel), List.mem_of_getElem? (i := 1894) (by decide +kernel), List.mem_of_getElem? (i := 1895) (by decide +kernel)⟩
def lw_privs_6 : List (MethodName × Nat) := [(⟨"SleepPostModel", "isSign", "(I)Z"⟩, 79), (⟨"SleepPostModel", "isSleeper", "(I)Z"⟩, 79), (⟨"SleepPostModel", "inHand", "(II)I"⟩, 79), (⟨"SleepPostModel", "isLetter", "(I)Z"⟩, 79), (⟨"SleepPostModel", "isHouse", "(I)Z"⟩, 79), (⟨"SleepPostModel", "layFar", "()V"⟩, 79), (⟨"SleepPostModel", "isGone", "(I)Z"⟩, 79), (⟨"SleepPostModel", "lightAt", "(III)I"⟩, 79), (⟨"SleepPostModel", "noiseAt", "(II)I"⟩, 79), (⟨"SleepPostModel", "hasLaw", "(I)Z"⟩, 79), (⟨"SleepPostModel", "streetTo", "(II)I"⟩, 79), (⟨"SleepPostModel", "calls", "(IIII)V"⟩, 79), (⟨"SleepPostModel", "deepOf", "(I)I"⟩, 79), (⟨"SleepPostModel", "dreamOf", "(I)I"⟩, 79), (⟨"SleepPostModel", "goes", "(I)Z"⟩, 79), (⟨"SleepPostModel", "works", "(I)Z"⟩, 79)]
theorem lw_r6 : ∀ q ∈ lw_privs_6, lw_okq q := List.forall_mem_cons.mpr ⟨lw_p80, List.forall_mem_cons.mpr ⟨lw_p81, List.forall_mem_cons.mpr ⟨lw_p82, List.forall_mem_cons.mpr ⟨lw_p83, List.forall_mem_cons.mpr ⟨lw_p84, List.forall_mem_cons.mpr ⟨lw_p85, List.forall_mem_cons.mpr ⟨lw_p86, List.forall_mem_cons.mpr ⟨lw_p87, List.forall_mem_cons.mpr ⟨lw_p88, List.forall_mem_cons.mpr ⟨lw_p89, List.forall_mem_cons.mpr ⟨lw_p90, List.forall_mem_cons.mpr ⟨lw_p91, List.forall_mem_cons.mpr ⟨lw_p92, List.forall_mem_cons.mpr ⟨lw_p93, List.forall_mem_cons.mpr ⟨lw_p94, List.forall_mem_cons.mpr ⟨lw_p95, fun _ h => absurd h List.not_mem_nil⟩⟩⟩⟩⟩⟩⟩⟩⟩⟩⟩⟩⟩⟩⟩⟩
theorem lw_p96 : lw_okq (⟨"SleepPostModel", "keepNow", "()V"⟩, 79) := ⟨⟨by decide +kernel, by decide +kernel⟩, List.mem_of_getElem? (i := 1401) (by decide +kernel), List.mem_of_getElem? (i := 1908) (by decide +kernel), List.mem_of_getElem? (i := 1909) (by decide +kernel)⟩
theorem lw_p97 : lw_okq (⟨"SleepPostModel", "copies", "(II)V"⟩, 79) := ⟨⟨by decide +kernel, by decide +kernel⟩, List.mem_of_getElem? (i := 1401) (by decide +kernel), List.mem_of_getElem? (i := 1912) (by decide +kernel), List.mem_of_getElem? (i := 1913) (by decide +kernel)⟩
theorem lw_p98 : lw_okq (⟨"SleepPostModel", "passes", "(IZ)V"⟩, 79) := ⟨⟨by decide +kernel, by decide +kernel⟩, List.mem_of_getElem? (i := 1401) (by decide +kernel), List.mem_of_getElem? (i := 1928) (by decide +kernel), List.mem_of_getElem? (i := 1929) (by decide +kernel)⟩
theorem lw_p99 : lw_okq (⟨"SleepPostModel", "walks", "(IIZ)V"⟩, 79) := ⟨⟨by decide +kernel, by decide +kernel⟩, List.mem_of_getElem? (i := 1401) (by decide +kernel), List.mem_of_getElem? (i := 1932) (by decide +kernel), List.mem_of_getElem? (i := 1933) (by decide +kernel)⟩
theorem lw_p100 : lw_okq (⟨"SleepPostModel", "takes", "(III)V"⟩, 79) := ⟨⟨by decide +kernel, by decide +kernel⟩, List.mem_of_getElem? (i := 1401) (by decide +kernel), List.mem_of_getElem? (i := 1936) (by decide +kernel), List.mem_of_getElem? (i := 1937) (by decide +kernel)⟩
theorem lw_p101 : lw_okq (⟨"SleepPostModel", "goesTo", "(III)I"⟩, 79) := ⟨⟨by decide +kernel, by decide +kernel⟩, List.mem_of_getElem? (i := 1401) (by decide +kernel), List.mem_of_getElem? (i := 1940) (by decide +kernel), List.mem_of_getElem? (i := 1941) (by decide +kernel)⟩
theorem lw_p102 : lw_okq (⟨"SleepPostModel", "pullOf", "(IIII)J"⟩, 79) := ⟨⟨by decide +kernel, by decide +kernel⟩, List.mem_of_getElem? (i := 1401) (by decide +kernel), List.mem_of_getElem? (i := 1944) (by decide +kernel), List.mem_of_getElem? (i := 1945) (by decide +kernel)⟩
theorem lw_p103 : lw_okq (⟨"SleepPostModel", "arrive", "(III)V"⟩, 79) := ⟨⟨by decide +kernel, by decide +kernel⟩, List.mem_of_getElem? (i := 1401) (by decide +kernel), List.mem_of_getElem? (i := 1949) (by decide +kernel), List.mem_of_getElem? (i := 1950) (by decide +kernel)⟩
theorem lw_p104 : lw_okq (⟨"SleepPostModel", "isDropped", "(III)Z"⟩, 79) := ⟨⟨by decide +kernel, by decide +kernel⟩, List.mem_of_getElem? (i := 1401) (by decide +kernel), List.mem_of_getElem? (i := 1953) (by decide +kernel), List.mem_of_getElem? (i := 1954) (by decide +kernel)⟩
theorem lw_p105 : lw_okq (⟨"SleepPostModel", "laysDown", "(III)V"⟩, 79) := ⟨⟨by decide +kernel, by decide +kernel⟩, List.mem_of_getElem? (i := 1401) (by decide +kernel), List.mem_of_getElem? (i := 1957) (by decide +kernel), List.mem_of_getElem? (i := 1958) (by decide +kernel)⟩
theorem lw_p106 : lw_okq (⟨"SleepPostModel", "wakeOf", "(III)I"⟩, 79) := ⟨⟨by decide +kernel, by decide +kernel⟩, List.mem_of_getElem? (i := 1401) (by decide +kernel), List.mem_of_getElem? (i := 1961) (by decide +kernel), List.mem_of_getElem? (i := 1962) (by decide +kernel)⟩
theorem lw_p107 : lw_okq (⟨"SleepPostModel", "isWoken", "(IIZ)Z"⟩, 79) := ⟨⟨by decide +kernel, by decide +kernel⟩, List.mem_of_getElem? (i := 1401) (by decide +kernel), List.mem_of_getElem? (i := 1971) (by decide +kernel), List.mem_of_getElem? (i := 1972) (by decide +kernel)⟩
theorem lw_p108 : lw_okq (⟨"SleepPostModel", "ends", "(I)V"⟩, 79) := ⟨⟨by decide +kernel, by decide +kernel⟩, List.mem_of_getElem? (i := 1401) (by decide +kernel), List.mem_of_getElem? (i := 1977) (by decide +kernel), List.mem_of_getElem? (i := 1978) (by decide +kernel)⟩
theorem lw_p109 : lw_okq (⟨"SleepPostModel", "isTonight", "(I)Z"⟩, 79) := ⟨⟨by decide +kernel, by decide +kernel⟩, List.mem_of_getElem? (i := 1401) (by decide +kernel), List.mem_of_getElem? (i := 1985) (by decide +kernel), List.mem_of_getElem? (i := 1986) (by decide +kernel)⟩
theorem lw_p110 : lw_okq (⟨"SleepPostModel", "tonight", "()V"⟩, 79) := ⟨⟨by decide +kernel, by decide +kernel⟩, List.mem_of_getElem? (i := 1401) (by decide +kernel), List.mem_of_getElem? (i := 1989) (by decide +kernel), List.mem_of_getElem? (i := 1990) (by decide +kernel)⟩
theorem lw_p111 : lw_okq (⟨"SleepPostModel", "goesThrough", "()V"⟩, 79) := ⟨⟨by decide +kernel, by decide +kernel⟩, List.mem_of_getElem? (i := 1401) (by decide +kernel), List.mem_of_getElem? (i := 1993) (by decide +kernel), List.mem_of_getElem? (i := 1994) (by decide +kernel)⟩
def lw_privs_7 : List (MethodName × Nat) := [(⟨"SleepPostModel", "keepNow", "()V"⟩, 79), (⟨"SleepPostModel", "copies", "(II)V"⟩, 79), (⟨"SleepPostModel", "passes", "(IZ)V"⟩, 79), (⟨"SleepPostModel", "walks", "(IIZ)V"⟩, 79), (⟨"SleepPostModel", "takes", "(III)V"⟩, 79), (⟨"SleepPostModel", "goesTo", "(III)I"⟩, 79), (⟨"SleepPostModel", "pullOf", "(IIII)J"⟩, 79), (⟨"SleepPostModel", "arrive", "(III)V"⟩, 79), (⟨"SleepPostModel", "isDropped", "(III)Z"⟩, 79), (⟨"SleepPostModel", "laysDown", "(III)V"⟩, 79), (⟨"SleepPostModel", "wakeOf", "(III)I"⟩, 79), (⟨"SleepPostModel", "isWoken", "(IIZ)Z"⟩, 79), (⟨"SleepPostModel", "ends", "(I)V"⟩, 79), (⟨"SleepPostModel", "isTonight", "(I)Z"⟩, 79), (⟨"SleepPostModel", "tonight", "()V"⟩, 79), (⟨"SleepPostModel", "goesThrough", "()V"⟩, 79)]
theorem lw_r7 : ∀ q ∈ lw_privs_7, lw_okq q := List.forall_mem_cons.mpr ⟨lw_p96, List.forall_mem_cons.mpr ⟨lw_p97, List.forall_mem_cons.mpr ⟨lw_p98, List.forall_mem_cons.mpr ⟨lw_p99, List.forall_mem_cons.mpr ⟨lw_p100, List.forall_mem_cons.mpr ⟨lw_p101, List.forall_mem_cons.mpr ⟨lw_p102, List.forall_mem_cons.mpr ⟨lw_p103, List.forall_mem_cons.mpr ⟨lw_p104, List.forall_mem_cons.mpr ⟨lw_p105, List.forall_mem_cons.mpr ⟨lw_p106, List.forall_mem_cons.mpr ⟨lw_p107, List.forall_mem_cons.mpr ⟨lw_p108, List.forall_mem_cons.mpr ⟨lw_p109, List.forall_mem_cons.mpr ⟨lw_p110, List.forall_mem_cons.mpr ⟨lw_p111, fun _ h => absurd h List.not_mem_nil⟩⟩⟩⟩⟩⟩⟩⟩⟩⟩⟩⟩⟩⟩⟩⟩
theorem lw_p112 : lw_okq (⟨"SleepPostModel", "matches", "(I)Z"⟩, 79) := ⟨⟨by decide +kernel, by decide +kernel⟩, List.mem_of_getElem? (i := 1401) (by decide +kernel), List.mem_of_getElem? (i := 2001) (by decide +kernel), List.mem_of_getElem? (i := 2002) (by decide +kernel)⟩
theorem lw_p113 : lw_okq (⟨"SleepPostModel", "allArrive", "()Z"⟩, 79) := ⟨⟨by decide +kernel, by decide +kernel⟩, List.mem_of_getElem? (i := 1401) (by decide +kernel), List.mem_of_getElem? (i := 2005) (by decide +kernel), List.mem_of_getElem? (i := 2006) (by decide +kernel)⟩
theorem lw_p114 : lw_okq (⟨"SleepPostModel", "layDreamt", "(I)I"⟩, 79) := ⟨⟨by decide +kernel, by decide +kernel⟩, List.mem_of_getElem? (i := 1401) (by decide +kernel), List.mem_of_getElem? (i := 2037) (by decide +kernel), List.mem_of_getElem? (i := 2038) (by decide +kernel)⟩
theorem lw_p115 : lw_okq (⟨"SleepPostModel", "knownMany", "()I"⟩, 79) := ⟨⟨by decide +kernel, by decide +kernel⟩, List.mem_of_getElem? (i := 1401) (by decide +kernel), List.mem_of_getElem? (i := 2041) (by decide +kernel), List.mem_of_getElem? (i := 2042) (by decide +kernel)⟩
theorem lw_p116 : lw_okq (⟨"SleepPostModel", "areCorners", "(II)Z"⟩, 79) := ⟨⟨by decide +kernel, by decide +kernel⟩, List.mem_of_getElem? (i := 1401) (by decide +kernel), List.mem_of_getElem? (i := 2053) (by decide +kernel), List.mem_of_getElem? (i := 2054) (by decide +kernel)⟩
theorem lw_p117 : lw_okq (⟨"SleepPostModel", "layCorners", "(II)V"⟩, 79) := ⟨⟨by decide +kernel, by decide +kernel⟩, List.mem_of_getElem? (i := 1401) (by decide +kernel), List.mem_of_getElem? (i := 2057) (by decide +kernel), List.mem_of_getElem? (i := 2058) (by decide +kernel)⟩
theorem lw_p118 : lw_okq (⟨"SleepPostModel", "standing", "(I)I"⟩, 79) := ⟨⟨by decide +kernel, by decide +kernel⟩, List.mem_of_getElem? (i := 1401) (by decide +kernel), List.mem_of_getElem? (i := 2061) (by decide +kernel), List.mem_of_getElem? (i := 2062) (by decide +kernel)⟩
theorem lw_p119 : lw_okq (⟨"SleepPostModel", "restOf", "(I)I"⟩, 79) := ⟨⟨by decide +kernel, by decide +kernel⟩, List.mem_of_getElem? (i := 1401) (by decide +kernel), List.mem_of_getElem? (i := 2065) (by decide +kernel), List.mem_of_getElem? (i := 2066) (by decide +kernel)⟩
theorem lw_p120 : lw_okq (⟨"SleepPostModel", "isRest", "(II)Z"⟩, 79) := ⟨⟨by decide +kernel, by decide +kernel⟩, List.mem_of_getElem? (i := 1401) (by decide +kernel), List.mem_of_getElem? (i := 2069) (by decide +kernel), List.mem_of_getElem? (i := 2070) (by decide +kernel)⟩
theorem lw_p121 : lw_okq (⟨"SleepPostModel", "arrivedBy", "(I)I"⟩, 79) := ⟨⟨by decide +kernel, by decide +kernel⟩, List.mem_of_getElem? (i := 1401) (by decide +kernel), List.mem_of_getElem? (i := 2085) (by decide +kernel), List.mem_of_getElem? (i := 2086) (by decide +kernel)⟩
theorem lw_p122 : lw_okq (⟨"SleepPostModel", "arrived", "(I)I"⟩, 79) := ⟨⟨by decide +kernel, by decide +kernel⟩, List.mem_of_getElem? (i := 1401) (by decide +kernel), List.mem_of_getElem? (i := 2089) (by decide +kernel), List.mem_of_getElem? (i := 2090) (by decide +kernel)⟩
theorem lw_p123 : lw_okq (⟨"SleepPostModel", "dreamsOn", "()V"⟩, 79) := ⟨⟨by decide +kernel, by decide +kernel⟩, List.mem_of_getElem? (i := 1401) (by decide +kernel), List.mem_of_getElem? (i := 2102) (by decide +kernel), List.mem_of_getElem? (i := 2103) (by decide +kernel)⟩
theorem lw_p124 : lw_okq (⟨"SleepPostModel", "draw", "(I)I"⟩, 79) := ⟨⟨by decide +kernel, by decide +kernel⟩, List.mem_of_getElem? (i := 1401) (by decide +kernel), List.mem_of_getElem? (i := 2106) (by decide +kernel), List.mem_of_getElem? (i := 2107) (by decide +kernel)⟩
def lw_privs_8 : List (MethodName × Nat) := [(⟨"SleepPostModel", "matches", "(I)Z"⟩, 79), (⟨"SleepPostModel", "allArrive", "()Z"⟩, 79), (⟨"SleepPostModel", "layDreamt", "(I)I"⟩, 79), (⟨"SleepPostModel", "knownMany", "()I"⟩, 79), (⟨"SleepPostModel", "areCorners", "(II)Z"⟩, 79), (⟨"SleepPostModel", "layCorners", "(II)V"⟩, 79), (⟨"SleepPostModel", "standing", "(I)I"⟩, 79), (⟨"SleepPostModel", "restOf", "(I)I"⟩, 79), (⟨"SleepPostModel", "isRest", "(II)Z"⟩, 79), (⟨"SleepPostModel", "arrivedBy", "(I)I"⟩, 79), (⟨"SleepPostModel", "arrived", "(I)I"⟩, 79), (⟨"SleepPostModel", "dreamsOn", "()V"⟩, 79), (⟨"SleepPostModel", "draw", "(I)I"⟩, 79)]
theorem lw_r8 : ∀ q ∈ lw_privs_8, lw_okq q := List.forall_mem_cons.mpr ⟨lw_p112, List.forall_mem_cons.mpr ⟨lw_p113, List.forall_mem_cons.mpr ⟨lw_p114, List.forall_mem_cons.mpr ⟨lw_p115, List.forall_mem_cons.mpr ⟨lw_p116, List.forall_mem_cons.mpr ⟨lw_p117, List.forall_mem_cons.mpr ⟨lw_p118, List.forall_mem_cons.mpr ⟨lw_p119, List.forall_mem_cons.mpr ⟨lw_p120, List.forall_mem_cons.mpr ⟨lw_p121, List.forall_mem_cons.mpr ⟨lw_p122, List.forall_mem_cons.mpr ⟨lw_p123, List.forall_mem_cons.mpr ⟨lw_p124, fun _ h => absurd h List.not_mem_nil⟩⟩⟩⟩⟩⟩⟩⟩⟩⟩⟩⟩⟩
def lw_privs : List (MethodName × Nat) := lw_privs_1 ++ (lw_privs_2 ++ (lw_privs_3 ++ (lw_privs_4 ++ (lw_privs_5 ++ (lw_privs_6 ++ (lw_privs_7 ++ (lw_privs_8)))))))
def lw_tbl : List Cond := k2_sels lw_privs ++ tables_1
theorem lw_privs_ok : ∀ q ∈ lw_privs, lw_okq q := by
  show ∀ q ∈ lw_privs_1 ++ (lw_privs_2 ++ (lw_privs_3 ++ (lw_privs_4 ++ (lw_privs_5 ++ (lw_privs_6 ++ (lw_privs_7 ++ (lw_privs_8))))))), lw_okq q
  exact List.forall_mem_append.mpr ⟨lw_r1, List.forall_mem_append.mpr ⟨lw_r2, List.forall_mem_append.mpr ⟨lw_r3, List.forall_mem_append.mpr ⟨lw_r4, List.forall_mem_append.mpr ⟨lw_r5, List.forall_mem_append.mpr ⟨lw_r6, List.forall_mem_append.mpr ⟨lw_r7, lw_r8⟩⟩⟩⟩⟩⟩⟩
def RX0 : String := "SleepPost$Changes"
def TX0 : u_T := fun k => match k with
  | 0 => ("SleepPost$Changes", "size", "I", false)
  | 1 => ("SleepPost$Changes", "kind", "[I", true)
  | 2 => ("SleepPost$Changes", "which", "[I", true)
  | _ => ("SleepPost$Changes", "before", "[I", true)
def tyX0 : Nat → FieldType := fun k => match k with
  | 0 => .int
  | 1 => .array .int
  | 2 => .array .int
  | _ => .array .int
abbrev wsX00 : List Cond := u_ws RX0 TX0 4
theorem nmX0 : ∀ a, a < 4 → ∀ b, b < 4 → a ≠ b → (TX0 a).2.1 ≠ (TX0 b).2.1 := by decide +kernel
theorem tyX0_ok : ∀ k, k < 4 → parseFieldDescriptor (TX0 k).2.2.1 = some (tyX0 k) := by decide +kernel
def RX1 : String := "SleepPost$Expression"
def TX1 : u_T := fun k => match k with
  | 0 => ("SleepPost$Expression", "tokens", "LSleepPost$Tokens;", true)
  | 1 => ("SleepPost$Expression", "laws", "LSleepPost$Laws;", false)
  | 2 => ("SleepPost$Expression", "rule", "I", false)
  | 3 => ("SleepPost$Expression", "waiting", "[I", true)
  | 4 => ("SleepPost$Expression", "waits", "I", false)
  | 5 => ("SleepPost$Expression", "compared", "[Z", true)
  | 6 => ("SleepPost$Expression", "open", "I", false)
  | 7 => ("SleepPost$Expression", "sideDue", "Z", false)
  | _ => ("SleepPost$Expression", "notMayStand", "Z", false)
def tyX1 : Nat → FieldType := fun k => match k with
  | 0 => .object "SleepPost$Tokens"
  | 1 => .object "SleepPost$Laws"
  | 2 => .int
  | 3 => .array .int
  | 4 => .int
  | 5 => .array .boolean
  | 6 => .int
  | 7 => .boolean
  | _ => .boolean
abbrev wsX10 : List Cond := u_ws RX1 TX1 9
theorem nmX1 : ∀ a, a < 9 → ∀ b, b < 9 → a ≠ b → (TX1 a).2.1 ≠ (TX1 b).2.1 := by decide +kernel
theorem tyX1_ok : ∀ k, k < 9 → parseFieldDescriptor (TX1 k).2.2.1 = some (tyX1 k) := by decide +kernel
def RX2 : String := "SleepPost$Laws"
def TX2 : u_T := fun k => match k with
  | 0 => ("SleepPost$Laws", "knots", "I", false)
  | 1 => ("SleepPost$Laws", "written", "I", false)
  | 2 => ("SleepPost$Laws", "row", "[I", true)
  | 3 => ("SleepPost$Laws", "start", "[I", true)
  | 4 => ("SleepPost$Laws", "end", "[I", true)
  | _ => ("SleepPost$Laws", "used", "[I", true)
def tyX2 : Nat → FieldType := fun k => match k with
  | 0 => .int
  | 1 => .int
  | 2 => .array .int
  | 3 => .array .int
  | 4 => .array .int
  | _ => .array .int
abbrev wsX20 : List Cond := u_ws RX2 TX2 6
theorem nmX2 : ∀ a, a < 6 → ∀ b, b < 6 → a ≠ b → (TX2 a).2.1 ≠ (TX2 b).2.1 := by decide +kernel
theorem tyX2_ok : ∀ k, k < 6 → parseFieldDescriptor (TX2 k).2.2.1 = some (tyX2 k) := by decide +kernel
def RX3 : String := "SleepPost$Night"
def TX3 : u_T := fun k => match k with
  | 0 => ("SleepPost$Night", "reckoner", "LSleepPost$Reckoner;", true)
  | 1 => ("SleepPost$Night", "town", "LSleepPost$Town;", false)
  | 2 => ("SleepPost$Night", "ways", "[I", false)
  | 3 => ("SleepPost$Night", "far", "[I", false)
  | 4 => ("SleepPost$Night", "otherWays", "[I", true)
  | 5 => ("SleepPost$Night", "otherFar", "[I", true)
  | 6 => ("SleepPost$Night", "path", "[I", true)
  | 7 => ("SleepPost$Night", "noise", "[I", true)
  | 8 => ("SleepPost$Night", "deep", "[I", true)
  | 9 => ("SleepPost$Night", "dream", "[I", true)
  | 10 => ("SleepPost$Night", "walkers", "I", false)
  | 11 => ("SleepPost$Night", "dark", "Z", false)
  | _ => ("SleepPost$Night", "byNumbers", "Z", false)
def tyX3 : Nat → FieldType := fun k => match k with
  | 0 => .object "SleepPost$Reckoner"
  | 1 => .object "SleepPost$Town"
  | 2 => .array .int
  | 3 => .array .int
  | 4 => .array .int
  | 5 => .array .int
  | 6 => .array .int
  | 7 => .array .int
  | 8 => .array .int
  | 9 => .array .int
  | 10 => .int
  | 11 => .boolean
  | _ => .boolean
abbrev wsX30 : List Cond := u_ws RX3 TX3 13
theorem nmX3 : ∀ a, a < 13 → ∀ b, b < 13 → a ≠ b → (TX3 a).2.1 ≠ (TX3 b).2.1 := by decide +kernel
theorem tyX3_ok : ∀ k, k < 13 → parseFieldDescriptor (TX3 k).2.2.1 = some (tyX3 k) := by decide +kernel
def RX4 : String := "SleepPost$Reader"
def TX4 : u_T := fun k => match k with
  | 0 => ("SleepPost$Reader", "tokens", "LSleepPost$Tokens;", true)
  | 1 => ("SleepPost$Reader", "expression", "LSleepPost$Expression;", true)
  | 2 => ("SleepPost$Reader", "town", "LSleepPost$Town;", false)
  | 3 => ("SleepPost$Reader", "seeded", "Z", false)
  | 4 => ("SleepPost$Reader", "found", "I", false)
  | 5 => ("SleepPost$Reader", "lines", "I", false)
  | 6 => ("SleepPost$Reader", "fault", "I", false)
  | _ => ("SleepPost$Reader", "faultPlace", "I", false)
def tyX4 : Nat → FieldType := fun k => match k with
  | 0 => .object "SleepPost$Tokens"
  | 1 => .object "SleepPost$Expression"
  | 2 => .object "SleepPost$Town"
  | 3 => .boolean
  | 4 => .int
  | 5 => .int
  | 6 => .int
  | _ => .int
abbrev wsX40 : List Cond := u_ws RX4 TX4 8
theorem nmX4 : ∀ a, a < 8 → ∀ b, b < 8 → a ≠ b → (TX4 a).2.1 ≠ (TX4 b).2.1 := by decide +kernel
theorem tyX4_ok : ∀ k, k < 8 → parseFieldDescriptor (TX4 k).2.2.1 = some (tyX4 k) := by decide +kernel
def RX5 : String := "SleepPost$Reckoner"
def TX5 : u_T := fun k => match k with
  | 0 => ("SleepPost$Reckoner", "keys", "[I", true)
  | 1 => ("SleepPost$Reckoner", "values", "[J", true)
  | _ => ("SleepPost$Reckoner", "stack", "[J", true)
def tyX5 : Nat → FieldType := fun k => match k with
  | 0 => .array .int
  | 1 => .array .long
  | _ => .array .long
abbrev wsX50 : List Cond := u_ws RX5 TX5 3
theorem nmX5 : ∀ a, a < 3 → ∀ b, b < 3 → a ≠ b → (TX5 a).2.1 ≠ (TX5 b).2.1 := by decide +kernel
theorem tyX5_ok : ∀ k, k < 3 → parseFieldDescriptor (TX5 k).2.2.1 = some (tyX5 k) := by decide +kernel
def RX6 : String := "SleepPost$Sights"
def TX6 : u_T := fun k => match k with
  | 0 => ("SleepPost$Sights", "size", "I", false)
  | 1 => ("SleepPost$Sights", "knownBy", "I", false)
  | 2 => ("SleepPost$Sights", "hour", "[I", true)
  | 3 => ("SleepPost$Sights", "sleeper", "[I", true)
  | 4 => ("SleepPost$Sights", "house", "[I", true)
  | _ => ("SleepPost$Sights", "strikes", "[I", true)
def tyX6 : Nat → FieldType := fun k => match k with
  | 0 => .int
  | 1 => .int
  | 2 => .array .int
  | 3 => .array .int
  | 4 => .array .int
  | _ => .array .int
abbrev wsX60 : List Cond := u_ws RX6 TX6 6
theorem nmX6 : ∀ a, a < 6 → ∀ b, b < 6 → a ≠ b → (TX6 a).2.1 ≠ (TX6 b).2.1 := by decide +kernel
theorem tyX6_ok : ∀ k, k < 6 → parseFieldDescriptor (TX6 k).2.2.1 = some (tyX6 k) := by decide +kernel
def RX7 : String := "SleepPost$Tokens"
def TX7 : u_T := fun k => match k with
  | 0 => ("SleepPost$Tokens", "text", "[B", false)
  | 1 => ("SleepPost$Tokens", "length", "I", false)
  | 2 => ("SleepPost$Tokens", "next", "I", false)
  | 3 => ("SleepPost$Tokens", "kind", "I", false)
  | 4 => ("SleepPost$Tokens", "place", "I", false)
  | _ => ("SleepPost$Tokens", "value", "I", false)
def tyX7 : Nat → FieldType := fun k => match k with
  | 0 => .array .byte
  | 1 => .int
  | 2 => .int
  | 3 => .int
  | 4 => .int
  | _ => .int
abbrev wsX70 : List Cond := u_ws RX7 TX7 6
theorem nmX7 : ∀ a, a < 6 → ∀ b, b < 6 → a ≠ b → (TX7 a).2.1 ≠ (TX7 b).2.1 := by decide +kernel
theorem tyX7_ok : ∀ k, k < 6 → parseFieldDescriptor (TX7 k).2.2.1 = some (tyX7 k) := by decide +kernel
def RX8 : String := "SleepPost$Town"
def TX8 : u_T := fun k => match k with
  | 0 => ("SleepPost$Town", "houses", "I", false)
  | 1 => ("SleepPost$Town", "streets", "I", false)
  | 2 => ("SleepPost$Town", "sleepers", "I", false)
  | 3 => ("SleepPost$Town", "letters", "I", false)
  | 4 => ("SleepPost$Town", "lamps", "I", false)
  | 5 => ("SleepPost$Town", "cats", "I", false)
  | 6 => ("SleepPost$Town", "seed", "I", false)
  | 7 => ("SleepPost$Town", "houseNames", "[I", true)
  | 8 => ("SleepPost$Town", "sleeperNames", "[I", true)
  | 9 => ("SleepPost$Town", "streetEnds", "[I", true)
  | 10 => ("SleepPost$Town", "ways", "[I", true)
  | 11 => ("SleepPost$Town", "far", "[I", true)
  | 12 => ("SleepPost$Town", "bed", "[I", true)
  | 13 => ("SleepPost$Town", "deep", "[I", true)
  | 14 => ("SleepPost$Town", "dream", "[I", true)
  | 15 => ("SleepPost$Town", "laidBy", "[I", true)
  | 16 => ("SleepPost$Town", "goesTo", "[I", true)
  | 17 => ("SleepPost$Town", "mailFor", "[I", true)
  | 18 => ("SleepPost$Town", "lampHours", "[I", true)
  | 19 => ("SleepPost$Town", "bells", "[I", true)
  | 20 => ("SleepPost$Town", "singers", "[I", true)
  | _ => ("SleepPost$Town", "laws", "LSleepPost$Laws;", true)
def tyX8 : Nat → FieldType := fun k => match k with
  | 0 => .int
  | 1 => .int
  | 2 => .int
  | 3 => .int
  | 4 => .int
  | 5 => .int
  | 6 => .int
  | 7 => .array .int
  | 8 => .array .int
  | 9 => .array .int
  | 10 => .array .int
  | 11 => .array .int
  | 12 => .array .int
  | 13 => .array .int
  | 14 => .array .int
  | 15 => .array .int
  | 16 => .array .int
  | 17 => .array .int
  | 18 => .array .int
  | 19 => .array .int
  | 20 => .array .int
  | _ => .object "SleepPost$Laws"
abbrev wsX80 : List Cond := u_ws RX8 TX8 22
theorem nmX8 : ∀ a, a < 22 → ∀ b, b < 22 → a ≠ b → (TX8 a).2.1 ≠ (TX8 b).2.1 := by decide +kernel
theorem tyX8_ok : ∀ k, k < 22 → parseFieldDescriptor (TX8 k).2.2.1 = some (tyX8 k) := by decide +kernel
def RX9 : String := "SleepPost$Tries"
def TX9 : u_T := fun k => match k with
  | 0 => ("SleepPost$Tries", "now", "LSleepPost$World;", true)
  | 1 => ("SleepPost$Tries", "trial", "LSleepPost$World;", true)
  | 2 => ("SleepPost$Tries", "night", "LSleepPost$Night;", true)
  | 3 => ("SleepPost$Tries", "sights", "LSleepPost$Sights;", true)
  | 4 => ("SleepPost$Tries", "matched", "[I", true)
  | 5 => ("SleepPost$Tries", "dreamtPlaces", "[I", true)
  | 6 => ("SleepPost$Tries", "firstHas", "[I", true)
  | 7 => ("SleepPost$Tries", "secondHas", "[I", true)
  | 8 => ("SleepPost$Tries", "restHouses", "[I", true)
  | _ => ("SleepPost$Tries", "rests", "I", false)
def tyX9 : Nat → FieldType := fun k => match k with
  | 0 => .object "SleepPost$World"
  | 1 => .object "SleepPost$World"
  | 2 => .object "SleepPost$Night"
  | 3 => .object "SleepPost$Sights"
  | 4 => .array .int
  | 5 => .array .int
  | 6 => .array .int
  | 7 => .array .int
  | 8 => .array .int
  | _ => .int
abbrev wsX90 : List Cond := u_ws RX9 TX9 10
theorem nmX9 : ∀ a, a < 10 → ∀ b, b < 10 → a ≠ b → (TX9 a).2.1 ≠ (TX9 b).2.1 := by decide +kernel
theorem tyX9_ok : ∀ k, k < 10 → parseFieldDescriptor (TX9 k).2.2.1 = some (tyX9 k) := by decide +kernel
def RX10 : String := "SleepPost$World"
def TX10 : u_T := fun k => match k with
  | 0 => ("SleepPost$World", "hour", "I", false)
  | 1 => ("SleepPost$World", "night", "I", false)
  | 2 => ("SleepPost$World", "random", "I", false)
  | 3 => ("SleepPost$World", "woken", "I", false)
  | 4 => ("SleepPost$World", "arrived", "I", false)
  | 5 => ("SleepPost$World", "lit", "I", false)
  | 6 => ("SleepPost$World", "at", "[I", true)
  | 7 => ("SleepPost$World", "hand", "[I", true)
  | 8 => ("SleepPost$World", "lies", "[I", true)
  | 9 => ("SleepPost$World", "had", "[I", true)
  | _ => ("SleepPost$World", "bells", "[I", true)
def tyX10 : Nat → FieldType := fun k => match k with
  | 0 => .int
  | 1 => .int
  | 2 => .int
  | 3 => .int
  | 4 => .int
  | 5 => .int
  | 6 => .array .int
  | 7 => .array .int
  | 8 => .array .int
  | 9 => .array .int
  | _ => .array .int
abbrev wsX100 : List Cond := u_ws RX10 TX10 11
theorem nmX10 : ∀ a, a < 11 → ∀ b, b < 11 → a ≠ b → (TX10 a).2.1 ≠ (TX10 b).2.1 := by decide +kernel
theorem tyX10_ok : ∀ k, k < 11 → parseFieldDescriptor (TX10 k).2.2.1 = some (tyX10 k) := by decide +kernel
def RX11 : String := "SleepPost"
def TX11 : u_T := fun k => match k with
  | 0 => ("SleepPost", "tape", "[B", true)
  | 1 => ("SleepPost", "taped", "I", false)
  | 2 => ("SleepPost", "town", "LSleepPost$Town;", false)
  | 3 => ("SleepPost", "spareTown", "LSleepPost$Town;", false)
  | 4 => ("SleepPost", "reader", "LSleepPost$Reader;", true)
  | 5 => ("SleepPost", "now", "LSleepPost$World;", true)
  | 6 => ("SleepPost", "image", "LSleepPost$World;", true)
  | 7 => ("SleepPost", "imageKept", "Z", false)
  | 8 => ("SleepPost", "night", "LSleepPost$Night;", true)
  | 9 => ("SleepPost", "sights", "LSleepPost$Sights;", true)
  | 10 => ("SleepPost", "changes", "LSleepPost$Changes;", true)
  | _ => ("SleepPost", "tries", "LSleepPost$Tries;", true)
def tyX11 : Nat → FieldType := fun k => match k with
  | 0 => .array .byte
  | 1 => .int
  | 2 => .object "SleepPost$Town"
  | 3 => .object "SleepPost$Town"
  | 4 => .object "SleepPost$Reader"
  | 5 => .object "SleepPost$World"
  | 6 => .object "SleepPost$World"
  | 7 => .boolean
  | 8 => .object "SleepPost$Night"
  | 9 => .object "SleepPost$Sights"
  | 10 => .object "SleepPost$Changes"
  | _ => .object "SleepPost$Tries"
abbrev wsX110 : List Cond := u_ws RX11 TX11 12
theorem nmX11 : ∀ a, a < 12 → ∀ b, b < 12 → a ≠ b → (TX11 a).2.1 ≠ (TX11 b).2.1 := by decide +kernel
theorem tyX11_ok : ∀ k, k < 12 → parseFieldDescriptor (TX11 k).2.2.1 = some (tyX11 k) := by decide +kernel
def RX12 : String := "SleepPostModel"
def TX12 : u_T := fun k => match k with
  | 0 => ("SleepPostModel", "thrown", "I", false)
  | 1 => ("SleepPostModel", "tape", "[I", true)
  | 2 => ("SleepPostModel", "taped", "I", false)
  | 3 => ("SleepPostModel", "number", "[I", true)
  | 4 => ("SleepPostModel", "houseName", "[I", true)
  | 5 => ("SleepPostModel", "bellAs", "[I", true)
  | 6 => ("SleepPostModel", "cat", "[I", true)
  | 7 => ("SleepPostModel", "singer", "[I", true)
  | 8 => ("SleepPostModel", "streetA", "[I", true)
  | 9 => ("SleepPostModel", "streetB", "[I", true)
  | 10 => ("SleepPostModel", "streetLong", "[I", true)
  | 11 => ("SleepPostModel", "sleeperName", "[I", true)
  | 12 => ("SleepPostModel", "bed", "[I", true)
  | 13 => ("SleepPostModel", "deep", "[I", true)
  | 14 => ("SleepPostModel", "dream", "[I", true)
  | 15 => ("SleepPostModel", "letterBy", "[I", true)
  | 16 => ("SleepPostModel", "letterFor", "[I", true)
  | 17 => ("SleepPostModel", "lampAt", "[I", true)
  | 18 => ("SleepPostModel", "lampFrom", "[I", true)
  | 19 => ("SleepPostModel", "lampTo", "[I", true)
  | 20 => ("SleepPostModel", "sumFrom", "[I", true)
  | 21 => ("SleepPostModel", "sumTo", "[I", true)
  | 22 => ("SleepPostModel", "knotSort", "[I", true)
  | 23 => ("SleepPostModel", "knotValue", "[I", true)
  | 24 => ("SleepPostModel", "told", "I", false)
  | 25 => ("SleepPostModel", "lines", "I", false)
  | 26 => ("SleepPostModel", "size", "I", false)
  | 27 => ("SleepPostModel", "at", "I", false)
  | 28 => ("SleepPostModel", "place", "I", false)
  | 29 => ("SleepPostModel", "sort", "I", false)
  | 30 => ("SleepPostModel", "value", "I", false)
  | 31 => ("SleepPostModel", "fault", "I", false)
  | 32 => ("SleepPostModel", "faultPlace", "I", false)
  | 33 => ("SleepPostModel", "lastFault", "I", false)
  | 34 => ("SleepPostModel", "lastPlace", "I", false)
  | 35 => ("SleepPostModel", "open", "I", false)
  | 36 => ("SleepPostModel", "counted", "I", false)
  | 37 => ("SleepPostModel", "names", "[J", true)
  | 38 => ("SleepPostModel", "worked", "[J", true)
  | 39 => ("SleepPostModel", "workedMany", "I", false)
  | 40 => ("SleepPostModel", "hour", "[I", true)
  | 41 => ("SleepPostModel", "night", "[I", true)
  | 42 => ("SleepPostModel", "drawn", "[I", true)
  | 43 => ("SleepPostModel", "litBy", "[I", true)
  | 44 => ("SleepPostModel", "woken", "[I", true)
  | 45 => ("SleepPostModel", "stands", "[I", true)
  | 46 => ("SleepPostModel", "letterIs", "[I", true)
  | 47 => ("SleepPostModel", "letterAt", "[I", true)
  | 48 => ("SleepPostModel", "letterLast", "[I", true)
  | 49 => ("SleepPostModel", "bells", "[I", true)
  | 50 => ("SleepPostModel", "hasImage", "Z", false)
  | 51 => ("SleepPostModel", "undoMany", "I", false)
  | 52 => ("SleepPostModel", "tryWhat", "I", false)
  | 53 => ("SleepPostModel", "tryWhich", "I", false)
  | 54 => ("SleepPostModel", "singerOne", "I", false)
  | 55 => ("SleepPostModel", "singerTwo", "I", false)
  | 56 => ("SleepPostModel", "loudOne", "I", false)
  | 57 => ("SleepPostModel", "loudTwo", "I", false)
  | 58 => ("SleepPostModel", "stays", "I", false)
  | 59 => ("SleepPostModel", "dreamer", "I", false)
  | 60 => ("SleepPostModel", "dreamHouse", "I", false)
  | 61 => ("SleepPostModel", "moreLight", "I", false)
  | 62 => ("SleepPostModel", "isMoon", "Z", false)
  | 63 => ("SleepPostModel", "moreCat", "I", false)
  | 64 => ("SleepPostModel", "far", "[I", true)
  | 65 => ("SleepPostModel", "trace", "[I", true)
  | 66 => ("SleepPostModel", "lying", "[I", true)
  | 67 => ("SleepPostModel", "chosen", "[I", true)
  | 68 => ("SleepPostModel", "lyingMany", "I", false)
  | 69 => ("SleepPostModel", "sights", "I", false)
  | 70 => ("SleepPostModel", "knownBy", "I", false)
  | 71 => ("SleepPostModel", "sightHour", "[I", true)
  | 72 => ("SleepPostModel", "sightSleeper", "[I", true)
  | 73 => ("SleepPostModel", "sightHouse", "[I", true)
  | 74 => ("SleepPostModel", "strikes", "[I", true)
  | 75 => ("SleepPostModel", "isStruck", "[Z", true)
  | 76 => ("SleepPostModel", "dreamt", "[I", true)
  | 77 => ("SleepPostModel", "cornerOne", "[I", true)
  | _ => ("SleepPostModel", "cornerTwo", "[I", true)
def tyX12 : Nat → FieldType := fun k => match k with
  | 0 => .int
  | 1 => .array .int
  | 2 => .int
  | 3 => .array .int
  | 4 => .array .int
  | 5 => .array .int
  | 6 => .array .int
  | 7 => .array .int
  | 8 => .array .int
  | 9 => .array .int
  | 10 => .array .int
  | 11 => .array .int
  | 12 => .array .int
  | 13 => .array .int
  | 14 => .array .int
  | 15 => .array .int
  | 16 => .array .int
  | 17 => .array .int
  | 18 => .array .int
  | 19 => .array .int
  | 20 => .array .int
  | 21 => .array .int
  | 22 => .array .int
  | 23 => .array .int
  | 24 => .int
  | 25 => .int
  | 26 => .int
  | 27 => .int
  | 28 => .int
  | 29 => .int
  | 30 => .int
  | 31 => .int
  | 32 => .int
  | 33 => .int
  | 34 => .int
  | 35 => .int
  | 36 => .int
  | 37 => .array .long
  | 38 => .array .long
  | 39 => .int
  | 40 => .array .int
  | 41 => .array .int
  | 42 => .array .int
  | 43 => .array .int
  | 44 => .array .int
  | 45 => .array .int
  | 46 => .array .int
  | 47 => .array .int
  | 48 => .array .int
  | 49 => .array .int
  | 50 => .boolean
  | 51 => .int
  | 52 => .int
  | 53 => .int
  | 54 => .int
  | 55 => .int
  | 56 => .int
  | 57 => .int
  | 58 => .int
  | 59 => .int
  | 60 => .int
  | 61 => .int
  | 62 => .boolean
  | 63 => .int
  | 64 => .array .int
  | 65 => .array .int
  | 66 => .array .int
  | 67 => .array .int
  | 68 => .int
  | 69 => .int
  | 70 => .int
  | 71 => .array .int
  | 72 => .array .int
  | 73 => .array .int
  | 74 => .array .int
  | 75 => .array .boolean
  | 76 => .array .int
  | 77 => .array .int
  | _ => .array .int
abbrev wsX120 : List Cond := u_ws RX12 TX12 79
theorem nmX12 : ∀ a, a < 79 → ∀ b, b < 79 → a ≠ b → (TX12 a).2.1 ≠ (TX12 b).2.1 := by decide +kernel
theorem tyX12_ok : ∀ k, k < 79 → parseFieldDescriptor (TX12 k).2.2.1 = some (tyX12 k) := by decide +kernel
def RL : String := "SleepPostLaw"
abbrev vwCl : List vw_C := [(RX0, TX0, 4), (RX1, TX1, 9), (RX2, TX2, 6), (RX3, TX3, 13), (RX4, TX4, 8), (RX5, TX5, 3), (RX6, TX6, 6), (RX7, TX7, 6), (RX8, TX8, 22), (RX9, TX9, 10), (RX10, TX10, 11), (RX11, TX11, 12), (RX12, TX12, 79)]
theorem goodIn_r {big : List Cond} (ws : List Cond) (ps : List Nat) (hp : ws = ps.filterMap (fun i => big[i]?)) (h : ws.all goodWord = true) : GoodIn big ws := by
  intro w hw
  have h1 := List.all_eq_true.mp h w hw
  rw [hp] at hw
  obtain ⟨i, -, hi⟩ := List.mem_filterMap.mp hw
  have hm : w ∈ big := by first | exact List.mem_of_getElem? hi | exact List.getElem?_mem hi
  exact ⟨hm, good_of_word h1⟩
theorem goodIn_app {big a b : List Cond} (ha : GoodIn big a) (hb : GoodIn big b) : GoodIn big (a ++ b) := fun w h => (List.mem_append.mp h).elim (ha w) (hb w)
theorem goodIn_ca {big a b : List Cond} {c : Cond} (ha : GoodIn big (c :: a)) (hb : GoodIn big b) : GoodIn big (c :: (a ++ b)) := fun w h => (List.mem_cons.mp h).elim (fun e => ha w (List.mem_cons.mpr (Or.inl e))) (fun h => (List.mem_append.mp h).elim (fun h => ha w (List.mem_cons.mpr (Or.inr h))) (hb w))
theorem goodIn_sub {big ws : List Cond} (hm : ∀ w ∈ ws, w ∈ big) (h : ws.all goodWord = true) : GoodIn big ws := fun w hw => ⟨hm w hw, good_of_word (List.all_eq_true.mp h w hw)⟩
