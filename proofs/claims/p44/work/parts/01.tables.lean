/-- a private method of a class that the tables say can be made, by its rows of tables_1 -/
def lw_okq (q : MethodName × Nat) : Prop := (q.1.cls ≠ "java/lang/invoke/MethodHandle" ∧ q.1.cls ≠ "java/lang/invoke/VarHandle") ∧ Cond.instantiable q.1.cls q.2 ∈ tables_1 ∧ Cond.privateMethod q.1 ∈ tables_1 ∧ Cond.instanceMethod q.1 ∈ tables_1
theorem lw_p0 : lw_okq (⟨"BakeryNight$Roads", "joinStreets", "()V"⟩, 7) := ⟨⟨by decide +kernel, by decide +kernel⟩, List.mem_of_getElem? (i := 220) (by decide +kernel), List.mem_of_getElem? (i := 276) (by decide +kernel), List.mem_of_getElem? (i := 277) (by decide +kernel)⟩
theorem lw_p1 : lw_okq (⟨"BakeryNight$Roads", "measureRoutes", "(I)V"⟩, 7) := ⟨⟨by decide +kernel, by decide +kernel⟩, List.mem_of_getElem? (i := 220) (by decide +kernel), List.mem_of_getElem? (i := 280) (by decide +kernel), List.mem_of_getElem? (i := 281) (by decide +kernel)⟩
theorem lw_p2 : lw_okq (⟨"BakeryNight$Roads", "by", "(III)I"⟩, 7) := ⟨⟨by decide +kernel, by decide +kernel⟩, List.mem_of_getElem? (i := 220) (by decide +kernel), List.mem_of_getElem? (i := 285) (by decide +kernel), List.mem_of_getElem? (i := 286) (by decide +kernel)⟩
theorem lw_p3 : lw_okq (⟨"BakeryNight$Night", "begin", "(LBakeryNight$Bakery;I)V"⟩, 20) := ⟨⟨by decide +kernel, by decide +kernel⟩, List.mem_of_getElem? (i := 391) (by decide +kernel), List.mem_of_getElem? (i := 610) (by decide +kernel), List.mem_of_getElem? (i := 611) (by decide +kernel)⟩
theorem lw_p4 : lw_okq (⟨"BakeryNight$Night", "numberBatches", "(LBakeryNight$Bakery;)V"⟩, 20) := ⟨⟨by decide +kernel, by decide +kernel⟩, List.mem_of_getElem? (i := 391) (by decide +kernel), List.mem_of_getElem? (i := 615) (by decide +kernel), List.mem_of_getElem? (i := 616) (by decide +kernel)⟩
theorem lw_p5 : lw_okq (⟨"BakeryNight$Night", "noteWhatEnded", "(LBakeryNight$Bakery;I)V"⟩, 20) := ⟨⟨by decide +kernel, by decide +kernel⟩, List.mem_of_getElem? (i := 391) (by decide +kernel), List.mem_of_getElem? (i := 627) (by decide +kernel), List.mem_of_getElem? (i := 628) (by decide +kernel)⟩
theorem lw_p6 : lw_okq (⟨"BakeryNight$Night", "isIn", "(III)Z"⟩, 20) := ⟨⟨by decide +kernel, by decide +kernel⟩, List.mem_of_getElem? (i := 391) (by decide +kernel), List.mem_of_getElem? (i := 635) (by decide +kernel), List.mem_of_getElem? (i := 636) (by decide +kernel)⟩
theorem lw_p7 : lw_okq (⟨"BakeryNight$Night", "spoilWaiting", "(LBakeryNight$Bakery;I)V"⟩, 20) := ⟨⟨by decide +kernel, by decide +kernel⟩, List.mem_of_getElem? (i := 391) (by decide +kernel), List.mem_of_getElem? (i := 639) (by decide +kernel), List.mem_of_getElem? (i := 640) (by decide +kernel)⟩
theorem lw_p8 : lw_okq (⟨"BakeryNight$Night", "bakeWaiting", "(LBakeryNight$Bakery;I)V"⟩, 20) := ⟨⟨by decide +kernel, by decide +kernel⟩, List.mem_of_getElem? (i := 391) (by decide +kernel), List.mem_of_getElem? (i := 643) (by decide +kernel), List.mem_of_getElem? (i := 644) (by decide +kernel)⟩
theorem lw_p9 : lw_okq (⟨"BakeryNight$Night", "freeOven", "(LBakeryNight$Bakery;II)I"⟩, 20) := ⟨⟨by decide +kernel, by decide +kernel⟩, List.mem_of_getElem? (i := 391) (by decide +kernel), List.mem_of_getElem? (i := 647) (by decide +kernel), List.mem_of_getElem? (i := 648) (by decide +kernel)⟩
theorem lw_p10 : lw_okq (⟨"BakeryNight$Night", "changeAnOven", "(LBakeryNight$Bakery;II)V"⟩, 20) := ⟨⟨by decide +kernel, by decide +kernel⟩, List.mem_of_getElem? (i := 391) (by decide +kernel), List.mem_of_getElem? (i := 651) (by decide +kernel), List.mem_of_getElem? (i := 652) (by decide +kernel)⟩
theorem lw_p11 : lw_okq (⟨"BakeryNight$Night", "shapeWaiting", "(LBakeryNight$Bakery;I)V"⟩, 20) := ⟨⟨by decide +kernel, by decide +kernel⟩, List.mem_of_getElem? (i := 391) (by decide +kernel), List.mem_of_getElem? (i := 659) (by decide +kernel), List.mem_of_getElem? (i := 660) (by decide +kernel)⟩
theorem lw_p12 : lw_okq (⟨"BakeryNight$Night", "mixNext", "(LBakeryNight$Bakery;I)V"⟩, 20) := ⟨⟨by decide +kernel, by decide +kernel⟩, List.mem_of_getElem? (i := 391) (by decide +kernel), List.mem_of_getElem? (i := 677) (by decide +kernel), List.mem_of_getElem? (i := 678) (by decide +kernel)⟩
theorem lw_p13 : lw_okq (⟨"BakeryNight$Night", "nextMinute", "(LBakeryNight$Bakery;I)I"⟩, 20) := ⟨⟨by decide +kernel, by decide +kernel⟩, List.mem_of_getElem? (i := 391) (by decide +kernel), List.mem_of_getElem? (i := 681) (by decide +kernel), List.mem_of_getElem? (i := 682) (by decide +kernel)⟩
theorem lw_p14 : lw_okq (⟨"BakeryNight$Night", "giveLoaves", "(LBakeryNight$Bakery;)V"⟩, 20) := ⟨⟨by decide +kernel, by decide +kernel⟩, List.mem_of_getElem? (i := 391) (by decide +kernel), List.mem_of_getElem? (i := 688) (by decide +kernel), List.mem_of_getElem? (i := 689) (by decide +kernel)⟩
theorem lw_p15 : lw_okq (⟨"BakeryNight$Bakery", "comesBefore", "(II)Z"⟩, 14) := ⟨⟨by decide +kernel, by decide +kernel⟩, List.mem_of_getElem? (i := 102) (by decide +kernel), List.mem_of_getElem? (i := 697) (by decide +kernel), List.mem_of_getElem? (i := 698) (by decide +kernel)⟩
def lw_privs_1 : List (MethodName × Nat) := [(⟨"BakeryNight$Roads", "joinStreets", "()V"⟩, 7), (⟨"BakeryNight$Roads", "measureRoutes", "(I)V"⟩, 7), (⟨"BakeryNight$Roads", "by", "(III)I"⟩, 7), (⟨"BakeryNight$Night", "begin", "(LBakeryNight$Bakery;I)V"⟩, 20), (⟨"BakeryNight$Night", "numberBatches", "(LBakeryNight$Bakery;)V"⟩, 20), (⟨"BakeryNight$Night", "noteWhatEnded", "(LBakeryNight$Bakery;I)V"⟩, 20), (⟨"BakeryNight$Night", "isIn", "(III)Z"⟩, 20), (⟨"BakeryNight$Night", "spoilWaiting", "(LBakeryNight$Bakery;I)V"⟩, 20), (⟨"BakeryNight$Night", "bakeWaiting", "(LBakeryNight$Bakery;I)V"⟩, 20), (⟨"BakeryNight$Night", "freeOven", "(LBakeryNight$Bakery;II)I"⟩, 20), (⟨"BakeryNight$Night", "changeAnOven", "(LBakeryNight$Bakery;II)V"⟩, 20), (⟨"BakeryNight$Night", "shapeWaiting", "(LBakeryNight$Bakery;I)V"⟩, 20), (⟨"BakeryNight$Night", "mixNext", "(LBakeryNight$Bakery;I)V"⟩, 20), (⟨"BakeryNight$Night", "nextMinute", "(LBakeryNight$Bakery;I)I"⟩, 20), (⟨"BakeryNight$Night", "giveLoaves", "(LBakeryNight$Bakery;)V"⟩, 20), (⟨"BakeryNight$Bakery", "comesBefore", "(II)Z"⟩, 14)]
theorem lw_r1 : ∀ q ∈ lw_privs_1, lw_okq q := List.forall_mem_cons.mpr ⟨lw_p0, List.forall_mem_cons.mpr ⟨lw_p1, List.forall_mem_cons.mpr ⟨lw_p2, List.forall_mem_cons.mpr ⟨lw_p3, List.forall_mem_cons.mpr ⟨lw_p4, List.forall_mem_cons.mpr ⟨lw_p5, List.forall_mem_cons.mpr ⟨lw_p6, List.forall_mem_cons.mpr ⟨lw_p7, List.forall_mem_cons.mpr ⟨lw_p8, List.forall_mem_cons.mpr ⟨lw_p9, List.forall_mem_cons.mpr ⟨lw_p10, List.forall_mem_cons.mpr ⟨lw_p11, List.forall_mem_cons.mpr ⟨lw_p12, List.forall_mem_cons.mpr ⟨lw_p13, List.forall_mem_cons.mpr ⟨lw_p14, List.forall_mem_cons.mpr ⟨lw_p15, fun _ h => absurd h List.not_mem_nil⟩⟩⟩⟩⟩⟩⟩⟩⟩⟩⟩⟩⟩⟩⟩⟩
theorem lw_p16 : lw_okq (⟨"BakeryNight$Night", "takenOut", "(LBakeryNight$Bakery;II)I"⟩, 20) := ⟨⟨by decide +kernel, by decide +kernel⟩, List.mem_of_getElem? (i := 391) (by decide +kernel), List.mem_of_getElem? (i := 701) (by decide +kernel), List.mem_of_getElem? (i := 702) (by decide +kernel)⟩
theorem lw_p17 : lw_okq (⟨"BakeryNight", "bestPlan", "()LBakeryNight$Plan;"⟩, 12) := ⟨⟨by decide +kernel, by decide +kernel⟩, List.mem_of_getElem? (i := 33) (by decide +kernel), List.mem_of_getElem? (i := 717) (by decide +kernel), List.mem_of_getElem? (i := 718) (by decide +kernel)⟩
theorem lw_p18 : lw_okq (⟨"BakeryNight$Plan", "measureSets", "(LBakeryNight$Bakery;)V"⟩, 15) := ⟨⟨by decide +kernel, by decide +kernel⟩, List.mem_of_getElem? (i := 466) (by decide +kernel), List.mem_of_getElem? (i := 733) (by decide +kernel), List.mem_of_getElem? (i := 734) (by decide +kernel)⟩
theorem lw_p19 : lw_okq (⟨"BakeryNight$Plan", "drive", "(LBakeryNight$Roads;I)V"⟩, 15) := ⟨⟨by decide +kernel, by decide +kernel⟩, List.mem_of_getElem? (i := 466) (by decide +kernel), List.mem_of_getElem? (i := 737) (by decide +kernel), List.mem_of_getElem? (i := 738) (by decide +kernel)⟩
theorem lw_p20 : lw_okq (⟨"BakeryNight$Plan", "departureFor", "(I)I"⟩, 15) := ⟨⟨by decide +kernel, by decide +kernel⟩, List.mem_of_getElem? (i := 466) (by decide +kernel), List.mem_of_getElem? (i := 741) (by decide +kernel), List.mem_of_getElem? (i := 742) (by decide +kernel)⟩
theorem lw_p21 : lw_okq (⟨"BakeryNight$Plan", "firstWay", "(LBakeryNight$Bakery;)I"⟩, 15) := ⟨⟨by decide +kernel, by decide +kernel⟩, List.mem_of_getElem? (i := 466) (by decide +kernel), List.mem_of_getElem? (i := 754) (by decide +kernel), List.mem_of_getElem? (i := 755) (by decide +kernel)⟩
theorem lw_p22 : lw_okq (⟨"BakeryNight$Plan", "canCarry", "(LBakeryNight$Bakery;)Z"⟩, 15) := ⟨⟨by decide +kernel, by decide +kernel⟩, List.mem_of_getElem? (i := 466) (by decide +kernel), List.mem_of_getElem? (i := 766) (by decide +kernel), List.mem_of_getElem? (i := 767) (by decide +kernel)⟩
theorem lw_p23 : lw_okq (⟨"BakeryNight$Plan", "nextWay", "(LBakeryNight$Bakery;)V"⟩, 15) := ⟨⟨by decide +kernel, by decide +kernel⟩, List.mem_of_getElem? (i := 466) (by decide +kernel), List.mem_of_getElem? (i := 771) (by decide +kernel), List.mem_of_getElem? (i := 772) (by decide +kernel)⟩
theorem lw_p24 : lw_okq (⟨"BakeryNight", "latestAsItIs", "()I"⟩, 12) := ⟨⟨by decide +kernel, by decide +kernel⟩, List.mem_of_getElem? (i := 33) (by decide +kernel), List.mem_of_getElem? (i := 783) (by decide +kernel), List.mem_of_getElem? (i := 784) (by decide +kernel)⟩
theorem lw_p25 : lw_okq (⟨"BakeryNight", "dropNight", "()V"⟩, 12) := ⟨⟨by decide +kernel, by decide +kernel⟩, List.mem_of_getElem? (i := 33) (by decide +kernel), List.mem_of_getElem? (i := 803) (by decide +kernel), List.mem_of_getElem? (i := 804) (by decide +kernel)⟩
theorem lw_p26 : lw_okq (⟨"BakeryNight", "append", "(I)V"⟩, 12) := ⟨⟨by decide +kernel, by decide +kernel⟩, List.mem_of_getElem? (i := 33) (by decide +kernel), List.mem_of_getElem? (i := 874) (by decide +kernel), List.mem_of_getElem? (i := 875) (by decide +kernel)⟩
theorem lw_p27 : lw_okq (⟨"BakeryNight$Parser", "readStatement", "(LBakeryNight$Bakery;)V"⟩, 9) := ⟨⟨by decide +kernel, by decide +kernel⟩, List.mem_of_getElem? (i := 41) (by decide +kernel), List.mem_of_getElem? (i := 903) (by decide +kernel), List.mem_of_getElem? (i := 904) (by decide +kernel)⟩
theorem lw_p28 : lw_okq (⟨"BakeryNight$Parser", "fail", "(I)V"⟩, 9) := ⟨⟨by decide +kernel, by decide +kernel⟩, List.mem_of_getElem? (i := 41) (by decide +kernel), List.mem_of_getElem? (i := 915) (by decide +kernel), List.mem_of_getElem? (i := 916) (by decide +kernel)⟩
theorem lw_p29 : lw_okq (⟨"BakeryNight$Parser", "readSetting", "(ZII)I"⟩, 9) := ⟨⟨by decide +kernel, by decide +kernel⟩, List.mem_of_getElem? (i := 41) (by decide +kernel), List.mem_of_getElem? (i := 927) (by decide +kernel), List.mem_of_getElem? (i := 928) (by decide +kernel)⟩
theorem lw_p30 : lw_okq (⟨"BakeryNight$Parser", "readNumber", "(II)I"⟩, 9) := ⟨⟨by decide +kernel, by decide +kernel⟩, List.mem_of_getElem? (i := 41) (by decide +kernel), List.mem_of_getElem? (i := 932) (by decide +kernel), List.mem_of_getElem? (i := 933) (by decide +kernel)⟩
theorem lw_p31 : lw_okq (⟨"BakeryNight$Parser", "failed", "()Z"⟩, 9) := ⟨⟨by decide +kernel, by decide +kernel⟩, List.mem_of_getElem? (i := 41) (by decide +kernel), List.mem_of_getElem? (i := 944) (by decide +kernel), List.mem_of_getElem? (i := 945) (by decide +kernel)⟩
def lw_privs_2 : List (MethodName × Nat) := [(⟨"BakeryNight$Night", "takenOut", "(LBakeryNight$Bakery;II)I"⟩, 20), (⟨"BakeryNight", "bestPlan", "()LBakeryNight$Plan;"⟩, 12), (⟨"BakeryNight$Plan", "measureSets", "(LBakeryNight$Bakery;)V"⟩, 15), (⟨"BakeryNight$Plan", "drive", "(LBakeryNight$Roads;I)V"⟩, 15), (⟨"BakeryNight$Plan", "departureFor", "(I)I"⟩, 15), (⟨"BakeryNight$Plan", "firstWay", "(LBakeryNight$Bakery;)I"⟩, 15), (⟨"BakeryNight$Plan", "canCarry", "(LBakeryNight$Bakery;)Z"⟩, 15), (⟨"BakeryNight$Plan", "nextWay", "(LBakeryNight$Bakery;)V"⟩, 15), (⟨"BakeryNight", "latestAsItIs", "()I"⟩, 12), (⟨"BakeryNight", "dropNight", "()V"⟩, 12), (⟨"BakeryNight", "append", "(I)V"⟩, 12), (⟨"BakeryNight$Parser", "readStatement", "(LBakeryNight$Bakery;)V"⟩, 9), (⟨"BakeryNight$Parser", "fail", "(I)V"⟩, 9), (⟨"BakeryNight$Parser", "readSetting", "(ZII)I"⟩, 9), (⟨"BakeryNight$Parser", "readNumber", "(II)I"⟩, 9), (⟨"BakeryNight$Parser", "failed", "()Z"⟩, 9)]
theorem lw_r2 : ∀ q ∈ lw_privs_2, lw_okq q := List.forall_mem_cons.mpr ⟨lw_p16, List.forall_mem_cons.mpr ⟨lw_p17, List.forall_mem_cons.mpr ⟨lw_p18, List.forall_mem_cons.mpr ⟨lw_p19, List.forall_mem_cons.mpr ⟨lw_p20, List.forall_mem_cons.mpr ⟨lw_p21, List.forall_mem_cons.mpr ⟨lw_p22, List.forall_mem_cons.mpr ⟨lw_p23, List.forall_mem_cons.mpr ⟨lw_p24, List.forall_mem_cons.mpr ⟨lw_p25, List.forall_mem_cons.mpr ⟨lw_p26, List.forall_mem_cons.mpr ⟨lw_p27, List.forall_mem_cons.mpr ⟨lw_p28, List.forall_mem_cons.mpr ⟨lw_p29, List.forall_mem_cons.mpr ⟨lw_p30, List.forall_mem_cons.mpr ⟨lw_p31, fun _ h => absurd h List.not_mem_nil⟩⟩⟩⟩⟩⟩⟩⟩⟩⟩⟩⟩⟩⟩⟩⟩
theorem lw_p32 : lw_okq (⟨"BakeryNight$Parser", "readDough", "(LBakeryNight$Bakery;)V"⟩, 9) := ⟨⟨by decide +kernel, by decide +kernel⟩, List.mem_of_getElem? (i := 41) (by decide +kernel), List.mem_of_getElem? (i := 948) (by decide +kernel), List.mem_of_getElem? (i := 949) (by decide +kernel)⟩
theorem lw_p33 : lw_okq (⟨"BakeryNight$Parser", "beginOneOf", "(II)V"⟩, 9) := ⟨⟨by decide +kernel, by decide +kernel⟩, List.mem_of_getElem? (i := 41) (by decide +kernel), List.mem_of_getElem? (i := 952) (by decide +kernel), List.mem_of_getElem? (i := 953) (by decide +kernel)⟩
theorem lw_p34 : lw_okq (⟨"BakeryNight$Parser", "readNewName", "([JI)V"⟩, 9) := ⟨⟨by decide +kernel, by decide +kernel⟩, List.mem_of_getElem? (i := 41) (by decide +kernel), List.mem_of_getElem? (i := 956) (by decide +kernel), List.mem_of_getElem? (i := 957) (by decide +kernel)⟩
theorem lw_p35 : lw_okq (⟨"BakeryNight$Parser", "indexOfName", "([JI)I"⟩, 9) := ⟨⟨by decide +kernel, by decide +kernel⟩, List.mem_of_getElem? (i := 41) (by decide +kernel), List.mem_of_getElem? (i := 965) (by decide +kernel), List.mem_of_getElem? (i := 966) (by decide +kernel)⟩
theorem lw_p36 : lw_okq (⟨"BakeryNight$Parser", "readField", "(LBakeryNight$Word;II)I"⟩, 9) := ⟨⟨by decide +kernel, by decide +kernel⟩, List.mem_of_getElem? (i := 41) (by decide +kernel), List.mem_of_getElem? (i := 977) (by decide +kernel), List.mem_of_getElem? (i := 978) (by decide +kernel)⟩
theorem lw_p37 : lw_okq (⟨"BakeryNight$Parser", "readOven", "(LBakeryNight$Bakery;)V"⟩, 9) := ⟨⟨by decide +kernel, by decide +kernel⟩, List.mem_of_getElem? (i := 41) (by decide +kernel), List.mem_of_getElem? (i := 999) (by decide +kernel), List.mem_of_getElem? (i := 1000) (by decide +kernel)⟩
theorem lw_p38 : lw_okq (⟨"BakeryNight$Parser", "readShop", "(LBakeryNight$Bakery;)V"⟩, 9) := ⟨⟨by decide +kernel, by decide +kernel⟩, List.mem_of_getElem? (i := 41) (by decide +kernel), List.mem_of_getElem? (i := 1007) (by decide +kernel), List.mem_of_getElem? (i := 1008) (by decide +kernel)⟩
theorem lw_p39 : lw_okq (⟨"BakeryNight$Parser", "readStreet", "(LBakeryNight$Bakery;)V"⟩, 9) := ⟨⟨by decide +kernel, by decide +kernel⟩, List.mem_of_getElem? (i := 41) (by decide +kernel), List.mem_of_getElem? (i := 1011) (by decide +kernel), List.mem_of_getElem? (i := 1012) (by decide +kernel)⟩
theorem lw_p40 : lw_okq (⟨"BakeryNight$Parser", "readPlace", "(LBakeryNight$Bakery;I)I"⟩, 9) := ⟨⟨by decide +kernel, by decide +kernel⟩, List.mem_of_getElem? (i := 41) (by decide +kernel), List.mem_of_getElem? (i := 1015) (by decide +kernel), List.mem_of_getElem? (i := 1016) (by decide +kernel)⟩
theorem lw_p41 : lw_okq (⟨"BakeryNight$Parser", "readVan", "(LBakeryNight$Bakery;)V"⟩, 9) := ⟨⟨by decide +kernel, by decide +kernel⟩, List.mem_of_getElem? (i := 41) (by decide +kernel), List.mem_of_getElem? (i := 1021) (by decide +kernel), List.mem_of_getElem? (i := 1022) (by decide +kernel)⟩
theorem lw_p42 : lw_okq (⟨"BakeryNight$Parser", "readOrder", "(LBakeryNight$Bakery;)V"⟩, 9) := ⟨⟨by decide +kernel, by decide +kernel⟩, List.mem_of_getElem? (i := 41) (by decide +kernel), List.mem_of_getElem? (i := 1025) (by decide +kernel), List.mem_of_getElem? (i := 1026) (by decide +kernel)⟩
theorem lw_p43 : lw_okq (⟨"BakeryNight$Parser", "readKnownName", "([JI)I"⟩, 9) := ⟨⟨by decide +kernel, by decide +kernel⟩, List.mem_of_getElem? (i := 41) (by decide +kernel), List.mem_of_getElem? (i := 1029) (by decide +kernel), List.mem_of_getElem? (i := 1030) (by decide +kernel)⟩
theorem lw_p44 : lw_okq (⟨"BakeryNight$Parser", "readSemicolon", "()V"⟩, 9) := ⟨⟨by decide +kernel, by decide +kernel⟩, List.mem_of_getElem? (i := 41) (by decide +kernel), List.mem_of_getElem? (i := 1039) (by decide +kernel), List.mem_of_getElem? (i := 1040) (by decide +kernel)⟩
theorem lw_p45 : lw_okq (⟨"java/lang/Throwable", "fillInStackTrace", "(I)Ljava/lang/Throwable;"⟩, 6) := ⟨⟨by decide +kernel, by decide +kernel⟩, List.mem_of_getElem? (i := 1343) (by decide +kernel), List.mem_of_getElem? (i := 1341) (by decide +kernel), List.mem_of_getElem? (i := 1342) (by decide +kernel)⟩
theorem lw_p46 : lw_okq (⟨"BakeryNight", "recordChange", "(III)V"⟩, 12) := ⟨⟨by decide +kernel, by decide +kernel⟩, List.mem_of_getElem? (i := 33) (by decide +kernel), List.mem_of_getElem? (i := 1479) (by decide +kernel), List.mem_of_getElem? (i := 1480) (by decide +kernel)⟩
theorem lw_p47 : lw_okq (⟨"BakeryNight$History", "dropOldest", "()V"⟩, 4) := ⟨⟨by decide +kernel, by decide +kernel⟩, List.mem_of_getElem? (i := 371) (by decide +kernel), List.mem_of_getElem? (i := 1487) (by decide +kernel), List.mem_of_getElem? (i := 1488) (by decide +kernel)⟩
def lw_privs_3 : List (MethodName × Nat) := [(⟨"BakeryNight$Parser", "readDough", "(LBakeryNight$Bakery;)V"⟩, 9), (⟨"BakeryNight$Parser", "beginOneOf", "(II)V"⟩, 9), (⟨"BakeryNight$Parser", "readNewName", "([JI)V"⟩, 9), (⟨"BakeryNight$Parser", "indexOfName", "([JI)I"⟩, 9), (⟨"BakeryNight$Parser", "readField", "(LBakeryNight$Word;II)I"⟩, 9), (⟨"BakeryNight$Parser", "readOven", "(LBakeryNight$Bakery;)V"⟩, 9), (⟨"BakeryNight$Parser", "readShop", "(LBakeryNight$Bakery;)V"⟩, 9), (⟨"BakeryNight$Parser", "readStreet", "(LBakeryNight$Bakery;)V"⟩, 9), (⟨"BakeryNight$Parser", "readPlace", "(LBakeryNight$Bakery;I)I"⟩, 9), (⟨"BakeryNight$Parser", "readVan", "(LBakeryNight$Bakery;)V"⟩, 9), (⟨"BakeryNight$Parser", "readOrder", "(LBakeryNight$Bakery;)V"⟩, 9), (⟨"BakeryNight$Parser", "readKnownName", "([JI)I"⟩, 9), (⟨"BakeryNight$Parser", "readSemicolon", "()V"⟩, 9), (⟨"java/lang/Throwable", "fillInStackTrace", "(I)Ljava/lang/Throwable;"⟩, 6), (⟨"BakeryNight", "recordChange", "(III)V"⟩, 12), (⟨"BakeryNight$History", "dropOldest", "()V"⟩, 4)]
theorem lw_r3 : ∀ q ∈ lw_privs_3, lw_okq q := List.forall_mem_cons.mpr ⟨lw_p32, List.forall_mem_cons.mpr ⟨lw_p33, List.forall_mem_cons.mpr ⟨lw_p34, List.forall_mem_cons.mpr ⟨lw_p35, List.forall_mem_cons.mpr ⟨lw_p36, List.forall_mem_cons.mpr ⟨lw_p37, List.forall_mem_cons.mpr ⟨lw_p38, List.forall_mem_cons.mpr ⟨lw_p39, List.forall_mem_cons.mpr ⟨lw_p40, List.forall_mem_cons.mpr ⟨lw_p41, List.forall_mem_cons.mpr ⟨lw_p42, List.forall_mem_cons.mpr ⟨lw_p43, List.forall_mem_cons.mpr ⟨lw_p44, List.forall_mem_cons.mpr ⟨lw_p45, List.forall_mem_cons.mpr ⟨lw_p46, List.forall_mem_cons.mpr ⟨lw_p47, fun _ h => absurd h List.not_mem_nil⟩⟩⟩⟩⟩⟩⟩⟩⟩⟩⟩⟩⟩⟩⟩⟩
def lw_privs : List (MethodName × Nat) := lw_privs_1 ++ (lw_privs_2 ++ (lw_privs_3))
def lw_tbl : List Cond := k2_sels lw_privs ++ tables_1
theorem lw_privs_ok : ∀ q ∈ lw_privs, lw_okq q := by
  show ∀ q ∈ lw_privs_1 ++ (lw_privs_2 ++ (lw_privs_3)), lw_okq q
  exact List.forall_mem_append.mpr ⟨lw_r1, List.forall_mem_append.mpr ⟨lw_r2, lw_r3⟩⟩

/-- the words of the tables that every method's contract takes along -/
def GW : List Cond := lw_tbl.filter goodWord
theorem gwi {w : Cond} (i : Nat) (h : lw_tbl[i]? = some w) (hg : goodWord w = true) : w ∈ GW := List.mem_filter.mpr ⟨List.mem_of_getElem? h, hg⟩
theorem gwt0 {w : Cond} (i : Nat) (h0 : tables_1_1[i]? = some w) (hg : goodWord w = true) : w ∈ GW := by
  have h := List.mem_of_getElem? h0
  exact List.mem_filter.mpr ⟨List.mem_append_right _ (List.mem_append_left _ h), hg⟩
theorem gwt1 {w : Cond} (i : Nat) (h0 : tables_1_2[i]? = some w) (hg : goodWord w = true) : w ∈ GW := by
  have h := List.mem_of_getElem? h0
  exact List.mem_filter.mpr ⟨List.mem_append_right _ (List.mem_append_right _ (List.mem_append_left _ h)), hg⟩
theorem gwt2 {w : Cond} (i : Nat) (h0 : tables_1_3[i]? = some w) (hg : goodWord w = true) : w ∈ GW := by
  have h := List.mem_of_getElem? h0
  exact List.mem_filter.mpr ⟨List.mem_append_right _ (List.mem_append_right _ (List.mem_append_right _ (List.mem_append_left _ h))), hg⟩
theorem gwt3 {w : Cond} (i : Nat) (h0 : tables_1_4[i]? = some w) (hg : goodWord w = true) : w ∈ GW := by
  have h := List.mem_of_getElem? h0
  exact List.mem_filter.mpr ⟨List.mem_append_right _ (List.mem_append_right _ (List.mem_append_right _ (List.mem_append_right _ (List.mem_append_left _ h)))), hg⟩
theorem gwt4 {w : Cond} (i : Nat) (h0 : tables_1_5[i]? = some w) (hg : goodWord w = true) : w ∈ GW := by
  have h := List.mem_of_getElem? h0
  exact List.mem_filter.mpr ⟨List.mem_append_right _ (List.mem_append_right _ (List.mem_append_right _ (List.mem_append_right _ (List.mem_append_right _ (List.mem_append_left _ h))))), hg⟩
theorem gwt5 {w : Cond} (i : Nat) (h0 : tables_1_6[i]? = some w) (hg : goodWord w = true) : w ∈ GW := by
  have h := List.mem_of_getElem? h0
  exact List.mem_filter.mpr ⟨List.mem_append_right _ (List.mem_append_right _ (List.mem_append_right _ (List.mem_append_right _ (List.mem_append_right _ (List.mem_append_right _ (List.mem_append_left _ h)))))), hg⟩
theorem gwt6 {w : Cond} (i : Nat) (h0 : tables_1_7[i]? = some w) (hg : goodWord w = true) : w ∈ GW := by
  have h := List.mem_of_getElem? h0
  exact List.mem_filter.mpr ⟨List.mem_append_right _ (List.mem_append_right _ (List.mem_append_right _ (List.mem_append_right _ (List.mem_append_right _ (List.mem_append_right _ (List.mem_append_right _ (h))))))), hg⟩
theorem gwp0 {w : Cond} (i : Nat) (h0 : (k2_sels lw_privs_1)[i]? = some w) (hg : goodWord w = true) : w ∈ GW := by
  have h1 := List.mem_of_getElem? h0
  obtain ⟨q, hq, hw⟩ := List.mem_map.mp h1
  have h := hq
  exact List.mem_filter.mpr ⟨List.mem_append_left _ (List.mem_map.mpr ⟨q, List.mem_append_left _ h, hw⟩), hg⟩
theorem gwp1 {w : Cond} (i : Nat) (h0 : (k2_sels lw_privs_2)[i]? = some w) (hg : goodWord w = true) : w ∈ GW := by
  have h1 := List.mem_of_getElem? h0
  obtain ⟨q, hq, hw⟩ := List.mem_map.mp h1
  have h := hq
  exact List.mem_filter.mpr ⟨List.mem_append_left _ (List.mem_map.mpr ⟨q, List.mem_append_right _ (List.mem_append_left _ h), hw⟩), hg⟩
theorem gwp2 {w : Cond} (i : Nat) (h0 : (k2_sels lw_privs_3)[i]? = some w) (hg : goodWord w = true) : w ∈ GW := by
  have h1 := List.mem_of_getElem? h0
  obtain ⟨q, hq, hw⟩ := List.mem_map.mp h1
  have h := hq
  exact List.mem_filter.mpr ⟨List.mem_append_left _ (List.mem_map.mpr ⟨q, List.mem_append_right _ (List.mem_append_right _ (h)), hw⟩), hg⟩
theorem GW_good : ∀ w ∈ GW, goodWord w = true := fun _ h => (List.mem_filter.mp h).2

def RX0 : String := "BakeryNight$1"
def TX0 : u_T := fun k => match k with
  | _ => ("", "", "", false)
def tyX0 : Nat → FieldType := fun k => match k with
  | _ => .int
abbrev wsX00 : List Cond := u_ws RX0 TX0 0
theorem nmX0 : ∀ a, a < 0 → ∀ b, b < 0 → a ≠ b → (TX0 a).2.1 ≠ (TX0 b).2.1 := by decide +kernel
theorem tyX0_ok : ∀ k, k < 0 → parseFieldDescriptor (TX0 k).2.2.1 = some (tyX0 k) := by decide +kernel
def RX1 : String := "BakeryNight$Bakery"
def TX1 : u_T := fun k => match k with
  | 0 => ("BakeryNight$Bakery", "room", "I", false)
  | 1 => ("BakeryNight$Bakery", "cool", "I", false)
  | 2 => ("BakeryNight$Bakery", "mixers", "I", false)
  | 3 => ("BakeryNight$Bakery", "bakers", "I", false)
  | 4 => ("BakeryNight$Bakery", "doughs", "[LBakeryNight$Dough;", true)
  | 5 => ("BakeryNight$Bakery", "doughTotal", "I", false)
  | 6 => ("BakeryNight$Bakery", "ovens", "[LBakeryNight$Oven;", true)
  | 7 => ("BakeryNight$Bakery", "ovenTotal", "I", false)
  | 8 => ("BakeryNight$Bakery", "shopTotal", "I", false)
  | 9 => ("BakeryNight$Bakery", "roads", "LBakeryNight$Roads;", true)
  | 10 => ("BakeryNight$Bakery", "vanLoads", "[I", true)
  | 11 => ("BakeryNight$Bakery", "vanTotal", "I", false)
  | 12 => ("BakeryNight$Bakery", "orders", "[LBakeryNight$Order;", true)
  | _ => ("BakeryNight$Bakery", "orderTotal", "I", false)
def tyX1 : Nat → FieldType := fun k => match k with
  | 0 => .int
  | 1 => .int
  | 2 => .int
  | 3 => .int
  | 4 => .array (.object "BakeryNight$Dough")
  | 5 => .int
  | 6 => .array (.object "BakeryNight$Oven")
  | 7 => .int
  | 8 => .int
  | 9 => .object "BakeryNight$Roads"
  | 10 => .array .int
  | 11 => .int
  | 12 => .array (.object "BakeryNight$Order")
  | _ => .int
abbrev wsX10 : List Cond := u_ws RX1 TX1 14
theorem nmX1 : ∀ a, a < 14 → ∀ b, b < 14 → a ≠ b → (TX1 a).2.1 ≠ (TX1 b).2.1 := by decide +kernel
theorem tyX1_ok : ∀ k, k < 14 → parseFieldDescriptor (TX1 k).2.2.1 = some (tyX1 k) := by decide +kernel
abbrev cX1_init : ByteArray := prog_3_method_1_code
def yX1_init : MethodName := ⟨RX1, "<init>", "()V"⟩
abbrev cX1_clear : ByteArray := prog_3_method_2_code
def yX1_clear : MethodName := ⟨RX1, "clear", "()V"⟩
abbrev cX1_hasDough : ByteArray := prog_3_method_3_code
def yX1_hasDough : MethodName := ⟨RX1, "hasDough", "(I)Z"⟩
abbrev cX1_hasOven : ByteArray := prog_3_method_4_code
def yX1_hasOven : MethodName := ⟨RX1, "hasOven", "(I)Z"⟩
abbrev cX1_hasShop : ByteArray := prog_3_method_5_code
def yX1_hasShop : MethodName := ⟨RX1, "hasShop", "(I)Z"⟩
abbrev cX1_hasOrder : ByteArray := prog_3_method_7_code
def yX1_hasOrder : MethodName := ⟨RX1, "hasOrder", "(I)Z"⟩
abbrev cX1_allShops : ByteArray := prog_3_method_8_code
def yX1_allShops : MethodName := ⟨RX1, "allShops", "()I"⟩
abbrev cX1_inThisRoom : ByteArray := prog_3_method_9_code
def yX1_inThisRoom : MethodName := ⟨RX1, "inThisRoom", "(I)I"⟩
abbrev cX1_loavesOf : ByteArray := prog_3_method_10_code
def yX1_loavesOf : MethodName := ⟨RX1, "loavesOf", "(I)I"⟩
abbrev cX1_batchesOf : ByteArray := prog_3_method_11_code
def yX1_batchesOf : MethodName := ⟨RX1, "batchesOf", "(I)I"⟩
abbrev cX1_batchesNeeded : ByteArray := prog_3_method_12_code
def yX1_batchesNeeded : MethodName := ⟨RX1, "batchesNeeded", "()I"⟩
abbrev cX1_dueOf : ByteArray := prog_3_method_13_code
def yX1_dueOf : MethodName := ⟨RX1, "dueOf", "(I)I"⟩
abbrev cX1_loavesAheadOf : ByteArray := prog_3_method_14_code
def yX1_loavesAheadOf : MethodName := ⟨RX1, "loavesAheadOf", "(I)I"⟩
abbrev cX1_comesBefore : ByteArray := prog_3_method_15_code
def yX1_comesBefore : MethodName := ⟨RX1, "comesBefore", "(II)Z"⟩
abbrev cX1_markStreet : ByteArray := prog_3_method_16_code
def yX1_markStreet : MethodName := ⟨RX1, "markStreet", "(IZ)V"⟩
abbrev cX1_improve : ByteArray := prog_3_method_17_code
def yX1_improve : MethodName := ⟨RX1, "improve", "(II)V"⟩
def RX2 : String := "BakeryNight$Dough"
def TX2 : u_T := fun k => match k with
  | 0 => ("BakeryNight$Dough", "mix", "I", false)
  | 1 => ("BakeryNight$Dough", "rise", "I", false)
  | 2 => ("BakeryNight$Dough", "shape", "I", false)
  | 3 => ("BakeryNight$Dough", "proof", "I", false)
  | 4 => ("BakeryNight$Dough", "limit", "I", false)
  | 5 => ("BakeryNight$Dough", "bake", "I", false)
  | 6 => ("BakeryNight$Dough", "heat", "I", false)
  | 7 => ("BakeryNight$Dough", "loaves", "I", false)
  | 8 => ("BakeryNight$Dough", "keep", "I", false)
  | _ => ("BakeryNight$Dough", "price", "I", false)
def tyX2 : Nat → FieldType := fun k => match k with
  | 0 => .int
  | 1 => .int
  | 2 => .int
  | 3 => .int
  | 4 => .int
  | 5 => .int
  | 6 => .int
  | 7 => .int
  | 8 => .int
  | _ => .int
abbrev wsX20 : List Cond := u_ws RX2 TX2 10
theorem nmX2 : ∀ a, a < 10 → ∀ b, b < 10 → a ≠ b → (TX2 a).2.1 ≠ (TX2 b).2.1 := by decide +kernel
theorem tyX2_ok : ∀ k, k < 10 → parseFieldDescriptor (TX2 k).2.2.1 = some (tyX2 k) := by decide +kernel
abbrev cX2_init : ByteArray := prog_4_method_1_code
def yX2_init : MethodName := ⟨RX2, "<init>", "()V"⟩
def RX3 : String := "BakeryNight$History"
def TX3 : u_T := fun k => match k with
  | 0 => ("BakeryNight$History", "kinds", "[I", true)
  | 1 => ("BakeryNight$History", "indexes", "[I", true)
  | 2 => ("BakeryNight$History", "before", "[I", true)
  | _ => ("BakeryNight$History", "size", "I", false)
def tyX3 : Nat → FieldType := fun k => match k with
  | 0 => .array .int
  | 1 => .array .int
  | 2 => .array .int
  | _ => .int
abbrev wsX30 : List Cond := u_ws RX3 TX3 4
theorem nmX3 : ∀ a, a < 4 → ∀ b, b < 4 → a ≠ b → (TX3 a).2.1 ≠ (TX3 b).2.1 := by decide +kernel
theorem tyX3_ok : ∀ k, k < 4 → parseFieldDescriptor (TX3 k).2.2.1 = some (tyX3 k) := by decide +kernel
abbrev cX3_init : ByteArray := prog_5_method_1_code
def yX3_init : MethodName := ⟨RX3, "<init>", "()V"⟩
abbrev cX3_forget : ByteArray := prog_5_method_2_code
def yX3_forget : MethodName := ⟨RX3, "forget", "()V"⟩
abbrev cX3_add : ByteArray := prog_5_method_3_code
def yX3_add : MethodName := ⟨RX3, "add", "(III)V"⟩
abbrev cX3_dropOldest : ByteArray := prog_5_method_4_code
def yX3_dropOldest : MethodName := ⟨RX3, "dropOldest", "()V"⟩
abbrev cX3_takeBack : ByteArray := prog_5_method_5_code
def yX3_takeBack : MethodName := ⟨RX3, "takeBack", "(LBakeryNight$Bakery;)V"⟩
def RX4 : String := "BakeryNight$Night"
def TX4 : u_T := fun k => match k with
  | 0 => ("BakeryNight$Night", "start", "I", false)
  | 1 => ("BakeryNight$Night", "end", "I", false)
  | 2 => ("BakeryNight$Night", "batches", "I", false)
  | 3 => ("BakeryNight$Night", "dough", "[I", true)
  | 4 => ("BakeryNight$Night", "oven", "[I", true)
  | 5 => ("BakeryNight$Night", "begun", "[[I", true)
  | 6 => ("BakeryNight$Night", "risen", "[I", true)
  | 7 => ("BakeryNight$Night", "proofed", "[I", true)
  | 8 => ("BakeryNight$Night", "spoiled", "[I", true)
  | 9 => ("BakeryNight$Night", "mixed", "I", false)
  | 10 => ("BakeryNight$Night", "toShape", "[I", true)
  | 11 => ("BakeryNight$Night", "toShapeTotal", "I", false)
  | 12 => ("BakeryNight$Night", "toBake", "[I", true)
  | 13 => ("BakeryNight$Night", "toBakeTotal", "I", false)
  | 14 => ("BakeryNight$Night", "heat", "[I", true)
  | 15 => ("BakeryNight$Night", "steady", "[I", true)
  | 16 => ("BakeryNight$Night", "changed", "[I", true)
  | 17 => ("BakeryNight$Night", "taken", "[I", true)
  | 18 => ("BakeryNight$Night", "ready", "[I", true)
  | _ => ("BakeryNight$Night", "oldest", "[I", true)
def tyX4 : Nat → FieldType := fun k => match k with
  | 0 => .int
  | 1 => .int
  | 2 => .int
  | 3 => .array .int
  | 4 => .array .int
  | 5 => .array (.array .int)
  | 6 => .array .int
  | 7 => .array .int
  | 8 => .array .int
  | 9 => .int
  | 10 => .array .int
  | 11 => .int
  | 12 => .array .int
  | 13 => .int
  | 14 => .array .int
  | 15 => .array .int
  | 16 => .array .int
  | 17 => .array .int
  | 18 => .array .int
  | _ => .array .int
abbrev wsX40 : List Cond := u_ws RX4 TX4 20
theorem nmX4 : ∀ a, a < 20 → ∀ b, b < 20 → a ≠ b → (TX4 a).2.1 ≠ (TX4 b).2.1 := by decide +kernel
theorem tyX4_ok : ∀ k, k < 20 → parseFieldDescriptor (TX4 k).2.2.1 = some (tyX4 k) := by decide +kernel
abbrev cX4_init : ByteArray := prog_6_method_1_code
def yX4_init : MethodName := ⟨RX4, "<init>", "()V"⟩
abbrev cX4_run : ByteArray := prog_6_method_2_code
def yX4_run : MethodName := ⟨RX4, "run", "(LBakeryNight$Bakery;I)V"⟩
abbrev cX4_begin : ByteArray := prog_6_method_3_code
def yX4_begin : MethodName := ⟨RX4, "begin", "(LBakeryNight$Bakery;I)V"⟩
abbrev cX4_numberBatches : ByteArray := prog_6_method_4_code
def yX4_numberBatches : MethodName := ⟨RX4, "numberBatches", "(LBakeryNight$Bakery;)V"⟩
abbrev cX4_noteWhatEnded : ByteArray := prog_6_method_5_code
def yX4_noteWhatEnded : MethodName := ⟨RX4, "noteWhatEnded", "(LBakeryNight$Bakery;I)V"⟩
abbrev cX4_spoilWaiting : ByteArray := prog_6_method_6_code
def yX4_spoilWaiting : MethodName := ⟨RX4, "spoilWaiting", "(LBakeryNight$Bakery;I)V"⟩
abbrev cX4_bakeWaiting : ByteArray := prog_6_method_7_code
def yX4_bakeWaiting : MethodName := ⟨RX4, "bakeWaiting", "(LBakeryNight$Bakery;I)V"⟩
abbrev cX4_freeOven : ByteArray := prog_6_method_8_code
def yX4_freeOven : MethodName := ⟨RX4, "freeOven", "(LBakeryNight$Bakery;II)I"⟩
abbrev cX4_changeAnOven : ByteArray := prog_6_method_9_code
def yX4_changeAnOven : MethodName := ⟨RX4, "changeAnOven", "(LBakeryNight$Bakery;II)V"⟩
abbrev cX4_shapeWaiting : ByteArray := prog_6_method_10_code
def yX4_shapeWaiting : MethodName := ⟨RX4, "shapeWaiting", "(LBakeryNight$Bakery;I)V"⟩
abbrev cX4_mixNext : ByteArray := prog_6_method_11_code
def yX4_mixNext : MethodName := ⟨RX4, "mixNext", "(LBakeryNight$Bakery;I)V"⟩
abbrev cX4_nextMinute : ByteArray := prog_6_method_12_code
def yX4_nextMinute : MethodName := ⟨RX4, "nextMinute", "(LBakeryNight$Bakery;I)I"⟩
abbrev cX4_sooner : ByteArray := prog_6_method_13_code
def yX4_sooner : MethodName := ⟨RX4, "sooner", "(III)I"⟩
abbrev cX4_giveLoaves : ByteArray := prog_6_method_14_code
def yX4_giveLoaves : MethodName := ⟨RX4, "giveLoaves", "(LBakeryNight$Bakery;)V"⟩
abbrev cX4_takenOut : ByteArray := prog_6_method_15_code
def yX4_takenOut : MethodName := ⟨RX4, "takenOut", "(LBakeryNight$Bakery;II)I"⟩
abbrev cX4_leftOver : ByteArray := prog_6_method_16_code
def yX4_leftOver : MethodName := ⟨RX4, "leftOver", "(LBakeryNight$Bakery;I)I"⟩
abbrev cX4_leftOverCents : ByteArray := prog_6_method_17_code
def yX4_leftOverCents : MethodName := ⟨RX4, "leftOverCents", "(LBakeryNight$Bakery;II)I"⟩
abbrev cX4_hasBatch : ByteArray := prog_6_method_18_code
def yX4_hasBatch : MethodName := ⟨RX4, "hasBatch", "(I)Z"⟩
abbrev cX4_isPlace : ByteArray := prog_6_method_19_code
def yX4_isPlace : MethodName := ⟨RX4, "isPlace", "(I)Z"⟩
abbrev cX4_stageAt : ByteArray := prog_6_method_20_code
def yX4_stageAt : MethodName := ⟨RX4, "stageAt", "(I)I"⟩
abbrev cX4_spoiledBatches : ByteArray := prog_6_method_21_code
def yX4_spoiledBatches : MethodName := ⟨RX4, "spoiledBatches", "()I"⟩
abbrev cX4_minutesBakedIn : ByteArray := prog_6_method_22_code
def yX4_minutesBakedIn : MethodName := ⟨RX4, "minutesBakedIn", "(I)I"⟩
abbrev cX4_minutesWaitedFor : ByteArray := prog_6_method_23_code
def yX4_minutesWaitedFor : MethodName := ⟨RX4, "minutesWaitedFor", "(I)I"⟩
abbrev cX4_isIn : ByteArray := prog_6_method_24_code
def yX4_isIn : MethodName := ⟨RX4, "isIn", "(III)Z"⟩
abbrev cX4_shelvesTaken : ByteArray := prog_6_method_25_code
def yX4_shelvesTaken : MethodName := ⟨RX4, "shelvesTaken", "(II)I"⟩
abbrev cX4_inUse : ByteArray := prog_6_method_26_code
def yX4_inUse : MethodName := ⟨RX4, "inUse", "(II)I"⟩
def RX5 : String := "BakeryNight$Order"
def TX5 : u_T := fun k => match k with
  | 0 => ("BakeryNight$Order", "shop", "I", false)
  | 1 => ("BakeryNight$Order", "dough", "I", false)
  | 2 => ("BakeryNight$Order", "loaves", "I", false)
  | 3 => ("BakeryNight$Order", "by", "I", false)
  | _ => ("BakeryNight$Order", "cancelled", "Z", false)
def tyX5 : Nat → FieldType := fun k => match k with
  | 0 => .int
  | 1 => .int
  | 2 => .int
  | 3 => .int
  | _ => .boolean
abbrev wsX50 : List Cond := u_ws RX5 TX5 5
theorem nmX5 : ∀ a, a < 5 → ∀ b, b < 5 → a ≠ b → (TX5 a).2.1 ≠ (TX5 b).2.1 := by decide +kernel
theorem tyX5_ok : ∀ k, k < 5 → parseFieldDescriptor (TX5 k).2.2.1 = some (tyX5 k) := by decide +kernel
abbrev cX5_init : ByteArray := prog_7_method_1_code
def yX5_init : MethodName := ⟨RX5, "<init>", "()V"⟩
abbrev cX5_set : ByteArray := prog_7_method_2_code
def yX5_set : MethodName := ⟨RX5, "set", "(IIII)V"⟩
def RX6 : String := "BakeryNight$Oven"
def TX6 : u_T := fun k => match k with
  | 0 => ("BakeryNight$Oven", "shelves", "I", false)
  | 1 => ("BakeryNight$Oven", "heat", "I", false)
  | 2 => ("BakeryNight$Oven", "rate", "I", false)
  | _ => ("BakeryNight$Oven", "broken", "Z", false)
def tyX6 : Nat → FieldType := fun k => match k with
  | 0 => .int
  | 1 => .int
  | 2 => .int
  | _ => .boolean
abbrev wsX60 : List Cond := u_ws RX6 TX6 4
theorem nmX6 : ∀ a, a < 4 → ∀ b, b < 4 → a ≠ b → (TX6 a).2.1 ≠ (TX6 b).2.1 := by decide +kernel
theorem tyX6_ok : ∀ k, k < 4 → parseFieldDescriptor (TX6 k).2.2.1 = some (tyX6 k) := by decide +kernel
abbrev cX6_init : ByteArray := prog_8_method_1_code
def yX6_init : MethodName := ⟨RX6, "<init>", "()V"⟩
def RX7 : String := "BakeryNight$Parser"
def TX7 : u_T := fun k => match k with
  | 0 => ("BakeryNight$Parser", "scanner", "LBakeryNight$Scanner;", true)
  | 1 => ("BakeryNight$Parser", "doughNames", "[J", true)
  | 2 => ("BakeryNight$Parser", "shopNames", "[J", true)
  | 3 => ("BakeryNight$Parser", "roomGiven", "Z", false)
  | 4 => ("BakeryNight$Parser", "coolGiven", "Z", false)
  | 5 => ("BakeryNight$Parser", "mixersGiven", "Z", false)
  | 6 => ("BakeryNight$Parser", "bakersGiven", "Z", false)
  | 7 => ("BakeryNight$Parser", "faultCode", "I", false)
  | _ => ("BakeryNight$Parser", "faultOffset", "I", false)
def tyX7 : Nat → FieldType := fun k => match k with
  | 0 => .object "BakeryNight$Scanner"
  | 1 => .array .long
  | 2 => .array .long
  | 3 => .boolean
  | 4 => .boolean
  | 5 => .boolean
  | 6 => .boolean
  | 7 => .int
  | _ => .int
abbrev wsX70 : List Cond := u_ws RX7 TX7 9
theorem nmX7 : ∀ a, a < 9 → ∀ b, b < 9 → a ≠ b → (TX7 a).2.1 ≠ (TX7 b).2.1 := by decide +kernel
theorem tyX7_ok : ∀ k, k < 9 → parseFieldDescriptor (TX7 k).2.2.1 = some (tyX7 k) := by decide +kernel
abbrev cX7_init : ByteArray := prog_9_method_1_code
def yX7_init : MethodName := ⟨RX7, "<init>", "()V"⟩
abbrev cX7_parse : ByteArray := prog_9_method_2_code
def yX7_parse : MethodName := ⟨RX7, "parse", "([BILBakeryNight$Bakery;)I"⟩
abbrev cX7_fail : ByteArray := prog_9_method_3_code
def yX7_fail : MethodName := ⟨RX7, "fail", "(I)V"⟩
abbrev cX7_failed : ByteArray := prog_9_method_4_code
def yX7_failed : MethodName := ⟨RX7, "failed", "()Z"⟩
abbrev cX7_readStatement : ByteArray := prog_9_method_5_code
def yX7_readStatement : MethodName := ⟨RX7, "readStatement", "(LBakeryNight$Bakery;)V"⟩
abbrev cX7_readSemicolon : ByteArray := prog_9_method_6_code
def yX7_readSemicolon : MethodName := ⟨RX7, "readSemicolon", "()V"⟩
abbrev cX7_readSetting : ByteArray := prog_9_method_7_code
def yX7_readSetting : MethodName := ⟨RX7, "readSetting", "(ZII)I"⟩
abbrev cX7_beginOneOf : ByteArray := prog_9_method_8_code
def yX7_beginOneOf : MethodName := ⟨RX7, "beginOneOf", "(II)V"⟩
abbrev cX7_readDough : ByteArray := prog_9_method_9_code
def yX7_readDough : MethodName := ⟨RX7, "readDough", "(LBakeryNight$Bakery;)V"⟩
abbrev cX7_readOven : ByteArray := prog_9_method_10_code
def yX7_readOven : MethodName := ⟨RX7, "readOven", "(LBakeryNight$Bakery;)V"⟩
abbrev cX7_readShop : ByteArray := prog_9_method_11_code
def yX7_readShop : MethodName := ⟨RX7, "readShop", "(LBakeryNight$Bakery;)V"⟩
abbrev cX7_readStreet : ByteArray := prog_9_method_12_code
def yX7_readStreet : MethodName := ⟨RX7, "readStreet", "(LBakeryNight$Bakery;)V"⟩
abbrev cX7_readVan : ByteArray := prog_9_method_13_code
def yX7_readVan : MethodName := ⟨RX7, "readVan", "(LBakeryNight$Bakery;)V"⟩
abbrev cX7_readOrder : ByteArray := prog_9_method_14_code
def yX7_readOrder : MethodName := ⟨RX7, "readOrder", "(LBakeryNight$Bakery;)V"⟩
abbrev cX7_readField : ByteArray := prog_9_method_15_code
def yX7_readField : MethodName := ⟨RX7, "readField", "(LBakeryNight$Word;II)I"⟩
abbrev cX7_readNumber : ByteArray := prog_9_method_16_code
def yX7_readNumber : MethodName := ⟨RX7, "readNumber", "(II)I"⟩
abbrev cX7_readNewName : ByteArray := prog_9_method_17_code
def yX7_readNewName : MethodName := ⟨RX7, "readNewName", "([JI)V"⟩
abbrev cX7_readKnownName : ByteArray := prog_9_method_18_code
def yX7_readKnownName : MethodName := ⟨RX7, "readKnownName", "([JI)I"⟩
abbrev cX7_indexOfName : ByteArray := prog_9_method_19_code
def yX7_indexOfName : MethodName := ⟨RX7, "indexOfName", "([JI)I"⟩
abbrev cX7_readPlace : ByteArray := prog_9_method_20_code
def yX7_readPlace : MethodName := ⟨RX7, "readPlace", "(LBakeryNight$Bakery;I)I"⟩
def RX8 : String := "BakeryNight$Plan"
def TX8 : u_T := fun k => match k with
  | 0 => ("BakeryNight$Plan", "due", "[I", true)
  | 1 => ("BakeryNight$Plan", "load", "[I", true)
  | 2 => ("BakeryNight$Plan", "readyAt", "[I", true)
  | 3 => ("BakeryNight$Plan", "served", "I", false)
  | 4 => ("BakeryNight$Plan", "missed", "I", false)
  | 5 => ("BakeryNight$Plan", "setLoad", "[I", true)
  | 6 => ("BakeryNight$Plan", "setLate", "[I", true)
  | 7 => ("BakeryNight$Plan", "setMinutes", "[I", true)
  | 8 => ("BakeryNight$Plan", "setSlack", "[I", true)
  | 9 => ("BakeryNight$Plan", "shopsOfVan", "[I", true)
  | 10 => ("BakeryNight$Plan", "vanOfShop", "[I", true)
  | 11 => ("BakeryNight$Plan", "possible", "Z", false)
  | 12 => ("BakeryNight$Plan", "lateTotal", "I", false)
  | 13 => ("BakeryNight$Plan", "bestShops", "[I", true)
  | _ => ("BakeryNight$Plan", "arrival", "[I", true)
def tyX8 : Nat → FieldType := fun k => match k with
  | 0 => .array .int
  | 1 => .array .int
  | 2 => .array .int
  | 3 => .int
  | 4 => .int
  | 5 => .array .int
  | 6 => .array .int
  | 7 => .array .int
  | 8 => .array .int
  | 9 => .array .int
  | 10 => .array .int
  | 11 => .boolean
  | 12 => .int
  | 13 => .array .int
  | _ => .array .int
abbrev wsX80 : List Cond := u_ws RX8 TX8 15
theorem nmX8 : ∀ a, a < 15 → ∀ b, b < 15 → a ≠ b → (TX8 a).2.1 ≠ (TX8 b).2.1 := by decide +kernel
theorem tyX8_ok : ∀ k, k < 15 → parseFieldDescriptor (TX8 k).2.2.1 = some (tyX8 k) := by decide +kernel
abbrev cX8_init : ByteArray := prog_10_method_1_code
def yX8_init : MethodName := ⟨RX8, "<init>", "()V"⟩
abbrev cX8_gather : ByteArray := prog_10_method_2_code
def yX8_gather : MethodName := ⟨RX8, "gather", "(LBakeryNight$Bakery;LBakeryNight$Night;)V"⟩
abbrev cX8_choose : ByteArray := prog_10_method_3_code
def yX8_choose : MethodName := ⟨RX8, "choose", "(LBakeryNight$Bakery;)V"⟩
abbrev cX8_latest : ByteArray := prog_10_method_4_code
def yX8_latest : MethodName := ⟨RX8, "latest", "(LBakeryNight$Bakery;)I"⟩
abbrev cX8_firstWay : ByteArray := prog_10_method_5_code
def yX8_firstWay : MethodName := ⟨RX8, "firstWay", "(LBakeryNight$Bakery;)I"⟩
abbrev cX8_nextWay : ByteArray := prog_10_method_6_code
def yX8_nextWay : MethodName := ⟨RX8, "nextWay", "(LBakeryNight$Bakery;)V"⟩
abbrev cX8_canCarry : ByteArray := prog_10_method_7_code
def yX8_canCarry : MethodName := ⟨RX8, "canCarry", "(LBakeryNight$Bakery;)Z"⟩
abbrev cX8_measureSets : ByteArray := prog_10_method_8_code
def yX8_measureSets : MethodName := ⟨RX8, "measureSets", "(LBakeryNight$Bakery;)V"⟩
abbrev cX8_drive : ByteArray := prog_10_method_9_code
def yX8_drive : MethodName := ⟨RX8, "drive", "(LBakeryNight$Roads;I)V"⟩
abbrev cX8_departureFor : ByteArray := prog_10_method_10_code
def yX8_departureFor : MethodName := ⟨RX8, "departureFor", "(I)I"⟩
abbrev cX8_missedTotal : ByteArray := prog_10_method_11_code
def yX8_missedTotal : MethodName := ⟨RX8, "missedTotal", "()I"⟩
def RX9 : String := "BakeryNight$Roads"
def TX9 : u_T := fun k => match k with
  | 0 => ("BakeryNight$Roads", "from", "[I", true)
  | 1 => ("BakeryNight$Roads", "to", "[I", true)
  | 2 => ("BakeryNight$Roads", "minutes", "[I", true)
  | 3 => ("BakeryNight$Roads", "closed", "[Z", true)
  | 4 => ("BakeryNight$Roads", "streetTotal", "I", false)
  | 5 => ("BakeryNight$Roads", "shortest", "[[I", true)
  | _ => ("BakeryNight$Roads", "rest", "[I", true)
def tyX9 : Nat → FieldType := fun k => match k with
  | 0 => .array .int
  | 1 => .array .int
  | 2 => .array .int
  | 3 => .array .boolean
  | 4 => .int
  | 5 => .array (.array .int)
  | _ => .array .int
abbrev wsX90 : List Cond := u_ws RX9 TX9 7
theorem nmX9 : ∀ a, a < 7 → ∀ b, b < 7 → a ≠ b → (TX9 a).2.1 ≠ (TX9 b).2.1 := by decide +kernel
theorem tyX9_ok : ∀ k, k < 7 → parseFieldDescriptor (TX9 k).2.2.1 = some (tyX9 k) := by decide +kernel
abbrev cX9_init : ByteArray := prog_11_method_1_code
def yX9_init : MethodName := ⟨RX9, "<init>", "()V"⟩
abbrev cX9_between : ByteArray := prog_11_method_2_code
def yX9_between : MethodName := ⟨RX9, "between", "(II)I"⟩
abbrev cX9_restOfRoute : ByteArray := prog_11_method_3_code
def yX9_restOfRoute : MethodName := ⟨RX9, "restOfRoute", "(II)I"⟩
abbrev cX9_explore : ByteArray := prog_11_method_4_code
def yX9_explore : MethodName := ⟨RX9, "explore", "(II)V"⟩
abbrev cX9_joinStreets : ByteArray := prog_11_method_5_code
def yX9_joinStreets : MethodName := ⟨RX9, "joinStreets", "()V"⟩
abbrev cX9_measureRoutes : ByteArray := prog_11_method_6_code
def yX9_measureRoutes : MethodName := ⟨RX9, "measureRoutes", "(I)V"⟩
abbrev cX9_by : ByteArray := prog_11_method_7_code
def yX9_by : MethodName := ⟨RX9, "by", "(III)I"⟩
abbrev cX9_nextStop : ByteArray := prog_11_method_8_code
def yX9_nextStop : MethodName := ⟨RX9, "nextStop", "(II)I"⟩
def RX10 : String := "BakeryNight$Scanner"
def TX10 : u_T := fun k => match k with
  | 0 => ("BakeryNight$Scanner", "text", "[B", false)
  | 1 => ("BakeryNight$Scanner", "length", "I", false)
  | 2 => ("BakeryNight$Scanner", "kind", "I", false)
  | 3 => ("BakeryNight$Scanner", "start", "I", false)
  | _ => ("BakeryNight$Scanner", "end", "I", false)
def tyX10 : Nat → FieldType := fun k => match k with
  | 0 => .array .byte
  | 1 => .int
  | 2 => .int
  | 3 => .int
  | _ => .int
abbrev wsX100 : List Cond := u_ws RX10 TX10 5
theorem nmX10 : ∀ a, a < 5 → ∀ b, b < 5 → a ≠ b → (TX10 a).2.1 ≠ (TX10 b).2.1 := by decide +kernel
theorem tyX10_ok : ∀ k, k < 5 → parseFieldDescriptor (TX10 k).2.2.1 = some (tyX10 k) := by decide +kernel
abbrev cX10_init : ByteArray := prog_12_method_1_code
def yX10_init : MethodName := ⟨RX10, "<init>", "()V"⟩
abbrev cX10_begin : ByteArray := prog_12_method_2_code
def yX10_begin : MethodName := ⟨RX10, "begin", "([BI)V"⟩
abbrev cX10_next : ByteArray := prog_12_method_3_code
def yX10_next : MethodName := ⟨RX10, "next", "()V"⟩
abbrev cX10_kindOf : ByteArray := prog_12_method_4_code
def yX10_kindOf : MethodName := ⟨RX10, "kindOf", "(I)I"⟩
abbrev cX10_isNumber : ByteArray := prog_12_method_5_code
def yX10_isNumber : MethodName := ⟨RX10, "isNumber", "()Z"⟩
abbrev cX10_value : ByteArray := prog_12_method_6_code
def yX10_value : MethodName := ⟨RX10, "value", "()I"⟩
abbrev cX10_isName : ByteArray := prog_12_method_7_code
def yX10_isName : MethodName := ⟨RX10, "isName", "()Z"⟩
abbrev cX10_letters : ByteArray := prog_12_method_8_code
def yX10_letters : MethodName := ⟨RX10, "letters", "()J"⟩
abbrev cX10_keyword : ByteArray := prog_12_method_9_code
def yX10_keyword : MethodName := ⟨RX10, "keyword", "()LBakeryNight$Word;"⟩
def RX11 : String := "BakeryNight$Word"
def TX11 : u_T := fun k => match k with
  | _ => ("", "", "", false)
def tyX11 : Nat → FieldType := fun k => match k with
  | _ => .int
abbrev wsX110 : List Cond := u_ws RX11 TX11 0
theorem nmX11 : ∀ a, a < 0 → ∀ b, b < 0 → a ≠ b → (TX11 a).2.1 ≠ (TX11 b).2.1 := by decide +kernel
theorem tyX11_ok : ∀ k, k < 0 → parseFieldDescriptor (TX11 k).2.2.1 = some (tyX11 k) := by decide +kernel
def RX12 : String := "BakeryNight"
def TX12 : u_T := fun k => match k with
  | 0 => ("BakeryNight", "buffer", "[B", true)
  | 1 => ("BakeryNight", "length", "I", false)
  | 2 => ("BakeryNight", "parser", "LBakeryNight$Parser;", true)
  | 3 => ("BakeryNight", "bakery", "LBakeryNight$Bakery;", false)
  | 4 => ("BakeryNight", "spare", "LBakeryNight$Bakery;", false)
  | 5 => ("BakeryNight", "history", "LBakeryNight$History;", true)
  | 6 => ("BakeryNight", "night", "LBakeryNight$Night;", true)
  | 7 => ("BakeryNight", "plan", "LBakeryNight$Plan;", true)
  | 8 => ("BakeryNight", "simulated", "Z", false)
  | 9 => ("BakeryNight", "planned", "Z", false)
  | 10 => ("BakeryNight", "trialNight", "LBakeryNight$Night;", true)
  | _ => ("BakeryNight", "trialPlan", "LBakeryNight$Plan;", true)
def tyX12 : Nat → FieldType := fun k => match k with
  | 0 => .array .byte
  | 1 => .int
  | 2 => .object "BakeryNight$Parser"
  | 3 => .object "BakeryNight$Bakery"
  | 4 => .object "BakeryNight$Bakery"
  | 5 => .object "BakeryNight$History"
  | 6 => .object "BakeryNight$Night"
  | 7 => .object "BakeryNight$Plan"
  | 8 => .boolean
  | 9 => .boolean
  | 10 => .object "BakeryNight$Night"
  | _ => .object "BakeryNight$Plan"
abbrev wsX120 : List Cond := u_ws RX12 TX12 12
theorem nmX12 : ∀ a, a < 12 → ∀ b, b < 12 → a ≠ b → (TX12 a).2.1 ≠ (TX12 b).2.1 := by decide +kernel
theorem tyX12_ok : ∀ k, k < 12 → parseFieldDescriptor (TX12 k).2.2.1 = some (tyX12 k) := by decide +kernel
abbrev cX12_init : ByteArray := prog_1_method_1_code
def yX12_init : MethodName := ⟨RX12, "<init>", "()V"⟩
abbrev cX12_feed : ByteArray := prog_1_method_2_code
def yX12_feed : MethodName := ⟨RX12, "feed", "(IIIII)I"⟩
abbrev cX12_append : ByteArray := prog_1_method_3_code
def yX12_append : MethodName := ⟨RX12, "append", "(I)V"⟩
abbrev cX12_truncate : ByteArray := prog_1_method_4_code
def yX12_truncate : MethodName := ⟨RX12, "truncate", "(I)Z"⟩
abbrev cX12_parseBakery : ByteArray := prog_1_method_5_code
def yX12_parseBakery : MethodName := ⟨RX12, "parseBakery", "()I"⟩
abbrev cX12_errorCode : ByteArray := prog_1_method_6_code
def yX12_errorCode : MethodName := ⟨RX12, "errorCode", "()I"⟩
abbrev cX12_orderCount : ByteArray := prog_1_method_8_code
def yX12_orderCount : MethodName := ⟨RX12, "orderCount", "()I"⟩
abbrev cX12_orderedLoaves : ByteArray := prog_1_method_9_code
def yX12_orderedLoaves : MethodName := ⟨RX12, "orderedLoaves", "(I)I"⟩
abbrev cX12_batchCount : ByteArray := prog_1_method_10_code
def yX12_batchCount : MethodName := ⟨RX12, "batchCount", "()I"⟩
abbrev cX12_routeMinutes : ByteArray := prog_1_method_14_code
def yX12_routeMinutes : MethodName := ⟨RX12, "routeMinutes", "(I)I"⟩
abbrev cX12_simulate : ByteArray := prog_1_method_16_code
def yX12_simulate : MethodName := ⟨RX12, "simulate", "(I)I"⟩
abbrev cX12_dropNight : ByteArray := prog_1_method_17_code
def yX12_dropNight : MethodName := ⟨RX12, "dropNight", "()V"⟩
abbrev cX12_batchDough : ByteArray := prog_1_method_18_code
def yX12_batchDough : MethodName := ⟨RX12, "batchDough", "(I)I"⟩
abbrev cX12_stageMinute : ByteArray := prog_1_method_19_code
def yX12_stageMinute : MethodName := ⟨RX12, "stageMinute", "(II)I"⟩
abbrev cX12_ovenOf : ByteArray := prog_1_method_20_code
def yX12_ovenOf : MethodName := ⟨RX12, "ovenOf", "(I)I"⟩
abbrev cX12_spoiledCount : ByteArray := prog_1_method_21_code
def yX12_spoiledCount : MethodName := ⟨RX12, "spoiledCount", "()I"⟩
abbrev cX12_changingMinutes : ByteArray := prog_1_method_22_code
def yX12_changingMinutes : MethodName := ⟨RX12, "changingMinutes", "(I)I"⟩
abbrev cX12_bakingMinutes : ByteArray := prog_1_method_23_code
def yX12_bakingMinutes : MethodName := ⟨RX12, "bakingMinutes", "(I)I"⟩
abbrev cX12_waitingMinutes : ByteArray := prog_1_method_24_code
def yX12_waitingMinutes : MethodName := ⟨RX12, "waitingMinutes", "(I)I"⟩
abbrev cX12_readyMinute : ByteArray := prog_1_method_28_code
def yX12_readyMinute : MethodName := ⟨RX12, "readyMinute", "(I)I"⟩
abbrev cX12_surplusLoaves : ByteArray := prog_1_method_29_code
def yX12_surplusLoaves : MethodName := ⟨RX12, "surplusLoaves", "(I)I"⟩
abbrev cX12_surplusValue : ByteArray := prog_1_method_30_code
def yX12_surplusValue : MethodName := ⟨RX12, "surplusValue", "(I)I"⟩
abbrev cX12_bestPlan : ByteArray := prog_1_method_31_code
def yX12_bestPlan : MethodName := ⟨RX12, "bestPlan", "()LBakeryNight$Plan;"⟩
abbrev cX12_failedShops : ByteArray := prog_1_method_32_code
def yX12_failedShops : MethodName := ⟨RX12, "failedShops", "()I"⟩
abbrev cX12_latestStart : ByteArray := prog_1_method_37_code
def yX12_latestStart : MethodName := ⟨RX12, "latestStart", "()I"⟩
abbrev cX12_latestStartWith : ByteArray := prog_1_method_38_code
def yX12_latestStartWith : MethodName := ⟨RX12, "latestStartWith", "(I)I"⟩
abbrev cX12_vitalStreet : ByteArray := prog_1_method_39_code
def yX12_vitalStreet : MethodName := ⟨RX12, "vitalStreet", "()I"⟩
abbrev cX12_latestAsItIs : ByteArray := prog_1_method_40_code
def yX12_latestAsItIs : MethodName := ⟨RX12, "latestAsItIs", "()I"⟩
abbrev cX12_recordChange : ByteArray := prog_1_method_41_code
def yX12_recordChange : MethodName := ⟨RX12, "recordChange", "(III)V"⟩
abbrev cX12_setRoom : ByteArray := prog_1_method_42_code
def yX12_setRoom : MethodName := ⟨RX12, "setRoom", "(I)I"⟩
abbrev cX12_breakOven : ByteArray := prog_1_method_43_code
def yX12_breakOven : MethodName := ⟨RX12, "breakOven", "(IZ)Z"⟩
abbrev cX12_closeStreet : ByteArray := prog_1_method_44_code
def yX12_closeStreet : MethodName := ⟨RX12, "closeStreet", "(IZ)Z"⟩
abbrev cX12_addOrder : ByteArray := prog_1_method_45_code
def yX12_addOrder : MethodName := ⟨RX12, "addOrder", "(IIII)I"⟩
abbrev cX12_cancelOrder : ByteArray := prog_1_method_46_code
def yX12_cancelOrder : MethodName := ⟨RX12, "cancelOrder", "(I)Z"⟩
abbrev cX12_moveOrder : ByteArray := prog_1_method_47_code
def yX12_moveOrder : MethodName := ⟨RX12, "moveOrder", "(II)I"⟩
abbrev cX12_undo : ByteArray := prog_1_method_48_code
def yX12_undo : MethodName := ⟨RX12, "undo", "()I"⟩
abbrev cX12_dividedUp : ByteArray := prog_1_method_49_code
def yX12_dividedUp : MethodName := ⟨RX12, "dividedUp", "(II)I"⟩
def RX13 : String := "BakeryNightModel"
def TX13 : u_T := fun k => match k with
  | _ => ("", "", "", false)
def tyX13 : Nat → FieldType := fun k => match k with
  | _ => .int
abbrev wsX130 : List Cond := u_ws RX13 TX13 0
theorem nmX13 : ∀ a, a < 0 → ∀ b, b < 0 → a ≠ b → (TX13 a).2.1 ≠ (TX13 b).2.1 := by decide +kernel
theorem tyX13_ok : ∀ k, k < 0 → parseFieldDescriptor (TX13 k).2.2.1 = some (tyX13 k) := by decide +kernel
def RJx145de : String := "java/io/Serializable"
def TJx145de : u_T := fun k => match k with
  | _ => ("", "", "", false)
def tyJx145de : Nat → FieldType := fun k => match k with
  | _ => .int
abbrev wsJx145de0 : List Cond := u_ws RJx145de TJx145de 0
theorem nmJx145de : ∀ a, a < 0 → ∀ b, b < 0 → a ≠ b → (TJx145de a).2.1 ≠ (TJx145de b).2.1 := by decide +kernel
theorem tyJx145de_ok : ∀ k, k < 0 → parseFieldDescriptor (TJx145de k).2.2.1 = some (tyJx145de k) := by decide +kernel
def RJ5 : String := "java/lang/AbstractStringBuilder"
def TJ5 : u_T := fun k => match k with
  | _ => ("", "", "", false)
def tyJ5 : Nat → FieldType := fun k => match k with
  | _ => .int
abbrev wsJ50 : List Cond := u_ws RJ5 TJ5 0
theorem nmJ5 : ∀ a, a < 0 → ∀ b, b < 0 → a ≠ b → (TJ5 a).2.1 ≠ (TJ5 b).2.1 := by decide +kernel
theorem tyJ5_ok : ∀ k, k < 0 → parseFieldDescriptor (TJ5 k).2.2.1 = some (tyJ5 k) := by decide +kernel
abbrev cJ5_init_d00df : ByteArray := prog_16_method_2_code
def yJ5_init_d00df : MethodName := ⟨RJ5, "<init>", "(I)V"⟩
abbrev cJ5_init_a7421 : ByteArray := prog_16_method_3_code
def yJ5_init_a7421 : MethodName := ⟨RJ5, "<init>", "(Ljava/lang/String;)V"⟩
abbrev cJ5_length_8abf5 : ByteArray := prog_16_method_6_code
def yJ5_length_8abf5 : MethodName := ⟨RJ5, "length", "()I"⟩
abbrev cJ5_ensureCapacityInternal_d00df : ByteArray := prog_16_method_9_code
def yJ5_ensureCapacityInternal_d00df : MethodName := ⟨RJ5, "ensureCapacityInternal", "(I)V"⟩
abbrev cJ5_newCapacity_0f7a4 : ByteArray := prog_16_method_10_code
def yJ5_newCapacity_0f7a4 : MethodName := ⟨RJ5, "newCapacity", "(I)I"⟩
abbrev cJ5_inflate_da8c8 : ByteArray := prog_16_method_11_code
def yJ5_inflate_da8c8 : MethodName := ⟨RJ5, "inflate", "()V"⟩
abbrev cJ5_append_cf1ce : ByteArray := prog_16_method_22_code
def yJ5_append_cf1ce : MethodName := ⟨RJ5, "append", "(Ljava/lang/String;)Ljava/lang/AbstractStringBuilder;"⟩
abbrev cJ5_appendNull_278bc : ByteArray := prog_16_method_26_code
def yJ5_appendNull_278bc : MethodName := ⟨RJ5, "appendNull", "()Ljava/lang/AbstractStringBuilder;"⟩
abbrev cJ5_append_c97b9 : ByteArray := prog_16_method_32_code
def yJ5_append_c97b9 : MethodName := ⟨RJ5, "append", "(I)Ljava/lang/AbstractStringBuilder;"⟩
abbrev cJ5_getValue_6d5f1 : ByteArray := prog_16_method_64_code
def yJ5_getValue_6d5f1 : MethodName := ⟨RJ5, "getValue", "()[B"⟩
abbrev cJ5_isLatin1_aae02 : ByteArray := prog_16_method_68_code
def yJ5_isLatin1_aae02 : MethodName := ⟨RJ5, "isLatin1", "()Z"⟩
abbrev cJ5_inflateIfNeededFor_a7421 : ByteArray := prog_16_method_71_code
def yJ5_inflateIfNeededFor_a7421 : MethodName := ⟨RJ5, "inflateIfNeededFor", "(Ljava/lang/String;)V"⟩
abbrev cJ5_putStringAt_47b60 : ByteArray := prog_16_method_73_code
def yJ5_putStringAt_47b60 : MethodName := ⟨RJ5, "putStringAt", "(ILjava/lang/String;)V"⟩
def RJx2cfe8 : String := "java/lang/Appendable"
def TJx2cfe8 : u_T := fun k => match k with
  | _ => ("", "", "", false)
def tyJx2cfe8 : Nat → FieldType := fun k => match k with
  | _ => .int
abbrev wsJx2cfe80 : List Cond := u_ws RJx2cfe8 TJx2cfe8 0
theorem nmJx2cfe8 : ∀ a, a < 0 → ∀ b, b < 0 → a ≠ b → (TJx2cfe8 a).2.1 ≠ (TJx2cfe8 b).2.1 := by decide +kernel
theorem tyJx2cfe8_ok : ∀ k, k < 0 → parseFieldDescriptor (TJx2cfe8 k).2.2.1 = some (tyJx2cfe8 k) := by decide +kernel
def RJx9f9b0 : String := "java/lang/CharSequence"
def TJx9f9b0 : u_T := fun k => match k with
  | _ => ("", "", "", false)
def tyJx9f9b0 : Nat → FieldType := fun k => match k with
  | _ => .int
abbrev wsJx9f9b00 : List Cond := u_ws RJx9f9b0 TJx9f9b0 0
theorem nmJx9f9b0 : ∀ a, a < 0 → ∀ b, b < 0 → a ≠ b → (TJx9f9b0 a).2.1 ≠ (TJx9f9b0 b).2.1 := by decide +kernel
theorem tyJx9f9b0_ok : ∀ k, k < 0 → parseFieldDescriptor (TJx9f9b0 k).2.2.1 = some (tyJx9f9b0 k) := by decide +kernel
def RJx8e188 : String := "java/lang/Cloneable"
def TJx8e188 : u_T := fun k => match k with
  | _ => ("", "", "", false)
def tyJx8e188 : Nat → FieldType := fun k => match k with
  | _ => .int
abbrev wsJx8e1880 : List Cond := u_ws RJx8e188 TJx8e188 0
theorem nmJx8e188 : ∀ a, a < 0 → ∀ b, b < 0 → a ≠ b → (TJx8e188 a).2.1 ≠ (TJx8e188 b).2.1 := by decide +kernel
theorem tyJx8e188_ok : ∀ k, k < 0 → parseFieldDescriptor (TJx8e188 k).2.2.1 = some (tyJx8e188 k) := by decide +kernel
def RJxb160c : String := "java/lang/Comparable"
def TJxb160c : u_T := fun k => match k with
  | _ => ("", "", "", false)
def tyJxb160c : Nat → FieldType := fun k => match k with
  | _ => .int
abbrev wsJxb160c0 : List Cond := u_ws RJxb160c TJxb160c 0
theorem nmJxb160c : ∀ a, a < 0 → ∀ b, b < 0 → a ≠ b → (TJxb160c a).2.1 ≠ (TJxb160c b).2.1 := by decide +kernel
theorem tyJxb160c_ok : ∀ k, k < 0 → parseFieldDescriptor (TJxb160c k).2.2.1 = some (tyJxb160c k) := by decide +kernel
def RJx29ce0 : String := "java/lang/Enum"
def TJx29ce0 : u_T := fun k => match k with
  | _ => ("", "", "", false)
def tyJx29ce0 : Nat → FieldType := fun k => match k with
  | _ => .int
abbrev wsJx29ce00 : List Cond := u_ws RJx29ce0 TJx29ce0 0
theorem nmJx29ce0 : ∀ a, a < 0 → ∀ b, b < 0 → a ≠ b → (TJx29ce0 a).2.1 ≠ (TJx29ce0 b).2.1 := by decide +kernel
theorem tyJx29ce0_ok : ∀ k, k < 0 → parseFieldDescriptor (TJx29ce0 k).2.2.1 = some (tyJx29ce0 k) := by decide +kernel
abbrev cJx29ce0_ordinal_8abf5 : ByteArray := prog_18_method_2_code
def yJx29ce0_ordinal_8abf5 : MethodName := ⟨RJx29ce0, "ordinal", "()I"⟩
def RJ6 : String := "java/lang/Integer"
def TJ6 : u_T := fun k => match k with
  | _ => ("", "", "", false)
def tyJ6 : Nat → FieldType := fun k => match k with
  | _ => .int
abbrev wsJ60 : List Cond := u_ws RJ6 TJ6 0
theorem nmJ6 : ∀ a, a < 0 → ∀ b, b < 0 → a ≠ b → (TJ6 a).2.1 ≠ (TJ6 b).2.1 := by decide +kernel
theorem tyJ6_ok : ∀ k, k < 0 → parseFieldDescriptor (TJ6 k).2.2.1 = some (tyJ6 k) := by decide +kernel
abbrev cJ6_getChars_ba4f3 : ByteArray := prog_22_method_12_code
def yJ6_getChars_ba4f3 : MethodName := ⟨RJ6, "getChars", "(II[B)I"⟩
abbrev cJ6_stringSize_0f7a4 : ByteArray := prog_22_method_13_code
def yJ6_stringSize_0f7a4 : MethodName := ⟨RJ6, "stringSize", "(I)I"⟩
abbrev cJ6_bitCount_0f7a4 : ByteArray := prog_22_method_49_code
def yJ6_bitCount_0f7a4 : MethodName := ⟨RJ6, "bitCount", "(I)I"⟩
def RJ9 : String := "java/lang/Math"
def TJ9 : u_T := fun k => match k with
  | _ => ("", "", "", false)
def tyJ9 : Nat → FieldType := fun k => match k with
  | _ => .int
abbrev wsJ90 : List Cond := u_ws RJ9 TJ9 0
theorem nmJ9 : ∀ a, a < 0 → ∀ b, b < 0 → a ≠ b → (TJ9 a).2.1 ≠ (TJ9 b).2.1 := by decide +kernel
theorem tyJ9_ok : ∀ k, k < 0 → parseFieldDescriptor (TJ9 k).2.2.1 = some (tyJ9 k) := by decide +kernel
abbrev cJ9_abs_0f7a4 : ByteArray := prog_23_method_59_code
def yJ9_abs_0f7a4 : MethodName := ⟨RJ9, "abs", "(I)I"⟩
abbrev cJ9_max_7cf53 : ByteArray := prog_23_method_65_code
def yJ9_max_7cf53 : MethodName := ⟨RJ9, "max", "(II)I"⟩
abbrev cJ9_min_7cf53 : ByteArray := prog_23_method_69_code
def yJ9_min_7cf53 : MethodName := ⟨RJ9, "min", "(II)I"⟩
def RJxd2413 : String := "java/lang/Number"
def TJxd2413 : u_T := fun k => match k with
  | _ => ("", "", "", false)
def tyJxd2413 : Nat → FieldType := fun k => match k with
  | _ => .int
abbrev wsJxd24130 : List Cond := u_ws RJxd2413 TJxd2413 0
theorem nmJxd2413 : ∀ a, a < 0 → ∀ b, b < 0 → a ≠ b → (TJxd2413 a).2.1 ≠ (TJxd2413 b).2.1 := by decide +kernel
theorem tyJxd2413_ok : ∀ k, k < 0 → parseFieldDescriptor (TJxd2413 k).2.2.1 = some (tyJxd2413 k) := by decide +kernel
def RJ0 : String := "java/lang/String"
def TJ0 : u_T := fun k => match k with
  | 0 => ("java/lang/String", "value", "[B", true)
  | 1 => ("java/lang/String", "coder", "B", true)
  | 2 => ("java/lang/String", "hash", "I", false)
  | _ => ("java/lang/String", "hashIsZero", "Z", false)
def tyJ0 : Nat → FieldType := fun k => match k with
  | 0 => .array .byte
  | 1 => .byte
  | 2 => .int
  | _ => .boolean
abbrev wsJ00 : List Cond := u_ws RJ0 TJ0 4
theorem nmJ0 : ∀ a, a < 4 → ∀ b, b < 4 → a ≠ b → (TJ0 a).2.1 ≠ (TJ0 b).2.1 := by decide +kernel
theorem tyJ0_ok : ∀ k, k < 4 → parseFieldDescriptor (TJ0 k).2.2.1 = some (tyJ0 k) := by decide +kernel
abbrev cJ0_init_81219 : ByteArray := prog_26_method_53_code
def yJ0_init_81219 : MethodName := ⟨RJ0, "<init>", "(Ljava/lang/StringBuilder;)V"⟩
abbrev cJ0_length_8abf5 : ByteArray := prog_26_method_54_code
def yJ0_length_8abf5 : MethodName := ⟨RJ0, "length", "()I"⟩
abbrev cJ0_charAt_5068e : ByteArray := prog_26_method_56_code
def yJ0_charAt_5068e : MethodName := ⟨RJ0, "charAt", "(I)C"⟩
abbrev cJ0_getBytes_840e7 : ByteArray := prog_26_method_147_code
def yJ0_getBytes_840e7 : MethodName := ⟨RJ0, "getBytes", "([BIB)V"⟩
abbrev cJ0_init_db425 : ByteArray := prog_26_method_150_code
def yJ0_init_db425 : MethodName := ⟨RJ0, "<init>", "(Ljava/lang/AbstractStringBuilder;Ljava/lang/Void;)V"⟩
abbrev cJ0_coder_7d493 : ByteArray := prog_26_method_152_code
def yJ0_coder_7d493 : MethodName := ⟨RJ0, "coder", "()B"⟩
abbrev cJ0_isLatin1_aae02 : ByteArray := prog_26_method_154_code
def yJ0_isLatin1_aae02 : MethodName := ⟨RJ0, "isLatin1", "()Z"⟩
abbrev cJ0_checkIndex_df160 : ByteArray := prog_26_method_155_code
def yJ0_checkIndex_df160 : MethodName := ⟨RJ0, "checkIndex", "(II)V"⟩
abbrev cJ0_checkBoundsOffCount_cabcc : ByteArray := prog_26_method_157_code
def yJ0_checkBoundsOffCount_cabcc : MethodName := ⟨RJ0, "checkBoundsOffCount", "(III)I"⟩
abbrev cJ0_checkBoundsBeginEnd_23922 : ByteArray := prog_26_method_158_code
def yJ0_checkBoundsBeginEnd_23922 : MethodName := ⟨RJ0, "checkBoundsBeginEnd", "(III)V"⟩
def RJ4 : String := "java/lang/StringBuilder"
def TJ4 : u_T := fun k => match k with
  | 0 => ("java/lang/AbstractStringBuilder", "value", "[B", false)
  | 1 => ("java/lang/AbstractStringBuilder", "coder", "B", false)
  | 2 => ("java/lang/AbstractStringBuilder", "maybeLatin1", "Z", false)
  | _ => ("java/lang/AbstractStringBuilder", "count", "I", false)
def tyJ4 : Nat → FieldType := fun k => match k with
  | 0 => .array .byte
  | 1 => .byte
  | 2 => .boolean
  | _ => .int
abbrev wsJ40 : List Cond := u_ws RJ4 TJ4 4
theorem nmJ4 : ∀ a, a < 4 → ∀ b, b < 4 → a ≠ b → (TJ4 a).2.1 ≠ (TJ4 b).2.1 := by decide +kernel
theorem tyJ4_ok : ∀ k, k < 4 → parseFieldDescriptor (TJ4 k).2.2.1 = some (tyJ4 k) := by decide +kernel
abbrev cJ4_init_da8c8 : ByteArray := prog_27_method_1_code
def yJ4_init_da8c8 : MethodName := ⟨RJ4, "<init>", "()V"⟩
abbrev cJ4_init_a7421 : ByteArray := prog_27_method_3_code
def yJ4_init_a7421 : MethodName := ⟨RJ4, "<init>", "(Ljava/lang/String;)V"⟩
abbrev cJ4_append_15ec4 : ByteArray := prog_27_method_7_code
def yJ4_append_15ec4 : MethodName := ⟨RJ4, "append", "(Ljava/lang/String;)Ljava/lang/StringBuilder;"⟩
abbrev cJ4_append_bf812 : ByteArray := prog_27_method_15_code
def yJ4_append_bf812 : MethodName := ⟨RJ4, "append", "(I)Ljava/lang/StringBuilder;"⟩
abbrev cJ4_toString_0e30d : ByteArray := prog_27_method_42_code
def yJ4_toString_0e30d : MethodName := ⟨RJ4, "toString", "()Ljava/lang/String;"⟩
abbrev cJ4_append_cf1ce : ByteArray := prog_27_method_80_code
def yJ4_append_cf1ce : MethodName := ⟨RJ4, "append", "(Ljava/lang/String;)Ljava/lang/AbstractStringBuilder;"⟩
abbrev cJ4_length_8abf5 : ByteArray := prog_27_method_93_code
def yJ4_length_8abf5 : MethodName := ⟨RJ4, "length", "()I"⟩
def RJ1 : String := "java/lang/StringLatin1"
def TJ1 : u_T := fun k => match k with
  | _ => ("", "", "", false)
def tyJ1 : Nat → FieldType := fun k => match k with
  | _ => .int
abbrev wsJ10 : List Cond := u_ws RJ1 TJ1 0
theorem nmJ1 : ∀ a, a < 0 → ∀ b, b < 0 → a ≠ b → (TJ1 a).2.1 ≠ (TJ1 b).2.1 := by decide +kernel
theorem tyJ1_ok : ∀ k, k < 0 → parseFieldDescriptor (TJ1 k).2.2.1 = some (tyJ1 k) := by decide +kernel
abbrev cJ1_charAt_3b067 : ByteArray := prog_28_method_2_code
def yJ1_charAt_3b067 : MethodName := ⟨RJ1, "charAt", "([BI)C"⟩
abbrev cJ1_inflate_0e8fd : ByteArray := prog_28_method_50_code
def yJ1_inflate_0e8fd : MethodName := ⟨RJ1, "inflate", "([BI[BII)V"⟩
def RJ2 : String := "java/lang/StringUTF16"
def TJ2 : u_T := fun k => match k with
  | _ => ("", "", "", false)
def tyJ2 : Nat → FieldType := fun k => match k with
  | _ => .int
abbrev wsJ20 : List Cond := u_ws RJ2 TJ2 0
theorem nmJ2 : ∀ a, a < 0 → ∀ b, b < 0 → a ≠ b → (TJ2 a).2.1 ≠ (TJ2 b).2.1 := by decide +kernel
theorem tyJ2_ok : ∀ k, k < 0 → parseFieldDescriptor (TJ2 k).2.2.1 = some (tyJ2 k) := by decide +kernel
abbrev cJ2_newBytesFor_77867 : ByteArray := prog_29_method_2_code
def yJ2_newBytesFor_77867 : MethodName := ⟨RJ2, "newBytesFor", "(I)[B"⟩
abbrev cJ2_newBytesLength_0f7a4 : ByteArray := prog_29_method_3_code
def yJ2_newBytesLength_0f7a4 : MethodName := ⟨RJ2, "newBytesLength", "(I)I"⟩
abbrev cJ2_putChar_b72d1 : ByteArray := prog_29_method_4_code
def yJ2_putChar_b72d1 : MethodName := ⟨RJ2, "putChar", "([BII)V"⟩
abbrev cJ2_getChar_3b067 : ByteArray := prog_29_method_5_code
def yJ2_getChar_3b067 : MethodName := ⟨RJ2, "getChar", "([BI)C"⟩
abbrev cJ2_length_9d52b : ByteArray := prog_29_method_6_code
def yJ2_length_9d52b : MethodName := ⟨RJ2, "length", "([B)I"⟩
abbrev cJ2_coderFromArrayLen_85cad : ByteArray := prog_29_method_15_code
def yJ2_coderFromArrayLen_85cad : MethodName := ⟨RJ2, "coderFromArrayLen", "([BI)B"⟩
abbrev cJ2_compress_39247 : ByteArray := prog_29_method_17_code
def yJ2_compress_39247 : MethodName := ⟨RJ2, "compress", "([BII)[B"⟩
abbrev cJ2_compress_5af95 : ByteArray := prog_29_method_22_code
def yJ2_compress_5af95 : MethodName := ⟨RJ2, "compress", "([BI[BII)I"⟩
abbrev cJ2_getChars_46870 : ByteArray := prog_29_method_77_code
def yJ2_getChars_46870 : MethodName := ⟨RJ2, "getChars", "(III[B)I"⟩
abbrev cJ2_putCharsAt_cd4e5 : ByteArray := prog_29_method_81_code
def yJ2_putCharsAt_cd4e5 : MethodName := ⟨RJ2, "putCharsAt", "([BICCCC)I"⟩
abbrev cJ2_charAt_3b067 : ByteArray := prog_29_method_83_code
def yJ2_charAt_3b067 : MethodName := ⟨RJ2, "charAt", "([BI)C"⟩
abbrev cJ2_inflate_0e8fd : ByteArray := prog_29_method_86_code
def yJ2_inflate_0e8fd : MethodName := ⟨RJ2, "inflate", "([BI[BII)V"⟩
abbrev cJ2_getChars_ba4f3 : ByteArray := prog_29_method_89_code
def yJ2_getChars_ba4f3 : MethodName := ⟨RJ2, "getChars", "(II[B)I"⟩
abbrev cJ2_checkIndex_2214a : ByteArray := prog_29_method_91_code
def yJ2_checkIndex_2214a : MethodName := ⟨RJ2, "checkIndex", "(I[B)V"⟩
abbrev cJ2_checkBoundsBeginEnd_d044e : ByteArray := prog_29_method_93_code
def yJ2_checkBoundsBeginEnd_d044e : MethodName := ⟨RJ2, "checkBoundsBeginEnd", "(II[B)V"⟩
abbrev cJ2_checkBoundsOffCount_d044e : ByteArray := prog_29_method_94_code
def yJ2_checkBoundsOffCount_d044e : MethodName := ⟨RJ2, "checkBoundsOffCount", "(II[B)V"⟩
def RJ10 : String := "java/lang/System"
def TJ10 : u_T := fun k => match k with
  | _ => ("", "", "", false)
def tyJ10 : Nat → FieldType := fun k => match k with
  | _ => .int
abbrev wsJ100 : List Cond := u_ws RJ10 TJ10 0
theorem nmJ10 : ∀ a, a < 0 → ∀ b, b < 0 → a ≠ b → (TJ10 a).2.1 ≠ (TJ10 b).2.1 := by decide +kernel
theorem tyJ10_ok : ∀ k, k < 0 → parseFieldDescriptor (TJ10 k).2.2.1 = some (tyJ10 k) := by decide +kernel
def RJxfd54e : String := "java/lang/constant/Constable"
def TJxfd54e : u_T := fun k => match k with
  | _ => ("", "", "", false)
def tyJxfd54e : Nat → FieldType := fun k => match k with
  | _ => .int
abbrev wsJxfd54e0 : List Cond := u_ws RJxfd54e TJxfd54e 0
theorem nmJxfd54e : ∀ a, a < 0 → ∀ b, b < 0 → a ≠ b → (TJxfd54e a).2.1 ≠ (TJxfd54e b).2.1 := by decide +kernel
theorem tyJxfd54e_ok : ∀ k, k < 0 → parseFieldDescriptor (TJxfd54e k).2.2.1 = some (tyJxfd54e k) := by decide +kernel
def RJx3cf43 : String := "java/lang/constant/ConstantDesc"
def TJx3cf43 : u_T := fun k => match k with
  | _ => ("", "", "", false)
def tyJx3cf43 : Nat → FieldType := fun k => match k with
  | _ => .int
abbrev wsJx3cf430 : List Cond := u_ws RJx3cf43 TJx3cf43 0
theorem nmJx3cf43 : ∀ a, a < 0 → ∀ b, b < 0 → a ≠ b → (TJx3cf43 a).2.1 ≠ (TJx3cf43 b).2.1 := by decide +kernel
theorem tyJx3cf43_ok : ∀ k, k < 0 → parseFieldDescriptor (TJx3cf43 k).2.2.1 = some (tyJx3cf43 k) := by decide +kernel
def RJ7 : String := "java/util/Arrays"
def TJ7 : u_T := fun k => match k with
  | _ => ("", "", "", false)
def tyJ7 : Nat → FieldType := fun k => match k with
  | _ => .int
abbrev wsJ70 : List Cond := u_ws RJ7 TJ7 0
theorem nmJ7 : ∀ a, a < 0 → ∀ b, b < 0 → a ≠ b → (TJ7 a).2.1 ≠ (TJ7 b).2.1 := by decide +kernel
theorem tyJ7_ok : ∀ k, k < 0 → parseFieldDescriptor (TJ7 k).2.2.1 = some (tyJ7 k) := by decide +kernel
abbrev cJ7_fill_53178 : ByteArray := prog_32_method_103_code
def yJ7_fill_53178 : MethodName := ⟨RJ7, "fill", "([II)V"⟩
abbrev cJ7_copyOf_9075b : ByteArray := prog_32_method_121_code
def yJ7_copyOf_9075b : MethodName := ⟨RJ7, "copyOf", "([BI)[B"⟩
abbrev cJ7_checkLength_df160 : ByteArray := prog_32_method_131_code
def yJ7_checkLength_df160 : MethodName := ⟨RJ7, "checkLength", "(II)V"⟩
abbrev cJ7_copyOfRange_39247 : ByteArray := prog_32_method_132_code
def yJ7_copyOfRange_39247 : MethodName := ⟨RJ7, "copyOfRange", "([BII)[B"⟩
abbrev cJ7_copyOfRangeByte_39247 : ByteArray := prog_32_method_133_code
def yJ7_copyOfRangeByte_39247 : MethodName := ⟨RJ7, "copyOfRangeByte", "([BII)[B"⟩
def RJ8 : String := "jdk/internal/util/ArraysSupport"
def TJ8 : u_T := fun k => match k with
  | _ => ("", "", "", false)
def tyJ8 : Nat → FieldType := fun k => match k with
  | _ => .int
abbrev wsJ80 : List Cond := u_ws RJ8 TJ8 0
theorem nmJ8 : ∀ a, a < 0 → ∀ b, b < 0 → a ≠ b → (TJ8 a).2.1 ≠ (TJ8 b).2.1 := by decide +kernel
theorem tyJ8_ok : ∀ k, k < 0 → parseFieldDescriptor (TJ8 k).2.2.1 = some (tyJ8 k) := by decide +kernel
abbrev cJ8_newLength_cabcc : ByteArray := prog_33_method_27_code
def yJ8_newLength_cabcc : MethodName := ⟨RJ8, "newLength", "(III)I"⟩
abbrev cJ8_hugeLength_7cf53 : ByteArray := prog_33_method_28_code
def yJ8_hugeLength_7cf53 : MethodName := ⟨RJ8, "hugeLength", "(II)I"⟩
def RJ3 : String := "jdk/internal/util/Preconditions"
def TJ3 : u_T := fun k => match k with
  | _ => ("", "", "", false)
def tyJ3 : Nat → FieldType := fun k => match k with
  | _ => .int
abbrev wsJ30 : List Cond := u_ws RJ3 TJ3 0
theorem nmJ3 : ∀ a, a < 0 → ∀ b, b < 0 → a ≠ b → (TJ3 a).2.1 ≠ (TJ3 b).2.1 := by decide +kernel
theorem tyJ3_ok : ∀ k, k < 0 → parseFieldDescriptor (TJ3 k).2.2.1 = some (tyJ3 k) := by decide +kernel
abbrev cJ3_checkIndex_8e157 : ByteArray := prog_34_method_11_code
def yJ3_checkIndex_8e157 : MethodName := ⟨RJ3, "checkIndex", "(IILjava/util/function/BiFunction;)I"⟩
abbrev cJ3_checkFromToIndex_8c36e : ByteArray := prog_34_method_12_code
def yJ3_checkFromToIndex_8c36e : MethodName := ⟨RJ3, "checkFromToIndex", "(IIILjava/util/function/BiFunction;)I"⟩
abbrev cJ3_checkFromIndexSize_8c36e : ByteArray := prog_34_method_13_code
def yJ3_checkFromIndexSize_8c36e : MethodName := ⟨RJ3, "checkFromIndexSize", "(IIILjava/util/function/BiFunction;)I"⟩
def RL : String := "BakeryNightLaw"
abbrev cL_cell : ByteArray := method_2_code
def yL_cell : MethodName := ⟨RL, "cell", "([II)I"⟩
abbrev cL_between : ByteArray := method_3_code
def yL_between : MethodName := ⟨RL, "between", "(III)I"⟩
abbrev cL_text : ByteArray := method_4_code
def yL_text : MethodName := ⟨RL, "text", "(LBakeryNight;Ljava/lang/String;)V"⟩
abbrev cL_parsed : ByteArray := method_5_code
def yL_parsed : MethodName := ⟨RL, "parsed", "(LBakeryNight;Ljava/lang/String;)I"⟩
abbrev cL_law : ByteArray := code
def yL_law : MethodName := ⟨RL, "law", "([I)Z"⟩
abbrev cL_bakery : ByteArray := method_7_code
def yL_bakery : MethodName := ⟨RL, "bakery", "([II)Ljava/lang/String;"⟩
abbrev cL_dough : ByteArray := method_8_code
def yL_dough : MethodName := ⟨RL, "dough", "(I)Ljava/lang/String;"⟩
abbrev cL_isNight : ByteArray := method_9_code
def yL_isNight : MethodName := ⟨RL, "isNight", "(LBakeryNight;I)Z"⟩
abbrev cL_isMoved : ByteArray := method_10_code
def yL_isMoved : MethodName := ⟨RL, "isMoved", "(LBakeryNight;I)Z"⟩
abbrev cL_isLatest : ByteArray := method_11_code
def yL_isLatest : MethodName := ⟨RL, "isLatest", "(LBakeryNight;)Z"⟩
abbrev cL_isUndone : ByteArray := method_12_code
def yL_isUndone : MethodName := ⟨RL, "isUndone", "(LBakeryNight;I)Z"⟩
abbrev vwCl : List vw_C := [(RX1, TX1, 14), (RX2, TX2, 10), (RX3, TX3, 4), (RX4, TX4, 20), (RX5, TX5, 5), (RX6, TX6, 4), (RX7, TX7, 9), (RX8, TX8, 15), (RX9, TX9, 7), (RX10, TX10, 5), (RX12, TX12, 12), (RJ0, TJ0, 4), (RJ4, TJ4, 4)]
