/-- a private method of a class that the tables say can be made, by its rows of tables_1 -/
def lw_okq (q : MethodName × Nat) : Prop := (q.1.cls ≠ "java/lang/invoke/MethodHandle" ∧ q.1.cls ≠ "java/lang/invoke/VarHandle") ∧ Cond.instantiable q.1.cls q.2 ∈ tables_1 ∧ Cond.privateMethod q.1 ∈ tables_1 ∧ Cond.instanceMethod q.1 ∈ tables_1
theorem lw_p0 : lw_okq (⟨"BakeryNight$Roads", "joinStreets", "()V"⟩, 7) := ⟨⟨by decide +kernel, by decide +kernel⟩, List.mem_of_getElem? (i := 222) (by decide +kernel), List.mem_of_getElem? (i := 278) (by decide +kernel), List.mem_of_getElem? (i := 279) (by decide +kernel)⟩
theorem lw_p1 : lw_okq (⟨"BakeryNight$Roads", "measureRoutes", "(I)V"⟩, 7) := ⟨⟨by decide +kernel, by decide +kernel⟩, List.mem_of_getElem? (i := 222) (by decide +kernel), List.mem_of_getElem? (i := 282) (by decide +kernel), List.mem_of_getElem? (i := 283) (by decide +kernel)⟩
theorem lw_p2 : lw_okq (⟨"BakeryNight$Roads", "by", "(III)I"⟩, 7) := ⟨⟨by decide +kernel, by decide +kernel⟩, List.mem_of_getElem? (i := 222) (by decide +kernel), List.mem_of_getElem? (i := 287) (by decide +kernel), List.mem_of_getElem? (i := 288) (by decide +kernel)⟩
theorem lw_p3 : lw_okq (⟨"BakeryNight", "append", "(I)V"⟩, 12) := ⟨⟨by decide +kernel, by decide +kernel⟩, List.mem_of_getElem? (i := 30) (by decide +kernel), List.mem_of_getElem? (i := 567) (by decide +kernel), List.mem_of_getElem? (i := 568) (by decide +kernel)⟩
theorem lw_p4 : lw_okq (⟨"BakeryNight$Parser", "readStatement", "(LBakeryNight$Bakery;)V"⟩, 9) := ⟨⟨by decide +kernel, by decide +kernel⟩, List.mem_of_getElem? (i := 38) (by decide +kernel), List.mem_of_getElem? (i := 596) (by decide +kernel), List.mem_of_getElem? (i := 597) (by decide +kernel)⟩
theorem lw_p5 : lw_okq (⟨"BakeryNight$Parser", "fail", "(I)V"⟩, 9) := ⟨⟨by decide +kernel, by decide +kernel⟩, List.mem_of_getElem? (i := 38) (by decide +kernel), List.mem_of_getElem? (i := 654) (by decide +kernel), List.mem_of_getElem? (i := 655) (by decide +kernel)⟩
theorem lw_p6 : lw_okq (⟨"BakeryNight$Parser", "readSetting", "(ZII)I"⟩, 9) := ⟨⟨by decide +kernel, by decide +kernel⟩, List.mem_of_getElem? (i := 38) (by decide +kernel), List.mem_of_getElem? (i := 666) (by decide +kernel), List.mem_of_getElem? (i := 667) (by decide +kernel)⟩
theorem lw_p7 : lw_okq (⟨"BakeryNight$Parser", "readNumber", "(II)I"⟩, 9) := ⟨⟨by decide +kernel, by decide +kernel⟩, List.mem_of_getElem? (i := 38) (by decide +kernel), List.mem_of_getElem? (i := 671) (by decide +kernel), List.mem_of_getElem? (i := 672) (by decide +kernel)⟩
theorem lw_p8 : lw_okq (⟨"BakeryNight$Parser", "failed", "()Z"⟩, 9) := ⟨⟨by decide +kernel, by decide +kernel⟩, List.mem_of_getElem? (i := 38) (by decide +kernel), List.mem_of_getElem? (i := 683) (by decide +kernel), List.mem_of_getElem? (i := 684) (by decide +kernel)⟩
theorem lw_p9 : lw_okq (⟨"BakeryNight$Parser", "readDough", "(LBakeryNight$Bakery;)V"⟩, 9) := ⟨⟨by decide +kernel, by decide +kernel⟩, List.mem_of_getElem? (i := 38) (by decide +kernel), List.mem_of_getElem? (i := 687) (by decide +kernel), List.mem_of_getElem? (i := 688) (by decide +kernel)⟩
theorem lw_p10 : lw_okq (⟨"BakeryNight$Parser", "beginOneOf", "(II)V"⟩, 9) := ⟨⟨by decide +kernel, by decide +kernel⟩, List.mem_of_getElem? (i := 38) (by decide +kernel), List.mem_of_getElem? (i := 691) (by decide +kernel), List.mem_of_getElem? (i := 692) (by decide +kernel)⟩
theorem lw_p11 : lw_okq (⟨"BakeryNight$Parser", "readNewName", "([JI)V"⟩, 9) := ⟨⟨by decide +kernel, by decide +kernel⟩, List.mem_of_getElem? (i := 38) (by decide +kernel), List.mem_of_getElem? (i := 695) (by decide +kernel), List.mem_of_getElem? (i := 696) (by decide +kernel)⟩
theorem lw_p12 : lw_okq (⟨"BakeryNight$Parser", "indexOfName", "([JI)I"⟩, 9) := ⟨⟨by decide +kernel, by decide +kernel⟩, List.mem_of_getElem? (i := 38) (by decide +kernel), List.mem_of_getElem? (i := 704) (by decide +kernel), List.mem_of_getElem? (i := 705) (by decide +kernel)⟩
theorem lw_p13 : lw_okq (⟨"BakeryNight$Parser", "readField", "(LBakeryNight$Word;II)I"⟩, 9) := ⟨⟨by decide +kernel, by decide +kernel⟩, List.mem_of_getElem? (i := 38) (by decide +kernel), List.mem_of_getElem? (i := 716) (by decide +kernel), List.mem_of_getElem? (i := 717) (by decide +kernel)⟩
theorem lw_p14 : lw_okq (⟨"BakeryNight$Parser", "readOven", "(LBakeryNight$Bakery;)V"⟩, 9) := ⟨⟨by decide +kernel, by decide +kernel⟩, List.mem_of_getElem? (i := 38) (by decide +kernel), List.mem_of_getElem? (i := 738) (by decide +kernel), List.mem_of_getElem? (i := 739) (by decide +kernel)⟩
theorem lw_p15 : lw_okq (⟨"BakeryNight$Parser", "readShop", "(LBakeryNight$Bakery;)V"⟩, 9) := ⟨⟨by decide +kernel, by decide +kernel⟩, List.mem_of_getElem? (i := 38) (by decide +kernel), List.mem_of_getElem? (i := 746) (by decide +kernel), List.mem_of_getElem? (i := 747) (by decide +kernel)⟩
def lw_privs_1 : List (MethodName × Nat) := [(⟨"BakeryNight$Roads", "joinStreets", "()V"⟩, 7), (⟨"BakeryNight$Roads", "measureRoutes", "(I)V"⟩, 7), (⟨"BakeryNight$Roads", "by", "(III)I"⟩, 7), (⟨"BakeryNight", "append", "(I)V"⟩, 12), (⟨"BakeryNight$Parser", "readStatement", "(LBakeryNight$Bakery;)V"⟩, 9), (⟨"BakeryNight$Parser", "fail", "(I)V"⟩, 9), (⟨"BakeryNight$Parser", "readSetting", "(ZII)I"⟩, 9), (⟨"BakeryNight$Parser", "readNumber", "(II)I"⟩, 9), (⟨"BakeryNight$Parser", "failed", "()Z"⟩, 9), (⟨"BakeryNight$Parser", "readDough", "(LBakeryNight$Bakery;)V"⟩, 9), (⟨"BakeryNight$Parser", "beginOneOf", "(II)V"⟩, 9), (⟨"BakeryNight$Parser", "readNewName", "([JI)V"⟩, 9), (⟨"BakeryNight$Parser", "indexOfName", "([JI)I"⟩, 9), (⟨"BakeryNight$Parser", "readField", "(LBakeryNight$Word;II)I"⟩, 9), (⟨"BakeryNight$Parser", "readOven", "(LBakeryNight$Bakery;)V"⟩, 9), (⟨"BakeryNight$Parser", "readShop", "(LBakeryNight$Bakery;)V"⟩, 9)]
theorem lw_r1 : ∀ q ∈ lw_privs_1, lw_okq q := List.forall_mem_cons.mpr ⟨lw_p0, List.forall_mem_cons.mpr ⟨lw_p1, List.forall_mem_cons.mpr ⟨lw_p2, List.forall_mem_cons.mpr ⟨lw_p3, List.forall_mem_cons.mpr ⟨lw_p4, List.forall_mem_cons.mpr ⟨lw_p5, List.forall_mem_cons.mpr ⟨lw_p6, List.forall_mem_cons.mpr ⟨lw_p7, List.forall_mem_cons.mpr ⟨lw_p8, List.forall_mem_cons.mpr ⟨lw_p9, List.forall_mem_cons.mpr ⟨lw_p10, List.forall_mem_cons.mpr ⟨lw_p11, List.forall_mem_cons.mpr ⟨lw_p12, List.forall_mem_cons.mpr ⟨lw_p13, List.forall_mem_cons.mpr ⟨lw_p14, List.forall_mem_cons.mpr ⟨lw_p15, fun _ h => absurd h List.not_mem_nil⟩⟩⟩⟩⟩⟩⟩⟩⟩⟩⟩⟩⟩⟩⟩⟩
theorem lw_p16 : lw_okq (⟨"BakeryNight$Parser", "readStreet", "(LBakeryNight$Bakery;)V"⟩, 9) := ⟨⟨by decide +kernel, by decide +kernel⟩, List.mem_of_getElem? (i := 38) (by decide +kernel), List.mem_of_getElem? (i := 750) (by decide +kernel), List.mem_of_getElem? (i := 751) (by decide +kernel)⟩
theorem lw_p17 : lw_okq (⟨"BakeryNight$Parser", "readPlace", "(LBakeryNight$Bakery;I)I"⟩, 9) := ⟨⟨by decide +kernel, by decide +kernel⟩, List.mem_of_getElem? (i := 38) (by decide +kernel), List.mem_of_getElem? (i := 754) (by decide +kernel), List.mem_of_getElem? (i := 755) (by decide +kernel)⟩
theorem lw_p18 : lw_okq (⟨"BakeryNight$Parser", "readVan", "(LBakeryNight$Bakery;)V"⟩, 9) := ⟨⟨by decide +kernel, by decide +kernel⟩, List.mem_of_getElem? (i := 38) (by decide +kernel), List.mem_of_getElem? (i := 760) (by decide +kernel), List.mem_of_getElem? (i := 761) (by decide +kernel)⟩
theorem lw_p19 : lw_okq (⟨"BakeryNight$Parser", "readOrder", "(LBakeryNight$Bakery;)V"⟩, 9) := ⟨⟨by decide +kernel, by decide +kernel⟩, List.mem_of_getElem? (i := 38) (by decide +kernel), List.mem_of_getElem? (i := 764) (by decide +kernel), List.mem_of_getElem? (i := 765) (by decide +kernel)⟩
theorem lw_p20 : lw_okq (⟨"BakeryNight$Parser", "readKnownName", "([JI)I"⟩, 9) := ⟨⟨by decide +kernel, by decide +kernel⟩, List.mem_of_getElem? (i := 38) (by decide +kernel), List.mem_of_getElem? (i := 768) (by decide +kernel), List.mem_of_getElem? (i := 769) (by decide +kernel)⟩
theorem lw_p21 : lw_okq (⟨"BakeryNight$Parser", "readSemicolon", "()V"⟩, 9) := ⟨⟨by decide +kernel, by decide +kernel⟩, List.mem_of_getElem? (i := 38) (by decide +kernel), List.mem_of_getElem? (i := 778) (by decide +kernel), List.mem_of_getElem? (i := 779) (by decide +kernel)⟩
theorem lw_p22 : lw_okq (⟨"BakeryNight", "dropNight", "()V"⟩, 12) := ⟨⟨by decide +kernel, by decide +kernel⟩, List.mem_of_getElem? (i := 30) (by decide +kernel), List.mem_of_getElem? (i := 787) (by decide +kernel), List.mem_of_getElem? (i := 788) (by decide +kernel)⟩
theorem lw_p23 : lw_okq (⟨"BakeryNight", "placeOf", "(I)I"⟩, 12) := ⟨⟨by decide +kernel, by decide +kernel⟩, List.mem_of_getElem? (i := 30) (by decide +kernel), List.mem_of_getElem? (i := 847) (by decide +kernel), List.mem_of_getElem? (i := 848) (by decide +kernel)⟩
theorem lw_p24 : lw_okq (⟨"BakeryNight$Night", "begin", "(LBakeryNight$Bakery;I)V"⟩, 20) := ⟨⟨by decide +kernel, by decide +kernel⟩, List.mem_of_getElem? (i := 395) (by decide +kernel), List.mem_of_getElem? (i := 897) (by decide +kernel), List.mem_of_getElem? (i := 898) (by decide +kernel)⟩
theorem lw_p25 : lw_okq (⟨"BakeryNight$Night", "numberBatches", "(LBakeryNight$Bakery;)V"⟩, 20) := ⟨⟨by decide +kernel, by decide +kernel⟩, List.mem_of_getElem? (i := 395) (by decide +kernel), List.mem_of_getElem? (i := 902) (by decide +kernel), List.mem_of_getElem? (i := 903) (by decide +kernel)⟩
theorem lw_p26 : lw_okq (⟨"BakeryNight$Night", "noteWhatEnded", "(LBakeryNight$Bakery;I)V"⟩, 20) := ⟨⟨by decide +kernel, by decide +kernel⟩, List.mem_of_getElem? (i := 395) (by decide +kernel), List.mem_of_getElem? (i := 914) (by decide +kernel), List.mem_of_getElem? (i := 915) (by decide +kernel)⟩
theorem lw_p27 : lw_okq (⟨"BakeryNight$Night", "isIn", "(III)Z"⟩, 20) := ⟨⟨by decide +kernel, by decide +kernel⟩, List.mem_of_getElem? (i := 395) (by decide +kernel), List.mem_of_getElem? (i := 922) (by decide +kernel), List.mem_of_getElem? (i := 923) (by decide +kernel)⟩
theorem lw_p28 : lw_okq (⟨"BakeryNight$Night", "spoilWaiting", "(LBakeryNight$Bakery;I)V"⟩, 20) := ⟨⟨by decide +kernel, by decide +kernel⟩, List.mem_of_getElem? (i := 395) (by decide +kernel), List.mem_of_getElem? (i := 926) (by decide +kernel), List.mem_of_getElem? (i := 927) (by decide +kernel)⟩
theorem lw_p29 : lw_okq (⟨"BakeryNight$Night", "bakeWaiting", "(LBakeryNight$Bakery;I)V"⟩, 20) := ⟨⟨by decide +kernel, by decide +kernel⟩, List.mem_of_getElem? (i := 395) (by decide +kernel), List.mem_of_getElem? (i := 930) (by decide +kernel), List.mem_of_getElem? (i := 931) (by decide +kernel)⟩
theorem lw_p30 : lw_okq (⟨"BakeryNight$Night", "freeOven", "(LBakeryNight$Bakery;II)I"⟩, 20) := ⟨⟨by decide +kernel, by decide +kernel⟩, List.mem_of_getElem? (i := 395) (by decide +kernel), List.mem_of_getElem? (i := 934) (by decide +kernel), List.mem_of_getElem? (i := 935) (by decide +kernel)⟩
theorem lw_p31 : lw_okq (⟨"BakeryNight$Night", "changeAnOven", "(LBakeryNight$Bakery;II)V"⟩, 20) := ⟨⟨by decide +kernel, by decide +kernel⟩, List.mem_of_getElem? (i := 395) (by decide +kernel), List.mem_of_getElem? (i := 938) (by decide +kernel), List.mem_of_getElem? (i := 939) (by decide +kernel)⟩
def lw_privs_2 : List (MethodName × Nat) := [(⟨"BakeryNight$Parser", "readStreet", "(LBakeryNight$Bakery;)V"⟩, 9), (⟨"BakeryNight$Parser", "readPlace", "(LBakeryNight$Bakery;I)I"⟩, 9), (⟨"BakeryNight$Parser", "readVan", "(LBakeryNight$Bakery;)V"⟩, 9), (⟨"BakeryNight$Parser", "readOrder", "(LBakeryNight$Bakery;)V"⟩, 9), (⟨"BakeryNight$Parser", "readKnownName", "([JI)I"⟩, 9), (⟨"BakeryNight$Parser", "readSemicolon", "()V"⟩, 9), (⟨"BakeryNight", "dropNight", "()V"⟩, 12), (⟨"BakeryNight", "placeOf", "(I)I"⟩, 12), (⟨"BakeryNight$Night", "begin", "(LBakeryNight$Bakery;I)V"⟩, 20), (⟨"BakeryNight$Night", "numberBatches", "(LBakeryNight$Bakery;)V"⟩, 20), (⟨"BakeryNight$Night", "noteWhatEnded", "(LBakeryNight$Bakery;I)V"⟩, 20), (⟨"BakeryNight$Night", "isIn", "(III)Z"⟩, 20), (⟨"BakeryNight$Night", "spoilWaiting", "(LBakeryNight$Bakery;I)V"⟩, 20), (⟨"BakeryNight$Night", "bakeWaiting", "(LBakeryNight$Bakery;I)V"⟩, 20), (⟨"BakeryNight$Night", "freeOven", "(LBakeryNight$Bakery;II)I"⟩, 20), (⟨"BakeryNight$Night", "changeAnOven", "(LBakeryNight$Bakery;II)V"⟩, 20)]
theorem lw_r2 : ∀ q ∈ lw_privs_2, lw_okq q := List.forall_mem_cons.mpr ⟨lw_p16, List.forall_mem_cons.mpr ⟨lw_p17, List.forall_mem_cons.mpr ⟨lw_p18, List.forall_mem_cons.mpr ⟨lw_p19, List.forall_mem_cons.mpr ⟨lw_p20, List.forall_mem_cons.mpr ⟨lw_p21, List.forall_mem_cons.mpr ⟨lw_p22, List.forall_mem_cons.mpr ⟨lw_p23, List.forall_mem_cons.mpr ⟨lw_p24, List.forall_mem_cons.mpr ⟨lw_p25, List.forall_mem_cons.mpr ⟨lw_p26, List.forall_mem_cons.mpr ⟨lw_p27, List.forall_mem_cons.mpr ⟨lw_p28, List.forall_mem_cons.mpr ⟨lw_p29, List.forall_mem_cons.mpr ⟨lw_p30, List.forall_mem_cons.mpr ⟨lw_p31, fun _ h => absurd h List.not_mem_nil⟩⟩⟩⟩⟩⟩⟩⟩⟩⟩⟩⟩⟩⟩⟩⟩
theorem lw_p32 : lw_okq (⟨"BakeryNight$Night", "shapeWaiting", "(LBakeryNight$Bakery;I)V"⟩, 20) := ⟨⟨by decide +kernel, by decide +kernel⟩, List.mem_of_getElem? (i := 395) (by decide +kernel), List.mem_of_getElem? (i := 946) (by decide +kernel), List.mem_of_getElem? (i := 947) (by decide +kernel)⟩
theorem lw_p33 : lw_okq (⟨"BakeryNight$Night", "mixNext", "(LBakeryNight$Bakery;I)V"⟩, 20) := ⟨⟨by decide +kernel, by decide +kernel⟩, List.mem_of_getElem? (i := 395) (by decide +kernel), List.mem_of_getElem? (i := 961) (by decide +kernel), List.mem_of_getElem? (i := 962) (by decide +kernel)⟩
theorem lw_p34 : lw_okq (⟨"BakeryNight$Night", "nextMinute", "(LBakeryNight$Bakery;I)I"⟩, 20) := ⟨⟨by decide +kernel, by decide +kernel⟩, List.mem_of_getElem? (i := 395) (by decide +kernel), List.mem_of_getElem? (i := 965) (by decide +kernel), List.mem_of_getElem? (i := 966) (by decide +kernel)⟩
theorem lw_p35 : lw_okq (⟨"BakeryNight$Night", "giveLoaves", "(LBakeryNight$Bakery;)V"⟩, 20) := ⟨⟨by decide +kernel, by decide +kernel⟩, List.mem_of_getElem? (i := 395) (by decide +kernel), List.mem_of_getElem? (i := 972) (by decide +kernel), List.mem_of_getElem? (i := 973) (by decide +kernel)⟩
theorem lw_p36 : lw_okq (⟨"BakeryNight$Bakery", "comesBefore", "(II)Z"⟩, 14) := ⟨⟨by decide +kernel, by decide +kernel⟩, List.mem_of_getElem? (i := 100) (by decide +kernel), List.mem_of_getElem? (i := 981) (by decide +kernel), List.mem_of_getElem? (i := 982) (by decide +kernel)⟩
theorem lw_p37 : lw_okq (⟨"BakeryNight$Night", "takenOut", "(LBakeryNight$Bakery;II)I"⟩, 20) := ⟨⟨by decide +kernel, by decide +kernel⟩, List.mem_of_getElem? (i := 395) (by decide +kernel), List.mem_of_getElem? (i := 985) (by decide +kernel), List.mem_of_getElem? (i := 986) (by decide +kernel)⟩
theorem lw_p38 : lw_okq (⟨"BakeryNight", "bestPlan", "()LBakeryNight$Plan;"⟩, 12) := ⟨⟨by decide +kernel, by decide +kernel⟩, List.mem_of_getElem? (i := 30) (by decide +kernel), List.mem_of_getElem? (i := 1073) (by decide +kernel), List.mem_of_getElem? (i := 1074) (by decide +kernel)⟩
theorem lw_p39 : lw_okq (⟨"BakeryNight$Plan", "measureSets", "(LBakeryNight$Bakery;)V"⟩, 15) := ⟨⟨by decide +kernel, by decide +kernel⟩, List.mem_of_getElem? (i := 471) (by decide +kernel), List.mem_of_getElem? (i := 1089) (by decide +kernel), List.mem_of_getElem? (i := 1090) (by decide +kernel)⟩
theorem lw_p40 : lw_okq (⟨"BakeryNight$Plan", "drive", "(LBakeryNight$Roads;I)V"⟩, 15) := ⟨⟨by decide +kernel, by decide +kernel⟩, List.mem_of_getElem? (i := 471) (by decide +kernel), List.mem_of_getElem? (i := 1093) (by decide +kernel), List.mem_of_getElem? (i := 1094) (by decide +kernel)⟩
theorem lw_p41 : lw_okq (⟨"BakeryNight$Plan", "departureFor", "(I)I"⟩, 15) := ⟨⟨by decide +kernel, by decide +kernel⟩, List.mem_of_getElem? (i := 471) (by decide +kernel), List.mem_of_getElem? (i := 1097) (by decide +kernel), List.mem_of_getElem? (i := 1098) (by decide +kernel)⟩
theorem lw_p42 : lw_okq (⟨"BakeryNight$Plan", "firstWay", "(LBakeryNight$Bakery;)I"⟩, 15) := ⟨⟨by decide +kernel, by decide +kernel⟩, List.mem_of_getElem? (i := 471) (by decide +kernel), List.mem_of_getElem? (i := 1103) (by decide +kernel), List.mem_of_getElem? (i := 1104) (by decide +kernel)⟩
theorem lw_p43 : lw_okq (⟨"BakeryNight$Plan", "canCarry", "(LBakeryNight$Bakery;)Z"⟩, 15) := ⟨⟨by decide +kernel, by decide +kernel⟩, List.mem_of_getElem? (i := 471) (by decide +kernel), List.mem_of_getElem? (i := 1110) (by decide +kernel), List.mem_of_getElem? (i := 1111) (by decide +kernel)⟩
theorem lw_p44 : lw_okq (⟨"BakeryNight$Plan", "nextWay", "(LBakeryNight$Bakery;)V"⟩, 15) := ⟨⟨by decide +kernel, by decide +kernel⟩, List.mem_of_getElem? (i := 471) (by decide +kernel), List.mem_of_getElem? (i := 1115) (by decide +kernel), List.mem_of_getElem? (i := 1116) (by decide +kernel)⟩
theorem lw_p45 : lw_okq (⟨"BakeryNight", "latestAsItIs", "()I"⟩, 12) := ⟨⟨by decide +kernel, by decide +kernel⟩, List.mem_of_getElem? (i := 30) (by decide +kernel), List.mem_of_getElem? (i := 1160) (by decide +kernel), List.mem_of_getElem? (i := 1161) (by decide +kernel)⟩
theorem lw_p46 : lw_okq (⟨"BakeryNight", "recordChange", "(III)V"⟩, 12) := ⟨⟨by decide +kernel, by decide +kernel⟩, List.mem_of_getElem? (i := 30) (by decide +kernel), List.mem_of_getElem? (i := 1186) (by decide +kernel), List.mem_of_getElem? (i := 1187) (by decide +kernel)⟩
theorem lw_p47 : lw_okq (⟨"BakeryNight$History", "dropOldest", "()V"⟩, 4) := ⟨⟨by decide +kernel, by decide +kernel⟩, List.mem_of_getElem? (i := 375) (by decide +kernel), List.mem_of_getElem? (i := 1194) (by decide +kernel), List.mem_of_getElem? (i := 1195) (by decide +kernel)⟩
def lw_privs_3 : List (MethodName × Nat) := [(⟨"BakeryNight$Night", "shapeWaiting", "(LBakeryNight$Bakery;I)V"⟩, 20), (⟨"BakeryNight$Night", "mixNext", "(LBakeryNight$Bakery;I)V"⟩, 20), (⟨"BakeryNight$Night", "nextMinute", "(LBakeryNight$Bakery;I)I"⟩, 20), (⟨"BakeryNight$Night", "giveLoaves", "(LBakeryNight$Bakery;)V"⟩, 20), (⟨"BakeryNight$Bakery", "comesBefore", "(II)Z"⟩, 14), (⟨"BakeryNight$Night", "takenOut", "(LBakeryNight$Bakery;II)I"⟩, 20), (⟨"BakeryNight", "bestPlan", "()LBakeryNight$Plan;"⟩, 12), (⟨"BakeryNight$Plan", "measureSets", "(LBakeryNight$Bakery;)V"⟩, 15), (⟨"BakeryNight$Plan", "drive", "(LBakeryNight$Roads;I)V"⟩, 15), (⟨"BakeryNight$Plan", "departureFor", "(I)I"⟩, 15), (⟨"BakeryNight$Plan", "firstWay", "(LBakeryNight$Bakery;)I"⟩, 15), (⟨"BakeryNight$Plan", "canCarry", "(LBakeryNight$Bakery;)Z"⟩, 15), (⟨"BakeryNight$Plan", "nextWay", "(LBakeryNight$Bakery;)V"⟩, 15), (⟨"BakeryNight", "latestAsItIs", "()I"⟩, 12), (⟨"BakeryNight", "recordChange", "(III)V"⟩, 12), (⟨"BakeryNight$History", "dropOldest", "()V"⟩, 4)]
theorem lw_r3 : ∀ q ∈ lw_privs_3, lw_okq q := List.forall_mem_cons.mpr ⟨lw_p32, List.forall_mem_cons.mpr ⟨lw_p33, List.forall_mem_cons.mpr ⟨lw_p34, List.forall_mem_cons.mpr ⟨lw_p35, List.forall_mem_cons.mpr ⟨lw_p36, List.forall_mem_cons.mpr ⟨lw_p37, List.forall_mem_cons.mpr ⟨lw_p38, List.forall_mem_cons.mpr ⟨lw_p39, List.forall_mem_cons.mpr ⟨lw_p40, List.forall_mem_cons.mpr ⟨lw_p41, List.forall_mem_cons.mpr ⟨lw_p42, List.forall_mem_cons.mpr ⟨lw_p43, List.forall_mem_cons.mpr ⟨lw_p44, List.forall_mem_cons.mpr ⟨lw_p45, List.forall_mem_cons.mpr ⟨lw_p46, List.forall_mem_cons.mpr ⟨lw_p47, fun _ h => absurd h List.not_mem_nil⟩⟩⟩⟩⟩⟩⟩⟩⟩⟩⟩⟩⟩⟩⟩⟩
theorem lw_p48 : lw_okq (⟨"java/lang/Throwable", "fillInStackTrace", "(I)Ljava/lang/Throwable;"⟩, 6) := ⟨⟨by decide +kernel, by decide +kernel⟩, List.mem_of_getElem? (i := 1279) (by decide +kernel), List.mem_of_getElem? (i := 1277) (by decide +kernel), List.mem_of_getElem? (i := 1278) (by decide +kernel)⟩
theorem lw_p49 : lw_okq (⟨"BakeryNightModel", "empties", "([I)V"⟩, 55) := ⟨⟨by decide +kernel, by decide +kernel⟩, List.mem_of_getElem? (i := 1343) (by decide +kernel), List.mem_of_getElem? (i := 1349) (by decide +kernel), List.mem_of_getElem? (i := 1350) (by decide +kernel)⟩
theorem lw_p50 : lw_okq (⟨"BakeryNightModel", "isIn", "(JJJ)Z"⟩, 55) := ⟨⟨by decide +kernel, by decide +kernel⟩, List.mem_of_getElem? (i := 1343) (by decide +kernel), List.mem_of_getElem? (i := 1531) (by decide +kernel), List.mem_of_getElem? (i := 1532) (by decide +kernel)⟩
theorem lw_p51 : lw_okq (⟨"BakeryNightModel", "skips", "()V"⟩, 55) := ⟨⟨by decide +kernel, by decide +kernel⟩, List.mem_of_getElem? (i := 1343) (by decide +kernel), List.mem_of_getElem? (i := 1539) (by decide +kernel), List.mem_of_getElem? (i := 1540) (by decide +kernel)⟩
theorem lw_p52 : lw_okq (⟨"BakeryNightModel", "here", "()I"⟩, 55) := ⟨⟨by decide +kernel, by decide +kernel⟩, List.mem_of_getElem? (i := 1343) (by decide +kernel), List.mem_of_getElem? (i := 1543) (by decide +kernel), List.mem_of_getElem? (i := 1544) (by decide +kernel)⟩
theorem lw_p53 : lw_okq (⟨"BakeryNightModel", "byteAt", "(I)I"⟩, 55) := ⟨⟨by decide +kernel, by decide +kernel⟩, List.mem_of_getElem? (i := 1343) (by decide +kernel), List.mem_of_getElem? (i := 1547) (by decide +kernel), List.mem_of_getElem? (i := 1548) (by decide +kernel)⟩
theorem lw_p54 : lw_okq (⟨"BakeryNightModel", "fine", "()Z"⟩, 55) := ⟨⟨by decide +kernel, by decide +kernel⟩, List.mem_of_getElem? (i := 1343) (by decide +kernel), List.mem_of_getElem? (i := 1551) (by decide +kernel), List.mem_of_getElem? (i := 1552) (by decide +kernel)⟩
theorem lw_p55 : lw_okq (⟨"BakeryNightModel", "statement", "()V"⟩, 55) := ⟨⟨by decide +kernel, by decide +kernel⟩, List.mem_of_getElem? (i := 1343) (by decide +kernel), List.mem_of_getElem? (i := 1555) (by decide +kernel), List.mem_of_getElem? (i := 1556) (by decide +kernel)⟩
theorem lw_p56 : lw_okq (⟨"BakeryNightModel", "singleHere", "()I"⟩, 55) := ⟨⟨by decide +kernel, by decide +kernel⟩, List.mem_of_getElem? (i := 1343) (by decide +kernel), List.mem_of_getElem? (i := 1559) (by decide +kernel), List.mem_of_getElem? (i := 1560) (by decide +kernel)⟩
theorem lw_p57 : lw_okq (⟨"BakeryNightModel", "isWord", "(Ljava/lang/String;)Z"⟩, 55) := ⟨⟨by decide +kernel, by decide +kernel⟩, List.mem_of_getElem? (i := 1343) (by decide +kernel), List.mem_of_getElem? (i := 1564) (by decide +kernel), List.mem_of_getElem? (i := 1565) (by decide +kernel)⟩
theorem lw_p58 : lw_okq (⟨"BakeryNightModel", "wordLength", "()I"⟩, 55) := ⟨⟨by decide +kernel, by decide +kernel⟩, List.mem_of_getElem? (i := 1343) (by decide +kernel), List.mem_of_getElem? (i := 1568) (by decide +kernel), List.mem_of_getElem? (i := 1569) (by decide +kernel)⟩
theorem lw_p59 : lw_okq (⟨"BakeryNightModel", "isLetter", "(I)Z"⟩, 55) := ⟨⟨by decide +kernel, by decide +kernel⟩, List.mem_of_getElem? (i := 1343) (by decide +kernel), List.mem_of_getElem? (i := 1572) (by decide +kernel), List.mem_of_getElem? (i := 1573) (by decide +kernel)⟩
theorem lw_p60 : lw_okq (⟨"BakeryNightModel", "manyHere", "()I"⟩, 55) := ⟨⟨by decide +kernel, by decide +kernel⟩, List.mem_of_getElem? (i := 1343) (by decide +kernel), List.mem_of_getElem? (i := 1583) (by decide +kernel), List.mem_of_getElem? (i := 1584) (by decide +kernel)⟩
theorem lw_p61 : lw_okq (⟨"BakeryNightModel", "single", "(I)V"⟩, 55) := ⟨⟨by decide +kernel, by decide +kernel⟩, List.mem_of_getElem? (i := 1343) (by decide +kernel), List.mem_of_getElem? (i := 1593) (by decide +kernel), List.mem_of_getElem? (i := 1594) (by decide +kernel)⟩
theorem lw_p62 : lw_okq (⟨"BakeryNightModel", "has", "(II)Z"⟩, 55) := ⟨⟨by decide +kernel, by decide +kernel⟩, List.mem_of_getElem? (i := 1343) (by decide +kernel), List.mem_of_getElem? (i := 1597) (by decide +kernel), List.mem_of_getElem? (i := 1598) (by decide +kernel)⟩
theorem lw_p63 : lw_okq (⟨"BakeryNightModel", "faulty", "(II)V"⟩, 55) := ⟨⟨by decide +kernel, by decide +kernel⟩, List.mem_of_getElem? (i := 1343) (by decide +kernel), List.mem_of_getElem? (i := 1601) (by decide +kernel), List.mem_of_getElem? (i := 1602) (by decide +kernel)⟩
def lw_privs_4 : List (MethodName × Nat) := [(⟨"java/lang/Throwable", "fillInStackTrace", "(I)Ljava/lang/Throwable;"⟩, 6), (⟨"BakeryNightModel", "empties", "([I)V"⟩, 55), (⟨"BakeryNightModel", "isIn", "(JJJ)Z"⟩, 55), (⟨"BakeryNightModel", "skips", "()V"⟩, 55), (⟨"BakeryNightModel", "here", "()I"⟩, 55), (⟨"BakeryNightModel", "byteAt", "(I)I"⟩, 55), (⟨"BakeryNightModel", "fine", "()Z"⟩, 55), (⟨"BakeryNightModel", "statement", "()V"⟩, 55), (⟨"BakeryNightModel", "singleHere", "()I"⟩, 55), (⟨"BakeryNightModel", "isWord", "(Ljava/lang/String;)Z"⟩, 55), (⟨"BakeryNightModel", "wordLength", "()I"⟩, 55), (⟨"BakeryNightModel", "isLetter", "(I)Z"⟩, 55), (⟨"BakeryNightModel", "manyHere", "()I"⟩, 55), (⟨"BakeryNightModel", "single", "(I)V"⟩, 55), (⟨"BakeryNightModel", "has", "(II)Z"⟩, 55), (⟨"BakeryNightModel", "faulty", "(II)V"⟩, 55)]
theorem lw_r4 : ∀ q ∈ lw_privs_4, lw_okq q := List.forall_mem_cons.mpr ⟨lw_p48, List.forall_mem_cons.mpr ⟨lw_p49, List.forall_mem_cons.mpr ⟨lw_p50, List.forall_mem_cons.mpr ⟨lw_p51, List.forall_mem_cons.mpr ⟨lw_p52, List.forall_mem_cons.mpr ⟨lw_p53, List.forall_mem_cons.mpr ⟨lw_p54, List.forall_mem_cons.mpr ⟨lw_p55, List.forall_mem_cons.mpr ⟨lw_p56, List.forall_mem_cons.mpr ⟨lw_p57, List.forall_mem_cons.mpr ⟨lw_p58, List.forall_mem_cons.mpr ⟨lw_p59, List.forall_mem_cons.mpr ⟨lw_p60, List.forall_mem_cons.mpr ⟨lw_p61, List.forall_mem_cons.mpr ⟨lw_p62, List.forall_mem_cons.mpr ⟨lw_p63, fun _ h => absurd h List.not_mem_nil⟩⟩⟩⟩⟩⟩⟩⟩⟩⟩⟩⟩⟩⟩⟩⟩
theorem lw_p64 : lw_okq (⟨"BakeryNightModel", "skipsWord", "()V"⟩, 55) := ⟨⟨by decide +kernel, by decide +kernel⟩, List.mem_of_getElem? (i := 1343) (by decide +kernel), List.mem_of_getElem? (i := 1605) (by decide +kernel), List.mem_of_getElem? (i := 1606) (by decide +kernel)⟩
theorem lw_p65 : lw_okq (⟨"BakeryNightModel", "number", "(II)I"⟩, 55) := ⟨⟨by decide +kernel, by decide +kernel⟩, List.mem_of_getElem? (i := 1343) (by decide +kernel), List.mem_of_getElem? (i := 1609) (by decide +kernel), List.mem_of_getElem? (i := 1610) (by decide +kernel)⟩
theorem lw_p66 : lw_okq (⟨"BakeryNightModel", "many", "(I)V"⟩, 55) := ⟨⟨by decide +kernel, by decide +kernel⟩, List.mem_of_getElem? (i := 1343) (by decide +kernel), List.mem_of_getElem? (i := 1615) (by decide +kernel), List.mem_of_getElem? (i := 1616) (by decide +kernel)⟩
theorem lw_p67 : lw_okq (⟨"BakeryNightModel", "mostOf", "(I)I"⟩, 55) := ⟨⟨by decide +kernel, by decide +kernel⟩, List.mem_of_getElem? (i := 1343) (by decide +kernel), List.mem_of_getElem? (i := 1619) (by decide +kernel), List.mem_of_getElem? (i := 1620) (by decide +kernel)⟩
theorem lw_p68 : lw_okq (⟨"BakeryNightModel", "doughStatement", "()V"⟩, 55) := ⟨⟨by decide +kernel, by decide +kernel⟩, List.mem_of_getElem? (i := 1343) (by decide +kernel), List.mem_of_getElem? (i := 1623) (by decide +kernel), List.mem_of_getElem? (i := 1624) (by decide +kernel)⟩
theorem lw_p69 : lw_okq (⟨"BakeryNightModel", "fresh", "([JI)J"⟩, 55) := ⟨⟨by decide +kernel, by decide +kernel⟩, List.mem_of_getElem? (i := 1343) (by decide +kernel), List.mem_of_getElem? (i := 1627) (by decide +kernel), List.mem_of_getElem? (i := 1628) (by decide +kernel)⟩
theorem lw_p70 : lw_okq (⟨"BakeryNightModel", "name", "()J"⟩, 55) := ⟨⟨by decide +kernel, by decide +kernel⟩, List.mem_of_getElem? (i := 1343) (by decide +kernel), List.mem_of_getElem? (i := 1631) (by decide +kernel), List.mem_of_getElem? (i := 1632) (by decide +kernel)⟩
theorem lw_p71 : lw_okq (⟨"BakeryNightModel", "isKeyword", "()Z"⟩, 55) := ⟨⟨by decide +kernel, by decide +kernel⟩, List.mem_of_getElem? (i := 1343) (by decide +kernel), List.mem_of_getElem? (i := 1635) (by decide +kernel), List.mem_of_getElem? (i := 1636) (by decide +kernel)⟩
theorem lw_p72 : lw_okq (⟨"BakeryNightModel", "placeOf", "([JIJ)I"⟩, 55) := ⟨⟨by decide +kernel, by decide +kernel⟩, List.mem_of_getElem? (i := 1343) (by decide +kernel), List.mem_of_getElem? (i := 1654) (by decide +kernel), List.mem_of_getElem? (i := 1655) (by decide +kernel)⟩
theorem lw_p73 : lw_okq (⟨"BakeryNightModel", "part", "(ILjava/lang/String;II)V"⟩, 55) := ⟨⟨by decide +kernel, by decide +kernel⟩, List.mem_of_getElem? (i := 1343) (by decide +kernel), List.mem_of_getElem? (i := 1658) (by decide +kernel), List.mem_of_getElem? (i := 1659) (by decide +kernel)⟩
theorem lw_p74 : lw_okq (⟨"BakeryNightModel", "needs", "(Ljava/lang/String;)V"⟩, 55) := ⟨⟨by decide +kernel, by decide +kernel⟩, List.mem_of_getElem? (i := 1343) (by decide +kernel), List.mem_of_getElem? (i := 1662) (by decide +kernel), List.mem_of_getElem? (i := 1663) (by decide +kernel)⟩
theorem lw_p75 : lw_okq (⟨"BakeryNightModel", "takes", "(Ljava/lang/String;)Z"⟩, 55) := ⟨⟨by decide +kernel, by decide +kernel⟩, List.mem_of_getElem? (i := 1343) (by decide +kernel), List.mem_of_getElem? (i := 1666) (by decide +kernel), List.mem_of_getElem? (i := 1667) (by decide +kernel)⟩
theorem lw_p76 : lw_okq (⟨"BakeryNightModel", "ovenStatement", "()V"⟩, 55) := ⟨⟨by decide +kernel, by decide +kernel⟩, List.mem_of_getElem? (i := 1343) (by decide +kernel), List.mem_of_getElem? (i := 1670) (by decide +kernel), List.mem_of_getElem? (i := 1671) (by decide +kernel)⟩
theorem lw_p77 : lw_okq (⟨"BakeryNightModel", "streetStatement", "()V"⟩, 55) := ⟨⟨by decide +kernel, by decide +kernel⟩, List.mem_of_getElem? (i := 1343) (by decide +kernel), List.mem_of_getElem? (i := 1674) (by decide +kernel), List.mem_of_getElem? (i := 1675) (by decide +kernel)⟩
theorem lw_p78 : lw_okq (⟨"BakeryNightModel", "place", "()I"⟩, 55) := ⟨⟨by decide +kernel, by decide +kernel⟩, List.mem_of_getElem? (i := 1343) (by decide +kernel), List.mem_of_getElem? (i := 1678) (by decide +kernel), List.mem_of_getElem? (i := 1679) (by decide +kernel)⟩
theorem lw_p79 : lw_okq (⟨"BakeryNightModel", "known", "([JI)I"⟩, 55) := ⟨⟨by decide +kernel, by decide +kernel⟩, List.mem_of_getElem? (i := 1343) (by decide +kernel), List.mem_of_getElem? (i := 1682) (by decide +kernel), List.mem_of_getElem? (i := 1683) (by decide +kernel)⟩
def lw_privs_5 : List (MethodName × Nat) := [(⟨"BakeryNightModel", "skipsWord", "()V"⟩, 55), (⟨"BakeryNightModel", "number", "(II)I"⟩, 55), (⟨"BakeryNightModel", "many", "(I)V"⟩, 55), (⟨"BakeryNightModel", "mostOf", "(I)I"⟩, 55), (⟨"BakeryNightModel", "doughStatement", "()V"⟩, 55), (⟨"BakeryNightModel", "fresh", "([JI)J"⟩, 55), (⟨"BakeryNightModel", "name", "()J"⟩, 55), (⟨"BakeryNightModel", "isKeyword", "()Z"⟩, 55), (⟨"BakeryNightModel", "placeOf", "([JIJ)I"⟩, 55), (⟨"BakeryNightModel", "part", "(ILjava/lang/String;II)V"⟩, 55), (⟨"BakeryNightModel", "needs", "(Ljava/lang/String;)V"⟩, 55), (⟨"BakeryNightModel", "takes", "(Ljava/lang/String;)Z"⟩, 55), (⟨"BakeryNightModel", "ovenStatement", "()V"⟩, 55), (⟨"BakeryNightModel", "streetStatement", "()V"⟩, 55), (⟨"BakeryNightModel", "place", "()I"⟩, 55), (⟨"BakeryNightModel", "known", "([JI)I"⟩, 55)]
theorem lw_r5 : ∀ q ∈ lw_privs_5, lw_okq q := List.forall_mem_cons.mpr ⟨lw_p64, List.forall_mem_cons.mpr ⟨lw_p65, List.forall_mem_cons.mpr ⟨lw_p66, List.forall_mem_cons.mpr ⟨lw_p67, List.forall_mem_cons.mpr ⟨lw_p68, List.forall_mem_cons.mpr ⟨lw_p69, List.forall_mem_cons.mpr ⟨lw_p70, List.forall_mem_cons.mpr ⟨lw_p71, List.forall_mem_cons.mpr ⟨lw_p72, List.forall_mem_cons.mpr ⟨lw_p73, List.forall_mem_cons.mpr ⟨lw_p74, List.forall_mem_cons.mpr ⟨lw_p75, List.forall_mem_cons.mpr ⟨lw_p76, List.forall_mem_cons.mpr ⟨lw_p77, List.forall_mem_cons.mpr ⟨lw_p78, List.forall_mem_cons.mpr ⟨lw_p79, fun _ h => absurd h List.not_mem_nil⟩⟩⟩⟩⟩⟩⟩⟩⟩⟩⟩⟩⟩⟩⟩⟩
theorem lw_p80 : lw_okq (⟨"BakeryNightModel", "greater", "(II)I"⟩, 55) := ⟨⟨by decide +kernel, by decide +kernel⟩, List.mem_of_getElem? (i := 1343) (by decide +kernel), List.mem_of_getElem? (i := 1686) (by decide +kernel), List.mem_of_getElem? (i := 1687) (by decide +kernel)⟩
theorem lw_p81 : lw_okq (⟨"BakeryNightModel", "orderStatement", "()V"⟩, 55) := ⟨⟨by decide +kernel, by decide +kernel⟩, List.mem_of_getElem? (i := 1343) (by decide +kernel), List.mem_of_getElem? (i := 1690) (by decide +kernel), List.mem_of_getElem? (i := 1691) (by decide +kernel)⟩
theorem lw_p82 : lw_okq (⟨"BakeryNightModel", "semicolon", "()V"⟩, 55) := ⟨⟨by decide +kernel, by decide +kernel⟩, List.mem_of_getElem? (i := 1343) (by decide +kernel), List.mem_of_getElem? (i := 1694) (by decide +kernel), List.mem_of_getElem? (i := 1695) (by decide +kernel)⟩
theorem lw_p83 : lw_okq (⟨"BakeryNightModel", "copies", "([I[I)V"⟩, 55) := ⟨⟨by decide +kernel, by decide +kernel⟩, List.mem_of_getElem? (i := 1343) (by decide +kernel), List.mem_of_getElem? (i := 1698) (by decide +kernel), List.mem_of_getElem? (i := 1699) (by decide +kernel)⟩
theorem lw_p84 : lw_okq (⟨"BakeryNightModel", "isDough", "(I)Z"⟩, 55) := ⟨⟨by decide +kernel, by decide +kernel⟩, List.mem_of_getElem? (i := 1343) (by decide +kernel), List.mem_of_getElem? (i := 1718) (by decide +kernel), List.mem_of_getElem? (i := 1719) (by decide +kernel)⟩
theorem lw_p85 : lw_okq (⟨"BakeryNightModel", "loavesOf", "([II)I"⟩, 55) := ⟨⟨by decide +kernel, by decide +kernel⟩, List.mem_of_getElem? (i := 1343) (by decide +kernel), List.mem_of_getElem? (i := 1722) (by decide +kernel), List.mem_of_getElem? (i := 1723) (by decide +kernel)⟩
theorem lw_p86 : lw_okq (⟨"BakeryNightModel", "isMeant", "([II)Z"⟩, 55) := ⟨⟨by decide +kernel, by decide +kernel⟩, List.mem_of_getElem? (i := 1343) (by decide +kernel), List.mem_of_getElem? (i := 1726) (by decide +kernel), List.mem_of_getElem? (i := 1727) (by decide +kernel)⟩
theorem lw_p87 : lw_okq (⟨"BakeryNightModel", "order", "([III)I"⟩, 55) := ⟨⟨by decide +kernel, by decide +kernel⟩, List.mem_of_getElem? (i := 1343) (by decide +kernel), List.mem_of_getElem? (i := 1730) (by decide +kernel), List.mem_of_getElem? (i := 1731) (by decide +kernel)⟩
theorem lw_p88 : lw_okq (⟨"BakeryNightModel", "allBatches", "([I)I"⟩, 55) := ⟨⟨by decide +kernel, by decide +kernel⟩, List.mem_of_getElem? (i := 1343) (by decide +kernel), List.mem_of_getElem? (i := 1738) (by decide +kernel), List.mem_of_getElem? (i := 1739) (by decide +kernel)⟩
theorem lw_p89 : lw_okq (⟨"BakeryNightModel", "batchesOf", "([II)I"⟩, 55) := ⟨⟨by decide +kernel, by decide +kernel⟩, List.mem_of_getElem? (i := 1343) (by decide +kernel), List.mem_of_getElem? (i := 1742) (by decide +kernel), List.mem_of_getElem? (i := 1743) (by decide +kernel)⟩
theorem lw_p90 : lw_okq (⟨"BakeryNightModel", "dough", "([III)I"⟩, 55) := ⟨⟨by decide +kernel, by decide +kernel⟩, List.mem_of_getElem? (i := 1343) (by decide +kernel), List.mem_of_getElem? (i := 1746) (by decide +kernel), List.mem_of_getElem? (i := 1747) (by decide +kernel)⟩
theorem lw_p91 : lw_okq (⟨"BakeryNightModel", "up", "(II)I"⟩, 55) := ⟨⟨by decide +kernel, by decide +kernel⟩, List.mem_of_getElem? (i := 1343) (by decide +kernel), List.mem_of_getElem? (i := 1750) (by decide +kernel), List.mem_of_getElem? (i := 1751) (by decide +kernel)⟩
theorem lw_p92 : lw_okq (⟨"BakeryNightModel", "slowed", "([II)I"⟩, 55) := ⟨⟨by decide +kernel, by decide +kernel⟩, List.mem_of_getElem? (i := 1343) (by decide +kernel), List.mem_of_getElem? (i := 1758) (by decide +kernel), List.mem_of_getElem? (i := 1759) (by decide +kernel)⟩
theorem lw_p93 : lw_okq (⟨"BakeryNightModel", "simulates", "([I)V"⟩, 55) := ⟨⟨by decide +kernel, by decide +kernel⟩, List.mem_of_getElem? (i := 1343) (by decide +kernel), List.mem_of_getElem? (i := 1767) (by decide +kernel), List.mem_of_getElem? (i := 1768) (by decide +kernel)⟩
theorem lw_p94 : lw_okq (⟨"BakeryNightModel", "clears", "([I)V"⟩, 55) := ⟨⟨by decide +kernel, by decide +kernel⟩, List.mem_of_getElem? (i := 1343) (by decide +kernel), List.mem_of_getElem? (i := 1771) (by decide +kernel), List.mem_of_getElem? (i := 1772) (by decide +kernel)⟩
theorem lw_p95 : lw_okq (⟨"BakeryNightModel", "findsBatches", "([I)V"⟩, 55) := ⟨⟨by decide +kernel, by decide +kernel⟩, List.mem_of_getElem? (i := 1343) (by decide +kernel), List.mem_of_getElem? (i := 1775) (by decide +kernel), List.mem_of_getElem? (i := 1776) (by decide +kernel)⟩
def lw_privs_6 : List (MethodName × Nat) := [(⟨"BakeryNightModel", "greater", "(II)I"⟩, 55), (⟨"BakeryNightModel", "orderStatement", "()V"⟩, 55), (⟨"BakeryNightModel", "semicolon", "()V"⟩, 55), (⟨"BakeryNightModel", "copies", "([I[I)V"⟩, 55), (⟨"BakeryNightModel", "isDough", "(I)Z"⟩, 55), (⟨"BakeryNightModel", "loavesOf", "([II)I"⟩, 55), (⟨"BakeryNightModel", "isMeant", "([II)Z"⟩, 55), (⟨"BakeryNightModel", "order", "([III)I"⟩, 55), (⟨"BakeryNightModel", "allBatches", "([I)I"⟩, 55), (⟨"BakeryNightModel", "batchesOf", "([II)I"⟩, 55), (⟨"BakeryNightModel", "dough", "([III)I"⟩, 55), (⟨"BakeryNightModel", "up", "(II)I"⟩, 55), (⟨"BakeryNightModel", "slowed", "([II)I"⟩, 55), (⟨"BakeryNightModel", "simulates", "([I)V"⟩, 55), (⟨"BakeryNightModel", "clears", "([I)V"⟩, 55), (⟨"BakeryNightModel", "findsBatches", "([I)V"⟩, 55)]
theorem lw_r6 : ∀ q ∈ lw_privs_6, lw_okq q := List.forall_mem_cons.mpr ⟨lw_p80, List.forall_mem_cons.mpr ⟨lw_p81, List.forall_mem_cons.mpr ⟨lw_p82, List.forall_mem_cons.mpr ⟨lw_p83, List.forall_mem_cons.mpr ⟨lw_p84, List.forall_mem_cons.mpr ⟨lw_p85, List.forall_mem_cons.mpr ⟨lw_p86, List.forall_mem_cons.mpr ⟨lw_p87, List.forall_mem_cons.mpr ⟨lw_p88, List.forall_mem_cons.mpr ⟨lw_p89, List.forall_mem_cons.mpr ⟨lw_p90, List.forall_mem_cons.mpr ⟨lw_p91, List.forall_mem_cons.mpr ⟨lw_p92, List.forall_mem_cons.mpr ⟨lw_p93, List.forall_mem_cons.mpr ⟨lw_p94, List.forall_mem_cons.mpr ⟨lw_p95, fun _ h => absurd h List.not_mem_nil⟩⟩⟩⟩⟩⟩⟩⟩⟩⟩⟩⟩⟩⟩⟩⟩
theorem lw_p96 : lw_okq (⟨"BakeryNightModel", "dueOf", "([II)I"⟩, 55) := ⟨⟨by decide +kernel, by decide +kernel⟩, List.mem_of_getElem? (i := 1343) (by decide +kernel), List.mem_of_getElem? (i := 1779) (by decide +kernel), List.mem_of_getElem? (i := 1780) (by decide +kernel)⟩
theorem lw_p97 : lw_okq (⟨"BakeryNightModel", "lesser", "(II)I"⟩, 55) := ⟨⟨by decide +kernel, by decide +kernel⟩, List.mem_of_getElem? (i := 1343) (by decide +kernel), List.mem_of_getElem? (i := 1784) (by decide +kernel), List.mem_of_getElem? (i := 1785) (by decide +kernel)⟩
theorem lw_p98 : lw_okq (⟨"BakeryNightModel", "oven", "([III)I"⟩, 55) := ⟨⟨by decide +kernel, by decide +kernel⟩, List.mem_of_getElem? (i := 1343) (by decide +kernel), List.mem_of_getElem? (i := 1788) (by decide +kernel), List.mem_of_getElem? (i := 1789) (by decide +kernel)⟩
theorem lw_p99 : lw_okq (⟨"BakeryNightModel", "stateMany", "(I)I"⟩, 55) := ⟨⟨by decide +kernel, by decide +kernel⟩, List.mem_of_getElem? (i := 1343) (by decide +kernel), List.mem_of_getElem? (i := 1792) (by decide +kernel), List.mem_of_getElem? (i := 1793) (by decide +kernel)⟩
theorem lw_p100 : lw_okq (⟨"BakeryNightModel", "endsAll", "([I)V"⟩, 55) := ⟨⟨by decide +kernel, by decide +kernel⟩, List.mem_of_getElem? (i := 1343) (by decide +kernel), List.mem_of_getElem? (i := 1796) (by decide +kernel), List.mem_of_getElem? (i := 1797) (by decide +kernel)⟩
theorem lw_p101 : lw_okq (⟨"BakeryNightModel", "goesOn", "([II)V"⟩, 55) := ⟨⟨by decide +kernel, by decide +kernel⟩, List.mem_of_getElem? (i := 1343) (by decide +kernel), List.mem_of_getElem? (i := 1800) (by decide +kernel), List.mem_of_getElem? (i := 1801) (by decide +kernel)⟩
theorem lw_p102 : lw_okq (⟨"BakeryNightModel", "reaches", "(II)V"⟩, 55) := ⟨⟨by decide +kernel, by decide +kernel⟩, List.mem_of_getElem? (i := 1343) (by decide +kernel), List.mem_of_getElem? (i := 1804) (by decide +kernel), List.mem_of_getElem? (i := 1805) (by decide +kernel)⟩
theorem lw_p103 : lw_okq (⟨"BakeryNightModel", "spoils", "([I)V"⟩, 55) := ⟨⟨by decide +kernel, by decide +kernel⟩, List.mem_of_getElem? (i := 1343) (by decide +kernel), List.mem_of_getElem? (i := 1808) (by decide +kernel), List.mem_of_getElem? (i := 1809) (by decide +kernel)⟩
theorem lw_p104 : lw_okq (⟨"BakeryNightModel", "bakes", "([I)V"⟩, 55) := ⟨⟨by decide +kernel, by decide +kernel⟩, List.mem_of_getElem? (i := 1343) (by decide +kernel), List.mem_of_getElem? (i := 1812) (by decide +kernel), List.mem_of_getElem? (i := 1813) (by decide +kernel)⟩
theorem lw_p105 : lw_okq (⟨"BakeryNightModel", "ovenFor", "([II)I"⟩, 55) := ⟨⟨by decide +kernel, by decide +kernel⟩, List.mem_of_getElem? (i := 1343) (by decide +kernel), List.mem_of_getElem? (i := 1816) (by decide +kernel), List.mem_of_getElem? (i := 1817) (by decide +kernel)⟩
theorem lw_p106 : lw_okq (⟨"BakeryNightModel", "isUsable", "([II)Z"⟩, 55) := ⟨⟨by decide +kernel, by decide +kernel⟩, List.mem_of_getElem? (i := 1343) (by decide +kernel), List.mem_of_getElem? (i := 1820) (by decide +kernel), List.mem_of_getElem? (i := 1821) (by decide +kernel)⟩
theorem lw_p107 : lw_okq (⟨"BakeryNightModel", "onShelves", "(I)I"⟩, 55) := ⟨⟨by decide +kernel, by decide +kernel⟩, List.mem_of_getElem? (i := 1343) (by decide +kernel), List.mem_of_getElem? (i := 1824) (by decide +kernel), List.mem_of_getElem? (i := 1825) (by decide +kernel)⟩
theorem lw_p108 : lw_okq (⟨"BakeryNightModel", "isOneChanging", "([II)Z"⟩, 55) := ⟨⟨by decide +kernel, by decide +kernel⟩, List.mem_of_getElem? (i := 1343) (by decide +kernel), List.mem_of_getElem? (i := 1828) (by decide +kernel), List.mem_of_getElem? (i := 1829) (by decide +kernel)⟩
theorem lw_p109 : lw_okq (⟨"BakeryNightModel", "heats", "([II)V"⟩, 55) := ⟨⟨by decide +kernel, by decide +kernel⟩, List.mem_of_getElem? (i := 1343) (by decide +kernel), List.mem_of_getElem? (i := 1832) (by decide +kernel), List.mem_of_getElem? (i := 1833) (by decide +kernel)⟩
theorem lw_p110 : lw_okq (⟨"BakeryNightModel", "changeMinutes", "([III)I"⟩, 55) := ⟨⟨by decide +kernel, by decide +kernel⟩, List.mem_of_getElem? (i := 1343) (by decide +kernel), List.mem_of_getElem? (i := 1836) (by decide +kernel), List.mem_of_getElem? (i := 1837) (by decide +kernel)⟩
theorem lw_p111 : lw_okq (⟨"BakeryNightModel", "shapes", "([I)V"⟩, 55) := ⟨⟨by decide +kernel, by decide +kernel⟩, List.mem_of_getElem? (i := 1343) (by decide +kernel), List.mem_of_getElem? (i := 1840) (by decide +kernel), List.mem_of_getElem? (i := 1841) (by decide +kernel)⟩
def lw_privs_7 : List (MethodName × Nat) := [(⟨"BakeryNightModel", "dueOf", "([II)I"⟩, 55), (⟨"BakeryNightModel", "lesser", "(II)I"⟩, 55), (⟨"BakeryNightModel", "oven", "([III)I"⟩, 55), (⟨"BakeryNightModel", "stateMany", "(I)I"⟩, 55), (⟨"BakeryNightModel", "endsAll", "([I)V"⟩, 55), (⟨"BakeryNightModel", "goesOn", "([II)V"⟩, 55), (⟨"BakeryNightModel", "reaches", "(II)V"⟩, 55), (⟨"BakeryNightModel", "spoils", "([I)V"⟩, 55), (⟨"BakeryNightModel", "bakes", "([I)V"⟩, 55), (⟨"BakeryNightModel", "ovenFor", "([II)I"⟩, 55), (⟨"BakeryNightModel", "isUsable", "([II)Z"⟩, 55), (⟨"BakeryNightModel", "onShelves", "(I)I"⟩, 55), (⟨"BakeryNightModel", "isOneChanging", "([II)Z"⟩, 55), (⟨"BakeryNightModel", "heats", "([II)V"⟩, 55), (⟨"BakeryNightModel", "changeMinutes", "([III)I"⟩, 55), (⟨"BakeryNightModel", "shapes", "([I)V"⟩, 55)]
theorem lw_r7 : ∀ q ∈ lw_privs_7, lw_okq q := List.forall_mem_cons.mpr ⟨lw_p96, List.forall_mem_cons.mpr ⟨lw_p97, List.forall_mem_cons.mpr ⟨lw_p98, List.forall_mem_cons.mpr ⟨lw_p99, List.forall_mem_cons.mpr ⟨lw_p100, List.forall_mem_cons.mpr ⟨lw_p101, List.forall_mem_cons.mpr ⟨lw_p102, List.forall_mem_cons.mpr ⟨lw_p103, List.forall_mem_cons.mpr ⟨lw_p104, List.forall_mem_cons.mpr ⟨lw_p105, List.forall_mem_cons.mpr ⟨lw_p106, List.forall_mem_cons.mpr ⟨lw_p107, List.forall_mem_cons.mpr ⟨lw_p108, List.forall_mem_cons.mpr ⟨lw_p109, List.forall_mem_cons.mpr ⟨lw_p110, List.forall_mem_cons.mpr ⟨lw_p111, fun _ h => absurd h List.not_mem_nil⟩⟩⟩⟩⟩⟩⟩⟩⟩⟩⟩⟩⟩⟩⟩⟩
theorem lw_p112 : lw_okq (⟨"BakeryNightModel", "mixes", "([I)V"⟩, 55) := ⟨⟨by decide +kernel, by decide +kernel⟩, List.mem_of_getElem? (i := 1343) (by decide +kernel), List.mem_of_getElem? (i := 1844) (by decide +kernel), List.mem_of_getElem? (i := 1845) (by decide +kernel)⟩
theorem lw_p113 : lw_okq (⟨"BakeryNightModel", "isBatch", "(I)Z"⟩, 55) := ⟨⟨by decide +kernel, by decide +kernel⟩, List.mem_of_getElem? (i := 1343) (by decide +kernel), List.mem_of_getElem? (i := 1852) (by decide +kernel), List.mem_of_getElem? (i := 1853) (by decide +kernel)⟩
theorem lw_p114 : lw_okq (⟨"BakeryNightModel", "isNight", "()Z"⟩, 55) := ⟨⟨by decide +kernel, by decide +kernel⟩, List.mem_of_getElem? (i := 1343) (by decide +kernel), List.mem_of_getElem? (i := 1856) (by decide +kernel), List.mem_of_getElem? (i := 1857) (by decide +kernel)⟩
theorem lw_p115 : lw_okq (⟨"BakeryNightModel", "fails", "(I)I"⟩, 55) := ⟨⟨by decide +kernel, by decide +kernel⟩, List.mem_of_getElem? (i := 1343) (by decide +kernel), List.mem_of_getElem? (i := 1865) (by decide +kernel), List.mem_of_getElem? (i := 1866) (by decide +kernel)⟩
theorem lw_p116 : lw_okq (⟨"BakeryNightModel", "stageOf", "(II)I"⟩, 55) := ⟨⟨by decide +kernel, by decide +kernel⟩, List.mem_of_getElem? (i := 1343) (by decide +kernel), List.mem_of_getElem? (i := 1869) (by decide +kernel), List.mem_of_getElem? (i := 1870) (by decide +kernel)⟩
theorem lw_p117 : lw_okq (⟨"BakeryNightModel", "isOven", "(I)Z"⟩, 55) := ⟨⟨by decide +kernel, by decide +kernel⟩, List.mem_of_getElem? (i := 1343) (by decide +kernel), List.mem_of_getElem? (i := 1885) (by decide +kernel), List.mem_of_getElem? (i := 1886) (by decide +kernel)⟩
theorem lw_p118 : lw_okq (⟨"BakeryNightModel", "uses", "(III)Z"⟩, 55) := ⟨⟨by decide +kernel, by decide +kernel⟩, List.mem_of_getElem? (i := 1343) (by decide +kernel), List.mem_of_getElem? (i := 1901) (by decide +kernel), List.mem_of_getElem? (i := 1902) (by decide +kernel)⟩
theorem lw_p119 : lw_okq (⟨"BakeryNightModel", "inUse", "(II)I"⟩, 55) := ⟨⟨by decide +kernel, by decide +kernel⟩, List.mem_of_getElem? (i := 1343) (by decide +kernel), List.mem_of_getElem? (i := 1910) (by decide +kernel), List.mem_of_getElem? (i := 1911) (by decide +kernel)⟩
theorem lw_p120 : lw_okq (⟨"BakeryNightModel", "readyAt", "([II)I"⟩, 55) := ⟨⟨by decide +kernel, by decide +kernel⟩, List.mem_of_getElem? (i := 1343) (by decide +kernel), List.mem_of_getElem? (i := 1922) (by decide +kernel), List.mem_of_getElem? (i := 1923) (by decide +kernel)⟩
theorem lw_p121 : lw_okq (⟨"BakeryNightModel", "isReady", "([II)Z"⟩, 55) := ⟨⟨by decide +kernel, by decide +kernel⟩, List.mem_of_getElem? (i := 1343) (by decide +kernel), List.mem_of_getElem? (i := 1926) (by decide +kernel), List.mem_of_getElem? (i := 1927) (by decide +kernel)⟩
theorem lw_p122 : lw_okq (⟨"BakeryNightModel", "givenAhead", "([II)I"⟩, 55) := ⟨⟨by decide +kernel, by decide +kernel⟩, List.mem_of_getElem? (i := 1343) (by decide +kernel), List.mem_of_getElem? (i := 1930) (by decide +kernel), List.mem_of_getElem? (i := 1931) (by decide +kernel)⟩
theorem lw_p123 : lw_okq (⟨"BakeryNightModel", "isBefore", "([III)Z"⟩, 55) := ⟨⟨by decide +kernel, by decide +kernel⟩, List.mem_of_getElem? (i := 1343) (by decide +kernel), List.mem_of_getElem? (i := 1934) (by decide +kernel), List.mem_of_getElem? (i := 1935) (by decide +kernel)⟩
theorem lw_p124 : lw_okq (⟨"BakeryNightModel", "bakedLoaves", "([II)I"⟩, 55) := ⟨⟨by decide +kernel, by decide +kernel⟩, List.mem_of_getElem? (i := 1343) (by decide +kernel), List.mem_of_getElem? (i := 1938) (by decide +kernel), List.mem_of_getElem? (i := 1939) (by decide +kernel)⟩
theorem lw_p125 : lw_okq (⟨"BakeryNightModel", "outAt", "([III)I"⟩, 55) := ⟨⟨by decide +kernel, by decide +kernel⟩, List.mem_of_getElem? (i := 1343) (by decide +kernel), List.mem_of_getElem? (i := 1942) (by decide +kernel), List.mem_of_getElem? (i := 1943) (by decide +kernel)⟩
theorem lw_p126 : lw_okq (⟨"BakeryNightModel", "valueOf", "(II)I"⟩, 55) := ⟨⟨by decide +kernel, by decide +kernel⟩, List.mem_of_getElem? (i := 1343) (by decide +kernel), List.mem_of_getElem? (i := 1955) (by decide +kernel), List.mem_of_getElem? (i := 1956) (by decide +kernel)⟩
theorem lw_p127 : lw_okq (⟨"BakeryNightModel", "isShop", "(I)Z"⟩, 55) := ⟨⟨by decide +kernel, by decide +kernel⟩, List.mem_of_getElem? (i := 1343) (by decide +kernel), List.mem_of_getElem? (i := 1963) (by decide +kernel), List.mem_of_getElem? (i := 1964) (by decide +kernel)⟩
def lw_privs_8 : List (MethodName × Nat) := [(⟨"BakeryNightModel", "mixes", "([I)V"⟩, 55), (⟨"BakeryNightModel", "isBatch", "(I)Z"⟩, 55), (⟨"BakeryNightModel", "isNight", "()Z"⟩, 55), (⟨"BakeryNightModel", "fails", "(I)I"⟩, 55), (⟨"BakeryNightModel", "stageOf", "(II)I"⟩, 55), (⟨"BakeryNightModel", "isOven", "(I)Z"⟩, 55), (⟨"BakeryNightModel", "uses", "(III)Z"⟩, 55), (⟨"BakeryNightModel", "inUse", "(II)I"⟩, 55), (⟨"BakeryNightModel", "readyAt", "([II)I"⟩, 55), (⟨"BakeryNightModel", "isReady", "([II)Z"⟩, 55), (⟨"BakeryNightModel", "givenAhead", "([II)I"⟩, 55), (⟨"BakeryNightModel", "isBefore", "([III)Z"⟩, 55), (⟨"BakeryNightModel", "bakedLoaves", "([II)I"⟩, 55), (⟨"BakeryNightModel", "outAt", "([III)I"⟩, 55), (⟨"BakeryNightModel", "valueOf", "(II)I"⟩, 55), (⟨"BakeryNightModel", "isShop", "(I)Z"⟩, 55)]
theorem lw_r8 : ∀ q ∈ lw_privs_8, lw_okq q := List.forall_mem_cons.mpr ⟨lw_p112, List.forall_mem_cons.mpr ⟨lw_p113, List.forall_mem_cons.mpr ⟨lw_p114, List.forall_mem_cons.mpr ⟨lw_p115, List.forall_mem_cons.mpr ⟨lw_p116, List.forall_mem_cons.mpr ⟨lw_p117, List.forall_mem_cons.mpr ⟨lw_p118, List.forall_mem_cons.mpr ⟨lw_p119, List.forall_mem_cons.mpr ⟨lw_p120, List.forall_mem_cons.mpr ⟨lw_p121, List.forall_mem_cons.mpr ⟨lw_p122, List.forall_mem_cons.mpr ⟨lw_p123, List.forall_mem_cons.mpr ⟨lw_p124, List.forall_mem_cons.mpr ⟨lw_p125, List.forall_mem_cons.mpr ⟨lw_p126, List.forall_mem_cons.mpr ⟨lw_p127, fun _ h => absurd h List.not_mem_nil⟩⟩⟩⟩⟩⟩⟩⟩⟩⟩⟩⟩⟩⟩⟩⟩
theorem lw_p128 : lw_okq (⟨"BakeryNightModel", "findsWays", "([I)V"⟩, 55) := ⟨⟨by decide +kernel, by decide +kernel⟩, List.mem_of_getElem? (i := 1343) (by decide +kernel), List.mem_of_getElem? (i := 1967) (by decide +kernel), List.mem_of_getElem? (i := 1968) (by decide +kernel)⟩
theorem lw_p129 : lw_okq (⟨"BakeryNightModel", "street", "([III)I"⟩, 55) := ⟨⟨by decide +kernel, by decide +kernel⟩, List.mem_of_getElem? (i := 1343) (by decide +kernel), List.mem_of_getElem? (i := 1971) (by decide +kernel), List.mem_of_getElem? (i := 1972) (by decide +kernel)⟩
theorem lw_p130 : lw_okq (⟨"BakeryNightModel", "findsRoutes", "([I)V"⟩, 55) := ⟨⟨by decide +kernel, by decide +kernel⟩, List.mem_of_getElem? (i := 1343) (by decide +kernel), List.mem_of_getElem? (i := 1979) (by decide +kernel), List.mem_of_getElem? (i := 1980) (by decide +kernel)⟩
theorem lw_p131 : lw_okq (⟨"BakeryNightModel", "routes", "([II)V"⟩, 55) := ⟨⟨by decide +kernel, by decide +kernel⟩, List.mem_of_getElem? (i := 1343) (by decide +kernel), List.mem_of_getElem? (i := 1988) (by decide +kernel), List.mem_of_getElem? (i := 1989) (by decide +kernel)⟩
theorem lw_p132 : lw_okq (⟨"BakeryNightModel", "hasPlan", "()Z"⟩, 55) := ⟨⟨by decide +kernel, by decide +kernel⟩, List.mem_of_getElem? (i := 1343) (by decide +kernel), List.mem_of_getElem? (i := 1996) (by decide +kernel), List.mem_of_getElem? (i := 1997) (by decide +kernel)⟩
theorem lw_p133 : lw_okq (⟨"BakeryNightModel", "plans", "([II)Z"⟩, 55) := ⟨⟨by decide +kernel, by decide +kernel⟩, List.mem_of_getElem? (i := 1343) (by decide +kernel), List.mem_of_getElem? (i := 2000) (by decide +kernel), List.mem_of_getElem? (i := 2001) (by decide +kernel)⟩
theorem lw_p134 : lw_okq (⟨"BakeryNightModel", "findsShops", "([I)V"⟩, 55) := ⟨⟨by decide +kernel, by decide +kernel⟩, List.mem_of_getElem? (i := 1343) (by decide +kernel), List.mem_of_getElem? (i := 2004) (by decide +kernel), List.mem_of_getElem? (i := 2005) (by decide +kernel)⟩
theorem lw_p135 : lw_okq (⟨"BakeryNightModel", "firstAssignment", "([I)V"⟩, 55) := ⟨⟨by decide +kernel, by decide +kernel⟩, List.mem_of_getElem? (i := 1343) (by decide +kernel), List.mem_of_getElem? (i := 2008) (by decide +kernel), List.mem_of_getElem? (i := 2009) (by decide +kernel)⟩
theorem lw_p136 : lw_okq (⟨"BakeryNightModel", "drives", "([I)I"⟩, 55) := ⟨⟨by decide +kernel, by decide +kernel⟩, List.mem_of_getElem? (i := 1343) (by decide +kernel), List.mem_of_getElem? (i := 2012) (by decide +kernel), List.mem_of_getElem? (i := 2013) (by decide +kernel)⟩
theorem lw_p137 : lw_okq (⟨"BakeryNightModel", "carries", "([II)Z"⟩, 55) := ⟨⟨by decide +kernel, by decide +kernel⟩, List.mem_of_getElem? (i := 1343) (by decide +kernel), List.mem_of_getElem? (i := 2016) (by decide +kernel), List.mem_of_getElem? (i := 2017) (by decide +kernel)⟩
theorem lw_p138 : lw_okq (⟨"BakeryNightModel", "loadOf", "(I)I"⟩, 55) := ⟨⟨by decide +kernel, by decide +kernel⟩, List.mem_of_getElem? (i := 1343) (by decide +kernel), List.mem_of_getElem? (i := 2020) (by decide +kernel), List.mem_of_getElem? (i := 2021) (by decide +kernel)⟩
theorem lw_p139 : lw_okq (⟨"BakeryNightModel", "leaves", "(I)I"⟩, 55) := ⟨⟨by decide +kernel, by decide +kernel⟩, List.mem_of_getElem? (i := 1343) (by decide +kernel), List.mem_of_getElem? (i := 2024) (by decide +kernel), List.mem_of_getElem? (i := 2025) (by decide +kernel)⟩
theorem lw_p140 : lw_okq (⟨"BakeryNightModel", "lateShops", "(I)I"⟩, 55) := ⟨⟨by decide +kernel, by decide +kernel⟩, List.mem_of_getElem? (i := 1343) (by decide +kernel), List.mem_of_getElem? (i := 2028) (by decide +kernel), List.mem_of_getElem? (i := 2029) (by decide +kernel)⟩
theorem lw_p141 : lw_okq (⟨"BakeryNightModel", "nextAssignment", "([I)Z"⟩, 55) := ⟨⟨by decide +kernel, by decide +kernel⟩, List.mem_of_getElem? (i := 1343) (by decide +kernel), List.mem_of_getElem? (i := 2032) (by decide +kernel), List.mem_of_getElem? (i := 2033) (by decide +kernel)⟩
theorem lw_p142 : lw_okq (⟨"BakeryNightModel", "takesBest", "()V"⟩, 55) := ⟨⟨by decide +kernel, by decide +kernel⟩, List.mem_of_getElem? (i := 1343) (by decide +kernel), List.mem_of_getElem? (i := 2036) (by decide +kernel), List.mem_of_getElem? (i := 2037) (by decide +kernel)⟩
theorem lw_p143 : lw_okq (⟨"BakeryNightModel", "bits", "(I)I"⟩, 55) := ⟨⟨by decide +kernel, by decide +kernel⟩, List.mem_of_getElem? (i := 1343) (by decide +kernel), List.mem_of_getElem? (i := 2040) (by decide +kernel), List.mem_of_getElem? (i := 2041) (by decide +kernel)⟩
def lw_privs_9 : List (MethodName × Nat) := [(⟨"BakeryNightModel", "findsWays", "([I)V"⟩, 55), (⟨"BakeryNightModel", "street", "([III)I"⟩, 55), (⟨"BakeryNightModel", "findsRoutes", "([I)V"⟩, 55), (⟨"BakeryNightModel", "routes", "([II)V"⟩, 55), (⟨"BakeryNightModel", "hasPlan", "()Z"⟩, 55), (⟨"BakeryNightModel", "plans", "([II)Z"⟩, 55), (⟨"BakeryNightModel", "findsShops", "([I)V"⟩, 55), (⟨"BakeryNightModel", "firstAssignment", "([I)V"⟩, 55), (⟨"BakeryNightModel", "drives", "([I)I"⟩, 55), (⟨"BakeryNightModel", "carries", "([II)Z"⟩, 55), (⟨"BakeryNightModel", "loadOf", "(I)I"⟩, 55), (⟨"BakeryNightModel", "leaves", "(I)I"⟩, 55), (⟨"BakeryNightModel", "lateShops", "(I)I"⟩, 55), (⟨"BakeryNightModel", "nextAssignment", "([I)Z"⟩, 55), (⟨"BakeryNightModel", "takesBest", "()V"⟩, 55), (⟨"BakeryNightModel", "bits", "(I)I"⟩, 55)]
theorem lw_r9 : ∀ q ∈ lw_privs_9, lw_okq q := List.forall_mem_cons.mpr ⟨lw_p128, List.forall_mem_cons.mpr ⟨lw_p129, List.forall_mem_cons.mpr ⟨lw_p130, List.forall_mem_cons.mpr ⟨lw_p131, List.forall_mem_cons.mpr ⟨lw_p132, List.forall_mem_cons.mpr ⟨lw_p133, List.forall_mem_cons.mpr ⟨lw_p134, List.forall_mem_cons.mpr ⟨lw_p135, List.forall_mem_cons.mpr ⟨lw_p136, List.forall_mem_cons.mpr ⟨lw_p137, List.forall_mem_cons.mpr ⟨lw_p138, List.forall_mem_cons.mpr ⟨lw_p139, List.forall_mem_cons.mpr ⟨lw_p140, List.forall_mem_cons.mpr ⟨lw_p141, List.forall_mem_cons.mpr ⟨lw_p142, List.forall_mem_cons.mpr ⟨lw_p143, fun _ h => absurd h List.not_mem_nil⟩⟩⟩⟩⟩⟩⟩⟩⟩⟩⟩⟩⟩⟩⟩⟩
theorem lw_p144 : lw_okq (⟨"BakeryNightModel", "isMuch", "()Z"⟩, 55) := ⟨⟨by decide +kernel, by decide +kernel⟩, List.mem_of_getElem? (i := 1343) (by decide +kernel), List.mem_of_getElem? (i := 2064) (by decide +kernel), List.mem_of_getElem? (i := 2065) (by decide +kernel)⟩
theorem lw_p145 : lw_okq (⟨"BakeryNightModel", "latest", "([I)I"⟩, 55) := ⟨⟨by decide +kernel, by decide +kernel⟩, List.mem_of_getElem? (i := 1343) (by decide +kernel), List.mem_of_getElem? (i := 2068) (by decide +kernel), List.mem_of_getElem? (i := 2069) (by decide +kernel)⟩
theorem lw_p146 : lw_okq (⟨"BakeryNightModel", "slack", "()I"⟩, 55) := ⟨⟨by decide +kernel, by decide +kernel⟩, List.mem_of_getElem? (i := 1343) (by decide +kernel), List.mem_of_getElem? (i := 2072) (by decide +kernel), List.mem_of_getElem? (i := 2073) (by decide +kernel)⟩
theorem lw_p147 : lw_okq (⟨"BakeryNightModel", "sets", "(II)I"⟩, 55) := ⟨⟨by decide +kernel, by decide +kernel⟩, List.mem_of_getElem? (i := 1343) (by decide +kernel), List.mem_of_getElem? (i := 2091) (by decide +kernel), List.mem_of_getElem? (i := 2092) (by decide +kernel)⟩
theorem lw_p148 : lw_okq (⟨"BakeryNightModel", "records", "()V"⟩, 55) := ⟨⟨by decide +kernel, by decide +kernel⟩, List.mem_of_getElem? (i := 1343) (by decide +kernel), List.mem_of_getElem? (i := 2095) (by decide +kernel), List.mem_of_getElem? (i := 2096) (by decide +kernel)⟩
theorem lw_p149 : lw_okq (⟨"BakeryNightModel", "isOrder", "(I)Z"⟩, 55) := ⟨⟨by decide +kernel, by decide +kernel⟩, List.mem_of_getElem? (i := 1343) (by decide +kernel), List.mem_of_getElem? (i := 2116) (by decide +kernel), List.mem_of_getElem? (i := 2117) (by decide +kernel)⟩
def lw_privs_10 : List (MethodName × Nat) := [(⟨"BakeryNightModel", "isMuch", "()Z"⟩, 55), (⟨"BakeryNightModel", "latest", "([I)I"⟩, 55), (⟨"BakeryNightModel", "slack", "()I"⟩, 55), (⟨"BakeryNightModel", "sets", "(II)I"⟩, 55), (⟨"BakeryNightModel", "records", "()V"⟩, 55), (⟨"BakeryNightModel", "isOrder", "(I)Z"⟩, 55)]
theorem lw_r10 : ∀ q ∈ lw_privs_10, lw_okq q := List.forall_mem_cons.mpr ⟨lw_p144, List.forall_mem_cons.mpr ⟨lw_p145, List.forall_mem_cons.mpr ⟨lw_p146, List.forall_mem_cons.mpr ⟨lw_p147, List.forall_mem_cons.mpr ⟨lw_p148, List.forall_mem_cons.mpr ⟨lw_p149, fun _ h => absurd h List.not_mem_nil⟩⟩⟩⟩⟩⟩
def lw_privs : List (MethodName × Nat) := lw_privs_1 ++ (lw_privs_2 ++ (lw_privs_3 ++ (lw_privs_4 ++ (lw_privs_5 ++ (lw_privs_6 ++ (lw_privs_7 ++ (lw_privs_8 ++ (lw_privs_9 ++ (lw_privs_10)))))))))
def lw_tbl : List Cond := k2_sels lw_privs ++ tables_1
theorem lw_privs_ok : ∀ q ∈ lw_privs, lw_okq q := by
  show ∀ q ∈ lw_privs_1 ++ (lw_privs_2 ++ (lw_privs_3 ++ (lw_privs_4 ++ (lw_privs_5 ++ (lw_privs_6 ++ (lw_privs_7 ++ (lw_privs_8 ++ (lw_privs_9 ++ (lw_privs_10))))))))), lw_okq q
  exact List.forall_mem_append.mpr ⟨lw_r1, List.forall_mem_append.mpr ⟨lw_r2, List.forall_mem_append.mpr ⟨lw_r3, List.forall_mem_append.mpr ⟨lw_r4, List.forall_mem_append.mpr ⟨lw_r5, List.forall_mem_append.mpr ⟨lw_r6, List.forall_mem_append.mpr ⟨lw_r7, List.forall_mem_append.mpr ⟨lw_r8, List.forall_mem_append.mpr ⟨lw_r9, lw_r10⟩⟩⟩⟩⟩⟩⟩⟩⟩

/-- the words of the tables that every method's contract takes along -/
def GW : List Cond := lw_tbl.filter goodWord
theorem gwi {w : Cond} (i : Nat) (h : lw_tbl[i]? = some w) (hg : goodWord w = true) : w ∈ GW := List.mem_filter.mpr ⟨List.mem_of_getElem? h, hg⟩
theorem gwt0 {w : Cond} (i : Nat) (h0 : tables_1_1[i]? = some w) (hg : goodWord w = true) : w ∈ GW := by
  have h := List.mem_of_getElem? h0
  exact List.mem_filter.mpr ⟨List.mem_append_right _ (List.mem_append_left _ h), hg⟩
theorem gwt1 {w : Cond} (i : Nat) (h0 : tables_1_2[i]? = some w) (hg : goodWord w = true) : w ∈ GW := by
  have h := List.mem_of_getElem? h0
  exact List.mem_filter.mpr ⟨List.mem_append_right _ (List.mem_append_right _ (List.mem_append_left _ h)), hg⟩
theorem gwt2 {w : Cond} (i : Nat) (h0 : tables_1_3[i]? = some w) (hg : goodWord w = true) : w ∈ GW := by
  have h := List.mem_of_getElem? h0
  exact List.mem_filter.mpr ⟨List.mem_append_right _ (List.mem_append_right _ (List.mem_append_right _ (List.mem_append_left _ h))), hg⟩
theorem gwt3 {w : Cond} (i : Nat) (h0 : tables_1_4[i]? = some w) (hg : goodWord w = true) : w ∈ GW := by
  have h := List.mem_of_getElem? h0
  exact List.mem_filter.mpr ⟨List.mem_append_right _ (List.mem_append_right _ (List.mem_append_right _ (List.mem_append_right _ (List.mem_append_left _ h)))), hg⟩
theorem gwt4 {w : Cond} (i : Nat) (h0 : tables_1_5[i]? = some w) (hg : goodWord w = true) : w ∈ GW := by
  have h := List.mem_of_getElem? h0
  exact List.mem_filter.mpr ⟨List.mem_append_right _ (List.mem_append_right _ (List.mem_append_right _ (List.mem_append_right _ (List.mem_append_right _ (List.mem_append_left _ h))))), hg⟩
theorem gwt5 {w : Cond} (i : Nat) (h0 : tables_1_6[i]? = some w) (hg : goodWord w = true) : w ∈ GW := by
  have h := List.mem_of_getElem? h0
  exact List.mem_filter.mpr ⟨List.mem_append_right _ (List.mem_append_right _ (List.mem_append_right _ (List.mem_append_right _ (List.mem_append_right _ (List.mem_append_right _ (List.mem_append_left _ h)))))), hg⟩
theorem gwt6 {w : Cond} (i : Nat) (h0 : tables_1_7[i]? = some w) (hg : goodWord w = true) : w ∈ GW := by
  have h := List.mem_of_getElem? h0
  exact List.mem_filter.mpr ⟨List.mem_append_right _ (List.mem_append_right _ (List.mem_append_right _ (List.mem_append_right _ (List.mem_append_right _ (List.mem_append_right _ (List.mem_append_right _ (List.mem_append_left _ h))))))), hg⟩
theorem gwt7 {w : Cond} (i : Nat) (h0 : tables_1_8[i]? = some w) (hg : goodWord w = true) : w ∈ GW := by
  have h := List.mem_of_getElem? h0
  exact List.mem_filter.mpr ⟨List.mem_append_right _ (List.mem_append_right _ (List.mem_append_right _ (List.mem_append_right _ (List.mem_append_right _ (List.mem_append_right _ (List.mem_append_right _ (List.mem_append_right _ (List.mem_append_left _ h)))))))), hg⟩
theorem gwt8 {w : Cond} (i : Nat) (h0 : tables_1_9[i]? = some w) (hg : goodWord w = true) : w ∈ GW := by
  have h := List.mem_of_getElem? h0
  exact List.mem_filter.mpr ⟨List.mem_append_right _ (List.mem_append_right _ (List.mem_append_right _ (List.mem_append_right _ (List.mem_append_right _ (List.mem_append_right _ (List.mem_append_right _ (List.mem_append_right _ (List.mem_append_right _ (List.mem_append_left _ h))))))))), hg⟩
theorem gwt9 {w : Cond} (i : Nat) (h0 : tables_1_10[i]? = some w) (hg : goodWord w = true) : w ∈ GW := by
  have h := List.mem_of_getElem? h0
  exact List.mem_filter.mpr ⟨List.mem_append_right _ (List.mem_append_right _ (List.mem_append_right _ (List.mem_append_right _ (List.mem_append_right _ (List.mem_append_right _ (List.mem_append_right _ (List.mem_append_right _ (List.mem_append_right _ (List.mem_append_right _ (h)))))))))), hg⟩
theorem gwp0 {w : Cond} (i : Nat) (h0 : (k2_sels lw_privs_1)[i]? = some w) (hg : goodWord w = true) : w ∈ GW := by
  have h1 := List.mem_of_getElem? h0
  obtain ⟨q, hq, hw⟩ := List.mem_map.mp h1
  have h := hq
  exact List.mem_filter.mpr ⟨List.mem_append_left _ (List.mem_map.mpr ⟨q, List.mem_append_left _ h, hw⟩), hg⟩
theorem gwp1 {w : Cond} (i : Nat) (h0 : (k2_sels lw_privs_2)[i]? = some w) (hg : goodWord w = true) : w ∈ GW := by
  have h1 := List.mem_of_getElem? h0
  obtain ⟨q, hq, hw⟩ := List.mem_map.mp h1
  have h := hq
  exact List.mem_filter.mpr ⟨List.mem_append_left _ (List.mem_map.mpr ⟨q, List.mem_append_right _ (List.mem_append_left _ h), hw⟩), hg⟩
theorem gwp2 {w : Cond} (i : Nat) (h0 : (k2_sels lw_privs_3)[i]? = some w) (hg : goodWord w = true) : w ∈ GW := by
  have h1 := List.mem_of_getElem? h0
  obtain ⟨q, hq, hw⟩ := List.mem_map.mp h1
  have h := hq
  exact List.mem_filter.mpr ⟨List.mem_append_left _ (List.mem_map.mpr ⟨q, List.mem_append_right _ (List.mem_append_right _ (List.mem_append_left _ h)), hw⟩), hg⟩
theorem gwp3 {w : Cond} (i : Nat) (h0 : (k2_sels lw_privs_4)[i]? = some w) (hg : goodWord w = true) : w ∈ GW := by
  have h1 := List.mem_of_getElem? h0
  obtain ⟨q, hq, hw⟩ := List.mem_map.mp h1
  have h := hq
  exact List.mem_filter.mpr ⟨List.mem_append_left _ (List.mem_map.mpr ⟨q, List.mem_append_right _ (List.mem_append_right _ (List.mem_append_right _ (List.mem_append_left _ h))), hw⟩), hg⟩
theorem gwp4 {w : Cond} (i : Nat) (h0 : (k2_sels lw_privs_5)[i]? = some w) (hg : goodWord w = true) : w ∈ GW := by
  have h1 := List.mem_of_getElem? h0
  obtain ⟨q, hq, hw⟩ := List.mem_map.mp h1
  have h := hq
  exact List.mem_filter.mpr ⟨List.mem_append_left _ (List.mem_map.mpr ⟨q, List.mem_append_right _ (List.mem_append_right _ (List.mem_append_right _ (List.mem_append_right _ (List.mem_append_left _ h)))), hw⟩), hg⟩
theorem gwp5 {w : Cond} (i : Nat) (h0 : (k2_sels lw_privs_6)[i]? = some w) (hg : goodWord w = true) : w ∈ GW := by
  have h1 := List.mem_of_getElem? h0
  obtain ⟨q, hq, hw⟩ := List.mem_map.mp h1
  have h := hq
  exact List.mem_filter.mpr ⟨List.mem_append_left _ (List.mem_map.mpr ⟨q, List.mem_append_right _ (List.mem_append_right _ (List.mem_append_right _ (List.mem_append_right _ (List.mem_append_right _ (List.mem_append_left _ h))))), hw⟩), hg⟩
theorem gwp6 {w : Cond} (i : Nat) (h0 : (k2_sels lw_privs_7)[i]? = some w) (hg : goodWord w = true) : w ∈ GW := by
  have h1 := List.mem_of_getElem? h0
  obtain ⟨q, hq, hw⟩ := List.mem_map.mp h1
  have h := hq
  exact List.mem_filter.mpr ⟨List.mem_append_left _ (List.mem_map.mpr ⟨q, List.mem_append_right _ (List.mem_append_right _ (List.mem_append_right _ (List.mem_append_right _ (List.mem_append_right _ (List.mem_append_right _ (List.mem_append_left _ h)))))), hw⟩), hg⟩
theorem gwp7 {w : Cond} (i : Nat) (h0 : (k2_sels lw_privs_8)[i]? = some w) (hg : goodWord w = true) : w ∈ GW := by
  have h1 := List.mem_of_getElem? h0
  obtain ⟨q, hq, hw⟩ := List.mem_map.mp h1
  have h := hq
  exact List.mem_filter.mpr ⟨List.mem_append_left _ (List.mem_map.mpr ⟨q, List.mem_append_right _ (List.mem_append_right _ (List.mem_append_right _ (List.mem_append_right _ (List.mem_append_right _ (List.mem_append_right _ (List.mem_append_right _ (List.mem_append_left _ h))))))), hw⟩), hg⟩
theorem gwp8 {w : Cond} (i : Nat) (h0 : (k2_sels lw_privs_9)[i]? = some w) (hg : goodWord w = true) : w ∈ GW := by
  have h1 := List.mem_of_getElem? h0
  obtain ⟨q, hq, hw⟩ := List.mem_map.mp h1
  have h := hq
  exact List.mem_filter.mpr ⟨List.mem_append_left _ (List.mem_map.mpr ⟨q, List.mem_append_right _ (List.mem_append_right _ (List.mem_append_right _ (List.mem_append_right _ (List.mem_append_right _ (List.mem_append_right _ (List.mem_append_right _ (List.mem_append_right _ (List.mem_append_left _ h)))))))), hw⟩), hg⟩
theorem gwp9 {w : Cond} (i : Nat) (h0 : (k2_sels lw_privs_10)[i]? = some w) (hg : goodWord w = true) : w ∈ GW := by
  have h1 := List.mem_of_getElem? h0
  obtain ⟨q, hq, hw⟩ := List.mem_map.mp h1
  have h := hq
  exact List.mem_filter.mpr ⟨List.mem_append_left _ (List.mem_map.mpr ⟨q, List.mem_append_right _ (List.mem_append_right _ (List.mem_append_right _ (List.mem_append_right _ (List.mem_append_right _ (List.mem_append_right _ (List.mem_append_right _ (List.mem_append_right _ (List.mem_append_right _ (h))))))))), hw⟩), hg⟩
theorem GW_good : ∀ w ∈ GW, goodWord w = true := fun _ h => (List.mem_filter.mp h).2

def RX0 : String := "BakeryNight$1"
def TX0 : u_T := fun k => match k with
  | _ => ("", "", "", false)
def tyX0 : Nat → FieldType := fun k => match k with
  | _ => .int
abbrev wsX00 : List Cond := u_ws RX0 TX0 0
theorem nmX0 : ∀ a, a < 0 → ∀ b, b < 0 → a ≠ b → (TX0 a).2.1 ≠ (TX0 b).2.1 := by decide +kernel
theorem tyX0_ok : ∀ k, k < 0 → parseFieldDescriptor (TX0 k).2.2.1 = some (tyX0 k) := by decide +kernel
def RX1 : String := "BakeryNight$Bakery"
def TX1 : u_T := fun k => match k with
  | 0 => ("BakeryNight$Bakery", "room", "I", false)
  | 1 => ("BakeryNight$Bakery", "cool", "I", false)
  | 2 => ("BakeryNight$Bakery", "mixers", "I", false)
  | 3 => ("BakeryNight$Bakery", "bakers", "I", false)
  | 4 => ("BakeryNight$Bakery", "doughs", "[LBakeryNight$Dough;", true)
  | 5 => ("BakeryNight$Bakery", "doughTotal", "I", false)
  | 6 => ("BakeryNight$Bakery", "ovens", "[LBakeryNight$Oven;", true)
  | 7 => ("BakeryNight$Bakery", "ovenTotal", "I", false)
  | 8 => ("BakeryNight$Bakery", "shopTotal", "I", false)
  | 9 => ("BakeryNight$Bakery", "roads", "LBakeryNight$Roads;", true)
  | 10 => ("BakeryNight$Bakery", "vanLoads", "[I", true)
  | 11 => ("BakeryNight$Bakery", "vanTotal", "I", false)
  | 12 => ("BakeryNight$Bakery", "orders", "[LBakeryNight$Order;", true)
  | _ => ("BakeryNight$Bakery", "orderTotal", "I", false)
def tyX1 : Nat → FieldType := fun k => match k with
  | 0 => .int
  | 1 => .int
  | 2 => .int
  | 3 => .int
  | 4 => .array (.object "BakeryNight$Dough")
  | 5 => .int
  | 6 => .array (.object "BakeryNight$Oven")
  | 7 => .int
  | 8 => .int
  | 9 => .object "BakeryNight$Roads"
  | 10 => .array .int
  | 11 => .int
  | 12 => .array (.object "BakeryNight$Order")
  | _ => .int
abbrev wsX10 : List Cond := u_ws RX1 TX1 14
theorem nmX1 : ∀ a, a < 14 → ∀ b, b < 14 → a ≠ b → (TX1 a).2.1 ≠ (TX1 b).2.1 := by decide +kernel
theorem tyX1_ok : ∀ k, k < 14 → parseFieldDescriptor (TX1 k).2.2.1 = some (tyX1 k) := by decide +kernel
abbrev cX1_init : ByteArray := prog_3_method_1_code
def yX1_init : MethodName := ⟨RX1, "<init>", "()V"⟩
abbrev cX1_clear : ByteArray := prog_3_method_2_code
def yX1_clear : MethodName := ⟨RX1, "clear", "()V"⟩
abbrev cX1_hasDough : ByteArray := prog_3_method_3_code
def yX1_hasDough : MethodName := ⟨RX1, "hasDough", "(I)Z"⟩
abbrev cX1_hasOven : ByteArray := prog_3_method_4_code
def yX1_hasOven : MethodName := ⟨RX1, "hasOven", "(I)Z"⟩
abbrev cX1_hasShop : ByteArray := prog_3_method_5_code
def yX1_hasShop : MethodName := ⟨RX1, "hasShop", "(I)Z"⟩
abbrev cX1_hasVan : ByteArray := prog_3_method_6_code
def yX1_hasVan : MethodName := ⟨RX1, "hasVan", "(I)Z"⟩
abbrev cX1_hasOrder : ByteArray := prog_3_method_7_code
def yX1_hasOrder : MethodName := ⟨RX1, "hasOrder", "(I)Z"⟩
abbrev cX1_allShops : ByteArray := prog_3_method_8_code
def yX1_allShops : MethodName := ⟨RX1, "allShops", "()I"⟩
abbrev cX1_inThisRoom : ByteArray := prog_3_method_9_code
def yX1_inThisRoom : MethodName := ⟨RX1, "inThisRoom", "(I)I"⟩
abbrev cX1_loavesOf : ByteArray := prog_3_method_10_code
def yX1_loavesOf : MethodName := ⟨RX1, "loavesOf", "(I)I"⟩
abbrev cX1_batchesOf : ByteArray := prog_3_method_11_code
def yX1_batchesOf : MethodName := ⟨RX1, "batchesOf", "(I)I"⟩
abbrev cX1_batchesNeeded : ByteArray := prog_3_method_12_code
def yX1_batchesNeeded : MethodName := ⟨RX1, "batchesNeeded", "()I"⟩
abbrev cX1_dueOf : ByteArray := prog_3_method_13_code
def yX1_dueOf : MethodName := ⟨RX1, "dueOf", "(I)I"⟩
abbrev cX1_loavesAheadOf : ByteArray := prog_3_method_14_code
def yX1_loavesAheadOf : MethodName := ⟨RX1, "loavesAheadOf", "(I)I"⟩
abbrev cX1_comesBefore : ByteArray := prog_3_method_15_code
def yX1_comesBefore : MethodName := ⟨RX1, "comesBefore", "(II)Z"⟩
abbrev cX1_markStreet : ByteArray := prog_3_method_16_code
def yX1_markStreet : MethodName := ⟨RX1, "markStreet", "(IZ)V"⟩
abbrev cX1_improve : ByteArray := prog_3_method_17_code
def yX1_improve : MethodName := ⟨RX1, "improve", "(II)V"⟩
def RX2 : String := "BakeryNight$Dough"
def TX2 : u_T := fun k => match k with
  | 0 => ("BakeryNight$Dough", "mix", "I", false)
  | 1 => ("BakeryNight$Dough", "rise", "I", false)
  | 2 => ("BakeryNight$Dough", "shape", "I", false)
  | 3 => ("BakeryNight$Dough", "proof", "I", false)
  | 4 => ("BakeryNight$Dough", "limit", "I", false)
  | 5 => ("BakeryNight$Dough", "bake", "I", false)
  | 6 => ("BakeryNight$Dough", "heat", "I", false)
  | 7 => ("BakeryNight$Dough", "loaves", "I", false)
  | 8 => ("BakeryNight$Dough", "keep", "I", false)
  | _ => ("BakeryNight$Dough", "price", "I", false)
def tyX2 : Nat → FieldType := fun k => match k with
  | 0 => .int
  | 1 => .int
  | 2 => .int
  | 3 => .int
  | 4 => .int
  | 5 => .int
  | 6 => .int
  | 7 => .int
  | 8 => .int
  | _ => .int
abbrev wsX20 : List Cond := u_ws RX2 TX2 10
theorem nmX2 : ∀ a, a < 10 → ∀ b, b < 10 → a ≠ b → (TX2 a).2.1 ≠ (TX2 b).2.1 := by decide +kernel
theorem tyX2_ok : ∀ k, k < 10 → parseFieldDescriptor (TX2 k).2.2.1 = some (tyX2 k) := by decide +kernel
abbrev cX2_init : ByteArray := prog_4_method_1_code
def yX2_init : MethodName := ⟨RX2, "<init>", "()V"⟩
def RX3 : String := "BakeryNight$History"
def TX3 : u_T := fun k => match k with
  | 0 => ("BakeryNight$History", "kinds", "[I", true)
  | 1 => ("BakeryNight$History", "indexes", "[I", true)
  | 2 => ("BakeryNight$History", "before", "[I", true)
  | _ => ("BakeryNight$History", "size", "I", false)
def tyX3 : Nat → FieldType := fun k => match k with
  | 0 => .array .int
  | 1 => .array .int
  | 2 => .array .int
  | _ => .int
abbrev wsX30 : List Cond := u_ws RX3 TX3 4
theorem nmX3 : ∀ a, a < 4 → ∀ b, b < 4 → a ≠ b → (TX3 a).2.1 ≠ (TX3 b).2.1 := by decide +kernel
theorem tyX3_ok : ∀ k, k < 4 → parseFieldDescriptor (TX3 k).2.2.1 = some (tyX3 k) := by decide +kernel
abbrev cX3_init : ByteArray := prog_5_method_1_code
def yX3_init : MethodName := ⟨RX3, "<init>", "()V"⟩
abbrev cX3_forget : ByteArray := prog_5_method_2_code
def yX3_forget : MethodName := ⟨RX3, "forget", "()V"⟩
abbrev cX3_add : ByteArray := prog_5_method_3_code
def yX3_add : MethodName := ⟨RX3, "add", "(III)V"⟩
abbrev cX3_dropOldest : ByteArray := prog_5_method_4_code
def yX3_dropOldest : MethodName := ⟨RX3, "dropOldest", "()V"⟩
abbrev cX3_takeBack : ByteArray := prog_5_method_5_code
def yX3_takeBack : MethodName := ⟨RX3, "takeBack", "(LBakeryNight$Bakery;)V"⟩
def RX4 : String := "BakeryNight$Night"
def TX4 : u_T := fun k => match k with
  | 0 => ("BakeryNight$Night", "start", "I", false)
  | 1 => ("BakeryNight$Night", "end", "I", false)
  | 2 => ("BakeryNight$Night", "batches", "I", false)
  | 3 => ("BakeryNight$Night", "dough", "[I", true)
  | 4 => ("BakeryNight$Night", "oven", "[I", true)
  | 5 => ("BakeryNight$Night", "begun", "[[I", true)
  | 6 => ("BakeryNight$Night", "risen", "[I", true)
  | 7 => ("BakeryNight$Night", "proofed", "[I", true)
  | 8 => ("BakeryNight$Night", "spoiled", "[I", true)
  | 9 => ("BakeryNight$Night", "mixed", "I", false)
  | 10 => ("BakeryNight$Night", "toShape", "[I", true)
  | 11 => ("BakeryNight$Night", "toShapeTotal", "I", false)
  | 12 => ("BakeryNight$Night", "toBake", "[I", true)
  | 13 => ("BakeryNight$Night", "toBakeTotal", "I", false)
  | 14 => ("BakeryNight$Night", "heat", "[I", true)
  | 15 => ("BakeryNight$Night", "steady", "[I", true)
  | 16 => ("BakeryNight$Night", "changed", "[I", true)
  | 17 => ("BakeryNight$Night", "taken", "[I", true)
  | 18 => ("BakeryNight$Night", "ready", "[I", true)
  | _ => ("BakeryNight$Night", "oldest", "[I", true)
def tyX4 : Nat → FieldType := fun k => match k with
  | 0 => .int
  | 1 => .int
  | 2 => .int
  | 3 => .array .int
  | 4 => .array .int
  | 5 => .array (.array .int)
  | 6 => .array .int
  | 7 => .array .int
  | 8 => .array .int
  | 9 => .int
  | 10 => .array .int
  | 11 => .int
  | 12 => .array .int
  | 13 => .int
  | 14 => .array .int
  | 15 => .array .int
  | 16 => .array .int
  | 17 => .array .int
  | 18 => .array .int
  | _ => .array .int
abbrev wsX40 : List Cond := u_ws RX4 TX4 20
theorem nmX4 : ∀ a, a < 20 → ∀ b, b < 20 → a ≠ b → (TX4 a).2.1 ≠ (TX4 b).2.1 := by decide +kernel
theorem tyX4_ok : ∀ k, k < 20 → parseFieldDescriptor (TX4 k).2.2.1 = some (tyX4 k) := by decide +kernel
abbrev cX4_init : ByteArray := prog_6_method_1_code
def yX4_init : MethodName := ⟨RX4, "<init>", "()V"⟩
abbrev cX4_run : ByteArray := prog_6_method_2_code
def yX4_run : MethodName := ⟨RX4, "run", "(LBakeryNight$Bakery;I)V"⟩
abbrev cX4_begin : ByteArray := prog_6_method_3_code
def yX4_begin : MethodName := ⟨RX4, "begin", "(LBakeryNight$Bakery;I)V"⟩
abbrev cX4_numberBatches : ByteArray := prog_6_method_4_code
def yX4_numberBatches : MethodName := ⟨RX4, "numberBatches", "(LBakeryNight$Bakery;)V"⟩
abbrev cX4_noteWhatEnded : ByteArray := prog_6_method_5_code
def yX4_noteWhatEnded : MethodName := ⟨RX4, "noteWhatEnded", "(LBakeryNight$Bakery;I)V"⟩
abbrev cX4_spoilWaiting : ByteArray := prog_6_method_6_code
def yX4_spoilWaiting : MethodName := ⟨RX4, "spoilWaiting", "(LBakeryNight$Bakery;I)V"⟩
abbrev cX4_bakeWaiting : ByteArray := prog_6_method_7_code
def yX4_bakeWaiting : MethodName := ⟨RX4, "bakeWaiting", "(LBakeryNight$Bakery;I)V"⟩
abbrev cX4_freeOven : ByteArray := prog_6_method_8_code
def yX4_freeOven : MethodName := ⟨RX4, "freeOven", "(LBakeryNight$Bakery;II)I"⟩
abbrev cX4_changeAnOven : ByteArray := prog_6_method_9_code
def yX4_changeAnOven : MethodName := ⟨RX4, "changeAnOven", "(LBakeryNight$Bakery;II)V"⟩
abbrev cX4_shapeWaiting : ByteArray := prog_6_method_10_code
def yX4_shapeWaiting : MethodName := ⟨RX4, "shapeWaiting", "(LBakeryNight$Bakery;I)V"⟩
abbrev cX4_mixNext : ByteArray := prog_6_method_11_code
def yX4_mixNext : MethodName := ⟨RX4, "mixNext", "(LBakeryNight$Bakery;I)V"⟩
abbrev cX4_nextMinute : ByteArray := prog_6_method_12_code
def yX4_nextMinute : MethodName := ⟨RX4, "nextMinute", "(LBakeryNight$Bakery;I)I"⟩
abbrev cX4_sooner : ByteArray := prog_6_method_13_code
def yX4_sooner : MethodName := ⟨RX4, "sooner", "(III)I"⟩
abbrev cX4_giveLoaves : ByteArray := prog_6_method_14_code
def yX4_giveLoaves : MethodName := ⟨RX4, "giveLoaves", "(LBakeryNight$Bakery;)V"⟩
abbrev cX4_takenOut : ByteArray := prog_6_method_15_code
def yX4_takenOut : MethodName := ⟨RX4, "takenOut", "(LBakeryNight$Bakery;II)I"⟩
abbrev cX4_leftOver : ByteArray := prog_6_method_16_code
def yX4_leftOver : MethodName := ⟨RX4, "leftOver", "(LBakeryNight$Bakery;I)I"⟩
abbrev cX4_leftOverCents : ByteArray := prog_6_method_17_code
def yX4_leftOverCents : MethodName := ⟨RX4, "leftOverCents", "(LBakeryNight$Bakery;II)I"⟩
abbrev cX4_hasBatch : ByteArray := prog_6_method_18_code
def yX4_hasBatch : MethodName := ⟨RX4, "hasBatch", "(I)Z"⟩
abbrev cX4_isPlace : ByteArray := prog_6_method_19_code
def yX4_isPlace : MethodName := ⟨RX4, "isPlace", "(I)Z"⟩
abbrev cX4_stageAt : ByteArray := prog_6_method_20_code
def yX4_stageAt : MethodName := ⟨RX4, "stageAt", "(I)I"⟩
abbrev cX4_spoiledBatches : ByteArray := prog_6_method_21_code
def yX4_spoiledBatches : MethodName := ⟨RX4, "spoiledBatches", "()I"⟩
abbrev cX4_minutesBakedIn : ByteArray := prog_6_method_22_code
def yX4_minutesBakedIn : MethodName := ⟨RX4, "minutesBakedIn", "(I)I"⟩
abbrev cX4_minutesWaitedFor : ByteArray := prog_6_method_23_code
def yX4_minutesWaitedFor : MethodName := ⟨RX4, "minutesWaitedFor", "(I)I"⟩
abbrev cX4_isIn : ByteArray := prog_6_method_24_code
def yX4_isIn : MethodName := ⟨RX4, "isIn", "(III)Z"⟩
abbrev cX4_shelvesTaken : ByteArray := prog_6_method_25_code
def yX4_shelvesTaken : MethodName := ⟨RX4, "shelvesTaken", "(II)I"⟩
abbrev cX4_inUse : ByteArray := prog_6_method_26_code
def yX4_inUse : MethodName := ⟨RX4, "inUse", "(II)I"⟩
abbrev cX4_firstFullest : ByteArray := prog_6_method_27_code
def yX4_firstFullest : MethodName := ⟨RX4, "firstFullest", "(I)I"⟩
def RX5 : String := "BakeryNight$Order"
def TX5 : u_T := fun k => match k with
  | 0 => ("BakeryNight$Order", "shop", "I", false)
  | 1 => ("BakeryNight$Order", "dough", "I", false)
  | 2 => ("BakeryNight$Order", "loaves", "I", false)
  | 3 => ("BakeryNight$Order", "by", "I", false)
  | _ => ("BakeryNight$Order", "cancelled", "Z", false)
def tyX5 : Nat → FieldType := fun k => match k with
  | 0 => .int
  | 1 => .int
  | 2 => .int
  | 3 => .int
  | _ => .boolean
abbrev wsX50 : List Cond := u_ws RX5 TX5 5
theorem nmX5 : ∀ a, a < 5 → ∀ b, b < 5 → a ≠ b → (TX5 a).2.1 ≠ (TX5 b).2.1 := by decide +kernel
theorem tyX5_ok : ∀ k, k < 5 → parseFieldDescriptor (TX5 k).2.2.1 = some (tyX5 k) := by decide +kernel
abbrev cX5_init : ByteArray := prog_7_method_1_code
def yX5_init : MethodName := ⟨RX5, "<init>", "()V"⟩
abbrev cX5_set : ByteArray := prog_7_method_2_code
def yX5_set : MethodName := ⟨RX5, "set", "(IIII)V"⟩
def RX6 : String := "BakeryNight$Oven"
def TX6 : u_T := fun k => match k with
  | 0 => ("BakeryNight$Oven", "shelves", "I", false)
  | 1 => ("BakeryNight$Oven", "heat", "I", false)
  | 2 => ("BakeryNight$Oven", "rate", "I", false)
  | _ => ("BakeryNight$Oven", "broken", "Z", false)
def tyX6 : Nat → FieldType := fun k => match k with
  | 0 => .int
  | 1 => .int
  | 2 => .int
  | _ => .boolean
abbrev wsX60 : List Cond := u_ws RX6 TX6 4
theorem nmX6 : ∀ a, a < 4 → ∀ b, b < 4 → a ≠ b → (TX6 a).2.1 ≠ (TX6 b).2.1 := by decide +kernel
theorem tyX6_ok : ∀ k, k < 4 → parseFieldDescriptor (TX6 k).2.2.1 = some (tyX6 k) := by decide +kernel
abbrev cX6_init : ByteArray := prog_8_method_1_code
def yX6_init : MethodName := ⟨RX6, "<init>", "()V"⟩
def RX7 : String := "BakeryNight$Parser"
def TX7 : u_T := fun k => match k with
  | 0 => ("BakeryNight$Parser", "scanner", "LBakeryNight$Scanner;", true)
  | 1 => ("BakeryNight$Parser", "doughNames", "[J", true)
  | 2 => ("BakeryNight$Parser", "shopNames", "[J", true)
  | 3 => ("BakeryNight$Parser", "roomGiven", "Z", false)
  | 4 => ("BakeryNight$Parser", "coolGiven", "Z", false)
  | 5 => ("BakeryNight$Parser", "mixersGiven", "Z", false)
  | 6 => ("BakeryNight$Parser", "bakersGiven", "Z", false)
  | 7 => ("BakeryNight$Parser", "faultCode", "I", false)
  | _ => ("BakeryNight$Parser", "faultOffset", "I", false)
def tyX7 : Nat → FieldType := fun k => match k with
  | 0 => .object "BakeryNight$Scanner"
  | 1 => .array .long
  | 2 => .array .long
  | 3 => .boolean
  | 4 => .boolean
  | 5 => .boolean
  | 6 => .boolean
  | 7 => .int
  | _ => .int
abbrev wsX70 : List Cond := u_ws RX7 TX7 9
theorem nmX7 : ∀ a, a < 9 → ∀ b, b < 9 → a ≠ b → (TX7 a).2.1 ≠ (TX7 b).2.1 := by decide +kernel
theorem tyX7_ok : ∀ k, k < 9 → parseFieldDescriptor (TX7 k).2.2.1 = some (tyX7 k) := by decide +kernel
abbrev cX7_init : ByteArray := prog_9_method_1_code
def yX7_init : MethodName := ⟨RX7, "<init>", "()V"⟩
abbrev cX7_parse : ByteArray := prog_9_method_2_code
def yX7_parse : MethodName := ⟨RX7, "parse", "([BILBakeryNight$Bakery;)I"⟩
abbrev cX7_fail : ByteArray := prog_9_method_3_code
def yX7_fail : MethodName := ⟨RX7, "fail", "(I)V"⟩
abbrev cX7_failed : ByteArray := prog_9_method_4_code
def yX7_failed : MethodName := ⟨RX7, "failed", "()Z"⟩
abbrev cX7_readStatement : ByteArray := prog_9_method_5_code
def yX7_readStatement : MethodName := ⟨RX7, "readStatement", "(LBakeryNight$Bakery;)V"⟩
abbrev cX7_readSemicolon : ByteArray := prog_9_method_6_code
def yX7_readSemicolon : MethodName := ⟨RX7, "readSemicolon", "()V"⟩
abbrev cX7_readSetting : ByteArray := prog_9_method_7_code
def yX7_readSetting : MethodName := ⟨RX7, "readSetting", "(ZII)I"⟩
abbrev cX7_beginOneOf : ByteArray := prog_9_method_8_code
def yX7_beginOneOf : MethodName := ⟨RX7, "beginOneOf", "(II)V"⟩
abbrev cX7_readDough : ByteArray := prog_9_method_9_code
def yX7_readDough : MethodName := ⟨RX7, "readDough", "(LBakeryNight$Bakery;)V"⟩
abbrev cX7_readOven : ByteArray := prog_9_method_10_code
def yX7_readOven : MethodName := ⟨RX7, "readOven", "(LBakeryNight$Bakery;)V"⟩
abbrev cX7_readShop : ByteArray := prog_9_method_11_code
def yX7_readShop : MethodName := ⟨RX7, "readShop", "(LBakeryNight$Bakery;)V"⟩
abbrev cX7_readStreet : ByteArray := prog_9_method_12_code
def yX7_readStreet : MethodName := ⟨RX7, "readStreet", "(LBakeryNight$Bakery;)V"⟩
abbrev cX7_readVan : ByteArray := prog_9_method_13_code
def yX7_readVan : MethodName := ⟨RX7, "readVan", "(LBakeryNight$Bakery;)V"⟩
abbrev cX7_readOrder : ByteArray := prog_9_method_14_code
def yX7_readOrder : MethodName := ⟨RX7, "readOrder", "(LBakeryNight$Bakery;)V"⟩
abbrev cX7_readField : ByteArray := prog_9_method_15_code
def yX7_readField : MethodName := ⟨RX7, "readField", "(LBakeryNight$Word;II)I"⟩
abbrev cX7_readNumber : ByteArray := prog_9_method_16_code
def yX7_readNumber : MethodName := ⟨RX7, "readNumber", "(II)I"⟩
abbrev cX7_readNewName : ByteArray := prog_9_method_17_code
def yX7_readNewName : MethodName := ⟨RX7, "readNewName", "([JI)V"⟩
abbrev cX7_readKnownName : ByteArray := prog_9_method_18_code
def yX7_readKnownName : MethodName := ⟨RX7, "readKnownName", "([JI)I"⟩
abbrev cX7_indexOfName : ByteArray := prog_9_method_19_code
def yX7_indexOfName : MethodName := ⟨RX7, "indexOfName", "([JI)I"⟩
abbrev cX7_readPlace : ByteArray := prog_9_method_20_code
def yX7_readPlace : MethodName := ⟨RX7, "readPlace", "(LBakeryNight$Bakery;I)I"⟩
def RX8 : String := "BakeryNight$Plan"
def TX8 : u_T := fun k => match k with
  | 0 => ("BakeryNight$Plan", "due", "[I", true)
  | 1 => ("BakeryNight$Plan", "load", "[I", true)
  | 2 => ("BakeryNight$Plan", "readyAt", "[I", true)
  | 3 => ("BakeryNight$Plan", "served", "I", false)
  | 4 => ("BakeryNight$Plan", "missed", "I", false)
  | 5 => ("BakeryNight$Plan", "setLoad", "[I", true)
  | 6 => ("BakeryNight$Plan", "setLate", "[I", true)
  | 7 => ("BakeryNight$Plan", "setMinutes", "[I", true)
  | 8 => ("BakeryNight$Plan", "setSlack", "[I", true)
  | 9 => ("BakeryNight$Plan", "shopsOfVan", "[I", true)
  | 10 => ("BakeryNight$Plan", "vanOfShop", "[I", true)
  | 11 => ("BakeryNight$Plan", "possible", "Z", false)
  | 12 => ("BakeryNight$Plan", "lateTotal", "I", false)
  | 13 => ("BakeryNight$Plan", "bestShops", "[I", true)
  | _ => ("BakeryNight$Plan", "arrival", "[I", true)
def tyX8 : Nat → FieldType := fun k => match k with
  | 0 => .array .int
  | 1 => .array .int
  | 2 => .array .int
  | 3 => .int
  | 4 => .int
  | 5 => .array .int
  | 6 => .array .int
  | 7 => .array .int
  | 8 => .array .int
  | 9 => .array .int
  | 10 => .array .int
  | 11 => .boolean
  | 12 => .int
  | 13 => .array .int
  | _ => .array .int
abbrev wsX80 : List Cond := u_ws RX8 TX8 15
theorem nmX8 : ∀ a, a < 15 → ∀ b, b < 15 → a ≠ b → (TX8 a).2.1 ≠ (TX8 b).2.1 := by decide +kernel
theorem tyX8_ok : ∀ k, k < 15 → parseFieldDescriptor (TX8 k).2.2.1 = some (tyX8 k) := by decide +kernel
abbrev cX8_init : ByteArray := prog_10_method_1_code
def yX8_init : MethodName := ⟨RX8, "<init>", "()V"⟩
abbrev cX8_gather : ByteArray := prog_10_method_2_code
def yX8_gather : MethodName := ⟨RX8, "gather", "(LBakeryNight$Bakery;LBakeryNight$Night;)V"⟩
abbrev cX8_choose : ByteArray := prog_10_method_3_code
def yX8_choose : MethodName := ⟨RX8, "choose", "(LBakeryNight$Bakery;)V"⟩
abbrev cX8_latest : ByteArray := prog_10_method_4_code
def yX8_latest : MethodName := ⟨RX8, "latest", "(LBakeryNight$Bakery;)I"⟩
abbrev cX8_firstWay : ByteArray := prog_10_method_5_code
def yX8_firstWay : MethodName := ⟨RX8, "firstWay", "(LBakeryNight$Bakery;)I"⟩
abbrev cX8_nextWay : ByteArray := prog_10_method_6_code
def yX8_nextWay : MethodName := ⟨RX8, "nextWay", "(LBakeryNight$Bakery;)V"⟩
abbrev cX8_canCarry : ByteArray := prog_10_method_7_code
def yX8_canCarry : MethodName := ⟨RX8, "canCarry", "(LBakeryNight$Bakery;)Z"⟩
abbrev cX8_measureSets : ByteArray := prog_10_method_8_code
def yX8_measureSets : MethodName := ⟨RX8, "measureSets", "(LBakeryNight$Bakery;)V"⟩
abbrev cX8_drive : ByteArray := prog_10_method_9_code
def yX8_drive : MethodName := ⟨RX8, "drive", "(LBakeryNight$Roads;I)V"⟩
abbrev cX8_departureFor : ByteArray := prog_10_method_10_code
def yX8_departureFor : MethodName := ⟨RX8, "departureFor", "(I)I"⟩
abbrev cX8_missedTotal : ByteArray := prog_10_method_11_code
def yX8_missedTotal : MethodName := ⟨RX8, "missedTotal", "()I"⟩
abbrev cX8_vanFor : ByteArray := prog_10_method_12_code
def yX8_vanFor : MethodName := ⟨RX8, "vanFor", "(I)I"⟩
abbrev cX8_departureOf : ByteArray := prog_10_method_13_code
def yX8_departureOf : MethodName := ⟨RX8, "departureOf", "(I)I"⟩
abbrev cX8_staleTotal : ByteArray := prog_10_method_14_code
def yX8_staleTotal : MethodName := ⟨RX8, "staleTotal", "(LBakeryNight$Bakery;LBakeryNight$Night;)I"⟩
def RX9 : String := "BakeryNight$Roads"
def TX9 : u_T := fun k => match k with
  | 0 => ("BakeryNight$Roads", "from", "[I", true)
  | 1 => ("BakeryNight$Roads", "to", "[I", true)
  | 2 => ("BakeryNight$Roads", "minutes", "[I", true)
  | 3 => ("BakeryNight$Roads", "closed", "[Z", true)
  | 4 => ("BakeryNight$Roads", "streetTotal", "I", false)
  | 5 => ("BakeryNight$Roads", "shortest", "[[I", true)
  | _ => ("BakeryNight$Roads", "rest", "[I", true)
def tyX9 : Nat → FieldType := fun k => match k with
  | 0 => .array .int
  | 1 => .array .int
  | 2 => .array .int
  | 3 => .array .boolean
  | 4 => .int
  | 5 => .array (.array .int)
  | _ => .array .int
abbrev wsX90 : List Cond := u_ws RX9 TX9 7
theorem nmX9 : ∀ a, a < 7 → ∀ b, b < 7 → a ≠ b → (TX9 a).2.1 ≠ (TX9 b).2.1 := by decide +kernel
theorem tyX9_ok : ∀ k, k < 7 → parseFieldDescriptor (TX9 k).2.2.1 = some (tyX9 k) := by decide +kernel
abbrev cX9_init : ByteArray := prog_11_method_1_code
def yX9_init : MethodName := ⟨RX9, "<init>", "()V"⟩
abbrev cX9_between : ByteArray := prog_11_method_2_code
def yX9_between : MethodName := ⟨RX9, "between", "(II)I"⟩
abbrev cX9_restOfRoute : ByteArray := prog_11_method_3_code
def yX9_restOfRoute : MethodName := ⟨RX9, "restOfRoute", "(II)I"⟩
abbrev cX9_explore : ByteArray := prog_11_method_4_code
def yX9_explore : MethodName := ⟨RX9, "explore", "(II)V"⟩
abbrev cX9_joinStreets : ByteArray := prog_11_method_5_code
def yX9_joinStreets : MethodName := ⟨RX9, "joinStreets", "()V"⟩
abbrev cX9_measureRoutes : ByteArray := prog_11_method_6_code
def yX9_measureRoutes : MethodName := ⟨RX9, "measureRoutes", "(I)V"⟩
abbrev cX9_by : ByteArray := prog_11_method_7_code
def yX9_by : MethodName := ⟨RX9, "by", "(III)I"⟩
abbrev cX9_nextStop : ByteArray := prog_11_method_8_code
def yX9_nextStop : MethodName := ⟨RX9, "nextStop", "(II)I"⟩
def RX10 : String := "BakeryNight$Scanner"
def TX10 : u_T := fun k => match k with
  | 0 => ("BakeryNight$Scanner", "text", "[B", false)
  | 1 => ("BakeryNight$Scanner", "length", "I", false)
  | 2 => ("BakeryNight$Scanner", "kind", "I", false)
  | 3 => ("BakeryNight$Scanner", "start", "I", false)
  | _ => ("BakeryNight$Scanner", "end", "I", false)
def tyX10 : Nat → FieldType := fun k => match k with
  | 0 => .array .byte
  | 1 => .int
  | 2 => .int
  | 3 => .int
  | _ => .int
abbrev wsX100 : List Cond := u_ws RX10 TX10 5
theorem nmX10 : ∀ a, a < 5 → ∀ b, b < 5 → a ≠ b → (TX10 a).2.1 ≠ (TX10 b).2.1 := by decide +kernel
theorem tyX10_ok : ∀ k, k < 5 → parseFieldDescriptor (TX10 k).2.2.1 = some (tyX10 k) := by decide +kernel
abbrev cX10_init : ByteArray := prog_12_method_1_code
def yX10_init : MethodName := ⟨RX10, "<init>", "()V"⟩
abbrev cX10_begin : ByteArray := prog_12_method_2_code
def yX10_begin : MethodName := ⟨RX10, "begin", "([BI)V"⟩
abbrev cX10_next : ByteArray := prog_12_method_3_code
def yX10_next : MethodName := ⟨RX10, "next", "()V"⟩
abbrev cX10_kindOf : ByteArray := prog_12_method_4_code
def yX10_kindOf : MethodName := ⟨RX10, "kindOf", "(I)I"⟩
abbrev cX10_isNumber : ByteArray := prog_12_method_5_code
def yX10_isNumber : MethodName := ⟨RX10, "isNumber", "()Z"⟩
abbrev cX10_value : ByteArray := prog_12_method_6_code
def yX10_value : MethodName := ⟨RX10, "value", "()I"⟩
abbrev cX10_isName : ByteArray := prog_12_method_7_code
def yX10_isName : MethodName := ⟨RX10, "isName", "()Z"⟩
abbrev cX10_letters : ByteArray := prog_12_method_8_code
def yX10_letters : MethodName := ⟨RX10, "letters", "()J"⟩
abbrev cX10_keyword : ByteArray := prog_12_method_9_code
def yX10_keyword : MethodName := ⟨RX10, "keyword", "()LBakeryNight$Word;"⟩
def RX11 : String := "BakeryNight$Word"
def TX11 : u_T := fun k => match k with
  | _ => ("", "", "", false)
def tyX11 : Nat → FieldType := fun k => match k with
  | _ => .int
abbrev wsX110 : List Cond := u_ws RX11 TX11 0
theorem nmX11 : ∀ a, a < 0 → ∀ b, b < 0 → a ≠ b → (TX11 a).2.1 ≠ (TX11 b).2.1 := by decide +kernel
theorem tyX11_ok : ∀ k, k < 0 → parseFieldDescriptor (TX11 k).2.2.1 = some (tyX11 k) := by decide +kernel
def RX12 : String := "BakeryNight"
def TX12 : u_T := fun k => match k with
  | 0 => ("BakeryNight", "buffer", "[B", true)
  | 1 => ("BakeryNight", "length", "I", false)
  | 2 => ("BakeryNight", "parser", "LBakeryNight$Parser;", true)
  | 3 => ("BakeryNight", "bakery", "LBakeryNight$Bakery;", false)
  | 4 => ("BakeryNight", "spare", "LBakeryNight$Bakery;", false)
  | 5 => ("BakeryNight", "history", "LBakeryNight$History;", true)
  | 6 => ("BakeryNight", "night", "LBakeryNight$Night;", true)
  | 7 => ("BakeryNight", "plan", "LBakeryNight$Plan;", true)
  | 8 => ("BakeryNight", "simulated", "Z", false)
  | 9 => ("BakeryNight", "planned", "Z", false)
  | 10 => ("BakeryNight", "trialNight", "LBakeryNight$Night;", true)
  | _ => ("BakeryNight", "trialPlan", "LBakeryNight$Plan;", true)
def tyX12 : Nat → FieldType := fun k => match k with
  | 0 => .array .byte
  | 1 => .int
  | 2 => .object "BakeryNight$Parser"
  | 3 => .object "BakeryNight$Bakery"
  | 4 => .object "BakeryNight$Bakery"
  | 5 => .object "BakeryNight$History"
  | 6 => .object "BakeryNight$Night"
  | 7 => .object "BakeryNight$Plan"
  | 8 => .boolean
  | 9 => .boolean
  | 10 => .object "BakeryNight$Night"
  | _ => .object "BakeryNight$Plan"
abbrev wsX120 : List Cond := u_ws RX12 TX12 12
theorem nmX12 : ∀ a, a < 12 → ∀ b, b < 12 → a ≠ b → (TX12 a).2.1 ≠ (TX12 b).2.1 := by decide +kernel
theorem tyX12_ok : ∀ k, k < 12 → parseFieldDescriptor (TX12 k).2.2.1 = some (tyX12 k) := by decide +kernel
abbrev cX12_init : ByteArray := prog_1_method_1_code
def yX12_init : MethodName := ⟨RX12, "<init>", "()V"⟩
abbrev cX12_feed : ByteArray := prog_1_method_2_code
def yX12_feed : MethodName := ⟨RX12, "feed", "(IIIII)I"⟩
abbrev cX12_append : ByteArray := prog_1_method_3_code
def yX12_append : MethodName := ⟨RX12, "append", "(I)V"⟩
abbrev cX12_truncate : ByteArray := prog_1_method_4_code
def yX12_truncate : MethodName := ⟨RX12, "truncate", "(I)Z"⟩
abbrev cX12_parseBakery : ByteArray := prog_1_method_5_code
def yX12_parseBakery : MethodName := ⟨RX12, "parseBakery", "()I"⟩
abbrev cX12_errorCode : ByteArray := prog_1_method_6_code
def yX12_errorCode : MethodName := ⟨RX12, "errorCode", "()I"⟩
abbrev cX12_errorOffset : ByteArray := prog_1_method_7_code
def yX12_errorOffset : MethodName := ⟨RX12, "errorOffset", "()I"⟩
abbrev cX12_orderCount : ByteArray := prog_1_method_8_code
def yX12_orderCount : MethodName := ⟨RX12, "orderCount", "()I"⟩
abbrev cX12_orderedLoaves : ByteArray := prog_1_method_9_code
def yX12_orderedLoaves : MethodName := ⟨RX12, "orderedLoaves", "(I)I"⟩
abbrev cX12_batchCount : ByteArray := prog_1_method_10_code
def yX12_batchCount : MethodName := ⟨RX12, "batchCount", "()I"⟩
abbrev cX12_risingMinutes : ByteArray := prog_1_method_11_code
def yX12_risingMinutes : MethodName := ⟨RX12, "risingMinutes", "(IZ)I"⟩
abbrev cX12_distance : ByteArray := prog_1_method_12_code
def yX12_distance : MethodName := ⟨RX12, "distance", "(II)I"⟩
abbrev cX12_placeOf : ByteArray := prog_1_method_13_code
def yX12_placeOf : MethodName := ⟨RX12, "placeOf", "(I)I"⟩
abbrev cX12_routeMinutes : ByteArray := prog_1_method_14_code
def yX12_routeMinutes : MethodName := ⟨RX12, "routeMinutes", "(I)I"⟩
abbrev cX12_routeStop : ByteArray := prog_1_method_15_code
def yX12_routeStop : MethodName := ⟨RX12, "routeStop", "(II)I"⟩
abbrev cX12_simulate : ByteArray := prog_1_method_16_code
def yX12_simulate : MethodName := ⟨RX12, "simulate", "(I)I"⟩
abbrev cX12_dropNight : ByteArray := prog_1_method_17_code
def yX12_dropNight : MethodName := ⟨RX12, "dropNight", "()V"⟩
abbrev cX12_batchDough : ByteArray := prog_1_method_18_code
def yX12_batchDough : MethodName := ⟨RX12, "batchDough", "(I)I"⟩
abbrev cX12_stageMinute : ByteArray := prog_1_method_19_code
def yX12_stageMinute : MethodName := ⟨RX12, "stageMinute", "(II)I"⟩
abbrev cX12_ovenOf : ByteArray := prog_1_method_20_code
def yX12_ovenOf : MethodName := ⟨RX12, "ovenOf", "(I)I"⟩
abbrev cX12_spoiledCount : ByteArray := prog_1_method_21_code
def yX12_spoiledCount : MethodName := ⟨RX12, "spoiledCount", "()I"⟩
abbrev cX12_changingMinutes : ByteArray := prog_1_method_22_code
def yX12_changingMinutes : MethodName := ⟨RX12, "changingMinutes", "(I)I"⟩
abbrev cX12_bakingMinutes : ByteArray := prog_1_method_23_code
def yX12_bakingMinutes : MethodName := ⟨RX12, "bakingMinutes", "(I)I"⟩
abbrev cX12_waitingMinutes : ByteArray := prog_1_method_24_code
def yX12_waitingMinutes : MethodName := ⟨RX12, "waitingMinutes", "(I)I"⟩
abbrev cX12_shelvesUsed : ByteArray := prog_1_method_25_code
def yX12_shelvesUsed : MethodName := ⟨RX12, "shelvesUsed", "(II)I"⟩
abbrev cX12_busy : ByteArray := prog_1_method_26_code
def yX12_busy : MethodName := ⟨RX12, "busy", "(II)I"⟩
abbrev cX12_busiestMinute : ByteArray := prog_1_method_27_code
def yX12_busiestMinute : MethodName := ⟨RX12, "busiestMinute", "(I)I"⟩
abbrev cX12_readyMinute : ByteArray := prog_1_method_28_code
def yX12_readyMinute : MethodName := ⟨RX12, "readyMinute", "(I)I"⟩
abbrev cX12_surplusLoaves : ByteArray := prog_1_method_29_code
def yX12_surplusLoaves : MethodName := ⟨RX12, "surplusLoaves", "(I)I"⟩
abbrev cX12_surplusValue : ByteArray := prog_1_method_30_code
def yX12_surplusValue : MethodName := ⟨RX12, "surplusValue", "(I)I"⟩
abbrev cX12_bestPlan : ByteArray := prog_1_method_31_code
def yX12_bestPlan : MethodName := ⟨RX12, "bestPlan", "()LBakeryNight$Plan;"⟩
abbrev cX12_failedShops : ByteArray := prog_1_method_32_code
def yX12_failedShops : MethodName := ⟨RX12, "failedShops", "()I"⟩
abbrev cX12_vanOf : ByteArray := prog_1_method_33_code
def yX12_vanOf : MethodName := ⟨RX12, "vanOf", "(I)I"⟩
abbrev cX12_arrivalMinute : ByteArray := prog_1_method_34_code
def yX12_arrivalMinute : MethodName := ⟨RX12, "arrivalMinute", "(I)I"⟩
abbrev cX12_departureMinute : ByteArray := prog_1_method_35_code
def yX12_departureMinute : MethodName := ⟨RX12, "departureMinute", "(I)I"⟩
abbrev cX12_staleOrders : ByteArray := prog_1_method_36_code
def yX12_staleOrders : MethodName := ⟨RX12, "staleOrders", "()I"⟩
abbrev cX12_latestStart : ByteArray := prog_1_method_37_code
def yX12_latestStart : MethodName := ⟨RX12, "latestStart", "()I"⟩
abbrev cX12_latestStartWith : ByteArray := prog_1_method_38_code
def yX12_latestStartWith : MethodName := ⟨RX12, "latestStartWith", "(I)I"⟩
abbrev cX12_vitalStreet : ByteArray := prog_1_method_39_code
def yX12_vitalStreet : MethodName := ⟨RX12, "vitalStreet", "()I"⟩
abbrev cX12_latestAsItIs : ByteArray := prog_1_method_40_code
def yX12_latestAsItIs : MethodName := ⟨RX12, "latestAsItIs", "()I"⟩
abbrev cX12_recordChange : ByteArray := prog_1_method_41_code
def yX12_recordChange : MethodName := ⟨RX12, "recordChange", "(III)V"⟩
abbrev cX12_setRoom : ByteArray := prog_1_method_42_code
def yX12_setRoom : MethodName := ⟨RX12, "setRoom", "(I)I"⟩
abbrev cX12_breakOven : ByteArray := prog_1_method_43_code
def yX12_breakOven : MethodName := ⟨RX12, "breakOven", "(IZ)Z"⟩
abbrev cX12_closeStreet : ByteArray := prog_1_method_44_code
def yX12_closeStreet : MethodName := ⟨RX12, "closeStreet", "(IZ)Z"⟩
abbrev cX12_addOrder : ByteArray := prog_1_method_45_code
def yX12_addOrder : MethodName := ⟨RX12, "addOrder", "(IIII)I"⟩
abbrev cX12_cancelOrder : ByteArray := prog_1_method_46_code
def yX12_cancelOrder : MethodName := ⟨RX12, "cancelOrder", "(I)Z"⟩
abbrev cX12_moveOrder : ByteArray := prog_1_method_47_code
def yX12_moveOrder : MethodName := ⟨RX12, "moveOrder", "(II)I"⟩
abbrev cX12_undo : ByteArray := prog_1_method_48_code
def yX12_undo : MethodName := ⟨RX12, "undo", "()I"⟩
abbrev cX12_dividedUp : ByteArray := prog_1_method_49_code
def yX12_dividedUp : MethodName := ⟨RX12, "dividedUp", "(II)I"⟩
def RX13 : String := "BakeryNightModel"
def TX13 : u_T := fun k => match k with
  | 0 => ("BakeryNightModel", "bakery", "[I", true)
  | 1 => ("BakeryNightModel", "draft", "[I", true)
  | 2 => ("BakeryNightModel", "trial", "[I", true)
  | 3 => ("BakeryNightModel", "undo", "[I", true)
  | 4 => ("BakeryNightModel", "undos", "I", false)
  | 5 => ("BakeryNightModel", "hasNight", "Z", false)
  | 6 => ("BakeryNightModel", "nightStart", "I", false)
  | 7 => ("BakeryNightModel", "told", "I", false)
  | 8 => ("BakeryNightModel", "buffer", "[B", true)
  | 9 => ("BakeryNightModel", "filled", "I", false)
  | 10 => ("BakeryNightModel", "length", "I", false)
  | 11 => ("BakeryNightModel", "at", "I", false)
  | 12 => ("BakeryNightModel", "code", "I", false)
  | 13 => ("BakeryNightModel", "offset", "I", false)
  | 14 => ("BakeryNightModel", "named", "I", false)
  | 15 => ("BakeryNightModel", "doughName", "[J", true)
  | 16 => ("BakeryNightModel", "shopName", "[J", true)
  | 17 => ("BakeryNightModel", "given", "I", false)
  | 18 => ("BakeryNightModel", "batchDough", "[I", true)
  | 19 => ("BakeryNightModel", "batches", "I", false)
  | 20 => ("BakeryNightModel", "state", "[I", true)
  | 21 => ("BakeryNightModel", "until", "[I", true)
  | 22 => ("BakeryNightModel", "stage", "[I", true)
  | 23 => ("BakeryNightModel", "inOven", "[I", true)
  | 24 => ("BakeryNightModel", "proofedAt", "[I", true)
  | 25 => ("BakeryNightModel", "risenAt", "[I", true)
  | 26 => ("BakeryNightModel", "risen", "[I", true)
  | 27 => ("BakeryNightModel", "risenMany", "I", false)
  | 28 => ("BakeryNightModel", "proofed", "[I", true)
  | 29 => ("BakeryNightModel", "proofedMany", "I", false)
  | 30 => ("BakeryNightModel", "heat", "[I", true)
  | 31 => ("BakeryNightModel", "toHeat", "[I", true)
  | 32 => ("BakeryNightModel", "changed", "[I", true)
  | 33 => ("BakeryNightModel", "changes", "[I", true)
  | 34 => ("BakeryNightModel", "now", "I", false)
  | 35 => ("BakeryNightModel", "ended", "I", false)
  | 36 => ("BakeryNightModel", "waitedForMixer", "I", false)
  | 37 => ("BakeryNightModel", "waitedForBaker", "I", false)
  | 38 => ("BakeryNightModel", "waitedForOven", "I", false)
  | 39 => ("BakeryNightModel", "way", "[I", true)
  | 40 => ("BakeryNightModel", "least", "[I", true)
  | 41 => ("BakeryNightModel", "stops", "[I", true)
  | 42 => ("BakeryNightModel", "stopMany", "I", false)
  | 43 => ("BakeryNightModel", "shopReady", "[I", true)
  | 44 => ("BakeryNightModel", "shopDue", "[I", true)
  | 45 => ("BakeryNightModel", "shopLoad", "[I", true)
  | 46 => ("BakeryNightModel", "served", "I", false)
  | 47 => ("BakeryNightModel", "missed", "I", false)
  | 48 => ("BakeryNightModel", "vanSet", "[I", true)
  | 49 => ("BakeryNightModel", "vanOf", "[I", true)
  | 50 => ("BakeryNightModel", "isEndless", "Z", false)
  | 51 => ("BakeryNightModel", "arrives", "[I", true)
  | 52 => ("BakeryNightModel", "bestLate", "I", false)
  | 53 => ("BakeryNightModel", "bestMinutes", "I", false)
  | _ => ("BakeryNightModel", "bestVan", "[I", true)
def tyX13 : Nat → FieldType := fun k => match k with
  | 0 => .array .int
  | 1 => .array .int
  | 2 => .array .int
  | 3 => .array .int
  | 4 => .int
  | 5 => .boolean
  | 6 => .int
  | 7 => .int
  | 8 => .array .byte
  | 9 => .int
  | 10 => .int
  | 11 => .int
  | 12 => .int
  | 13 => .int
  | 14 => .int
  | 15 => .array .long
  | 16 => .array .long
  | 17 => .int
  | 18 => .array .int
  | 19 => .int
  | 20 => .array .int
  | 21 => .array .int
  | 22 => .array .int
  | 23 => .array .int
  | 24 => .array .int
  | 25 => .array .int
  | 26 => .array .int
  | 27 => .int
  | 28 => .array .int
  | 29 => .int
  | 30 => .array .int
  | 31 => .array .int
  | 32 => .array .int
  | 33 => .array .int
  | 34 => .int
  | 35 => .int
  | 36 => .int
  | 37 => .int
  | 38 => .int
  | 39 => .array .int
  | 40 => .array .int
  | 41 => .array .int
  | 42 => .int
  | 43 => .array .int
  | 44 => .array .int
  | 45 => .array .int
  | 46 => .int
  | 47 => .int
  | 48 => .array .int
  | 49 => .array .int
  | 50 => .boolean
  | 51 => .array .int
  | 52 => .int
  | 53 => .int
  | _ => .array .int
abbrev wsX130 : List Cond := u_ws RX13 TX13 55
theorem nmX13 : ∀ a, a < 55 → ∀ b, b < 55 → a ≠ b → (TX13 a).2.1 ≠ (TX13 b).2.1 := by decide +kernel
theorem tyX13_ok : ∀ k, k < 55 → parseFieldDescriptor (TX13 k).2.2.1 = some (tyX13 k) := by decide +kernel
abbrev cX13_init : ByteArray := prog_15_method_1_code
def yX13_init : MethodName := ⟨RX13, "<init>", "()V"⟩
abbrev cX13_thrown : ByteArray := prog_15_method_2_code
def yX13_thrown : MethodName := ⟨RX13, "thrown", "()I"⟩
abbrev cX13_fails : ByteArray := prog_15_method_3_code
def yX13_fails : MethodName := ⟨RX13, "fails", "(I)I"⟩
abbrev cX13_isIn : ByteArray := prog_15_method_4_code
def yX13_isIn : MethodName := ⟨RX13, "isIn", "(JJJ)Z"⟩
abbrev cX13_has : ByteArray := prog_15_method_5_code
def yX13_has : MethodName := ⟨RX13, "has", "(II)Z"⟩
abbrev cX13_greater : ByteArray := prog_15_method_6_code
def yX13_greater : MethodName := ⟨RX13, "greater", "(II)I"⟩
abbrev cX13_lesser : ByteArray := prog_15_method_7_code
def yX13_lesser : MethodName := ⟨RX13, "lesser", "(II)I"⟩
abbrev cX13_up : ByteArray := prog_15_method_8_code
def yX13_up : MethodName := ⟨RX13, "up", "(II)I"⟩
abbrev cX13_empties : ByteArray := prog_15_method_9_code
def yX13_empties : MethodName := ⟨RX13, "empties", "([I)V"⟩
abbrev cX13_copies : ByteArray := prog_15_method_10_code
def yX13_copies : MethodName := ⟨RX13, "copies", "([I[I)V"⟩
abbrev cX13_dough : ByteArray := prog_15_method_11_code
def yX13_dough : MethodName := ⟨RX13, "dough", "([III)I"⟩
abbrev cX13_oven : ByteArray := prog_15_method_12_code
def yX13_oven : MethodName := ⟨RX13, "oven", "([III)I"⟩
abbrev cX13_street : ByteArray := prog_15_method_13_code
def yX13_street : MethodName := ⟨RX13, "street", "([III)I"⟩
abbrev cX13_order : ByteArray := prog_15_method_14_code
def yX13_order : MethodName := ⟨RX13, "order", "([III)I"⟩
abbrev cX13_isMeant : ByteArray := prog_15_method_15_code
def yX13_isMeant : MethodName := ⟨RX13, "isMeant", "([II)Z"⟩
abbrev cX13_feed : ByteArray := prog_15_method_16_code
def yX13_feed : MethodName := ⟨RX13, "feed", "(IIIII)I"⟩
abbrev cX13_truncate : ByteArray := prog_15_method_17_code
def yX13_truncate : MethodName := ⟨RX13, "truncate", "(I)Z"⟩
abbrev cX13_byteAt : ByteArray := prog_15_method_18_code
def yX13_byteAt : MethodName := ⟨RX13, "byteAt", "(I)I"⟩
abbrev cX13_here : ByteArray := prog_15_method_19_code
def yX13_here : MethodName := ⟨RX13, "here", "()I"⟩
abbrev cX13_isLetter : ByteArray := prog_15_method_20_code
def yX13_isLetter : MethodName := ⟨RX13, "isLetter", "(I)Z"⟩
abbrev cX13_skips : ByteArray := prog_15_method_21_code
def yX13_skips : MethodName := ⟨RX13, "skips", "()V"⟩
abbrev cX13_fine : ByteArray := prog_15_method_22_code
def yX13_fine : MethodName := ⟨RX13, "fine", "()Z"⟩
abbrev cX13_faulty : ByteArray := prog_15_method_23_code
def yX13_faulty : MethodName := ⟨RX13, "faulty", "(II)V"⟩
abbrev cX13_wordLength : ByteArray := prog_15_method_24_code
def yX13_wordLength : MethodName := ⟨RX13, "wordLength", "()I"⟩
abbrev cX13_isWord : ByteArray := prog_15_method_25_code
def yX13_isWord : MethodName := ⟨RX13, "isWord", "(Ljava/lang/String;)Z"⟩
abbrev cX13_takes : ByteArray := prog_15_method_26_code
def yX13_takes : MethodName := ⟨RX13, "takes", "(Ljava/lang/String;)Z"⟩
abbrev cX13_needs : ByteArray := prog_15_method_27_code
def yX13_needs : MethodName := ⟨RX13, "needs", "(Ljava/lang/String;)V"⟩
abbrev cX13_number : ByteArray := prog_15_method_28_code
def yX13_number : MethodName := ⟨RX13, "number", "(II)I"⟩
abbrev cX13_isKeyword : ByteArray := prog_15_method_29_code
def yX13_isKeyword : MethodName := ⟨RX13, "isKeyword", "()Z"⟩
abbrev cX13_name : ByteArray := prog_15_method_30_code
def yX13_name : MethodName := ⟨RX13, "name", "()J"⟩
abbrev cX13_placeOf : ByteArray := prog_15_method_31_code
def yX13_placeOf : MethodName := ⟨RX13, "placeOf", "([JIJ)I"⟩
abbrev cX13_fresh : ByteArray := prog_15_method_32_code
def yX13_fresh : MethodName := ⟨RX13, "fresh", "([JI)J"⟩
abbrev cX13_known : ByteArray := prog_15_method_33_code
def yX13_known : MethodName := ⟨RX13, "known", "([JI)I"⟩
abbrev cX13_semicolon : ByteArray := prog_15_method_34_code
def yX13_semicolon : MethodName := ⟨RX13, "semicolon", "()V"⟩
abbrev cX13_singleHere : ByteArray := prog_15_method_35_code
def yX13_singleHere : MethodName := ⟨RX13, "singleHere", "()I"⟩
abbrev cX13_manyHere : ByteArray := prog_15_method_36_code
def yX13_manyHere : MethodName := ⟨RX13, "manyHere", "()I"⟩
abbrev cX13_mostOf : ByteArray := prog_15_method_37_code
def yX13_mostOf : MethodName := ⟨RX13, "mostOf", "(I)I"⟩
abbrev cX13_skipsWord : ByteArray := prog_15_method_38_code
def yX13_skipsWord : MethodName := ⟨RX13, "skipsWord", "()V"⟩
abbrev cX13_single : ByteArray := prog_15_method_39_code
def yX13_single : MethodName := ⟨RX13, "single", "(I)V"⟩
abbrev cX13_part : ByteArray := prog_15_method_40_code
def yX13_part : MethodName := ⟨RX13, "part", "(ILjava/lang/String;II)V"⟩
abbrev cX13_doughStatement : ByteArray := prog_15_method_41_code
def yX13_doughStatement : MethodName := ⟨RX13, "doughStatement", "()V"⟩
abbrev cX13_ovenStatement : ByteArray := prog_15_method_42_code
def yX13_ovenStatement : MethodName := ⟨RX13, "ovenStatement", "()V"⟩
abbrev cX13_place : ByteArray := prog_15_method_43_code
def yX13_place : MethodName := ⟨RX13, "place", "()I"⟩
abbrev cX13_streetStatement : ByteArray := prog_15_method_44_code
def yX13_streetStatement : MethodName := ⟨RX13, "streetStatement", "()V"⟩
abbrev cX13_orderStatement : ByteArray := prog_15_method_45_code
def yX13_orderStatement : MethodName := ⟨RX13, "orderStatement", "()V"⟩
abbrev cX13_many : ByteArray := prog_15_method_46_code
def yX13_many : MethodName := ⟨RX13, "many", "(I)V"⟩
abbrev cX13_statement : ByteArray := prog_15_method_47_code
def yX13_statement : MethodName := ⟨RX13, "statement", "()V"⟩
abbrev cX13_parseBakery : ByteArray := prog_15_method_48_code
def yX13_parseBakery : MethodName := ⟨RX13, "parseBakery", "()I"⟩
abbrev cX13_errorCode : ByteArray := prog_15_method_49_code
def yX13_errorCode : MethodName := ⟨RX13, "errorCode", "()I"⟩
abbrev cX13_errorOffset : ByteArray := prog_15_method_50_code
def yX13_errorOffset : MethodName := ⟨RX13, "errorOffset", "()I"⟩
abbrev cX13_loavesOf : ByteArray := prog_15_method_51_code
def yX13_loavesOf : MethodName := ⟨RX13, "loavesOf", "([II)I"⟩
abbrev cX13_batchesOf : ByteArray := prog_15_method_52_code
def yX13_batchesOf : MethodName := ⟨RX13, "batchesOf", "([II)I"⟩
abbrev cX13_allBatches : ByteArray := prog_15_method_53_code
def yX13_allBatches : MethodName := ⟨RX13, "allBatches", "([I)I"⟩
abbrev cX13_dueOf : ByteArray := prog_15_method_54_code
def yX13_dueOf : MethodName := ⟨RX13, "dueOf", "([II)I"⟩
abbrev cX13_findsBatches : ByteArray := prog_15_method_55_code
def yX13_findsBatches : MethodName := ⟨RX13, "findsBatches", "([I)V"⟩
abbrev cX13_isDough : ByteArray := prog_15_method_56_code
def yX13_isDough : MethodName := ⟨RX13, "isDough", "(I)Z"⟩
abbrev cX13_isOven : ByteArray := prog_15_method_57_code
def yX13_isOven : MethodName := ⟨RX13, "isOven", "(I)Z"⟩
abbrev cX13_isShop : ByteArray := prog_15_method_58_code
def yX13_isShop : MethodName := ⟨RX13, "isShop", "(I)Z"⟩
abbrev cX13_orderCount : ByteArray := prog_15_method_59_code
def yX13_orderCount : MethodName := ⟨RX13, "orderCount", "()I"⟩
abbrev cX13_orderedLoaves : ByteArray := prog_15_method_60_code
def yX13_orderedLoaves : MethodName := ⟨RX13, "orderedLoaves", "(I)I"⟩
abbrev cX13_batchCount : ByteArray := prog_15_method_61_code
def yX13_batchCount : MethodName := ⟨RX13, "batchCount", "()I"⟩
abbrev cX13_slowed : ByteArray := prog_15_method_62_code
def yX13_slowed : MethodName := ⟨RX13, "slowed", "([II)I"⟩
abbrev cX13_risingMinutes : ByteArray := prog_15_method_63_code
def yX13_risingMinutes : MethodName := ⟨RX13, "risingMinutes", "(IZ)I"⟩
abbrev cX13_stageOf : ByteArray := prog_15_method_64_code
def yX13_stageOf : MethodName := ⟨RX13, "stageOf", "(II)I"⟩
abbrev cX13_reaches : ByteArray := prog_15_method_65_code
def yX13_reaches : MethodName := ⟨RX13, "reaches", "(II)V"⟩
abbrev cX13_clears : ByteArray := prog_15_method_66_code
def yX13_clears : MethodName := ⟨RX13, "clears", "([I)V"⟩
abbrev cX13_stateMany : ByteArray := prog_15_method_67_code
def yX13_stateMany : MethodName := ⟨RX13, "stateMany", "(I)I"⟩
abbrev cX13_goesOn : ByteArray := prog_15_method_68_code
def yX13_goesOn : MethodName := ⟨RX13, "goesOn", "([II)V"⟩
abbrev cX13_endsAll : ByteArray := prog_15_method_69_code
def yX13_endsAll : MethodName := ⟨RX13, "endsAll", "([I)V"⟩
abbrev cX13_spoils : ByteArray := prog_15_method_70_code
def yX13_spoils : MethodName := ⟨RX13, "spoils", "([I)V"⟩
abbrev cX13_onShelves : ByteArray := prog_15_method_71_code
def yX13_onShelves : MethodName := ⟨RX13, "onShelves", "(I)I"⟩
abbrev cX13_isUsable : ByteArray := prog_15_method_72_code
def yX13_isUsable : MethodName := ⟨RX13, "isUsable", "([II)Z"⟩
abbrev cX13_ovenFor : ByteArray := prog_15_method_73_code
def yX13_ovenFor : MethodName := ⟨RX13, "ovenFor", "([II)I"⟩
abbrev cX13_isOneChanging : ByteArray := prog_15_method_74_code
def yX13_isOneChanging : MethodName := ⟨RX13, "isOneChanging", "([II)Z"⟩
abbrev cX13_changeMinutes : ByteArray := prog_15_method_75_code
def yX13_changeMinutes : MethodName := ⟨RX13, "changeMinutes", "([III)I"⟩
abbrev cX13_heats : ByteArray := prog_15_method_76_code
def yX13_heats : MethodName := ⟨RX13, "heats", "([II)V"⟩
abbrev cX13_bakes : ByteArray := prog_15_method_77_code
def yX13_bakes : MethodName := ⟨RX13, "bakes", "([I)V"⟩
abbrev cX13_shapes : ByteArray := prog_15_method_78_code
def yX13_shapes : MethodName := ⟨RX13, "shapes", "([I)V"⟩
abbrev cX13_mixes : ByteArray := prog_15_method_79_code
def yX13_mixes : MethodName := ⟨RX13, "mixes", "([I)V"⟩
abbrev cX13_simulates : ByteArray := prog_15_method_80_code
def yX13_simulates : MethodName := ⟨RX13, "simulates", "([I)V"⟩
abbrev cX13_simulate : ByteArray := prog_15_method_81_code
def yX13_simulate : MethodName := ⟨RX13, "simulate", "(I)I"⟩
abbrev cX13_isNight : ByteArray := prog_15_method_82_code
def yX13_isNight : MethodName := ⟨RX13, "isNight", "()Z"⟩
abbrev cX13_isBatch : ByteArray := prog_15_method_83_code
def yX13_isBatch : MethodName := ⟨RX13, "isBatch", "(I)Z"⟩
abbrev cX13_batchDough : ByteArray := prog_15_method_84_code
def yX13_batchDough : MethodName := ⟨RX13, "batchDough", "(I)I"⟩
abbrev cX13_stageMinute : ByteArray := prog_15_method_85_code
def yX13_stageMinute : MethodName := ⟨RX13, "stageMinute", "(II)I"⟩
abbrev cX13_ovenOf : ByteArray := prog_15_method_86_code
def yX13_ovenOf : MethodName := ⟨RX13, "ovenOf", "(I)I"⟩
abbrev cX13_spoiledCount : ByteArray := prog_15_method_87_code
def yX13_spoiledCount : MethodName := ⟨RX13, "spoiledCount", "()I"⟩
abbrev cX13_changingMinutes : ByteArray := prog_15_method_88_code
def yX13_changingMinutes : MethodName := ⟨RX13, "changingMinutes", "(I)I"⟩
abbrev cX13_bakingMinutes : ByteArray := prog_15_method_89_code
def yX13_bakingMinutes : MethodName := ⟨RX13, "bakingMinutes", "(I)I"⟩
abbrev cX13_waitingMinutes : ByteArray := prog_15_method_90_code
def yX13_waitingMinutes : MethodName := ⟨RX13, "waitingMinutes", "(I)I"⟩
abbrev cX13_uses : ByteArray := prog_15_method_91_code
def yX13_uses : MethodName := ⟨RX13, "uses", "(III)Z"⟩
abbrev cX13_inUse : ByteArray := prog_15_method_92_code
def yX13_inUse : MethodName := ⟨RX13, "inUse", "(II)I"⟩
abbrev cX13_shelvesUsed : ByteArray := prog_15_method_93_code
def yX13_shelvesUsed : MethodName := ⟨RX13, "shelvesUsed", "(II)I"⟩
abbrev cX13_busy : ByteArray := prog_15_method_94_code
def yX13_busy : MethodName := ⟨RX13, "busy", "(II)I"⟩
abbrev cX13_busiestMinute : ByteArray := prog_15_method_95_code
def yX13_busiestMinute : MethodName := ⟨RX13, "busiestMinute", "(I)I"⟩
abbrev cX13_bakedLoaves : ByteArray := prog_15_method_96_code
def yX13_bakedLoaves : MethodName := ⟨RX13, "bakedLoaves", "([II)I"⟩
abbrev cX13_isBefore : ByteArray := prog_15_method_97_code
def yX13_isBefore : MethodName := ⟨RX13, "isBefore", "([III)Z"⟩
abbrev cX13_givenAhead : ByteArray := prog_15_method_98_code
def yX13_givenAhead : MethodName := ⟨RX13, "givenAhead", "([II)I"⟩
abbrev cX13_outAt : ByteArray := prog_15_method_99_code
def yX13_outAt : MethodName := ⟨RX13, "outAt", "([III)I"⟩
abbrev cX13_isReady : ByteArray := prog_15_method_100_code
def yX13_isReady : MethodName := ⟨RX13, "isReady", "([II)Z"⟩
abbrev cX13_readyAt : ByteArray := prog_15_method_101_code
def yX13_readyAt : MethodName := ⟨RX13, "readyAt", "([II)I"⟩
abbrev cX13_readyMinute : ByteArray := prog_15_method_102_code
def yX13_readyMinute : MethodName := ⟨RX13, "readyMinute", "(I)I"⟩
abbrev cX13_surplusLoaves : ByteArray := prog_15_method_103_code
def yX13_surplusLoaves : MethodName := ⟨RX13, "surplusLoaves", "(I)I"⟩
abbrev cX13_valueOf : ByteArray := prog_15_method_104_code
def yX13_valueOf : MethodName := ⟨RX13, "valueOf", "(II)I"⟩
abbrev cX13_surplusValue : ByteArray := prog_15_method_105_code
def yX13_surplusValue : MethodName := ⟨RX13, "surplusValue", "(I)I"⟩
abbrev cX13_findsWays : ByteArray := prog_15_method_106_code
def yX13_findsWays : MethodName := ⟨RX13, "findsWays", "([I)V"⟩
abbrev cX13_distance : ByteArray := prog_15_method_107_code
def yX13_distance : MethodName := ⟨RX13, "distance", "(II)I"⟩
abbrev cX13_findsRoutes : ByteArray := prog_15_method_108_code
def yX13_findsRoutes : MethodName := ⟨RX13, "findsRoutes", "([I)V"⟩
abbrev cX13_routes : ByteArray := prog_15_method_109_code
def yX13_routes : MethodName := ⟨RX13, "routes", "([II)V"⟩
abbrev cX13_routeMinutes : ByteArray := prog_15_method_110_code
def yX13_routeMinutes : MethodName := ⟨RX13, "routeMinutes", "(I)I"⟩
abbrev cX13_routeStop : ByteArray := prog_15_method_111_code
def yX13_routeStop : MethodName := ⟨RX13, "routeStop", "(II)I"⟩
abbrev cX13_findsShops : ByteArray := prog_15_method_112_code
def yX13_findsShops : MethodName := ⟨RX13, "findsShops", "([I)V"⟩
abbrev cX13_loadOf : ByteArray := prog_15_method_113_code
def yX13_loadOf : MethodName := ⟨RX13, "loadOf", "(I)I"⟩
abbrev cX13_carries : ByteArray := prog_15_method_114_code
def yX13_carries : MethodName := ⟨RX13, "carries", "([II)Z"⟩
abbrev cX13_leaves : ByteArray := prog_15_method_115_code
def yX13_leaves : MethodName := ⟨RX13, "leaves", "(I)I"⟩
abbrev cX13_drives : ByteArray := prog_15_method_116_code
def yX13_drives : MethodName := ⟨RX13, "drives", "([I)I"⟩
abbrev cX13_firstAssignment : ByteArray := prog_15_method_117_code
def yX13_firstAssignment : MethodName := ⟨RX13, "firstAssignment", "([I)V"⟩
abbrev cX13_nextAssignment : ByteArray := prog_15_method_118_code
def yX13_nextAssignment : MethodName := ⟨RX13, "nextAssignment", "([I)Z"⟩
abbrev cX13_lateShops : ByteArray := prog_15_method_119_code
def yX13_lateShops : MethodName := ⟨RX13, "lateShops", "(I)I"⟩
abbrev cX13_plans : ByteArray := prog_15_method_120_code
def yX13_plans : MethodName := ⟨RX13, "plans", "([II)Z"⟩
abbrev cX13_takesBest : ByteArray := prog_15_method_121_code
def yX13_takesBest : MethodName := ⟨RX13, "takesBest", "()V"⟩
abbrev cX13_hasPlan : ByteArray := prog_15_method_122_code
def yX13_hasPlan : MethodName := ⟨RX13, "hasPlan", "()Z"⟩
abbrev cX13_bits : ByteArray := prog_15_method_123_code
def yX13_bits : MethodName := ⟨RX13, "bits", "(I)I"⟩
abbrev cX13_failedShops : ByteArray := prog_15_method_124_code
def yX13_failedShops : MethodName := ⟨RX13, "failedShops", "()I"⟩
abbrev cX13_vanOf : ByteArray := prog_15_method_125_code
def yX13_vanOf : MethodName := ⟨RX13, "vanOf", "(I)I"⟩
abbrev cX13_arrivalMinute : ByteArray := prog_15_method_126_code
def yX13_arrivalMinute : MethodName := ⟨RX13, "arrivalMinute", "(I)I"⟩
abbrev cX13_departureMinute : ByteArray := prog_15_method_127_code
def yX13_departureMinute : MethodName := ⟨RX13, "departureMinute", "(I)I"⟩
abbrev cX13_staleOrders : ByteArray := prog_15_method_128_code
def yX13_staleOrders : MethodName := ⟨RX13, "staleOrders", "()I"⟩
abbrev cX13_slack : ByteArray := prog_15_method_129_code
def yX13_slack : MethodName := ⟨RX13, "slack", "()I"⟩
abbrev cX13_latest : ByteArray := prog_15_method_130_code
def yX13_latest : MethodName := ⟨RX13, "latest", "([I)I"⟩
abbrev cX13_isMuch : ByteArray := prog_15_method_131_code
def yX13_isMuch : MethodName := ⟨RX13, "isMuch", "()Z"⟩
abbrev cX13_latestStart : ByteArray := prog_15_method_132_code
def yX13_latestStart : MethodName := ⟨RX13, "latestStart", "()I"⟩
abbrev cX13_latestStartWith : ByteArray := prog_15_method_133_code
def yX13_latestStartWith : MethodName := ⟨RX13, "latestStartWith", "(I)I"⟩
abbrev cX13_vitalStreet : ByteArray := prog_15_method_134_code
def yX13_vitalStreet : MethodName := ⟨RX13, "vitalStreet", "()I"⟩
abbrev cX13_records : ByteArray := prog_15_method_135_code
def yX13_records : MethodName := ⟨RX13, "records", "()V"⟩
abbrev cX13_sets : ByteArray := prog_15_method_136_code
def yX13_sets : MethodName := ⟨RX13, "sets", "(II)I"⟩
abbrev cX13_setRoom : ByteArray := prog_15_method_137_code
def yX13_setRoom : MethodName := ⟨RX13, "setRoom", "(I)I"⟩
abbrev cX13_breakOven : ByteArray := prog_15_method_138_code
def yX13_breakOven : MethodName := ⟨RX13, "breakOven", "(IZ)Z"⟩
abbrev cX13_closeStreet : ByteArray := prog_15_method_139_code
def yX13_closeStreet : MethodName := ⟨RX13, "closeStreet", "(IZ)Z"⟩
abbrev cX13_addOrder : ByteArray := prog_15_method_140_code
def yX13_addOrder : MethodName := ⟨RX13, "addOrder", "(IIII)I"⟩
abbrev cX13_isOrder : ByteArray := prog_15_method_141_code
def yX13_isOrder : MethodName := ⟨RX13, "isOrder", "(I)Z"⟩
abbrev cX13_cancelOrder : ByteArray := prog_15_method_142_code
def yX13_cancelOrder : MethodName := ⟨RX13, "cancelOrder", "(I)Z"⟩
abbrev cX13_moveOrder : ByteArray := prog_15_method_143_code
def yX13_moveOrder : MethodName := ⟨RX13, "moveOrder", "(II)I"⟩
abbrev cX13_undo : ByteArray := prog_15_method_144_code
def yX13_undo : MethodName := ⟨RX13, "undo", "()I"⟩
def RJx145de : String := "java/io/Serializable"
def TJx145de : u_T := fun k => match k with
  | _ => ("", "", "", false)
def tyJx145de : Nat → FieldType := fun k => match k with
  | _ => .int
abbrev wsJx145de0 : List Cond := u_ws RJx145de TJx145de 0
theorem nmJx145de : ∀ a, a < 0 → ∀ b, b < 0 → a ≠ b → (TJx145de a).2.1 ≠ (TJx145de b).2.1 := by decide +kernel
theorem tyJx145de_ok : ∀ k, k < 0 → parseFieldDescriptor (TJx145de k).2.2.1 = some (tyJx145de k) := by decide +kernel
def RJx9f9b0 : String := "java/lang/CharSequence"
def TJx9f9b0 : u_T := fun k => match k with
  | _ => ("", "", "", false)
def tyJx9f9b0 : Nat → FieldType := fun k => match k with
  | _ => .int
abbrev wsJx9f9b00 : List Cond := u_ws RJx9f9b0 TJx9f9b0 0
theorem nmJx9f9b0 : ∀ a, a < 0 → ∀ b, b < 0 → a ≠ b → (TJx9f9b0 a).2.1 ≠ (TJx9f9b0 b).2.1 := by decide +kernel
theorem tyJx9f9b0_ok : ∀ k, k < 0 → parseFieldDescriptor (TJx9f9b0 k).2.2.1 = some (tyJx9f9b0 k) := by decide +kernel
def RJxb160c : String := "java/lang/Comparable"
def TJxb160c : u_T := fun k => match k with
  | _ => ("", "", "", false)
def tyJxb160c : Nat → FieldType := fun k => match k with
  | _ => .int
abbrev wsJxb160c0 : List Cond := u_ws RJxb160c TJxb160c 0
theorem nmJxb160c : ∀ a, a < 0 → ∀ b, b < 0 → a ≠ b → (TJxb160c a).2.1 ≠ (TJxb160c b).2.1 := by decide +kernel
theorem tyJxb160c_ok : ∀ k, k < 0 → parseFieldDescriptor (TJxb160c k).2.2.1 = some (tyJxb160c k) := by decide +kernel
def RJx29ce0 : String := "java/lang/Enum"
def TJx29ce0 : u_T := fun k => match k with
  | _ => ("", "", "", false)
def tyJx29ce0 : Nat → FieldType := fun k => match k with
  | _ => .int
abbrev wsJx29ce00 : List Cond := u_ws RJx29ce0 TJx29ce0 0
theorem nmJx29ce0 : ∀ a, a < 0 → ∀ b, b < 0 → a ≠ b → (TJx29ce0 a).2.1 ≠ (TJx29ce0 b).2.1 := by decide +kernel
theorem tyJx29ce0_ok : ∀ k, k < 0 → parseFieldDescriptor (TJx29ce0 k).2.2.1 = some (tyJx29ce0 k) := by decide +kernel
abbrev cJx29ce0_ordinal_8abf5 : ByteArray := prog_16_method_2_code
def yJx29ce0_ordinal_8abf5 : MethodName := ⟨RJx29ce0, "ordinal", "()I"⟩
def RJ6 : String := "java/lang/Integer"
def TJ6 : u_T := fun k => match k with
  | _ => ("", "", "", false)
def tyJ6 : Nat → FieldType := fun k => match k with
  | _ => .int
abbrev wsJ60 : List Cond := u_ws RJ6 TJ6 0
theorem nmJ6 : ∀ a, a < 0 → ∀ b, b < 0 → a ≠ b → (TJ6 a).2.1 ≠ (TJ6 b).2.1 := by decide +kernel
theorem tyJ6_ok : ∀ k, k < 0 → parseFieldDescriptor (TJ6 k).2.2.1 = some (tyJ6 k) := by decide +kernel
abbrev cJ6_bitCount_0f7a4 : ByteArray := prog_20_method_49_code
def yJ6_bitCount_0f7a4 : MethodName := ⟨RJ6, "bitCount", "(I)I"⟩
def RJ9 : String := "java/lang/Math"
def TJ9 : u_T := fun k => match k with
  | _ => ("", "", "", false)
def tyJ9 : Nat → FieldType := fun k => match k with
  | _ => .int
abbrev wsJ90 : List Cond := u_ws RJ9 TJ9 0
theorem nmJ9 : ∀ a, a < 0 → ∀ b, b < 0 → a ≠ b → (TJ9 a).2.1 ≠ (TJ9 b).2.1 := by decide +kernel
theorem tyJ9_ok : ∀ k, k < 0 → parseFieldDescriptor (TJ9 k).2.2.1 = some (tyJ9 k) := by decide +kernel
abbrev cJ9_abs_0f7a4 : ByteArray := prog_21_method_59_code
def yJ9_abs_0f7a4 : MethodName := ⟨RJ9, "abs", "(I)I"⟩
abbrev cJ9_max_7cf53 : ByteArray := prog_21_method_65_code
def yJ9_max_7cf53 : MethodName := ⟨RJ9, "max", "(II)I"⟩
abbrev cJ9_min_7cf53 : ByteArray := prog_21_method_69_code
def yJ9_min_7cf53 : MethodName := ⟨RJ9, "min", "(II)I"⟩
def RJ0 : String := "java/lang/String"
def TJ0 : u_T := fun k => match k with
  | _ => ("", "", "", false)
def tyJ0 : Nat → FieldType := fun k => match k with
  | _ => .int
abbrev wsJ00 : List Cond := u_ws RJ0 TJ0 0
theorem nmJ0 : ∀ a, a < 0 → ∀ b, b < 0 → a ≠ b → (TJ0 a).2.1 ≠ (TJ0 b).2.1 := by decide +kernel
theorem tyJ0_ok : ∀ k, k < 0 → parseFieldDescriptor (TJ0 k).2.2.1 = some (tyJ0 k) := by decide +kernel
abbrev cJ0_length_8abf5 : ByteArray := prog_23_method_54_code
def yJ0_length_8abf5 : MethodName := ⟨RJ0, "length", "()I"⟩
abbrev cJ0_charAt_5068e : ByteArray := prog_23_method_56_code
def yJ0_charAt_5068e : MethodName := ⟨RJ0, "charAt", "(I)C"⟩
abbrev cJ0_coder_7d493 : ByteArray := prog_23_method_152_code
def yJ0_coder_7d493 : MethodName := ⟨RJ0, "coder", "()B"⟩
abbrev cJ0_isLatin1_aae02 : ByteArray := prog_23_method_154_code
def yJ0_isLatin1_aae02 : MethodName := ⟨RJ0, "isLatin1", "()Z"⟩
abbrev cJ0_checkIndex_df160 : ByteArray := prog_23_method_155_code
def yJ0_checkIndex_df160 : MethodName := ⟨RJ0, "checkIndex", "(II)V"⟩
def RJ1 : String := "java/lang/StringLatin1"
def TJ1 : u_T := fun k => match k with
  | _ => ("", "", "", false)
def tyJ1 : Nat → FieldType := fun k => match k with
  | _ => .int
abbrev wsJ10 : List Cond := u_ws RJ1 TJ1 0
theorem nmJ1 : ∀ a, a < 0 → ∀ b, b < 0 → a ≠ b → (TJ1 a).2.1 ≠ (TJ1 b).2.1 := by decide +kernel
theorem tyJ1_ok : ∀ k, k < 0 → parseFieldDescriptor (TJ1 k).2.2.1 = some (tyJ1 k) := by decide +kernel
abbrev cJ1_charAt_3b067 : ByteArray := prog_24_method_2_code
def yJ1_charAt_3b067 : MethodName := ⟨RJ1, "charAt", "([BI)C"⟩
def RJ2 : String := "java/lang/StringUTF16"
def TJ2 : u_T := fun k => match k with
  | _ => ("", "", "", false)
def tyJ2 : Nat → FieldType := fun k => match k with
  | _ => .int
abbrev wsJ20 : List Cond := u_ws RJ2 TJ2 0
theorem nmJ2 : ∀ a, a < 0 → ∀ b, b < 0 → a ≠ b → (TJ2 a).2.1 ≠ (TJ2 b).2.1 := by decide +kernel
theorem tyJ2_ok : ∀ k, k < 0 → parseFieldDescriptor (TJ2 k).2.2.1 = some (tyJ2 k) := by decide +kernel
abbrev cJ2_getChar_3b067 : ByteArray := prog_25_method_5_code
def yJ2_getChar_3b067 : MethodName := ⟨RJ2, "getChar", "([BI)C"⟩
abbrev cJ2_length_9d52b : ByteArray := prog_25_method_6_code
def yJ2_length_9d52b : MethodName := ⟨RJ2, "length", "([B)I"⟩
abbrev cJ2_charAt_3b067 : ByteArray := prog_25_method_83_code
def yJ2_charAt_3b067 : MethodName := ⟨RJ2, "charAt", "([BI)C"⟩
abbrev cJ2_checkIndex_2214a : ByteArray := prog_25_method_91_code
def yJ2_checkIndex_2214a : MethodName := ⟨RJ2, "checkIndex", "(I[B)V"⟩
def RJ10 : String := "java/lang/System"
def TJ10 : u_T := fun k => match k with
  | _ => ("", "", "", false)
def tyJ10 : Nat → FieldType := fun k => match k with
  | _ => .int
abbrev wsJ100 : List Cond := u_ws RJ10 TJ10 0
theorem nmJ10 : ∀ a, a < 0 → ∀ b, b < 0 → a ≠ b → (TJ10 a).2.1 ≠ (TJ10 b).2.1 := by decide +kernel
theorem tyJ10_ok : ∀ k, k < 0 → parseFieldDescriptor (TJ10 k).2.2.1 = some (tyJ10 k) := by decide +kernel
def RJxfd54e : String := "java/lang/constant/Constable"
def TJxfd54e : u_T := fun k => match k with
  | _ => ("", "", "", false)
def tyJxfd54e : Nat → FieldType := fun k => match k with
  | _ => .int
abbrev wsJxfd54e0 : List Cond := u_ws RJxfd54e TJxfd54e 0
theorem nmJxfd54e : ∀ a, a < 0 → ∀ b, b < 0 → a ≠ b → (TJxfd54e a).2.1 ≠ (TJxfd54e b).2.1 := by decide +kernel
theorem tyJxfd54e_ok : ∀ k, k < 0 → parseFieldDescriptor (TJxfd54e k).2.2.1 = some (tyJxfd54e k) := by decide +kernel
def RJx3cf43 : String := "java/lang/constant/ConstantDesc"
def TJx3cf43 : u_T := fun k => match k with
  | _ => ("", "", "", false)
def tyJx3cf43 : Nat → FieldType := fun k => match k with
  | _ => .int
abbrev wsJx3cf430 : List Cond := u_ws RJx3cf43 TJx3cf43 0
theorem nmJx3cf43 : ∀ a, a < 0 → ∀ b, b < 0 → a ≠ b → (TJx3cf43 a).2.1 ≠ (TJx3cf43 b).2.1 := by decide +kernel
theorem tyJx3cf43_ok : ∀ k, k < 0 → parseFieldDescriptor (TJx3cf43 k).2.2.1 = some (tyJx3cf43 k) := by decide +kernel
def RJ7 : String := "java/util/Arrays"
def TJ7 : u_T := fun k => match k with
  | _ => ("", "", "", false)
def tyJ7 : Nat → FieldType := fun k => match k with
  | _ => .int
abbrev wsJ70 : List Cond := u_ws RJ7 TJ7 0
theorem nmJ7 : ∀ a, a < 0 → ∀ b, b < 0 → a ≠ b → (TJ7 a).2.1 ≠ (TJ7 b).2.1 := by decide +kernel
theorem tyJ7_ok : ∀ k, k < 0 → parseFieldDescriptor (TJ7 k).2.2.1 = some (tyJ7 k) := by decide +kernel
abbrev cJ7_fill_53178 : ByteArray := prog_28_method_103_code
def yJ7_fill_53178 : MethodName := ⟨RJ7, "fill", "([II)V"⟩
def RJ3 : String := "jdk/internal/util/Preconditions"
def TJ3 : u_T := fun k => match k with
  | _ => ("", "", "", false)
def tyJ3 : Nat → FieldType := fun k => match k with
  | _ => .int
abbrev wsJ30 : List Cond := u_ws RJ3 TJ3 0
theorem nmJ3 : ∀ a, a < 0 → ∀ b, b < 0 → a ≠ b → (TJ3 a).2.1 ≠ (TJ3 b).2.1 := by decide +kernel
theorem tyJ3_ok : ∀ k, k < 0 → parseFieldDescriptor (TJ3 k).2.2.1 = some (tyJ3 k) := by decide +kernel
abbrev cJ3_checkIndex_8e157 : ByteArray := prog_29_method_11_code
def yJ3_checkIndex_8e157 : MethodName := ⟨RJ3, "checkIndex", "(IILjava/util/function/BiFunction;)I"⟩
def RL : String := "BakeryNightLaw"
abbrev cL_batchDough : ByteArray := method_3_code
def yL_batchDough : MethodName := ⟨RL, "batchDough", "(LBakeryNight;I[J)I"⟩
abbrev cL_stageMinute : ByteArray := method_4_code
def yL_stageMinute : MethodName := ⟨RL, "stageMinute", "(LBakeryNight;II[J)I"⟩
abbrev cL_ovenOf : ByteArray := method_5_code
def yL_ovenOf : MethodName := ⟨RL, "ovenOf", "(LBakeryNight;I[J)I"⟩
abbrev cL_law : ByteArray := code
def yL_law : MethodName := ⟨RL, "law", "([I)Z"⟩
abbrev vwCl : List vw_C := [(RX1, TX1, 14), (RX2, TX2, 10), (RX3, TX3, 4), (RX4, TX4, 20), (RX5, TX5, 5), (RX6, TX6, 4), (RX7, TX7, 9), (RX8, TX8, 15), (RX9, TX9, 7), (RX10, TX10, 5), (RX12, TX12, 12), (RX13, TX13, 55)]
