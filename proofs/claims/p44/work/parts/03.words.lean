theorem wd0 : Cond.selects "BakeryNight$Roads" (⟨"BakeryNight$Roads", "joinStreets", "()V"⟩ : MethodName) ⟨"BakeryNight$Roads", "joinStreets", "()V"⟩ ∈ GW := gwp0 0 (by decide +kernel) rfl
theorem wd1 : Cond.selects "BakeryNight$Roads" (⟨"BakeryNight$Roads", "measureRoutes", "(I)V"⟩ : MethodName) ⟨"BakeryNight$Roads", "measureRoutes", "(I)V"⟩ ∈ GW := gwp0 1 (by decide +kernel) rfl
theorem wd2 : Cond.selects "BakeryNight$Roads" (⟨"BakeryNight$Roads", "by", "(III)I"⟩ : MethodName) ⟨"BakeryNight$Roads", "by", "(III)I"⟩ ∈ GW := gwp0 2 (by decide +kernel) rfl
theorem wd3 : Cond.selects "BakeryNight$Night" (⟨"BakeryNight$Night", "begin", "(LBakeryNight$Bakery;I)V"⟩ : MethodName) ⟨"BakeryNight$Night", "begin", "(LBakeryNight$Bakery;I)V"⟩ ∈ GW := gwp0 3 (by decide +kernel) rfl
theorem wd4 : Cond.selects "BakeryNight$Night" (⟨"BakeryNight$Night", "numberBatches", "(LBakeryNight$Bakery;)V"⟩ : MethodName) ⟨"BakeryNight$Night", "numberBatches", "(LBakeryNight$Bakery;)V"⟩ ∈ GW := gwp0 4 (by decide +kernel) rfl
theorem wd5 : Cond.selects "BakeryNight$Night" (⟨"BakeryNight$Night", "noteWhatEnded", "(LBakeryNight$Bakery;I)V"⟩ : MethodName) ⟨"BakeryNight$Night", "noteWhatEnded", "(LBakeryNight$Bakery;I)V"⟩ ∈ GW := gwp0 5 (by decide +kernel) rfl
theorem wd6 : Cond.selects "BakeryNight$Night" (⟨"BakeryNight$Night", "isIn", "(III)Z"⟩ : MethodName) ⟨"BakeryNight$Night", "isIn", "(III)Z"⟩ ∈ GW := gwp0 6 (by decide +kernel) rfl
theorem wd7 : Cond.selects "BakeryNight$Night" (⟨"BakeryNight$Night", "spoilWaiting", "(LBakeryNight$Bakery;I)V"⟩ : MethodName) ⟨"BakeryNight$Night", "spoilWaiting", "(LBakeryNight$Bakery;I)V"⟩ ∈ GW := gwp0 7 (by decide +kernel) rfl
theorem wd8 : Cond.selects "BakeryNight$Night" (⟨"BakeryNight$Night", "bakeWaiting", "(LBakeryNight$Bakery;I)V"⟩ : MethodName) ⟨"BakeryNight$Night", "bakeWaiting", "(LBakeryNight$Bakery;I)V"⟩ ∈ GW := gwp0 8 (by decide +kernel) rfl
theorem wd9 : Cond.selects "BakeryNight$Night" (⟨"BakeryNight$Night", "freeOven", "(LBakeryNight$Bakery;II)I"⟩ : MethodName) ⟨"BakeryNight$Night", "freeOven", "(LBakeryNight$Bakery;II)I"⟩ ∈ GW := gwp0 9 (by decide +kernel) rfl
theorem wd10 : Cond.selects "BakeryNight$Night" (⟨"BakeryNight$Night", "changeAnOven", "(LBakeryNight$Bakery;II)V"⟩ : MethodName) ⟨"BakeryNight$Night", "changeAnOven", "(LBakeryNight$Bakery;II)V"⟩ ∈ GW := gwp0 10 (by decide +kernel) rfl
theorem wd11 : Cond.selects "BakeryNight$Night" (⟨"BakeryNight$Night", "shapeWaiting", "(LBakeryNight$Bakery;I)V"⟩ : MethodName) ⟨"BakeryNight$Night", "shapeWaiting", "(LBakeryNight$Bakery;I)V"⟩ ∈ GW := gwp0 11 (by decide +kernel) rfl
theorem wd12 : Cond.selects "BakeryNight$Night" (⟨"BakeryNight$Night", "mixNext", "(LBakeryNight$Bakery;I)V"⟩ : MethodName) ⟨"BakeryNight$Night", "mixNext", "(LBakeryNight$Bakery;I)V"⟩ ∈ GW := gwp0 12 (by decide +kernel) rfl
theorem wd13 : Cond.selects "BakeryNight$Night" (⟨"BakeryNight$Night", "nextMinute", "(LBakeryNight$Bakery;I)I"⟩ : MethodName) ⟨"BakeryNight$Night", "nextMinute", "(LBakeryNight$Bakery;I)I"⟩ ∈ GW := gwp0 13 (by decide +kernel) rfl
theorem wd14 : Cond.selects "BakeryNight$Night" (⟨"BakeryNight$Night", "giveLoaves", "(LBakeryNight$Bakery;)V"⟩ : MethodName) ⟨"BakeryNight$Night", "giveLoaves", "(LBakeryNight$Bakery;)V"⟩ ∈ GW := gwp0 14 (by decide +kernel) rfl
theorem wd15 : Cond.selects "BakeryNight$Bakery" (⟨"BakeryNight$Bakery", "comesBefore", "(II)Z"⟩ : MethodName) ⟨"BakeryNight$Bakery", "comesBefore", "(II)Z"⟩ ∈ GW := gwp0 15 (by decide +kernel) rfl
theorem wd16 : Cond.selects "BakeryNight$Night" (⟨"BakeryNight$Night", "takenOut", "(LBakeryNight$Bakery;II)I"⟩ : MethodName) ⟨"BakeryNight$Night", "takenOut", "(LBakeryNight$Bakery;II)I"⟩ ∈ GW := gwp1 0 (by decide +kernel) rfl
theorem wd17 : Cond.selects "BakeryNight" (⟨"BakeryNight", "bestPlan", "()LBakeryNight$Plan;"⟩ : MethodName) ⟨"BakeryNight", "bestPlan", "()LBakeryNight$Plan;"⟩ ∈ GW := gwp1 1 (by decide +kernel) rfl
theorem wd18 : Cond.selects "BakeryNight$Plan" (⟨"BakeryNight$Plan", "measureSets", "(LBakeryNight$Bakery;)V"⟩ : MethodName) ⟨"BakeryNight$Plan", "measureSets", "(LBakeryNight$Bakery;)V"⟩ ∈ GW := gwp1 2 (by decide +kernel) rfl
theorem wd19 : Cond.selects "BakeryNight$Plan" (⟨"BakeryNight$Plan", "drive", "(LBakeryNight$Roads;I)V"⟩ : MethodName) ⟨"BakeryNight$Plan", "drive", "(LBakeryNight$Roads;I)V"⟩ ∈ GW := gwp1 3 (by decide +kernel) rfl
theorem wd20 : Cond.selects "BakeryNight$Plan" (⟨"BakeryNight$Plan", "departureFor", "(I)I"⟩ : MethodName) ⟨"BakeryNight$Plan", "departureFor", "(I)I"⟩ ∈ GW := gwp1 4 (by decide +kernel) rfl
theorem wd21 : Cond.selects "BakeryNight$Plan" (⟨"BakeryNight$Plan", "firstWay", "(LBakeryNight$Bakery;)I"⟩ : MethodName) ⟨"BakeryNight$Plan", "firstWay", "(LBakeryNight$Bakery;)I"⟩ ∈ GW := gwp1 5 (by decide +kernel) rfl
theorem wd22 : Cond.selects "BakeryNight$Plan" (⟨"BakeryNight$Plan", "canCarry", "(LBakeryNight$Bakery;)Z"⟩ : MethodName) ⟨"BakeryNight$Plan", "canCarry", "(LBakeryNight$Bakery;)Z"⟩ ∈ GW := gwp1 6 (by decide +kernel) rfl
theorem wd23 : Cond.selects "BakeryNight$Plan" (⟨"BakeryNight$Plan", "nextWay", "(LBakeryNight$Bakery;)V"⟩ : MethodName) ⟨"BakeryNight$Plan", "nextWay", "(LBakeryNight$Bakery;)V"⟩ ∈ GW := gwp1 7 (by decide +kernel) rfl
theorem wd24 : Cond.selects "BakeryNight" (⟨"BakeryNight", "latestAsItIs", "()I"⟩ : MethodName) ⟨"BakeryNight", "latestAsItIs", "()I"⟩ ∈ GW := gwp1 8 (by decide +kernel) rfl
theorem wd25 : Cond.selects "BakeryNight" (⟨"BakeryNight", "dropNight", "()V"⟩ : MethodName) ⟨"BakeryNight", "dropNight", "()V"⟩ ∈ GW := gwp1 9 (by decide +kernel) rfl
theorem wd26 : Cond.selects "BakeryNight" (⟨"BakeryNight", "append", "(I)V"⟩ : MethodName) ⟨"BakeryNight", "append", "(I)V"⟩ ∈ GW := gwp1 10 (by decide +kernel) rfl
theorem wd27 : Cond.selects "BakeryNight$Parser" (⟨"BakeryNight$Parser", "readStatement", "(LBakeryNight$Bakery;)V"⟩ : MethodName) ⟨"BakeryNight$Parser", "readStatement", "(LBakeryNight$Bakery;)V"⟩ ∈ GW := gwp1 11 (by decide +kernel) rfl
theorem wd28 : Cond.selects "BakeryNight$Parser" (⟨"BakeryNight$Parser", "fail", "(I)V"⟩ : MethodName) ⟨"BakeryNight$Parser", "fail", "(I)V"⟩ ∈ GW := gwp1 12 (by decide +kernel) rfl
theorem wd29 : Cond.selects "BakeryNight$Parser" (⟨"BakeryNight$Parser", "readSetting", "(ZII)I"⟩ : MethodName) ⟨"BakeryNight$Parser", "readSetting", "(ZII)I"⟩ ∈ GW := gwp1 13 (by decide +kernel) rfl
theorem wd30 : Cond.selects "BakeryNight$Parser" (⟨"BakeryNight$Parser", "readNumber", "(II)I"⟩ : MethodName) ⟨"BakeryNight$Parser", "readNumber", "(II)I"⟩ ∈ GW := gwp1 14 (by decide +kernel) rfl
theorem wd31 : Cond.selects "BakeryNight$Parser" (⟨"BakeryNight$Parser", "failed", "()Z"⟩ : MethodName) ⟨"BakeryNight$Parser", "failed", "()Z"⟩ ∈ GW := gwp1 15 (by decide +kernel) rfl
theorem wd32 : Cond.selects "BakeryNight$Parser" (⟨"BakeryNight$Parser", "readDough", "(LBakeryNight$Bakery;)V"⟩ : MethodName) ⟨"BakeryNight$Parser", "readDough", "(LBakeryNight$Bakery;)V"⟩ ∈ GW := gwp2 0 (by decide +kernel) rfl
theorem wd33 : Cond.selects "BakeryNight$Parser" (⟨"BakeryNight$Parser", "beginOneOf", "(II)V"⟩ : MethodName) ⟨"BakeryNight$Parser", "beginOneOf", "(II)V"⟩ ∈ GW := gwp2 1 (by decide +kernel) rfl
theorem wd34 : Cond.selects "BakeryNight$Parser" (⟨"BakeryNight$Parser", "readNewName", "([JI)V"⟩ : MethodName) ⟨"BakeryNight$Parser", "readNewName", "([JI)V"⟩ ∈ GW := gwp2 2 (by decide +kernel) rfl
theorem wd35 : Cond.selects "BakeryNight$Parser" (⟨"BakeryNight$Parser", "indexOfName", "([JI)I"⟩ : MethodName) ⟨"BakeryNight$Parser", "indexOfName", "([JI)I"⟩ ∈ GW := gwp2 3 (by decide +kernel) rfl
theorem wd36 : Cond.selects "BakeryNight$Parser" (⟨"BakeryNight$Parser", "readField", "(LBakeryNight$Word;II)I"⟩ : MethodName) ⟨"BakeryNight$Parser", "readField", "(LBakeryNight$Word;II)I"⟩ ∈ GW := gwp2 4 (by decide +kernel) rfl
theorem wd37 : Cond.selects "BakeryNight$Parser" (⟨"BakeryNight$Parser", "readOven", "(LBakeryNight$Bakery;)V"⟩ : MethodName) ⟨"BakeryNight$Parser", "readOven", "(LBakeryNight$Bakery;)V"⟩ ∈ GW := gwp2 5 (by decide +kernel) rfl
theorem wd38 : Cond.selects "BakeryNight$Parser" (⟨"BakeryNight$Parser", "readShop", "(LBakeryNight$Bakery;)V"⟩ : MethodName) ⟨"BakeryNight$Parser", "readShop", "(LBakeryNight$Bakery;)V"⟩ ∈ GW := gwp2 6 (by decide +kernel) rfl
theorem wd39 : Cond.selects "BakeryNight$Parser" (⟨"BakeryNight$Parser", "readStreet", "(LBakeryNight$Bakery;)V"⟩ : MethodName) ⟨"BakeryNight$Parser", "readStreet", "(LBakeryNight$Bakery;)V"⟩ ∈ GW := gwp2 7 (by decide +kernel) rfl
theorem wd40 : Cond.selects "BakeryNight$Parser" (⟨"BakeryNight$Parser", "readPlace", "(LBakeryNight$Bakery;I)I"⟩ : MethodName) ⟨"BakeryNight$Parser", "readPlace", "(LBakeryNight$Bakery;I)I"⟩ ∈ GW := gwp2 8 (by decide +kernel) rfl
theorem wd41 : Cond.selects "BakeryNight$Parser" (⟨"BakeryNight$Parser", "readVan", "(LBakeryNight$Bakery;)V"⟩ : MethodName) ⟨"BakeryNight$Parser", "readVan", "(LBakeryNight$Bakery;)V"⟩ ∈ GW := gwp2 9 (by decide +kernel) rfl
theorem wd42 : Cond.selects "BakeryNight$Parser" (⟨"BakeryNight$Parser", "readOrder", "(LBakeryNight$Bakery;)V"⟩ : MethodName) ⟨"BakeryNight$Parser", "readOrder", "(LBakeryNight$Bakery;)V"⟩ ∈ GW := gwp2 10 (by decide +kernel) rfl
theorem wd43 : Cond.selects "BakeryNight$Parser" (⟨"BakeryNight$Parser", "readKnownName", "([JI)I"⟩ : MethodName) ⟨"BakeryNight$Parser", "readKnownName", "([JI)I"⟩ ∈ GW := gwp2 11 (by decide +kernel) rfl
theorem wd44 : Cond.selects "BakeryNight$Parser" (⟨"BakeryNight$Parser", "readSemicolon", "()V"⟩ : MethodName) ⟨"BakeryNight$Parser", "readSemicolon", "()V"⟩ ∈ GW := gwp2 12 (by decide +kernel) rfl
theorem wd45 : Cond.selects "java/lang/Throwable" (⟨"java/lang/Throwable", "fillInStackTrace", "(I)Ljava/lang/Throwable;"⟩ : MethodName) ⟨"java/lang/Throwable", "fillInStackTrace", "(I)Ljava/lang/Throwable;"⟩ ∈ GW := gwp2 13 (by decide +kernel) rfl
theorem wd46 : Cond.selects "BakeryNight" (⟨"BakeryNight", "recordChange", "(III)V"⟩ : MethodName) ⟨"BakeryNight", "recordChange", "(III)V"⟩ ∈ GW := gwp2 14 (by decide +kernel) rfl
theorem wd47 : Cond.selects "BakeryNight$History" (⟨"BakeryNight$History", "dropOldest", "()V"⟩ : MethodName) ⟨"BakeryNight$History", "dropOldest", "()V"⟩ ∈ GW := gwp2 15 (by decide +kernel) rfl
theorem wd48 : Cond.initialized "BakeryNightLaw" ∈ GW := gwt0 0 (by decide +kernel) rfl
theorem wd49 : Cond.initialized "BakeryNight" ∈ GW := gwt0 1 (by decide +kernel) rfl
theorem wd50 : Cond.initialized "BakeryNight$Parser" ∈ GW := gwt0 2 (by decide +kernel) rfl
theorem wd51 : Cond.initialized "BakeryNight$Scanner" ∈ GW := gwt0 3 (by decide +kernel) rfl
theorem wd52 : Cond.initialized "BakeryNight$Bakery" ∈ GW := gwt0 4 (by decide +kernel) rfl
theorem wd53 : Cond.initialized "BakeryNight$Dough" ∈ GW := gwt0 5 (by decide +kernel) rfl
theorem wd54 : Cond.initialized "BakeryNight$Oven" ∈ GW := gwt0 6 (by decide +kernel) rfl
theorem wd55 : Cond.initialized "BakeryNight$Order" ∈ GW := gwt0 7 (by decide +kernel) rfl
theorem wd56 : Cond.initialized "BakeryNight$Roads" ∈ GW := gwt0 8 (by decide +kernel) rfl
theorem wd57 : Cond.initialized "java/util/Arrays" ∈ GW := gwt0 9 (by decide +kernel) rfl
theorem wd58 : Cond.initialized "java/lang/Math" ∈ GW := gwt0 10 (by decide +kernel) rfl
theorem wd59 : Cond.initialized "BakeryNight$History" ∈ GW := gwt0 11 (by decide +kernel) rfl
theorem wd60 : Cond.initialized "BakeryNight$Night" ∈ GW := gwt0 12 (by decide +kernel) rfl
theorem wd61 : Cond.initialized "BakeryNight$Plan" ∈ GW := gwt0 13 (by decide +kernel) rfl
theorem wd62 : Cond.initialized "java/lang/System" ∈ GW := gwt0 14 (by decide +kernel) rfl
theorem wd63 : Cond.initialized "java/lang/Number" ∈ GW := gwt0 15 (by decide +kernel) rfl
theorem wd64 : Cond.initialized "java/lang/Integer" ∈ GW := gwt0 16 (by decide +kernel) rfl
theorem wd65 : Cond.initialized "java/lang/AbstractStringBuilder" ∈ GW := gwt0 17 (by decide +kernel) rfl
theorem wd66 : Cond.initialized "java/lang/StringBuilder" ∈ GW := gwt0 18 (by decide +kernel) rfl
theorem wd67 : Cond.initialized "java/lang/String" ∈ GW := gwt0 19 (by decide +kernel) rfl
theorem wd68 : Cond.initialized "java/lang/StringUTF16" ∈ GW := gwt0 20 (by decide +kernel) rfl
theorem wd69 : Cond.initialized "jdk/internal/util/ArraysSupport" ∈ GW := gwt0 21 (by decide +kernel) rfl
theorem wd70 : Cond.initialized "jdk/internal/util/Preconditions" ∈ GW := gwt0 22 (by decide +kernel) rfl
theorem wd71 : Cond.initialized "java/lang/StringLatin1" ∈ GW := gwt0 23 (by decide +kernel) rfl
theorem wd72 : Cond.initialized "BakeryNight$1" ∈ GW := gwt0 24 (by decide +kernel) rfl
theorem wd73 : Cond.initialized "java/lang/Enum" ∈ GW := gwt0 25 (by decide +kernel) rfl
theorem wd74 : Cond.initialized "BakeryNight$Word" ∈ GW := gwt0 26 (by decide +kernel) rfl
theorem wd75 : Cond.initialized "java/lang/Throwable" ∈ GW := gwt0 27 (by decide +kernel) rfl
theorem wd76 : Cond.initialized "java/lang/Exception" ∈ GW := gwt0 28 (by decide +kernel) rfl
theorem wd77 : Cond.initialized "java/lang/RuntimeException" ∈ GW := gwt0 29 (by decide +kernel) rfl
theorem wd78 : Cond.initialized "java/lang/IllegalStateException" ∈ GW := gwt0 30 (by decide +kernel) rfl
theorem wd79 : Cond.initialized "java/lang/IndexOutOfBoundsException" ∈ GW := gwt0 31 (by decide +kernel) rfl
theorem wd80 : Cond.classLink "BakeryNightLaw" (21 : Nat) "BakeryNight" ∈ GW := gwt0 32 (by decide +kernel) rfl
theorem wd81 : Cond.instantiable "BakeryNight" (12 : Nat) ∈ GW := gwt0 33 (by decide +kernel) rfl
theorem wd82 : Cond.methodLink "BakeryNightLaw" (39 : Nat) ({ cls := "BakeryNight", name := "<init>", desc := "()V" } : Jvm.MethodName) ∈ GW := gwt0 34 (by decide +kernel) rfl
theorem wd83 : Cond.instanceMethod ({ cls := "BakeryNight", name := "<init>", desc := "()V" } : Jvm.MethodName) ∈ GW := gwt0 35 (by decide +kernel) rfl
theorem wd84 : Cond.code ({ cls := "BakeryNight", name := "<init>", desc := "()V" } : Jvm.MethodName) prog_1_method_1_code (1 : Nat) (Option.none : Option Jvm.ClassFile.FieldType) ∈ GW := gwt0 36 (by decide +kernel) rfl
theorem wd85 : Cond.methodLink "BakeryNight" (1 : Nat) ({ cls := "java/lang/Object", name := "<init>", desc := "()V" } : Jvm.MethodName) ∈ GW := gwt0 37 (by decide +kernel) rfl
theorem wd86 : Cond.instanceMethod ({ cls := "java/lang/Object", name := "<init>", desc := "()V" } : Jvm.MethodName) ∈ GW := gwt0 38 (by decide +kernel) rfl
theorem wd87 : Cond.code ({ cls := "java/lang/Object", name := "<init>", desc := "()V" } : Jvm.MethodName) object_method_1_code (1 : Nat) (Option.none : Option Jvm.ClassFile.FieldType) ∈ GW := gwt0 39 (by decide +kernel) rfl
theorem wd88 : Cond.classLink "BakeryNight" (13 : Nat) "BakeryNight$Parser" ∈ GW := gwt0 40 (by decide +kernel) rfl
theorem wd89 : Cond.instantiable "BakeryNight$Parser" (9 : Nat) ∈ GW := gwt0 41 (by decide +kernel) rfl
theorem wd90 : Cond.methodLink "BakeryNight" (15 : Nat) ({ cls := "BakeryNight$Parser", name := "<init>", desc := "()V" } : Jvm.MethodName) ∈ GW := gwt0 42 (by decide +kernel) rfl
theorem wd91 : Cond.instanceMethod ({ cls := "BakeryNight$Parser", name := "<init>", desc := "()V" } : Jvm.MethodName) ∈ GW := gwt0 43 (by decide +kernel) rfl
theorem wd92 : Cond.code ({ cls := "BakeryNight$Parser", name := "<init>", desc := "()V" } : Jvm.MethodName) prog_9_method_1_code (1 : Nat) (Option.none : Option Jvm.ClassFile.FieldType) ∈ GW := gwt0 44 (by decide +kernel) rfl
theorem wd93 : Cond.methodLink "BakeryNight$Parser" (3 : Nat) ({ cls := "java/lang/Object", name := "<init>", desc := "()V" } : Jvm.MethodName) ∈ GW := gwt0 45 (by decide +kernel) rfl
theorem wd94 : Cond.classLink "BakeryNight$Parser" (9 : Nat) "BakeryNight$Scanner" ∈ GW := gwt0 46 (by decide +kernel) rfl
theorem wd95 : Cond.instantiable "BakeryNight$Scanner" (5 : Nat) ∈ GW := gwt0 47 (by decide +kernel) rfl
theorem wd96 : Cond.methodLink "BakeryNight$Parser" (11 : Nat) ({ cls := "BakeryNight$Scanner", name := "<init>", desc := "()V" } : Jvm.MethodName) ∈ GW := gwt0 48 (by decide +kernel) rfl
theorem wd97 : Cond.instanceMethod ({ cls := "BakeryNight$Scanner", name := "<init>", desc := "()V" } : Jvm.MethodName) ∈ GW := gwt0 49 (by decide +kernel) rfl
theorem wd98 : Cond.code ({ cls := "BakeryNight$Scanner", name := "<init>", desc := "()V" } : Jvm.MethodName) prog_12_method_1_code (1 : Nat) (Option.none : Option Jvm.ClassFile.FieldType) ∈ GW := gwt0 50 (by decide +kernel) rfl
theorem wd99 : Cond.methodLink "BakeryNight$Scanner" (1 : Nat) ({ cls := "java/lang/Object", name := "<init>", desc := "()V" } : Jvm.MethodName) ∈ GW := gwt0 51 (by decide +kernel) rfl
theorem wd100 : Cond.fieldLink "BakeryNight$Scanner" (7 : Nat) "BakeryNight$Scanner" "text" "[B" ∈ GW := gwt0 52 (by decide +kernel) rfl
theorem wd101 : Cond.fieldLink "BakeryNight$Scanner" (19 : Nat) "BakeryNight$Scanner" "length" "I" ∈ GW := gwt0 53 (by decide +kernel) rfl
theorem wd102 : Cond.fieldLink "BakeryNight$Parser" (54 : Nat) "BakeryNight$Scanner" "kind" "I" ∈ GW := gwt0 54 (by decide +kernel) rfl
theorem wd103 : Cond.fieldLink "BakeryNight$Scanner" (36 : Nat) "BakeryNight$Scanner" "kind" "I" ∈ GW := gwt0 55 (by decide +kernel) rfl
theorem wd104 : Cond.fieldLink "BakeryNight$Scanner" (29 : Nat) "BakeryNight$Scanner" "start" "I" ∈ GW := gwt0 56 (by decide +kernel) rfl
theorem wd105 : Cond.fieldLink "BakeryNight$Parser" (74 : Nat) "BakeryNight$Scanner" "start" "I" ∈ GW := gwt0 57 (by decide +kernel) rfl
theorem wd106 : Cond.fieldLink "BakeryNight$Scanner" (23 : Nat) "BakeryNight$Scanner" "end" "I" ∈ GW := gwt0 58 (by decide +kernel) rfl
theorem wd119 : Cond.fieldLink "BakeryNight$Parser" (12 : Nat) "BakeryNight$Parser" "scanner" "LBakeryNight$Scanner;" ∈ GW := gwt0 71 (by decide +kernel) rfl
theorem wd120 : Cond.fieldLink "BakeryNight$Parser" (20 : Nat) "BakeryNight$Parser" "doughNames" "[J" ∈ GW := gwt0 72 (by decide +kernel) rfl
theorem wd121 : Cond.fieldLink "BakeryNight$Parser" (24 : Nat) "BakeryNight$Parser" "shopNames" "[J" ∈ GW := gwt0 73 (by decide +kernel) rfl
theorem wd122 : Cond.fieldLink "BakeryNight$Parser" (34 : Nat) "BakeryNight$Parser" "roomGiven" "Z" ∈ GW := gwt0 74 (by decide +kernel) rfl
theorem wd123 : Cond.fieldLink "BakeryNight$Parser" (38 : Nat) "BakeryNight$Parser" "coolGiven" "Z" ∈ GW := gwt0 75 (by decide +kernel) rfl
theorem wd124 : Cond.fieldLink "BakeryNight$Parser" (41 : Nat) "BakeryNight$Parser" "mixersGiven" "Z" ∈ GW := gwt0 76 (by decide +kernel) rfl
theorem wd125 : Cond.fieldLink "BakeryNight$Parser" (44 : Nat) "BakeryNight$Parser" "bakersGiven" "Z" ∈ GW := gwt0 77 (by decide +kernel) rfl
theorem wd126 : Cond.fieldLink "BakeryNight$Parser" (31 : Nat) "BakeryNight$Parser" "faultCode" "I" ∈ GW := gwt0 78 (by decide +kernel) rfl
theorem wd127 : Cond.fieldLink "BakeryNight" (75 : Nat) "BakeryNight$Parser" "faultCode" "I" ∈ GW := gwt0 79 (by decide +kernel) rfl
theorem wd128 : Cond.fieldLink "BakeryNight$Parser" (27 : Nat) "BakeryNight$Parser" "faultOffset" "I" ∈ GW := gwt0 80 (by decide +kernel) rfl
theorem wd149 : Cond.classLink "BakeryNight" (20 : Nat) "BakeryNight$Bakery" ∈ GW := gwt0 101 (by decide +kernel) rfl
theorem wd150 : Cond.instantiable "BakeryNight$Bakery" (14 : Nat) ∈ GW := gwt0 102 (by decide +kernel) rfl
theorem wd151 : Cond.methodLink "BakeryNight" (22 : Nat) ({ cls := "BakeryNight$Bakery", name := "<init>", desc := "()V" } : Jvm.MethodName) ∈ GW := gwt0 103 (by decide +kernel) rfl
theorem wd152 : Cond.instanceMethod ({ cls := "BakeryNight$Bakery", name := "<init>", desc := "()V" } : Jvm.MethodName) ∈ GW := gwt0 104 (by decide +kernel) rfl
theorem wd153 : Cond.code ({ cls := "BakeryNight$Bakery", name := "<init>", desc := "()V" } : Jvm.MethodName) prog_3_method_1_code (2 : Nat) (Option.none : Option Jvm.ClassFile.FieldType) ∈ GW := gwt0 105 (by decide +kernel) rfl
theorem wd154 : Cond.methodLink "BakeryNight$Bakery" (3 : Nat) ({ cls := "java/lang/Object", name := "<init>", desc := "()V" } : Jvm.MethodName) ∈ GW := gwt0 106 (by decide +kernel) rfl
theorem wd155 : Cond.classLink "BakeryNight$Bakery" (11 : Nat) "BakeryNight$Dough" ∈ GW := gwt0 107 (by decide +kernel) rfl
theorem wd157 : Cond.instantiable "BakeryNight$Dough" (10 : Nat) ∈ GW := gwt0 109 (by decide +kernel) rfl
theorem wd159 : Cond.instanceMethod ({ cls := "BakeryNight$Dough", name := "<init>", desc := "()V" } : Jvm.MethodName) ∈ GW := gwt0 111 (by decide +kernel) rfl
theorem wd160 : Cond.code ({ cls := "BakeryNight$Dough", name := "<init>", desc := "()V" } : Jvm.MethodName) prog_4_method_1_code (1 : Nat) (Option.none : Option Jvm.ClassFile.FieldType) ∈ GW := gwt0 112 (by decide +kernel) rfl
theorem wd161 : Cond.methodLink "BakeryNight$Dough" (1 : Nat) ({ cls := "java/lang/Object", name := "<init>", desc := "()V" } : Jvm.MethodName) ∈ GW := gwt0 113 (by decide +kernel) rfl
theorem wd162 : Cond.fieldLink "BakeryNight$Parser" (167 : Nat) "BakeryNight$Dough" "mix" "I" ∈ GW := gwt0 114 (by decide +kernel) rfl
theorem wd163 : Cond.fieldLink "BakeryNight$Night" (208 : Nat) "BakeryNight$Dough" "mix" "I" ∈ GW := gwt0 115 (by decide +kernel) rfl
theorem wd164 : Cond.fieldLink "BakeryNight$Parser" (175 : Nat) "BakeryNight$Dough" "rise" "I" ∈ GW := gwt0 116 (by decide +kernel) rfl
theorem wd165 : Cond.fieldLink "BakeryNight$Night" (211 : Nat) "BakeryNight$Dough" "rise" "I" ∈ GW := gwt0 117 (by decide +kernel) rfl
theorem wd166 : Cond.fieldLink "BakeryNight$Parser" (181 : Nat) "BakeryNight$Dough" "shape" "I" ∈ GW := gwt0 118 (by decide +kernel) rfl
theorem wd167 : Cond.fieldLink "BakeryNight$Night" (190 : Nat) "BakeryNight$Dough" "shape" "I" ∈ GW := gwt0 119 (by decide +kernel) rfl
theorem wd168 : Cond.fieldLink "BakeryNight$Parser" (187 : Nat) "BakeryNight$Dough" "proof" "I" ∈ GW := gwt0 120 (by decide +kernel) rfl
theorem wd169 : Cond.fieldLink "BakeryNight$Night" (193 : Nat) "BakeryNight$Dough" "proof" "I" ∈ GW := gwt0 121 (by decide +kernel) rfl
theorem wd170 : Cond.fieldLink "BakeryNight$Night" (151 : Nat) "BakeryNight$Dough" "limit" "I" ∈ GW := gwt0 122 (by decide +kernel) rfl
theorem wd171 : Cond.fieldLink "BakeryNight$Parser" (193 : Nat) "BakeryNight$Dough" "limit" "I" ∈ GW := gwt0 123 (by decide +kernel) rfl
theorem wd172 : Cond.fieldLink "BakeryNight$Night" (161 : Nat) "BakeryNight$Dough" "bake" "I" ∈ GW := gwt0 124 (by decide +kernel) rfl
theorem wd173 : Cond.fieldLink "BakeryNight$Parser" (199 : Nat) "BakeryNight$Dough" "bake" "I" ∈ GW := gwt0 125 (by decide +kernel) rfl
theorem wd174 : Cond.fieldLink "BakeryNight$Night" (156 : Nat) "BakeryNight$Dough" "heat" "I" ∈ GW := gwt0 126 (by decide +kernel) rfl
theorem wd175 : Cond.fieldLink "BakeryNight$Parser" (205 : Nat) "BakeryNight$Dough" "heat" "I" ∈ GW := gwt0 127 (by decide +kernel) rfl
theorem wd176 : Cond.fieldLink "BakeryNight$Parser" (211 : Nat) "BakeryNight$Dough" "loaves" "I" ∈ GW := gwt0 128 (by decide +kernel) rfl
theorem wd177 : Cond.fieldLink "BakeryNight$Bakery" (103 : Nat) "BakeryNight$Dough" "loaves" "I" ∈ GW := gwt0 129 (by decide +kernel) rfl
theorem wd178 : Cond.fieldLink "BakeryNight$Night" (245 : Nat) "BakeryNight$Dough" "loaves" "I" ∈ GW := gwt0 130 (by decide +kernel) rfl
theorem wd179 : Cond.fieldLink "BakeryNight$Parser" (217 : Nat) "BakeryNight$Dough" "keep" "I" ∈ GW := gwt0 131 (by decide +kernel) rfl
theorem wd180 : Cond.fieldLink "BakeryNight$Night" (252 : Nat) "BakeryNight$Dough" "keep" "I" ∈ GW := gwt0 132 (by decide +kernel) rfl
theorem wd181 : Cond.fieldLink "BakeryNight$Parser" (223 : Nat) "BakeryNight$Dough" "price" "I" ∈ GW := gwt0 133 (by decide +kernel) rfl
theorem wd182 : Cond.fieldLink "BakeryNight$Night" (255 : Nat) "BakeryNight$Dough" "price" "I" ∈ GW := gwt0 134 (by decide +kernel) rfl
theorem wd204 : Cond.classLink "BakeryNight$Bakery" (18 : Nat) "BakeryNight$Oven" ∈ GW := gwt0 156 (by decide +kernel) rfl
theorem wd206 : Cond.instantiable "BakeryNight$Oven" (4 : Nat) ∈ GW := gwt0 158 (by decide +kernel) rfl
theorem wd208 : Cond.instanceMethod ({ cls := "BakeryNight$Oven", name := "<init>", desc := "()V" } : Jvm.MethodName) ∈ GW := gwt0 160 (by decide +kernel) rfl
theorem wd209 : Cond.code ({ cls := "BakeryNight$Oven", name := "<init>", desc := "()V" } : Jvm.MethodName) prog_8_method_1_code (1 : Nat) (Option.none : Option Jvm.ClassFile.FieldType) ∈ GW := gwt0 161 (by decide +kernel) rfl
theorem wd210 : Cond.methodLink "BakeryNight$Oven" (1 : Nat) ({ cls := "java/lang/Object", name := "<init>", desc := "()V" } : Jvm.MethodName) ∈ GW := gwt0 162 (by decide +kernel) rfl
theorem wd211 : Cond.fieldLink "BakeryNight$Night" (172 : Nat) "BakeryNight$Oven" "shelves" "I" ∈ GW := gwt0 163 (by decide +kernel) rfl
theorem wd212 : Cond.fieldLink "BakeryNight$Parser" (236 : Nat) "BakeryNight$Oven" "shelves" "I" ∈ GW := gwt0 164 (by decide +kernel) rfl
theorem wd213 : Cond.fieldLink "BakeryNight$Bakery" (123 : Nat) "BakeryNight$Oven" "shelves" "I" ∈ GW := gwt0 165 (by decide +kernel) rfl
theorem wd214 : Cond.fieldLink "BakeryNight$Night" (124 : Nat) "BakeryNight$Oven" "heat" "I" ∈ GW := gwt0 166 (by decide +kernel) rfl
theorem wd215 : Cond.fieldLink "BakeryNight$Parser" (241 : Nat) "BakeryNight$Oven" "heat" "I" ∈ GW := gwt0 167 (by decide +kernel) rfl
theorem wd216 : Cond.fieldLink "BakeryNight$Night" (178 : Nat) "BakeryNight$Oven" "rate" "I" ∈ GW := gwt0 168 (by decide +kernel) rfl
theorem wd217 : Cond.fieldLink "BakeryNight$Parser" (245 : Nat) "BakeryNight$Oven" "rate" "I" ∈ GW := gwt0 169 (by decide +kernel) rfl
theorem wd218 : Cond.fieldLink "BakeryNight$History" (41 : Nat) "BakeryNight$Oven" "broken" "Z" ∈ GW := gwt0 170 (by decide +kernel) rfl
theorem wd219 : Cond.fieldLink "BakeryNight$Night" (168 : Nat) "BakeryNight$Oven" "broken" "Z" ∈ GW := gwt0 171 (by decide +kernel) rfl
theorem wd220 : Cond.fieldLink "BakeryNight$Parser" (248 : Nat) "BakeryNight$Oven" "broken" "Z" ∈ GW := gwt0 172 (by decide +kernel) rfl
theorem wd221 : Cond.fieldLink "BakeryNight" (312 : Nat) "BakeryNight$Oven" "broken" "Z" ∈ GW := gwt0 173 (by decide +kernel) rfl
theorem wd231 : Cond.classLink "BakeryNight$Bakery" (25 : Nat) "BakeryNight$Order" ∈ GW := gwt0 183 (by decide +kernel) rfl
theorem wd233 : Cond.instantiable "BakeryNight$Order" (5 : Nat) ∈ GW := gwt0 185 (by decide +kernel) rfl
theorem wd235 : Cond.instanceMethod ({ cls := "BakeryNight$Order", name := "<init>", desc := "()V" } : Jvm.MethodName) ∈ GW := gwt0 187 (by decide +kernel) rfl
theorem wd236 : Cond.code ({ cls := "BakeryNight$Order", name := "<init>", desc := "()V" } : Jvm.MethodName) prog_7_method_1_code (1 : Nat) (Option.none : Option Jvm.ClassFile.FieldType) ∈ GW := gwt0 188 (by decide +kernel) rfl
theorem wd237 : Cond.methodLink "BakeryNight$Order" (1 : Nat) ({ cls := "java/lang/Object", name := "<init>", desc := "()V" } : Jvm.MethodName) ∈ GW := gwt0 189 (by decide +kernel) rfl
theorem wd238 : Cond.fieldLink "BakeryNight$Order" (7 : Nat) "BakeryNight$Order" "shop" "I" ∈ GW := gwt0 190 (by decide +kernel) rfl
theorem wd239 : Cond.fieldLink "BakeryNight$Plan" (70 : Nat) "BakeryNight$Order" "shop" "I" ∈ GW := gwt0 191 (by decide +kernel) rfl
theorem wd240 : Cond.fieldLink "BakeryNight$Order" (13 : Nat) "BakeryNight$Order" "dough" "I" ∈ GW := gwt0 192 (by decide +kernel) rfl
theorem wd241 : Cond.fieldLink "BakeryNight$Bakery" (93 : Nat) "BakeryNight$Order" "dough" "I" ∈ GW := gwt0 193 (by decide +kernel) rfl
theorem wd242 : Cond.fieldLink "BakeryNight$Night" (229 : Nat) "BakeryNight$Order" "dough" "I" ∈ GW := gwt0 194 (by decide +kernel) rfl
theorem wd243 : Cond.fieldLink "BakeryNight$Order" (16 : Nat) "BakeryNight$Order" "loaves" "I" ∈ GW := gwt0 195 (by decide +kernel) rfl
theorem wd244 : Cond.fieldLink "BakeryNight$Plan" (89 : Nat) "BakeryNight$Order" "loaves" "I" ∈ GW := gwt0 196 (by decide +kernel) rfl
theorem wd245 : Cond.fieldLink "BakeryNight$Bakery" (96 : Nat) "BakeryNight$Order" "loaves" "I" ∈ GW := gwt0 197 (by decide +kernel) rfl
theorem wd246 : Cond.fieldLink "BakeryNight$Night" (236 : Nat) "BakeryNight$Order" "loaves" "I" ∈ GW := gwt0 198 (by decide +kernel) rfl
theorem wd247 : Cond.fieldLink "BakeryNight$Order" (19 : Nat) "BakeryNight$Order" "by" "I" ∈ GW := gwt0 199 (by decide +kernel) rfl
theorem wd248 : Cond.fieldLink "BakeryNight$Plan" (80 : Nat) "BakeryNight$Order" "by" "I" ∈ GW := gwt0 200 (by decide +kernel) rfl
theorem wd249 : Cond.fieldLink "BakeryNight$History" (63 : Nat) "BakeryNight$Order" "by" "I" ∈ GW := gwt0 201 (by decide +kernel) rfl
theorem wd250 : Cond.fieldLink "BakeryNight$Bakery" (107 : Nat) "BakeryNight$Order" "by" "I" ∈ GW := gwt0 202 (by decide +kernel) rfl
theorem wd251 : Cond.fieldLink "BakeryNight" (334 : Nat) "BakeryNight$Order" "by" "I" ∈ GW := gwt0 203 (by decide +kernel) rfl
theorem wd252 : Cond.fieldLink "BakeryNight$Order" (22 : Nat) "BakeryNight$Order" "cancelled" "Z" ∈ GW := gwt0 204 (by decide +kernel) rfl
theorem wd253 : Cond.fieldLink "BakeryNight$History" (58 : Nat) "BakeryNight$Order" "cancelled" "Z" ∈ GW := gwt0 205 (by decide +kernel) rfl
theorem wd254 : Cond.fieldLink "BakeryNight$Bakery" (81 : Nat) "BakeryNight$Order" "cancelled" "Z" ∈ GW := gwt0 206 (by decide +kernel) rfl
theorem wd255 : Cond.fieldLink "BakeryNight" (331 : Nat) "BakeryNight$Order" "cancelled" "Z" ∈ GW := gwt0 207 (by decide +kernel) rfl
theorem wd267 : Cond.classLink "BakeryNight$Bakery" (36 : Nat) "BakeryNight$Roads" ∈ GW := gwt0 219 (by decide +kernel) rfl
theorem wd268 : Cond.instantiable "BakeryNight$Roads" (7 : Nat) ∈ GW := gwt0 220 (by decide +kernel) rfl
theorem wd269 : Cond.methodLink "BakeryNight$Bakery" (38 : Nat) ({ cls := "BakeryNight$Roads", name := "<init>", desc := "()V" } : Jvm.MethodName) ∈ GW := gwt0 221 (by decide +kernel) rfl
theorem wd270 : Cond.instanceMethod ({ cls := "BakeryNight$Roads", name := "<init>", desc := "()V" } : Jvm.MethodName) ∈ GW := gwt0 222 (by decide +kernel) rfl
theorem wd271 : Cond.code ({ cls := "BakeryNight$Roads", name := "<init>", desc := "()V" } : Jvm.MethodName) prog_11_method_1_code (1 : Nat) (Option.none : Option Jvm.ClassFile.FieldType) ∈ GW := gwt0 223 (by decide +kernel) rfl
theorem wd272 : Cond.methodLink "BakeryNight$Roads" (5 : Nat) ({ cls := "java/lang/Object", name := "<init>", desc := "()V" } : Jvm.MethodName) ∈ GW := gwt0 224 (by decide +kernel) rfl
theorem wd273 : Cond.classLink "BakeryNight$Roads" (25 : Nat) "[[I" ∈ GW := gwt0 225 (by decide +kernel) rfl
theorem wd275 : Cond.fieldLink "BakeryNight$Roads" (11 : Nat) "BakeryNight$Roads" "from" "[I" ∈ GW := gwt0 227 (by decide +kernel) rfl
theorem wd276 : Cond.fieldLink "BakeryNight$Parser" (258 : Nat) "BakeryNight$Roads" "from" "[I" ∈ GW := gwt0 228 (by decide +kernel) rfl
theorem wd277 : Cond.fieldLink "BakeryNight$Roads" (15 : Nat) "BakeryNight$Roads" "to" "[I" ∈ GW := gwt0 229 (by decide +kernel) rfl
theorem wd278 : Cond.fieldLink "BakeryNight$Parser" (261 : Nat) "BakeryNight$Roads" "to" "[I" ∈ GW := gwt0 230 (by decide +kernel) rfl
theorem wd279 : Cond.fieldLink "BakeryNight$Roads" (18 : Nat) "BakeryNight$Roads" "minutes" "[I" ∈ GW := gwt0 231 (by decide +kernel) rfl
theorem wd280 : Cond.fieldLink "BakeryNight$Parser" (264 : Nat) "BakeryNight$Roads" "minutes" "[I" ∈ GW := gwt0 232 (by decide +kernel) rfl
theorem wd281 : Cond.fieldLink "BakeryNight$Roads" (21 : Nat) "BakeryNight$Roads" "closed" "[Z" ∈ GW := gwt0 233 (by decide +kernel) rfl
theorem wd282 : Cond.fieldLink "BakeryNight$Parser" (267 : Nat) "BakeryNight$Roads" "closed" "[Z" ∈ GW := gwt0 234 (by decide +kernel) rfl
theorem wd283 : Cond.fieldLink "BakeryNight$Bakery" (119 : Nat) "BakeryNight$Roads" "closed" "[Z" ∈ GW := gwt0 235 (by decide +kernel) rfl
theorem wd284 : Cond.fieldLink "BakeryNight" (284 : Nat) "BakeryNight$Roads" "closed" "[Z" ∈ GW := gwt0 236 (by decide +kernel) rfl
theorem wd285 : Cond.fieldLink "BakeryNight$Bakery" (72 : Nat) "BakeryNight$Roads" "streetTotal" "I" ∈ GW := gwt0 237 (by decide +kernel) rfl
theorem wd286 : Cond.fieldLink "BakeryNight$Roads" (40 : Nat) "BakeryNight$Roads" "streetTotal" "I" ∈ GW := gwt0 238 (by decide +kernel) rfl
theorem wd287 : Cond.fieldLink "BakeryNight$Parser" (251 : Nat) "BakeryNight$Roads" "streetTotal" "I" ∈ GW := gwt0 239 (by decide +kernel) rfl
theorem wd288 : Cond.fieldLink "BakeryNight" (281 : Nat) "BakeryNight$Roads" "streetTotal" "I" ∈ GW := gwt1 0 (by decide +kernel) rfl
theorem wd289 : Cond.fieldLink "BakeryNight$Roads" (27 : Nat) "BakeryNight$Roads" "shortest" "[[I" ∈ GW := gwt1 1 (by decide +kernel) rfl
theorem wd290 : Cond.fieldLink "BakeryNight$Roads" (30 : Nat) "BakeryNight$Roads" "rest" "[I" ∈ GW := gwt1 2 (by decide +kernel) rfl
theorem wd308 : Cond.methodLink "BakeryNight$Bakery" (43 : Nat) ({ cls := "BakeryNight$Bakery", name := "clear", desc := "()V" } : Jvm.MethodName) ∈ GW := gwt1 20 (by decide +kernel) rfl
theorem wd309 : Cond.instanceMethod ({ cls := "BakeryNight$Bakery", name := "clear", desc := "()V" } : Jvm.MethodName) ∈ GW := gwt1 21 (by decide +kernel) rfl
theorem wd310 : Cond.selects "BakeryNight$Bakery" ({ cls := "BakeryNight$Bakery", name := "clear", desc := "()V" } : Jvm.MethodName) ({ cls := "BakeryNight$Bakery", name := "clear", desc := "()V" } : Jvm.MethodName) ∈ GW := gwt1 22 (by decide +kernel) rfl
theorem wd311 : Cond.code ({ cls := "BakeryNight$Bakery", name := "clear", desc := "()V" } : Jvm.MethodName) prog_3_method_2_code (1 : Nat) (Option.none : Option Jvm.ClassFile.FieldType) ∈ GW := gwt1 23 (by decide +kernel) rfl
theorem wd312 : Cond.methodLink "BakeryNight$Bakery" (46 : Nat) ({ cls := "BakeryNight$Roads", name := "explore", desc := "(II)V" } : Jvm.MethodName) ∈ GW := gwt1 24 (by decide +kernel) rfl
theorem wd313 : Cond.instanceMethod ({ cls := "BakeryNight$Roads", name := "explore", desc := "(II)V" } : Jvm.MethodName) ∈ GW := gwt1 25 (by decide +kernel) rfl
theorem wd314 : Cond.selects "BakeryNight$Roads" ({ cls := "BakeryNight$Roads", name := "explore", desc := "(II)V" } : Jvm.MethodName) ({ cls := "BakeryNight$Roads", name := "explore", desc := "(II)V" } : Jvm.MethodName) ∈ GW := gwt1 26 (by decide +kernel) rfl
theorem wd315 : Cond.code ({ cls := "BakeryNight$Roads", name := "explore", desc := "(II)V" } : Jvm.MethodName) prog_11_method_4_code (5 : Nat) (Option.none : Option Jvm.ClassFile.FieldType) ∈ GW := gwt1 27 (by decide +kernel) rfl
theorem wd316 : Cond.constant "BakeryNight$Roads" (33 : Nat) (1000000 : Int32) ∈ GW := gwt1 28 (by decide +kernel) rfl
theorem wd317 : Cond.methodLink "BakeryNight$Roads" (34 : Nat) ({ cls := "java/util/Arrays", name := "fill", desc := "([II)V" } : Jvm.MethodName) ∈ GW := gwt1 29 (by decide +kernel) rfl
theorem wd318 : Cond.static ({ cls := "java/util/Arrays", name := "fill", desc := "([II)V" } : Jvm.MethodName) ∈ GW := gwt1 30 (by decide +kernel) rfl
theorem wd319 : Cond.code ({ cls := "java/util/Arrays", name := "fill", desc := "([II)V" } : Jvm.MethodName) prog_32_method_103_code (4 : Nat) (Option.none : Option Jvm.ClassFile.FieldType) ∈ GW := gwt1 31 (by decide +kernel) rfl
theorem wd320 : Cond.methodLink "BakeryNight$Roads" (44 : Nat) ({ cls := "java/lang/Math", name := "min", desc := "(II)I" } : Jvm.MethodName) ∈ GW := gwt1 32 (by decide +kernel) rfl
theorem wd321 : Cond.static ({ cls := "java/lang/Math", name := "min", desc := "(II)I" } : Jvm.MethodName) ∈ GW := gwt1 33 (by decide +kernel) rfl
theorem wd322 : Cond.code ({ cls := "java/lang/Math", name := "min", desc := "(II)I" } : Jvm.MethodName) prog_23_method_69_code (2 : Nat) (Option.some Jvm.ClassFile.FieldType.int) ∈ GW := gwt1 34 (by decide +kernel) rfl
theorem wd323 : Cond.methodLink "BakeryNight$Roads" (50 : Nat) ({ cls := "BakeryNight$Roads", name := "joinStreets", desc := "()V" } : Jvm.MethodName) ∈ GW := gwt1 35 (by decide +kernel) rfl
theorem wd325 : Cond.instanceMethod ({ cls := "BakeryNight$Roads", name := "joinStreets", desc := "()V" } : Jvm.MethodName) ∈ GW := gwt1 37 (by decide +kernel) rfl
theorem wd326 : Cond.code ({ cls := "BakeryNight$Roads", name := "joinStreets", desc := "()V" } : Jvm.MethodName) prog_11_method_5_code (5 : Nat) (Option.none : Option Jvm.ClassFile.FieldType) ∈ GW := gwt1 38 (by decide +kernel) rfl
theorem wd327 : Cond.methodLink "BakeryNight$Roads" (53 : Nat) ({ cls := "BakeryNight$Roads", name := "measureRoutes", desc := "(I)V" } : Jvm.MethodName) ∈ GW := gwt1 39 (by decide +kernel) rfl
theorem wd329 : Cond.instanceMethod ({ cls := "BakeryNight$Roads", name := "measureRoutes", desc := "(I)V" } : Jvm.MethodName) ∈ GW := gwt1 41 (by decide +kernel) rfl
theorem wd330 : Cond.code ({ cls := "BakeryNight$Roads", name := "measureRoutes", desc := "(I)V" } : Jvm.MethodName) prog_11_method_6_code (6 : Nat) (Option.none : Option Jvm.ClassFile.FieldType) ∈ GW := gwt1 42 (by decide +kernel) rfl
theorem wd331 : Cond.constant "BakeryNight$Roads" (57 : Nat) (8000000 : Int32) ∈ GW := gwt1 43 (by decide +kernel) rfl
theorem wd332 : Cond.methodLink "BakeryNight$Roads" (58 : Nat) ({ cls := "BakeryNight$Roads", name := "by", desc := "(III)I" } : Jvm.MethodName) ∈ GW := gwt1 44 (by decide +kernel) rfl
theorem wd334 : Cond.instanceMethod ({ cls := "BakeryNight$Roads", name := "by", desc := "(III)I" } : Jvm.MethodName) ∈ GW := gwt1 46 (by decide +kernel) rfl
theorem wd335 : Cond.code ({ cls := "BakeryNight$Roads", name := "by", desc := "(III)I" } : Jvm.MethodName) prog_11_method_7_code (4 : Nat) (Option.some Jvm.ClassFile.FieldType.int) ∈ GW := gwt1 47 (by decide +kernel) rfl
theorem wd336 : Cond.fieldLink "BakeryNight$Bakery" (50 : Nat) "BakeryNight$Bakery" "room" "I" ∈ GW := gwt1 48 (by decide +kernel) rfl
theorem wd337 : Cond.fieldLink "BakeryNight$History" (32 : Nat) "BakeryNight$Bakery" "room" "I" ∈ GW := gwt1 49 (by decide +kernel) rfl
theorem wd338 : Cond.fieldLink "BakeryNight$Parser" (101 : Nat) "BakeryNight$Bakery" "room" "I" ∈ GW := gwt1 50 (by decide +kernel) rfl
theorem wd339 : Cond.fieldLink "BakeryNight" (302 : Nat) "BakeryNight$Bakery" "room" "I" ∈ GW := gwt1 51 (by decide +kernel) rfl
theorem wd340 : Cond.fieldLink "BakeryNight$Bakery" (54 : Nat) "BakeryNight$Bakery" "cool" "I" ∈ GW := gwt1 52 (by decide +kernel) rfl
theorem wd341 : Cond.fieldLink "BakeryNight$Parser" (104 : Nat) "BakeryNight$Bakery" "cool" "I" ∈ GW := gwt1 53 (by decide +kernel) rfl
theorem wd342 : Cond.fieldLink "BakeryNight$Night" (242 : Nat) "BakeryNight$Bakery" "cool" "I" ∈ GW := gwt1 54 (by decide +kernel) rfl
theorem wd343 : Cond.fieldLink "BakeryNight$Bakery" (57 : Nat) "BakeryNight$Bakery" "mixers" "I" ∈ GW := gwt1 55 (by decide +kernel) rfl
theorem wd344 : Cond.fieldLink "BakeryNight$Parser" (107 : Nat) "BakeryNight$Bakery" "mixers" "I" ∈ GW := gwt1 56 (by decide +kernel) rfl
theorem wd345 : Cond.fieldLink "BakeryNight$Night" (205 : Nat) "BakeryNight$Bakery" "mixers" "I" ∈ GW := gwt1 57 (by decide +kernel) rfl
theorem wd346 : Cond.fieldLink "BakeryNight$Bakery" (60 : Nat) "BakeryNight$Bakery" "bakers" "I" ∈ GW := gwt1 58 (by decide +kernel) rfl
theorem wd347 : Cond.fieldLink "BakeryNight$Parser" (110 : Nat) "BakeryNight$Bakery" "bakers" "I" ∈ GW := gwt1 59 (by decide +kernel) rfl
theorem wd348 : Cond.fieldLink "BakeryNight$Night" (184 : Nat) "BakeryNight$Bakery" "bakers" "I" ∈ GW := gwt1 60 (by decide +kernel) rfl
theorem wd349 : Cond.fieldLink "BakeryNight$Bakery" (13 : Nat) "BakeryNight$Bakery" "doughs" "[LBakeryNight$Dough;" ∈ GW := gwt1 61 (by decide +kernel) rfl
theorem wd350 : Cond.fieldLink "BakeryNight$Night" (147 : Nat) "BakeryNight$Bakery" "doughs" "[LBakeryNight$Dough;" ∈ GW := gwt1 62 (by decide +kernel) rfl
theorem wd351 : Cond.fieldLink "BakeryNight$Parser" (155 : Nat) "BakeryNight$Bakery" "doughs" "[LBakeryNight$Dough;" ∈ GW := gwt1 63 (by decide +kernel) rfl
theorem wd352 : Cond.fieldLink "BakeryNight$Bakery" (63 : Nat) "BakeryNight$Bakery" "doughTotal" "I" ∈ GW := gwt1 64 (by decide +kernel) rfl
theorem wd353 : Cond.fieldLink "BakeryNight$Night" (131 : Nat) "BakeryNight$Bakery" "doughTotal" "I" ∈ GW := gwt1 65 (by decide +kernel) rfl
theorem wd354 : Cond.fieldLink "BakeryNight$Parser" (145 : Nat) "BakeryNight$Bakery" "doughTotal" "I" ∈ GW := gwt1 66 (by decide +kernel) rfl
theorem wd355 : Cond.fieldLink "BakeryNight" (230 : Nat) "BakeryNight$Bakery" "doughTotal" "I" ∈ GW := gwt1 67 (by decide +kernel) rfl
theorem wd356 : Cond.fieldLink "BakeryNight$Bakery" (20 : Nat) "BakeryNight$Bakery" "ovens" "[LBakeryNight$Oven;" ∈ GW := gwt1 68 (by decide +kernel) rfl
theorem wd357 : Cond.fieldLink "BakeryNight$Night" (120 : Nat) "BakeryNight$Bakery" "ovens" "[LBakeryNight$Oven;" ∈ GW := gwt1 69 (by decide +kernel) rfl
theorem wd358 : Cond.fieldLink "BakeryNight$History" (37 : Nat) "BakeryNight$Bakery" "ovens" "[LBakeryNight$Oven;" ∈ GW := gwt1 70 (by decide +kernel) rfl
theorem wd359 : Cond.fieldLink "BakeryNight$Parser" (229 : Nat) "BakeryNight$Bakery" "ovens" "[LBakeryNight$Oven;" ∈ GW := gwt1 71 (by decide +kernel) rfl
theorem wd360 : Cond.fieldLink "BakeryNight" (308 : Nat) "BakeryNight$Bakery" "ovens" "[LBakeryNight$Oven;" ∈ GW := gwt1 72 (by decide +kernel) rfl
theorem wd361 : Cond.fieldLink "BakeryNight$Bakery" (66 : Nat) "BakeryNight$Bakery" "ovenTotal" "I" ∈ GW := gwt1 73 (by decide +kernel) rfl
theorem wd362 : Cond.fieldLink "BakeryNight$Night" (117 : Nat) "BakeryNight$Bakery" "ovenTotal" "I" ∈ GW := gwt1 74 (by decide +kernel) rfl
theorem wd363 : Cond.fieldLink "BakeryNight$Parser" (226 : Nat) "BakeryNight$Bakery" "ovenTotal" "I" ∈ GW := gwt1 75 (by decide +kernel) rfl
theorem wd364 : Cond.fieldLink "BakeryNight$Bakery" (69 : Nat) "BakeryNight$Bakery" "shopTotal" "I" ∈ GW := gwt1 76 (by decide +kernel) rfl
theorem wd365 : Cond.fieldLink "BakeryNight$Parser" (65 : Nat) "BakeryNight$Bakery" "shopTotal" "I" ∈ GW := gwt1 77 (by decide +kernel) rfl
theorem wd366 : Cond.fieldLink "BakeryNight" (288 : Nat) "BakeryNight$Bakery" "shopTotal" "I" ∈ GW := gwt1 78 (by decide +kernel) rfl
theorem wd367 : Cond.fieldLink "BakeryNight$Bakery" (39 : Nat) "BakeryNight$Bakery" "roads" "LBakeryNight$Roads;" ∈ GW := gwt1 79 (by decide +kernel) rfl
theorem wd368 : Cond.fieldLink "BakeryNight$Parser" (61 : Nat) "BakeryNight$Bakery" "roads" "LBakeryNight$Roads;" ∈ GW := gwt1 80 (by decide +kernel) rfl
theorem wd369 : Cond.fieldLink "BakeryNight$Plan" (129 : Nat) "BakeryNight$Bakery" "roads" "LBakeryNight$Roads;" ∈ GW := gwt1 81 (by decide +kernel) rfl
theorem wd370 : Cond.fieldLink "BakeryNight" (114 : Nat) "BakeryNight$Bakery" "roads" "LBakeryNight$Roads;" ∈ GW := gwt1 82 (by decide +kernel) rfl
theorem wd371 : Cond.fieldLink "BakeryNight$Bakery" (32 : Nat) "BakeryNight$Bakery" "vanLoads" "[I" ∈ GW := gwt1 83 (by decide +kernel) rfl
theorem wd372 : Cond.fieldLink "BakeryNight$Plan" (147 : Nat) "BakeryNight$Bakery" "vanLoads" "[I" ∈ GW := gwt1 84 (by decide +kernel) rfl
theorem wd373 : Cond.fieldLink "BakeryNight$Parser" (274 : Nat) "BakeryNight$Bakery" "vanLoads" "[I" ∈ GW := gwt1 85 (by decide +kernel) rfl
theorem wd374 : Cond.fieldLink "BakeryNight$Bakery" (75 : Nat) "BakeryNight$Bakery" "vanTotal" "I" ∈ GW := gwt1 86 (by decide +kernel) rfl
theorem wd375 : Cond.fieldLink "BakeryNight$Plan" (114 : Nat) "BakeryNight$Bakery" "vanTotal" "I" ∈ GW := gwt1 87 (by decide +kernel) rfl
theorem wd376 : Cond.fieldLink "BakeryNight$Parser" (271 : Nat) "BakeryNight$Bakery" "vanTotal" "I" ∈ GW := gwt1 88 (by decide +kernel) rfl
theorem wd377 : Cond.fieldLink "BakeryNight$Bakery" (27 : Nat) "BakeryNight$Bakery" "orders" "[LBakeryNight$Order;" ∈ GW := gwt1 89 (by decide +kernel) rfl
theorem wd378 : Cond.fieldLink "BakeryNight$Plan" (66 : Nat) "BakeryNight$Bakery" "orders" "[LBakeryNight$Order;" ∈ GW := gwt1 90 (by decide +kernel) rfl
theorem wd379 : Cond.fieldLink "BakeryNight$History" (54 : Nat) "BakeryNight$Bakery" "orders" "[LBakeryNight$Order;" ∈ GW := gwt1 91 (by decide +kernel) rfl
theorem wd380 : Cond.fieldLink "BakeryNight$Night" (225 : Nat) "BakeryNight$Bakery" "orders" "[LBakeryNight$Order;" ∈ GW := gwt1 92 (by decide +kernel) rfl
theorem wd381 : Cond.fieldLink "BakeryNight$Parser" (287 : Nat) "BakeryNight$Bakery" "orders" "[LBakeryNight$Order;" ∈ GW := gwt1 93 (by decide +kernel) rfl
theorem wd382 : Cond.fieldLink "BakeryNight" (321 : Nat) "BakeryNight$Bakery" "orders" "[LBakeryNight$Order;" ∈ GW := gwt1 94 (by decide +kernel) rfl
theorem wd383 : Cond.fieldLink "BakeryNight$Plan" (59 : Nat) "BakeryNight$Bakery" "orderTotal" "I" ∈ GW := gwt1 95 (by decide +kernel) rfl
theorem wd384 : Cond.fieldLink "BakeryNight$Bakery" (78 : Nat) "BakeryNight$Bakery" "orderTotal" "I" ∈ GW := gwt1 96 (by decide +kernel) rfl
theorem wd385 : Cond.fieldLink "BakeryNight$History" (51 : Nat) "BakeryNight$Bakery" "orderTotal" "I" ∈ GW := gwt1 97 (by decide +kernel) rfl
theorem wd386 : Cond.fieldLink "BakeryNight" (81 : Nat) "BakeryNight$Bakery" "orderTotal" "I" ∈ GW := gwt1 98 (by decide +kernel) rfl
theorem wd387 : Cond.fieldLink "BakeryNight$Parser" (277 : Nat) "BakeryNight$Bakery" "orderTotal" "I" ∈ GW := gwt1 99 (by decide +kernel) rfl
theorem wd388 : Cond.fieldLink "BakeryNight$Night" (218 : Nat) "BakeryNight$Bakery" "orderTotal" "I" ∈ GW := gwt1 100 (by decide +kernel) rfl
theorem wd418 : Cond.classLink "BakeryNight" (30 : Nat) "BakeryNight$History" ∈ GW := gwt1 130 (by decide +kernel) rfl
theorem wd419 : Cond.instantiable "BakeryNight$History" (4 : Nat) ∈ GW := gwt1 131 (by decide +kernel) rfl
theorem wd420 : Cond.methodLink "BakeryNight" (32 : Nat) ({ cls := "BakeryNight$History", name := "<init>", desc := "()V" } : Jvm.MethodName) ∈ GW := gwt1 132 (by decide +kernel) rfl
theorem wd421 : Cond.instanceMethod ({ cls := "BakeryNight$History", name := "<init>", desc := "()V" } : Jvm.MethodName) ∈ GW := gwt1 133 (by decide +kernel) rfl
theorem wd422 : Cond.code ({ cls := "BakeryNight$History", name := "<init>", desc := "()V" } : Jvm.MethodName) prog_5_method_1_code (1 : Nat) (Option.none : Option Jvm.ClassFile.FieldType) ∈ GW := gwt1 134 (by decide +kernel) rfl
theorem wd423 : Cond.methodLink "BakeryNight$History" (1 : Nat) ({ cls := "java/lang/Object", name := "<init>", desc := "()V" } : Jvm.MethodName) ∈ GW := gwt1 135 (by decide +kernel) rfl
theorem wd424 : Cond.fieldLink "BakeryNight$History" (9 : Nat) "BakeryNight$History" "kinds" "[I" ∈ GW := gwt1 136 (by decide +kernel) rfl
theorem wd425 : Cond.fieldLink "BakeryNight$History" (13 : Nat) "BakeryNight$History" "indexes" "[I" ∈ GW := gwt1 137 (by decide +kernel) rfl
theorem wd426 : Cond.fieldLink "BakeryNight$History" (16 : Nat) "BakeryNight$History" "before" "[I" ∈ GW := gwt1 138 (by decide +kernel) rfl
theorem wd427 : Cond.fieldLink "BakeryNight$History" (19 : Nat) "BakeryNight$History" "size" "I" ∈ GW := gwt1 139 (by decide +kernel) rfl
theorem wd428 : Cond.fieldLink "BakeryNight" (337 : Nat) "BakeryNight$History" "size" "I" ∈ GW := gwt1 140 (by decide +kernel) rfl
theorem wd438 : Cond.classLink "BakeryNight" (37 : Nat) "BakeryNight$Night" ∈ GW := gwt1 150 (by decide +kernel) rfl
theorem wd439 : Cond.instantiable "BakeryNight$Night" (20 : Nat) ∈ GW := gwt1 151 (by decide +kernel) rfl
theorem wd440 : Cond.methodLink "BakeryNight" (39 : Nat) ({ cls := "BakeryNight$Night", name := "<init>", desc := "()V" } : Jvm.MethodName) ∈ GW := gwt1 152 (by decide +kernel) rfl
theorem wd441 : Cond.instanceMethod ({ cls := "BakeryNight$Night", name := "<init>", desc := "()V" } : Jvm.MethodName) ∈ GW := gwt1 153 (by decide +kernel) rfl
theorem wd442 : Cond.code ({ cls := "BakeryNight$Night", name := "<init>", desc := "()V" } : Jvm.MethodName) prog_6_method_1_code (1 : Nat) (Option.none : Option Jvm.ClassFile.FieldType) ∈ GW := gwt1 154 (by decide +kernel) rfl
theorem wd443 : Cond.methodLink "BakeryNight$Night" (3 : Nat) ({ cls := "java/lang/Object", name := "<init>", desc := "()V" } : Jvm.MethodName) ∈ GW := gwt1 155 (by decide +kernel) rfl
theorem wd444 : Cond.classLink "BakeryNight$Night" (18 : Nat) "[[I" ∈ GW := gwt1 156 (by decide +kernel) rfl
theorem wd445 : Cond.fieldLink "BakeryNight$Night" (99 : Nat) "BakeryNight$Night" "start" "I" ∈ GW := gwt1 157 (by decide +kernel) rfl
theorem wd446 : Cond.fieldLink "BakeryNight$Night" (86 : Nat) "BakeryNight$Night" "end" "I" ∈ GW := gwt1 158 (by decide +kernel) rfl
theorem wd447 : Cond.fieldLink "BakeryNight" (159 : Nat) "BakeryNight$Night" "end" "I" ∈ GW := gwt1 159 (by decide +kernel) rfl
theorem wd448 : Cond.fieldLink "BakeryNight$Night" (82 : Nat) "BakeryNight$Night" "batches" "I" ∈ GW := gwt1 160 (by decide +kernel) rfl
theorem wd449 : Cond.fieldLink "BakeryNight$Night" (11 : Nat) "BakeryNight$Night" "dough" "[I" ∈ GW := gwt1 161 (by decide +kernel) rfl
theorem wd450 : Cond.fieldLink "BakeryNight" (177 : Nat) "BakeryNight$Night" "dough" "[I" ∈ GW := gwt1 162 (by decide +kernel) rfl
theorem wd451 : Cond.fieldLink "BakeryNight$Night" (15 : Nat) "BakeryNight$Night" "oven" "[I" ∈ GW := gwt1 163 (by decide +kernel) rfl
theorem wd452 : Cond.fieldLink "BakeryNight" (187 : Nat) "BakeryNight$Night" "oven" "[I" ∈ GW := gwt1 164 (by decide +kernel) rfl
theorem wd453 : Cond.fieldLink "BakeryNight$Night" (20 : Nat) "BakeryNight$Night" "begun" "[[I" ∈ GW := gwt1 165 (by decide +kernel) rfl
theorem wd454 : Cond.fieldLink "BakeryNight" (183 : Nat) "BakeryNight$Night" "begun" "[[I" ∈ GW := gwt1 166 (by decide +kernel) rfl
theorem wd455 : Cond.fieldLink "BakeryNight$Night" (23 : Nat) "BakeryNight$Night" "risen" "[I" ∈ GW := gwt1 167 (by decide +kernel) rfl
theorem wd456 : Cond.fieldLink "BakeryNight$Night" (26 : Nat) "BakeryNight$Night" "proofed" "[I" ∈ GW := gwt1 168 (by decide +kernel) rfl
theorem wd457 : Cond.fieldLink "BakeryNight$Night" (29 : Nat) "BakeryNight$Night" "spoiled" "[I" ∈ GW := gwt1 169 (by decide +kernel) rfl
theorem wd458 : Cond.fieldLink "BakeryNight$Night" (102 : Nat) "BakeryNight$Night" "mixed" "I" ∈ GW := gwt1 170 (by decide +kernel) rfl
theorem wd459 : Cond.fieldLink "BakeryNight$Night" (32 : Nat) "BakeryNight$Night" "toShape" "[I" ∈ GW := gwt1 171 (by decide +kernel) rfl
theorem wd460 : Cond.fieldLink "BakeryNight$Night" (105 : Nat) "BakeryNight$Night" "toShapeTotal" "I" ∈ GW := gwt1 172 (by decide +kernel) rfl
theorem wd461 : Cond.fieldLink "BakeryNight$Night" (35 : Nat) "BakeryNight$Night" "toBake" "[I" ∈ GW := gwt1 173 (by decide +kernel) rfl
theorem wd462 : Cond.fieldLink "BakeryNight$Night" (108 : Nat) "BakeryNight$Night" "toBakeTotal" "I" ∈ GW := gwt1 174 (by decide +kernel) rfl
theorem wd463 : Cond.fieldLink "BakeryNight$Night" (40 : Nat) "BakeryNight$Night" "heat" "[I" ∈ GW := gwt1 175 (by decide +kernel) rfl
theorem wd464 : Cond.fieldLink "BakeryNight$Night" (43 : Nat) "BakeryNight$Night" "steady" "[I" ∈ GW := gwt1 176 (by decide +kernel) rfl
theorem wd465 : Cond.fieldLink "BakeryNight$Night" (46 : Nat) "BakeryNight$Night" "changed" "[I" ∈ GW := gwt1 177 (by decide +kernel) rfl
theorem wd466 : Cond.fieldLink "BakeryNight" (196 : Nat) "BakeryNight$Night" "changed" "[I" ∈ GW := gwt1 178 (by decide +kernel) rfl
theorem wd467 : Cond.fieldLink "BakeryNight$Night" (49 : Nat) "BakeryNight$Night" "taken" "[I" ∈ GW := gwt1 179 (by decide +kernel) rfl
theorem wd468 : Cond.fieldLink "BakeryNight$Night" (52 : Nat) "BakeryNight$Night" "ready" "[I" ∈ GW := gwt1 180 (by decide +kernel) rfl
theorem wd469 : Cond.fieldLink "BakeryNight$Plan" (75 : Nat) "BakeryNight$Night" "ready" "[I" ∈ GW := gwt1 181 (by decide +kernel) rfl
theorem wd470 : Cond.fieldLink "BakeryNight" (223 : Nat) "BakeryNight$Night" "ready" "[I" ∈ GW := gwt1 182 (by decide +kernel) rfl
theorem wd471 : Cond.fieldLink "BakeryNight$Night" (55 : Nat) "BakeryNight$Night" "oldest" "[I" ∈ GW := gwt1 183 (by decide +kernel) rfl
theorem wd513 : Cond.classLink "BakeryNight" (44 : Nat) "BakeryNight$Plan" ∈ GW := gwt1 225 (by decide +kernel) rfl
theorem wd514 : Cond.instantiable "BakeryNight$Plan" (15 : Nat) ∈ GW := gwt1 226 (by decide +kernel) rfl
theorem wd515 : Cond.methodLink "BakeryNight" (46 : Nat) ({ cls := "BakeryNight$Plan", name := "<init>", desc := "()V" } : Jvm.MethodName) ∈ GW := gwt1 227 (by decide +kernel) rfl
theorem wd516 : Cond.instanceMethod ({ cls := "BakeryNight$Plan", name := "<init>", desc := "()V" } : Jvm.MethodName) ∈ GW := gwt1 228 (by decide +kernel) rfl
theorem wd517 : Cond.code ({ cls := "BakeryNight$Plan", name := "<init>", desc := "()V" } : Jvm.MethodName) prog_10_method_1_code (1 : Nat) (Option.none : Option Jvm.ClassFile.FieldType) ∈ GW := gwt1 229 (by decide +kernel) rfl
theorem wd518 : Cond.methodLink "BakeryNight$Plan" (3 : Nat) ({ cls := "java/lang/Object", name := "<init>", desc := "()V" } : Jvm.MethodName) ∈ GW := gwt1 230 (by decide +kernel) rfl
theorem wd519 : Cond.fieldLink "BakeryNight$Plan" (11 : Nat) "BakeryNight$Plan" "due" "[I" ∈ GW := gwt1 231 (by decide +kernel) rfl
theorem wd520 : Cond.fieldLink "BakeryNight$Plan" (17 : Nat) "BakeryNight$Plan" "load" "[I" ∈ GW := gwt1 232 (by decide +kernel) rfl
theorem wd521 : Cond.fieldLink "BakeryNight$Plan" (20 : Nat) "BakeryNight$Plan" "readyAt" "[I" ∈ GW := gwt1 233 (by decide +kernel) rfl
theorem wd522 : Cond.fieldLink "BakeryNight$Plan" (95 : Nat) "BakeryNight$Plan" "served" "I" ∈ GW := gwt1 234 (by decide +kernel) rfl
theorem wd523 : Cond.fieldLink "BakeryNight$Plan" (55 : Nat) "BakeryNight$Plan" "missed" "I" ∈ GW := gwt1 235 (by decide +kernel) rfl
theorem wd524 : Cond.fieldLink "BakeryNight$Plan" (25 : Nat) "BakeryNight$Plan" "setLoad" "[I" ∈ GW := gwt1 236 (by decide +kernel) rfl
theorem wd525 : Cond.fieldLink "BakeryNight$Plan" (28 : Nat) "BakeryNight$Plan" "setLate" "[I" ∈ GW := gwt1 237 (by decide +kernel) rfl
theorem wd526 : Cond.fieldLink "BakeryNight$Plan" (31 : Nat) "BakeryNight$Plan" "setMinutes" "[I" ∈ GW := gwt1 238 (by decide +kernel) rfl
theorem wd527 : Cond.fieldLink "BakeryNight$Plan" (34 : Nat) "BakeryNight$Plan" "setSlack" "[I" ∈ GW := gwt1 239 (by decide +kernel) rfl
theorem wd528 : Cond.fieldLink "BakeryNight$Plan" (37 : Nat) "BakeryNight$Plan" "shopsOfVan" "[I" ∈ GW := gwt2 0 (by decide +kernel) rfl
theorem wd529 : Cond.fieldLink "BakeryNight$Plan" (40 : Nat) "BakeryNight$Plan" "vanOfShop" "[I" ∈ GW := gwt2 1 (by decide +kernel) rfl
theorem wd530 : Cond.fieldLink "BakeryNight$Plan" (98 : Nat) "BakeryNight$Plan" "possible" "Z" ∈ GW := gwt2 2 (by decide +kernel) rfl
theorem wd531 : Cond.fieldLink "BakeryNight" (249 : Nat) "BakeryNight$Plan" "possible" "Z" ∈ GW := gwt2 3 (by decide +kernel) rfl
theorem wd532 : Cond.fieldLink "BakeryNight$Plan" (117 : Nat) "BakeryNight$Plan" "lateTotal" "I" ∈ GW := gwt2 4 (by decide +kernel) rfl
theorem wd533 : Cond.fieldLink "BakeryNight" (255 : Nat) "BakeryNight$Plan" "lateTotal" "I" ∈ GW := gwt2 5 (by decide +kernel) rfl
theorem wd534 : Cond.fieldLink "BakeryNight$Plan" (43 : Nat) "BakeryNight$Plan" "bestShops" "[I" ∈ GW := gwt2 6 (by decide +kernel) rfl
theorem wd535 : Cond.fieldLink "BakeryNight$Plan" (46 : Nat) "BakeryNight$Plan" "arrival" "[I" ∈ GW := gwt2 7 (by decide +kernel) rfl
theorem wd567 : Cond.fieldLink "BakeryNight" (9 : Nat) "BakeryNight" "buffer" "[B" ∈ GW := gwt2 39 (by decide +kernel) rfl
theorem wd568 : Cond.fieldLink "BakeryNight" (57 : Nat) "BakeryNight" "length" "I" ∈ GW := gwt2 40 (by decide +kernel) rfl
theorem wd569 : Cond.fieldLink "BakeryNight" (16 : Nat) "BakeryNight" "parser" "LBakeryNight$Parser;" ∈ GW := gwt2 41 (by decide +kernel) rfl
theorem wd570 : Cond.fieldLink "BakeryNight" (23 : Nat) "BakeryNight" "bakery" "LBakeryNight$Bakery;" ∈ GW := gwt2 42 (by decide +kernel) rfl
theorem wd571 : Cond.fieldLink "BakeryNight" (27 : Nat) "BakeryNight" "spare" "LBakeryNight$Bakery;" ∈ GW := gwt2 43 (by decide +kernel) rfl
theorem wd572 : Cond.fieldLink "BakeryNight" (33 : Nat) "BakeryNight" "history" "LBakeryNight$History;" ∈ GW := gwt2 44 (by decide +kernel) rfl
theorem wd573 : Cond.fieldLink "BakeryNight" (40 : Nat) "BakeryNight" "night" "LBakeryNight$Night;" ∈ GW := gwt2 45 (by decide +kernel) rfl
theorem wd574 : Cond.fieldLink "BakeryNight" (47 : Nat) "BakeryNight" "plan" "LBakeryNight$Plan;" ∈ GW := gwt2 46 (by decide +kernel) rfl
theorem wd575 : Cond.fieldLink "BakeryNight" (152 : Nat) "BakeryNight" "simulated" "Z" ∈ GW := gwt2 47 (by decide +kernel) rfl
theorem wd576 : Cond.fieldLink "BakeryNight" (156 : Nat) "BakeryNight" "planned" "Z" ∈ GW := gwt2 48 (by decide +kernel) rfl
theorem wd577 : Cond.fieldLink "BakeryNight" (51 : Nat) "BakeryNight" "trialNight" "LBakeryNight$Night;" ∈ GW := gwt2 49 (by decide +kernel) rfl
theorem wd578 : Cond.fieldLink "BakeryNight" (54 : Nat) "BakeryNight" "trialPlan" "LBakeryNight$Plan;" ∈ GW := gwt2 50 (by decide +kernel) rfl
theorem wd604 : Cond.methodLink "BakeryNightLaw" (62 : Nat) ({ cls := "BakeryNight", name := "errorCode", desc := "()I" } : Jvm.MethodName) ∈ GW := gwt2 76 (by decide +kernel) rfl
theorem wd605 : Cond.instanceMethod ({ cls := "BakeryNight", name := "errorCode", desc := "()I" } : Jvm.MethodName) ∈ GW := gwt2 77 (by decide +kernel) rfl
theorem wd606 : Cond.selects "BakeryNight" ({ cls := "BakeryNight", name := "errorCode", desc := "()I" } : Jvm.MethodName) ({ cls := "BakeryNight", name := "errorCode", desc := "()I" } : Jvm.MethodName) ∈ GW := gwt2 78 (by decide +kernel) rfl
theorem wd607 : Cond.code ({ cls := "BakeryNight", name := "errorCode", desc := "()I" } : Jvm.MethodName) prog_1_method_6_code (1 : Nat) (Option.some Jvm.ClassFile.FieldType.int) ∈ GW := gwt2 79 (by decide +kernel) rfl
theorem wd608 : Cond.methodLink "BakeryNightLaw" (73 : Nat) ({ cls := "BakeryNight", name := "orderCount", desc := "()I" } : Jvm.MethodName) ∈ GW := gwt2 80 (by decide +kernel) rfl
theorem wd609 : Cond.instanceMethod ({ cls := "BakeryNight", name := "orderCount", desc := "()I" } : Jvm.MethodName) ∈ GW := gwt2 81 (by decide +kernel) rfl
theorem wd610 : Cond.selects "BakeryNight" ({ cls := "BakeryNight", name := "orderCount", desc := "()I" } : Jvm.MethodName) ({ cls := "BakeryNight", name := "orderCount", desc := "()I" } : Jvm.MethodName) ∈ GW := gwt2 82 (by decide +kernel) rfl
theorem wd611 : Cond.code ({ cls := "BakeryNight", name := "orderCount", desc := "()I" } : Jvm.MethodName) prog_1_method_8_code (1 : Nat) (Option.some Jvm.ClassFile.FieldType.int) ∈ GW := gwt2 83 (by decide +kernel) rfl
theorem wd612 : Cond.methodLink "BakeryNightLaw" (43 : Nat) ({ cls := "BakeryNight", name := "batchCount", desc := "()I" } : Jvm.MethodName) ∈ GW := gwt2 84 (by decide +kernel) rfl
theorem wd613 : Cond.instanceMethod ({ cls := "BakeryNight", name := "batchCount", desc := "()I" } : Jvm.MethodName) ∈ GW := gwt2 85 (by decide +kernel) rfl
theorem wd614 : Cond.selects "BakeryNight" ({ cls := "BakeryNight", name := "batchCount", desc := "()I" } : Jvm.MethodName) ({ cls := "BakeryNight", name := "batchCount", desc := "()I" } : Jvm.MethodName) ∈ GW := gwt2 86 (by decide +kernel) rfl
theorem wd615 : Cond.code ({ cls := "BakeryNight", name := "batchCount", desc := "()I" } : Jvm.MethodName) prog_1_method_10_code (2 : Nat) (Option.some Jvm.ClassFile.FieldType.int) ∈ GW := gwt2 87 (by decide +kernel) rfl
theorem wd616 : Cond.methodLink "BakeryNight" (92 : Nat) ({ cls := "BakeryNight$Bakery", name := "batchesNeeded", desc := "()I" } : Jvm.MethodName) ∈ GW := gwt2 88 (by decide +kernel) rfl
theorem wd617 : Cond.instanceMethod ({ cls := "BakeryNight$Bakery", name := "batchesNeeded", desc := "()I" } : Jvm.MethodName) ∈ GW := gwt2 89 (by decide +kernel) rfl
theorem wd618 : Cond.selects "BakeryNight$Bakery" ({ cls := "BakeryNight$Bakery", name := "batchesNeeded", desc := "()I" } : Jvm.MethodName) ({ cls := "BakeryNight$Bakery", name := "batchesNeeded", desc := "()I" } : Jvm.MethodName) ∈ GW := gwt2 90 (by decide +kernel) rfl
theorem wd619 : Cond.code ({ cls := "BakeryNight$Bakery", name := "batchesNeeded", desc := "()I" } : Jvm.MethodName) prog_3_method_12_code (3 : Nat) (Option.some Jvm.ClassFile.FieldType.int) ∈ GW := gwt2 91 (by decide +kernel) rfl
theorem wd620 : Cond.methodLink "BakeryNight$Bakery" (104 : Nat) ({ cls := "BakeryNight$Bakery", name := "batchesOf", desc := "(I)I" } : Jvm.MethodName) ∈ GW := gwt2 92 (by decide +kernel) rfl
theorem wd621 : Cond.instanceMethod ({ cls := "BakeryNight$Bakery", name := "batchesOf", desc := "(I)I" } : Jvm.MethodName) ∈ GW := gwt2 93 (by decide +kernel) rfl
theorem wd622 : Cond.selects "BakeryNight$Bakery" ({ cls := "BakeryNight$Bakery", name := "batchesOf", desc := "(I)I" } : Jvm.MethodName) ({ cls := "BakeryNight$Bakery", name := "batchesOf", desc := "(I)I" } : Jvm.MethodName) ∈ GW := gwt2 94 (by decide +kernel) rfl
theorem wd623 : Cond.code ({ cls := "BakeryNight$Bakery", name := "batchesOf", desc := "(I)I" } : Jvm.MethodName) prog_3_method_11_code (2 : Nat) (Option.some Jvm.ClassFile.FieldType.int) ∈ GW := gwt2 95 (by decide +kernel) rfl
theorem wd624 : Cond.methodLink "BakeryNight$Bakery" (99 : Nat) ({ cls := "BakeryNight$Bakery", name := "loavesOf", desc := "(I)I" } : Jvm.MethodName) ∈ GW := gwt2 96 (by decide +kernel) rfl
theorem wd625 : Cond.instanceMethod ({ cls := "BakeryNight$Bakery", name := "loavesOf", desc := "(I)I" } : Jvm.MethodName) ∈ GW := gwt2 97 (by decide +kernel) rfl
theorem wd626 : Cond.selects "BakeryNight$Bakery" ({ cls := "BakeryNight$Bakery", name := "loavesOf", desc := "(I)I" } : Jvm.MethodName) ({ cls := "BakeryNight$Bakery", name := "loavesOf", desc := "(I)I" } : Jvm.MethodName) ∈ GW := gwt2 98 (by decide +kernel) rfl
theorem wd627 : Cond.code ({ cls := "BakeryNight$Bakery", name := "loavesOf", desc := "(I)I" } : Jvm.MethodName) prog_3_method_10_code (4 : Nat) (Option.some Jvm.ClassFile.FieldType.int) ∈ GW := gwt2 99 (by decide +kernel) rfl
theorem wd628 : Cond.methodLink "BakeryNight$Bakery" (89 : Nat) ({ cls := "BakeryNight$Bakery", name := "hasOrder", desc := "(I)Z" } : Jvm.MethodName) ∈ GW := gwt2 100 (by decide +kernel) rfl
theorem wd629 : Cond.instanceMethod ({ cls := "BakeryNight$Bakery", name := "hasOrder", desc := "(I)Z" } : Jvm.MethodName) ∈ GW := gwt2 101 (by decide +kernel) rfl
theorem wd630 : Cond.selects "BakeryNight$Bakery" ({ cls := "BakeryNight$Bakery", name := "hasOrder", desc := "(I)Z" } : Jvm.MethodName) ({ cls := "BakeryNight$Bakery", name := "hasOrder", desc := "(I)Z" } : Jvm.MethodName) ∈ GW := gwt2 102 (by decide +kernel) rfl
theorem wd631 : Cond.code ({ cls := "BakeryNight$Bakery", name := "hasOrder", desc := "(I)Z" } : Jvm.MethodName) prog_3_method_7_code (2 : Nat) (Option.some Jvm.ClassFile.FieldType.boolean) ∈ GW := gwt2 103 (by decide +kernel) rfl
theorem wd633 : Cond.static ({ cls := "BakeryNight", name := "dividedUp", desc := "(II)I" } : Jvm.MethodName) ∈ GW := gwt2 105 (by decide +kernel) rfl
theorem wd634 : Cond.code ({ cls := "BakeryNight", name := "dividedUp", desc := "(II)I" } : Jvm.MethodName) prog_1_method_49_code (2 : Nat) (Option.some Jvm.ClassFile.FieldType.int) ∈ GW := gwt2 106 (by decide +kernel) rfl
theorem wd635 : Cond.methodLink "BakeryNightLaw" (59 : Nat) ({ cls := "BakeryNight", name := "routeMinutes", desc := "(I)I" } : Jvm.MethodName) ∈ GW := gwt2 107 (by decide +kernel) rfl
theorem wd636 : Cond.instanceMethod ({ cls := "BakeryNight", name := "routeMinutes", desc := "(I)I" } : Jvm.MethodName) ∈ GW := gwt2 108 (by decide +kernel) rfl
theorem wd637 : Cond.selects "BakeryNight" ({ cls := "BakeryNight", name := "routeMinutes", desc := "(I)I" } : Jvm.MethodName) ({ cls := "BakeryNight", name := "routeMinutes", desc := "(I)I" } : Jvm.MethodName) ∈ GW := gwt2 109 (by decide +kernel) rfl
theorem wd638 : Cond.code ({ cls := "BakeryNight", name := "routeMinutes", desc := "(I)I" } : Jvm.MethodName) prog_1_method_14_code (3 : Nat) (Option.some Jvm.ClassFile.FieldType.int) ∈ GW := gwt2 110 (by decide +kernel) rfl
theorem wd639 : Cond.methodLink "BakeryNight" (128 : Nat) ({ cls := "BakeryNight$Bakery", name := "allShops", desc := "()I" } : Jvm.MethodName) ∈ GW := gwt2 111 (by decide +kernel) rfl
theorem wd640 : Cond.instanceMethod ({ cls := "BakeryNight$Bakery", name := "allShops", desc := "()I" } : Jvm.MethodName) ∈ GW := gwt2 112 (by decide +kernel) rfl
theorem wd641 : Cond.selects "BakeryNight$Bakery" ({ cls := "BakeryNight$Bakery", name := "allShops", desc := "()I" } : Jvm.MethodName) ({ cls := "BakeryNight$Bakery", name := "allShops", desc := "()I" } : Jvm.MethodName) ∈ GW := gwt2 113 (by decide +kernel) rfl
theorem wd642 : Cond.code ({ cls := "BakeryNight$Bakery", name := "allShops", desc := "()I" } : Jvm.MethodName) prog_3_method_8_code (1 : Nat) (Option.some Jvm.ClassFile.FieldType.int) ∈ GW := gwt2 114 (by decide +kernel) rfl
theorem wd643 : Cond.methodLink "BakeryNight" (131 : Nat) ({ cls := "BakeryNight$Roads", name := "restOfRoute", desc := "(II)I" } : Jvm.MethodName) ∈ GW := gwt2 115 (by decide +kernel) rfl
theorem wd644 : Cond.instanceMethod ({ cls := "BakeryNight$Roads", name := "restOfRoute", desc := "(II)I" } : Jvm.MethodName) ∈ GW := gwt2 116 (by decide +kernel) rfl
theorem wd645 : Cond.selects "BakeryNight$Roads" ({ cls := "BakeryNight$Roads", name := "restOfRoute", desc := "(II)I" } : Jvm.MethodName) ({ cls := "BakeryNight$Roads", name := "restOfRoute", desc := "(II)I" } : Jvm.MethodName) ∈ GW := gwt2 117 (by decide +kernel) rfl
theorem wd646 : Cond.code ({ cls := "BakeryNight$Roads", name := "restOfRoute", desc := "(II)I" } : Jvm.MethodName) prog_11_method_3_code (3 : Nat) (Option.some Jvm.ClassFile.FieldType.int) ∈ GW := gwt2 118 (by decide +kernel) rfl
theorem wd647 : Cond.constant "BakeryNight" (124 : Nat) (1000000 : Int32) ∈ GW := gwt2 119 (by decide +kernel) rfl
theorem wd648 : Cond.methodLink "BakeryNightLaw" (49 : Nat) ({ cls := "BakeryNight", name := "simulate", desc := "(I)I" } : Jvm.MethodName) ∈ GW := gwt2 120 (by decide +kernel) rfl
theorem wd649 : Cond.instanceMethod ({ cls := "BakeryNight", name := "simulate", desc := "(I)I" } : Jvm.MethodName) ∈ GW := gwt2 121 (by decide +kernel) rfl
theorem wd650 : Cond.selects "BakeryNight" ({ cls := "BakeryNight", name := "simulate", desc := "(I)I" } : Jvm.MethodName) ({ cls := "BakeryNight", name := "simulate", desc := "(I)I" } : Jvm.MethodName) ∈ GW := gwt2 122 (by decide +kernel) rfl
theorem wd651 : Cond.code ({ cls := "BakeryNight", name := "simulate", desc := "(I)I" } : Jvm.MethodName) prog_1_method_16_code (2 : Nat) (Option.some Jvm.ClassFile.FieldType.int) ∈ GW := gwt2 123 (by decide +kernel) rfl
theorem wd652 : Cond.methodLink "BakeryNight" (145 : Nat) ({ cls := "BakeryNight", name := "batchCount", desc := "()I" } : Jvm.MethodName) ∈ GW := gwt2 124 (by decide +kernel) rfl
theorem wd653 : Cond.methodLink "BakeryNight" (148 : Nat) ({ cls := "BakeryNight$Night", name := "run", desc := "(LBakeryNight$Bakery;I)V" } : Jvm.MethodName) ∈ GW := gwt2 125 (by decide +kernel) rfl
theorem wd654 : Cond.instanceMethod ({ cls := "BakeryNight$Night", name := "run", desc := "(LBakeryNight$Bakery;I)V" } : Jvm.MethodName) ∈ GW := gwt2 126 (by decide +kernel) rfl
theorem wd655 : Cond.selects "BakeryNight$Night" ({ cls := "BakeryNight$Night", name := "run", desc := "(LBakeryNight$Bakery;I)V" } : Jvm.MethodName) ({ cls := "BakeryNight$Night", name := "run", desc := "(LBakeryNight$Bakery;I)V" } : Jvm.MethodName) ∈ GW := gwt2 127 (by decide +kernel) rfl
theorem wd656 : Cond.code ({ cls := "BakeryNight$Night", name := "run", desc := "(LBakeryNight$Bakery;I)V" } : Jvm.MethodName) prog_6_method_2_code (5 : Nat) (Option.none : Option Jvm.ClassFile.FieldType) ∈ GW := gwt2 128 (by decide +kernel) rfl
theorem wd657 : Cond.methodLink "BakeryNight$Night" (58 : Nat) ({ cls := "BakeryNight$Night", name := "begin", desc := "(LBakeryNight$Bakery;I)V" } : Jvm.MethodName) ∈ GW := gwt2 129 (by decide +kernel) rfl
theorem wd659 : Cond.instanceMethod ({ cls := "BakeryNight$Night", name := "begin", desc := "(LBakeryNight$Bakery;I)V" } : Jvm.MethodName) ∈ GW := gwt2 131 (by decide +kernel) rfl
theorem wd660 : Cond.code ({ cls := "BakeryNight$Night", name := "begin", desc := "(LBakeryNight$Bakery;I)V" } : Jvm.MethodName) prog_6_method_3_code (7 : Nat) (Option.none : Option Jvm.ClassFile.FieldType) ∈ GW := gwt2 132 (by decide +kernel) rfl
theorem wd661 : Cond.methodLink "BakeryNight$Night" (111 : Nat) ({ cls := "java/util/Arrays", name := "fill", desc := "([II)V" } : Jvm.MethodName) ∈ GW := gwt2 133 (by decide +kernel) rfl
theorem wd662 : Cond.methodLink "BakeryNight$Night" (128 : Nat) ({ cls := "BakeryNight$Night", name := "numberBatches", desc := "(LBakeryNight$Bakery;)V" } : Jvm.MethodName) ∈ GW := gwt2 134 (by decide +kernel) rfl
theorem wd664 : Cond.instanceMethod ({ cls := "BakeryNight$Night", name := "numberBatches", desc := "(LBakeryNight$Bakery;)V" } : Jvm.MethodName) ∈ GW := gwt2 136 (by decide +kernel) rfl
theorem wd665 : Cond.code ({ cls := "BakeryNight$Night", name := "numberBatches", desc := "(LBakeryNight$Bakery;)V" } : Jvm.MethodName) prog_6_method_4_code (6 : Nat) (Option.none : Option Jvm.ClassFile.FieldType) ∈ GW := gwt2 137 (by decide +kernel) rfl
theorem wd666 : Cond.methodLink "BakeryNight$Night" (134 : Nat) ({ cls := "BakeryNight$Bakery", name := "dueOf", desc := "(I)I" } : Jvm.MethodName) ∈ GW := gwt2 138 (by decide +kernel) rfl
theorem wd667 : Cond.instanceMethod ({ cls := "BakeryNight$Bakery", name := "dueOf", desc := "(I)I" } : Jvm.MethodName) ∈ GW := gwt2 139 (by decide +kernel) rfl
theorem wd668 : Cond.selects "BakeryNight$Bakery" ({ cls := "BakeryNight$Bakery", name := "dueOf", desc := "(I)I" } : Jvm.MethodName) ({ cls := "BakeryNight$Bakery", name := "dueOf", desc := "(I)I" } : Jvm.MethodName) ∈ GW := gwt2 140 (by decide +kernel) rfl
theorem wd669 : Cond.code ({ cls := "BakeryNight$Bakery", name := "dueOf", desc := "(I)I" } : Jvm.MethodName) prog_3_method_13_code (4 : Nat) (Option.some Jvm.ClassFile.FieldType.int) ∈ GW := gwt2 141 (by decide +kernel) rfl
theorem wd670 : Cond.methodLink "BakeryNight$Bakery" (110 : Nat) ({ cls := "java/lang/Math", name := "min", desc := "(II)I" } : Jvm.MethodName) ∈ GW := gwt2 142 (by decide +kernel) rfl
theorem wd671 : Cond.methodLink "BakeryNight$Night" (138 : Nat) ({ cls := "BakeryNight$Bakery", name := "batchesOf", desc := "(I)I" } : Jvm.MethodName) ∈ GW := gwt2 143 (by decide +kernel) rfl
theorem wd672 : Cond.methodLink "BakeryNight$Night" (141 : Nat) ({ cls := "java/lang/Math", name := "min", desc := "(II)I" } : Jvm.MethodName) ∈ GW := gwt2 144 (by decide +kernel) rfl
theorem wd673 : Cond.constant "BakeryNight$Night" (62 : Nat) (1000000 : Int32) ∈ GW := gwt2 145 (by decide +kernel) rfl
theorem wd674 : Cond.methodLink "BakeryNight$Night" (63 : Nat) ({ cls := "BakeryNight$Night", name := "noteWhatEnded", desc := "(LBakeryNight$Bakery;I)V" } : Jvm.MethodName) ∈ GW := gwt2 146 (by decide +kernel) rfl
theorem wd676 : Cond.instanceMethod ({ cls := "BakeryNight$Night", name := "noteWhatEnded", desc := "(LBakeryNight$Bakery;I)V" } : Jvm.MethodName) ∈ GW := gwt2 148 (by decide +kernel) rfl
theorem wd677 : Cond.code ({ cls := "BakeryNight$Night", name := "noteWhatEnded", desc := "(LBakeryNight$Bakery;I)V" } : Jvm.MethodName) prog_6_method_5_code (4 : Nat) (Option.none : Option Jvm.ClassFile.FieldType) ∈ GW := gwt2 149 (by decide +kernel) rfl
theorem wd678 : Cond.methodLink "BakeryNight$Night" (144 : Nat) ({ cls := "BakeryNight$Night", name := "shelvesTaken", desc := "(II)I" } : Jvm.MethodName) ∈ GW := gwt2 150 (by decide +kernel) rfl
theorem wd679 : Cond.instanceMethod ({ cls := "BakeryNight$Night", name := "shelvesTaken", desc := "(II)I" } : Jvm.MethodName) ∈ GW := gwt2 151 (by decide +kernel) rfl
theorem wd680 : Cond.selects "BakeryNight$Night" ({ cls := "BakeryNight$Night", name := "shelvesTaken", desc := "(II)I" } : Jvm.MethodName) ({ cls := "BakeryNight$Night", name := "shelvesTaken", desc := "(II)I" } : Jvm.MethodName) ∈ GW := gwt2 152 (by decide +kernel) rfl
theorem wd681 : Cond.code ({ cls := "BakeryNight$Night", name := "shelvesTaken", desc := "(II)I" } : Jvm.MethodName) prog_6_method_25_code (5 : Nat) (Option.some Jvm.ClassFile.FieldType.int) ∈ GW := gwt2 153 (by decide +kernel) rfl
theorem wd682 : Cond.methodLink "BakeryNight$Night" (261 : Nat) ({ cls := "BakeryNight$Night", name := "isIn", desc := "(III)Z" } : Jvm.MethodName) ∈ GW := gwt2 154 (by decide +kernel) rfl
theorem wd684 : Cond.instanceMethod ({ cls := "BakeryNight$Night", name := "isIn", desc := "(III)Z" } : Jvm.MethodName) ∈ GW := gwt2 156 (by decide +kernel) rfl
theorem wd685 : Cond.code ({ cls := "BakeryNight$Night", name := "isIn", desc := "(III)Z" } : Jvm.MethodName) prog_6_method_24_code (5 : Nat) (Option.some Jvm.ClassFile.FieldType.boolean) ∈ GW := gwt2 157 (by decide +kernel) rfl
theorem wd686 : Cond.methodLink "BakeryNight$Night" (66 : Nat) ({ cls := "BakeryNight$Night", name := "spoilWaiting", desc := "(LBakeryNight$Bakery;I)V" } : Jvm.MethodName) ∈ GW := gwt2 158 (by decide +kernel) rfl
theorem wd688 : Cond.instanceMethod ({ cls := "BakeryNight$Night", name := "spoilWaiting", desc := "(LBakeryNight$Bakery;I)V" } : Jvm.MethodName) ∈ GW := gwt2 160 (by decide +kernel) rfl
theorem wd689 : Cond.code ({ cls := "BakeryNight$Night", name := "spoilWaiting", desc := "(LBakeryNight$Bakery;I)V" } : Jvm.MethodName) prog_6_method_6_code (6 : Nat) (Option.none : Option Jvm.ClassFile.FieldType) ∈ GW := gwt2 161 (by decide +kernel) rfl
theorem wd690 : Cond.methodLink "BakeryNight$Night" (69 : Nat) ({ cls := "BakeryNight$Night", name := "bakeWaiting", desc := "(LBakeryNight$Bakery;I)V" } : Jvm.MethodName) ∈ GW := gwt2 162 (by decide +kernel) rfl
theorem wd692 : Cond.instanceMethod ({ cls := "BakeryNight$Night", name := "bakeWaiting", desc := "(LBakeryNight$Bakery;I)V" } : Jvm.MethodName) ∈ GW := gwt2 164 (by decide +kernel) rfl
theorem wd693 : Cond.code ({ cls := "BakeryNight$Night", name := "bakeWaiting", desc := "(LBakeryNight$Bakery;I)V" } : Jvm.MethodName) prog_6_method_7_code (8 : Nat) (Option.none : Option Jvm.ClassFile.FieldType) ∈ GW := gwt2 165 (by decide +kernel) rfl
theorem wd694 : Cond.methodLink "BakeryNight$Night" (157 : Nat) ({ cls := "BakeryNight$Night", name := "freeOven", desc := "(LBakeryNight$Bakery;II)I" } : Jvm.MethodName) ∈ GW := gwt2 166 (by decide +kernel) rfl
theorem wd696 : Cond.instanceMethod ({ cls := "BakeryNight$Night", name := "freeOven", desc := "(LBakeryNight$Bakery;II)I" } : Jvm.MethodName) ∈ GW := gwt2 168 (by decide +kernel) rfl
theorem wd697 : Cond.code ({ cls := "BakeryNight$Night", name := "freeOven", desc := "(LBakeryNight$Bakery;II)I" } : Jvm.MethodName) prog_6_method_8_code (6 : Nat) (Option.some Jvm.ClassFile.FieldType.int) ∈ GW := gwt2 169 (by decide +kernel) rfl
theorem wd698 : Cond.methodLink "BakeryNight$Night" (164 : Nat) ({ cls := "BakeryNight$Night", name := "changeAnOven", desc := "(LBakeryNight$Bakery;II)V" } : Jvm.MethodName) ∈ GW := gwt2 170 (by decide +kernel) rfl
theorem wd700 : Cond.instanceMethod ({ cls := "BakeryNight$Night", name := "changeAnOven", desc := "(LBakeryNight$Bakery;II)V" } : Jvm.MethodName) ∈ GW := gwt2 172 (by decide +kernel) rfl
theorem wd701 : Cond.code ({ cls := "BakeryNight$Night", name := "changeAnOven", desc := "(LBakeryNight$Bakery;II)V" } : Jvm.MethodName) prog_6_method_9_code (8 : Nat) (Option.none : Option Jvm.ClassFile.FieldType) ∈ GW := gwt2 173 (by decide +kernel) rfl
theorem wd702 : Cond.methodLink "BakeryNight$Night" (175 : Nat) ({ cls := "java/lang/Math", name := "abs", desc := "(I)I" } : Jvm.MethodName) ∈ GW := gwt2 174 (by decide +kernel) rfl
theorem wd703 : Cond.static ({ cls := "java/lang/Math", name := "abs", desc := "(I)I" } : Jvm.MethodName) ∈ GW := gwt2 175 (by decide +kernel) rfl
theorem wd704 : Cond.code ({ cls := "java/lang/Math", name := "abs", desc := "(I)I" } : Jvm.MethodName) prog_23_method_59_code (1 : Nat) (Option.some Jvm.ClassFile.FieldType.int) ∈ GW := gwt2 176 (by decide +kernel) rfl
theorem wd706 : Cond.methodLink "BakeryNight$Night" (72 : Nat) ({ cls := "BakeryNight$Night", name := "shapeWaiting", desc := "(LBakeryNight$Bakery;I)V" } : Jvm.MethodName) ∈ GW := gwt2 178 (by decide +kernel) rfl
theorem wd708 : Cond.instanceMethod ({ cls := "BakeryNight$Night", name := "shapeWaiting", desc := "(LBakeryNight$Bakery;I)V" } : Jvm.MethodName) ∈ GW := gwt2 180 (by decide +kernel) rfl
theorem wd709 : Cond.code ({ cls := "BakeryNight$Night", name := "shapeWaiting", desc := "(LBakeryNight$Bakery;I)V" } : Jvm.MethodName) prog_6_method_10_code (7 : Nat) (Option.none : Option Jvm.ClassFile.FieldType) ∈ GW := gwt2 181 (by decide +kernel) rfl
theorem wd710 : Cond.methodLink "BakeryNight$Night" (187 : Nat) ({ cls := "BakeryNight$Night", name := "inUse", desc := "(II)I" } : Jvm.MethodName) ∈ GW := gwt2 182 (by decide +kernel) rfl
theorem wd711 : Cond.instanceMethod ({ cls := "BakeryNight$Night", name := "inUse", desc := "(II)I" } : Jvm.MethodName) ∈ GW := gwt2 183 (by decide +kernel) rfl
theorem wd712 : Cond.selects "BakeryNight$Night" ({ cls := "BakeryNight$Night", name := "inUse", desc := "(II)I" } : Jvm.MethodName) ({ cls := "BakeryNight$Night", name := "inUse", desc := "(II)I" } : Jvm.MethodName) ∈ GW := gwt2 184 (by decide +kernel) rfl
theorem wd713 : Cond.code ({ cls := "BakeryNight$Night", name := "inUse", desc := "(II)I" } : Jvm.MethodName) prog_6_method_26_code (5 : Nat) (Option.some Jvm.ClassFile.FieldType.int) ∈ GW := gwt2 185 (by decide +kernel) rfl
theorem wd714 : Cond.methodLink "BakeryNight$Night" (89 : Nat) ({ cls := "java/lang/Math", name := "max", desc := "(II)I" } : Jvm.MethodName) ∈ GW := gwt2 186 (by decide +kernel) rfl
theorem wd715 : Cond.static ({ cls := "java/lang/Math", name := "max", desc := "(II)I" } : Jvm.MethodName) ∈ GW := gwt2 187 (by decide +kernel) rfl
theorem wd716 : Cond.code ({ cls := "java/lang/Math", name := "max", desc := "(II)I" } : Jvm.MethodName) prog_23_method_65_code (2 : Nat) (Option.some Jvm.ClassFile.FieldType.int) ∈ GW := gwt2 188 (by decide +kernel) rfl
theorem wd717 : Cond.methodLink "BakeryNight$Night" (196 : Nat) ({ cls := "BakeryNight$Bakery", name := "inThisRoom", desc := "(I)I" } : Jvm.MethodName) ∈ GW := gwt2 189 (by decide +kernel) rfl
theorem wd718 : Cond.instanceMethod ({ cls := "BakeryNight$Bakery", name := "inThisRoom", desc := "(I)I" } : Jvm.MethodName) ∈ GW := gwt2 190 (by decide +kernel) rfl
theorem wd719 : Cond.selects "BakeryNight$Bakery" ({ cls := "BakeryNight$Bakery", name := "inThisRoom", desc := "(I)I" } : Jvm.MethodName) ({ cls := "BakeryNight$Bakery", name := "inThisRoom", desc := "(I)I" } : Jvm.MethodName) ∈ GW := gwt2 191 (by decide +kernel) rfl
theorem wd720 : Cond.code ({ cls := "BakeryNight$Bakery", name := "inThisRoom", desc := "(I)I" } : Jvm.MethodName) prog_3_method_9_code (2 : Nat) (Option.some Jvm.ClassFile.FieldType.int) ∈ GW := gwt2 192 (by decide +kernel) rfl
theorem wd721 : Cond.methodLink "BakeryNight$Night" (199 : Nat) ({ cls := "java/lang/System", name := "arraycopy", desc := "(Ljava/lang/Object;ILjava/lang/Object;II)V" } : Jvm.MethodName) ∈ GW := gwt2 193 (by decide +kernel) rfl
theorem wd722 : Cond.static ({ cls := "java/lang/System", name := "arraycopy", desc := "(Ljava/lang/Object;ILjava/lang/Object;II)V" } : Jvm.MethodName) ∈ GW := gwt2 194 (by decide +kernel) rfl
theorem wd723 : Cond.native ({ cls := "java/lang/System", name := "arraycopy", desc := "(Ljava/lang/Object;ILjava/lang/Object;II)V" } : Jvm.MethodName) ∈ GW := gwt2 195 (by decide +kernel) rfl
theorem wd724 : Cond.methodLink "BakeryNight$Night" (75 : Nat) ({ cls := "BakeryNight$Night", name := "mixNext", desc := "(LBakeryNight$Bakery;I)V" } : Jvm.MethodName) ∈ GW := gwt2 196 (by decide +kernel) rfl
theorem wd726 : Cond.instanceMethod ({ cls := "BakeryNight$Night", name := "mixNext", desc := "(LBakeryNight$Bakery;I)V" } : Jvm.MethodName) ∈ GW := gwt2 198 (by decide +kernel) rfl
theorem wd727 : Cond.code ({ cls := "BakeryNight$Night", name := "mixNext", desc := "(LBakeryNight$Bakery;I)V" } : Jvm.MethodName) prog_6_method_11_code (5 : Nat) (Option.none : Option Jvm.ClassFile.FieldType) ∈ GW := gwt2 199 (by decide +kernel) rfl
theorem wd728 : Cond.methodLink "BakeryNight$Night" (78 : Nat) ({ cls := "BakeryNight$Night", name := "nextMinute", desc := "(LBakeryNight$Bakery;I)I" } : Jvm.MethodName) ∈ GW := gwt2 200 (by decide +kernel) rfl
theorem wd730 : Cond.instanceMethod ({ cls := "BakeryNight$Night", name := "nextMinute", desc := "(LBakeryNight$Bakery;I)I" } : Jvm.MethodName) ∈ GW := gwt2 202 (by decide +kernel) rfl
theorem wd731 : Cond.code ({ cls := "BakeryNight$Night", name := "nextMinute", desc := "(LBakeryNight$Bakery;I)I" } : Jvm.MethodName) prog_6_method_12_code (6 : Nat) (Option.some Jvm.ClassFile.FieldType.int) ∈ GW := gwt2 203 (by decide +kernel) rfl
theorem wd732 : Cond.methodLink "BakeryNight$Night" (214 : Nat) ({ cls := "BakeryNight$Night", name := "sooner", desc := "(III)I" } : Jvm.MethodName) ∈ GW := gwt2 204 (by decide +kernel) rfl
theorem wd733 : Cond.static ({ cls := "BakeryNight$Night", name := "sooner", desc := "(III)I" } : Jvm.MethodName) ∈ GW := gwt2 205 (by decide +kernel) rfl
theorem wd734 : Cond.code ({ cls := "BakeryNight$Night", name := "sooner", desc := "(III)I" } : Jvm.MethodName) prog_6_method_13_code (3 : Nat) (Option.some Jvm.ClassFile.FieldType.int) ∈ GW := gwt2 206 (by decide +kernel) rfl
theorem wd735 : Cond.methodLink "BakeryNight$Night" (95 : Nat) ({ cls := "BakeryNight$Night", name := "giveLoaves", desc := "(LBakeryNight$Bakery;)V" } : Jvm.MethodName) ∈ GW := gwt2 207 (by decide +kernel) rfl
theorem wd737 : Cond.instanceMethod ({ cls := "BakeryNight$Night", name := "giveLoaves", desc := "(LBakeryNight$Bakery;)V" } : Jvm.MethodName) ∈ GW := gwt2 209 (by decide +kernel) rfl
theorem wd738 : Cond.code ({ cls := "BakeryNight$Night", name := "giveLoaves", desc := "(LBakeryNight$Bakery;)V" } : Jvm.MethodName) prog_6_method_14_code (6 : Nat) (Option.none : Option Jvm.ClassFile.FieldType) ∈ GW := gwt2 210 (by decide +kernel) rfl
theorem wd739 : Cond.methodLink "BakeryNight$Night" (221 : Nat) ({ cls := "BakeryNight$Bakery", name := "hasOrder", desc := "(I)Z" } : Jvm.MethodName) ∈ GW := gwt2 211 (by decide +kernel) rfl
theorem wd740 : Cond.methodLink "BakeryNight$Night" (233 : Nat) ({ cls := "BakeryNight$Bakery", name := "loavesAheadOf", desc := "(I)I" } : Jvm.MethodName) ∈ GW := gwt2 212 (by decide +kernel) rfl
theorem wd741 : Cond.instanceMethod ({ cls := "BakeryNight$Bakery", name := "loavesAheadOf", desc := "(I)I" } : Jvm.MethodName) ∈ GW := gwt2 213 (by decide +kernel) rfl
theorem wd742 : Cond.selects "BakeryNight$Bakery" ({ cls := "BakeryNight$Bakery", name := "loavesAheadOf", desc := "(I)I" } : Jvm.MethodName) ({ cls := "BakeryNight$Bakery", name := "loavesAheadOf", desc := "(I)I" } : Jvm.MethodName) ∈ GW := gwt2 214 (by decide +kernel) rfl
theorem wd743 : Cond.code ({ cls := "BakeryNight$Bakery", name := "loavesAheadOf", desc := "(I)I" } : Jvm.MethodName) prog_3_method_14_code (4 : Nat) (Option.some Jvm.ClassFile.FieldType.int) ∈ GW := gwt2 215 (by decide +kernel) rfl
theorem wd744 : Cond.methodLink "BakeryNight$Bakery" (115 : Nat) ({ cls := "BakeryNight$Bakery", name := "comesBefore", desc := "(II)Z" } : Jvm.MethodName) ∈ GW := gwt2 216 (by decide +kernel) rfl
theorem wd746 : Cond.instanceMethod ({ cls := "BakeryNight$Bakery", name := "comesBefore", desc := "(II)Z" } : Jvm.MethodName) ∈ GW := gwt2 218 (by decide +kernel) rfl
theorem wd747 : Cond.code ({ cls := "BakeryNight$Bakery", name := "comesBefore", desc := "(II)Z" } : Jvm.MethodName) prog_3_method_15_code (4 : Nat) (Option.some Jvm.ClassFile.FieldType.boolean) ∈ GW := gwt2 219 (by decide +kernel) rfl
theorem wd748 : Cond.methodLink "BakeryNight$Night" (239 : Nat) ({ cls := "BakeryNight$Night", name := "takenOut", desc := "(LBakeryNight$Bakery;II)I" } : Jvm.MethodName) ∈ GW := gwt2 220 (by decide +kernel) rfl
theorem wd750 : Cond.instanceMethod ({ cls := "BakeryNight$Night", name := "takenOut", desc := "(LBakeryNight$Bakery;II)I" } : Jvm.MethodName) ∈ GW := gwt2 222 (by decide +kernel) rfl
theorem wd751 : Cond.code ({ cls := "BakeryNight$Night", name := "takenOut", desc := "(LBakeryNight$Bakery;II)I" } : Jvm.MethodName) prog_6_method_15_code (6 : Nat) (Option.some Jvm.ClassFile.FieldType.int) ∈ GW := gwt2 223 (by decide +kernel) rfl
theorem wd752 : Cond.methodLink "BakeryNightLaw" (40 : Nat) ({ cls := "BakeryNight", name := "spoiledCount", desc := "()I" } : Jvm.MethodName) ∈ GW := gwt2 224 (by decide +kernel) rfl
theorem wd753 : Cond.instanceMethod ({ cls := "BakeryNight", name := "spoiledCount", desc := "()I" } : Jvm.MethodName) ∈ GW := gwt2 225 (by decide +kernel) rfl
theorem wd754 : Cond.selects "BakeryNight" ({ cls := "BakeryNight", name := "spoiledCount", desc := "()I" } : Jvm.MethodName) ({ cls := "BakeryNight", name := "spoiledCount", desc := "()I" } : Jvm.MethodName) ∈ GW := gwt2 226 (by decide +kernel) rfl
theorem wd755 : Cond.code ({ cls := "BakeryNight", name := "spoiledCount", desc := "()I" } : Jvm.MethodName) prog_1_method_21_code (1 : Nat) (Option.some Jvm.ClassFile.FieldType.int) ∈ GW := gwt2 227 (by decide +kernel) rfl
theorem wd756 : Cond.methodLink "BakeryNight" (190 : Nat) ({ cls := "BakeryNight$Night", name := "spoiledBatches", desc := "()I" } : Jvm.MethodName) ∈ GW := gwt2 228 (by decide +kernel) rfl
theorem wd757 : Cond.instanceMethod ({ cls := "BakeryNight$Night", name := "spoiledBatches", desc := "()I" } : Jvm.MethodName) ∈ GW := gwt2 229 (by decide +kernel) rfl
theorem wd758 : Cond.selects "BakeryNight$Night" ({ cls := "BakeryNight$Night", name := "spoiledBatches", desc := "()I" } : Jvm.MethodName) ({ cls := "BakeryNight$Night", name := "spoiledBatches", desc := "()I" } : Jvm.MethodName) ∈ GW := gwt2 230 (by decide +kernel) rfl
theorem wd759 : Cond.code ({ cls := "BakeryNight$Night", name := "spoiledBatches", desc := "()I" } : Jvm.MethodName) prog_6_method_21_code (3 : Nat) (Option.some Jvm.ClassFile.FieldType.int) ∈ GW := gwt2 231 (by decide +kernel) rfl
theorem wd760 : Cond.methodLink "BakeryNightLaw" (53 : Nat) ({ cls := "BakeryNight", name := "failedShops", desc := "()I" } : Jvm.MethodName) ∈ GW := gwt2 232 (by decide +kernel) rfl
theorem wd761 : Cond.instanceMethod ({ cls := "BakeryNight", name := "failedShops", desc := "()I" } : Jvm.MethodName) ∈ GW := gwt2 233 (by decide +kernel) rfl
theorem wd762 : Cond.selects "BakeryNight" ({ cls := "BakeryNight", name := "failedShops", desc := "()I" } : Jvm.MethodName) ({ cls := "BakeryNight", name := "failedShops", desc := "()I" } : Jvm.MethodName) ∈ GW := gwt2 234 (by decide +kernel) rfl
theorem wd763 : Cond.code ({ cls := "BakeryNight", name := "failedShops", desc := "()I" } : Jvm.MethodName) prog_1_method_32_code (2 : Nat) (Option.some Jvm.ClassFile.FieldType.int) ∈ GW := gwt2 235 (by decide +kernel) rfl
theorem wd764 : Cond.methodLink "BakeryNight" (245 : Nat) ({ cls := "BakeryNight", name := "bestPlan", desc := "()LBakeryNight$Plan;" } : Jvm.MethodName) ∈ GW := gwt2 236 (by decide +kernel) rfl
theorem wd766 : Cond.instanceMethod ({ cls := "BakeryNight", name := "bestPlan", desc := "()LBakeryNight$Plan;" } : Jvm.MethodName) ∈ GW := gwt2 238 (by decide +kernel) rfl
theorem wd767 : Cond.code ({ cls := "BakeryNight", name := "bestPlan", desc := "()LBakeryNight$Plan;" } : Jvm.MethodName) prog_1_method_31_code (1 : Nat) (Option.some (Jvm.ClassFile.FieldType.object "BakeryNight$Plan")) ∈ GW := gwt2 239 (by decide +kernel) rfl
theorem wd768 : Cond.methodLink "BakeryNight" (237 : Nat) ({ cls := "BakeryNight$Plan", name := "gather", desc := "(LBakeryNight$Bakery;LBakeryNight$Night;)V" } : Jvm.MethodName) ∈ GW := gwt3 0 (by decide +kernel) rfl
theorem wd769 : Cond.instanceMethod ({ cls := "BakeryNight$Plan", name := "gather", desc := "(LBakeryNight$Bakery;LBakeryNight$Night;)V" } : Jvm.MethodName) ∈ GW := gwt3 1 (by decide +kernel) rfl
theorem wd770 : Cond.selects "BakeryNight$Plan" ({ cls := "BakeryNight$Plan", name := "gather", desc := "(LBakeryNight$Bakery;LBakeryNight$Night;)V" } : Jvm.MethodName) ({ cls := "BakeryNight$Plan", name := "gather", desc := "(LBakeryNight$Bakery;LBakeryNight$Night;)V" } : Jvm.MethodName) ∈ GW := gwt3 2 (by decide +kernel) rfl
theorem wd771 : Cond.code ({ cls := "BakeryNight$Plan", name := "gather", desc := "(LBakeryNight$Bakery;LBakeryNight$Night;)V" } : Jvm.MethodName) prog_10_method_2_code (6 : Nat) (Option.none : Option Jvm.ClassFile.FieldType) ∈ GW := gwt3 3 (by decide +kernel) rfl
theorem wd772 : Cond.methodLink "BakeryNight$Plan" (49 : Nat) ({ cls := "java/util/Arrays", name := "fill", desc := "([II)V" } : Jvm.MethodName) ∈ GW := gwt3 4 (by decide +kernel) rfl
theorem wd773 : Cond.methodLink "BakeryNight$Plan" (62 : Nat) ({ cls := "BakeryNight$Bakery", name := "hasOrder", desc := "(I)Z" } : Jvm.MethodName) ∈ GW := gwt3 5 (by decide +kernel) rfl
theorem wd774 : Cond.methodLink "BakeryNight$Plan" (83 : Nat) ({ cls := "java/lang/Math", name := "min", desc := "(II)I" } : Jvm.MethodName) ∈ GW := gwt3 6 (by decide +kernel) rfl
theorem wd775 : Cond.methodLink "BakeryNight$Plan" (92 : Nat) ({ cls := "java/lang/Math", name := "max", desc := "(II)I" } : Jvm.MethodName) ∈ GW := gwt3 7 (by decide +kernel) rfl
theorem wd776 : Cond.methodLink "BakeryNight" (241 : Nat) ({ cls := "BakeryNight$Plan", name := "choose", desc := "(LBakeryNight$Bakery;)V" } : Jvm.MethodName) ∈ GW := gwt3 8 (by decide +kernel) rfl
theorem wd777 : Cond.instanceMethod ({ cls := "BakeryNight$Plan", name := "choose", desc := "(LBakeryNight$Bakery;)V" } : Jvm.MethodName) ∈ GW := gwt3 9 (by decide +kernel) rfl
theorem wd778 : Cond.selects "BakeryNight$Plan" ({ cls := "BakeryNight$Plan", name := "choose", desc := "(LBakeryNight$Bakery;)V" } : Jvm.MethodName) ({ cls := "BakeryNight$Plan", name := "choose", desc := "(LBakeryNight$Bakery;)V" } : Jvm.MethodName) ∈ GW := gwt3 10 (by decide +kernel) rfl
theorem wd779 : Cond.code ({ cls := "BakeryNight$Plan", name := "choose", desc := "(LBakeryNight$Bakery;)V" } : Jvm.MethodName) prog_10_method_3_code (8 : Nat) (Option.none : Option Jvm.ClassFile.FieldType) ∈ GW := gwt3 11 (by decide +kernel) rfl
theorem wd780 : Cond.methodLink "BakeryNight$Plan" (102 : Nat) ({ cls := "BakeryNight$Plan", name := "measureSets", desc := "(LBakeryNight$Bakery;)V" } : Jvm.MethodName) ∈ GW := gwt3 12 (by decide +kernel) rfl
theorem wd782 : Cond.instanceMethod ({ cls := "BakeryNight$Plan", name := "measureSets", desc := "(LBakeryNight$Bakery;)V" } : Jvm.MethodName) ∈ GW := gwt3 14 (by decide +kernel) rfl
theorem wd783 : Cond.code ({ cls := "BakeryNight$Plan", name := "measureSets", desc := "(LBakeryNight$Bakery;)V" } : Jvm.MethodName) prog_10_method_8_code (3 : Nat) (Option.none : Option Jvm.ClassFile.FieldType) ∈ GW := gwt3 15 (by decide +kernel) rfl
theorem wd784 : Cond.methodLink "BakeryNight$Plan" (133 : Nat) ({ cls := "BakeryNight$Plan", name := "drive", desc := "(LBakeryNight$Roads;I)V" } : Jvm.MethodName) ∈ GW := gwt3 16 (by decide +kernel) rfl
theorem wd786 : Cond.instanceMethod ({ cls := "BakeryNight$Plan", name := "drive", desc := "(LBakeryNight$Roads;I)V" } : Jvm.MethodName) ∈ GW := gwt3 18 (by decide +kernel) rfl
theorem wd787 : Cond.code ({ cls := "BakeryNight$Plan", name := "drive", desc := "(LBakeryNight$Roads;I)V" } : Jvm.MethodName) prog_10_method_9_code (9 : Nat) (Option.none : Option Jvm.ClassFile.FieldType) ∈ GW := gwt3 19 (by decide +kernel) rfl
theorem wd788 : Cond.methodLink "BakeryNight$Plan" (150 : Nat) ({ cls := "BakeryNight$Plan", name := "departureFor", desc := "(I)I" } : Jvm.MethodName) ∈ GW := gwt3 20 (by decide +kernel) rfl
theorem wd790 : Cond.instanceMethod ({ cls := "BakeryNight$Plan", name := "departureFor", desc := "(I)I" } : Jvm.MethodName) ∈ GW := gwt3 22 (by decide +kernel) rfl
theorem wd791 : Cond.code ({ cls := "BakeryNight$Plan", name := "departureFor", desc := "(I)I" } : Jvm.MethodName) prog_10_method_10_code (4 : Nat) (Option.some Jvm.ClassFile.FieldType.int) ∈ GW := gwt3 23 (by decide +kernel) rfl
theorem wd792 : Cond.methodLink "BakeryNight$Plan" (153 : Nat) ({ cls := "BakeryNight$Roads", name := "nextStop", desc := "(II)I" } : Jvm.MethodName) ∈ GW := gwt3 24 (by decide +kernel) rfl
theorem wd793 : Cond.instanceMethod ({ cls := "BakeryNight$Roads", name := "nextStop", desc := "(II)I" } : Jvm.MethodName) ∈ GW := gwt3 25 (by decide +kernel) rfl
theorem wd794 : Cond.selects "BakeryNight$Roads" ({ cls := "BakeryNight$Roads", name := "nextStop", desc := "(II)I" } : Jvm.MethodName) ({ cls := "BakeryNight$Roads", name := "nextStop", desc := "(II)I" } : Jvm.MethodName) ∈ GW := gwt3 26 (by decide +kernel) rfl
theorem wd795 : Cond.code ({ cls := "BakeryNight$Roads", name := "nextStop", desc := "(II)I" } : Jvm.MethodName) prog_11_method_8_code (4 : Nat) (Option.some Jvm.ClassFile.FieldType.int) ∈ GW := gwt3 27 (by decide +kernel) rfl
theorem wd796 : Cond.methodLink "BakeryNight$Roads" (62 : Nat) ({ cls := "BakeryNight$Roads", name := "restOfRoute", desc := "(II)I" } : Jvm.MethodName) ∈ GW := gwt3 28 (by decide +kernel) rfl
theorem wd797 : Cond.methodLink "BakeryNight$Plan" (156 : Nat) ({ cls := "BakeryNight$Roads", name := "between", desc := "(II)I" } : Jvm.MethodName) ∈ GW := gwt3 29 (by decide +kernel) rfl
theorem wd798 : Cond.instanceMethod ({ cls := "BakeryNight$Roads", name := "between", desc := "(II)I" } : Jvm.MethodName) ∈ GW := gwt3 30 (by decide +kernel) rfl
theorem wd799 : Cond.selects "BakeryNight$Roads" ({ cls := "BakeryNight$Roads", name := "between", desc := "(II)I" } : Jvm.MethodName) ({ cls := "BakeryNight$Roads", name := "between", desc := "(II)I" } : Jvm.MethodName) ∈ GW := gwt3 31 (by decide +kernel) rfl
theorem wd800 : Cond.code ({ cls := "BakeryNight$Roads", name := "between", desc := "(II)I" } : Jvm.MethodName) prog_11_method_2_code (3 : Nat) (Option.some Jvm.ClassFile.FieldType.int) ∈ GW := gwt3 32 (by decide +kernel) rfl
theorem wd801 : Cond.methodLink "BakeryNight$Plan" (106 : Nat) ({ cls := "BakeryNight$Plan", name := "firstWay", desc := "(LBakeryNight$Bakery;)I" } : Jvm.MethodName) ∈ GW := gwt3 33 (by decide +kernel) rfl
theorem wd803 : Cond.instanceMethod ({ cls := "BakeryNight$Plan", name := "firstWay", desc := "(LBakeryNight$Bakery;)I" } : Jvm.MethodName) ∈ GW := gwt3 35 (by decide +kernel) rfl
theorem wd804 : Cond.code ({ cls := "BakeryNight$Plan", name := "firstWay", desc := "(LBakeryNight$Bakery;)I" } : Jvm.MethodName) prog_10_method_5_code (4 : Nat) (Option.some Jvm.ClassFile.FieldType.int) ∈ GW := gwt3 36 (by decide +kernel) rfl
theorem wd805 : Cond.methodLink "BakeryNight$Plan" (137 : Nat) ({ cls := "BakeryNight$Roads", name := "restOfRoute", desc := "(II)I" } : Jvm.MethodName) ∈ GW := gwt3 37 (by decide +kernel) rfl
theorem wd806 : Cond.constant "BakeryNight$Plan" (140 : Nat) (1000000 : Int32) ∈ GW := gwt3 38 (by decide +kernel) rfl
theorem wd807 : Cond.methodLink "BakeryNight$Plan" (141 : Nat) ({ cls := "java/lang/Integer", name := "bitCount", desc := "(I)I" } : Jvm.MethodName) ∈ GW := gwt3 39 (by decide +kernel) rfl
theorem wd808 : Cond.static ({ cls := "java/lang/Integer", name := "bitCount", desc := "(I)I" } : Jvm.MethodName) ∈ GW := gwt3 40 (by decide +kernel) rfl
theorem wd809 : Cond.code ({ cls := "java/lang/Integer", name := "bitCount", desc := "(I)I" } : Jvm.MethodName) prog_22_method_49_code (1 : Nat) (Option.some Jvm.ClassFile.FieldType.int) ∈ GW := gwt3 41 (by decide +kernel) rfl
theorem wd810 : Cond.constant "java/lang/Integer" (265 : Nat) (1431655765 : Int32) ∈ GW := gwt3 42 (by decide +kernel) rfl
theorem wd811 : Cond.constant "java/lang/Integer" (266 : Nat) (858993459 : Int32) ∈ GW := gwt3 43 (by decide +kernel) rfl
theorem wd812 : Cond.constant "java/lang/Integer" (267 : Nat) (252645135 : Int32) ∈ GW := gwt3 44 (by decide +kernel) rfl
theorem wd813 : Cond.methodLink "BakeryNight$Plan" (110 : Nat) ({ cls := "BakeryNight$Plan", name := "canCarry", desc := "(LBakeryNight$Bakery;)Z" } : Jvm.MethodName) ∈ GW := gwt3 45 (by decide +kernel) rfl
theorem wd815 : Cond.instanceMethod ({ cls := "BakeryNight$Plan", name := "canCarry", desc := "(LBakeryNight$Bakery;)Z" } : Jvm.MethodName) ∈ GW := gwt3 47 (by decide +kernel) rfl
theorem wd816 : Cond.code ({ cls := "BakeryNight$Plan", name := "canCarry", desc := "(LBakeryNight$Bakery;)Z" } : Jvm.MethodName) prog_10_method_7_code (3 : Nat) (Option.some Jvm.ClassFile.FieldType.boolean) ∈ GW := gwt3 48 (by decide +kernel) rfl
theorem wd817 : Cond.methodLink "BakeryNight$Plan" (120 : Nat) ({ cls := "java/lang/System", name := "arraycopy", desc := "(Ljava/lang/Object;ILjava/lang/Object;II)V" } : Jvm.MethodName) ∈ GW := gwt3 49 (by decide +kernel) rfl
theorem wd818 : Cond.methodLink "BakeryNight$Plan" (126 : Nat) ({ cls := "BakeryNight$Plan", name := "nextWay", desc := "(LBakeryNight$Bakery;)V" } : Jvm.MethodName) ∈ GW := gwt3 50 (by decide +kernel) rfl
theorem wd820 : Cond.instanceMethod ({ cls := "BakeryNight$Plan", name := "nextWay", desc := "(LBakeryNight$Bakery;)V" } : Jvm.MethodName) ∈ GW := gwt3 52 (by decide +kernel) rfl
theorem wd821 : Cond.code ({ cls := "BakeryNight$Plan", name := "nextWay", desc := "(LBakeryNight$Bakery;)V" } : Jvm.MethodName) prog_10_method_6_code (5 : Nat) (Option.none : Option Jvm.ClassFile.FieldType) ∈ GW := gwt3 53 (by decide +kernel) rfl
theorem wd822 : Cond.methodLink "BakeryNight" (252 : Nat) ({ cls := "BakeryNight$Plan", name := "missedTotal", desc := "()I" } : Jvm.MethodName) ∈ GW := gwt3 54 (by decide +kernel) rfl
theorem wd823 : Cond.instanceMethod ({ cls := "BakeryNight$Plan", name := "missedTotal", desc := "()I" } : Jvm.MethodName) ∈ GW := gwt3 55 (by decide +kernel) rfl
theorem wd824 : Cond.selects "BakeryNight$Plan" ({ cls := "BakeryNight$Plan", name := "missedTotal", desc := "()I" } : Jvm.MethodName) ({ cls := "BakeryNight$Plan", name := "missedTotal", desc := "()I" } : Jvm.MethodName) ∈ GW := gwt3 56 (by decide +kernel) rfl
theorem wd825 : Cond.code ({ cls := "BakeryNight$Plan", name := "missedTotal", desc := "()I" } : Jvm.MethodName) prog_10_method_11_code (1 : Nat) (Option.some Jvm.ClassFile.FieldType.int) ∈ GW := gwt3 57 (by decide +kernel) rfl
theorem wd826 : Cond.methodLink "BakeryNightLaw" (56 : Nat) ({ cls := "BakeryNight", name := "latestStart", desc := "()I" } : Jvm.MethodName) ∈ GW := gwt3 58 (by decide +kernel) rfl
theorem wd827 : Cond.instanceMethod ({ cls := "BakeryNight", name := "latestStart", desc := "()I" } : Jvm.MethodName) ∈ GW := gwt3 59 (by decide +kernel) rfl
theorem wd828 : Cond.selects "BakeryNight" ({ cls := "BakeryNight", name := "latestStart", desc := "()I" } : Jvm.MethodName) ({ cls := "BakeryNight", name := "latestStart", desc := "()I" } : Jvm.MethodName) ∈ GW := gwt3 60 (by decide +kernel) rfl
theorem wd829 : Cond.code ({ cls := "BakeryNight", name := "latestStart", desc := "()I" } : Jvm.MethodName) prog_1_method_37_code (1 : Nat) (Option.some Jvm.ClassFile.FieldType.int) ∈ GW := gwt3 61 (by decide +kernel) rfl
theorem wd830 : Cond.methodLink "BakeryNight" (274 : Nat) ({ cls := "BakeryNight", name := "latestAsItIs", desc := "()I" } : Jvm.MethodName) ∈ GW := gwt3 62 (by decide +kernel) rfl
theorem wd832 : Cond.instanceMethod ({ cls := "BakeryNight", name := "latestAsItIs", desc := "()I" } : Jvm.MethodName) ∈ GW := gwt3 64 (by decide +kernel) rfl
theorem wd833 : Cond.code ({ cls := "BakeryNight", name := "latestAsItIs", desc := "()I" } : Jvm.MethodName) prog_1_method_40_code (1 : Nat) (Option.some Jvm.ClassFile.FieldType.int) ∈ GW := gwt3 65 (by decide +kernel) rfl
theorem wd834 : Cond.methodLink "BakeryNight" (294 : Nat) ({ cls := "BakeryNight$Plan", name := "latest", desc := "(LBakeryNight$Bakery;)I" } : Jvm.MethodName) ∈ GW := gwt3 66 (by decide +kernel) rfl
theorem wd835 : Cond.instanceMethod ({ cls := "BakeryNight$Plan", name := "latest", desc := "(LBakeryNight$Bakery;)I" } : Jvm.MethodName) ∈ GW := gwt3 67 (by decide +kernel) rfl
theorem wd836 : Cond.selects "BakeryNight$Plan" ({ cls := "BakeryNight$Plan", name := "latest", desc := "(LBakeryNight$Bakery;)I" } : Jvm.MethodName) ({ cls := "BakeryNight$Plan", name := "latest", desc := "(LBakeryNight$Bakery;)I" } : Jvm.MethodName) ∈ GW := gwt3 68 (by decide +kernel) rfl
theorem wd837 : Cond.code ({ cls := "BakeryNight$Plan", name := "latest", desc := "(LBakeryNight$Bakery;)I" } : Jvm.MethodName) prog_10_method_4_code (7 : Nat) (Option.some Jvm.ClassFile.FieldType.int) ∈ GW := gwt3 69 (by decide +kernel) rfl
theorem wd838 : Cond.methodLink "BakeryNightLaw" (46 : Nat) ({ cls := "BakeryNight", name := "undo", desc := "()I" } : Jvm.MethodName) ∈ GW := gwt3 70 (by decide +kernel) rfl
theorem wd839 : Cond.instanceMethod ({ cls := "BakeryNight", name := "undo", desc := "()I" } : Jvm.MethodName) ∈ GW := gwt3 71 (by decide +kernel) rfl
theorem wd840 : Cond.selects "BakeryNight" ({ cls := "BakeryNight", name := "undo", desc := "()I" } : Jvm.MethodName) ({ cls := "BakeryNight", name := "undo", desc := "()I" } : Jvm.MethodName) ∈ GW := gwt3 72 (by decide +kernel) rfl
theorem wd841 : Cond.code ({ cls := "BakeryNight", name := "undo", desc := "()I" } : Jvm.MethodName) prog_1_method_48_code (1 : Nat) (Option.some Jvm.ClassFile.FieldType.int) ∈ GW := gwt3 73 (by decide +kernel) rfl
theorem wd842 : Cond.methodLink "BakeryNight" (340 : Nat) ({ cls := "BakeryNight$History", name := "takeBack", desc := "(LBakeryNight$Bakery;)V" } : Jvm.MethodName) ∈ GW := gwt3 74 (by decide +kernel) rfl
theorem wd843 : Cond.instanceMethod ({ cls := "BakeryNight$History", name := "takeBack", desc := "(LBakeryNight$Bakery;)V" } : Jvm.MethodName) ∈ GW := gwt3 75 (by decide +kernel) rfl
theorem wd844 : Cond.selects "BakeryNight$History" ({ cls := "BakeryNight$History", name := "takeBack", desc := "(LBakeryNight$Bakery;)V" } : Jvm.MethodName) ({ cls := "BakeryNight$History", name := "takeBack", desc := "(LBakeryNight$Bakery;)V" } : Jvm.MethodName) ∈ GW := gwt3 76 (by decide +kernel) rfl
theorem wd845 : Cond.code ({ cls := "BakeryNight$History", name := "takeBack", desc := "(LBakeryNight$Bakery;)V" } : Jvm.MethodName) prog_5_method_5_code (3 : Nat) (Option.none : Option Jvm.ClassFile.FieldType) ∈ GW := gwt3 77 (by decide +kernel) rfl
theorem wd846 : Cond.methodLink "BakeryNight$History" (47 : Nat) ({ cls := "BakeryNight$Bakery", name := "markStreet", desc := "(IZ)V" } : Jvm.MethodName) ∈ GW := gwt3 78 (by decide +kernel) rfl
theorem wd847 : Cond.instanceMethod ({ cls := "BakeryNight$Bakery", name := "markStreet", desc := "(IZ)V" } : Jvm.MethodName) ∈ GW := gwt3 79 (by decide +kernel) rfl
theorem wd848 : Cond.selects "BakeryNight$Bakery" ({ cls := "BakeryNight$Bakery", name := "markStreet", desc := "(IZ)V" } : Jvm.MethodName) ({ cls := "BakeryNight$Bakery", name := "markStreet", desc := "(IZ)V" } : Jvm.MethodName) ∈ GW := gwt3 80 (by decide +kernel) rfl
theorem wd849 : Cond.code ({ cls := "BakeryNight$Bakery", name := "markStreet", desc := "(IZ)V" } : Jvm.MethodName) prog_3_method_16_code (3 : Nat) (Option.none : Option Jvm.ClassFile.FieldType) ∈ GW := gwt3 81 (by decide +kernel) rfl
theorem wd850 : Cond.methodLink "BakeryNight" (72 : Nat) ({ cls := "BakeryNight", name := "dropNight", desc := "()V" } : Jvm.MethodName) ∈ GW := gwt3 82 (by decide +kernel) rfl
theorem wd852 : Cond.instanceMethod ({ cls := "BakeryNight", name := "dropNight", desc := "()V" } : Jvm.MethodName) ∈ GW := gwt3 84 (by decide +kernel) rfl
theorem wd853 : Cond.code ({ cls := "BakeryNight", name := "dropNight", desc := "()V" } : Jvm.MethodName) prog_1_method_17_code (1 : Nat) (Option.none : Option Jvm.ClassFile.FieldType) ∈ GW := gwt3 85 (by decide +kernel) rfl
theorem wd854 : Cond.methodLink "BakeryNightLaw" (76 : Nat) ({ cls := "BakeryNightLaw", name := "cell", desc := "([II)I" } : Jvm.MethodName) ∈ GW := gwt3 86 (by decide +kernel) rfl
theorem wd855 : Cond.static ({ cls := "BakeryNightLaw", name := "cell", desc := "([II)I" } : Jvm.MethodName) ∈ GW := gwt3 87 (by decide +kernel) rfl
theorem wd856 : Cond.code ({ cls := "BakeryNightLaw", name := "cell", desc := "([II)I" } : Jvm.MethodName) method_2_code (2 : Nat) (Option.some Jvm.ClassFile.FieldType.int) ∈ GW := gwt3 88 (by decide +kernel) rfl
theorem wd857 : Cond.constant "BakeryNightLaw" (7 : Nat) (1140671485 : Int32) ∈ GW := gwt3 89 (by decide +kernel) rfl
theorem wd858 : Cond.constant "BakeryNightLaw" (8 : Nat) (12820163 : Int32) ∈ GW := gwt3 90 (by decide +kernel) rfl
theorem wd859 : Cond.methodLink "BakeryNightLaw" (80 : Nat) ({ cls := "BakeryNightLaw", name := "between", desc := "(III)I" } : Jvm.MethodName) ∈ GW := gwt3 91 (by decide +kernel) rfl
theorem wd860 : Cond.static ({ cls := "BakeryNightLaw", name := "between", desc := "(III)I" } : Jvm.MethodName) ∈ GW := gwt3 92 (by decide +kernel) rfl
theorem wd861 : Cond.code ({ cls := "BakeryNightLaw", name := "between", desc := "(III)I" } : Jvm.MethodName) method_3_code (3 : Nat) (Option.some Jvm.ClassFile.FieldType.int) ∈ GW := gwt3 93 (by decide +kernel) rfl
theorem wd862 : Cond.constant "BakeryNightLaw" (9 : Nat) (2147483647 : Int32) ∈ GW := gwt3 94 (by decide +kernel) rfl
theorem wd863 : Cond.methodLink "BakeryNightLaw" (69 : Nat) ({ cls := "BakeryNightLaw", name := "parsed", desc := "(LBakeryNight;Ljava/lang/String;)I" } : Jvm.MethodName) ∈ GW := gwt3 95 (by decide +kernel) rfl
theorem wd864 : Cond.static ({ cls := "BakeryNightLaw", name := "parsed", desc := "(LBakeryNight;Ljava/lang/String;)I" } : Jvm.MethodName) ∈ GW := gwt3 96 (by decide +kernel) rfl
theorem wd865 : Cond.code ({ cls := "BakeryNightLaw", name := "parsed", desc := "(LBakeryNight;Ljava/lang/String;)I" } : Jvm.MethodName) method_5_code (2 : Nat) (Option.some Jvm.ClassFile.FieldType.int) ∈ GW := gwt3 97 (by decide +kernel) rfl
theorem wd866 : Cond.methodLink "BakeryNightLaw" (30 : Nat) ({ cls := "BakeryNightLaw", name := "text", desc := "(LBakeryNight;Ljava/lang/String;)V" } : Jvm.MethodName) ∈ GW := gwt3 98 (by decide +kernel) rfl
theorem wd867 : Cond.static ({ cls := "BakeryNightLaw", name := "text", desc := "(LBakeryNight;Ljava/lang/String;)V" } : Jvm.MethodName) ∈ GW := gwt3 99 (by decide +kernel) rfl
theorem wd868 : Cond.code ({ cls := "BakeryNightLaw", name := "text", desc := "(LBakeryNight;Ljava/lang/String;)V" } : Jvm.MethodName) method_4_code (5 : Nat) (Option.none : Option Jvm.ClassFile.FieldType) ∈ GW := gwt3 100 (by decide +kernel) rfl
theorem wd869 : Cond.methodLink "BakeryNightLaw" (10 : Nat) ({ cls := "java/lang/String", name := "length", desc := "()I" } : Jvm.MethodName) ∈ GW := gwt3 101 (by decide +kernel) rfl
theorem wd870 : Cond.instanceMethod ({ cls := "java/lang/String", name := "length", desc := "()I" } : Jvm.MethodName) ∈ GW := gwt3 102 (by decide +kernel) rfl
theorem wd871 : Cond.selects "java/lang/String" ({ cls := "java/lang/String", name := "length", desc := "()I" } : Jvm.MethodName) ({ cls := "java/lang/String", name := "length", desc := "()I" } : Jvm.MethodName) ∈ GW := gwt3 103 (by decide +kernel) rfl
theorem wd872 : Cond.code ({ cls := "java/lang/String", name := "length", desc := "()I" } : Jvm.MethodName) prog_26_method_54_code (1 : Nat) (Option.some Jvm.ClassFile.FieldType.int) ∈ GW := gwt3 104 (by decide +kernel) rfl
theorem wd873 : Cond.methodLink "java/lang/String" (335 : Nat) ({ cls := "java/lang/String", name := "coder", desc := "()B" } : Jvm.MethodName) ∈ GW := gwt3 105 (by decide +kernel) rfl
theorem wd874 : Cond.instanceMethod ({ cls := "java/lang/String", name := "coder", desc := "()B" } : Jvm.MethodName) ∈ GW := gwt3 106 (by decide +kernel) rfl
theorem wd875 : Cond.selects "java/lang/String" ({ cls := "java/lang/String", name := "coder", desc := "()B" } : Jvm.MethodName) ({ cls := "java/lang/String", name := "coder", desc := "()B" } : Jvm.MethodName) ∈ GW := gwt3 107 (by decide +kernel) rfl
theorem wd876 : Cond.code ({ cls := "java/lang/String", name := "coder", desc := "()B" } : Jvm.MethodName) prog_26_method_152_code (1 : Nat) (Option.some Jvm.ClassFile.FieldType.byte) ∈ GW := gwt3 108 (by decide +kernel) rfl
theorem wd877 : Cond.fieldLink "java/lang/String" (38 : Nat) "java/lang/String" "COMPACT_STRINGS" "Z" ∈ GW := gwt3 109 (by decide +kernel) rfl
theorem wd879 : Cond.methodLink "BakeryNightLaw" (16 : Nat) ({ cls := "java/lang/String", name := "charAt", desc := "(I)C" } : Jvm.MethodName) ∈ GW := gwt3 111 (by decide +kernel) rfl
theorem wd880 : Cond.instanceMethod ({ cls := "java/lang/String", name := "charAt", desc := "(I)C" } : Jvm.MethodName) ∈ GW := gwt3 112 (by decide +kernel) rfl
theorem wd881 : Cond.selects "java/lang/String" ({ cls := "java/lang/String", name := "charAt", desc := "(I)C" } : Jvm.MethodName) ({ cls := "java/lang/String", name := "charAt", desc := "(I)C" } : Jvm.MethodName) ∈ GW := gwt3 113 (by decide +kernel) rfl
theorem wd882 : Cond.code ({ cls := "java/lang/String", name := "charAt", desc := "(I)C" } : Jvm.MethodName) prog_26_method_56_code (2 : Nat) (Option.some Jvm.ClassFile.FieldType.char) ∈ GW := gwt3 114 (by decide +kernel) rfl
theorem wd883 : Cond.methodLink "java/lang/String" (492 : Nat) ({ cls := "java/lang/String", name := "isLatin1", desc := "()Z" } : Jvm.MethodName) ∈ GW := gwt3 115 (by decide +kernel) rfl
theorem wd884 : Cond.instanceMethod ({ cls := "java/lang/String", name := "isLatin1", desc := "()Z" } : Jvm.MethodName) ∈ GW := gwt3 116 (by decide +kernel) rfl
theorem wd885 : Cond.selects "java/lang/String" ({ cls := "java/lang/String", name := "isLatin1", desc := "()Z" } : Jvm.MethodName) ({ cls := "java/lang/String", name := "isLatin1", desc := "()Z" } : Jvm.MethodName) ∈ GW := gwt3 117 (by decide +kernel) rfl
theorem wd886 : Cond.code ({ cls := "java/lang/String", name := "isLatin1", desc := "()Z" } : Jvm.MethodName) prog_26_method_154_code (1 : Nat) (Option.some Jvm.ClassFile.FieldType.boolean) ∈ GW := gwt3 118 (by decide +kernel) rfl
theorem wd887 : Cond.methodLink "java/lang/String" (495 : Nat) ({ cls := "java/lang/StringLatin1", name := "charAt", desc := "([BI)C" } : Jvm.MethodName) ∈ GW := gwt3 119 (by decide +kernel) rfl
theorem wd888 : Cond.static ({ cls := "java/lang/StringLatin1", name := "charAt", desc := "([BI)C" } : Jvm.MethodName) ∈ GW := gwt3 120 (by decide +kernel) rfl
theorem wd889 : Cond.code ({ cls := "java/lang/StringLatin1", name := "charAt", desc := "([BI)C" } : Jvm.MethodName) prog_28_method_2_code (2 : Nat) (Option.some Jvm.ClassFile.FieldType.char) ∈ GW := gwt3 121 (by decide +kernel) rfl
theorem wd890 : Cond.methodLink "java/lang/StringLatin1" (9 : Nat) ({ cls := "java/lang/String", name := "checkIndex", desc := "(II)V" } : Jvm.MethodName) ∈ GW := gwt3 122 (by decide +kernel) rfl
theorem wd891 : Cond.static ({ cls := "java/lang/String", name := "checkIndex", desc := "(II)V" } : Jvm.MethodName) ∈ GW := gwt3 123 (by decide +kernel) rfl
theorem wd892 : Cond.code ({ cls := "java/lang/String", name := "checkIndex", desc := "(II)V" } : Jvm.MethodName) prog_26_method_155_code (2 : Nat) (Option.none : Option Jvm.ClassFile.FieldType) ∈ GW := gwt3 124 (by decide +kernel) rfl
theorem wd893 : Cond.fieldLink "java/lang/String" (1053 : Nat) "jdk/internal/util/Preconditions" "SIOOBE_FORMATTER" "Ljava/util/function/BiFunction;" ∈ GW := gwt3 125 (by decide +kernel) rfl
theorem wd895 : Cond.methodLink "java/lang/String" (1059 : Nat) ({ cls := "jdk/internal/util/Preconditions", name := "checkIndex", desc := "(IILjava/util/function/BiFunction;)I" } : Jvm.MethodName) ∈ GW := gwt3 127 (by decide +kernel) rfl
theorem wd896 : Cond.static ({ cls := "jdk/internal/util/Preconditions", name := "checkIndex", desc := "(IILjava/util/function/BiFunction;)I" } : Jvm.MethodName) ∈ GW := gwt3 128 (by decide +kernel) rfl
theorem wd897 : Cond.code ({ cls := "jdk/internal/util/Preconditions", name := "checkIndex", desc := "(IILjava/util/function/BiFunction;)I" } : Jvm.MethodName) prog_34_method_11_code (3 : Nat) (Option.some Jvm.ClassFile.FieldType.int) ∈ GW := gwt3 129 (by decide +kernel) rfl
theorem wd898 : Cond.methodLink "java/lang/String" (498 : Nat) ({ cls := "java/lang/StringUTF16", name := "charAt", desc := "([BI)C" } : Jvm.MethodName) ∈ GW := gwt3 130 (by decide +kernel) rfl
theorem wd899 : Cond.static ({ cls := "java/lang/StringUTF16", name := "charAt", desc := "([BI)C" } : Jvm.MethodName) ∈ GW := gwt3 131 (by decide +kernel) rfl
theorem wd900 : Cond.code ({ cls := "java/lang/StringUTF16", name := "charAt", desc := "([BI)C" } : Jvm.MethodName) prog_29_method_83_code (2 : Nat) (Option.some Jvm.ClassFile.FieldType.char) ∈ GW := gwt3 132 (by decide +kernel) rfl
theorem wd901 : Cond.methodLink "java/lang/StringUTF16" (67 : Nat) ({ cls := "java/lang/StringUTF16", name := "checkIndex", desc := "(I[B)V" } : Jvm.MethodName) ∈ GW := gwt3 133 (by decide +kernel) rfl
theorem wd902 : Cond.static ({ cls := "java/lang/StringUTF16", name := "checkIndex", desc := "(I[B)V" } : Jvm.MethodName) ∈ GW := gwt3 134 (by decide +kernel) rfl
theorem wd903 : Cond.code ({ cls := "java/lang/StringUTF16", name := "checkIndex", desc := "(I[B)V" } : Jvm.MethodName) prog_29_method_91_code (2 : Nat) (Option.none : Option Jvm.ClassFile.FieldType) ∈ GW := gwt3 135 (by decide +kernel) rfl
theorem wd904 : Cond.methodLink "java/lang/StringUTF16" (48 : Nat) ({ cls := "java/lang/StringUTF16", name := "length", desc := "([B)I" } : Jvm.MethodName) ∈ GW := gwt3 136 (by decide +kernel) rfl
theorem wd905 : Cond.static ({ cls := "java/lang/StringUTF16", name := "length", desc := "([B)I" } : Jvm.MethodName) ∈ GW := gwt3 137 (by decide +kernel) rfl
theorem wd906 : Cond.code ({ cls := "java/lang/StringUTF16", name := "length", desc := "([B)I" } : Jvm.MethodName) prog_29_method_6_code (1 : Nat) (Option.some Jvm.ClassFile.FieldType.int) ∈ GW := gwt3 138 (by decide +kernel) rfl
theorem wd907 : Cond.methodLink "java/lang/StringUTF16" (414 : Nat) ({ cls := "java/lang/String", name := "checkIndex", desc := "(II)V" } : Jvm.MethodName) ∈ GW := gwt3 139 (by decide +kernel) rfl
theorem wd908 : Cond.methodLink "java/lang/StringUTF16" (71 : Nat) ({ cls := "java/lang/StringUTF16", name := "getChar", desc := "([BI)C" } : Jvm.MethodName) ∈ GW := gwt3 140 (by decide +kernel) rfl
theorem wd909 : Cond.static ({ cls := "java/lang/StringUTF16", name := "getChar", desc := "([BI)C" } : Jvm.MethodName) ∈ GW := gwt3 141 (by decide +kernel) rfl
theorem wd910 : Cond.code ({ cls := "java/lang/StringUTF16", name := "getChar", desc := "([BI)C" } : Jvm.MethodName) prog_29_method_5_code (2 : Nat) (Option.some Jvm.ClassFile.FieldType.char) ∈ GW := gwt3 142 (by decide +kernel) rfl
theorem wd911 : Cond.fieldLink "java/lang/StringUTF16" (44 : Nat) "java/lang/StringUTF16" "$assertionsDisabled" "Z" ∈ GW := gwt3 143 (by decide +kernel) rfl
theorem wd913 : Cond.fieldLink "java/lang/StringUTF16" (59 : Nat) "java/lang/StringUTF16" "HI_BYTE_SHIFT" "I" ∈ GW := gwt3 145 (by decide +kernel) rfl
theorem wd915 : Cond.fieldLink "java/lang/StringUTF16" (63 : Nat) "java/lang/StringUTF16" "LO_BYTE_SHIFT" "I" ∈ GW := gwt3 147 (by decide +kernel) rfl
theorem wd917 : Cond.methodLink "BakeryNightLaw" (20 : Nat) ({ cls := "BakeryNight", name := "feed", desc := "(IIIII)I" } : Jvm.MethodName) ∈ GW := gwt3 149 (by decide +kernel) rfl
theorem wd918 : Cond.instanceMethod ({ cls := "BakeryNight", name := "feed", desc := "(IIIII)I" } : Jvm.MethodName) ∈ GW := gwt3 150 (by decide +kernel) rfl
theorem wd919 : Cond.selects "BakeryNight" ({ cls := "BakeryNight", name := "feed", desc := "(IIIII)I" } : Jvm.MethodName) ({ cls := "BakeryNight", name := "feed", desc := "(IIIII)I" } : Jvm.MethodName) ∈ GW := gwt3 151 (by decide +kernel) rfl
theorem wd920 : Cond.code ({ cls := "BakeryNight", name := "feed", desc := "(IIIII)I" } : Jvm.MethodName) prog_1_method_2_code (6 : Nat) (Option.some Jvm.ClassFile.FieldType.int) ∈ GW := gwt3 152 (by decide +kernel) rfl
theorem wd921 : Cond.methodLink "BakeryNight" (61 : Nat) ({ cls := "BakeryNight", name := "append", desc := "(I)V" } : Jvm.MethodName) ∈ GW := gwt3 153 (by decide +kernel) rfl
theorem wd923 : Cond.instanceMethod ({ cls := "BakeryNight", name := "append", desc := "(I)V" } : Jvm.MethodName) ∈ GW := gwt3 155 (by decide +kernel) rfl
theorem wd924 : Cond.code ({ cls := "BakeryNight", name := "append", desc := "(I)V" } : Jvm.MethodName) prog_1_method_3_code (3 : Nat) (Option.none : Option Jvm.ClassFile.FieldType) ∈ GW := gwt3 156 (by decide +kernel) rfl
theorem wd925 : Cond.methodLink "BakeryNightLaw" (26 : Nat) ({ cls := "BakeryNight", name := "truncate", desc := "(I)Z" } : Jvm.MethodName) ∈ GW := gwt3 157 (by decide +kernel) rfl
theorem wd926 : Cond.instanceMethod ({ cls := "BakeryNight", name := "truncate", desc := "(I)Z" } : Jvm.MethodName) ∈ GW := gwt3 158 (by decide +kernel) rfl
theorem wd927 : Cond.selects "BakeryNight" ({ cls := "BakeryNight", name := "truncate", desc := "(I)Z" } : Jvm.MethodName) ({ cls := "BakeryNight", name := "truncate", desc := "(I)Z" } : Jvm.MethodName) ∈ GW := gwt3 159 (by decide +kernel) rfl
theorem wd928 : Cond.code ({ cls := "BakeryNight", name := "truncate", desc := "(I)Z" } : Jvm.MethodName) prog_1_method_4_code (2 : Nat) (Option.some Jvm.ClassFile.FieldType.boolean) ∈ GW := gwt3 160 (by decide +kernel) rfl
theorem wd929 : Cond.methodLink "BakeryNightLaw" (36 : Nat) ({ cls := "BakeryNight", name := "parseBakery", desc := "()I" } : Jvm.MethodName) ∈ GW := gwt3 161 (by decide +kernel) rfl
theorem wd930 : Cond.instanceMethod ({ cls := "BakeryNight", name := "parseBakery", desc := "()I" } : Jvm.MethodName) ∈ GW := gwt3 162 (by decide +kernel) rfl
theorem wd931 : Cond.selects "BakeryNight" ({ cls := "BakeryNight", name := "parseBakery", desc := "()I" } : Jvm.MethodName) ({ cls := "BakeryNight", name := "parseBakery", desc := "()I" } : Jvm.MethodName) ∈ GW := gwt3 163 (by decide +kernel) rfl
theorem wd932 : Cond.code ({ cls := "BakeryNight", name := "parseBakery", desc := "()I" } : Jvm.MethodName) prog_1_method_5_code (3 : Nat) (Option.some Jvm.ClassFile.FieldType.int) ∈ GW := gwt3 164 (by decide +kernel) rfl
theorem wd933 : Cond.methodLink "BakeryNight" (65 : Nat) ({ cls := "BakeryNight$Parser", name := "parse", desc := "([BILBakeryNight$Bakery;)I" } : Jvm.MethodName) ∈ GW := gwt3 165 (by decide +kernel) rfl
theorem wd934 : Cond.instanceMethod ({ cls := "BakeryNight$Parser", name := "parse", desc := "([BILBakeryNight$Bakery;)I" } : Jvm.MethodName) ∈ GW := gwt3 166 (by decide +kernel) rfl
theorem wd935 : Cond.selects "BakeryNight$Parser" ({ cls := "BakeryNight$Parser", name := "parse", desc := "([BILBakeryNight$Bakery;)I" } : Jvm.MethodName) ({ cls := "BakeryNight$Parser", name := "parse", desc := "([BILBakeryNight$Bakery;)I" } : Jvm.MethodName) ∈ GW := gwt3 167 (by decide +kernel) rfl
theorem wd936 : Cond.code ({ cls := "BakeryNight$Parser", name := "parse", desc := "([BILBakeryNight$Bakery;)I" } : Jvm.MethodName) prog_9_method_2_code (5 : Nat) (Option.some Jvm.ClassFile.FieldType.int) ∈ GW := gwt3 168 (by decide +kernel) rfl
theorem wd937 : Cond.methodLink "BakeryNight$Parser" (47 : Nat) ({ cls := "BakeryNight$Bakery", name := "clear", desc := "()V" } : Jvm.MethodName) ∈ GW := gwt3 169 (by decide +kernel) rfl
theorem wd938 : Cond.methodLink "BakeryNight$Parser" (50 : Nat) ({ cls := "BakeryNight$Scanner", name := "begin", desc := "([BI)V" } : Jvm.MethodName) ∈ GW := gwt3 170 (by decide +kernel) rfl
theorem wd939 : Cond.instanceMethod ({ cls := "BakeryNight$Scanner", name := "begin", desc := "([BI)V" } : Jvm.MethodName) ∈ GW := gwt3 171 (by decide +kernel) rfl
theorem wd940 : Cond.selects "BakeryNight$Scanner" ({ cls := "BakeryNight$Scanner", name := "begin", desc := "([BI)V" } : Jvm.MethodName) ({ cls := "BakeryNight$Scanner", name := "begin", desc := "([BI)V" } : Jvm.MethodName) ∈ GW := gwt3 172 (by decide +kernel) rfl
theorem wd941 : Cond.code ({ cls := "BakeryNight$Scanner", name := "begin", desc := "([BI)V" } : Jvm.MethodName) prog_12_method_2_code (3 : Nat) (Option.none : Option Jvm.ClassFile.FieldType) ∈ GW := gwt3 173 (by decide +kernel) rfl
theorem wd942 : Cond.methodLink "BakeryNight$Scanner" (13 : Nat) ({ cls := "java/lang/Math", name := "min", desc := "(II)I" } : Jvm.MethodName) ∈ GW := gwt3 174 (by decide +kernel) rfl
theorem wd943 : Cond.methodLink "BakeryNight$Scanner" (26 : Nat) ({ cls := "BakeryNight$Scanner", name := "next", desc := "()V" } : Jvm.MethodName) ∈ GW := gwt3 175 (by decide +kernel) rfl
theorem wd944 : Cond.instanceMethod ({ cls := "BakeryNight$Scanner", name := "next", desc := "()V" } : Jvm.MethodName) ∈ GW := gwt3 176 (by decide +kernel) rfl
theorem wd945 : Cond.selects "BakeryNight$Scanner" ({ cls := "BakeryNight$Scanner", name := "next", desc := "()V" } : Jvm.MethodName) ({ cls := "BakeryNight$Scanner", name := "next", desc := "()V" } : Jvm.MethodName) ∈ GW := gwt3 177 (by decide +kernel) rfl
theorem wd946 : Cond.code ({ cls := "BakeryNight$Scanner", name := "next", desc := "()V" } : Jvm.MethodName) prog_12_method_3_code (1 : Nat) (Option.none : Option Jvm.ClassFile.FieldType) ∈ GW := gwt3 178 (by decide +kernel) rfl
theorem wd947 : Cond.methodLink "BakeryNight$Scanner" (32 : Nat) ({ cls := "BakeryNight$Scanner", name := "kindOf", desc := "(I)I" } : Jvm.MethodName) ∈ GW := gwt3 179 (by decide +kernel) rfl
theorem wd948 : Cond.static ({ cls := "BakeryNight$Scanner", name := "kindOf", desc := "(I)I" } : Jvm.MethodName) ∈ GW := gwt3 180 (by decide +kernel) rfl
theorem wd949 : Cond.code ({ cls := "BakeryNight$Scanner", name := "kindOf", desc := "(I)I" } : Jvm.MethodName) prog_12_method_4_code (1 : Nat) (Option.some Jvm.ClassFile.FieldType.int) ∈ GW := gwt3 181 (by decide +kernel) rfl
theorem wd950 : Cond.methodLink "BakeryNight$Parser" (57 : Nat) ({ cls := "BakeryNight$Parser", name := "readStatement", desc := "(LBakeryNight$Bakery;)V" } : Jvm.MethodName) ∈ GW := gwt3 182 (by decide +kernel) rfl
theorem wd952 : Cond.instanceMethod ({ cls := "BakeryNight$Parser", name := "readStatement", desc := "(LBakeryNight$Bakery;)V" } : Jvm.MethodName) ∈ GW := gwt3 184 (by decide +kernel) rfl
theorem wd953 : Cond.code ({ cls := "BakeryNight$Parser", name := "readStatement", desc := "(LBakeryNight$Bakery;)V" } : Jvm.MethodName) prog_9_method_5_code (3 : Nat) (Option.none : Option Jvm.ClassFile.FieldType) ∈ GW := gwt3 185 (by decide +kernel) rfl
theorem wd954 : Cond.methodLink "BakeryNight$Parser" (77 : Nat) ({ cls := "BakeryNight$Scanner", name := "keyword", desc := "()LBakeryNight$Word;" } : Jvm.MethodName) ∈ GW := gwt3 186 (by decide +kernel) rfl
theorem wd955 : Cond.instanceMethod ({ cls := "BakeryNight$Scanner", name := "keyword", desc := "()LBakeryNight$Word;" } : Jvm.MethodName) ∈ GW := gwt3 187 (by decide +kernel) rfl
theorem wd956 : Cond.selects "BakeryNight$Scanner" ({ cls := "BakeryNight$Scanner", name := "keyword", desc := "()LBakeryNight$Word;" } : Jvm.MethodName) ({ cls := "BakeryNight$Scanner", name := "keyword", desc := "()LBakeryNight$Word;" } : Jvm.MethodName) ∈ GW := gwt3 188 (by decide +kernel) rfl
theorem wd957 : Cond.code ({ cls := "BakeryNight$Scanner", name := "keyword", desc := "()LBakeryNight$Word;" } : Jvm.MethodName) prog_12_method_9_code (7 : Nat) (Option.some (Jvm.ClassFile.FieldType.object "BakeryNight$Word")) ∈ GW := gwt3 189 (by decide +kernel) rfl
theorem wd958 : Cond.fieldLink "BakeryNight$Scanner" (47 : Nat) "BakeryNight$Scanner" "WORDS" "[LBakeryNight$Word;" ∈ GW := gwt3 190 (by decide +kernel) rfl
theorem wd960 : Cond.methodLink "BakeryNight$Scanner" (56 : Nat) ({ cls := "java/lang/String", name := "length", desc := "()I" } : Jvm.MethodName) ∈ GW := gwt3 192 (by decide +kernel) rfl
theorem wd961 : Cond.methodLink "BakeryNight$Scanner" (61 : Nat) ({ cls := "java/lang/String", name := "charAt", desc := "(I)C" } : Jvm.MethodName) ∈ GW := gwt3 193 (by decide +kernel) rfl
theorem wd962 : Cond.methodLink "BakeryNight$Parser" (81 : Nat) ({ cls := "BakeryNight$Parser", name := "fail", desc := "(I)V" } : Jvm.MethodName) ∈ GW := gwt3 194 (by decide +kernel) rfl
theorem wd964 : Cond.instanceMethod ({ cls := "BakeryNight$Parser", name := "fail", desc := "(I)V" } : Jvm.MethodName) ∈ GW := gwt3 196 (by decide +kernel) rfl
theorem wd965 : Cond.code ({ cls := "BakeryNight$Parser", name := "fail", desc := "(I)V" } : Jvm.MethodName) prog_9_method_3_code (2 : Nat) (Option.none : Option Jvm.ClassFile.FieldType) ∈ GW := gwt3 197 (by decide +kernel) rfl
theorem wd966 : Cond.fieldLink "BakeryNight$Parser" (85 : Nat) "BakeryNight$1" "$SwitchMap$BakeryNight$Word" "[I" ∈ GW := gwt3 198 (by decide +kernel) rfl
theorem wd968 : Cond.methodLink "BakeryNight$Parser" (91 : Nat) ({ cls := "BakeryNight$Word", name := "ordinal", desc := "()I" } : Jvm.MethodName) ∈ GW := gwt3 200 (by decide +kernel) rfl
theorem wd971 : Cond.selects "BakeryNight$Word" ({ cls := "BakeryNight$Word", name := "ordinal", desc := "()I" } : Jvm.MethodName) ({ cls := "java/lang/Enum", name := "ordinal", desc := "()I" } : Jvm.MethodName) ∈ GW := gwt3 203 (by decide +kernel) rfl
theorem wd972 : Cond.instanceMethod ({ cls := "java/lang/Enum", name := "ordinal", desc := "()I" } : Jvm.MethodName) ∈ GW := gwt3 204 (by decide +kernel) rfl
theorem wd973 : Cond.code ({ cls := "java/lang/Enum", name := "ordinal", desc := "()I" } : Jvm.MethodName) prog_18_method_2_code (1 : Nat) (Option.some Jvm.ClassFile.FieldType.int) ∈ GW := gwt3 205 (by decide +kernel) rfl
theorem wd974 : Cond.methodLink "BakeryNight$Parser" (97 : Nat) ({ cls := "BakeryNight$Parser", name := "readSetting", desc := "(ZII)I" } : Jvm.MethodName) ∈ GW := gwt3 206 (by decide +kernel) rfl
theorem wd976 : Cond.instanceMethod ({ cls := "BakeryNight$Parser", name := "readSetting", desc := "(ZII)I" } : Jvm.MethodName) ∈ GW := gwt3 208 (by decide +kernel) rfl
theorem wd977 : Cond.code ({ cls := "BakeryNight$Parser", name := "readSetting", desc := "(ZII)I" } : Jvm.MethodName) prog_9_method_7_code (4 : Nat) (Option.some Jvm.ClassFile.FieldType.int) ∈ GW := gwt3 209 (by decide +kernel) rfl
theorem wd978 : Cond.methodLink "BakeryNight$Parser" (138 : Nat) ({ cls := "BakeryNight$Scanner", name := "next", desc := "()V" } : Jvm.MethodName) ∈ GW := gwt3 210 (by decide +kernel) rfl
theorem wd979 : Cond.methodLink "BakeryNight$Parser" (141 : Nat) ({ cls := "BakeryNight$Parser", name := "readNumber", desc := "(II)I" } : Jvm.MethodName) ∈ GW := gwt3 211 (by decide +kernel) rfl
theorem wd981 : Cond.instanceMethod ({ cls := "BakeryNight$Parser", name := "readNumber", desc := "(II)I" } : Jvm.MethodName) ∈ GW := gwt3 213 (by decide +kernel) rfl
theorem wd982 : Cond.code ({ cls := "BakeryNight$Parser", name := "readNumber", desc := "(II)I" } : Jvm.MethodName) prog_9_method_16_code (4 : Nat) (Option.some Jvm.ClassFile.FieldType.int) ∈ GW := gwt3 214 (by decide +kernel) rfl
theorem wd983 : Cond.methodLink "BakeryNight$Parser" (297 : Nat) ({ cls := "BakeryNight$Scanner", name := "isNumber", desc := "()Z" } : Jvm.MethodName) ∈ GW := gwt3 215 (by decide +kernel) rfl
theorem wd984 : Cond.instanceMethod ({ cls := "BakeryNight$Scanner", name := "isNumber", desc := "()Z" } : Jvm.MethodName) ∈ GW := gwt3 216 (by decide +kernel) rfl
theorem wd985 : Cond.selects "BakeryNight$Scanner" ({ cls := "BakeryNight$Scanner", name := "isNumber", desc := "()Z" } : Jvm.MethodName) ({ cls := "BakeryNight$Scanner", name := "isNumber", desc := "()Z" } : Jvm.MethodName) ∈ GW := gwt3 217 (by decide +kernel) rfl
theorem wd986 : Cond.code ({ cls := "BakeryNight$Scanner", name := "isNumber", desc := "()Z" } : Jvm.MethodName) prog_12_method_5_code (1 : Nat) (Option.some Jvm.ClassFile.FieldType.boolean) ∈ GW := gwt3 218 (by decide +kernel) rfl
theorem wd987 : Cond.methodLink "BakeryNight$Parser" (300 : Nat) ({ cls := "BakeryNight$Scanner", name := "value", desc := "()I" } : Jvm.MethodName) ∈ GW := gwt3 219 (by decide +kernel) rfl
theorem wd988 : Cond.instanceMethod ({ cls := "BakeryNight$Scanner", name := "value", desc := "()I" } : Jvm.MethodName) ∈ GW := gwt3 220 (by decide +kernel) rfl
theorem wd989 : Cond.selects "BakeryNight$Scanner" ({ cls := "BakeryNight$Scanner", name := "value", desc := "()I" } : Jvm.MethodName) ({ cls := "BakeryNight$Scanner", name := "value", desc := "()I" } : Jvm.MethodName) ∈ GW := gwt3 221 (by decide +kernel) rfl
theorem wd990 : Cond.code ({ cls := "BakeryNight$Scanner", name := "value", desc := "()I" } : Jvm.MethodName) prog_12_method_6_code (3 : Nat) (Option.some Jvm.ClassFile.FieldType.int) ∈ GW := gwt3 222 (by decide +kernel) rfl
theorem wd991 : Cond.methodLink "BakeryNight$Parser" (134 : Nat) ({ cls := "BakeryNight$Parser", name := "failed", desc := "()Z" } : Jvm.MethodName) ∈ GW := gwt3 223 (by decide +kernel) rfl
theorem wd993 : Cond.instanceMethod ({ cls := "BakeryNight$Parser", name := "failed", desc := "()Z" } : Jvm.MethodName) ∈ GW := gwt3 225 (by decide +kernel) rfl
theorem wd994 : Cond.code ({ cls := "BakeryNight$Parser", name := "failed", desc := "()Z" } : Jvm.MethodName) prog_9_method_4_code (1 : Nat) (Option.some Jvm.ClassFile.FieldType.boolean) ∈ GW := gwt3 226 (by decide +kernel) rfl
theorem wd995 : Cond.methodLink "BakeryNight$Parser" (113 : Nat) ({ cls := "BakeryNight$Parser", name := "readDough", desc := "(LBakeryNight$Bakery;)V" } : Jvm.MethodName) ∈ GW := gwt3 227 (by decide +kernel) rfl
theorem wd997 : Cond.instanceMethod ({ cls := "BakeryNight$Parser", name := "readDough", desc := "(LBakeryNight$Bakery;)V" } : Jvm.MethodName) ∈ GW := gwt3 229 (by decide +kernel) rfl
theorem wd998 : Cond.code ({ cls := "BakeryNight$Parser", name := "readDough", desc := "(LBakeryNight$Bakery;)V" } : Jvm.MethodName) prog_9_method_9_code (4 : Nat) (Option.none : Option Jvm.ClassFile.FieldType) ∈ GW := gwt3 230 (by decide +kernel) rfl
theorem wd999 : Cond.methodLink "BakeryNight$Parser" (148 : Nat) ({ cls := "BakeryNight$Parser", name := "beginOneOf", desc := "(II)V" } : Jvm.MethodName) ∈ GW := gwt3 231 (by decide +kernel) rfl
theorem wd1001 : Cond.instanceMethod ({ cls := "BakeryNight$Parser", name := "beginOneOf", desc := "(II)V" } : Jvm.MethodName) ∈ GW := gwt3 233 (by decide +kernel) rfl
theorem wd1002 : Cond.code ({ cls := "BakeryNight$Parser", name := "beginOneOf", desc := "(II)V" } : Jvm.MethodName) prog_9_method_8_code (3 : Nat) (Option.none : Option Jvm.ClassFile.FieldType) ∈ GW := gwt3 234 (by decide +kernel) rfl
theorem wd1003 : Cond.methodLink "BakeryNight$Parser" (151 : Nat) ({ cls := "BakeryNight$Parser", name := "readNewName", desc := "([JI)V" } : Jvm.MethodName) ∈ GW := gwt3 235 (by decide +kernel) rfl
theorem wd1005 : Cond.instanceMethod ({ cls := "BakeryNight$Parser", name := "readNewName", desc := "([JI)V" } : Jvm.MethodName) ∈ GW := gwt3 237 (by decide +kernel) rfl
theorem wd1006 : Cond.code ({ cls := "BakeryNight$Parser", name := "readNewName", desc := "([JI)V" } : Jvm.MethodName) prog_9_method_17_code (3 : Nat) (Option.none : Option Jvm.ClassFile.FieldType) ∈ GW := gwt3 238 (by decide +kernel) rfl
theorem wd1007 : Cond.methodLink "BakeryNight$Parser" (303 : Nat) ({ cls := "BakeryNight$Scanner", name := "isName", desc := "()Z" } : Jvm.MethodName) ∈ GW := gwt3 239 (by decide +kernel) rfl
theorem wd1008 : Cond.instanceMethod ({ cls := "BakeryNight$Scanner", name := "isName", desc := "()Z" } : Jvm.MethodName) ∈ GW := gwt4 0 (by decide +kernel) rfl
theorem wd1009 : Cond.selects "BakeryNight$Scanner" ({ cls := "BakeryNight$Scanner", name := "isName", desc := "()Z" } : Jvm.MethodName) ({ cls := "BakeryNight$Scanner", name := "isName", desc := "()Z" } : Jvm.MethodName) ∈ GW := gwt4 1 (by decide +kernel) rfl
theorem wd1010 : Cond.code ({ cls := "BakeryNight$Scanner", name := "isName", desc := "()Z" } : Jvm.MethodName) prog_12_method_7_code (1 : Nat) (Option.some Jvm.ClassFile.FieldType.boolean) ∈ GW := gwt4 2 (by decide +kernel) rfl
theorem wd1011 : Cond.methodLink "BakeryNight$Scanner" (39 : Nat) ({ cls := "BakeryNight$Scanner", name := "keyword", desc := "()LBakeryNight$Word;" } : Jvm.MethodName) ∈ GW := gwt4 3 (by decide +kernel) rfl
theorem wd1012 : Cond.methodLink "BakeryNight$Parser" (306 : Nat) ({ cls := "BakeryNight$Parser", name := "indexOfName", desc := "([JI)I" } : Jvm.MethodName) ∈ GW := gwt4 4 (by decide +kernel) rfl
theorem wd1014 : Cond.instanceMethod ({ cls := "BakeryNight$Parser", name := "indexOfName", desc := "([JI)I" } : Jvm.MethodName) ∈ GW := gwt4 6 (by decide +kernel) rfl
theorem wd1015 : Cond.code ({ cls := "BakeryNight$Parser", name := "indexOfName", desc := "([JI)I" } : Jvm.MethodName) prog_9_method_19_code (6 : Nat) (Option.some Jvm.ClassFile.FieldType.int) ∈ GW := gwt4 7 (by decide +kernel) rfl
theorem wd1016 : Cond.methodLink "BakeryNight$Parser" (309 : Nat) ({ cls := "BakeryNight$Scanner", name := "letters", desc := "()J" } : Jvm.MethodName) ∈ GW := gwt4 8 (by decide +kernel) rfl
theorem wd1017 : Cond.instanceMethod ({ cls := "BakeryNight$Scanner", name := "letters", desc := "()J" } : Jvm.MethodName) ∈ GW := gwt4 9 (by decide +kernel) rfl
theorem wd1018 : Cond.selects "BakeryNight$Scanner" ({ cls := "BakeryNight$Scanner", name := "letters", desc := "()J" } : Jvm.MethodName) ({ cls := "BakeryNight$Scanner", name := "letters", desc := "()J" } : Jvm.MethodName) ∈ GW := gwt4 10 (by decide +kernel) rfl
theorem wd1019 : Cond.code ({ cls := "BakeryNight$Scanner", name := "letters", desc := "()J" } : Jvm.MethodName) prog_12_method_8_code (4 : Nat) (Option.some Jvm.ClassFile.FieldType.long) ∈ GW := gwt4 11 (by decide +kernel) rfl
theorem wd1020 : Cond.constantLong "BakeryNight$Scanner" (43 : Nat) (32 : Int64) ∈ GW := gwt4 12 (by decide +kernel) rfl
theorem wd1021 : Cond.constantLong "BakeryNight$Scanner" (45 : Nat) (97 : Int64) ∈ GW := gwt4 13 (by decide +kernel) rfl
theorem wd1022 : Cond.fieldLink "BakeryNight$Parser" (159 : Nat) "BakeryNight$Word" "MIX" "LBakeryNight$Word;" ∈ GW := gwt4 14 (by decide +kernel) rfl
theorem wd1024 : Cond.methodLink "BakeryNight$Parser" (163 : Nat) ({ cls := "BakeryNight$Parser", name := "readField", desc := "(LBakeryNight$Word;II)I" } : Jvm.MethodName) ∈ GW := gwt4 16 (by decide +kernel) rfl
theorem wd1026 : Cond.instanceMethod ({ cls := "BakeryNight$Parser", name := "readField", desc := "(LBakeryNight$Word;II)I" } : Jvm.MethodName) ∈ GW := gwt4 18 (by decide +kernel) rfl
theorem wd1027 : Cond.code ({ cls := "BakeryNight$Parser", name := "readField", desc := "(LBakeryNight$Word;II)I" } : Jvm.MethodName) prog_9_method_15_code (4 : Nat) (Option.some Jvm.ClassFile.FieldType.int) ∈ GW := gwt4 19 (by decide +kernel) rfl
theorem wd1028 : Cond.fieldLink "BakeryNight$Parser" (172 : Nat) "BakeryNight$Word" "RISE" "LBakeryNight$Word;" ∈ GW := gwt4 20 (by decide +kernel) rfl
theorem wd1030 : Cond.fieldLink "BakeryNight$Parser" (178 : Nat) "BakeryNight$Word" "SHAPE" "LBakeryNight$Word;" ∈ GW := gwt4 22 (by decide +kernel) rfl
theorem wd1032 : Cond.fieldLink "BakeryNight$Parser" (184 : Nat) "BakeryNight$Word" "PROOF" "LBakeryNight$Word;" ∈ GW := gwt4 24 (by decide +kernel) rfl
theorem wd1034 : Cond.fieldLink "BakeryNight$Parser" (190 : Nat) "BakeryNight$Word" "LIMIT" "LBakeryNight$Word;" ∈ GW := gwt4 26 (by decide +kernel) rfl
theorem wd1036 : Cond.fieldLink "BakeryNight$Parser" (196 : Nat) "BakeryNight$Word" "BAKE" "LBakeryNight$Word;" ∈ GW := gwt4 28 (by decide +kernel) rfl
theorem wd1038 : Cond.fieldLink "BakeryNight$Parser" (202 : Nat) "BakeryNight$Word" "HEAT" "LBakeryNight$Word;" ∈ GW := gwt4 30 (by decide +kernel) rfl
theorem wd1040 : Cond.fieldLink "BakeryNight$Parser" (208 : Nat) "BakeryNight$Word" "YIELD" "LBakeryNight$Word;" ∈ GW := gwt4 32 (by decide +kernel) rfl
theorem wd1042 : Cond.fieldLink "BakeryNight$Parser" (214 : Nat) "BakeryNight$Word" "KEEP" "LBakeryNight$Word;" ∈ GW := gwt4 34 (by decide +kernel) rfl
theorem wd1044 : Cond.fieldLink "BakeryNight$Parser" (220 : Nat) "BakeryNight$Word" "PRICE" "LBakeryNight$Word;" ∈ GW := gwt4 36 (by decide +kernel) rfl
theorem wd1046 : Cond.methodLink "BakeryNight$Parser" (116 : Nat) ({ cls := "BakeryNight$Parser", name := "readOven", desc := "(LBakeryNight$Bakery;)V" } : Jvm.MethodName) ∈ GW := gwt4 38 (by decide +kernel) rfl
theorem wd1048 : Cond.instanceMethod ({ cls := "BakeryNight$Parser", name := "readOven", desc := "(LBakeryNight$Bakery;)V" } : Jvm.MethodName) ∈ GW := gwt4 40 (by decide +kernel) rfl
theorem wd1049 : Cond.code ({ cls := "BakeryNight$Parser", name := "readOven", desc := "(LBakeryNight$Bakery;)V" } : Jvm.MethodName) prog_9_method_10_code (4 : Nat) (Option.none : Option Jvm.ClassFile.FieldType) ∈ GW := gwt4 41 (by decide +kernel) rfl
theorem wd1050 : Cond.fieldLink "BakeryNight$Parser" (233 : Nat) "BakeryNight$Word" "SHELVES" "LBakeryNight$Word;" ∈ GW := gwt4 42 (by decide +kernel) rfl
theorem wd1052 : Cond.fieldLink "BakeryNight$Parser" (242 : Nat) "BakeryNight$Word" "RATE" "LBakeryNight$Word;" ∈ GW := gwt4 44 (by decide +kernel) rfl
theorem wd1054 : Cond.methodLink "BakeryNight$Parser" (119 : Nat) ({ cls := "BakeryNight$Parser", name := "readShop", desc := "(LBakeryNight$Bakery;)V" } : Jvm.MethodName) ∈ GW := gwt4 46 (by decide +kernel) rfl
theorem wd1056 : Cond.instanceMethod ({ cls := "BakeryNight$Parser", name := "readShop", desc := "(LBakeryNight$Bakery;)V" } : Jvm.MethodName) ∈ GW := gwt4 48 (by decide +kernel) rfl
theorem wd1057 : Cond.code ({ cls := "BakeryNight$Parser", name := "readShop", desc := "(LBakeryNight$Bakery;)V" } : Jvm.MethodName) prog_9_method_11_code (2 : Nat) (Option.none : Option Jvm.ClassFile.FieldType) ∈ GW := gwt4 49 (by decide +kernel) rfl
theorem wd1058 : Cond.methodLink "BakeryNight$Parser" (122 : Nat) ({ cls := "BakeryNight$Parser", name := "readStreet", desc := "(LBakeryNight$Bakery;)V" } : Jvm.MethodName) ∈ GW := gwt4 50 (by decide +kernel) rfl
theorem wd1060 : Cond.instanceMethod ({ cls := "BakeryNight$Parser", name := "readStreet", desc := "(LBakeryNight$Bakery;)V" } : Jvm.MethodName) ∈ GW := gwt4 52 (by decide +kernel) rfl
theorem wd1061 : Cond.code ({ cls := "BakeryNight$Parser", name := "readStreet", desc := "(LBakeryNight$Bakery;)V" } : Jvm.MethodName) prog_9_method_12_code (7 : Nat) (Option.none : Option Jvm.ClassFile.FieldType) ∈ GW := gwt4 53 (by decide +kernel) rfl
theorem wd1062 : Cond.methodLink "BakeryNight$Parser" (254 : Nat) ({ cls := "BakeryNight$Parser", name := "readPlace", desc := "(LBakeryNight$Bakery;I)I" } : Jvm.MethodName) ∈ GW := gwt4 54 (by decide +kernel) rfl
theorem wd1064 : Cond.instanceMethod ({ cls := "BakeryNight$Parser", name := "readPlace", desc := "(LBakeryNight$Bakery;I)I" } : Jvm.MethodName) ∈ GW := gwt4 56 (by decide +kernel) rfl
theorem wd1065 : Cond.code ({ cls := "BakeryNight$Parser", name := "readPlace", desc := "(LBakeryNight$Bakery;I)I" } : Jvm.MethodName) prog_9_method_20_code (4 : Nat) (Option.some Jvm.ClassFile.FieldType.int) ∈ GW := gwt4 57 (by decide +kernel) rfl
theorem wd1066 : Cond.fieldLink "BakeryNight$Parser" (313 : Nat) "BakeryNight$Word" "HOME" "LBakeryNight$Word;" ∈ GW := gwt4 58 (by decide +kernel) rfl
theorem wd1068 : Cond.methodLink "BakeryNight$Parser" (125 : Nat) ({ cls := "BakeryNight$Parser", name := "readVan", desc := "(LBakeryNight$Bakery;)V" } : Jvm.MethodName) ∈ GW := gwt4 60 (by decide +kernel) rfl
theorem wd1070 : Cond.instanceMethod ({ cls := "BakeryNight$Parser", name := "readVan", desc := "(LBakeryNight$Bakery;)V" } : Jvm.MethodName) ∈ GW := gwt4 62 (by decide +kernel) rfl
theorem wd1071 : Cond.code ({ cls := "BakeryNight$Parser", name := "readVan", desc := "(LBakeryNight$Bakery;)V" } : Jvm.MethodName) prog_9_method_13_code (3 : Nat) (Option.none : Option Jvm.ClassFile.FieldType) ∈ GW := gwt4 63 (by decide +kernel) rfl
theorem wd1072 : Cond.methodLink "BakeryNight$Parser" (128 : Nat) ({ cls := "BakeryNight$Parser", name := "readOrder", desc := "(LBakeryNight$Bakery;)V" } : Jvm.MethodName) ∈ GW := gwt4 64 (by decide +kernel) rfl
theorem wd1074 : Cond.instanceMethod ({ cls := "BakeryNight$Parser", name := "readOrder", desc := "(LBakeryNight$Bakery;)V" } : Jvm.MethodName) ∈ GW := gwt4 66 (by decide +kernel) rfl
theorem wd1075 : Cond.code ({ cls := "BakeryNight$Parser", name := "readOrder", desc := "(LBakeryNight$Bakery;)V" } : Jvm.MethodName) prog_9_method_14_code (6 : Nat) (Option.none : Option Jvm.ClassFile.FieldType) ∈ GW := gwt4 67 (by decide +kernel) rfl
theorem wd1076 : Cond.methodLink "BakeryNight$Parser" (280 : Nat) ({ cls := "BakeryNight$Parser", name := "readKnownName", desc := "([JI)I" } : Jvm.MethodName) ∈ GW := gwt4 68 (by decide +kernel) rfl
theorem wd1078 : Cond.instanceMethod ({ cls := "BakeryNight$Parser", name := "readKnownName", desc := "([JI)I" } : Jvm.MethodName) ∈ GW := gwt4 70 (by decide +kernel) rfl
theorem wd1079 : Cond.code ({ cls := "BakeryNight$Parser", name := "readKnownName", desc := "([JI)I" } : Jvm.MethodName) prog_9_method_18_code (4 : Nat) (Option.some Jvm.ClassFile.FieldType.int) ∈ GW := gwt4 71 (by decide +kernel) rfl
theorem wd1080 : Cond.fieldLink "BakeryNight$Parser" (284 : Nat) "BakeryNight$Word" "BY" "LBakeryNight$Word;" ∈ GW := gwt4 72 (by decide +kernel) rfl
theorem wd1082 : Cond.methodLink "BakeryNight$Parser" (291 : Nat) ({ cls := "BakeryNight$Order", name := "set", desc := "(IIII)V" } : Jvm.MethodName) ∈ GW := gwt4 74 (by decide +kernel) rfl
theorem wd1083 : Cond.instanceMethod ({ cls := "BakeryNight$Order", name := "set", desc := "(IIII)V" } : Jvm.MethodName) ∈ GW := gwt4 75 (by decide +kernel) rfl
theorem wd1084 : Cond.selects "BakeryNight$Order" ({ cls := "BakeryNight$Order", name := "set", desc := "(IIII)V" } : Jvm.MethodName) ({ cls := "BakeryNight$Order", name := "set", desc := "(IIII)V" } : Jvm.MethodName) ∈ GW := gwt4 76 (by decide +kernel) rfl
theorem wd1085 : Cond.code ({ cls := "BakeryNight$Order", name := "set", desc := "(IIII)V" } : Jvm.MethodName) prog_7_method_2_code (5 : Nat) (Option.none : Option Jvm.ClassFile.FieldType) ∈ GW := gwt4 77 (by decide +kernel) rfl
theorem wd1086 : Cond.methodLink "BakeryNight$Parser" (131 : Nat) ({ cls := "BakeryNight$Parser", name := "readSemicolon", desc := "()V" } : Jvm.MethodName) ∈ GW := gwt4 78 (by decide +kernel) rfl
theorem wd1088 : Cond.instanceMethod ({ cls := "BakeryNight$Parser", name := "readSemicolon", desc := "()V" } : Jvm.MethodName) ∈ GW := gwt4 80 (by decide +kernel) rfl
theorem wd1089 : Cond.code ({ cls := "BakeryNight$Parser", name := "readSemicolon", desc := "()V" } : Jvm.MethodName) prog_9_method_6_code (1 : Nat) (Option.none : Option Jvm.ClassFile.FieldType) ∈ GW := gwt4 81 (by decide +kernel) rfl
theorem wd1090 : Cond.methodLink "BakeryNight$Parser" (68 : Nat) ({ cls := "BakeryNight$Roads", name := "explore", desc := "(II)V" } : Jvm.MethodName) ∈ GW := gwt4 82 (by decide +kernel) rfl
theorem wd1091 : Cond.methodLink "BakeryNight" (69 : Nat) ({ cls := "BakeryNight$History", name := "forget", desc := "()V" } : Jvm.MethodName) ∈ GW := gwt4 83 (by decide +kernel) rfl
theorem wd1092 : Cond.instanceMethod ({ cls := "BakeryNight$History", name := "forget", desc := "()V" } : Jvm.MethodName) ∈ GW := gwt4 84 (by decide +kernel) rfl
theorem wd1093 : Cond.selects "BakeryNight$History" ({ cls := "BakeryNight$History", name := "forget", desc := "()V" } : Jvm.MethodName) ({ cls := "BakeryNight$History", name := "forget", desc := "()V" } : Jvm.MethodName) ∈ GW := gwt4 85 (by decide +kernel) rfl
theorem wd1094 : Cond.code ({ cls := "BakeryNight$History", name := "forget", desc := "()V" } : Jvm.MethodName) prog_5_method_2_code (1 : Nat) (Option.none : Option Jvm.ClassFile.FieldType) ∈ GW := gwt4 86 (by decide +kernel) rfl
theorem wd1095 : Cond.methodLink "BakeryNightLaw" (65 : Nat) ({ cls := "BakeryNightLaw", name := "bakery", desc := "([II)Ljava/lang/String;" } : Jvm.MethodName) ∈ GW := gwt4 87 (by decide +kernel) rfl
theorem wd1096 : Cond.static ({ cls := "BakeryNightLaw", name := "bakery", desc := "([II)Ljava/lang/String;" } : Jvm.MethodName) ∈ GW := gwt4 88 (by decide +kernel) rfl
theorem wd1097 : Cond.code ({ cls := "BakeryNightLaw", name := "bakery", desc := "([II)Ljava/lang/String;" } : Jvm.MethodName) method_7_code (7 : Nat) (Option.some (Jvm.ClassFile.FieldType.object "java/lang/String")) ∈ GW := gwt4 89 (by decide +kernel) rfl
theorem wd1098 : Cond.classLink "BakeryNightLaw" (98 : Nat) "java/lang/StringBuilder" ∈ GW := gwt4 90 (by decide +kernel) rfl
theorem wd1099 : Cond.instantiable "java/lang/StringBuilder" (4 : Nat) ∈ GW := gwt4 91 (by decide +kernel) rfl
theorem wd1100 : Cond.methodLink "BakeryNightLaw" (100 : Nat) ({ cls := "java/lang/StringBuilder", name := "<init>", desc := "()V" } : Jvm.MethodName) ∈ GW := gwt4 92 (by decide +kernel) rfl
theorem wd1101 : Cond.instanceMethod ({ cls := "java/lang/StringBuilder", name := "<init>", desc := "()V" } : Jvm.MethodName) ∈ GW := gwt4 93 (by decide +kernel) rfl
theorem wd1102 : Cond.code ({ cls := "java/lang/StringBuilder", name := "<init>", desc := "()V" } : Jvm.MethodName) prog_27_method_1_code (1 : Nat) (Option.none : Option Jvm.ClassFile.FieldType) ∈ GW := gwt4 94 (by decide +kernel) rfl
theorem wd1103 : Cond.methodLink "java/lang/StringBuilder" (1 : Nat) ({ cls := "java/lang/AbstractStringBuilder", name := "<init>", desc := "(I)V" } : Jvm.MethodName) ∈ GW := gwt4 95 (by decide +kernel) rfl
theorem wd1104 : Cond.instanceMethod ({ cls := "java/lang/AbstractStringBuilder", name := "<init>", desc := "(I)V" } : Jvm.MethodName) ∈ GW := gwt4 96 (by decide +kernel) rfl
theorem wd1105 : Cond.code ({ cls := "java/lang/AbstractStringBuilder", name := "<init>", desc := "(I)V" } : Jvm.MethodName) prog_16_method_2_code (2 : Nat) (Option.none : Option Jvm.ClassFile.FieldType) ∈ GW := gwt4 97 (by decide +kernel) rfl
theorem wd1106 : Cond.methodLink "java/lang/AbstractStringBuilder" (3 : Nat) ({ cls := "java/lang/Object", name := "<init>", desc := "()V" } : Jvm.MethodName) ∈ GW := gwt4 98 (by decide +kernel) rfl
theorem wd1107 : Cond.fieldLink "java/lang/AbstractStringBuilder" (18 : Nat) "java/lang/String" "COMPACT_STRINGS" "Z" ∈ GW := gwt4 99 (by decide +kernel) rfl
theorem wd1108 : Cond.methodLink "java/lang/AbstractStringBuilder" (26 : Nat) ({ cls := "java/lang/StringUTF16", name := "newBytesFor", desc := "(I)[B" } : Jvm.MethodName) ∈ GW := gwt4 100 (by decide +kernel) rfl
theorem wd1109 : Cond.static ({ cls := "java/lang/StringUTF16", name := "newBytesFor", desc := "(I)[B" } : Jvm.MethodName) ∈ GW := gwt4 101 (by decide +kernel) rfl
theorem wd1110 : Cond.code ({ cls := "java/lang/StringUTF16", name := "newBytesFor", desc := "(I)[B" } : Jvm.MethodName) prog_29_method_2_code (1 : Nat) (Option.some (Jvm.ClassFile.FieldType.array Jvm.ClassFile.FieldType.byte)) ∈ GW := gwt4 102 (by decide +kernel) rfl
theorem wd1111 : Cond.methodLink "java/lang/StringUTF16" (11 : Nat) ({ cls := "java/lang/StringUTF16", name := "newBytesLength", desc := "(I)I" } : Jvm.MethodName) ∈ GW := gwt4 103 (by decide +kernel) rfl
theorem wd1112 : Cond.static ({ cls := "java/lang/StringUTF16", name := "newBytesLength", desc := "(I)I" } : Jvm.MethodName) ∈ GW := gwt4 104 (by decide +kernel) rfl
theorem wd1113 : Cond.code ({ cls := "java/lang/StringUTF16", name := "newBytesLength", desc := "(I)I" } : Jvm.MethodName) prog_29_method_3_code (1 : Nat) (Option.some Jvm.ClassFile.FieldType.int) ∈ GW := gwt4 105 (by decide +kernel) rfl
theorem wd1114 : Cond.constant "java/lang/StringUTF16" (20 : Nat) (1073741823 : Int32) ∈ GW := gwt4 106 (by decide +kernel) rfl
theorem wd1115 : Cond.fieldLink "java/lang/AbstractStringBuilder" (15 : Nat) "java/lang/AbstractStringBuilder" "value" "[B" ∈ GW := gwt4 107 (by decide +kernel) rfl
theorem wd1116 : Cond.fieldLink "java/lang/AbstractStringBuilder" (22 : Nat) "java/lang/AbstractStringBuilder" "coder" "B" ∈ GW := gwt4 108 (by decide +kernel) rfl
theorem wd1117 : Cond.fieldLink "java/lang/String" (1048 : Nat) "java/lang/AbstractStringBuilder" "maybeLatin1" "Z" ∈ GW := gwt4 109 (by decide +kernel) rfl
theorem wd1118 : Cond.fieldLink "java/lang/AbstractStringBuilder" (79 : Nat) "java/lang/AbstractStringBuilder" "count" "I" ∈ GW := gwt4 110 (by decide +kernel) rfl
theorem wd1129 : Cond.methodLink "BakeryNightLaw" (103 : Nat) ({ cls := "java/lang/StringBuilder", name := "append", desc := "(Ljava/lang/String;)Ljava/lang/StringBuilder;" } : Jvm.MethodName) ∈ GW := gwt4 121 (by decide +kernel) rfl
theorem wd1130 : Cond.instanceMethod ({ cls := "java/lang/StringBuilder", name := "append", desc := "(Ljava/lang/String;)Ljava/lang/StringBuilder;" } : Jvm.MethodName) ∈ GW := gwt4 122 (by decide +kernel) rfl
theorem wd1131 : Cond.selects "java/lang/StringBuilder" ({ cls := "java/lang/StringBuilder", name := "append", desc := "(Ljava/lang/String;)Ljava/lang/StringBuilder;" } : Jvm.MethodName) ({ cls := "java/lang/StringBuilder", name := "append", desc := "(Ljava/lang/String;)Ljava/lang/StringBuilder;" } : Jvm.MethodName) ∈ GW := gwt4 123 (by decide +kernel) rfl
theorem wd1132 : Cond.code ({ cls := "java/lang/StringBuilder", name := "append", desc := "(Ljava/lang/String;)Ljava/lang/StringBuilder;" } : Jvm.MethodName) prog_27_method_7_code (2 : Nat) (Option.some (Jvm.ClassFile.FieldType.object "java/lang/StringBuilder")) ∈ GW := gwt4 124 (by decide +kernel) rfl
theorem wd1133 : Cond.methodLink "java/lang/StringBuilder" (29 : Nat) ({ cls := "java/lang/AbstractStringBuilder", name := "append", desc := "(Ljava/lang/String;)Ljava/lang/AbstractStringBuilder;" } : Jvm.MethodName) ∈ GW := gwt4 125 (by decide +kernel) rfl
theorem wd1134 : Cond.instanceMethod ({ cls := "java/lang/AbstractStringBuilder", name := "append", desc := "(Ljava/lang/String;)Ljava/lang/AbstractStringBuilder;" } : Jvm.MethodName) ∈ GW := gwt4 126 (by decide +kernel) rfl
theorem wd1135 : Cond.code ({ cls := "java/lang/AbstractStringBuilder", name := "append", desc := "(Ljava/lang/String;)Ljava/lang/AbstractStringBuilder;" } : Jvm.MethodName) prog_16_method_22_code (3 : Nat) (Option.some (Jvm.ClassFile.FieldType.object "java/lang/AbstractStringBuilder")) ∈ GW := gwt4 127 (by decide +kernel) rfl
theorem wd1136 : Cond.methodLink "java/lang/AbstractStringBuilder" (204 : Nat) ({ cls := "java/lang/AbstractStringBuilder", name := "appendNull", desc := "()Ljava/lang/AbstractStringBuilder;" } : Jvm.MethodName) ∈ GW := gwt4 128 (by decide +kernel) rfl
theorem wd1138 : Cond.instanceMethod ({ cls := "java/lang/AbstractStringBuilder", name := "appendNull", desc := "()Ljava/lang/AbstractStringBuilder;" } : Jvm.MethodName) ∈ GW := gwt4 130 (by decide +kernel) rfl
theorem wd1139 : Cond.code ({ cls := "java/lang/AbstractStringBuilder", name := "appendNull", desc := "()Ljava/lang/AbstractStringBuilder;" } : Jvm.MethodName) prog_16_method_26_code (3 : Nat) (Option.some (Jvm.ClassFile.FieldType.object "java/lang/AbstractStringBuilder")) ∈ GW := gwt4 131 (by decide +kernel) rfl
theorem wd1140 : Cond.methodLink "java/lang/AbstractStringBuilder" (100 : Nat) ({ cls := "java/lang/AbstractStringBuilder", name := "ensureCapacityInternal", desc := "(I)V" } : Jvm.MethodName) ∈ GW := gwt4 132 (by decide +kernel) rfl
theorem wd1142 : Cond.instanceMethod ({ cls := "java/lang/AbstractStringBuilder", name := "ensureCapacityInternal", desc := "(I)V" } : Jvm.MethodName) ∈ GW := gwt4 134 (by decide +kernel) rfl
theorem wd1143 : Cond.code ({ cls := "java/lang/AbstractStringBuilder", name := "ensureCapacityInternal", desc := "(I)V" } : Jvm.MethodName) prog_16_method_9_code (3 : Nat) (Option.none : Option Jvm.ClassFile.FieldType) ∈ GW := gwt4 135 (by decide +kernel) rfl
theorem wd1144 : Cond.methodLink "java/lang/AbstractStringBuilder" (104 : Nat) ({ cls := "java/lang/AbstractStringBuilder", name := "newCapacity", desc := "(I)I" } : Jvm.MethodName) ∈ GW := gwt4 136 (by decide +kernel) rfl
theorem wd1146 : Cond.instanceMethod ({ cls := "java/lang/AbstractStringBuilder", name := "newCapacity", desc := "(I)I" } : Jvm.MethodName) ∈ GW := gwt4 138 (by decide +kernel) rfl
theorem wd1147 : Cond.code ({ cls := "java/lang/AbstractStringBuilder", name := "newCapacity", desc := "(I)I" } : Jvm.MethodName) prog_16_method_10_code (6 : Nat) (Option.some Jvm.ClassFile.FieldType.int) ∈ GW := gwt4 139 (by decide +kernel) rfl
theorem wd1148 : Cond.methodLink "java/lang/AbstractStringBuilder" (114 : Nat) ({ cls := "jdk/internal/util/ArraysSupport", name := "newLength", desc := "(III)I" } : Jvm.MethodName) ∈ GW := gwt4 140 (by decide +kernel) rfl
theorem wd1149 : Cond.static ({ cls := "jdk/internal/util/ArraysSupport", name := "newLength", desc := "(III)I" } : Jvm.MethodName) ∈ GW := gwt4 141 (by decide +kernel) rfl
theorem wd1150 : Cond.code ({ cls := "jdk/internal/util/ArraysSupport", name := "newLength", desc := "(III)I" } : Jvm.MethodName) prog_33_method_27_code (4 : Nat) (Option.some Jvm.ClassFile.FieldType.int) ∈ GW := gwt4 142 (by decide +kernel) rfl
theorem wd1151 : Cond.methodLink "jdk/internal/util/ArraysSupport" (194 : Nat) ({ cls := "java/lang/Math", name := "max", desc := "(II)I" } : Jvm.MethodName) ∈ GW := gwt4 143 (by decide +kernel) rfl
theorem wd1152 : Cond.constant "jdk/internal/util/ArraysSupport" (200 : Nat) (2147483639 : Int32) ∈ GW := gwt4 144 (by decide +kernel) rfl
theorem wd1153 : Cond.methodLink "jdk/internal/util/ArraysSupport" (201 : Nat) ({ cls := "jdk/internal/util/ArraysSupport", name := "hugeLength", desc := "(II)I" } : Jvm.MethodName) ∈ GW := gwt4 145 (by decide +kernel) rfl
theorem wd1154 : Cond.static ({ cls := "jdk/internal/util/ArraysSupport", name := "hugeLength", desc := "(II)I" } : Jvm.MethodName) ∈ GW := gwt4 146 (by decide +kernel) rfl
theorem wd1155 : Cond.code ({ cls := "jdk/internal/util/ArraysSupport", name := "hugeLength", desc := "(II)I" } : Jvm.MethodName) prog_33_method_28_code (3 : Nat) (Option.some Jvm.ClassFile.FieldType.int) ∈ GW := gwt4 147 (by decide +kernel) rfl
theorem wd1156 : Cond.constant "java/lang/AbstractStringBuilder" (39 : Nat) (2147483647 : Int32) ∈ GW := gwt4 148 (by decide +kernel) rfl
theorem wd1157 : Cond.methodLink "java/lang/AbstractStringBuilder" (108 : Nat) ({ cls := "java/util/Arrays", name := "copyOf", desc := "([BI)[B" } : Jvm.MethodName) ∈ GW := gwt4 149 (by decide +kernel) rfl
theorem wd1158 : Cond.static ({ cls := "java/util/Arrays", name := "copyOf", desc := "([BI)[B" } : Jvm.MethodName) ∈ GW := gwt4 150 (by decide +kernel) rfl
theorem wd1159 : Cond.code ({ cls := "java/util/Arrays", name := "copyOf", desc := "([BI)[B" } : Jvm.MethodName) prog_32_method_121_code (3 : Nat) (Option.some (Jvm.ClassFile.FieldType.array Jvm.ClassFile.FieldType.byte)) ∈ GW := gwt4 151 (by decide +kernel) rfl
theorem wd1160 : Cond.methodLink "java/util/Arrays" (310 : Nat) ({ cls := "[B", name := "clone", desc := "()Ljava/lang/Object;" } : Jvm.MethodName) ∈ GW := gwt4 152 (by decide +kernel) rfl
theorem wd1162 : Cond.native ({ cls := "java/lang/Object", name := "clone", desc := "()Ljava/lang/Object;" } : Jvm.MethodName) ∈ GW := gwt4 154 (by decide +kernel) rfl
theorem wd1163 : Cond.instanceMethod ({ cls := "java/lang/Object", name := "clone", desc := "()Ljava/lang/Object;" } : Jvm.MethodName) ∈ GW := gwt4 155 (by decide +kernel) rfl
theorem wd1164 : Cond.selects "[B" ({ cls := "[B", name := "clone", desc := "()Ljava/lang/Object;" } : Jvm.MethodName) ({ cls := "java/lang/Object", name := "clone", desc := "()Ljava/lang/Object;" } : Jvm.MethodName) ∈ GW := gwt4 156 (by decide +kernel) rfl
theorem wd1166 : Cond.classLink "java/util/Arrays" (311 : Nat) "[B" ∈ GW := gwt4 158 (by decide +kernel) rfl
theorem wd1167 : Cond.methodLink "java/util/Arrays" (304 : Nat) ({ cls := "java/lang/Math", name := "min", desc := "(II)I" } : Jvm.MethodName) ∈ GW := gwt4 159 (by decide +kernel) rfl
theorem wd1168 : Cond.methodLink "java/util/Arrays" (150 : Nat) ({ cls := "java/lang/System", name := "arraycopy", desc := "(Ljava/lang/Object;ILjava/lang/Object;II)V" } : Jvm.MethodName) ∈ GW := gwt4 160 (by decide +kernel) rfl
theorem wd1169 : Cond.methodLink "java/lang/AbstractStringBuilder" (83 : Nat) ({ cls := "java/lang/AbstractStringBuilder", name := "isLatin1", desc := "()Z" } : Jvm.MethodName) ∈ GW := gwt4 161 (by decide +kernel) rfl
theorem wd1170 : Cond.instanceMethod ({ cls := "java/lang/AbstractStringBuilder", name := "isLatin1", desc := "()Z" } : Jvm.MethodName) ∈ GW := gwt4 162 (by decide +kernel) rfl
theorem wd1172 : Cond.selects "java/lang/StringBuilder" ({ cls := "java/lang/AbstractStringBuilder", name := "isLatin1", desc := "()Z" } : Jvm.MethodName) ({ cls := "java/lang/AbstractStringBuilder", name := "isLatin1", desc := "()Z" } : Jvm.MethodName) ∈ GW := gwt4 164 (by decide +kernel) rfl
theorem wd1173 : Cond.code ({ cls := "java/lang/AbstractStringBuilder", name := "isLatin1", desc := "()Z" } : Jvm.MethodName) prog_16_method_68_code (1 : Nat) (Option.some Jvm.ClassFile.FieldType.boolean) ∈ GW := gwt4 165 (by decide +kernel) rfl
theorem wd1174 : Cond.methodLink "java/lang/AbstractStringBuilder" (226 : Nat) ({ cls := "java/lang/StringUTF16", name := "putCharsAt", desc := "([BICCCC)I" } : Jvm.MethodName) ∈ GW := gwt4 166 (by decide +kernel) rfl
theorem wd1175 : Cond.static ({ cls := "java/lang/StringUTF16", name := "putCharsAt", desc := "([BICCCC)I" } : Jvm.MethodName) ∈ GW := gwt4 167 (by decide +kernel) rfl
theorem wd1176 : Cond.code ({ cls := "java/lang/StringUTF16", name := "putCharsAt", desc := "([BICCCC)I" } : Jvm.MethodName) prog_29_method_81_code (7 : Nat) (Option.some Jvm.ClassFile.FieldType.int) ∈ GW := gwt4 168 (by decide +kernel) rfl
theorem wd1177 : Cond.methodLink "java/lang/StringUTF16" (96 : Nat) ({ cls := "java/lang/StringUTF16", name := "checkBoundsBeginEnd", desc := "(II[B)V" } : Jvm.MethodName) ∈ GW := gwt4 169 (by decide +kernel) rfl
theorem wd1178 : Cond.static ({ cls := "java/lang/StringUTF16", name := "checkBoundsBeginEnd", desc := "(II[B)V" } : Jvm.MethodName) ∈ GW := gwt4 170 (by decide +kernel) rfl
theorem wd1179 : Cond.code ({ cls := "java/lang/StringUTF16", name := "checkBoundsBeginEnd", desc := "(II[B)V" } : Jvm.MethodName) prog_29_method_93_code (3 : Nat) (Option.none : Option Jvm.ClassFile.FieldType) ∈ GW := gwt4 171 (by decide +kernel) rfl
theorem wd1180 : Cond.methodLink "java/lang/StringUTF16" (241 : Nat) ({ cls := "java/lang/String", name := "checkBoundsBeginEnd", desc := "(III)V" } : Jvm.MethodName) ∈ GW := gwt4 172 (by decide +kernel) rfl
theorem wd1181 : Cond.static ({ cls := "java/lang/String", name := "checkBoundsBeginEnd", desc := "(III)V" } : Jvm.MethodName) ∈ GW := gwt4 173 (by decide +kernel) rfl
theorem wd1182 : Cond.code ({ cls := "java/lang/String", name := "checkBoundsBeginEnd", desc := "(III)V" } : Jvm.MethodName) prog_26_method_158_code (3 : Nat) (Option.none : Option Jvm.ClassFile.FieldType) ∈ GW := gwt4 174 (by decide +kernel) rfl
theorem wd1183 : Cond.methodLink "java/lang/String" (1062 : Nat) ({ cls := "jdk/internal/util/Preconditions", name := "checkFromToIndex", desc := "(IIILjava/util/function/BiFunction;)I" } : Jvm.MethodName) ∈ GW := gwt4 175 (by decide +kernel) rfl
theorem wd1184 : Cond.static ({ cls := "jdk/internal/util/Preconditions", name := "checkFromToIndex", desc := "(IIILjava/util/function/BiFunction;)I" } : Jvm.MethodName) ∈ GW := gwt4 176 (by decide +kernel) rfl
theorem wd1185 : Cond.code ({ cls := "jdk/internal/util/Preconditions", name := "checkFromToIndex", desc := "(IIILjava/util/function/BiFunction;)I" } : Jvm.MethodName) prog_34_method_12_code (4 : Nat) (Option.some Jvm.ClassFile.FieldType.int) ∈ GW := gwt4 177 (by decide +kernel) rfl
theorem wd1186 : Cond.methodLink "java/lang/StringUTF16" (111 : Nat) ({ cls := "java/lang/StringUTF16", name := "putChar", desc := "([BII)V" } : Jvm.MethodName) ∈ GW := gwt4 178 (by decide +kernel) rfl
theorem wd1187 : Cond.static ({ cls := "java/lang/StringUTF16", name := "putChar", desc := "([BII)V" } : Jvm.MethodName) ∈ GW := gwt4 179 (by decide +kernel) rfl
theorem wd1188 : Cond.code ({ cls := "java/lang/StringUTF16", name := "putChar", desc := "([BII)V" } : Jvm.MethodName) prog_29_method_4_code (3 : Nat) (Option.none : Option Jvm.ClassFile.FieldType) ∈ GW := gwt4 180 (by decide +kernel) rfl
theorem wd1189 : Cond.methodLink "java/lang/AbstractStringBuilder" (32 : Nat) ({ cls := "java/lang/String", name := "length", desc := "()I" } : Jvm.MethodName) ∈ GW := gwt4 181 (by decide +kernel) rfl
theorem wd1190 : Cond.methodLink "java/lang/AbstractStringBuilder" (208 : Nat) ({ cls := "java/lang/AbstractStringBuilder", name := "putStringAt", desc := "(ILjava/lang/String;)V" } : Jvm.MethodName) ∈ GW := gwt4 182 (by decide +kernel) rfl
theorem wd1192 : Cond.instanceMethod ({ cls := "java/lang/AbstractStringBuilder", name := "putStringAt", desc := "(ILjava/lang/String;)V" } : Jvm.MethodName) ∈ GW := gwt4 184 (by decide +kernel) rfl
theorem wd1193 : Cond.code ({ cls := "java/lang/AbstractStringBuilder", name := "putStringAt", desc := "(ILjava/lang/String;)V" } : Jvm.MethodName) prog_16_method_73_code (3 : Nat) (Option.none : Option Jvm.ClassFile.FieldType) ∈ GW := gwt4 185 (by decide +kernel) rfl
theorem wd1194 : Cond.methodLink "java/lang/AbstractStringBuilder" (397 : Nat) ({ cls := "java/lang/AbstractStringBuilder", name := "inflateIfNeededFor", desc := "(Ljava/lang/String;)V" } : Jvm.MethodName) ∈ GW := gwt4 186 (by decide +kernel) rfl
theorem wd1196 : Cond.instanceMethod ({ cls := "java/lang/AbstractStringBuilder", name := "inflateIfNeededFor", desc := "(Ljava/lang/String;)V" } : Jvm.MethodName) ∈ GW := gwt4 188 (by decide +kernel) rfl
theorem wd1197 : Cond.code ({ cls := "java/lang/AbstractStringBuilder", name := "inflateIfNeededFor", desc := "(Ljava/lang/String;)V" } : Jvm.MethodName) prog_16_method_71_code (2 : Nat) (Option.none : Option Jvm.ClassFile.FieldType) ∈ GW := gwt4 189 (by decide +kernel) rfl
theorem wd1198 : Cond.methodLink "java/lang/AbstractStringBuilder" (40 : Nat) ({ cls := "java/lang/String", name := "coder", desc := "()B" } : Jvm.MethodName) ∈ GW := gwt4 190 (by decide +kernel) rfl
theorem wd1199 : Cond.methodLink "java/lang/AbstractStringBuilder" (195 : Nat) ({ cls := "java/lang/AbstractStringBuilder", name := "inflate", desc := "()V" } : Jvm.MethodName) ∈ GW := gwt4 191 (by decide +kernel) rfl
theorem wd1201 : Cond.instanceMethod ({ cls := "java/lang/AbstractStringBuilder", name := "inflate", desc := "()V" } : Jvm.MethodName) ∈ GW := gwt4 193 (by decide +kernel) rfl
theorem wd1202 : Cond.code ({ cls := "java/lang/AbstractStringBuilder", name := "inflate", desc := "()V" } : Jvm.MethodName) prog_16_method_11_code (2 : Nat) (Option.none : Option Jvm.ClassFile.FieldType) ∈ GW := gwt4 194 (by decide +kernel) rfl
theorem wd1203 : Cond.methodLink "java/lang/AbstractStringBuilder" (125 : Nat) ({ cls := "java/lang/StringLatin1", name := "inflate", desc := "([BI[BII)V" } : Jvm.MethodName) ∈ GW := gwt4 195 (by decide +kernel) rfl
theorem wd1204 : Cond.static ({ cls := "java/lang/StringLatin1", name := "inflate", desc := "([BI[BII)V" } : Jvm.MethodName) ∈ GW := gwt4 196 (by decide +kernel) rfl
theorem wd1205 : Cond.code ({ cls := "java/lang/StringLatin1", name := "inflate", desc := "([BI[BII)V" } : Jvm.MethodName) prog_28_method_50_code (5 : Nat) (Option.none : Option Jvm.ClassFile.FieldType) ∈ GW := gwt4 197 (by decide +kernel) rfl
theorem wd1206 : Cond.methodLink "java/lang/StringLatin1" (240 : Nat) ({ cls := "java/lang/StringUTF16", name := "inflate", desc := "([BI[BII)V" } : Jvm.MethodName) ∈ GW := gwt4 198 (by decide +kernel) rfl
theorem wd1207 : Cond.static ({ cls := "java/lang/StringUTF16", name := "inflate", desc := "([BI[BII)V" } : Jvm.MethodName) ∈ GW := gwt4 199 (by decide +kernel) rfl
theorem wd1208 : Cond.code ({ cls := "java/lang/StringUTF16", name := "inflate", desc := "([BI[BII)V" } : Jvm.MethodName) prog_29_method_86_code (6 : Nat) (Option.none : Option Jvm.ClassFile.FieldType) ∈ GW := gwt4 200 (by decide +kernel) rfl
theorem wd1209 : Cond.methodLink "java/lang/StringUTF16" (173 : Nat) ({ cls := "java/lang/StringUTF16", name := "checkBoundsOffCount", desc := "(II[B)V" } : Jvm.MethodName) ∈ GW := gwt4 201 (by decide +kernel) rfl
theorem wd1210 : Cond.static ({ cls := "java/lang/StringUTF16", name := "checkBoundsOffCount", desc := "(II[B)V" } : Jvm.MethodName) ∈ GW := gwt4 202 (by decide +kernel) rfl
theorem wd1211 : Cond.code ({ cls := "java/lang/StringUTF16", name := "checkBoundsOffCount", desc := "(II[B)V" } : Jvm.MethodName) prog_29_method_94_code (3 : Nat) (Option.none : Option Jvm.ClassFile.FieldType) ∈ GW := gwt4 203 (by decide +kernel) rfl
theorem wd1212 : Cond.methodLink "java/lang/StringUTF16" (419 : Nat) ({ cls := "java/lang/String", name := "checkBoundsOffCount", desc := "(III)I" } : Jvm.MethodName) ∈ GW := gwt4 204 (by decide +kernel) rfl
theorem wd1213 : Cond.static ({ cls := "java/lang/String", name := "checkBoundsOffCount", desc := "(III)I" } : Jvm.MethodName) ∈ GW := gwt4 205 (by decide +kernel) rfl
theorem wd1214 : Cond.code ({ cls := "java/lang/String", name := "checkBoundsOffCount", desc := "(III)I" } : Jvm.MethodName) prog_26_method_157_code (3 : Nat) (Option.some Jvm.ClassFile.FieldType.int) ∈ GW := gwt4 206 (by decide +kernel) rfl
theorem wd1215 : Cond.methodLink "java/lang/String" (1065 : Nat) ({ cls := "jdk/internal/util/Preconditions", name := "checkFromIndexSize", desc := "(IIILjava/util/function/BiFunction;)I" } : Jvm.MethodName) ∈ GW := gwt4 207 (by decide +kernel) rfl
theorem wd1216 : Cond.static ({ cls := "jdk/internal/util/Preconditions", name := "checkFromIndexSize", desc := "(IIILjava/util/function/BiFunction;)I" } : Jvm.MethodName) ∈ GW := gwt4 208 (by decide +kernel) rfl
theorem wd1217 : Cond.code ({ cls := "jdk/internal/util/Preconditions", name := "checkFromIndexSize", desc := "(IIILjava/util/function/BiFunction;)I" } : Jvm.MethodName) prog_34_method_13_code (4 : Nat) (Option.some Jvm.ClassFile.FieldType.int) ∈ GW := gwt4 209 (by decide +kernel) rfl
theorem wd1218 : Cond.methodLink "java/lang/AbstractStringBuilder" (399 : Nat) ({ cls := "java/lang/String", name := "getBytes", desc := "([BIB)V" } : Jvm.MethodName) ∈ GW := gwt4 210 (by decide +kernel) rfl
theorem wd1219 : Cond.instanceMethod ({ cls := "java/lang/String", name := "getBytes", desc := "([BIB)V" } : Jvm.MethodName) ∈ GW := gwt4 211 (by decide +kernel) rfl
theorem wd1220 : Cond.selects "java/lang/String" ({ cls := "java/lang/String", name := "getBytes", desc := "([BIB)V" } : Jvm.MethodName) ({ cls := "java/lang/String", name := "getBytes", desc := "([BIB)V" } : Jvm.MethodName) ∈ GW := gwt4 212 (by decide +kernel) rfl
theorem wd1221 : Cond.code ({ cls := "java/lang/String", name := "getBytes", desc := "([BIB)V" } : Jvm.MethodName) prog_26_method_147_code (4 : Nat) (Option.none : Option Jvm.ClassFile.FieldType) ∈ GW := gwt4 213 (by decide +kernel) rfl
theorem wd1222 : Cond.methodLink "java/lang/String" (212 : Nat) ({ cls := "java/lang/System", name := "arraycopy", desc := "(Ljava/lang/Object;ILjava/lang/Object;II)V" } : Jvm.MethodName) ∈ GW := gwt4 214 (by decide +kernel) rfl
theorem wd1223 : Cond.methodLink "java/lang/String" (106 : Nat) ({ cls := "java/lang/StringLatin1", name := "inflate", desc := "([BI[BII)V" } : Jvm.MethodName) ∈ GW := gwt4 215 (by decide +kernel) rfl
theorem wd1224 : Cond.methodLink "BakeryNightLaw" (107 : Nat) ({ cls := "java/lang/StringBuilder", name := "append", desc := "(I)Ljava/lang/StringBuilder;" } : Jvm.MethodName) ∈ GW := gwt4 216 (by decide +kernel) rfl
theorem wd1225 : Cond.instanceMethod ({ cls := "java/lang/StringBuilder", name := "append", desc := "(I)Ljava/lang/StringBuilder;" } : Jvm.MethodName) ∈ GW := gwt4 217 (by decide +kernel) rfl
theorem wd1226 : Cond.selects "java/lang/StringBuilder" ({ cls := "java/lang/StringBuilder", name := "append", desc := "(I)Ljava/lang/StringBuilder;" } : Jvm.MethodName) ({ cls := "java/lang/StringBuilder", name := "append", desc := "(I)Ljava/lang/StringBuilder;" } : Jvm.MethodName) ∈ GW := gwt4 218 (by decide +kernel) rfl
theorem wd1227 : Cond.code ({ cls := "java/lang/StringBuilder", name := "append", desc := "(I)Ljava/lang/StringBuilder;" } : Jvm.MethodName) prog_27_method_15_code (2 : Nat) (Option.some (Jvm.ClassFile.FieldType.object "java/lang/StringBuilder")) ∈ GW := gwt4 219 (by decide +kernel) rfl
theorem wd1228 : Cond.methodLink "java/lang/StringBuilder" (53 : Nat) ({ cls := "java/lang/AbstractStringBuilder", name := "append", desc := "(I)Ljava/lang/AbstractStringBuilder;" } : Jvm.MethodName) ∈ GW := gwt4 220 (by decide +kernel) rfl
theorem wd1229 : Cond.instanceMethod ({ cls := "java/lang/AbstractStringBuilder", name := "append", desc := "(I)Ljava/lang/AbstractStringBuilder;" } : Jvm.MethodName) ∈ GW := gwt4 221 (by decide +kernel) rfl
theorem wd1230 : Cond.code ({ cls := "java/lang/AbstractStringBuilder", name := "append", desc := "(I)Ljava/lang/AbstractStringBuilder;" } : Jvm.MethodName) prog_16_method_32_code (4 : Nat) (Option.some (Jvm.ClassFile.FieldType.object "java/lang/AbstractStringBuilder")) ∈ GW := gwt4 222 (by decide +kernel) rfl
theorem wd1231 : Cond.methodLink "java/lang/AbstractStringBuilder" (245 : Nat) ({ cls := "java/lang/Integer", name := "stringSize", desc := "(I)I" } : Jvm.MethodName) ∈ GW := gwt4 223 (by decide +kernel) rfl
theorem wd1232 : Cond.static ({ cls := "java/lang/Integer", name := "stringSize", desc := "(I)I" } : Jvm.MethodName) ∈ GW := gwt4 224 (by decide +kernel) rfl
theorem wd1233 : Cond.code ({ cls := "java/lang/Integer", name := "stringSize", desc := "(I)I" } : Jvm.MethodName) prog_22_method_13_code (4 : Nat) (Option.some Jvm.ClassFile.FieldType.int) ∈ GW := gwt4 225 (by decide +kernel) rfl
theorem wd1234 : Cond.methodLink "java/lang/AbstractStringBuilder" (248 : Nat) ({ cls := "java/lang/Integer", name := "getChars", desc := "(II[B)I" } : Jvm.MethodName) ∈ GW := gwt4 226 (by decide +kernel) rfl
theorem wd1235 : Cond.static ({ cls := "java/lang/Integer", name := "getChars", desc := "(II[B)I" } : Jvm.MethodName) ∈ GW := gwt4 227 (by decide +kernel) rfl
theorem wd1236 : Cond.code ({ cls := "java/lang/Integer", name := "getChars", desc := "(II[B)I" } : Jvm.MethodName) prog_22_method_12_code (7 : Nat) (Option.some Jvm.ClassFile.FieldType.int) ∈ GW := gwt4 228 (by decide +kernel) rfl
theorem wd1237 : Cond.fieldLink "java/lang/Integer" (83 : Nat) "java/lang/Integer" "DigitOnes" "[B" ∈ GW := gwt4 229 (by decide +kernel) rfl
theorem wd1239 : Cond.fieldLink "java/lang/Integer" (87 : Nat) "java/lang/Integer" "DigitTens" "[B" ∈ GW := gwt4 231 (by decide +kernel) rfl
theorem wd1241 : Cond.methodLink "java/lang/AbstractStringBuilder" (251 : Nat) ({ cls := "java/lang/StringUTF16", name := "getChars", desc := "(III[B)I" } : Jvm.MethodName) ∈ GW := gwt4 233 (by decide +kernel) rfl
theorem wd1242 : Cond.static ({ cls := "java/lang/StringUTF16", name := "getChars", desc := "(III[B)I" } : Jvm.MethodName) ∈ GW := gwt4 234 (by decide +kernel) rfl
theorem wd1243 : Cond.code ({ cls := "java/lang/StringUTF16", name := "getChars", desc := "(III[B)I" } : Jvm.MethodName) prog_29_method_77_code (5 : Nat) (Option.some Jvm.ClassFile.FieldType.int) ∈ GW := gwt4 235 (by decide +kernel) rfl
theorem wd1244 : Cond.methodLink "java/lang/StringUTF16" (393 : Nat) ({ cls := "java/lang/StringUTF16", name := "getChars", desc := "(II[B)I" } : Jvm.MethodName) ∈ GW := gwt4 236 (by decide +kernel) rfl
theorem wd1245 : Cond.static ({ cls := "java/lang/StringUTF16", name := "getChars", desc := "(II[B)I" } : Jvm.MethodName) ∈ GW := gwt4 237 (by decide +kernel) rfl
theorem wd1246 : Cond.code ({ cls := "java/lang/StringUTF16", name := "getChars", desc := "(II[B)I" } : Jvm.MethodName) prog_29_method_89_code (7 : Nat) (Option.some Jvm.ClassFile.FieldType.int) ∈ GW := gwt4 238 (by decide +kernel) rfl
theorem wd1247 : Cond.fieldLink "java/lang/StringUTF16" (403 : Nat) "java/lang/Integer" "DigitOnes" "[B" ∈ GW := gwt4 239 (by decide +kernel) rfl
theorem wd1248 : Cond.fieldLink "java/lang/StringUTF16" (407 : Nat) "java/lang/Integer" "DigitTens" "[B" ∈ GW := gwt5 0 (by decide +kernel) rfl
theorem wd1250 : Cond.methodLink "BakeryNightLaw" (112 : Nat) ({ cls := "BakeryNightLaw", name := "dough", desc := "(I)Ljava/lang/String;" } : Jvm.MethodName) ∈ GW := gwt5 2 (by decide +kernel) rfl
theorem wd1251 : Cond.static ({ cls := "BakeryNightLaw", name := "dough", desc := "(I)Ljava/lang/String;" } : Jvm.MethodName) ∈ GW := gwt5 3 (by decide +kernel) rfl
theorem wd1252 : Cond.code ({ cls := "BakeryNightLaw", name := "dough", desc := "(I)Ljava/lang/String;" } : Jvm.MethodName) method_8_code (1 : Nat) (Option.some (Jvm.ClassFile.FieldType.object "java/lang/String")) ∈ GW := gwt5 4 (by decide +kernel) rfl
theorem wd1263 : Cond.methodLink "BakeryNightLaw" (120 : Nat) ({ cls := "java/lang/StringBuilder", name := "toString", desc := "()Ljava/lang/String;" } : Jvm.MethodName) ∈ GW := gwt5 15 (by decide +kernel) rfl
theorem wd1264 : Cond.instanceMethod ({ cls := "java/lang/StringBuilder", name := "toString", desc := "()Ljava/lang/String;" } : Jvm.MethodName) ∈ GW := gwt5 16 (by decide +kernel) rfl
theorem wd1265 : Cond.selects "java/lang/StringBuilder" ({ cls := "java/lang/StringBuilder", name := "toString", desc := "()Ljava/lang/String;" } : Jvm.MethodName) ({ cls := "java/lang/StringBuilder", name := "toString", desc := "()Ljava/lang/String;" } : Jvm.MethodName) ∈ GW := gwt5 17 (by decide +kernel) rfl
theorem wd1266 : Cond.code ({ cls := "java/lang/StringBuilder", name := "toString", desc := "()Ljava/lang/String;" } : Jvm.MethodName) prog_27_method_42_code (1 : Nat) (Option.some (Jvm.ClassFile.FieldType.object "java/lang/String")) ∈ GW := gwt5 18 (by decide +kernel) rfl
theorem wd1267 : Cond.classLink "java/lang/StringBuilder" (18 : Nat) "java/lang/String" ∈ GW := gwt5 19 (by decide +kernel) rfl
theorem wd1268 : Cond.instantiable "java/lang/String" (4 : Nat) ∈ GW := gwt5 20 (by decide +kernel) rfl
theorem wd1269 : Cond.methodLink "java/lang/StringBuilder" (137 : Nat) ({ cls := "java/lang/String", name := "<init>", desc := "(Ljava/lang/StringBuilder;)V" } : Jvm.MethodName) ∈ GW := gwt5 21 (by decide +kernel) rfl
theorem wd1270 : Cond.instanceMethod ({ cls := "java/lang/String", name := "<init>", desc := "(Ljava/lang/StringBuilder;)V" } : Jvm.MethodName) ∈ GW := gwt5 22 (by decide +kernel) rfl
theorem wd1271 : Cond.code ({ cls := "java/lang/String", name := "<init>", desc := "(Ljava/lang/StringBuilder;)V" } : Jvm.MethodName) prog_26_method_53_code (2 : Nat) (Option.none : Option Jvm.ClassFile.FieldType) ∈ GW := gwt5 23 (by decide +kernel) rfl
theorem wd1272 : Cond.methodLink "java/lang/String" (489 : Nat) ({ cls := "java/lang/String", name := "<init>", desc := "(Ljava/lang/AbstractStringBuilder;Ljava/lang/Void;)V" } : Jvm.MethodName) ∈ GW := gwt5 24 (by decide +kernel) rfl
theorem wd1273 : Cond.instanceMethod ({ cls := "java/lang/String", name := "<init>", desc := "(Ljava/lang/AbstractStringBuilder;Ljava/lang/Void;)V" } : Jvm.MethodName) ∈ GW := gwt5 25 (by decide +kernel) rfl
theorem wd1274 : Cond.code ({ cls := "java/lang/String", name := "<init>", desc := "(Ljava/lang/AbstractStringBuilder;Ljava/lang/Void;)V" } : Jvm.MethodName) prog_26_method_150_code (5 : Nat) (Option.none : Option Jvm.ClassFile.FieldType) ∈ GW := gwt5 26 (by decide +kernel) rfl
theorem wd1275 : Cond.methodLink "java/lang/String" (1 : Nat) ({ cls := "java/lang/Object", name := "<init>", desc := "()V" } : Jvm.MethodName) ∈ GW := gwt5 27 (by decide +kernel) rfl
theorem wd1276 : Cond.methodLink "java/lang/String" (552 : Nat) ({ cls := "java/lang/AbstractStringBuilder", name := "getValue", desc := "()[B" } : Jvm.MethodName) ∈ GW := gwt5 28 (by decide +kernel) rfl
theorem wd1277 : Cond.instanceMethod ({ cls := "java/lang/AbstractStringBuilder", name := "getValue", desc := "()[B" } : Jvm.MethodName) ∈ GW := gwt5 29 (by decide +kernel) rfl
theorem wd1279 : Cond.selects "java/lang/StringBuilder" ({ cls := "java/lang/AbstractStringBuilder", name := "getValue", desc := "()[B" } : Jvm.MethodName) ({ cls := "java/lang/AbstractStringBuilder", name := "getValue", desc := "()[B" } : Jvm.MethodName) ∈ GW := gwt5 31 (by decide +kernel) rfl
theorem wd1280 : Cond.code ({ cls := "java/lang/AbstractStringBuilder", name := "getValue", desc := "()[B" } : Jvm.MethodName) prog_16_method_64_code (1 : Nat) (Option.some (Jvm.ClassFile.FieldType.array Jvm.ClassFile.FieldType.byte)) ∈ GW := gwt5 32 (by decide +kernel) rfl
theorem wd1281 : Cond.methodLink "java/lang/String" (549 : Nat) ({ cls := "java/lang/AbstractStringBuilder", name := "length", desc := "()I" } : Jvm.MethodName) ∈ GW := gwt5 33 (by decide +kernel) rfl
theorem wd1282 : Cond.instanceMethod ({ cls := "java/lang/AbstractStringBuilder", name := "length", desc := "()I" } : Jvm.MethodName) ∈ GW := gwt5 34 (by decide +kernel) rfl
theorem wd1284 : Cond.selects "java/lang/StringBuilder" ({ cls := "java/lang/AbstractStringBuilder", name := "length", desc := "()I" } : Jvm.MethodName) ({ cls := "java/lang/StringBuilder", name := "length", desc := "()I" } : Jvm.MethodName) ∈ GW := gwt5 36 (by decide +kernel) rfl
theorem wd1285 : Cond.instanceMethod ({ cls := "java/lang/StringBuilder", name := "length", desc := "()I" } : Jvm.MethodName) ∈ GW := gwt5 37 (by decide +kernel) rfl
theorem wd1286 : Cond.code ({ cls := "java/lang/StringBuilder", name := "length", desc := "()I" } : Jvm.MethodName) prog_27_method_93_code (1 : Nat) (Option.some Jvm.ClassFile.FieldType.int) ∈ GW := gwt5 38 (by decide +kernel) rfl
theorem wd1287 : Cond.methodLink "java/lang/StringBuilder" (343 : Nat) ({ cls := "java/lang/AbstractStringBuilder", name := "length", desc := "()I" } : Jvm.MethodName) ∈ GW := gwt5 39 (by decide +kernel) rfl
theorem wd1288 : Cond.code ({ cls := "java/lang/AbstractStringBuilder", name := "length", desc := "()I" } : Jvm.MethodName) prog_16_method_6_code (1 : Nat) (Option.some Jvm.ClassFile.FieldType.int) ∈ GW := gwt5 40 (by decide +kernel) rfl
theorem wd1289 : Cond.methodLink "java/lang/String" (1047 : Nat) ({ cls := "java/lang/AbstractStringBuilder", name := "isLatin1", desc := "()Z" } : Jvm.MethodName) ∈ GW := gwt5 41 (by decide +kernel) rfl
theorem wd1290 : Cond.methodLink "java/lang/String" (54 : Nat) ({ cls := "java/util/Arrays", name := "copyOfRange", desc := "([BII)[B" } : Jvm.MethodName) ∈ GW := gwt5 42 (by decide +kernel) rfl
theorem wd1291 : Cond.static ({ cls := "java/util/Arrays", name := "copyOfRange", desc := "([BII)[B" } : Jvm.MethodName) ∈ GW := gwt5 43 (by decide +kernel) rfl
theorem wd1292 : Cond.code ({ cls := "java/util/Arrays", name := "copyOfRange", desc := "([BII)[B" } : Jvm.MethodName) prog_32_method_132_code (3 : Nat) (Option.some (Jvm.ClassFile.FieldType.array Jvm.ClassFile.FieldType.byte)) ∈ GW := gwt5 44 (by decide +kernel) rfl
theorem wd1293 : Cond.methodLink "java/util/Arrays" (339 : Nat) ({ cls := "java/util/Arrays", name := "copyOfRangeByte", desc := "([BII)[B" } : Jvm.MethodName) ∈ GW := gwt5 45 (by decide +kernel) rfl
theorem wd1294 : Cond.static ({ cls := "java/util/Arrays", name := "copyOfRangeByte", desc := "([BII)[B" } : Jvm.MethodName) ∈ GW := gwt5 46 (by decide +kernel) rfl
theorem wd1295 : Cond.code ({ cls := "java/util/Arrays", name := "copyOfRangeByte", desc := "([BII)[B" } : Jvm.MethodName) prog_32_method_133_code (5 : Nat) (Option.some (Jvm.ClassFile.FieldType.array Jvm.ClassFile.FieldType.byte)) ∈ GW := gwt5 47 (by decide +kernel) rfl
theorem wd1296 : Cond.methodLink "java/util/Arrays" (343 : Nat) ({ cls := "java/util/Arrays", name := "checkLength", desc := "(II)V" } : Jvm.MethodName) ∈ GW := gwt5 48 (by decide +kernel) rfl
theorem wd1297 : Cond.static ({ cls := "java/util/Arrays", name := "checkLength", desc := "(II)V" } : Jvm.MethodName) ∈ GW := gwt5 49 (by decide +kernel) rfl
theorem wd1298 : Cond.code ({ cls := "java/util/Arrays", name := "checkLength", desc := "(II)V" } : Jvm.MethodName) prog_32_method_131_code (2 : Nat) (Option.none : Option Jvm.ClassFile.FieldType) ∈ GW := gwt5 50 (by decide +kernel) rfl
theorem wd1299 : Cond.methodLink "java/lang/String" (1051 : Nat) ({ cls := "java/lang/StringUTF16", name := "compress", desc := "([BII)[B" } : Jvm.MethodName) ∈ GW := gwt5 51 (by decide +kernel) rfl
theorem wd1300 : Cond.static ({ cls := "java/lang/StringUTF16", name := "compress", desc := "([BII)[B" } : Jvm.MethodName) ∈ GW := gwt5 52 (by decide +kernel) rfl
theorem wd1301 : Cond.code ({ cls := "java/lang/StringUTF16", name := "compress", desc := "([BII)[B" } : Jvm.MethodName) prog_29_method_17_code (6 : Nat) (Option.some (Jvm.ClassFile.FieldType.array Jvm.ClassFile.FieldType.byte)) ∈ GW := gwt5 53 (by decide +kernel) rfl
theorem wd1302 : Cond.methodLink "java/lang/StringUTF16" (123 : Nat) ({ cls := "java/lang/StringUTF16", name := "compress", desc := "([BI[BII)I" } : Jvm.MethodName) ∈ GW := gwt5 54 (by decide +kernel) rfl
theorem wd1303 : Cond.static ({ cls := "java/lang/StringUTF16", name := "compress", desc := "([BI[BII)I" } : Jvm.MethodName) ∈ GW := gwt5 55 (by decide +kernel) rfl
theorem wd1304 : Cond.code ({ cls := "java/lang/StringUTF16", name := "compress", desc := "([BI[BII)I" } : Jvm.MethodName) prog_29_method_22_code (7 : Nat) (Option.some Jvm.ClassFile.FieldType.int) ∈ GW := gwt5 56 (by decide +kernel) rfl
theorem wd1305 : Cond.methodLink "java/lang/StringUTF16" (126 : Nat) ({ cls := "java/util/Arrays", name := "copyOfRange", desc := "([BII)[B" } : Jvm.MethodName) ∈ GW := gwt5 57 (by decide +kernel) rfl
theorem wd1306 : Cond.methodLink "java/lang/String" (47 : Nat) ({ cls := "java/lang/StringUTF16", name := "coderFromArrayLen", desc := "([BI)B" } : Jvm.MethodName) ∈ GW := gwt5 58 (by decide +kernel) rfl
theorem wd1307 : Cond.static ({ cls := "java/lang/StringUTF16", name := "coderFromArrayLen", desc := "([BI)B" } : Jvm.MethodName) ∈ GW := gwt5 59 (by decide +kernel) rfl
theorem wd1308 : Cond.code ({ cls := "java/lang/StringUTF16", name := "coderFromArrayLen", desc := "([BI)B" } : Jvm.MethodName) prog_29_method_15_code (2 : Nat) (Option.some Jvm.ClassFile.FieldType.byte) ∈ GW := gwt5 60 (by decide +kernel) rfl
theorem wd1309 : Cond.fieldLink "java/lang/String" (9 : Nat) "java/lang/String" "value" "[B" ∈ GW := gwt5 61 (by decide +kernel) rfl
theorem wd1310 : Cond.fieldLink "java/lang/String" (15 : Nat) "java/lang/String" "coder" "B" ∈ GW := gwt5 62 (by decide +kernel) rfl
theorem wd1322 : Cond.methodLink "BakeryNightLaw" (124 : Nat) ({ cls := "java/lang/StringBuilder", name := "<init>", desc := "(Ljava/lang/String;)V" } : Jvm.MethodName) ∈ GW := gwt5 74 (by decide +kernel) rfl
theorem wd1323 : Cond.instanceMethod ({ cls := "java/lang/StringBuilder", name := "<init>", desc := "(Ljava/lang/String;)V" } : Jvm.MethodName) ∈ GW := gwt5 75 (by decide +kernel) rfl
theorem wd1324 : Cond.code ({ cls := "java/lang/StringBuilder", name := "<init>", desc := "(Ljava/lang/String;)V" } : Jvm.MethodName) prog_27_method_3_code (2 : Nat) (Option.none : Option Jvm.ClassFile.FieldType) ∈ GW := gwt5 76 (by decide +kernel) rfl
theorem wd1325 : Cond.methodLink "java/lang/StringBuilder" (7 : Nat) ({ cls := "java/lang/AbstractStringBuilder", name := "<init>", desc := "(Ljava/lang/String;)V" } : Jvm.MethodName) ∈ GW := gwt5 77 (by decide +kernel) rfl
theorem wd1326 : Cond.instanceMethod ({ cls := "java/lang/AbstractStringBuilder", name := "<init>", desc := "(Ljava/lang/String;)V" } : Jvm.MethodName) ∈ GW := gwt5 78 (by decide +kernel) rfl
theorem wd1327 : Cond.code ({ cls := "java/lang/AbstractStringBuilder", name := "<init>", desc := "(Ljava/lang/String;)V" } : Jvm.MethodName) prog_16_method_3_code (5 : Nat) (Option.none : Option Jvm.ClassFile.FieldType) ∈ GW := gwt5 79 (by decide +kernel) rfl
theorem wd1328 : Cond.constant "java/lang/AbstractStringBuilder" (38 : Nat) (2147483631 : Int32) ∈ GW := gwt5 80 (by decide +kernel) rfl
theorem wd1329 : Cond.methodLink "java/lang/AbstractStringBuilder" (43 : Nat) ({ cls := "java/lang/AbstractStringBuilder", name := "append", desc := "(Ljava/lang/String;)Ljava/lang/AbstractStringBuilder;" } : Jvm.MethodName) ∈ GW := gwt5 81 (by decide +kernel) rfl
theorem wd1330 : Cond.instanceMethod ({ cls := "java/lang/StringBuilder", name := "append", desc := "(Ljava/lang/String;)Ljava/lang/AbstractStringBuilder;" } : Jvm.MethodName) ∈ GW := gwt5 82 (by decide +kernel) rfl
theorem wd1331 : Cond.code ({ cls := "java/lang/StringBuilder", name := "append", desc := "(Ljava/lang/String;)Ljava/lang/AbstractStringBuilder;" } : Jvm.MethodName) prog_27_method_80_code (2 : Nat) (Option.some (Jvm.ClassFile.FieldType.object "java/lang/AbstractStringBuilder")) ∈ GW := gwt5 83 (by decide +kernel) rfl
theorem wd1332 : Cond.methodLink "java/lang/StringBuilder" (23 : Nat) ({ cls := "java/lang/StringBuilder", name := "append", desc := "(Ljava/lang/String;)Ljava/lang/StringBuilder;" } : Jvm.MethodName) ∈ GW := gwt5 84 (by decide +kernel) rfl
theorem wd1346 : Cond.methodLink "BakeryNightLaw" (84 : Nat) ({ cls := "BakeryNightLaw", name := "isNight", desc := "(LBakeryNight;I)Z" } : Jvm.MethodName) ∈ GW := gwt5 98 (by decide +kernel) rfl
theorem wd1347 : Cond.static ({ cls := "BakeryNightLaw", name := "isNight", desc := "(LBakeryNight;I)Z" } : Jvm.MethodName) ∈ GW := gwt5 99 (by decide +kernel) rfl
theorem wd1348 : Cond.code ({ cls := "BakeryNightLaw", name := "isNight", desc := "(LBakeryNight;I)Z" } : Jvm.MethodName) method_9_code (9 : Nat) (Option.some Jvm.ClassFile.FieldType.boolean) ∈ GW := gwt5 100 (by decide +kernel) rfl
theorem wd1349 : Cond.methodLink "BakeryNightLaw" (173 : Nat) ({ cls := "BakeryNight", name := "stageMinute", desc := "(II)I" } : Jvm.MethodName) ∈ GW := gwt5 101 (by decide +kernel) rfl
theorem wd1350 : Cond.instanceMethod ({ cls := "BakeryNight", name := "stageMinute", desc := "(II)I" } : Jvm.MethodName) ∈ GW := gwt5 102 (by decide +kernel) rfl
theorem wd1351 : Cond.selects "BakeryNight" ({ cls := "BakeryNight", name := "stageMinute", desc := "(II)I" } : Jvm.MethodName) ({ cls := "BakeryNight", name := "stageMinute", desc := "(II)I" } : Jvm.MethodName) ∈ GW := gwt5 103 (by decide +kernel) rfl
theorem wd1352 : Cond.code ({ cls := "BakeryNight", name := "stageMinute", desc := "(II)I" } : Jvm.MethodName) prog_1_method_19_code (3 : Nat) (Option.some Jvm.ClassFile.FieldType.int) ∈ GW := gwt5 104 (by decide +kernel) rfl
theorem wd1353 : Cond.classLink "BakeryNight" (162 : Nat) "java/lang/IllegalStateException" ∈ GW := gwt5 105 (by decide +kernel) rfl
theorem wd1354 : Cond.instantiable "java/lang/IllegalStateException" (6 : Nat) ∈ GW := gwt5 106 (by decide +kernel) rfl
theorem wd1362 : Cond.selects "java/lang/IllegalStateException" ({ cls := "java/lang/Throwable", name := "fillInStackTrace", desc := "(I)Ljava/lang/Throwable;" } : Jvm.MethodName) ({ cls := "java/lang/Throwable", name := "fillInStackTrace", desc := "(I)Ljava/lang/Throwable;" } : Jvm.MethodName) ∈ GW := gwt5 114 (by decide +kernel) rfl
theorem wd1363 : Cond.selects "java/lang/IllegalStateException" ({ cls := "java/lang/Throwable", name := "fillInStackTrace", desc := "()Ljava/lang/Throwable;" } : Jvm.MethodName) ({ cls := "java/lang/Throwable", name := "fillInStackTrace", desc := "()Ljava/lang/Throwable;" } : Jvm.MethodName) ∈ GW := gwt5 115 (by decide +kernel) rfl
theorem wd1374 : Cond.fieldLink "java/lang/Throwable" (198 : Nat) "java/lang/Throwable" "backtrace" "Ljava/lang/Object;" ∈ GW := gwt5 126 (by decide +kernel) rfl
theorem wd1376 : Cond.instanceMethod ({ cls := "java/lang/Throwable", name := "<init>", desc := "()V" } : Jvm.MethodName) ∈ GW := gwt5 128 (by decide +kernel) rfl
theorem wd1377 : Cond.code ({ cls := "java/lang/Throwable", name := "<init>", desc := "()V" } : Jvm.MethodName) prog_31_method_1_code (1 : Nat) (Option.none : Option Jvm.ClassFile.FieldType) ∈ GW := gwt5 129 (by decide +kernel) rfl
theorem wd1378 : Cond.methodLink "java/lang/Throwable" (1 : Nat) ({ cls := "java/lang/Object", name := "<init>", desc := "()V" } : Jvm.MethodName) ∈ GW := gwt5 130 (by decide +kernel) rfl
theorem wd1379 : Cond.fieldLink "java/lang/Throwable" (13 : Nat) "java/lang/Throwable" "UNASSIGNED_STACK" "[Ljava/lang/StackTraceElement;" ∈ GW := gwt5 131 (by decide +kernel) rfl
theorem wd1381 : Cond.fieldLink "java/lang/Throwable" (20 : Nat) "java/lang/Throwable" "SUPPRESSED_SENTINEL" "Ljava/util/List;" ∈ GW := gwt5 133 (by decide +kernel) rfl
theorem wd1383 : Cond.methodLink "java/lang/Throwable" (27 : Nat) ({ cls := "java/lang/Throwable", name := "fillInStackTrace", desc := "()Ljava/lang/Throwable;" } : Jvm.MethodName) ∈ GW := gwt5 135 (by decide +kernel) rfl
theorem wd1384 : Cond.instanceMethod ({ cls := "java/lang/Throwable", name := "fillInStackTrace", desc := "()Ljava/lang/Throwable;" } : Jvm.MethodName) ∈ GW := gwt5 136 (by decide +kernel) rfl
theorem wd1386 : Cond.selects "java/lang/IndexOutOfBoundsException" ({ cls := "java/lang/Throwable", name := "fillInStackTrace", desc := "()Ljava/lang/Throwable;" } : Jvm.MethodName) ({ cls := "java/lang/Throwable", name := "fillInStackTrace", desc := "()Ljava/lang/Throwable;" } : Jvm.MethodName) ∈ GW := gwt5 138 (by decide +kernel) rfl
theorem wd1388 : Cond.methodLink "java/lang/Throwable" (202 : Nat) ({ cls := "java/lang/Throwable", name := "fillInStackTrace", desc := "(I)Ljava/lang/Throwable;" } : Jvm.MethodName) ∈ GW := gwt5 140 (by decide +kernel) rfl
theorem wd1390 : Cond.instanceMethod ({ cls := "java/lang/Throwable", name := "fillInStackTrace", desc := "(I)Ljava/lang/Throwable;" } : Jvm.MethodName) ∈ GW := gwt5 142 (by decide +kernel) rfl
theorem wd1391 : Cond.instantiable "java/lang/Throwable" (6 : Nat) ∈ GW := gwt5 143 (by decide +kernel) rfl
theorem wd1392 : Cond.native ({ cls := "java/lang/Throwable", name := "fillInStackTrace", desc := "(I)Ljava/lang/Throwable;" } : Jvm.MethodName) ∈ GW := gwt5 144 (by decide +kernel) rfl
theorem wd1394 : Cond.methodLink "BakeryNight" (166 : Nat) ({ cls := "java/lang/IllegalStateException", name := "<init>", desc := "(Ljava/lang/String;)V" } : Jvm.MethodName) ∈ GW := gwt5 146 (by decide +kernel) rfl
theorem wd1395 : Cond.instanceMethod ({ cls := "java/lang/IllegalStateException", name := "<init>", desc := "(Ljava/lang/String;)V" } : Jvm.MethodName) ∈ GW := gwt5 147 (by decide +kernel) rfl
theorem wd1396 : Cond.code ({ cls := "java/lang/IllegalStateException", name := "<init>", desc := "(Ljava/lang/String;)V" } : Jvm.MethodName) prog_20_method_2_code (2 : Nat) (Option.none : Option Jvm.ClassFile.FieldType) ∈ GW := gwt5 148 (by decide +kernel) rfl
theorem wd1397 : Cond.methodLink "java/lang/IllegalStateException" (7 : Nat) ({ cls := "java/lang/RuntimeException", name := "<init>", desc := "(Ljava/lang/String;)V" } : Jvm.MethodName) ∈ GW := gwt5 149 (by decide +kernel) rfl
theorem wd1398 : Cond.instanceMethod ({ cls := "java/lang/RuntimeException", name := "<init>", desc := "(Ljava/lang/String;)V" } : Jvm.MethodName) ∈ GW := gwt5 150 (by decide +kernel) rfl
theorem wd1399 : Cond.code ({ cls := "java/lang/RuntimeException", name := "<init>", desc := "(Ljava/lang/String;)V" } : Jvm.MethodName) prog_25_method_2_code (2 : Nat) (Option.none : Option Jvm.ClassFile.FieldType) ∈ GW := gwt5 151 (by decide +kernel) rfl
theorem wd1400 : Cond.methodLink "java/lang/RuntimeException" (7 : Nat) ({ cls := "java/lang/Exception", name := "<init>", desc := "(Ljava/lang/String;)V" } : Jvm.MethodName) ∈ GW := gwt5 152 (by decide +kernel) rfl
theorem wd1401 : Cond.instanceMethod ({ cls := "java/lang/Exception", name := "<init>", desc := "(Ljava/lang/String;)V" } : Jvm.MethodName) ∈ GW := gwt5 153 (by decide +kernel) rfl
theorem wd1402 : Cond.code ({ cls := "java/lang/Exception", name := "<init>", desc := "(Ljava/lang/String;)V" } : Jvm.MethodName) prog_19_method_2_code (2 : Nat) (Option.none : Option Jvm.ClassFile.FieldType) ∈ GW := gwt5 154 (by decide +kernel) rfl
theorem wd1403 : Cond.methodLink "java/lang/Exception" (7 : Nat) ({ cls := "java/lang/Throwable", name := "<init>", desc := "(Ljava/lang/String;)V" } : Jvm.MethodName) ∈ GW := gwt5 155 (by decide +kernel) rfl
theorem wd1404 : Cond.instanceMethod ({ cls := "java/lang/Throwable", name := "<init>", desc := "(Ljava/lang/String;)V" } : Jvm.MethodName) ∈ GW := gwt5 156 (by decide +kernel) rfl
theorem wd1405 : Cond.code ({ cls := "java/lang/Throwable", name := "<init>", desc := "(Ljava/lang/String;)V" } : Jvm.MethodName) prog_31_method_2_code (2 : Nat) (Option.none : Option Jvm.ClassFile.FieldType) ∈ GW := gwt5 157 (by decide +kernel) rfl
theorem wd1406 : Cond.fieldLink "java/lang/Throwable" (198 : Nat) "java/lang/Throwable" "backtrace" "Ljava/lang/Object;" ∈ GW := gwt5 158 (by decide +kernel) rfl
theorem wd1407 : Cond.fieldLink "java/lang/Throwable" (31 : Nat) "java/lang/Throwable" "detailMessage" "Ljava/lang/String;" ∈ GW := gwt5 159 (by decide +kernel) rfl
theorem wd1408 : Cond.fieldLink "java/lang/Throwable" (7 : Nat) "java/lang/Throwable" "cause" "Ljava/lang/Throwable;" ∈ GW := gwt5 160 (by decide +kernel) rfl
theorem wd1409 : Cond.fieldLink "java/lang/Throwable" (17 : Nat) "java/lang/Throwable" "stackTrace" "[Ljava/lang/StackTraceElement;" ∈ GW := gwt5 161 (by decide +kernel) rfl
theorem wd1410 : Cond.fieldLink "java/lang/Throwable" (24 : Nat) "java/lang/Throwable" "suppressedExceptions" "Ljava/util/List;" ∈ GW := gwt5 162 (by decide +kernel) rfl
theorem wd1419 : Cond.methodLink "BakeryNight" (169 : Nat) ({ cls := "BakeryNight$Night", name := "hasBatch", desc := "(I)Z" } : Jvm.MethodName) ∈ GW := gwt5 171 (by decide +kernel) rfl
theorem wd1420 : Cond.instanceMethod ({ cls := "BakeryNight$Night", name := "hasBatch", desc := "(I)Z" } : Jvm.MethodName) ∈ GW := gwt5 172 (by decide +kernel) rfl
theorem wd1421 : Cond.selects "BakeryNight$Night" ({ cls := "BakeryNight$Night", name := "hasBatch", desc := "(I)Z" } : Jvm.MethodName) ({ cls := "BakeryNight$Night", name := "hasBatch", desc := "(I)Z" } : Jvm.MethodName) ∈ GW := gwt5 173 (by decide +kernel) rfl
theorem wd1422 : Cond.code ({ cls := "BakeryNight$Night", name := "hasBatch", desc := "(I)Z" } : Jvm.MethodName) prog_6_method_18_code (2 : Nat) (Option.some Jvm.ClassFile.FieldType.boolean) ∈ GW := gwt5 174 (by decide +kernel) rfl
theorem wd1423 : Cond.classLink "BakeryNight" (172 : Nat) "java/lang/IndexOutOfBoundsException" ∈ GW := gwt5 175 (by decide +kernel) rfl
theorem wd1424 : Cond.instantiable "java/lang/IndexOutOfBoundsException" (6 : Nat) ∈ GW := gwt5 176 (by decide +kernel) rfl
theorem wd1426 : Cond.selects "java/lang/IndexOutOfBoundsException" ({ cls := "java/lang/Throwable", name := "fillInStackTrace", desc := "(I)Ljava/lang/Throwable;" } : Jvm.MethodName) ({ cls := "java/lang/Throwable", name := "fillInStackTrace", desc := "(I)Ljava/lang/Throwable;" } : Jvm.MethodName) ∈ GW := gwt5 178 (by decide +kernel) rfl
theorem wd1433 : Cond.methodLink "BakeryNight" (176 : Nat) ({ cls := "java/lang/IndexOutOfBoundsException", name := "<init>", desc := "(Ljava/lang/String;)V" } : Jvm.MethodName) ∈ GW := gwt5 185 (by decide +kernel) rfl
theorem wd1434 : Cond.instanceMethod ({ cls := "java/lang/IndexOutOfBoundsException", name := "<init>", desc := "(Ljava/lang/String;)V" } : Jvm.MethodName) ∈ GW := gwt5 186 (by decide +kernel) rfl
theorem wd1435 : Cond.code ({ cls := "java/lang/IndexOutOfBoundsException", name := "<init>", desc := "(Ljava/lang/String;)V" } : Jvm.MethodName) prog_21_method_2_code (2 : Nat) (Option.none : Option Jvm.ClassFile.FieldType) ∈ GW := gwt5 187 (by decide +kernel) rfl
theorem wd1436 : Cond.methodLink "java/lang/IndexOutOfBoundsException" (7 : Nat) ({ cls := "java/lang/RuntimeException", name := "<init>", desc := "(Ljava/lang/String;)V" } : Jvm.MethodName) ∈ GW := gwt5 188 (by decide +kernel) rfl
theorem wd1440 : Cond.methodLink "BakeryNightLaw" (177 : Nat) ({ cls := "BakeryNight", name := "ovenOf", desc := "(I)I" } : Jvm.MethodName) ∈ GW := gwt5 192 (by decide +kernel) rfl
theorem wd1441 : Cond.instanceMethod ({ cls := "BakeryNight", name := "ovenOf", desc := "(I)I" } : Jvm.MethodName) ∈ GW := gwt5 193 (by decide +kernel) rfl
theorem wd1442 : Cond.selects "BakeryNight" ({ cls := "BakeryNight", name := "ovenOf", desc := "(I)I" } : Jvm.MethodName) ({ cls := "BakeryNight", name := "ovenOf", desc := "(I)I" } : Jvm.MethodName) ∈ GW := gwt5 194 (by decide +kernel) rfl
theorem wd1443 : Cond.code ({ cls := "BakeryNight", name := "ovenOf", desc := "(I)I" } : Jvm.MethodName) prog_1_method_20_code (2 : Nat) (Option.some Jvm.ClassFile.FieldType.int) ∈ GW := gwt5 195 (by decide +kernel) rfl
theorem wd1444 : Cond.methodLink "BakeryNightLaw" (180 : Nat) ({ cls := "BakeryNight", name := "bakingMinutes", desc := "(I)I" } : Jvm.MethodName) ∈ GW := gwt5 196 (by decide +kernel) rfl
theorem wd1445 : Cond.instanceMethod ({ cls := "BakeryNight", name := "bakingMinutes", desc := "(I)I" } : Jvm.MethodName) ∈ GW := gwt5 197 (by decide +kernel) rfl
theorem wd1446 : Cond.selects "BakeryNight" ({ cls := "BakeryNight", name := "bakingMinutes", desc := "(I)I" } : Jvm.MethodName) ({ cls := "BakeryNight", name := "bakingMinutes", desc := "(I)I" } : Jvm.MethodName) ∈ GW := gwt5 198 (by decide +kernel) rfl
theorem wd1447 : Cond.code ({ cls := "BakeryNight", name := "bakingMinutes", desc := "(I)I" } : Jvm.MethodName) prog_1_method_23_code (2 : Nat) (Option.some Jvm.ClassFile.FieldType.int) ∈ GW := gwt5 199 (by decide +kernel) rfl
theorem wd1448 : Cond.methodLink "BakeryNight" (193 : Nat) ({ cls := "BakeryNight$Bakery", name := "hasOven", desc := "(I)Z" } : Jvm.MethodName) ∈ GW := gwt5 200 (by decide +kernel) rfl
theorem wd1449 : Cond.instanceMethod ({ cls := "BakeryNight$Bakery", name := "hasOven", desc := "(I)Z" } : Jvm.MethodName) ∈ GW := gwt5 201 (by decide +kernel) rfl
theorem wd1450 : Cond.selects "BakeryNight$Bakery" ({ cls := "BakeryNight$Bakery", name := "hasOven", desc := "(I)Z" } : Jvm.MethodName) ({ cls := "BakeryNight$Bakery", name := "hasOven", desc := "(I)Z" } : Jvm.MethodName) ∈ GW := gwt5 202 (by decide +kernel) rfl
theorem wd1451 : Cond.code ({ cls := "BakeryNight$Bakery", name := "hasOven", desc := "(I)Z" } : Jvm.MethodName) prog_3_method_4_code (2 : Nat) (Option.some Jvm.ClassFile.FieldType.boolean) ∈ GW := gwt5 203 (by decide +kernel) rfl
theorem wd1452 : Cond.methodLink "BakeryNight" (199 : Nat) ({ cls := "BakeryNight$Night", name := "minutesBakedIn", desc := "(I)I" } : Jvm.MethodName) ∈ GW := gwt5 204 (by decide +kernel) rfl
theorem wd1453 : Cond.instanceMethod ({ cls := "BakeryNight$Night", name := "minutesBakedIn", desc := "(I)I" } : Jvm.MethodName) ∈ GW := gwt5 205 (by decide +kernel) rfl
theorem wd1454 : Cond.selects "BakeryNight$Night" ({ cls := "BakeryNight$Night", name := "minutesBakedIn", desc := "(I)I" } : Jvm.MethodName) ({ cls := "BakeryNight$Night", name := "minutesBakedIn", desc := "(I)I" } : Jvm.MethodName) ∈ GW := gwt5 206 (by decide +kernel) rfl
theorem wd1455 : Cond.code ({ cls := "BakeryNight$Night", name := "minutesBakedIn", desc := "(I)I" } : Jvm.MethodName) prog_6_method_22_code (4 : Nat) (Option.some Jvm.ClassFile.FieldType.int) ∈ GW := gwt5 207 (by decide +kernel) rfl
theorem wd1456 : Cond.methodLink "BakeryNightLaw" (183 : Nat) ({ cls := "BakeryNight", name := "waitingMinutes", desc := "(I)I" } : Jvm.MethodName) ∈ GW := gwt5 208 (by decide +kernel) rfl
theorem wd1457 : Cond.instanceMethod ({ cls := "BakeryNight", name := "waitingMinutes", desc := "(I)I" } : Jvm.MethodName) ∈ GW := gwt5 209 (by decide +kernel) rfl
theorem wd1458 : Cond.selects "BakeryNight" ({ cls := "BakeryNight", name := "waitingMinutes", desc := "(I)I" } : Jvm.MethodName) ({ cls := "BakeryNight", name := "waitingMinutes", desc := "(I)I" } : Jvm.MethodName) ∈ GW := gwt5 210 (by decide +kernel) rfl
theorem wd1459 : Cond.code ({ cls := "BakeryNight", name := "waitingMinutes", desc := "(I)I" } : Jvm.MethodName) prog_1_method_24_code (2 : Nat) (Option.some Jvm.ClassFile.FieldType.int) ∈ GW := gwt5 211 (by decide +kernel) rfl
theorem wd1460 : Cond.methodLink "BakeryNight" (202 : Nat) ({ cls := "BakeryNight$Night", name := "isPlace", desc := "(I)Z" } : Jvm.MethodName) ∈ GW := gwt5 212 (by decide +kernel) rfl
theorem wd1461 : Cond.static ({ cls := "BakeryNight$Night", name := "isPlace", desc := "(I)Z" } : Jvm.MethodName) ∈ GW := gwt5 213 (by decide +kernel) rfl
theorem wd1462 : Cond.code ({ cls := "BakeryNight$Night", name := "isPlace", desc := "(I)Z" } : Jvm.MethodName) prog_6_method_19_code (1 : Nat) (Option.some Jvm.ClassFile.FieldType.boolean) ∈ GW := gwt5 214 (by decide +kernel) rfl
theorem wd1463 : Cond.methodLink "BakeryNight" (205 : Nat) ({ cls := "BakeryNight$Night", name := "minutesWaitedFor", desc := "(I)I" } : Jvm.MethodName) ∈ GW := gwt5 215 (by decide +kernel) rfl
theorem wd1464 : Cond.instanceMethod ({ cls := "BakeryNight$Night", name := "minutesWaitedFor", desc := "(I)I" } : Jvm.MethodName) ∈ GW := gwt5 216 (by decide +kernel) rfl
theorem wd1465 : Cond.selects "BakeryNight$Night" ({ cls := "BakeryNight$Night", name := "minutesWaitedFor", desc := "(I)I" } : Jvm.MethodName) ({ cls := "BakeryNight$Night", name := "minutesWaitedFor", desc := "(I)I" } : Jvm.MethodName) ∈ GW := gwt5 217 (by decide +kernel) rfl
theorem wd1466 : Cond.code ({ cls := "BakeryNight$Night", name := "minutesWaitedFor", desc := "(I)I" } : Jvm.MethodName) prog_6_method_23_code (4 : Nat) (Option.some Jvm.ClassFile.FieldType.int) ∈ GW := gwt5 218 (by decide +kernel) rfl
theorem wd1467 : Cond.methodLink "BakeryNight$Night" (258 : Nat) ({ cls := "BakeryNight$Night", name := "stageAt", desc := "(I)I" } : Jvm.MethodName) ∈ GW := gwt5 219 (by decide +kernel) rfl
theorem wd1468 : Cond.static ({ cls := "BakeryNight$Night", name := "stageAt", desc := "(I)I" } : Jvm.MethodName) ∈ GW := gwt5 220 (by decide +kernel) rfl
theorem wd1469 : Cond.code ({ cls := "BakeryNight$Night", name := "stageAt", desc := "(I)I" } : Jvm.MethodName) prog_6_method_20_code (1 : Nat) (Option.some Jvm.ClassFile.FieldType.int) ∈ GW := gwt5 221 (by decide +kernel) rfl
theorem wd1470 : Cond.methodLink "BakeryNightLaw" (186 : Nat) ({ cls := "BakeryNight", name := "changingMinutes", desc := "(I)I" } : Jvm.MethodName) ∈ GW := gwt5 222 (by decide +kernel) rfl
theorem wd1471 : Cond.instanceMethod ({ cls := "BakeryNight", name := "changingMinutes", desc := "(I)I" } : Jvm.MethodName) ∈ GW := gwt5 223 (by decide +kernel) rfl
theorem wd1472 : Cond.selects "BakeryNight" ({ cls := "BakeryNight", name := "changingMinutes", desc := "(I)I" } : Jvm.MethodName) ({ cls := "BakeryNight", name := "changingMinutes", desc := "(I)I" } : Jvm.MethodName) ∈ GW := gwt5 224 (by decide +kernel) rfl
theorem wd1473 : Cond.code ({ cls := "BakeryNight", name := "changingMinutes", desc := "(I)I" } : Jvm.MethodName) prog_1_method_22_code (2 : Nat) (Option.some Jvm.ClassFile.FieldType.int) ∈ GW := gwt5 225 (by decide +kernel) rfl
theorem wd1474 : Cond.methodLink "BakeryNightLaw" (189 : Nat) ({ cls := "BakeryNight", name := "readyMinute", desc := "(I)I" } : Jvm.MethodName) ∈ GW := gwt5 226 (by decide +kernel) rfl
theorem wd1475 : Cond.instanceMethod ({ cls := "BakeryNight", name := "readyMinute", desc := "(I)I" } : Jvm.MethodName) ∈ GW := gwt5 227 (by decide +kernel) rfl
theorem wd1476 : Cond.selects "BakeryNight" ({ cls := "BakeryNight", name := "readyMinute", desc := "(I)I" } : Jvm.MethodName) ({ cls := "BakeryNight", name := "readyMinute", desc := "(I)I" } : Jvm.MethodName) ∈ GW := gwt5 228 (by decide +kernel) rfl
theorem wd1477 : Cond.code ({ cls := "BakeryNight", name := "readyMinute", desc := "(I)I" } : Jvm.MethodName) prog_1_method_28_code (2 : Nat) (Option.some Jvm.ClassFile.FieldType.int) ∈ GW := gwt5 229 (by decide +kernel) rfl
theorem wd1478 : Cond.methodLink "BakeryNight" (220 : Nat) ({ cls := "BakeryNight$Bakery", name := "hasOrder", desc := "(I)Z" } : Jvm.MethodName) ∈ GW := gwt5 230 (by decide +kernel) rfl
theorem wd1479 : Cond.methodLink "BakeryNightLaw" (192 : Nat) ({ cls := "BakeryNight", name := "batchDough", desc := "(I)I" } : Jvm.MethodName) ∈ GW := gwt5 231 (by decide +kernel) rfl
theorem wd1480 : Cond.instanceMethod ({ cls := "BakeryNight", name := "batchDough", desc := "(I)I" } : Jvm.MethodName) ∈ GW := gwt5 232 (by decide +kernel) rfl
theorem wd1481 : Cond.selects "BakeryNight" ({ cls := "BakeryNight", name := "batchDough", desc := "(I)I" } : Jvm.MethodName) ({ cls := "BakeryNight", name := "batchDough", desc := "(I)I" } : Jvm.MethodName) ∈ GW := gwt5 233 (by decide +kernel) rfl
theorem wd1482 : Cond.code ({ cls := "BakeryNight", name := "batchDough", desc := "(I)I" } : Jvm.MethodName) prog_1_method_18_code (2 : Nat) (Option.some Jvm.ClassFile.FieldType.int) ∈ GW := gwt5 234 (by decide +kernel) rfl
theorem wd1483 : Cond.methodLink "BakeryNightLaw" (195 : Nat) ({ cls := "BakeryNight", name := "surplusValue", desc := "(I)I" } : Jvm.MethodName) ∈ GW := gwt5 235 (by decide +kernel) rfl
theorem wd1484 : Cond.instanceMethod ({ cls := "BakeryNight", name := "surplusValue", desc := "(I)I" } : Jvm.MethodName) ∈ GW := gwt5 236 (by decide +kernel) rfl
theorem wd1485 : Cond.selects "BakeryNight" ({ cls := "BakeryNight", name := "surplusValue", desc := "(I)I" } : Jvm.MethodName) ({ cls := "BakeryNight", name := "surplusValue", desc := "(I)I" } : Jvm.MethodName) ∈ GW := gwt5 237 (by decide +kernel) rfl
theorem wd1486 : Cond.code ({ cls := "BakeryNight", name := "surplusValue", desc := "(I)I" } : Jvm.MethodName) prog_1_method_30_code (4 : Nat) (Option.some Jvm.ClassFile.FieldType.int) ∈ GW := gwt5 238 (by decide +kernel) rfl
theorem wd1487 : Cond.methodLink "BakeryNight" (233 : Nat) ({ cls := "BakeryNight$Night", name := "leftOverCents", desc := "(LBakeryNight$Bakery;II)I" } : Jvm.MethodName) ∈ GW := gwt5 239 (by decide +kernel) rfl
theorem wd1488 : Cond.instanceMethod ({ cls := "BakeryNight$Night", name := "leftOverCents", desc := "(LBakeryNight$Bakery;II)I" } : Jvm.MethodName) ∈ GW := gwt6 0 (by decide +kernel) rfl
theorem wd1489 : Cond.selects "BakeryNight$Night" ({ cls := "BakeryNight$Night", name := "leftOverCents", desc := "(LBakeryNight$Bakery;II)I" } : Jvm.MethodName) ({ cls := "BakeryNight$Night", name := "leftOverCents", desc := "(LBakeryNight$Bakery;II)I" } : Jvm.MethodName) ∈ GW := gwt6 1 (by decide +kernel) rfl
theorem wd1490 : Cond.code ({ cls := "BakeryNight$Night", name := "leftOverCents", desc := "(LBakeryNight$Bakery;II)I" } : Jvm.MethodName) prog_6_method_17_code (7 : Nat) (Option.some Jvm.ClassFile.FieldType.int) ∈ GW := gwt6 2 (by decide +kernel) rfl
theorem wd1491 : Cond.methodLink "BakeryNight$Night" (249 : Nat) ({ cls := "BakeryNight$Night", name := "leftOver", desc := "(LBakeryNight$Bakery;I)I" } : Jvm.MethodName) ∈ GW := gwt6 3 (by decide +kernel) rfl
theorem wd1492 : Cond.instanceMethod ({ cls := "BakeryNight$Night", name := "leftOver", desc := "(LBakeryNight$Bakery;I)I" } : Jvm.MethodName) ∈ GW := gwt6 4 (by decide +kernel) rfl
theorem wd1493 : Cond.selects "BakeryNight$Night" ({ cls := "BakeryNight$Night", name := "leftOver", desc := "(LBakeryNight$Bakery;I)I" } : Jvm.MethodName) ({ cls := "BakeryNight$Night", name := "leftOver", desc := "(LBakeryNight$Bakery;I)I" } : Jvm.MethodName) ∈ GW := gwt6 5 (by decide +kernel) rfl
theorem wd1494 : Cond.code ({ cls := "BakeryNight$Night", name := "leftOver", desc := "(LBakeryNight$Bakery;I)I" } : Jvm.MethodName) prog_6_method_16_code (5 : Nat) (Option.some Jvm.ClassFile.FieldType.int) ∈ GW := gwt6 6 (by decide +kernel) rfl
theorem wd1495 : Cond.methodLink "BakeryNight$Night" (246 : Nat) ({ cls := "BakeryNight$Bakery", name := "loavesOf", desc := "(I)I" } : Jvm.MethodName) ∈ GW := gwt6 7 (by decide +kernel) rfl
theorem wd1496 : Cond.methodLink "BakeryNightLaw" (198 : Nat) ({ cls := "BakeryNight", name := "surplusLoaves", desc := "(I)I" } : Jvm.MethodName) ∈ GW := gwt6 8 (by decide +kernel) rfl
theorem wd1497 : Cond.instanceMethod ({ cls := "BakeryNight", name := "surplusLoaves", desc := "(I)I" } : Jvm.MethodName) ∈ GW := gwt6 9 (by decide +kernel) rfl
theorem wd1498 : Cond.selects "BakeryNight" ({ cls := "BakeryNight", name := "surplusLoaves", desc := "(I)I" } : Jvm.MethodName) ({ cls := "BakeryNight", name := "surplusLoaves", desc := "(I)I" } : Jvm.MethodName) ∈ GW := gwt6 10 (by decide +kernel) rfl
theorem wd1499 : Cond.code ({ cls := "BakeryNight", name := "surplusLoaves", desc := "(I)I" } : Jvm.MethodName) prog_1_method_29_code (2 : Nat) (Option.some Jvm.ClassFile.FieldType.int) ∈ GW := gwt6 11 (by decide +kernel) rfl
theorem wd1500 : Cond.methodLink "BakeryNight" (84 : Nat) ({ cls := "BakeryNight$Bakery", name := "hasDough", desc := "(I)Z" } : Jvm.MethodName) ∈ GW := gwt6 12 (by decide +kernel) rfl
theorem wd1501 : Cond.instanceMethod ({ cls := "BakeryNight$Bakery", name := "hasDough", desc := "(I)Z" } : Jvm.MethodName) ∈ GW := gwt6 13 (by decide +kernel) rfl
theorem wd1502 : Cond.selects "BakeryNight$Bakery" ({ cls := "BakeryNight$Bakery", name := "hasDough", desc := "(I)Z" } : Jvm.MethodName) ({ cls := "BakeryNight$Bakery", name := "hasDough", desc := "(I)Z" } : Jvm.MethodName) ∈ GW := gwt6 14 (by decide +kernel) rfl
theorem wd1503 : Cond.code ({ cls := "BakeryNight$Bakery", name := "hasDough", desc := "(I)Z" } : Jvm.MethodName) prog_3_method_3_code (2 : Nat) (Option.some Jvm.ClassFile.FieldType.boolean) ∈ GW := gwt6 15 (by decide +kernel) rfl
theorem wd1504 : Cond.methodLink "BakeryNight" (226 : Nat) ({ cls := "BakeryNight$Night", name := "leftOver", desc := "(LBakeryNight$Bakery;I)I" } : Jvm.MethodName) ∈ GW := gwt6 16 (by decide +kernel) rfl
theorem wd1505 : Cond.methodLink "BakeryNightLaw" (201 : Nat) ({ cls := "BakeryNight", name := "orderedLoaves", desc := "(I)I" } : Jvm.MethodName) ∈ GW := gwt6 17 (by decide +kernel) rfl
theorem wd1506 : Cond.instanceMethod ({ cls := "BakeryNight", name := "orderedLoaves", desc := "(I)I" } : Jvm.MethodName) ∈ GW := gwt6 18 (by decide +kernel) rfl
theorem wd1507 : Cond.selects "BakeryNight" ({ cls := "BakeryNight", name := "orderedLoaves", desc := "(I)I" } : Jvm.MethodName) ({ cls := "BakeryNight", name := "orderedLoaves", desc := "(I)I" } : Jvm.MethodName) ∈ GW := gwt6 19 (by decide +kernel) rfl
theorem wd1508 : Cond.code ({ cls := "BakeryNight", name := "orderedLoaves", desc := "(I)I" } : Jvm.MethodName) prog_1_method_9_code (2 : Nat) (Option.some Jvm.ClassFile.FieldType.int) ∈ GW := gwt6 20 (by decide +kernel) rfl
theorem wd1509 : Cond.methodLink "BakeryNight" (88 : Nat) ({ cls := "BakeryNight$Bakery", name := "loavesOf", desc := "(I)I" } : Jvm.MethodName) ∈ GW := gwt6 21 (by decide +kernel) rfl
theorem wd1510 : Cond.methodLink "BakeryNightLaw" (88 : Nat) ({ cls := "BakeryNightLaw", name := "isMoved", desc := "(LBakeryNight;I)Z" } : Jvm.MethodName) ∈ GW := gwt6 22 (by decide +kernel) rfl
theorem wd1511 : Cond.static ({ cls := "BakeryNightLaw", name := "isMoved", desc := "(LBakeryNight;I)Z" } : Jvm.MethodName) ∈ GW := gwt6 23 (by decide +kernel) rfl
theorem wd1512 : Cond.code ({ cls := "BakeryNightLaw", name := "isMoved", desc := "(LBakeryNight;I)Z" } : Jvm.MethodName) method_10_code (7 : Nat) (Option.some Jvm.ClassFile.FieldType.boolean) ∈ GW := gwt6 24 (by decide +kernel) rfl
theorem wd1513 : Cond.methodLink "BakeryNightLaw" (91 : Nat) ({ cls := "BakeryNightLaw", name := "isLatest", desc := "(LBakeryNight;)Z" } : Jvm.MethodName) ∈ GW := gwt6 25 (by decide +kernel) rfl
theorem wd1514 : Cond.static ({ cls := "BakeryNightLaw", name := "isLatest", desc := "(LBakeryNight;)Z" } : Jvm.MethodName) ∈ GW := gwt6 26 (by decide +kernel) rfl
theorem wd1515 : Cond.code ({ cls := "BakeryNightLaw", name := "isLatest", desc := "(LBakeryNight;)Z" } : Jvm.MethodName) method_11_code (5 : Nat) (Option.some Jvm.ClassFile.FieldType.boolean) ∈ GW := gwt6 27 (by decide +kernel) rfl
theorem wd1516 : Cond.methodLink "BakeryNightLaw" (204 : Nat) ({ cls := "BakeryNight", name := "vitalStreet", desc := "()I" } : Jvm.MethodName) ∈ GW := gwt6 28 (by decide +kernel) rfl
theorem wd1517 : Cond.instanceMethod ({ cls := "BakeryNight", name := "vitalStreet", desc := "()I" } : Jvm.MethodName) ∈ GW := gwt6 29 (by decide +kernel) rfl
theorem wd1518 : Cond.selects "BakeryNight" ({ cls := "BakeryNight", name := "vitalStreet", desc := "()I" } : Jvm.MethodName) ({ cls := "BakeryNight", name := "vitalStreet", desc := "()I" } : Jvm.MethodName) ∈ GW := gwt6 30 (by decide +kernel) rfl
theorem wd1519 : Cond.code ({ cls := "BakeryNight", name := "vitalStreet", desc := "()I" } : Jvm.MethodName) prog_1_method_39_code (6 : Nat) (Option.some Jvm.ClassFile.FieldType.int) ∈ GW := gwt6 31 (by decide +kernel) rfl
theorem wd1520 : Cond.methodLink "BakeryNight" (291 : Nat) ({ cls := "BakeryNight$Roads", name := "explore", desc := "(II)V" } : Jvm.MethodName) ∈ GW := gwt6 32 (by decide +kernel) rfl
theorem wd1521 : Cond.methodLink "BakeryNightLaw" (207 : Nat) ({ cls := "BakeryNight", name := "closeStreet", desc := "(IZ)Z" } : Jvm.MethodName) ∈ GW := gwt6 33 (by decide +kernel) rfl
theorem wd1522 : Cond.instanceMethod ({ cls := "BakeryNight", name := "closeStreet", desc := "(IZ)Z" } : Jvm.MethodName) ∈ GW := gwt6 34 (by decide +kernel) rfl
theorem wd1523 : Cond.selects "BakeryNight" ({ cls := "BakeryNight", name := "closeStreet", desc := "(IZ)Z" } : Jvm.MethodName) ({ cls := "BakeryNight", name := "closeStreet", desc := "(IZ)Z" } : Jvm.MethodName) ∈ GW := gwt6 35 (by decide +kernel) rfl
theorem wd1524 : Cond.code ({ cls := "BakeryNight", name := "closeStreet", desc := "(IZ)Z" } : Jvm.MethodName) prog_1_method_44_code (4 : Nat) (Option.some Jvm.ClassFile.FieldType.boolean) ∈ GW := gwt6 36 (by decide +kernel) rfl
theorem wd1525 : Cond.methodLink "BakeryNight" (317 : Nat) ({ cls := "BakeryNight$Bakery", name := "markStreet", desc := "(IZ)V" } : Jvm.MethodName) ∈ GW := gwt6 37 (by decide +kernel) rfl
theorem wd1526 : Cond.methodLink "BakeryNight" (305 : Nat) ({ cls := "BakeryNight", name := "recordChange", desc := "(III)V" } : Jvm.MethodName) ∈ GW := gwt6 38 (by decide +kernel) rfl
theorem wd1528 : Cond.instanceMethod ({ cls := "BakeryNight", name := "recordChange", desc := "(III)V" } : Jvm.MethodName) ∈ GW := gwt6 40 (by decide +kernel) rfl
theorem wd1529 : Cond.code ({ cls := "BakeryNight", name := "recordChange", desc := "(III)V" } : Jvm.MethodName) prog_1_method_41_code (4 : Nat) (Option.none : Option Jvm.ClassFile.FieldType) ∈ GW := gwt6 41 (by decide +kernel) rfl
theorem wd1530 : Cond.methodLink "BakeryNight" (298 : Nat) ({ cls := "BakeryNight$History", name := "add", desc := "(III)V" } : Jvm.MethodName) ∈ GW := gwt6 42 (by decide +kernel) rfl
theorem wd1531 : Cond.instanceMethod ({ cls := "BakeryNight$History", name := "add", desc := "(III)V" } : Jvm.MethodName) ∈ GW := gwt6 43 (by decide +kernel) rfl
theorem wd1532 : Cond.selects "BakeryNight$History" ({ cls := "BakeryNight$History", name := "add", desc := "(III)V" } : Jvm.MethodName) ({ cls := "BakeryNight$History", name := "add", desc := "(III)V" } : Jvm.MethodName) ∈ GW := gwt6 44 (by decide +kernel) rfl
theorem wd1533 : Cond.code ({ cls := "BakeryNight$History", name := "add", desc := "(III)V" } : Jvm.MethodName) prog_5_method_3_code (4 : Nat) (Option.none : Option Jvm.ClassFile.FieldType) ∈ GW := gwt6 45 (by decide +kernel) rfl
theorem wd1534 : Cond.methodLink "BakeryNight$History" (23 : Nat) ({ cls := "BakeryNight$History", name := "dropOldest", desc := "()V" } : Jvm.MethodName) ∈ GW := gwt6 46 (by decide +kernel) rfl
theorem wd1536 : Cond.instanceMethod ({ cls := "BakeryNight$History", name := "dropOldest", desc := "()V" } : Jvm.MethodName) ∈ GW := gwt6 48 (by decide +kernel) rfl
theorem wd1537 : Cond.code ({ cls := "BakeryNight$History", name := "dropOldest", desc := "()V" } : Jvm.MethodName) prog_5_method_4_code (1 : Nat) (Option.none : Option Jvm.ClassFile.FieldType) ∈ GW := gwt6 49 (by decide +kernel) rfl
theorem wd1538 : Cond.methodLink "BakeryNight$History" (26 : Nat) ({ cls := "java/lang/System", name := "arraycopy", desc := "(Ljava/lang/Object;ILjava/lang/Object;II)V" } : Jvm.MethodName) ∈ GW := gwt6 50 (by decide +kernel) rfl
theorem wd1539 : Cond.methodLink "BakeryNightLaw" (211 : Nat) ({ cls := "BakeryNight", name := "latestStartWith", desc := "(I)I" } : Jvm.MethodName) ∈ GW := gwt6 51 (by decide +kernel) rfl
theorem wd1540 : Cond.instanceMethod ({ cls := "BakeryNight", name := "latestStartWith", desc := "(I)I" } : Jvm.MethodName) ∈ GW := gwt6 52 (by decide +kernel) rfl
theorem wd1541 : Cond.selects "BakeryNight" ({ cls := "BakeryNight", name := "latestStartWith", desc := "(I)I" } : Jvm.MethodName) ({ cls := "BakeryNight", name := "latestStartWith", desc := "(I)I" } : Jvm.MethodName) ∈ GW := gwt6 53 (by decide +kernel) rfl
theorem wd1542 : Cond.code ({ cls := "BakeryNight", name := "latestStartWith", desc := "(I)I" } : Jvm.MethodName) prog_1_method_38_code (3 : Nat) (Option.some Jvm.ClassFile.FieldType.int) ∈ GW := gwt6 54 (by decide +kernel) rfl
theorem wd1543 : Cond.methodLink "BakeryNight" (277 : Nat) ({ cls := "BakeryNight$Bakery", name := "improve", desc := "(II)V" } : Jvm.MethodName) ∈ GW := gwt6 55 (by decide +kernel) rfl
theorem wd1544 : Cond.instanceMethod ({ cls := "BakeryNight$Bakery", name := "improve", desc := "(II)V" } : Jvm.MethodName) ∈ GW := gwt6 56 (by decide +kernel) rfl
theorem wd1545 : Cond.selects "BakeryNight$Bakery" ({ cls := "BakeryNight$Bakery", name := "improve", desc := "(II)V" } : Jvm.MethodName) ({ cls := "BakeryNight$Bakery", name := "improve", desc := "(II)V" } : Jvm.MethodName) ∈ GW := gwt6 57 (by decide +kernel) rfl
theorem wd1546 : Cond.code ({ cls := "BakeryNight$Bakery", name := "improve", desc := "(II)V" } : Jvm.MethodName) prog_3_method_17_code (4 : Nat) (Option.none : Option Jvm.ClassFile.FieldType) ∈ GW := gwt6 58 (by decide +kernel) rfl
theorem wd1547 : Cond.constant "BakeryNight$Bakery" (126 : Nat) (1000000 : Int32) ∈ GW := gwt6 59 (by decide +kernel) rfl
theorem wd1548 : Cond.methodLink "BakeryNightLaw" (95 : Nat) ({ cls := "BakeryNightLaw", name := "isUndone", desc := "(LBakeryNight;I)Z" } : Jvm.MethodName) ∈ GW := gwt6 60 (by decide +kernel) rfl
theorem wd1549 : Cond.static ({ cls := "BakeryNightLaw", name := "isUndone", desc := "(LBakeryNight;I)Z" } : Jvm.MethodName) ∈ GW := gwt6 61 (by decide +kernel) rfl
theorem wd1550 : Cond.code ({ cls := "BakeryNightLaw", name := "isUndone", desc := "(LBakeryNight;I)Z" } : Jvm.MethodName) method_12_code (9 : Nat) (Option.some Jvm.ClassFile.FieldType.boolean) ∈ GW := gwt6 62 (by decide +kernel) rfl
theorem wd1551 : Cond.methodLink "BakeryNightLaw" (214 : Nat) ({ cls := "BakeryNight", name := "moveOrder", desc := "(II)I" } : Jvm.MethodName) ∈ GW := gwt6 63 (by decide +kernel) rfl
theorem wd1552 : Cond.instanceMethod ({ cls := "BakeryNight", name := "moveOrder", desc := "(II)I" } : Jvm.MethodName) ∈ GW := gwt6 64 (by decide +kernel) rfl
theorem wd1553 : Cond.selects "BakeryNight" ({ cls := "BakeryNight", name := "moveOrder", desc := "(II)I" } : Jvm.MethodName) ({ cls := "BakeryNight", name := "moveOrder", desc := "(II)I" } : Jvm.MethodName) ∈ GW := gwt6 65 (by decide +kernel) rfl
theorem wd1554 : Cond.code ({ cls := "BakeryNight", name := "moveOrder", desc := "(II)I" } : Jvm.MethodName) prog_1_method_47_code (4 : Nat) (Option.some Jvm.ClassFile.FieldType.int) ∈ GW := gwt6 66 (by decide +kernel) rfl
theorem wd1555 : Cond.methodLink "BakeryNightLaw" (217 : Nat) ({ cls := "BakeryNight", name := "setRoom", desc := "(I)I" } : Jvm.MethodName) ∈ GW := gwt6 67 (by decide +kernel) rfl
theorem wd1556 : Cond.instanceMethod ({ cls := "BakeryNight", name := "setRoom", desc := "(I)I" } : Jvm.MethodName) ∈ GW := gwt6 68 (by decide +kernel) rfl
theorem wd1557 : Cond.selects "BakeryNight" ({ cls := "BakeryNight", name := "setRoom", desc := "(I)I" } : Jvm.MethodName) ({ cls := "BakeryNight", name := "setRoom", desc := "(I)I" } : Jvm.MethodName) ∈ GW := gwt6 69 (by decide +kernel) rfl
theorem wd1558 : Cond.code ({ cls := "BakeryNight", name := "setRoom", desc := "(I)I" } : Jvm.MethodName) prog_1_method_42_code (3 : Nat) (Option.some Jvm.ClassFile.FieldType.int) ∈ GW := gwt6 70 (by decide +kernel) rfl
theorem wd1559 : Cond.methodLink "BakeryNightLaw" (220 : Nat) ({ cls := "BakeryNight", name := "addOrder", desc := "(IIII)I" } : Jvm.MethodName) ∈ GW := gwt6 71 (by decide +kernel) rfl
theorem wd1560 : Cond.instanceMethod ({ cls := "BakeryNight", name := "addOrder", desc := "(IIII)I" } : Jvm.MethodName) ∈ GW := gwt6 72 (by decide +kernel) rfl
theorem wd1561 : Cond.selects "BakeryNight" ({ cls := "BakeryNight", name := "addOrder", desc := "(IIII)I" } : Jvm.MethodName) ({ cls := "BakeryNight", name := "addOrder", desc := "(IIII)I" } : Jvm.MethodName) ∈ GW := gwt6 73 (by decide +kernel) rfl
theorem wd1562 : Cond.code ({ cls := "BakeryNight", name := "addOrder", desc := "(IIII)I" } : Jvm.MethodName) prog_1_method_45_code (6 : Nat) (Option.some Jvm.ClassFile.FieldType.int) ∈ GW := gwt6 74 (by decide +kernel) rfl
theorem wd1563 : Cond.methodLink "BakeryNight" (125 : Nat) ({ cls := "BakeryNight$Bakery", name := "hasShop", desc := "(I)Z" } : Jvm.MethodName) ∈ GW := gwt6 75 (by decide +kernel) rfl
theorem wd1564 : Cond.instanceMethod ({ cls := "BakeryNight$Bakery", name := "hasShop", desc := "(I)Z" } : Jvm.MethodName) ∈ GW := gwt6 76 (by decide +kernel) rfl
theorem wd1565 : Cond.selects "BakeryNight$Bakery" ({ cls := "BakeryNight$Bakery", name := "hasShop", desc := "(I)Z" } : Jvm.MethodName) ({ cls := "BakeryNight$Bakery", name := "hasShop", desc := "(I)Z" } : Jvm.MethodName) ∈ GW := gwt6 77 (by decide +kernel) rfl
theorem wd1566 : Cond.code ({ cls := "BakeryNight$Bakery", name := "hasShop", desc := "(I)Z" } : Jvm.MethodName) prog_3_method_5_code (2 : Nat) (Option.some Jvm.ClassFile.FieldType.boolean) ∈ GW := gwt6 78 (by decide +kernel) rfl
theorem wd1567 : Cond.methodLink "BakeryNight" (325 : Nat) ({ cls := "BakeryNight$Order", name := "set", desc := "(IIII)V" } : Jvm.MethodName) ∈ GW := gwt6 79 (by decide +kernel) rfl
theorem wd1568 : Cond.methodLink "BakeryNightLaw" (224 : Nat) ({ cls := "BakeryNight", name := "cancelOrder", desc := "(I)Z" } : Jvm.MethodName) ∈ GW := gwt6 80 (by decide +kernel) rfl
theorem wd1569 : Cond.instanceMethod ({ cls := "BakeryNight", name := "cancelOrder", desc := "(I)Z" } : Jvm.MethodName) ∈ GW := gwt6 81 (by decide +kernel) rfl
theorem wd1570 : Cond.selects "BakeryNight" ({ cls := "BakeryNight", name := "cancelOrder", desc := "(I)Z" } : Jvm.MethodName) ({ cls := "BakeryNight", name := "cancelOrder", desc := "(I)Z" } : Jvm.MethodName) ∈ GW := gwt6 82 (by decide +kernel) rfl
theorem wd1571 : Cond.code ({ cls := "BakeryNight", name := "cancelOrder", desc := "(I)Z" } : Jvm.MethodName) prog_1_method_46_code (2 : Nat) (Option.some Jvm.ClassFile.FieldType.boolean) ∈ GW := gwt6 83 (by decide +kernel) rfl
theorem wd1572 : Cond.methodLink "BakeryNightLaw" (227 : Nat) ({ cls := "BakeryNight", name := "breakOven", desc := "(IZ)Z" } : Jvm.MethodName) ∈ GW := gwt6 84 (by decide +kernel) rfl
theorem wd1573 : Cond.instanceMethod ({ cls := "BakeryNight", name := "breakOven", desc := "(IZ)Z" } : Jvm.MethodName) ∈ GW := gwt6 85 (by decide +kernel) rfl
theorem wd1574 : Cond.selects "BakeryNight" ({ cls := "BakeryNight", name := "breakOven", desc := "(IZ)Z" } : Jvm.MethodName) ({ cls := "BakeryNight", name := "breakOven", desc := "(IZ)Z" } : Jvm.MethodName) ∈ GW := gwt6 86 (by decide +kernel) rfl
theorem wd1575 : Cond.code ({ cls := "BakeryNight", name := "breakOven", desc := "(IZ)Z" } : Jvm.MethodName) prog_1_method_43_code (4 : Nat) (Option.some Jvm.ClassFile.FieldType.boolean) ∈ GW := gwt6 87 (by decide +kernel) rfl
theorem wd1584 : Cond.selects "java/lang/StringBuilder" ({ cls := "java/lang/AbstractStringBuilder", name := "append", desc := "(Ljava/lang/String;)Ljava/lang/AbstractStringBuilder;" } : Jvm.MethodName) ({ cls := "java/lang/StringBuilder", name := "append", desc := "(Ljava/lang/String;)Ljava/lang/AbstractStringBuilder;" } : Jvm.MethodName) ∈ GW := gwt6 96 (by decide +kernel) rfl
theorem wd1586 : Cond.fieldLink "BakeryNight$Scanner" (51 : Nat) "BakeryNight$Word" "text" "Ljava/lang/String;" ∈ GW := gwt6 98 (by decide +kernel) rfl
theorem wd1587 : Cond.fieldLink "java/lang/Enum" (7 : Nat) "java/lang/Enum" "ordinal" "I" ∈ GW := gwt6 99 (by decide +kernel) rfl
theorem lay_X1_ix : ∀ k, k < 14 → lw_tbl[([389, 391, 393, 395, 397, 399, 401, 403, 405, 407, 409, 411, 413, 415] : List Nat).getD k 0]? = some (u_lay RX1 TX1 k) ∧ goodWord (u_lay RX1 TX1 k) = true := by decide +kernel
theorem lay_X1 : ∀ w ∈ u_ws RX1 TX1 14, w ∈ GW := fun w hw => by
  obtain ⟨k, hk, rfl⟩ := List.mem_map.mp hw
  have h := lay_X1_ix k (List.mem_range.mp hk)
  exact gwi _ h.1 h.2
theorem lay_X2_ix : ∀ k, k < 10 → lw_tbl[([183, 185, 187, 189, 191, 193, 195, 197, 199, 201] : List Nat).getD k 0]? = some (u_lay RX2 TX2 k) ∧ goodWord (u_lay RX2 TX2 k) = true := by decide +kernel
theorem lay_X2 : ∀ w ∈ u_ws RX2 TX2 10, w ∈ GW := fun w hw => by
  obtain ⟨k, hk, rfl⟩ := List.mem_map.mp hw
  have h := lay_X2_ix k (List.mem_range.mp hk)
  exact gwi _ h.1 h.2
theorem lay_X3_ix : ∀ k, k < 4 → lw_tbl[([429, 431, 433, 435] : List Nat).getD k 0]? = some (u_lay RX3 TX3 k) ∧ goodWord (u_lay RX3 TX3 k) = true := by decide +kernel
theorem lay_X3 : ∀ w ∈ u_ws RX3 TX3 4, w ∈ GW := fun w hw => by
  obtain ⟨k, hk, rfl⟩ := List.mem_map.mp hw
  have h := lay_X3_ix k (List.mem_range.mp hk)
  exact gwi _ h.1 h.2
theorem lay_X4_ix : ∀ k, k < 20 → lw_tbl[([472, 474, 476, 478, 480, 482, 484, 486, 488, 490, 492, 494, 496, 498, 500, 502, 504, 506, 508, 510] : List Nat).getD k 0]? = some (u_lay RX4 TX4 k) ∧ goodWord (u_lay RX4 TX4 k) = true := by decide +kernel
theorem lay_X4 : ∀ w ∈ u_ws RX4 TX4 20, w ∈ GW := fun w hw => by
  obtain ⟨k, hk, rfl⟩ := List.mem_map.mp hw
  have h := lay_X4_ix k (List.mem_range.mp hk)
  exact gwi _ h.1 h.2
theorem lay_X5_ix : ∀ k, k < 5 → lw_tbl[([256, 258, 260, 262, 264] : List Nat).getD k 0]? = some (u_lay RX5 TX5 k) ∧ goodWord (u_lay RX5 TX5 k) = true := by decide +kernel
theorem lay_X5 : ∀ w ∈ u_ws RX5 TX5 5, w ∈ GW := fun w hw => by
  obtain ⟨k, hk, rfl⟩ := List.mem_map.mp hw
  have h := lay_X5_ix k (List.mem_range.mp hk)
  exact gwi _ h.1 h.2
theorem lay_X6_ix : ∀ k, k < 4 → lw_tbl[([222, 224, 226, 228] : List Nat).getD k 0]? = some (u_lay RX6 TX6 k) ∧ goodWord (u_lay RX6 TX6 k) = true := by decide +kernel
theorem lay_X6 : ∀ w ∈ u_ws RX6 TX6 4, w ∈ GW := fun w hw => by
  obtain ⟨k, hk, rfl⟩ := List.mem_map.mp hw
  have h := lay_X6_ix k (List.mem_range.mp hk)
  exact gwi _ h.1 h.2
theorem lay_X7_ix : ∀ k, k < 9 → lw_tbl[([129, 131, 133, 135, 137, 139, 141, 143, 145] : List Nat).getD k 0]? = some (u_lay RX7 TX7 k) ∧ goodWord (u_lay RX7 TX7 k) = true := by decide +kernel
theorem lay_X7 : ∀ w ∈ u_ws RX7 TX7 9, w ∈ GW := fun w hw => by
  obtain ⟨k, hk, rfl⟩ := List.mem_map.mp hw
  have h := lay_X7_ix k (List.mem_range.mp hk)
  exact gwi _ h.1 h.2
theorem lay_X8_ix : ∀ k, k < 15 → lw_tbl[([536, 538, 540, 542, 544, 546, 548, 550, 552, 554, 556, 558, 560, 562, 564] : List Nat).getD k 0]? = some (u_lay RX8 TX8 k) ∧ goodWord (u_lay RX8 TX8 k) = true := by decide +kernel
theorem lay_X8 : ∀ w ∈ u_ws RX8 TX8 15, w ∈ GW := fun w hw => by
  obtain ⟨k, hk, rfl⟩ := List.mem_map.mp hw
  have h := lay_X8_ix k (List.mem_range.mp hk)
  exact gwi _ h.1 h.2
theorem lay_X9_ix : ∀ k, k < 7 → lw_tbl[([291, 293, 295, 297, 299, 301, 303] : List Nat).getD k 0]? = some (u_lay RX9 TX9 k) ∧ goodWord (u_lay RX9 TX9 k) = true := by decide +kernel
theorem lay_X9 : ∀ w ∈ u_ws RX9 TX9 7, w ∈ GW := fun w hw => by
  obtain ⟨k, hk, rfl⟩ := List.mem_map.mp hw
  have h := lay_X9_ix k (List.mem_range.mp hk)
  exact gwi _ h.1 h.2
theorem lay_X10_ix : ∀ k, k < 5 → lw_tbl[([107, 109, 111, 113, 115] : List Nat).getD k 0]? = some (u_lay RX10 TX10 k) ∧ goodWord (u_lay RX10 TX10 k) = true := by decide +kernel
theorem lay_X10 : ∀ w ∈ u_ws RX10 TX10 5, w ∈ GW := fun w hw => by
  obtain ⟨k, hk, rfl⟩ := List.mem_map.mp hw
  have h := lay_X10_ix k (List.mem_range.mp hk)
  exact gwi _ h.1 h.2
theorem lay_X12_ix : ∀ k, k < 12 → lw_tbl[([579, 581, 583, 585, 587, 589, 591, 593, 595, 597, 599, 601] : List Nat).getD k 0]? = some (u_lay RX12 TX12 k) ∧ goodWord (u_lay RX12 TX12 k) = true := by decide +kernel
theorem lay_X12 : ∀ w ∈ u_ws RX12 TX12 12, w ∈ GW := fun w hw => by
  obtain ⟨k, hk, rfl⟩ := List.mem_map.mp hw
  have h := lay_X12_ix k (List.mem_range.mp hk)
  exact gwi _ h.1 h.2
theorem lay_J0_ix : ∀ k, k < 4 → lw_tbl[([1311, 1313, 1315, 1317] : List Nat).getD k 0]? = some (u_lay RJ0 TJ0 k) ∧ goodWord (u_lay RJ0 TJ0 k) = true := by decide +kernel
theorem lay_J0 : ∀ w ∈ u_ws RJ0 TJ0 4, w ∈ GW := fun w hw => by
  obtain ⟨k, hk, rfl⟩ := List.mem_map.mp hw
  have h := lay_J0_ix k (List.mem_range.mp hk)
  exact gwi _ h.1 h.2
theorem lay_J4_ix : ∀ k, k < 4 → lw_tbl[([1119, 1121, 1123, 1125] : List Nat).getD k 0]? = some (u_lay RJ4 TJ4 k) ∧ goodWord (u_lay RJ4 TJ4 k) = true := by decide +kernel
theorem lay_J4 : ∀ w ∈ u_ws RJ4 TJ4 4, w ∈ GW := fun w hw => by
  obtain ⟨k, hk, rfl⟩ := List.mem_map.mp hw
  have h := lay_J4_ix k (List.mem_range.mp hk)
  exact gwi _ h.1 h.2
