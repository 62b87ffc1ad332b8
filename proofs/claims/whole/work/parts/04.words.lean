theorem wd0 : Cond.selects "BakeryNight$Roads" (⟨"BakeryNight$Roads", "joinStreets", "()V"⟩ : MethodName) ⟨"BakeryNight$Roads", "joinStreets", "()V"⟩ ∈ GW := gwi 0 (by decide +kernel) rfl
theorem wd1 : Cond.selects "BakeryNight$Roads" (⟨"BakeryNight$Roads", "measureRoutes", "(I)V"⟩ : MethodName) ⟨"BakeryNight$Roads", "measureRoutes", "(I)V"⟩ ∈ GW := gwi 1 (by decide +kernel) rfl
theorem wd2 : Cond.selects "BakeryNight$Roads" (⟨"BakeryNight$Roads", "by", "(III)I"⟩ : MethodName) ⟨"BakeryNight$Roads", "by", "(III)I"⟩ ∈ GW := gwi 2 (by decide +kernel) rfl
theorem wd3 : Cond.selects "BakeryNight" (⟨"BakeryNight", "append", "(I)V"⟩ : MethodName) ⟨"BakeryNight", "append", "(I)V"⟩ ∈ GW := gwi 3 (by decide +kernel) rfl
theorem wd4 : Cond.selects "BakeryNight$Parser" (⟨"BakeryNight$Parser", "readStatement", "(LBakeryNight$Bakery;)V"⟩ : MethodName) ⟨"BakeryNight$Parser", "readStatement", "(LBakeryNight$Bakery;)V"⟩ ∈ GW := gwi 4 (by decide +kernel) rfl
theorem wd5 : Cond.selects "BakeryNight$Parser" (⟨"BakeryNight$Parser", "fail", "(I)V"⟩ : MethodName) ⟨"BakeryNight$Parser", "fail", "(I)V"⟩ ∈ GW := gwi 5 (by decide +kernel) rfl
theorem wd6 : Cond.selects "BakeryNight$Parser" (⟨"BakeryNight$Parser", "readSetting", "(ZII)I"⟩ : MethodName) ⟨"BakeryNight$Parser", "readSetting", "(ZII)I"⟩ ∈ GW := gwi 6 (by decide +kernel) rfl
theorem wd7 : Cond.selects "BakeryNight$Parser" (⟨"BakeryNight$Parser", "readNumber", "(II)I"⟩ : MethodName) ⟨"BakeryNight$Parser", "readNumber", "(II)I"⟩ ∈ GW := gwi 7 (by decide +kernel) rfl
theorem wd8 : Cond.selects "BakeryNight$Parser" (⟨"BakeryNight$Parser", "failed", "()Z"⟩ : MethodName) ⟨"BakeryNight$Parser", "failed", "()Z"⟩ ∈ GW := gwi 8 (by decide +kernel) rfl
theorem wd9 : Cond.selects "BakeryNight$Parser" (⟨"BakeryNight$Parser", "readDough", "(LBakeryNight$Bakery;)V"⟩ : MethodName) ⟨"BakeryNight$Parser", "readDough", "(LBakeryNight$Bakery;)V"⟩ ∈ GW := gwi 9 (by decide +kernel) rfl
theorem wd10 : Cond.selects "BakeryNight$Parser" (⟨"BakeryNight$Parser", "beginOneOf", "(II)V"⟩ : MethodName) ⟨"BakeryNight$Parser", "beginOneOf", "(II)V"⟩ ∈ GW := gwi 10 (by decide +kernel) rfl
theorem wd11 : Cond.selects "BakeryNight$Parser" (⟨"BakeryNight$Parser", "readNewName", "([JI)V"⟩ : MethodName) ⟨"BakeryNight$Parser", "readNewName", "([JI)V"⟩ ∈ GW := gwi 11 (by decide +kernel) rfl
theorem wd12 : Cond.selects "BakeryNight$Parser" (⟨"BakeryNight$Parser", "indexOfName", "([JI)I"⟩ : MethodName) ⟨"BakeryNight$Parser", "indexOfName", "([JI)I"⟩ ∈ GW := gwi 12 (by decide +kernel) rfl
theorem wd13 : Cond.selects "BakeryNight$Parser" (⟨"BakeryNight$Parser", "readField", "(LBakeryNight$Word;II)I"⟩ : MethodName) ⟨"BakeryNight$Parser", "readField", "(LBakeryNight$Word;II)I"⟩ ∈ GW := gwi 13 (by decide +kernel) rfl
theorem wd14 : Cond.selects "BakeryNight$Parser" (⟨"BakeryNight$Parser", "readOven", "(LBakeryNight$Bakery;)V"⟩ : MethodName) ⟨"BakeryNight$Parser", "readOven", "(LBakeryNight$Bakery;)V"⟩ ∈ GW := gwi 14 (by decide +kernel) rfl
theorem wd15 : Cond.selects "BakeryNight$Parser" (⟨"BakeryNight$Parser", "readShop", "(LBakeryNight$Bakery;)V"⟩ : MethodName) ⟨"BakeryNight$Parser", "readShop", "(LBakeryNight$Bakery;)V"⟩ ∈ GW := gwi 15 (by decide +kernel) rfl
theorem wd16 : Cond.selects "BakeryNight$Parser" (⟨"BakeryNight$Parser", "readStreet", "(LBakeryNight$Bakery;)V"⟩ : MethodName) ⟨"BakeryNight$Parser", "readStreet", "(LBakeryNight$Bakery;)V"⟩ ∈ GW := gwi 16 (by decide +kernel) rfl
theorem wd17 : Cond.selects "BakeryNight$Parser" (⟨"BakeryNight$Parser", "readPlace", "(LBakeryNight$Bakery;I)I"⟩ : MethodName) ⟨"BakeryNight$Parser", "readPlace", "(LBakeryNight$Bakery;I)I"⟩ ∈ GW := gwi 17 (by decide +kernel) rfl
theorem wd18 : Cond.selects "BakeryNight$Parser" (⟨"BakeryNight$Parser", "readVan", "(LBakeryNight$Bakery;)V"⟩ : MethodName) ⟨"BakeryNight$Parser", "readVan", "(LBakeryNight$Bakery;)V"⟩ ∈ GW := gwi 18 (by decide +kernel) rfl
theorem wd19 : Cond.selects "BakeryNight$Parser" (⟨"BakeryNight$Parser", "readOrder", "(LBakeryNight$Bakery;)V"⟩ : MethodName) ⟨"BakeryNight$Parser", "readOrder", "(LBakeryNight$Bakery;)V"⟩ ∈ GW := gwi 19 (by decide +kernel) rfl
theorem wd20 : Cond.selects "BakeryNight$Parser" (⟨"BakeryNight$Parser", "readKnownName", "([JI)I"⟩ : MethodName) ⟨"BakeryNight$Parser", "readKnownName", "([JI)I"⟩ ∈ GW := gwi 20 (by decide +kernel) rfl
theorem wd21 : Cond.selects "BakeryNight$Parser" (⟨"BakeryNight$Parser", "readSemicolon", "()V"⟩ : MethodName) ⟨"BakeryNight$Parser", "readSemicolon", "()V"⟩ ∈ GW := gwi 21 (by decide +kernel) rfl
theorem wd22 : Cond.selects "BakeryNight" (⟨"BakeryNight", "dropNight", "()V"⟩ : MethodName) ⟨"BakeryNight", "dropNight", "()V"⟩ ∈ GW := gwi 22 (by decide +kernel) rfl
theorem wd23 : Cond.selects "BakeryNight" (⟨"BakeryNight", "placeOf", "(I)I"⟩ : MethodName) ⟨"BakeryNight", "placeOf", "(I)I"⟩ ∈ GW := gwi 23 (by decide +kernel) rfl
theorem wd24 : Cond.selects "BakeryNight$Night" (⟨"BakeryNight$Night", "begin", "(LBakeryNight$Bakery;I)V"⟩ : MethodName) ⟨"BakeryNight$Night", "begin", "(LBakeryNight$Bakery;I)V"⟩ ∈ GW := gwi 24 (by decide +kernel) rfl
theorem wd25 : Cond.selects "BakeryNight$Night" (⟨"BakeryNight$Night", "numberBatches", "(LBakeryNight$Bakery;)V"⟩ : MethodName) ⟨"BakeryNight$Night", "numberBatches", "(LBakeryNight$Bakery;)V"⟩ ∈ GW := gwi 25 (by decide +kernel) rfl
theorem wd26 : Cond.selects "BakeryNight$Night" (⟨"BakeryNight$Night", "noteWhatEnded", "(LBakeryNight$Bakery;I)V"⟩ : MethodName) ⟨"BakeryNight$Night", "noteWhatEnded", "(LBakeryNight$Bakery;I)V"⟩ ∈ GW := gwi 26 (by decide +kernel) rfl
theorem wd27 : Cond.selects "BakeryNight$Night" (⟨"BakeryNight$Night", "isIn", "(III)Z"⟩ : MethodName) ⟨"BakeryNight$Night", "isIn", "(III)Z"⟩ ∈ GW := gwi 27 (by decide +kernel) rfl
theorem wd28 : Cond.selects "BakeryNight$Night" (⟨"BakeryNight$Night", "spoilWaiting", "(LBakeryNight$Bakery;I)V"⟩ : MethodName) ⟨"BakeryNight$Night", "spoilWaiting", "(LBakeryNight$Bakery;I)V"⟩ ∈ GW := gwi 28 (by decide +kernel) rfl
theorem wd29 : Cond.selects "BakeryNight$Night" (⟨"BakeryNight$Night", "bakeWaiting", "(LBakeryNight$Bakery;I)V"⟩ : MethodName) ⟨"BakeryNight$Night", "bakeWaiting", "(LBakeryNight$Bakery;I)V"⟩ ∈ GW := gwi 29 (by decide +kernel) rfl
theorem wd30 : Cond.selects "BakeryNight$Night" (⟨"BakeryNight$Night", "freeOven", "(LBakeryNight$Bakery;II)I"⟩ : MethodName) ⟨"BakeryNight$Night", "freeOven", "(LBakeryNight$Bakery;II)I"⟩ ∈ GW := gwi 30 (by decide +kernel) rfl
theorem wd31 : Cond.selects "BakeryNight$Night" (⟨"BakeryNight$Night", "changeAnOven", "(LBakeryNight$Bakery;II)V"⟩ : MethodName) ⟨"BakeryNight$Night", "changeAnOven", "(LBakeryNight$Bakery;II)V"⟩ ∈ GW := gwi 31 (by decide +kernel) rfl
theorem wd32 : Cond.selects "BakeryNight$Night" (⟨"BakeryNight$Night", "shapeWaiting", "(LBakeryNight$Bakery;I)V"⟩ : MethodName) ⟨"BakeryNight$Night", "shapeWaiting", "(LBakeryNight$Bakery;I)V"⟩ ∈ GW := gwi 32 (by decide +kernel) rfl
theorem wd33 : Cond.selects "BakeryNight$Night" (⟨"BakeryNight$Night", "mixNext", "(LBakeryNight$Bakery;I)V"⟩ : MethodName) ⟨"BakeryNight$Night", "mixNext", "(LBakeryNight$Bakery;I)V"⟩ ∈ GW := gwi 33 (by decide +kernel) rfl
theorem wd34 : Cond.selects "BakeryNight$Night" (⟨"BakeryNight$Night", "nextMinute", "(LBakeryNight$Bakery;I)I"⟩ : MethodName) ⟨"BakeryNight$Night", "nextMinute", "(LBakeryNight$Bakery;I)I"⟩ ∈ GW := gwi 34 (by decide +kernel) rfl
theorem wd35 : Cond.selects "BakeryNight$Night" (⟨"BakeryNight$Night", "giveLoaves", "(LBakeryNight$Bakery;)V"⟩ : MethodName) ⟨"BakeryNight$Night", "giveLoaves", "(LBakeryNight$Bakery;)V"⟩ ∈ GW := gwi 35 (by decide +kernel) rfl
theorem wd36 : Cond.selects "BakeryNight$Bakery" (⟨"BakeryNight$Bakery", "comesBefore", "(II)Z"⟩ : MethodName) ⟨"BakeryNight$Bakery", "comesBefore", "(II)Z"⟩ ∈ GW := gwi 36 (by decide +kernel) rfl
theorem wd37 : Cond.selects "BakeryNight$Night" (⟨"BakeryNight$Night", "takenOut", "(LBakeryNight$Bakery;II)I"⟩ : MethodName) ⟨"BakeryNight$Night", "takenOut", "(LBakeryNight$Bakery;II)I"⟩ ∈ GW := gwi 37 (by decide +kernel) rfl
theorem wd38 : Cond.selects "BakeryNight" (⟨"BakeryNight", "bestPlan", "()LBakeryNight$Plan;"⟩ : MethodName) ⟨"BakeryNight", "bestPlan", "()LBakeryNight$Plan;"⟩ ∈ GW := gwi 38 (by decide +kernel) rfl
theorem wd39 : Cond.selects "BakeryNight$Plan" (⟨"BakeryNight$Plan", "measureSets", "(LBakeryNight$Bakery;)V"⟩ : MethodName) ⟨"BakeryNight$Plan", "measureSets", "(LBakeryNight$Bakery;)V"⟩ ∈ GW := gwi 39 (by decide +kernel) rfl
theorem wd40 : Cond.selects "BakeryNight$Plan" (⟨"BakeryNight$Plan", "drive", "(LBakeryNight$Roads;I)V"⟩ : MethodName) ⟨"BakeryNight$Plan", "drive", "(LBakeryNight$Roads;I)V"⟩ ∈ GW := gwi 40 (by decide +kernel) rfl
theorem wd41 : Cond.selects "BakeryNight$Plan" (⟨"BakeryNight$Plan", "departureFor", "(I)I"⟩ : MethodName) ⟨"BakeryNight$Plan", "departureFor", "(I)I"⟩ ∈ GW := gwi 41 (by decide +kernel) rfl
theorem wd42 : Cond.selects "BakeryNight$Plan" (⟨"BakeryNight$Plan", "firstWay", "(LBakeryNight$Bakery;)I"⟩ : MethodName) ⟨"BakeryNight$Plan", "firstWay", "(LBakeryNight$Bakery;)I"⟩ ∈ GW := gwi 42 (by decide +kernel) rfl
theorem wd43 : Cond.selects "BakeryNight$Plan" (⟨"BakeryNight$Plan", "canCarry", "(LBakeryNight$Bakery;)Z"⟩ : MethodName) ⟨"BakeryNight$Plan", "canCarry", "(LBakeryNight$Bakery;)Z"⟩ ∈ GW := gwi 43 (by decide +kernel) rfl
theorem wd44 : Cond.selects "BakeryNight$Plan" (⟨"BakeryNight$Plan", "nextWay", "(LBakeryNight$Bakery;)V"⟩ : MethodName) ⟨"BakeryNight$Plan", "nextWay", "(LBakeryNight$Bakery;)V"⟩ ∈ GW := gwi 44 (by decide +kernel) rfl
theorem wd45 : Cond.selects "BakeryNight" (⟨"BakeryNight", "latestAsItIs", "()I"⟩ : MethodName) ⟨"BakeryNight", "latestAsItIs", "()I"⟩ ∈ GW := gwi 45 (by decide +kernel) rfl
theorem wd46 : Cond.selects "BakeryNight" (⟨"BakeryNight", "recordChange", "(III)V"⟩ : MethodName) ⟨"BakeryNight", "recordChange", "(III)V"⟩ ∈ GW := gwi 46 (by decide +kernel) rfl
theorem wd47 : Cond.selects "BakeryNight$History" (⟨"BakeryNight$History", "dropOldest", "()V"⟩ : MethodName) ⟨"BakeryNight$History", "dropOldest", "()V"⟩ ∈ GW := gwi 47 (by decide +kernel) rfl
theorem wd48 : Cond.selects "java/lang/Throwable" (⟨"java/lang/Throwable", "fillInStackTrace", "(I)Ljava/lang/Throwable;"⟩ : MethodName) ⟨"java/lang/Throwable", "fillInStackTrace", "(I)Ljava/lang/Throwable;"⟩ ∈ GW := gwi 48 (by decide +kernel) rfl
theorem wd49 : Cond.selects "BakeryNightModel" (⟨"BakeryNightModel", "empties", "([I)V"⟩ : MethodName) ⟨"BakeryNightModel", "empties", "([I)V"⟩ ∈ GW := gwi 49 (by decide +kernel) rfl
theorem wd50 : Cond.selects "BakeryNightModel" (⟨"BakeryNightModel", "isIn", "(JJJ)Z"⟩ : MethodName) ⟨"BakeryNightModel", "isIn", "(JJJ)Z"⟩ ∈ GW := gwi 50 (by decide +kernel) rfl
theorem wd51 : Cond.selects "BakeryNightModel" (⟨"BakeryNightModel", "skips", "()V"⟩ : MethodName) ⟨"BakeryNightModel", "skips", "()V"⟩ ∈ GW := gwi 51 (by decide +kernel) rfl
theorem wd52 : Cond.selects "BakeryNightModel" (⟨"BakeryNightModel", "here", "()I"⟩ : MethodName) ⟨"BakeryNightModel", "here", "()I"⟩ ∈ GW := gwi 52 (by decide +kernel) rfl
theorem wd53 : Cond.selects "BakeryNightModel" (⟨"BakeryNightModel", "byteAt", "(I)I"⟩ : MethodName) ⟨"BakeryNightModel", "byteAt", "(I)I"⟩ ∈ GW := gwi 53 (by decide +kernel) rfl
theorem wd54 : Cond.selects "BakeryNightModel" (⟨"BakeryNightModel", "fine", "()Z"⟩ : MethodName) ⟨"BakeryNightModel", "fine", "()Z"⟩ ∈ GW := gwi 54 (by decide +kernel) rfl
theorem wd55 : Cond.selects "BakeryNightModel" (⟨"BakeryNightModel", "statement", "()V"⟩ : MethodName) ⟨"BakeryNightModel", "statement", "()V"⟩ ∈ GW := gwi 55 (by decide +kernel) rfl
theorem wd56 : Cond.selects "BakeryNightModel" (⟨"BakeryNightModel", "singleHere", "()I"⟩ : MethodName) ⟨"BakeryNightModel", "singleHere", "()I"⟩ ∈ GW := gwi 56 (by decide +kernel) rfl
theorem wd57 : Cond.selects "BakeryNightModel" (⟨"BakeryNightModel", "isWord", "(Ljava/lang/String;)Z"⟩ : MethodName) ⟨"BakeryNightModel", "isWord", "(Ljava/lang/String;)Z"⟩ ∈ GW := gwi 57 (by decide +kernel) rfl
theorem wd58 : Cond.selects "BakeryNightModel" (⟨"BakeryNightModel", "wordLength", "()I"⟩ : MethodName) ⟨"BakeryNightModel", "wordLength", "()I"⟩ ∈ GW := gwi 58 (by decide +kernel) rfl
theorem wd59 : Cond.selects "BakeryNightModel" (⟨"BakeryNightModel", "isLetter", "(I)Z"⟩ : MethodName) ⟨"BakeryNightModel", "isLetter", "(I)Z"⟩ ∈ GW := gwi 59 (by decide +kernel) rfl
theorem wd60 : Cond.selects "BakeryNightModel" (⟨"BakeryNightModel", "manyHere", "()I"⟩ : MethodName) ⟨"BakeryNightModel", "manyHere", "()I"⟩ ∈ GW := gwi 60 (by decide +kernel) rfl
theorem wd61 : Cond.selects "BakeryNightModel" (⟨"BakeryNightModel", "single", "(I)V"⟩ : MethodName) ⟨"BakeryNightModel", "single", "(I)V"⟩ ∈ GW := gwi 61 (by decide +kernel) rfl
theorem wd62 : Cond.selects "BakeryNightModel" (⟨"BakeryNightModel", "has", "(II)Z"⟩ : MethodName) ⟨"BakeryNightModel", "has", "(II)Z"⟩ ∈ GW := gwi 62 (by decide +kernel) rfl
theorem wd63 : Cond.selects "BakeryNightModel" (⟨"BakeryNightModel", "faulty", "(II)V"⟩ : MethodName) ⟨"BakeryNightModel", "faulty", "(II)V"⟩ ∈ GW := gwi 63 (by decide +kernel) rfl
theorem wd64 : Cond.selects "BakeryNightModel" (⟨"BakeryNightModel", "skipsWord", "()V"⟩ : MethodName) ⟨"BakeryNightModel", "skipsWord", "()V"⟩ ∈ GW := gwi 64 (by decide +kernel) rfl
theorem wd65 : Cond.selects "BakeryNightModel" (⟨"BakeryNightModel", "number", "(II)I"⟩ : MethodName) ⟨"BakeryNightModel", "number", "(II)I"⟩ ∈ GW := gwi 65 (by decide +kernel) rfl
theorem wd66 : Cond.selects "BakeryNightModel" (⟨"BakeryNightModel", "many", "(I)V"⟩ : MethodName) ⟨"BakeryNightModel", "many", "(I)V"⟩ ∈ GW := gwi 66 (by decide +kernel) rfl
theorem wd67 : Cond.selects "BakeryNightModel" (⟨"BakeryNightModel", "mostOf", "(I)I"⟩ : MethodName) ⟨"BakeryNightModel", "mostOf", "(I)I"⟩ ∈ GW := gwi 67 (by decide +kernel) rfl
theorem wd68 : Cond.selects "BakeryNightModel" (⟨"BakeryNightModel", "doughStatement", "()V"⟩ : MethodName) ⟨"BakeryNightModel", "doughStatement", "()V"⟩ ∈ GW := gwi 68 (by decide +kernel) rfl
theorem wd69 : Cond.selects "BakeryNightModel" (⟨"BakeryNightModel", "fresh", "([JI)J"⟩ : MethodName) ⟨"BakeryNightModel", "fresh", "([JI)J"⟩ ∈ GW := gwi 69 (by decide +kernel) rfl
theorem wd70 : Cond.selects "BakeryNightModel" (⟨"BakeryNightModel", "name", "()J"⟩ : MethodName) ⟨"BakeryNightModel", "name", "()J"⟩ ∈ GW := gwi 70 (by decide +kernel) rfl
theorem wd71 : Cond.selects "BakeryNightModel" (⟨"BakeryNightModel", "isKeyword", "()Z"⟩ : MethodName) ⟨"BakeryNightModel", "isKeyword", "()Z"⟩ ∈ GW := gwi 71 (by decide +kernel) rfl
theorem wd72 : Cond.selects "BakeryNightModel" (⟨"BakeryNightModel", "placeOf", "([JIJ)I"⟩ : MethodName) ⟨"BakeryNightModel", "placeOf", "([JIJ)I"⟩ ∈ GW := gwi 72 (by decide +kernel) rfl
theorem wd73 : Cond.selects "BakeryNightModel" (⟨"BakeryNightModel", "part", "(ILjava/lang/String;II)V"⟩ : MethodName) ⟨"BakeryNightModel", "part", "(ILjava/lang/String;II)V"⟩ ∈ GW := gwi 73 (by decide +kernel) rfl
theorem wd74 : Cond.selects "BakeryNightModel" (⟨"BakeryNightModel", "needs", "(Ljava/lang/String;)V"⟩ : MethodName) ⟨"BakeryNightModel", "needs", "(Ljava/lang/String;)V"⟩ ∈ GW := gwi 74 (by decide +kernel) rfl
theorem wd75 : Cond.selects "BakeryNightModel" (⟨"BakeryNightModel", "takes", "(Ljava/lang/String;)Z"⟩ : MethodName) ⟨"BakeryNightModel", "takes", "(Ljava/lang/String;)Z"⟩ ∈ GW := gwi 75 (by decide +kernel) rfl
theorem wd76 : Cond.selects "BakeryNightModel" (⟨"BakeryNightModel", "ovenStatement", "()V"⟩ : MethodName) ⟨"BakeryNightModel", "ovenStatement", "()V"⟩ ∈ GW := gwi 76 (by decide +kernel) rfl
theorem wd77 : Cond.selects "BakeryNightModel" (⟨"BakeryNightModel", "streetStatement", "()V"⟩ : MethodName) ⟨"BakeryNightModel", "streetStatement", "()V"⟩ ∈ GW := gwi 77 (by decide +kernel) rfl
theorem wd78 : Cond.selects "BakeryNightModel" (⟨"BakeryNightModel", "place", "()I"⟩ : MethodName) ⟨"BakeryNightModel", "place", "()I"⟩ ∈ GW := gwi 78 (by decide +kernel) rfl
theorem wd79 : Cond.selects "BakeryNightModel" (⟨"BakeryNightModel", "known", "([JI)I"⟩ : MethodName) ⟨"BakeryNightModel", "known", "([JI)I"⟩ ∈ GW := gwi 79 (by decide +kernel) rfl
theorem wd80 : Cond.selects "BakeryNightModel" (⟨"BakeryNightModel", "greater", "(II)I"⟩ : MethodName) ⟨"BakeryNightModel", "greater", "(II)I"⟩ ∈ GW := gwi 80 (by decide +kernel) rfl
theorem wd81 : Cond.selects "BakeryNightModel" (⟨"BakeryNightModel", "orderStatement", "()V"⟩ : MethodName) ⟨"BakeryNightModel", "orderStatement", "()V"⟩ ∈ GW := gwi 81 (by decide +kernel) rfl
theorem wd82 : Cond.selects "BakeryNightModel" (⟨"BakeryNightModel", "semicolon", "()V"⟩ : MethodName) ⟨"BakeryNightModel", "semicolon", "()V"⟩ ∈ GW := gwi 82 (by decide +kernel) rfl
theorem wd83 : Cond.selects "BakeryNightModel" (⟨"BakeryNightModel", "copies", "([I[I)V"⟩ : MethodName) ⟨"BakeryNightModel", "copies", "([I[I)V"⟩ ∈ GW := gwi 83 (by decide +kernel) rfl
theorem wd84 : Cond.selects "BakeryNightModel" (⟨"BakeryNightModel", "isDough", "(I)Z"⟩ : MethodName) ⟨"BakeryNightModel", "isDough", "(I)Z"⟩ ∈ GW := gwi 84 (by decide +kernel) rfl
theorem wd85 : Cond.selects "BakeryNightModel" (⟨"BakeryNightModel", "loavesOf", "([II)I"⟩ : MethodName) ⟨"BakeryNightModel", "loavesOf", "([II)I"⟩ ∈ GW := gwi 85 (by decide +kernel) rfl
theorem wd86 : Cond.selects "BakeryNightModel" (⟨"BakeryNightModel", "isMeant", "([II)Z"⟩ : MethodName) ⟨"BakeryNightModel", "isMeant", "([II)Z"⟩ ∈ GW := gwi 86 (by decide +kernel) rfl
theorem wd87 : Cond.selects "BakeryNightModel" (⟨"BakeryNightModel", "order", "([III)I"⟩ : MethodName) ⟨"BakeryNightModel", "order", "([III)I"⟩ ∈ GW := gwi 87 (by decide +kernel) rfl
theorem wd88 : Cond.selects "BakeryNightModel" (⟨"BakeryNightModel", "allBatches", "([I)I"⟩ : MethodName) ⟨"BakeryNightModel", "allBatches", "([I)I"⟩ ∈ GW := gwi 88 (by decide +kernel) rfl
theorem wd89 : Cond.selects "BakeryNightModel" (⟨"BakeryNightModel", "batchesOf", "([II)I"⟩ : MethodName) ⟨"BakeryNightModel", "batchesOf", "([II)I"⟩ ∈ GW := gwi 89 (by decide +kernel) rfl
theorem wd90 : Cond.selects "BakeryNightModel" (⟨"BakeryNightModel", "dough", "([III)I"⟩ : MethodName) ⟨"BakeryNightModel", "dough", "([III)I"⟩ ∈ GW := gwi 90 (by decide +kernel) rfl
theorem wd91 : Cond.selects "BakeryNightModel" (⟨"BakeryNightModel", "up", "(II)I"⟩ : MethodName) ⟨"BakeryNightModel", "up", "(II)I"⟩ ∈ GW := gwi 91 (by decide +kernel) rfl
theorem wd92 : Cond.selects "BakeryNightModel" (⟨"BakeryNightModel", "slowed", "([II)I"⟩ : MethodName) ⟨"BakeryNightModel", "slowed", "([II)I"⟩ ∈ GW := gwi 92 (by decide +kernel) rfl
theorem wd93 : Cond.selects "BakeryNightModel" (⟨"BakeryNightModel", "simulates", "([I)V"⟩ : MethodName) ⟨"BakeryNightModel", "simulates", "([I)V"⟩ ∈ GW := gwi 93 (by decide +kernel) rfl
theorem wd94 : Cond.selects "BakeryNightModel" (⟨"BakeryNightModel", "clears", "([I)V"⟩ : MethodName) ⟨"BakeryNightModel", "clears", "([I)V"⟩ ∈ GW := gwi 94 (by decide +kernel) rfl
theorem wd95 : Cond.selects "BakeryNightModel" (⟨"BakeryNightModel", "findsBatches", "([I)V"⟩ : MethodName) ⟨"BakeryNightModel", "findsBatches", "([I)V"⟩ ∈ GW := gwi 95 (by decide +kernel) rfl
theorem wd96 : Cond.selects "BakeryNightModel" (⟨"BakeryNightModel", "dueOf", "([II)I"⟩ : MethodName) ⟨"BakeryNightModel", "dueOf", "([II)I"⟩ ∈ GW := gwi 96 (by decide +kernel) rfl
theorem wd97 : Cond.selects "BakeryNightModel" (⟨"BakeryNightModel", "lesser", "(II)I"⟩ : MethodName) ⟨"BakeryNightModel", "lesser", "(II)I"⟩ ∈ GW := gwi 97 (by decide +kernel) rfl
theorem wd98 : Cond.selects "BakeryNightModel" (⟨"BakeryNightModel", "oven", "([III)I"⟩ : MethodName) ⟨"BakeryNightModel", "oven", "([III)I"⟩ ∈ GW := gwi 98 (by decide +kernel) rfl
theorem wd99 : Cond.selects "BakeryNightModel" (⟨"BakeryNightModel", "stateMany", "(I)I"⟩ : MethodName) ⟨"BakeryNightModel", "stateMany", "(I)I"⟩ ∈ GW := gwi 99 (by decide +kernel) rfl
theorem wd100 : Cond.selects "BakeryNightModel" (⟨"BakeryNightModel", "endsAll", "([I)V"⟩ : MethodName) ⟨"BakeryNightModel", "endsAll", "([I)V"⟩ ∈ GW := gwi 100 (by decide +kernel) rfl
theorem wd101 : Cond.selects "BakeryNightModel" (⟨"BakeryNightModel", "goesOn", "([II)V"⟩ : MethodName) ⟨"BakeryNightModel", "goesOn", "([II)V"⟩ ∈ GW := gwi 101 (by decide +kernel) rfl
theorem wd102 : Cond.selects "BakeryNightModel" (⟨"BakeryNightModel", "reaches", "(II)V"⟩ : MethodName) ⟨"BakeryNightModel", "reaches", "(II)V"⟩ ∈ GW := gwi 102 (by decide +kernel) rfl
theorem wd103 : Cond.selects "BakeryNightModel" (⟨"BakeryNightModel", "spoils", "([I)V"⟩ : MethodName) ⟨"BakeryNightModel", "spoils", "([I)V"⟩ ∈ GW := gwi 103 (by decide +kernel) rfl
theorem wd104 : Cond.selects "BakeryNightModel" (⟨"BakeryNightModel", "bakes", "([I)V"⟩ : MethodName) ⟨"BakeryNightModel", "bakes", "([I)V"⟩ ∈ GW := gwi 104 (by decide +kernel) rfl
theorem wd105 : Cond.selects "BakeryNightModel" (⟨"BakeryNightModel", "ovenFor", "([II)I"⟩ : MethodName) ⟨"BakeryNightModel", "ovenFor", "([II)I"⟩ ∈ GW := gwi 105 (by decide +kernel) rfl
theorem wd106 : Cond.selects "BakeryNightModel" (⟨"BakeryNightModel", "isUsable", "([II)Z"⟩ : MethodName) ⟨"BakeryNightModel", "isUsable", "([II)Z"⟩ ∈ GW := gwi 106 (by decide +kernel) rfl
theorem wd107 : Cond.selects "BakeryNightModel" (⟨"BakeryNightModel", "onShelves", "(I)I"⟩ : MethodName) ⟨"BakeryNightModel", "onShelves", "(I)I"⟩ ∈ GW := gwi 107 (by decide +kernel) rfl
theorem wd108 : Cond.selects "BakeryNightModel" (⟨"BakeryNightModel", "isOneChanging", "([II)Z"⟩ : MethodName) ⟨"BakeryNightModel", "isOneChanging", "([II)Z"⟩ ∈ GW := gwi 108 (by decide +kernel) rfl
theorem wd109 : Cond.selects "BakeryNightModel" (⟨"BakeryNightModel", "heats", "([II)V"⟩ : MethodName) ⟨"BakeryNightModel", "heats", "([II)V"⟩ ∈ GW := gwi 109 (by decide +kernel) rfl
theorem wd110 : Cond.selects "BakeryNightModel" (⟨"BakeryNightModel", "changeMinutes", "([III)I"⟩ : MethodName) ⟨"BakeryNightModel", "changeMinutes", "([III)I"⟩ ∈ GW := gwi 110 (by decide +kernel) rfl
theorem wd111 : Cond.selects "BakeryNightModel" (⟨"BakeryNightModel", "shapes", "([I)V"⟩ : MethodName) ⟨"BakeryNightModel", "shapes", "([I)V"⟩ ∈ GW := gwi 111 (by decide +kernel) rfl
theorem wd112 : Cond.selects "BakeryNightModel" (⟨"BakeryNightModel", "mixes", "([I)V"⟩ : MethodName) ⟨"BakeryNightModel", "mixes", "([I)V"⟩ ∈ GW := gwi 112 (by decide +kernel) rfl
theorem wd113 : Cond.selects "BakeryNightModel" (⟨"BakeryNightModel", "isBatch", "(I)Z"⟩ : MethodName) ⟨"BakeryNightModel", "isBatch", "(I)Z"⟩ ∈ GW := gwi 113 (by decide +kernel) rfl
theorem wd114 : Cond.selects "BakeryNightModel" (⟨"BakeryNightModel", "isNight", "()Z"⟩ : MethodName) ⟨"BakeryNightModel", "isNight", "()Z"⟩ ∈ GW := gwi 114 (by decide +kernel) rfl
theorem wd115 : Cond.selects "BakeryNightModel" (⟨"BakeryNightModel", "fails", "(I)I"⟩ : MethodName) ⟨"BakeryNightModel", "fails", "(I)I"⟩ ∈ GW := gwi 115 (by decide +kernel) rfl
theorem wd116 : Cond.selects "BakeryNightModel" (⟨"BakeryNightModel", "stageOf", "(II)I"⟩ : MethodName) ⟨"BakeryNightModel", "stageOf", "(II)I"⟩ ∈ GW := gwi 116 (by decide +kernel) rfl
theorem wd117 : Cond.selects "BakeryNightModel" (⟨"BakeryNightModel", "isOven", "(I)Z"⟩ : MethodName) ⟨"BakeryNightModel", "isOven", "(I)Z"⟩ ∈ GW := gwi 117 (by decide +kernel) rfl
theorem wd118 : Cond.selects "BakeryNightModel" (⟨"BakeryNightModel", "uses", "(III)Z"⟩ : MethodName) ⟨"BakeryNightModel", "uses", "(III)Z"⟩ ∈ GW := gwi 118 (by decide +kernel) rfl
theorem wd119 : Cond.selects "BakeryNightModel" (⟨"BakeryNightModel", "inUse", "(II)I"⟩ : MethodName) ⟨"BakeryNightModel", "inUse", "(II)I"⟩ ∈ GW := gwi 119 (by decide +kernel) rfl
theorem wd120 : Cond.selects "BakeryNightModel" (⟨"BakeryNightModel", "readyAt", "([II)I"⟩ : MethodName) ⟨"BakeryNightModel", "readyAt", "([II)I"⟩ ∈ GW := gwi 120 (by decide +kernel) rfl
theorem wd121 : Cond.selects "BakeryNightModel" (⟨"BakeryNightModel", "isReady", "([II)Z"⟩ : MethodName) ⟨"BakeryNightModel", "isReady", "([II)Z"⟩ ∈ GW := gwi 121 (by decide +kernel) rfl
theorem wd122 : Cond.selects "BakeryNightModel" (⟨"BakeryNightModel", "givenAhead", "([II)I"⟩ : MethodName) ⟨"BakeryNightModel", "givenAhead", "([II)I"⟩ ∈ GW := gwi 122 (by decide +kernel) rfl
theorem wd123 : Cond.selects "BakeryNightModel" (⟨"BakeryNightModel", "isBefore", "([III)Z"⟩ : MethodName) ⟨"BakeryNightModel", "isBefore", "([III)Z"⟩ ∈ GW := gwi 123 (by decide +kernel) rfl
theorem wd124 : Cond.selects "BakeryNightModel" (⟨"BakeryNightModel", "bakedLoaves", "([II)I"⟩ : MethodName) ⟨"BakeryNightModel", "bakedLoaves", "([II)I"⟩ ∈ GW := gwi 124 (by decide +kernel) rfl
theorem wd125 : Cond.selects "BakeryNightModel" (⟨"BakeryNightModel", "outAt", "([III)I"⟩ : MethodName) ⟨"BakeryNightModel", "outAt", "([III)I"⟩ ∈ GW := gwi 125 (by decide +kernel) rfl
theorem wd126 : Cond.selects "BakeryNightModel" (⟨"BakeryNightModel", "valueOf", "(II)I"⟩ : MethodName) ⟨"BakeryNightModel", "valueOf", "(II)I"⟩ ∈ GW := gwi 126 (by decide +kernel) rfl
theorem wd127 : Cond.selects "BakeryNightModel" (⟨"BakeryNightModel", "isShop", "(I)Z"⟩ : MethodName) ⟨"BakeryNightModel", "isShop", "(I)Z"⟩ ∈ GW := gwi 127 (by decide +kernel) rfl
theorem wd128 : Cond.selects "BakeryNightModel" (⟨"BakeryNightModel", "findsWays", "([I)V"⟩ : MethodName) ⟨"BakeryNightModel", "findsWays", "([I)V"⟩ ∈ GW := gwi 128 (by decide +kernel) rfl
theorem wd129 : Cond.selects "BakeryNightModel" (⟨"BakeryNightModel", "street", "([III)I"⟩ : MethodName) ⟨"BakeryNightModel", "street", "([III)I"⟩ ∈ GW := gwi 129 (by decide +kernel) rfl
theorem wd130 : Cond.selects "BakeryNightModel" (⟨"BakeryNightModel", "findsRoutes", "([I)V"⟩ : MethodName) ⟨"BakeryNightModel", "findsRoutes", "([I)V"⟩ ∈ GW := gwi 130 (by decide +kernel) rfl
theorem wd131 : Cond.selects "BakeryNightModel" (⟨"BakeryNightModel", "routes", "([II)V"⟩ : MethodName) ⟨"BakeryNightModel", "routes", "([II)V"⟩ ∈ GW := gwi 131 (by decide +kernel) rfl
theorem wd132 : Cond.selects "BakeryNightModel" (⟨"BakeryNightModel", "hasPlan", "()Z"⟩ : MethodName) ⟨"BakeryNightModel", "hasPlan", "()Z"⟩ ∈ GW := gwi 132 (by decide +kernel) rfl
theorem wd133 : Cond.selects "BakeryNightModel" (⟨"BakeryNightModel", "plans", "([II)Z"⟩ : MethodName) ⟨"BakeryNightModel", "plans", "([II)Z"⟩ ∈ GW := gwi 133 (by decide +kernel) rfl
theorem wd134 : Cond.selects "BakeryNightModel" (⟨"BakeryNightModel", "findsShops", "([I)V"⟩ : MethodName) ⟨"BakeryNightModel", "findsShops", "([I)V"⟩ ∈ GW := gwi 134 (by decide +kernel) rfl
theorem wd135 : Cond.selects "BakeryNightModel" (⟨"BakeryNightModel", "firstAssignment", "([I)V"⟩ : MethodName) ⟨"BakeryNightModel", "firstAssignment", "([I)V"⟩ ∈ GW := gwi 135 (by decide +kernel) rfl
theorem wd136 : Cond.selects "BakeryNightModel" (⟨"BakeryNightModel", "drives", "([I)I"⟩ : MethodName) ⟨"BakeryNightModel", "drives", "([I)I"⟩ ∈ GW := gwi 136 (by decide +kernel) rfl
theorem wd137 : Cond.selects "BakeryNightModel" (⟨"BakeryNightModel", "carries", "([II)Z"⟩ : MethodName) ⟨"BakeryNightModel", "carries", "([II)Z"⟩ ∈ GW := gwi 137 (by decide +kernel) rfl
theorem wd138 : Cond.selects "BakeryNightModel" (⟨"BakeryNightModel", "loadOf", "(I)I"⟩ : MethodName) ⟨"BakeryNightModel", "loadOf", "(I)I"⟩ ∈ GW := gwi 138 (by decide +kernel) rfl
theorem wd139 : Cond.selects "BakeryNightModel" (⟨"BakeryNightModel", "leaves", "(I)I"⟩ : MethodName) ⟨"BakeryNightModel", "leaves", "(I)I"⟩ ∈ GW := gwi 139 (by decide +kernel) rfl
theorem wd140 : Cond.selects "BakeryNightModel" (⟨"BakeryNightModel", "lateShops", "(I)I"⟩ : MethodName) ⟨"BakeryNightModel", "lateShops", "(I)I"⟩ ∈ GW := gwi 140 (by decide +kernel) rfl
theorem wd141 : Cond.selects "BakeryNightModel" (⟨"BakeryNightModel", "nextAssignment", "([I)Z"⟩ : MethodName) ⟨"BakeryNightModel", "nextAssignment", "([I)Z"⟩ ∈ GW := gwi 141 (by decide +kernel) rfl
theorem wd142 : Cond.selects "BakeryNightModel" (⟨"BakeryNightModel", "takesBest", "()V"⟩ : MethodName) ⟨"BakeryNightModel", "takesBest", "()V"⟩ ∈ GW := gwi 142 (by decide +kernel) rfl
theorem wd143 : Cond.selects "BakeryNightModel" (⟨"BakeryNightModel", "bits", "(I)I"⟩ : MethodName) ⟨"BakeryNightModel", "bits", "(I)I"⟩ ∈ GW := gwi 143 (by decide +kernel) rfl
theorem wd144 : Cond.selects "BakeryNightModel" (⟨"BakeryNightModel", "isMuch", "()Z"⟩ : MethodName) ⟨"BakeryNightModel", "isMuch", "()Z"⟩ ∈ GW := gwi 144 (by decide +kernel) rfl
theorem wd145 : Cond.selects "BakeryNightModel" (⟨"BakeryNightModel", "latest", "([I)I"⟩ : MethodName) ⟨"BakeryNightModel", "latest", "([I)I"⟩ ∈ GW := gwi 145 (by decide +kernel) rfl
theorem wd146 : Cond.selects "BakeryNightModel" (⟨"BakeryNightModel", "slack", "()I"⟩ : MethodName) ⟨"BakeryNightModel", "slack", "()I"⟩ ∈ GW := gwi 146 (by decide +kernel) rfl
theorem wd147 : Cond.selects "BakeryNightModel" (⟨"BakeryNightModel", "sets", "(II)I"⟩ : MethodName) ⟨"BakeryNightModel", "sets", "(II)I"⟩ ∈ GW := gwi 147 (by decide +kernel) rfl
theorem wd148 : Cond.selects "BakeryNightModel" (⟨"BakeryNightModel", "records", "()V"⟩ : MethodName) ⟨"BakeryNightModel", "records", "()V"⟩ ∈ GW := gwi 148 (by decide +kernel) rfl
theorem wd149 : Cond.selects "BakeryNightModel" (⟨"BakeryNightModel", "isOrder", "(I)Z"⟩ : MethodName) ⟨"BakeryNightModel", "isOrder", "(I)Z"⟩ ∈ GW := gwi 149 (by decide +kernel) rfl
theorem wd150 : Cond.initialized "BakeryNightLaw" ∈ GW := gwi 150 (by decide +kernel) rfl
theorem wd151 : Cond.initialized "BakeryNight" ∈ GW := gwi 151 (by decide +kernel) rfl
theorem wd152 : Cond.initialized "BakeryNight$Parser" ∈ GW := gwi 152 (by decide +kernel) rfl
theorem wd153 : Cond.initialized "BakeryNight$Scanner" ∈ GW := gwi 153 (by decide +kernel) rfl
theorem wd154 : Cond.initialized "BakeryNight$Bakery" ∈ GW := gwi 154 (by decide +kernel) rfl
theorem wd155 : Cond.initialized "BakeryNight$Dough" ∈ GW := gwi 155 (by decide +kernel) rfl
theorem wd156 : Cond.initialized "BakeryNight$Oven" ∈ GW := gwi 156 (by decide +kernel) rfl
theorem wd157 : Cond.initialized "BakeryNight$Order" ∈ GW := gwi 157 (by decide +kernel) rfl
theorem wd158 : Cond.initialized "BakeryNight$Roads" ∈ GW := gwi 158 (by decide +kernel) rfl
theorem wd159 : Cond.initialized "java/util/Arrays" ∈ GW := gwi 159 (by decide +kernel) rfl
theorem wd160 : Cond.initialized "java/lang/Math" ∈ GW := gwi 160 (by decide +kernel) rfl
theorem wd161 : Cond.initialized "BakeryNight$History" ∈ GW := gwi 161 (by decide +kernel) rfl
theorem wd162 : Cond.initialized "BakeryNight$Night" ∈ GW := gwi 162 (by decide +kernel) rfl
theorem wd163 : Cond.initialized "BakeryNight$Plan" ∈ GW := gwi 163 (by decide +kernel) rfl
theorem wd164 : Cond.initialized "BakeryNightModel" ∈ GW := gwi 164 (by decide +kernel) rfl
theorem wd165 : Cond.initialized "java/lang/String" ∈ GW := gwi 165 (by decide +kernel) rfl
theorem wd166 : Cond.initialized "java/lang/StringLatin1" ∈ GW := gwi 166 (by decide +kernel) rfl
theorem wd167 : Cond.initialized "jdk/internal/util/Preconditions" ∈ GW := gwi 167 (by decide +kernel) rfl
theorem wd168 : Cond.initialized "java/lang/StringUTF16" ∈ GW := gwi 168 (by decide +kernel) rfl
theorem wd169 : Cond.initialized "BakeryNight$1" ∈ GW := gwi 169 (by decide +kernel) rfl
theorem wd170 : Cond.initialized "java/lang/Enum" ∈ GW := gwi 170 (by decide +kernel) rfl
theorem wd171 : Cond.initialized "BakeryNight$Word" ∈ GW := gwi 171 (by decide +kernel) rfl
theorem wd172 : Cond.initialized "java/lang/Integer" ∈ GW := gwi 172 (by decide +kernel) rfl
theorem wd173 : Cond.initialized "java/lang/System" ∈ GW := gwi 173 (by decide +kernel) rfl
theorem wd174 : Cond.initialized "java/lang/Throwable" ∈ GW := gwi 174 (by decide +kernel) rfl
theorem wd175 : Cond.initialized "java/lang/Exception" ∈ GW := gwi 175 (by decide +kernel) rfl
theorem wd176 : Cond.initialized "java/lang/RuntimeException" ∈ GW := gwi 176 (by decide +kernel) rfl
theorem wd177 : Cond.initialized "java/lang/IllegalStateException" ∈ GW := gwi 177 (by decide +kernel) rfl
theorem wd178 : Cond.initialized "java/lang/IndexOutOfBoundsException" ∈ GW := gwi 178 (by decide +kernel) rfl
theorem wd179 : Cond.classLink "BakeryNightLaw" (8 : Nat) "BakeryNight" ∈ GW := gwi 179 (by decide +kernel) rfl
theorem wd180 : Cond.instantiable "BakeryNight" (12 : Nat) ∈ GW := gwi 180 (by decide +kernel) rfl
theorem wd181 : Cond.methodLink "BakeryNightLaw" (24 : Nat) ({ cls := "BakeryNight", name := "<init>", desc := "()V" } : Jvm.MethodName) ∈ GW := gwi 181 (by decide +kernel) rfl
theorem wd182 : Cond.instanceMethod ({ cls := "BakeryNight", name := "<init>", desc := "()V" } : Jvm.MethodName) ∈ GW := gwi 182 (by decide +kernel) rfl
theorem wd183 : Cond.code ({ cls := "BakeryNight", name := "<init>", desc := "()V" } : Jvm.MethodName) prog_1_method_1_code (1 : Nat) (Option.none : Option Jvm.ClassFile.FieldType) ∈ GW := gwi 183 (by decide +kernel) rfl
theorem wd184 : Cond.methodLink "BakeryNight" (1 : Nat) ({ cls := "java/lang/Object", name := "<init>", desc := "()V" } : Jvm.MethodName) ∈ GW := gwi 184 (by decide +kernel) rfl
theorem wd185 : Cond.instanceMethod ({ cls := "java/lang/Object", name := "<init>", desc := "()V" } : Jvm.MethodName) ∈ GW := gwi 185 (by decide +kernel) rfl
theorem wd186 : Cond.code ({ cls := "java/lang/Object", name := "<init>", desc := "()V" } : Jvm.MethodName) object_method_1_code (1 : Nat) (Option.none : Option Jvm.ClassFile.FieldType) ∈ GW := gwi 186 (by decide +kernel) rfl
theorem wd187 : Cond.classLink "BakeryNight" (13 : Nat) "BakeryNight$Parser" ∈ GW := gwi 187 (by decide +kernel) rfl
theorem wd188 : Cond.instantiable "BakeryNight$Parser" (9 : Nat) ∈ GW := gwi 188 (by decide +kernel) rfl
theorem wd189 : Cond.methodLink "BakeryNight" (15 : Nat) ({ cls := "BakeryNight$Parser", name := "<init>", desc := "([B)V" } : Jvm.MethodName) ∈ GW := gwi 189 (by decide +kernel) rfl
theorem wd190 : Cond.instanceMethod ({ cls := "BakeryNight$Parser", name := "<init>", desc := "([B)V" } : Jvm.MethodName) ∈ GW := gwi 190 (by decide +kernel) rfl
theorem wd191 : Cond.code ({ cls := "BakeryNight$Parser", name := "<init>", desc := "([B)V" } : Jvm.MethodName) prog_9_method_1_code (2 : Nat) (Option.none : Option Jvm.ClassFile.FieldType) ∈ GW := gwi 191 (by decide +kernel) rfl
theorem wd192 : Cond.methodLink "BakeryNight$Parser" (3 : Nat) ({ cls := "java/lang/Object", name := "<init>", desc := "()V" } : Jvm.MethodName) ∈ GW := gwi 192 (by decide +kernel) rfl
theorem wd193 : Cond.classLink "BakeryNight$Parser" (9 : Nat) "BakeryNight$Scanner" ∈ GW := gwi 193 (by decide +kernel) rfl
theorem wd194 : Cond.instantiable "BakeryNight$Scanner" (5 : Nat) ∈ GW := gwi 194 (by decide +kernel) rfl
theorem wd195 : Cond.methodLink "BakeryNight$Parser" (11 : Nat) ({ cls := "BakeryNight$Scanner", name := "<init>", desc := "([B)V" } : Jvm.MethodName) ∈ GW := gwi 195 (by decide +kernel) rfl
theorem wd196 : Cond.instanceMethod ({ cls := "BakeryNight$Scanner", name := "<init>", desc := "([B)V" } : Jvm.MethodName) ∈ GW := gwi 196 (by decide +kernel) rfl
theorem wd197 : Cond.code ({ cls := "BakeryNight$Scanner", name := "<init>", desc := "([B)V" } : Jvm.MethodName) prog_12_method_1_code (2 : Nat) (Option.none : Option Jvm.ClassFile.FieldType) ∈ GW := gwi 197 (by decide +kernel) rfl
theorem wd198 : Cond.methodLink "BakeryNight$Scanner" (1 : Nat) ({ cls := "java/lang/Object", name := "<init>", desc := "()V" } : Jvm.MethodName) ∈ GW := gwi 198 (by decide +kernel) rfl
theorem wd199 : Cond.fieldLink "BakeryNight$Scanner" (7 : Nat) "BakeryNight$Scanner" "text" "[B" ∈ GW := gwi 199 (by decide +kernel) rfl
theorem wd200 : Cond.fieldLink "BakeryNight$Scanner" (19 : Nat) "BakeryNight$Scanner" "length" "I" ∈ GW := gwi 200 (by decide +kernel) rfl
theorem wd201 : Cond.fieldLink "BakeryNight$Parser" (56 : Nat) "BakeryNight$Scanner" "kind" "I" ∈ GW := gwi 201 (by decide +kernel) rfl
theorem wd202 : Cond.fieldLink "BakeryNight$Scanner" (36 : Nat) "BakeryNight$Scanner" "kind" "I" ∈ GW := gwi 202 (by decide +kernel) rfl
theorem wd203 : Cond.fieldLink "BakeryNight$Scanner" (29 : Nat) "BakeryNight$Scanner" "start" "I" ∈ GW := gwi 203 (by decide +kernel) rfl
theorem wd204 : Cond.fieldLink "BakeryNight$Parser" (76 : Nat) "BakeryNight$Scanner" "start" "I" ∈ GW := gwi 204 (by decide +kernel) rfl
theorem wd205 : Cond.fieldLink "BakeryNight$Scanner" (23 : Nat) "BakeryNight$Scanner" "end" "I" ∈ GW := gwi 205 (by decide +kernel) rfl
theorem wd218 : Cond.fieldLink "BakeryNight$Parser" (14 : Nat) "BakeryNight$Parser" "scanner" "LBakeryNight$Scanner;" ∈ GW := gwi 218 (by decide +kernel) rfl
theorem wd219 : Cond.fieldLink "BakeryNight$Parser" (22 : Nat) "BakeryNight$Parser" "doughNames" "[J" ∈ GW := gwi 219 (by decide +kernel) rfl
theorem wd220 : Cond.fieldLink "BakeryNight$Parser" (26 : Nat) "BakeryNight$Parser" "shopNames" "[J" ∈ GW := gwi 220 (by decide +kernel) rfl
theorem wd221 : Cond.fieldLink "BakeryNight$Parser" (36 : Nat) "BakeryNight$Parser" "roomGiven" "Z" ∈ GW := gwi 221 (by decide +kernel) rfl
theorem wd222 : Cond.fieldLink "BakeryNight$Parser" (40 : Nat) "BakeryNight$Parser" "coolGiven" "Z" ∈ GW := gwi 222 (by decide +kernel) rfl
theorem wd223 : Cond.fieldLink "BakeryNight$Parser" (43 : Nat) "BakeryNight$Parser" "mixersGiven" "Z" ∈ GW := gwi 223 (by decide +kernel) rfl
theorem wd224 : Cond.fieldLink "BakeryNight$Parser" (46 : Nat) "BakeryNight$Parser" "bakersGiven" "Z" ∈ GW := gwi 224 (by decide +kernel) rfl
theorem wd225 : Cond.fieldLink "BakeryNight$Parser" (33 : Nat) "BakeryNight$Parser" "faultCode" "I" ∈ GW := gwi 225 (by decide +kernel) rfl
theorem wd226 : Cond.fieldLink "BakeryNight" (77 : Nat) "BakeryNight$Parser" "faultCode" "I" ∈ GW := gwi 226 (by decide +kernel) rfl
theorem wd227 : Cond.fieldLink "BakeryNight$Parser" (29 : Nat) "BakeryNight$Parser" "faultOffset" "I" ∈ GW := gwi 227 (by decide +kernel) rfl
theorem wd228 : Cond.fieldLink "BakeryNight" (80 : Nat) "BakeryNight$Parser" "faultOffset" "I" ∈ GW := gwi 228 (by decide +kernel) rfl
theorem wd249 : Cond.classLink "BakeryNight" (22 : Nat) "BakeryNight$Bakery" ∈ GW := gwi 249 (by decide +kernel) rfl
theorem wd250 : Cond.instantiable "BakeryNight$Bakery" (14 : Nat) ∈ GW := gwi 250 (by decide +kernel) rfl
theorem wd251 : Cond.methodLink "BakeryNight" (24 : Nat) ({ cls := "BakeryNight$Bakery", name := "<init>", desc := "()V" } : Jvm.MethodName) ∈ GW := gwi 251 (by decide +kernel) rfl
theorem wd252 : Cond.instanceMethod ({ cls := "BakeryNight$Bakery", name := "<init>", desc := "()V" } : Jvm.MethodName) ∈ GW := gwi 252 (by decide +kernel) rfl
theorem wd253 : Cond.code ({ cls := "BakeryNight$Bakery", name := "<init>", desc := "()V" } : Jvm.MethodName) prog_3_method_1_code (2 : Nat) (Option.none : Option Jvm.ClassFile.FieldType) ∈ GW := gwi 253 (by decide +kernel) rfl
theorem wd254 : Cond.methodLink "BakeryNight$Bakery" (3 : Nat) ({ cls := "java/lang/Object", name := "<init>", desc := "()V" } : Jvm.MethodName) ∈ GW := gwi 254 (by decide +kernel) rfl
theorem wd255 : Cond.classLink "BakeryNight$Bakery" (11 : Nat) "BakeryNight$Dough" ∈ GW := gwi 255 (by decide +kernel) rfl
theorem wd257 : Cond.instantiable "BakeryNight$Dough" (10 : Nat) ∈ GW := gwi 257 (by decide +kernel) rfl
theorem wd259 : Cond.instanceMethod ({ cls := "BakeryNight$Dough", name := "<init>", desc := "()V" } : Jvm.MethodName) ∈ GW := gwi 259 (by decide +kernel) rfl
theorem wd260 : Cond.code ({ cls := "BakeryNight$Dough", name := "<init>", desc := "()V" } : Jvm.MethodName) prog_4_method_1_code (1 : Nat) (Option.none : Option Jvm.ClassFile.FieldType) ∈ GW := gwi 260 (by decide +kernel) rfl
theorem wd261 : Cond.methodLink "BakeryNight$Dough" (1 : Nat) ({ cls := "java/lang/Object", name := "<init>", desc := "()V" } : Jvm.MethodName) ∈ GW := gwi 261 (by decide +kernel) rfl
theorem wd262 : Cond.fieldLink "BakeryNight$Parser" (168 : Nat) "BakeryNight$Dough" "mix" "I" ∈ GW := gwi 262 (by decide +kernel) rfl
theorem wd263 : Cond.fieldLink "BakeryNight$Night" (208 : Nat) "BakeryNight$Dough" "mix" "I" ∈ GW := gwi 263 (by decide +kernel) rfl
theorem wd264 : Cond.fieldLink "BakeryNight$Parser" (176 : Nat) "BakeryNight$Dough" "rise" "I" ∈ GW := gwi 264 (by decide +kernel) rfl
theorem wd265 : Cond.fieldLink "BakeryNight" (107 : Nat) "BakeryNight$Dough" "rise" "I" ∈ GW := gwi 265 (by decide +kernel) rfl
theorem wd266 : Cond.fieldLink "BakeryNight$Night" (211 : Nat) "BakeryNight$Dough" "rise" "I" ∈ GW := gwi 266 (by decide +kernel) rfl
theorem wd267 : Cond.fieldLink "BakeryNight$Parser" (182 : Nat) "BakeryNight$Dough" "shape" "I" ∈ GW := gwi 267 (by decide +kernel) rfl
theorem wd268 : Cond.fieldLink "BakeryNight$Night" (190 : Nat) "BakeryNight$Dough" "shape" "I" ∈ GW := gwi 268 (by decide +kernel) rfl
theorem wd269 : Cond.fieldLink "BakeryNight$Parser" (188 : Nat) "BakeryNight$Dough" "proof" "I" ∈ GW := gwi 269 (by decide +kernel) rfl
theorem wd270 : Cond.fieldLink "BakeryNight$Night" (193 : Nat) "BakeryNight$Dough" "proof" "I" ∈ GW := gwi 270 (by decide +kernel) rfl
theorem wd271 : Cond.fieldLink "BakeryNight" (102 : Nat) "BakeryNight$Dough" "proof" "I" ∈ GW := gwi 271 (by decide +kernel) rfl
theorem wd272 : Cond.fieldLink "BakeryNight$Night" (151 : Nat) "BakeryNight$Dough" "limit" "I" ∈ GW := gwi 272 (by decide +kernel) rfl
theorem wd273 : Cond.fieldLink "BakeryNight$Parser" (194 : Nat) "BakeryNight$Dough" "limit" "I" ∈ GW := gwi 273 (by decide +kernel) rfl
theorem wd274 : Cond.fieldLink "BakeryNight$Night" (161 : Nat) "BakeryNight$Dough" "bake" "I" ∈ GW := gwi 274 (by decide +kernel) rfl
theorem wd275 : Cond.fieldLink "BakeryNight$Parser" (200 : Nat) "BakeryNight$Dough" "bake" "I" ∈ GW := gwi 275 (by decide +kernel) rfl
theorem wd276 : Cond.fieldLink "BakeryNight$Night" (156 : Nat) "BakeryNight$Dough" "heat" "I" ∈ GW := gwi 276 (by decide +kernel) rfl
theorem wd277 : Cond.fieldLink "BakeryNight$Parser" (206 : Nat) "BakeryNight$Dough" "heat" "I" ∈ GW := gwi 277 (by decide +kernel) rfl
theorem wd278 : Cond.fieldLink "BakeryNight$Parser" (212 : Nat) "BakeryNight$Dough" "loaves" "I" ∈ GW := gwi 278 (by decide +kernel) rfl
theorem wd279 : Cond.fieldLink "BakeryNight$Bakery" (103 : Nat) "BakeryNight$Dough" "loaves" "I" ∈ GW := gwi 279 (by decide +kernel) rfl
theorem wd280 : Cond.fieldLink "BakeryNight$Night" (245 : Nat) "BakeryNight$Dough" "loaves" "I" ∈ GW := gwi 280 (by decide +kernel) rfl
theorem wd281 : Cond.fieldLink "BakeryNight$Parser" (218 : Nat) "BakeryNight$Dough" "keep" "I" ∈ GW := gwi 281 (by decide +kernel) rfl
theorem wd282 : Cond.fieldLink "BakeryNight$Plan" (172 : Nat) "BakeryNight$Dough" "keep" "I" ∈ GW := gwi 282 (by decide +kernel) rfl
theorem wd283 : Cond.fieldLink "BakeryNight$Night" (252 : Nat) "BakeryNight$Dough" "keep" "I" ∈ GW := gwi 283 (by decide +kernel) rfl
theorem wd284 : Cond.fieldLink "BakeryNight$Parser" (224 : Nat) "BakeryNight$Dough" "price" "I" ∈ GW := gwi 284 (by decide +kernel) rfl
theorem wd285 : Cond.fieldLink "BakeryNight$Night" (255 : Nat) "BakeryNight$Dough" "price" "I" ∈ GW := gwi 285 (by decide +kernel) rfl
theorem wd307 : Cond.classLink "BakeryNight$Bakery" (18 : Nat) "BakeryNight$Oven" ∈ GW := gwi 307 (by decide +kernel) rfl
theorem wd309 : Cond.instantiable "BakeryNight$Oven" (4 : Nat) ∈ GW := gwi 309 (by decide +kernel) rfl
theorem wd311 : Cond.instanceMethod ({ cls := "BakeryNight$Oven", name := "<init>", desc := "()V" } : Jvm.MethodName) ∈ GW := gwi 311 (by decide +kernel) rfl
theorem wd312 : Cond.code ({ cls := "BakeryNight$Oven", name := "<init>", desc := "()V" } : Jvm.MethodName) prog_8_method_1_code (1 : Nat) (Option.none : Option Jvm.ClassFile.FieldType) ∈ GW := gwi 312 (by decide +kernel) rfl
theorem wd313 : Cond.methodLink "BakeryNight$Oven" (1 : Nat) ({ cls := "java/lang/Object", name := "<init>", desc := "()V" } : Jvm.MethodName) ∈ GW := gwi 313 (by decide +kernel) rfl
theorem wd314 : Cond.fieldLink "BakeryNight$Night" (172 : Nat) "BakeryNight$Oven" "shelves" "I" ∈ GW := gwi 314 (by decide +kernel) rfl
theorem wd315 : Cond.fieldLink "BakeryNight$Parser" (237 : Nat) "BakeryNight$Oven" "shelves" "I" ∈ GW := gwi 315 (by decide +kernel) rfl
theorem wd316 : Cond.fieldLink "BakeryNight$Bakery" (123 : Nat) "BakeryNight$Oven" "shelves" "I" ∈ GW := gwi 316 (by decide +kernel) rfl
theorem wd317 : Cond.fieldLink "BakeryNight$Night" (124 : Nat) "BakeryNight$Oven" "heat" "I" ∈ GW := gwi 317 (by decide +kernel) rfl
theorem wd318 : Cond.fieldLink "BakeryNight$Parser" (242 : Nat) "BakeryNight$Oven" "heat" "I" ∈ GW := gwi 318 (by decide +kernel) rfl
theorem wd319 : Cond.fieldLink "BakeryNight$Night" (178 : Nat) "BakeryNight$Oven" "rate" "I" ∈ GW := gwi 319 (by decide +kernel) rfl
theorem wd320 : Cond.fieldLink "BakeryNight$Parser" (246 : Nat) "BakeryNight$Oven" "rate" "I" ∈ GW := gwi 320 (by decide +kernel) rfl
theorem wd321 : Cond.fieldLink "BakeryNight$History" (41 : Nat) "BakeryNight$Oven" "broken" "Z" ∈ GW := gwi 321 (by decide +kernel) rfl
theorem wd322 : Cond.fieldLink "BakeryNight$Night" (168 : Nat) "BakeryNight$Oven" "broken" "Z" ∈ GW := gwi 322 (by decide +kernel) rfl
theorem wd323 : Cond.fieldLink "BakeryNight$Parser" (249 : Nat) "BakeryNight$Oven" "broken" "Z" ∈ GW := gwi 323 (by decide +kernel) rfl
theorem wd324 : Cond.fieldLink "BakeryNight" (314 : Nat) "BakeryNight$Oven" "broken" "Z" ∈ GW := gwi 324 (by decide +kernel) rfl
theorem wd334 : Cond.classLink "BakeryNight$Bakery" (25 : Nat) "BakeryNight$Order" ∈ GW := gwi 334 (by decide +kernel) rfl
theorem wd336 : Cond.instantiable "BakeryNight$Order" (5 : Nat) ∈ GW := gwi 336 (by decide +kernel) rfl
theorem wd338 : Cond.instanceMethod ({ cls := "BakeryNight$Order", name := "<init>", desc := "()V" } : Jvm.MethodName) ∈ GW := gwi 338 (by decide +kernel) rfl
theorem wd339 : Cond.code ({ cls := "BakeryNight$Order", name := "<init>", desc := "()V" } : Jvm.MethodName) prog_7_method_1_code (1 : Nat) (Option.none : Option Jvm.ClassFile.FieldType) ∈ GW := gwi 339 (by decide +kernel) rfl
theorem wd340 : Cond.methodLink "BakeryNight$Order" (1 : Nat) ({ cls := "java/lang/Object", name := "<init>", desc := "()V" } : Jvm.MethodName) ∈ GW := gwi 340 (by decide +kernel) rfl
theorem wd341 : Cond.fieldLink "BakeryNight$Order" (7 : Nat) "BakeryNight$Order" "shop" "I" ∈ GW := gwi 341 (by decide +kernel) rfl
theorem wd342 : Cond.fieldLink "BakeryNight$Plan" (70 : Nat) "BakeryNight$Order" "shop" "I" ∈ GW := gwi 342 (by decide +kernel) rfl
theorem wd343 : Cond.fieldLink "BakeryNight$Order" (13 : Nat) "BakeryNight$Order" "dough" "I" ∈ GW := gwi 343 (by decide +kernel) rfl
theorem wd344 : Cond.fieldLink "BakeryNight$Bakery" (93 : Nat) "BakeryNight$Order" "dough" "I" ∈ GW := gwi 344 (by decide +kernel) rfl
theorem wd345 : Cond.fieldLink "BakeryNight$Night" (229 : Nat) "BakeryNight$Order" "dough" "I" ∈ GW := gwi 345 (by decide +kernel) rfl
theorem wd346 : Cond.fieldLink "BakeryNight$Plan" (169 : Nat) "BakeryNight$Order" "dough" "I" ∈ GW := gwi 346 (by decide +kernel) rfl
theorem wd347 : Cond.fieldLink "BakeryNight$Order" (16 : Nat) "BakeryNight$Order" "loaves" "I" ∈ GW := gwi 347 (by decide +kernel) rfl
theorem wd348 : Cond.fieldLink "BakeryNight$Plan" (89 : Nat) "BakeryNight$Order" "loaves" "I" ∈ GW := gwi 348 (by decide +kernel) rfl
theorem wd349 : Cond.fieldLink "BakeryNight$Bakery" (96 : Nat) "BakeryNight$Order" "loaves" "I" ∈ GW := gwi 349 (by decide +kernel) rfl
theorem wd350 : Cond.fieldLink "BakeryNight$Night" (236 : Nat) "BakeryNight$Order" "loaves" "I" ∈ GW := gwi 350 (by decide +kernel) rfl
theorem wd351 : Cond.fieldLink "BakeryNight$Order" (19 : Nat) "BakeryNight$Order" "by" "I" ∈ GW := gwi 351 (by decide +kernel) rfl
theorem wd352 : Cond.fieldLink "BakeryNight$Plan" (80 : Nat) "BakeryNight$Order" "by" "I" ∈ GW := gwi 352 (by decide +kernel) rfl
theorem wd353 : Cond.fieldLink "BakeryNight$History" (63 : Nat) "BakeryNight$Order" "by" "I" ∈ GW := gwi 353 (by decide +kernel) rfl
theorem wd354 : Cond.fieldLink "BakeryNight$Bakery" (107 : Nat) "BakeryNight$Order" "by" "I" ∈ GW := gwi 354 (by decide +kernel) rfl
theorem wd355 : Cond.fieldLink "BakeryNight" (336 : Nat) "BakeryNight$Order" "by" "I" ∈ GW := gwi 355 (by decide +kernel) rfl
theorem wd356 : Cond.fieldLink "BakeryNight$Order" (22 : Nat) "BakeryNight$Order" "cancelled" "Z" ∈ GW := gwi 356 (by decide +kernel) rfl
theorem wd357 : Cond.fieldLink "BakeryNight$History" (58 : Nat) "BakeryNight$Order" "cancelled" "Z" ∈ GW := gwi 357 (by decide +kernel) rfl
theorem wd358 : Cond.fieldLink "BakeryNight$Bakery" (81 : Nat) "BakeryNight$Order" "cancelled" "Z" ∈ GW := gwi 358 (by decide +kernel) rfl
theorem wd359 : Cond.fieldLink "BakeryNight" (333 : Nat) "BakeryNight$Order" "cancelled" "Z" ∈ GW := gwi 359 (by decide +kernel) rfl
theorem wd371 : Cond.classLink "BakeryNight$Bakery" (36 : Nat) "BakeryNight$Roads" ∈ GW := gwi 371 (by decide +kernel) rfl
theorem wd372 : Cond.instantiable "BakeryNight$Roads" (7 : Nat) ∈ GW := gwi 372 (by decide +kernel) rfl
theorem wd373 : Cond.methodLink "BakeryNight$Bakery" (38 : Nat) ({ cls := "BakeryNight$Roads", name := "<init>", desc := "()V" } : Jvm.MethodName) ∈ GW := gwi 373 (by decide +kernel) rfl
theorem wd374 : Cond.instanceMethod ({ cls := "BakeryNight$Roads", name := "<init>", desc := "()V" } : Jvm.MethodName) ∈ GW := gwi 374 (by decide +kernel) rfl
theorem wd375 : Cond.code ({ cls := "BakeryNight$Roads", name := "<init>", desc := "()V" } : Jvm.MethodName) prog_11_method_1_code (1 : Nat) (Option.none : Option Jvm.ClassFile.FieldType) ∈ GW := gwi 375 (by decide +kernel) rfl
theorem wd376 : Cond.methodLink "BakeryNight$Roads" (5 : Nat) ({ cls := "java/lang/Object", name := "<init>", desc := "()V" } : Jvm.MethodName) ∈ GW := gwi 376 (by decide +kernel) rfl
theorem wd377 : Cond.classLink "BakeryNight$Roads" (25 : Nat) "[[I" ∈ GW := gwi 377 (by decide +kernel) rfl
theorem wd379 : Cond.fieldLink "BakeryNight$Roads" (11 : Nat) "BakeryNight$Roads" "from" "[I" ∈ GW := gwi 379 (by decide +kernel) rfl
theorem wd380 : Cond.fieldLink "BakeryNight$Parser" (259 : Nat) "BakeryNight$Roads" "from" "[I" ∈ GW := gwi 380 (by decide +kernel) rfl
theorem wd381 : Cond.fieldLink "BakeryNight$Roads" (15 : Nat) "BakeryNight$Roads" "to" "[I" ∈ GW := gwi 381 (by decide +kernel) rfl
theorem wd382 : Cond.fieldLink "BakeryNight$Parser" (262 : Nat) "BakeryNight$Roads" "to" "[I" ∈ GW := gwi 382 (by decide +kernel) rfl
theorem wd383 : Cond.fieldLink "BakeryNight$Roads" (18 : Nat) "BakeryNight$Roads" "minutes" "[I" ∈ GW := gwi 383 (by decide +kernel) rfl
theorem wd384 : Cond.fieldLink "BakeryNight$Parser" (265 : Nat) "BakeryNight$Roads" "minutes" "[I" ∈ GW := gwi 384 (by decide +kernel) rfl
theorem wd385 : Cond.fieldLink "BakeryNight$Roads" (21 : Nat) "BakeryNight$Roads" "closed" "[Z" ∈ GW := gwi 385 (by decide +kernel) rfl
theorem wd386 : Cond.fieldLink "BakeryNight$Parser" (268 : Nat) "BakeryNight$Roads" "closed" "[Z" ∈ GW := gwi 386 (by decide +kernel) rfl
theorem wd387 : Cond.fieldLink "BakeryNight$Bakery" (119 : Nat) "BakeryNight$Roads" "closed" "[Z" ∈ GW := gwi 387 (by decide +kernel) rfl
theorem wd388 : Cond.fieldLink "BakeryNight" (286 : Nat) "BakeryNight$Roads" "closed" "[Z" ∈ GW := gwi 388 (by decide +kernel) rfl
theorem wd389 : Cond.fieldLink "BakeryNight$Bakery" (72 : Nat) "BakeryNight$Roads" "streetTotal" "I" ∈ GW := gwi 389 (by decide +kernel) rfl
theorem wd390 : Cond.fieldLink "BakeryNight$Roads" (40 : Nat) "BakeryNight$Roads" "streetTotal" "I" ∈ GW := gwi 390 (by decide +kernel) rfl
theorem wd391 : Cond.fieldLink "BakeryNight$Parser" (252 : Nat) "BakeryNight$Roads" "streetTotal" "I" ∈ GW := gwi 391 (by decide +kernel) rfl
theorem wd392 : Cond.fieldLink "BakeryNight" (283 : Nat) "BakeryNight$Roads" "streetTotal" "I" ∈ GW := gwi 392 (by decide +kernel) rfl
theorem wd393 : Cond.fieldLink "BakeryNight$Roads" (27 : Nat) "BakeryNight$Roads" "shortest" "[[I" ∈ GW := gwi 393 (by decide +kernel) rfl
theorem wd394 : Cond.fieldLink "BakeryNight$Roads" (30 : Nat) "BakeryNight$Roads" "rest" "[I" ∈ GW := gwi 394 (by decide +kernel) rfl
theorem wd412 : Cond.methodLink "BakeryNight$Bakery" (43 : Nat) ({ cls := "BakeryNight$Bakery", name := "clear", desc := "()V" } : Jvm.MethodName) ∈ GW := gwi 412 (by decide +kernel) rfl
theorem wd413 : Cond.instanceMethod ({ cls := "BakeryNight$Bakery", name := "clear", desc := "()V" } : Jvm.MethodName) ∈ GW := gwi 413 (by decide +kernel) rfl
theorem wd414 : Cond.selects "BakeryNight$Bakery" ({ cls := "BakeryNight$Bakery", name := "clear", desc := "()V" } : Jvm.MethodName) ({ cls := "BakeryNight$Bakery", name := "clear", desc := "()V" } : Jvm.MethodName) ∈ GW := gwi 414 (by decide +kernel) rfl
theorem wd415 : Cond.code ({ cls := "BakeryNight$Bakery", name := "clear", desc := "()V" } : Jvm.MethodName) prog_3_method_2_code (1 : Nat) (Option.none : Option Jvm.ClassFile.FieldType) ∈ GW := gwi 415 (by decide +kernel) rfl
theorem wd416 : Cond.methodLink "BakeryNight$Bakery" (46 : Nat) ({ cls := "BakeryNight$Roads", name := "explore", desc := "(II)V" } : Jvm.MethodName) ∈ GW := gwi 416 (by decide +kernel) rfl
theorem wd417 : Cond.instanceMethod ({ cls := "BakeryNight$Roads", name := "explore", desc := "(II)V" } : Jvm.MethodName) ∈ GW := gwi 417 (by decide +kernel) rfl
theorem wd418 : Cond.selects "BakeryNight$Roads" ({ cls := "BakeryNight$Roads", name := "explore", desc := "(II)V" } : Jvm.MethodName) ({ cls := "BakeryNight$Roads", name := "explore", desc := "(II)V" } : Jvm.MethodName) ∈ GW := gwi 418 (by decide +kernel) rfl
theorem wd419 : Cond.code ({ cls := "BakeryNight$Roads", name := "explore", desc := "(II)V" } : Jvm.MethodName) prog_11_method_4_code (5 : Nat) (Option.none : Option Jvm.ClassFile.FieldType) ∈ GW := gwi 419 (by decide +kernel) rfl
theorem wd420 : Cond.constant "BakeryNight$Roads" (33 : Nat) (1000000 : Int32) ∈ GW := gwi 420 (by decide +kernel) rfl
theorem wd421 : Cond.methodLink "BakeryNight$Roads" (34 : Nat) ({ cls := "java/util/Arrays", name := "fill", desc := "([II)V" } : Jvm.MethodName) ∈ GW := gwi 421 (by decide +kernel) rfl
theorem wd422 : Cond.static ({ cls := "java/util/Arrays", name := "fill", desc := "([II)V" } : Jvm.MethodName) ∈ GW := gwi 422 (by decide +kernel) rfl
theorem wd423 : Cond.code ({ cls := "java/util/Arrays", name := "fill", desc := "([II)V" } : Jvm.MethodName) prog_28_method_103_code (4 : Nat) (Option.none : Option Jvm.ClassFile.FieldType) ∈ GW := gwi 423 (by decide +kernel) rfl
theorem wd424 : Cond.methodLink "BakeryNight$Roads" (44 : Nat) ({ cls := "java/lang/Math", name := "min", desc := "(II)I" } : Jvm.MethodName) ∈ GW := gwi 424 (by decide +kernel) rfl
theorem wd425 : Cond.static ({ cls := "java/lang/Math", name := "min", desc := "(II)I" } : Jvm.MethodName) ∈ GW := gwi 425 (by decide +kernel) rfl
theorem wd426 : Cond.code ({ cls := "java/lang/Math", name := "min", desc := "(II)I" } : Jvm.MethodName) prog_21_method_69_code (2 : Nat) (Option.some Jvm.ClassFile.FieldType.int) ∈ GW := gwi 426 (by decide +kernel) rfl
theorem wd427 : Cond.methodLink "BakeryNight$Roads" (50 : Nat) ({ cls := "BakeryNight$Roads", name := "joinStreets", desc := "()V" } : Jvm.MethodName) ∈ GW := gwi 427 (by decide +kernel) rfl
theorem wd429 : Cond.instanceMethod ({ cls := "BakeryNight$Roads", name := "joinStreets", desc := "()V" } : Jvm.MethodName) ∈ GW := gwi 429 (by decide +kernel) rfl
theorem wd430 : Cond.code ({ cls := "BakeryNight$Roads", name := "joinStreets", desc := "()V" } : Jvm.MethodName) prog_11_method_5_code (5 : Nat) (Option.none : Option Jvm.ClassFile.FieldType) ∈ GW := gwi 430 (by decide +kernel) rfl
theorem wd431 : Cond.methodLink "BakeryNight$Roads" (53 : Nat) ({ cls := "BakeryNight$Roads", name := "measureRoutes", desc := "(I)V" } : Jvm.MethodName) ∈ GW := gwi 431 (by decide +kernel) rfl
theorem wd433 : Cond.instanceMethod ({ cls := "BakeryNight$Roads", name := "measureRoutes", desc := "(I)V" } : Jvm.MethodName) ∈ GW := gwi 433 (by decide +kernel) rfl
theorem wd434 : Cond.code ({ cls := "BakeryNight$Roads", name := "measureRoutes", desc := "(I)V" } : Jvm.MethodName) prog_11_method_6_code (6 : Nat) (Option.none : Option Jvm.ClassFile.FieldType) ∈ GW := gwi 434 (by decide +kernel) rfl
theorem wd435 : Cond.constant "BakeryNight$Roads" (57 : Nat) (8000000 : Int32) ∈ GW := gwi 435 (by decide +kernel) rfl
theorem wd436 : Cond.methodLink "BakeryNight$Roads" (58 : Nat) ({ cls := "BakeryNight$Roads", name := "by", desc := "(III)I" } : Jvm.MethodName) ∈ GW := gwi 436 (by decide +kernel) rfl
theorem wd438 : Cond.instanceMethod ({ cls := "BakeryNight$Roads", name := "by", desc := "(III)I" } : Jvm.MethodName) ∈ GW := gwi 438 (by decide +kernel) rfl
theorem wd439 : Cond.code ({ cls := "BakeryNight$Roads", name := "by", desc := "(III)I" } : Jvm.MethodName) prog_11_method_7_code (4 : Nat) (Option.some Jvm.ClassFile.FieldType.int) ∈ GW := gwi 439 (by decide +kernel) rfl
theorem wd440 : Cond.fieldLink "BakeryNight$Bakery" (50 : Nat) "BakeryNight$Bakery" "room" "I" ∈ GW := gwi 440 (by decide +kernel) rfl
theorem wd441 : Cond.fieldLink "BakeryNight$History" (32 : Nat) "BakeryNight$Bakery" "room" "I" ∈ GW := gwi 441 (by decide +kernel) rfl
theorem wd442 : Cond.fieldLink "BakeryNight$Parser" (102 : Nat) "BakeryNight$Bakery" "room" "I" ∈ GW := gwi 442 (by decide +kernel) rfl
theorem wd443 : Cond.fieldLink "BakeryNight" (304 : Nat) "BakeryNight$Bakery" "room" "I" ∈ GW := gwi 443 (by decide +kernel) rfl
theorem wd444 : Cond.fieldLink "BakeryNight$Bakery" (54 : Nat) "BakeryNight$Bakery" "cool" "I" ∈ GW := gwi 444 (by decide +kernel) rfl
theorem wd445 : Cond.fieldLink "BakeryNight$Parser" (105 : Nat) "BakeryNight$Bakery" "cool" "I" ∈ GW := gwi 445 (by decide +kernel) rfl
theorem wd446 : Cond.fieldLink "BakeryNight$Night" (242 : Nat) "BakeryNight$Bakery" "cool" "I" ∈ GW := gwi 446 (by decide +kernel) rfl
theorem wd447 : Cond.fieldLink "BakeryNight$Bakery" (57 : Nat) "BakeryNight$Bakery" "mixers" "I" ∈ GW := gwi 447 (by decide +kernel) rfl
theorem wd448 : Cond.fieldLink "BakeryNight$Parser" (108 : Nat) "BakeryNight$Bakery" "mixers" "I" ∈ GW := gwi 448 (by decide +kernel) rfl
theorem wd449 : Cond.fieldLink "BakeryNight$Night" (205 : Nat) "BakeryNight$Bakery" "mixers" "I" ∈ GW := gwi 449 (by decide +kernel) rfl
theorem wd450 : Cond.fieldLink "BakeryNight$Bakery" (60 : Nat) "BakeryNight$Bakery" "bakers" "I" ∈ GW := gwi 450 (by decide +kernel) rfl
theorem wd451 : Cond.fieldLink "BakeryNight$Parser" (111 : Nat) "BakeryNight$Bakery" "bakers" "I" ∈ GW := gwi 451 (by decide +kernel) rfl
theorem wd452 : Cond.fieldLink "BakeryNight$Night" (184 : Nat) "BakeryNight$Bakery" "bakers" "I" ∈ GW := gwi 452 (by decide +kernel) rfl
theorem wd453 : Cond.fieldLink "BakeryNight$Bakery" (13 : Nat) "BakeryNight$Bakery" "doughs" "[LBakeryNight$Dough;" ∈ GW := gwi 453 (by decide +kernel) rfl
theorem wd454 : Cond.fieldLink "BakeryNight$Night" (147 : Nat) "BakeryNight$Bakery" "doughs" "[LBakeryNight$Dough;" ∈ GW := gwi 454 (by decide +kernel) rfl
theorem wd455 : Cond.fieldLink "BakeryNight$Parser" (156 : Nat) "BakeryNight$Bakery" "doughs" "[LBakeryNight$Dough;" ∈ GW := gwi 455 (by decide +kernel) rfl
theorem wd456 : Cond.fieldLink "BakeryNight" (98 : Nat) "BakeryNight$Bakery" "doughs" "[LBakeryNight$Dough;" ∈ GW := gwi 456 (by decide +kernel) rfl
theorem wd457 : Cond.fieldLink "BakeryNight$Plan" (165 : Nat) "BakeryNight$Bakery" "doughs" "[LBakeryNight$Dough;" ∈ GW := gwi 457 (by decide +kernel) rfl
theorem wd458 : Cond.fieldLink "BakeryNight$Bakery" (63 : Nat) "BakeryNight$Bakery" "doughTotal" "I" ∈ GW := gwi 458 (by decide +kernel) rfl
theorem wd459 : Cond.fieldLink "BakeryNight$Night" (131 : Nat) "BakeryNight$Bakery" "doughTotal" "I" ∈ GW := gwi 459 (by decide +kernel) rfl
theorem wd460 : Cond.fieldLink "BakeryNight$Parser" (146 : Nat) "BakeryNight$Bakery" "doughTotal" "I" ∈ GW := gwi 460 (by decide +kernel) rfl
theorem wd461 : Cond.fieldLink "BakeryNight" (232 : Nat) "BakeryNight$Bakery" "doughTotal" "I" ∈ GW := gwi 461 (by decide +kernel) rfl
theorem wd462 : Cond.fieldLink "BakeryNight$Bakery" (20 : Nat) "BakeryNight$Bakery" "ovens" "[LBakeryNight$Oven;" ∈ GW := gwi 462 (by decide +kernel) rfl
theorem wd463 : Cond.fieldLink "BakeryNight$Night" (120 : Nat) "BakeryNight$Bakery" "ovens" "[LBakeryNight$Oven;" ∈ GW := gwi 463 (by decide +kernel) rfl
theorem wd464 : Cond.fieldLink "BakeryNight$History" (37 : Nat) "BakeryNight$Bakery" "ovens" "[LBakeryNight$Oven;" ∈ GW := gwi 464 (by decide +kernel) rfl
theorem wd465 : Cond.fieldLink "BakeryNight$Parser" (230 : Nat) "BakeryNight$Bakery" "ovens" "[LBakeryNight$Oven;" ∈ GW := gwi 465 (by decide +kernel) rfl
theorem wd466 : Cond.fieldLink "BakeryNight" (310 : Nat) "BakeryNight$Bakery" "ovens" "[LBakeryNight$Oven;" ∈ GW := gwi 466 (by decide +kernel) rfl
theorem wd467 : Cond.fieldLink "BakeryNight$Bakery" (66 : Nat) "BakeryNight$Bakery" "ovenTotal" "I" ∈ GW := gwi 467 (by decide +kernel) rfl
theorem wd468 : Cond.fieldLink "BakeryNight$Night" (117 : Nat) "BakeryNight$Bakery" "ovenTotal" "I" ∈ GW := gwi 468 (by decide +kernel) rfl
theorem wd469 : Cond.fieldLink "BakeryNight$Parser" (227 : Nat) "BakeryNight$Bakery" "ovenTotal" "I" ∈ GW := gwi 469 (by decide +kernel) rfl
theorem wd470 : Cond.fieldLink "BakeryNight$Bakery" (69 : Nat) "BakeryNight$Bakery" "shopTotal" "I" ∈ GW := gwi 470 (by decide +kernel) rfl
theorem wd471 : Cond.fieldLink "BakeryNight$Parser" (67 : Nat) "BakeryNight$Bakery" "shopTotal" "I" ∈ GW := gwi 471 (by decide +kernel) rfl
theorem wd472 : Cond.fieldLink "BakeryNight" (290 : Nat) "BakeryNight$Bakery" "shopTotal" "I" ∈ GW := gwi 472 (by decide +kernel) rfl
theorem wd473 : Cond.fieldLink "BakeryNight$Bakery" (39 : Nat) "BakeryNight$Bakery" "roads" "LBakeryNight$Roads;" ∈ GW := gwi 473 (by decide +kernel) rfl
theorem wd474 : Cond.fieldLink "BakeryNight$Parser" (63 : Nat) "BakeryNight$Bakery" "roads" "LBakeryNight$Roads;" ∈ GW := gwi 474 (by decide +kernel) rfl
theorem wd475 : Cond.fieldLink "BakeryNight$Plan" (129 : Nat) "BakeryNight$Bakery" "roads" "LBakeryNight$Roads;" ∈ GW := gwi 475 (by decide +kernel) rfl
theorem wd476 : Cond.fieldLink "BakeryNight" (116 : Nat) "BakeryNight$Bakery" "roads" "LBakeryNight$Roads;" ∈ GW := gwi 476 (by decide +kernel) rfl
theorem wd477 : Cond.fieldLink "BakeryNight$Bakery" (32 : Nat) "BakeryNight$Bakery" "vanLoads" "[I" ∈ GW := gwi 477 (by decide +kernel) rfl
theorem wd478 : Cond.fieldLink "BakeryNight$Plan" (147 : Nat) "BakeryNight$Bakery" "vanLoads" "[I" ∈ GW := gwi 478 (by decide +kernel) rfl
theorem wd479 : Cond.fieldLink "BakeryNight$Parser" (275 : Nat) "BakeryNight$Bakery" "vanLoads" "[I" ∈ GW := gwi 479 (by decide +kernel) rfl
theorem wd480 : Cond.fieldLink "BakeryNight$Bakery" (75 : Nat) "BakeryNight$Bakery" "vanTotal" "I" ∈ GW := gwi 480 (by decide +kernel) rfl
theorem wd481 : Cond.fieldLink "BakeryNight$Plan" (114 : Nat) "BakeryNight$Bakery" "vanTotal" "I" ∈ GW := gwi 481 (by decide +kernel) rfl
theorem wd482 : Cond.fieldLink "BakeryNight$Parser" (272 : Nat) "BakeryNight$Bakery" "vanTotal" "I" ∈ GW := gwi 482 (by decide +kernel) rfl
theorem wd483 : Cond.fieldLink "BakeryNight$Bakery" (27 : Nat) "BakeryNight$Bakery" "orders" "[LBakeryNight$Order;" ∈ GW := gwi 483 (by decide +kernel) rfl
theorem wd484 : Cond.fieldLink "BakeryNight$Plan" (66 : Nat) "BakeryNight$Bakery" "orders" "[LBakeryNight$Order;" ∈ GW := gwi 484 (by decide +kernel) rfl
theorem wd485 : Cond.fieldLink "BakeryNight$History" (54 : Nat) "BakeryNight$Bakery" "orders" "[LBakeryNight$Order;" ∈ GW := gwi 485 (by decide +kernel) rfl
theorem wd486 : Cond.fieldLink "BakeryNight$Night" (225 : Nat) "BakeryNight$Bakery" "orders" "[LBakeryNight$Order;" ∈ GW := gwi 486 (by decide +kernel) rfl
theorem wd487 : Cond.fieldLink "BakeryNight$Parser" (288 : Nat) "BakeryNight$Bakery" "orders" "[LBakeryNight$Order;" ∈ GW := gwi 487 (by decide +kernel) rfl
theorem wd488 : Cond.fieldLink "BakeryNight" (323 : Nat) "BakeryNight$Bakery" "orders" "[LBakeryNight$Order;" ∈ GW := gwi 488 (by decide +kernel) rfl
theorem wd489 : Cond.fieldLink "BakeryNight$Plan" (59 : Nat) "BakeryNight$Bakery" "orderTotal" "I" ∈ GW := gwi 489 (by decide +kernel) rfl
theorem wd490 : Cond.fieldLink "BakeryNight$Bakery" (78 : Nat) "BakeryNight$Bakery" "orderTotal" "I" ∈ GW := gwi 490 (by decide +kernel) rfl
theorem wd491 : Cond.fieldLink "BakeryNight$History" (51 : Nat) "BakeryNight$Bakery" "orderTotal" "I" ∈ GW := gwi 491 (by decide +kernel) rfl
theorem wd492 : Cond.fieldLink "BakeryNight" (83 : Nat) "BakeryNight$Bakery" "orderTotal" "I" ∈ GW := gwi 492 (by decide +kernel) rfl
theorem wd493 : Cond.fieldLink "BakeryNight$Parser" (278 : Nat) "BakeryNight$Bakery" "orderTotal" "I" ∈ GW := gwi 493 (by decide +kernel) rfl
theorem wd494 : Cond.fieldLink "BakeryNight$Night" (218 : Nat) "BakeryNight$Bakery" "orderTotal" "I" ∈ GW := gwi 494 (by decide +kernel) rfl
theorem wd524 : Cond.classLink "BakeryNight" (32 : Nat) "BakeryNight$History" ∈ GW := gwi 524 (by decide +kernel) rfl
theorem wd525 : Cond.instantiable "BakeryNight$History" (4 : Nat) ∈ GW := gwi 525 (by decide +kernel) rfl
theorem wd526 : Cond.methodLink "BakeryNight" (34 : Nat) ({ cls := "BakeryNight$History", name := "<init>", desc := "()V" } : Jvm.MethodName) ∈ GW := gwi 526 (by decide +kernel) rfl
theorem wd527 : Cond.instanceMethod ({ cls := "BakeryNight$History", name := "<init>", desc := "()V" } : Jvm.MethodName) ∈ GW := gwi 527 (by decide +kernel) rfl
theorem wd528 : Cond.code ({ cls := "BakeryNight$History", name := "<init>", desc := "()V" } : Jvm.MethodName) prog_5_method_1_code (1 : Nat) (Option.none : Option Jvm.ClassFile.FieldType) ∈ GW := gwi 528 (by decide +kernel) rfl
theorem wd529 : Cond.methodLink "BakeryNight$History" (1 : Nat) ({ cls := "java/lang/Object", name := "<init>", desc := "()V" } : Jvm.MethodName) ∈ GW := gwi 529 (by decide +kernel) rfl
theorem wd530 : Cond.fieldLink "BakeryNight$History" (9 : Nat) "BakeryNight$History" "kinds" "[I" ∈ GW := gwi 530 (by decide +kernel) rfl
theorem wd531 : Cond.fieldLink "BakeryNight$History" (13 : Nat) "BakeryNight$History" "indexes" "[I" ∈ GW := gwi 531 (by decide +kernel) rfl
theorem wd532 : Cond.fieldLink "BakeryNight$History" (16 : Nat) "BakeryNight$History" "before" "[I" ∈ GW := gwi 532 (by decide +kernel) rfl
theorem wd533 : Cond.fieldLink "BakeryNight$History" (19 : Nat) "BakeryNight$History" "size" "I" ∈ GW := gwi 533 (by decide +kernel) rfl
theorem wd534 : Cond.fieldLink "BakeryNight" (339 : Nat) "BakeryNight$History" "size" "I" ∈ GW := gwi 534 (by decide +kernel) rfl
theorem wd544 : Cond.classLink "BakeryNight" (39 : Nat) "BakeryNight$Night" ∈ GW := gwi 544 (by decide +kernel) rfl
theorem wd545 : Cond.instantiable "BakeryNight$Night" (20 : Nat) ∈ GW := gwi 545 (by decide +kernel) rfl
theorem wd546 : Cond.methodLink "BakeryNight" (41 : Nat) ({ cls := "BakeryNight$Night", name := "<init>", desc := "()V" } : Jvm.MethodName) ∈ GW := gwi 546 (by decide +kernel) rfl
theorem wd547 : Cond.instanceMethod ({ cls := "BakeryNight$Night", name := "<init>", desc := "()V" } : Jvm.MethodName) ∈ GW := gwi 547 (by decide +kernel) rfl
theorem wd548 : Cond.code ({ cls := "BakeryNight$Night", name := "<init>", desc := "()V" } : Jvm.MethodName) prog_6_method_1_code (1 : Nat) (Option.none : Option Jvm.ClassFile.FieldType) ∈ GW := gwi 548 (by decide +kernel) rfl
theorem wd549 : Cond.methodLink "BakeryNight$Night" (3 : Nat) ({ cls := "java/lang/Object", name := "<init>", desc := "()V" } : Jvm.MethodName) ∈ GW := gwi 549 (by decide +kernel) rfl
theorem wd550 : Cond.classLink "BakeryNight$Night" (18 : Nat) "[[I" ∈ GW := gwi 550 (by decide +kernel) rfl
theorem wd551 : Cond.fieldLink "BakeryNight$Night" (99 : Nat) "BakeryNight$Night" "start" "I" ∈ GW := gwi 551 (by decide +kernel) rfl
theorem wd552 : Cond.fieldLink "BakeryNight$Night" (86 : Nat) "BakeryNight$Night" "end" "I" ∈ GW := gwi 552 (by decide +kernel) rfl
theorem wd553 : Cond.fieldLink "BakeryNight" (161 : Nat) "BakeryNight$Night" "end" "I" ∈ GW := gwi 553 (by decide +kernel) rfl
theorem wd554 : Cond.fieldLink "BakeryNight$Night" (82 : Nat) "BakeryNight$Night" "batches" "I" ∈ GW := gwi 554 (by decide +kernel) rfl
theorem wd555 : Cond.fieldLink "BakeryNight$Night" (11 : Nat) "BakeryNight$Night" "dough" "[I" ∈ GW := gwi 555 (by decide +kernel) rfl
theorem wd556 : Cond.fieldLink "BakeryNight" (179 : Nat) "BakeryNight$Night" "dough" "[I" ∈ GW := gwi 556 (by decide +kernel) rfl
theorem wd557 : Cond.fieldLink "BakeryNight$Night" (15 : Nat) "BakeryNight$Night" "oven" "[I" ∈ GW := gwi 557 (by decide +kernel) rfl
theorem wd558 : Cond.fieldLink "BakeryNight" (189 : Nat) "BakeryNight$Night" "oven" "[I" ∈ GW := gwi 558 (by decide +kernel) rfl
theorem wd559 : Cond.fieldLink "BakeryNight$Night" (20 : Nat) "BakeryNight$Night" "begun" "[[I" ∈ GW := gwi 559 (by decide +kernel) rfl
theorem wd560 : Cond.fieldLink "BakeryNight" (185 : Nat) "BakeryNight$Night" "begun" "[[I" ∈ GW := gwi 560 (by decide +kernel) rfl
theorem wd561 : Cond.fieldLink "BakeryNight$Night" (23 : Nat) "BakeryNight$Night" "risen" "[I" ∈ GW := gwi 561 (by decide +kernel) rfl
theorem wd562 : Cond.fieldLink "BakeryNight$Night" (26 : Nat) "BakeryNight$Night" "proofed" "[I" ∈ GW := gwi 562 (by decide +kernel) rfl
theorem wd563 : Cond.fieldLink "BakeryNight$Night" (29 : Nat) "BakeryNight$Night" "spoiled" "[I" ∈ GW := gwi 563 (by decide +kernel) rfl
theorem wd564 : Cond.fieldLink "BakeryNight$Night" (102 : Nat) "BakeryNight$Night" "mixed" "I" ∈ GW := gwi 564 (by decide +kernel) rfl
theorem wd565 : Cond.fieldLink "BakeryNight$Night" (32 : Nat) "BakeryNight$Night" "toShape" "[I" ∈ GW := gwi 565 (by decide +kernel) rfl
theorem wd566 : Cond.fieldLink "BakeryNight$Night" (105 : Nat) "BakeryNight$Night" "toShapeTotal" "I" ∈ GW := gwi 566 (by decide +kernel) rfl
theorem wd567 : Cond.fieldLink "BakeryNight$Night" (35 : Nat) "BakeryNight$Night" "toBake" "[I" ∈ GW := gwi 567 (by decide +kernel) rfl
theorem wd568 : Cond.fieldLink "BakeryNight$Night" (108 : Nat) "BakeryNight$Night" "toBakeTotal" "I" ∈ GW := gwi 568 (by decide +kernel) rfl
theorem wd569 : Cond.fieldLink "BakeryNight$Night" (40 : Nat) "BakeryNight$Night" "heat" "[I" ∈ GW := gwi 569 (by decide +kernel) rfl
theorem wd570 : Cond.fieldLink "BakeryNight$Night" (43 : Nat) "BakeryNight$Night" "steady" "[I" ∈ GW := gwi 570 (by decide +kernel) rfl
theorem wd571 : Cond.fieldLink "BakeryNight$Night" (46 : Nat) "BakeryNight$Night" "changed" "[I" ∈ GW := gwi 571 (by decide +kernel) rfl
theorem wd572 : Cond.fieldLink "BakeryNight" (198 : Nat) "BakeryNight$Night" "changed" "[I" ∈ GW := gwi 572 (by decide +kernel) rfl
theorem wd573 : Cond.fieldLink "BakeryNight$Night" (49 : Nat) "BakeryNight$Night" "taken" "[I" ∈ GW := gwi 573 (by decide +kernel) rfl
theorem wd574 : Cond.fieldLink "BakeryNight$Night" (52 : Nat) "BakeryNight$Night" "ready" "[I" ∈ GW := gwi 574 (by decide +kernel) rfl
theorem wd575 : Cond.fieldLink "BakeryNight$Plan" (75 : Nat) "BakeryNight$Night" "ready" "[I" ∈ GW := gwi 575 (by decide +kernel) rfl
theorem wd576 : Cond.fieldLink "BakeryNight" (225 : Nat) "BakeryNight$Night" "ready" "[I" ∈ GW := gwi 576 (by decide +kernel) rfl
theorem wd577 : Cond.fieldLink "BakeryNight$Night" (55 : Nat) "BakeryNight$Night" "oldest" "[I" ∈ GW := gwi 577 (by decide +kernel) rfl
theorem wd578 : Cond.fieldLink "BakeryNight$Plan" (162 : Nat) "BakeryNight$Night" "oldest" "[I" ∈ GW := gwi 578 (by decide +kernel) rfl
theorem wd620 : Cond.classLink "BakeryNight" (46 : Nat) "BakeryNight$Plan" ∈ GW := gwi 620 (by decide +kernel) rfl
theorem wd621 : Cond.instantiable "BakeryNight$Plan" (15 : Nat) ∈ GW := gwi 621 (by decide +kernel) rfl
theorem wd622 : Cond.methodLink "BakeryNight" (48 : Nat) ({ cls := "BakeryNight$Plan", name := "<init>", desc := "()V" } : Jvm.MethodName) ∈ GW := gwi 622 (by decide +kernel) rfl
theorem wd623 : Cond.instanceMethod ({ cls := "BakeryNight$Plan", name := "<init>", desc := "()V" } : Jvm.MethodName) ∈ GW := gwi 623 (by decide +kernel) rfl
theorem wd624 : Cond.code ({ cls := "BakeryNight$Plan", name := "<init>", desc := "()V" } : Jvm.MethodName) prog_10_method_1_code (1 : Nat) (Option.none : Option Jvm.ClassFile.FieldType) ∈ GW := gwi 624 (by decide +kernel) rfl
theorem wd625 : Cond.methodLink "BakeryNight$Plan" (3 : Nat) ({ cls := "java/lang/Object", name := "<init>", desc := "()V" } : Jvm.MethodName) ∈ GW := gwi 625 (by decide +kernel) rfl
theorem wd626 : Cond.fieldLink "BakeryNight$Plan" (11 : Nat) "BakeryNight$Plan" "due" "[I" ∈ GW := gwi 626 (by decide +kernel) rfl
theorem wd627 : Cond.fieldLink "BakeryNight$Plan" (17 : Nat) "BakeryNight$Plan" "load" "[I" ∈ GW := gwi 627 (by decide +kernel) rfl
theorem wd628 : Cond.fieldLink "BakeryNight$Plan" (20 : Nat) "BakeryNight$Plan" "readyAt" "[I" ∈ GW := gwi 628 (by decide +kernel) rfl
theorem wd629 : Cond.fieldLink "BakeryNight$Plan" (95 : Nat) "BakeryNight$Plan" "served" "I" ∈ GW := gwi 629 (by decide +kernel) rfl
theorem wd630 : Cond.fieldLink "BakeryNight$Plan" (55 : Nat) "BakeryNight$Plan" "missed" "I" ∈ GW := gwi 630 (by decide +kernel) rfl
theorem wd631 : Cond.fieldLink "BakeryNight$Plan" (25 : Nat) "BakeryNight$Plan" "setLoad" "[I" ∈ GW := gwi 631 (by decide +kernel) rfl
theorem wd632 : Cond.fieldLink "BakeryNight$Plan" (28 : Nat) "BakeryNight$Plan" "setLate" "[I" ∈ GW := gwi 632 (by decide +kernel) rfl
theorem wd633 : Cond.fieldLink "BakeryNight$Plan" (31 : Nat) "BakeryNight$Plan" "setMinutes" "[I" ∈ GW := gwi 633 (by decide +kernel) rfl
theorem wd634 : Cond.fieldLink "BakeryNight$Plan" (34 : Nat) "BakeryNight$Plan" "setSlack" "[I" ∈ GW := gwi 634 (by decide +kernel) rfl
theorem wd635 : Cond.fieldLink "BakeryNight$Plan" (37 : Nat) "BakeryNight$Plan" "shopsOfVan" "[I" ∈ GW := gwi 635 (by decide +kernel) rfl
theorem wd636 : Cond.fieldLink "BakeryNight$Plan" (40 : Nat) "BakeryNight$Plan" "vanOfShop" "[I" ∈ GW := gwi 636 (by decide +kernel) rfl
theorem wd637 : Cond.fieldLink "BakeryNight$Plan" (98 : Nat) "BakeryNight$Plan" "possible" "Z" ∈ GW := gwi 637 (by decide +kernel) rfl
theorem wd638 : Cond.fieldLink "BakeryNight" (251 : Nat) "BakeryNight$Plan" "possible" "Z" ∈ GW := gwi 638 (by decide +kernel) rfl
theorem wd639 : Cond.fieldLink "BakeryNight$Plan" (117 : Nat) "BakeryNight$Plan" "lateTotal" "I" ∈ GW := gwi 639 (by decide +kernel) rfl
theorem wd640 : Cond.fieldLink "BakeryNight" (257 : Nat) "BakeryNight$Plan" "lateTotal" "I" ∈ GW := gwi 640 (by decide +kernel) rfl
theorem wd641 : Cond.fieldLink "BakeryNight$Plan" (43 : Nat) "BakeryNight$Plan" "bestShops" "[I" ∈ GW := gwi 641 (by decide +kernel) rfl
theorem wd642 : Cond.fieldLink "BakeryNight$Plan" (46 : Nat) "BakeryNight$Plan" "arrival" "[I" ∈ GW := gwi 642 (by decide +kernel) rfl
theorem wd643 : Cond.fieldLink "BakeryNight" (263 : Nat) "BakeryNight$Plan" "arrival" "[I" ∈ GW := gwi 643 (by decide +kernel) rfl
theorem wd675 : Cond.fieldLink "BakeryNight" (9 : Nat) "BakeryNight" "buffer" "[B" ∈ GW := gwi 675 (by decide +kernel) rfl
theorem wd676 : Cond.fieldLink "BakeryNight" (59 : Nat) "BakeryNight" "length" "I" ∈ GW := gwi 676 (by decide +kernel) rfl
theorem wd677 : Cond.fieldLink "BakeryNight" (18 : Nat) "BakeryNight" "parser" "LBakeryNight$Parser;" ∈ GW := gwi 677 (by decide +kernel) rfl
theorem wd678 : Cond.fieldLink "BakeryNight" (25 : Nat) "BakeryNight" "bakery" "LBakeryNight$Bakery;" ∈ GW := gwi 678 (by decide +kernel) rfl
theorem wd679 : Cond.fieldLink "BakeryNight" (29 : Nat) "BakeryNight" "spare" "LBakeryNight$Bakery;" ∈ GW := gwi 679 (by decide +kernel) rfl
theorem wd680 : Cond.fieldLink "BakeryNight" (35 : Nat) "BakeryNight" "history" "LBakeryNight$History;" ∈ GW := gwi 680 (by decide +kernel) rfl
theorem wd681 : Cond.fieldLink "BakeryNight" (42 : Nat) "BakeryNight" "night" "LBakeryNight$Night;" ∈ GW := gwi 681 (by decide +kernel) rfl
theorem wd682 : Cond.fieldLink "BakeryNight" (49 : Nat) "BakeryNight" "plan" "LBakeryNight$Plan;" ∈ GW := gwi 682 (by decide +kernel) rfl
theorem wd683 : Cond.fieldLink "BakeryNight" (154 : Nat) "BakeryNight" "simulated" "Z" ∈ GW := gwi 683 (by decide +kernel) rfl
theorem wd684 : Cond.fieldLink "BakeryNight" (158 : Nat) "BakeryNight" "planned" "Z" ∈ GW := gwi 684 (by decide +kernel) rfl
theorem wd685 : Cond.fieldLink "BakeryNight" (53 : Nat) "BakeryNight" "trialNight" "LBakeryNight$Night;" ∈ GW := gwi 685 (by decide +kernel) rfl
theorem wd686 : Cond.fieldLink "BakeryNight" (56 : Nat) "BakeryNight" "trialPlan" "LBakeryNight$Plan;" ∈ GW := gwi 686 (by decide +kernel) rfl
theorem wd712 : Cond.methodLink "BakeryNightLaw" (28 : Nat) ({ cls := "BakeryNight", name := "feed", desc := "(IIIII)I" } : Jvm.MethodName) ∈ GW := gwi 712 (by decide +kernel) rfl
theorem wd713 : Cond.instanceMethod ({ cls := "BakeryNight", name := "feed", desc := "(IIIII)I" } : Jvm.MethodName) ∈ GW := gwi 713 (by decide +kernel) rfl
theorem wd714 : Cond.selects "BakeryNight" ({ cls := "BakeryNight", name := "feed", desc := "(IIIII)I" } : Jvm.MethodName) ({ cls := "BakeryNight", name := "feed", desc := "(IIIII)I" } : Jvm.MethodName) ∈ GW := gwi 714 (by decide +kernel) rfl
theorem wd715 : Cond.code ({ cls := "BakeryNight", name := "feed", desc := "(IIIII)I" } : Jvm.MethodName) prog_1_method_2_code (6 : Nat) (Option.some Jvm.ClassFile.FieldType.int) ∈ GW := gwi 715 (by decide +kernel) rfl
theorem wd716 : Cond.methodLink "BakeryNight" (63 : Nat) ({ cls := "BakeryNight", name := "append", desc := "(I)V" } : Jvm.MethodName) ∈ GW := gwi 716 (by decide +kernel) rfl
theorem wd718 : Cond.instanceMethod ({ cls := "BakeryNight", name := "append", desc := "(I)V" } : Jvm.MethodName) ∈ GW := gwi 718 (by decide +kernel) rfl
theorem wd719 : Cond.code ({ cls := "BakeryNight", name := "append", desc := "(I)V" } : Jvm.MethodName) prog_1_method_3_code (3 : Nat) (Option.none : Option Jvm.ClassFile.FieldType) ∈ GW := gwi 719 (by decide +kernel) rfl
theorem wd720 : Cond.methodLink "BakeryNightLaw" (33 : Nat) ({ cls := "BakeryNight", name := "truncate", desc := "(I)Z" } : Jvm.MethodName) ∈ GW := gwi 720 (by decide +kernel) rfl
theorem wd721 : Cond.instanceMethod ({ cls := "BakeryNight", name := "truncate", desc := "(I)Z" } : Jvm.MethodName) ∈ GW := gwi 721 (by decide +kernel) rfl
theorem wd722 : Cond.selects "BakeryNight" ({ cls := "BakeryNight", name := "truncate", desc := "(I)Z" } : Jvm.MethodName) ({ cls := "BakeryNight", name := "truncate", desc := "(I)Z" } : Jvm.MethodName) ∈ GW := gwi 722 (by decide +kernel) rfl
theorem wd723 : Cond.code ({ cls := "BakeryNight", name := "truncate", desc := "(I)Z" } : Jvm.MethodName) prog_1_method_4_code (2 : Nat) (Option.some Jvm.ClassFile.FieldType.boolean) ∈ GW := gwi 723 (by decide +kernel) rfl
theorem wd724 : Cond.methodLink "BakeryNightLaw" (38 : Nat) ({ cls := "BakeryNight", name := "parseBakery", desc := "()I" } : Jvm.MethodName) ∈ GW := gwi 724 (by decide +kernel) rfl
theorem wd725 : Cond.instanceMethod ({ cls := "BakeryNight", name := "parseBakery", desc := "()I" } : Jvm.MethodName) ∈ GW := gwi 725 (by decide +kernel) rfl
theorem wd726 : Cond.selects "BakeryNight" ({ cls := "BakeryNight", name := "parseBakery", desc := "()I" } : Jvm.MethodName) ({ cls := "BakeryNight", name := "parseBakery", desc := "()I" } : Jvm.MethodName) ∈ GW := gwi 726 (by decide +kernel) rfl
theorem wd727 : Cond.code ({ cls := "BakeryNight", name := "parseBakery", desc := "()I" } : Jvm.MethodName) prog_1_method_5_code (3 : Nat) (Option.some Jvm.ClassFile.FieldType.int) ∈ GW := gwi 727 (by decide +kernel) rfl
theorem wd728 : Cond.methodLink "BakeryNight" (67 : Nat) ({ cls := "BakeryNight$Parser", name := "parse", desc := "(ILBakeryNight$Bakery;)I" } : Jvm.MethodName) ∈ GW := gwi 728 (by decide +kernel) rfl
theorem wd729 : Cond.instanceMethod ({ cls := "BakeryNight$Parser", name := "parse", desc := "(ILBakeryNight$Bakery;)I" } : Jvm.MethodName) ∈ GW := gwi 729 (by decide +kernel) rfl
theorem wd730 : Cond.selects "BakeryNight$Parser" ({ cls := "BakeryNight$Parser", name := "parse", desc := "(ILBakeryNight$Bakery;)I" } : Jvm.MethodName) ({ cls := "BakeryNight$Parser", name := "parse", desc := "(ILBakeryNight$Bakery;)I" } : Jvm.MethodName) ∈ GW := gwi 730 (by decide +kernel) rfl
theorem wd731 : Cond.code ({ cls := "BakeryNight$Parser", name := "parse", desc := "(ILBakeryNight$Bakery;)I" } : Jvm.MethodName) prog_9_method_2_code (4 : Nat) (Option.some Jvm.ClassFile.FieldType.int) ∈ GW := gwi 731 (by decide +kernel) rfl
theorem wd732 : Cond.methodLink "BakeryNight$Parser" (49 : Nat) ({ cls := "BakeryNight$Bakery", name := "clear", desc := "()V" } : Jvm.MethodName) ∈ GW := gwi 732 (by decide +kernel) rfl
theorem wd733 : Cond.methodLink "BakeryNight$Parser" (52 : Nat) ({ cls := "BakeryNight$Scanner", name := "begin", desc := "(I)V" } : Jvm.MethodName) ∈ GW := gwi 733 (by decide +kernel) rfl
theorem wd734 : Cond.instanceMethod ({ cls := "BakeryNight$Scanner", name := "begin", desc := "(I)V" } : Jvm.MethodName) ∈ GW := gwi 734 (by decide +kernel) rfl
theorem wd735 : Cond.selects "BakeryNight$Scanner" ({ cls := "BakeryNight$Scanner", name := "begin", desc := "(I)V" } : Jvm.MethodName) ({ cls := "BakeryNight$Scanner", name := "begin", desc := "(I)V" } : Jvm.MethodName) ∈ GW := gwi 735 (by decide +kernel) rfl
theorem wd736 : Cond.code ({ cls := "BakeryNight$Scanner", name := "begin", desc := "(I)V" } : Jvm.MethodName) prog_12_method_2_code (2 : Nat) (Option.none : Option Jvm.ClassFile.FieldType) ∈ GW := gwi 736 (by decide +kernel) rfl
theorem wd737 : Cond.methodLink "BakeryNight$Scanner" (13 : Nat) ({ cls := "java/lang/Math", name := "min", desc := "(II)I" } : Jvm.MethodName) ∈ GW := gwi 737 (by decide +kernel) rfl
theorem wd738 : Cond.methodLink "BakeryNight$Scanner" (26 : Nat) ({ cls := "BakeryNight$Scanner", name := "next", desc := "()V" } : Jvm.MethodName) ∈ GW := gwi 738 (by decide +kernel) rfl
theorem wd739 : Cond.instanceMethod ({ cls := "BakeryNight$Scanner", name := "next", desc := "()V" } : Jvm.MethodName) ∈ GW := gwi 739 (by decide +kernel) rfl
theorem wd740 : Cond.selects "BakeryNight$Scanner" ({ cls := "BakeryNight$Scanner", name := "next", desc := "()V" } : Jvm.MethodName) ({ cls := "BakeryNight$Scanner", name := "next", desc := "()V" } : Jvm.MethodName) ∈ GW := gwi 740 (by decide +kernel) rfl
theorem wd741 : Cond.code ({ cls := "BakeryNight$Scanner", name := "next", desc := "()V" } : Jvm.MethodName) prog_12_method_3_code (1 : Nat) (Option.none : Option Jvm.ClassFile.FieldType) ∈ GW := gwi 741 (by decide +kernel) rfl
theorem wd742 : Cond.methodLink "BakeryNight$Scanner" (32 : Nat) ({ cls := "BakeryNight$Scanner", name := "kindOf", desc := "(I)I" } : Jvm.MethodName) ∈ GW := gwi 742 (by decide +kernel) rfl
theorem wd743 : Cond.static ({ cls := "BakeryNight$Scanner", name := "kindOf", desc := "(I)I" } : Jvm.MethodName) ∈ GW := gwi 743 (by decide +kernel) rfl
theorem wd744 : Cond.code ({ cls := "BakeryNight$Scanner", name := "kindOf", desc := "(I)I" } : Jvm.MethodName) prog_12_method_4_code (1 : Nat) (Option.some Jvm.ClassFile.FieldType.int) ∈ GW := gwi 744 (by decide +kernel) rfl
theorem wd745 : Cond.methodLink "BakeryNight$Parser" (59 : Nat) ({ cls := "BakeryNight$Parser", name := "readStatement", desc := "(LBakeryNight$Bakery;)V" } : Jvm.MethodName) ∈ GW := gwi 745 (by decide +kernel) rfl
theorem wd747 : Cond.instanceMethod ({ cls := "BakeryNight$Parser", name := "readStatement", desc := "(LBakeryNight$Bakery;)V" } : Jvm.MethodName) ∈ GW := gwi 747 (by decide +kernel) rfl
theorem wd748 : Cond.code ({ cls := "BakeryNight$Parser", name := "readStatement", desc := "(LBakeryNight$Bakery;)V" } : Jvm.MethodName) prog_9_method_5_code (3 : Nat) (Option.none : Option Jvm.ClassFile.FieldType) ∈ GW := gwi 748 (by decide +kernel) rfl
theorem wd749 : Cond.methodLink "BakeryNight$Parser" (79 : Nat) ({ cls := "BakeryNight$Scanner", name := "keyword", desc := "()LBakeryNight$Word;" } : Jvm.MethodName) ∈ GW := gwi 749 (by decide +kernel) rfl
theorem wd750 : Cond.instanceMethod ({ cls := "BakeryNight$Scanner", name := "keyword", desc := "()LBakeryNight$Word;" } : Jvm.MethodName) ∈ GW := gwi 750 (by decide +kernel) rfl
theorem wd751 : Cond.selects "BakeryNight$Scanner" ({ cls := "BakeryNight$Scanner", name := "keyword", desc := "()LBakeryNight$Word;" } : Jvm.MethodName) ({ cls := "BakeryNight$Scanner", name := "keyword", desc := "()LBakeryNight$Word;" } : Jvm.MethodName) ∈ GW := gwi 751 (by decide +kernel) rfl
theorem wd752 : Cond.code ({ cls := "BakeryNight$Scanner", name := "keyword", desc := "()LBakeryNight$Word;" } : Jvm.MethodName) prog_12_method_9_code (7 : Nat) (Option.some (Jvm.ClassFile.FieldType.object "BakeryNight$Word")) ∈ GW := gwi 752 (by decide +kernel) rfl
theorem wd753 : Cond.fieldLink "BakeryNight$Scanner" (47 : Nat) "BakeryNight$Scanner" "WORDS" "[LBakeryNight$Word;" ∈ GW := gwi 753 (by decide +kernel) rfl
theorem wd755 : Cond.methodLink "BakeryNight$Scanner" (56 : Nat) ({ cls := "java/lang/String", name := "length", desc := "()I" } : Jvm.MethodName) ∈ GW := gwi 755 (by decide +kernel) rfl
theorem wd756 : Cond.instanceMethod ({ cls := "java/lang/String", name := "length", desc := "()I" } : Jvm.MethodName) ∈ GW := gwi 756 (by decide +kernel) rfl
theorem wd757 : Cond.selects "java/lang/String" ({ cls := "java/lang/String", name := "length", desc := "()I" } : Jvm.MethodName) ({ cls := "java/lang/String", name := "length", desc := "()I" } : Jvm.MethodName) ∈ GW := gwi 757 (by decide +kernel) rfl
theorem wd758 : Cond.code ({ cls := "java/lang/String", name := "length", desc := "()I" } : Jvm.MethodName) prog_23_method_54_code (1 : Nat) (Option.some Jvm.ClassFile.FieldType.int) ∈ GW := gwi 758 (by decide +kernel) rfl
theorem wd759 : Cond.methodLink "java/lang/String" (335 : Nat) ({ cls := "java/lang/String", name := "coder", desc := "()B" } : Jvm.MethodName) ∈ GW := gwi 759 (by decide +kernel) rfl
theorem wd760 : Cond.instanceMethod ({ cls := "java/lang/String", name := "coder", desc := "()B" } : Jvm.MethodName) ∈ GW := gwi 760 (by decide +kernel) rfl
theorem wd761 : Cond.selects "java/lang/String" ({ cls := "java/lang/String", name := "coder", desc := "()B" } : Jvm.MethodName) ({ cls := "java/lang/String", name := "coder", desc := "()B" } : Jvm.MethodName) ∈ GW := gwi 761 (by decide +kernel) rfl
theorem wd762 : Cond.code ({ cls := "java/lang/String", name := "coder", desc := "()B" } : Jvm.MethodName) prog_23_method_152_code (1 : Nat) (Option.some Jvm.ClassFile.FieldType.byte) ∈ GW := gwi 762 (by decide +kernel) rfl
theorem wd763 : Cond.fieldLink "java/lang/String" (38 : Nat) "java/lang/String" "COMPACT_STRINGS" "Z" ∈ GW := gwi 763 (by decide +kernel) rfl
theorem wd765 : Cond.methodLink "BakeryNight$Scanner" (61 : Nat) ({ cls := "java/lang/String", name := "charAt", desc := "(I)C" } : Jvm.MethodName) ∈ GW := gwi 765 (by decide +kernel) rfl
theorem wd766 : Cond.instanceMethod ({ cls := "java/lang/String", name := "charAt", desc := "(I)C" } : Jvm.MethodName) ∈ GW := gwi 766 (by decide +kernel) rfl
theorem wd767 : Cond.selects "java/lang/String" ({ cls := "java/lang/String", name := "charAt", desc := "(I)C" } : Jvm.MethodName) ({ cls := "java/lang/String", name := "charAt", desc := "(I)C" } : Jvm.MethodName) ∈ GW := gwi 767 (by decide +kernel) rfl
theorem wd768 : Cond.code ({ cls := "java/lang/String", name := "charAt", desc := "(I)C" } : Jvm.MethodName) prog_23_method_56_code (2 : Nat) (Option.some Jvm.ClassFile.FieldType.char) ∈ GW := gwi 768 (by decide +kernel) rfl
theorem wd769 : Cond.methodLink "java/lang/String" (492 : Nat) ({ cls := "java/lang/String", name := "isLatin1", desc := "()Z" } : Jvm.MethodName) ∈ GW := gwi 769 (by decide +kernel) rfl
theorem wd770 : Cond.instanceMethod ({ cls := "java/lang/String", name := "isLatin1", desc := "()Z" } : Jvm.MethodName) ∈ GW := gwi 770 (by decide +kernel) rfl
theorem wd771 : Cond.selects "java/lang/String" ({ cls := "java/lang/String", name := "isLatin1", desc := "()Z" } : Jvm.MethodName) ({ cls := "java/lang/String", name := "isLatin1", desc := "()Z" } : Jvm.MethodName) ∈ GW := gwi 771 (by decide +kernel) rfl
theorem wd772 : Cond.code ({ cls := "java/lang/String", name := "isLatin1", desc := "()Z" } : Jvm.MethodName) prog_23_method_154_code (1 : Nat) (Option.some Jvm.ClassFile.FieldType.boolean) ∈ GW := gwi 772 (by decide +kernel) rfl
theorem wd773 : Cond.methodLink "java/lang/String" (495 : Nat) ({ cls := "java/lang/StringLatin1", name := "charAt", desc := "([BI)C" } : Jvm.MethodName) ∈ GW := gwi 773 (by decide +kernel) rfl
theorem wd774 : Cond.static ({ cls := "java/lang/StringLatin1", name := "charAt", desc := "([BI)C" } : Jvm.MethodName) ∈ GW := gwi 774 (by decide +kernel) rfl
theorem wd775 : Cond.code ({ cls := "java/lang/StringLatin1", name := "charAt", desc := "([BI)C" } : Jvm.MethodName) prog_24_method_2_code (2 : Nat) (Option.some Jvm.ClassFile.FieldType.char) ∈ GW := gwi 775 (by decide +kernel) rfl
theorem wd776 : Cond.methodLink "java/lang/StringLatin1" (9 : Nat) ({ cls := "java/lang/String", name := "checkIndex", desc := "(II)V" } : Jvm.MethodName) ∈ GW := gwi 776 (by decide +kernel) rfl
theorem wd777 : Cond.static ({ cls := "java/lang/String", name := "checkIndex", desc := "(II)V" } : Jvm.MethodName) ∈ GW := gwi 777 (by decide +kernel) rfl
theorem wd778 : Cond.code ({ cls := "java/lang/String", name := "checkIndex", desc := "(II)V" } : Jvm.MethodName) prog_23_method_155_code (2 : Nat) (Option.none : Option Jvm.ClassFile.FieldType) ∈ GW := gwi 778 (by decide +kernel) rfl
theorem wd779 : Cond.fieldLink "java/lang/String" (1053 : Nat) "jdk/internal/util/Preconditions" "SIOOBE_FORMATTER" "Ljava/util/function/BiFunction;" ∈ GW := gwi 779 (by decide +kernel) rfl
theorem wd781 : Cond.methodLink "java/lang/String" (1059 : Nat) ({ cls := "jdk/internal/util/Preconditions", name := "checkIndex", desc := "(IILjava/util/function/BiFunction;)I" } : Jvm.MethodName) ∈ GW := gwi 781 (by decide +kernel) rfl
theorem wd782 : Cond.static ({ cls := "jdk/internal/util/Preconditions", name := "checkIndex", desc := "(IILjava/util/function/BiFunction;)I" } : Jvm.MethodName) ∈ GW := gwi 782 (by decide +kernel) rfl
theorem wd783 : Cond.code ({ cls := "jdk/internal/util/Preconditions", name := "checkIndex", desc := "(IILjava/util/function/BiFunction;)I" } : Jvm.MethodName) prog_29_method_11_code (3 : Nat) (Option.some Jvm.ClassFile.FieldType.int) ∈ GW := gwi 783 (by decide +kernel) rfl
theorem wd784 : Cond.methodLink "java/lang/String" (498 : Nat) ({ cls := "java/lang/StringUTF16", name := "charAt", desc := "([BI)C" } : Jvm.MethodName) ∈ GW := gwi 784 (by decide +kernel) rfl
theorem wd785 : Cond.static ({ cls := "java/lang/StringUTF16", name := "charAt", desc := "([BI)C" } : Jvm.MethodName) ∈ GW := gwi 785 (by decide +kernel) rfl
theorem wd786 : Cond.code ({ cls := "java/lang/StringUTF16", name := "charAt", desc := "([BI)C" } : Jvm.MethodName) prog_25_method_83_code (2 : Nat) (Option.some Jvm.ClassFile.FieldType.char) ∈ GW := gwi 786 (by decide +kernel) rfl
theorem wd787 : Cond.methodLink "java/lang/StringUTF16" (67 : Nat) ({ cls := "java/lang/StringUTF16", name := "checkIndex", desc := "(I[B)V" } : Jvm.MethodName) ∈ GW := gwi 787 (by decide +kernel) rfl
theorem wd788 : Cond.static ({ cls := "java/lang/StringUTF16", name := "checkIndex", desc := "(I[B)V" } : Jvm.MethodName) ∈ GW := gwi 788 (by decide +kernel) rfl
theorem wd789 : Cond.code ({ cls := "java/lang/StringUTF16", name := "checkIndex", desc := "(I[B)V" } : Jvm.MethodName) prog_25_method_91_code (2 : Nat) (Option.none : Option Jvm.ClassFile.FieldType) ∈ GW := gwi 789 (by decide +kernel) rfl
theorem wd790 : Cond.methodLink "java/lang/StringUTF16" (48 : Nat) ({ cls := "java/lang/StringUTF16", name := "length", desc := "([B)I" } : Jvm.MethodName) ∈ GW := gwi 790 (by decide +kernel) rfl
theorem wd791 : Cond.static ({ cls := "java/lang/StringUTF16", name := "length", desc := "([B)I" } : Jvm.MethodName) ∈ GW := gwi 791 (by decide +kernel) rfl
theorem wd792 : Cond.code ({ cls := "java/lang/StringUTF16", name := "length", desc := "([B)I" } : Jvm.MethodName) prog_25_method_6_code (1 : Nat) (Option.some Jvm.ClassFile.FieldType.int) ∈ GW := gwi 792 (by decide +kernel) rfl
theorem wd793 : Cond.methodLink "java/lang/StringUTF16" (414 : Nat) ({ cls := "java/lang/String", name := "checkIndex", desc := "(II)V" } : Jvm.MethodName) ∈ GW := gwi 793 (by decide +kernel) rfl
theorem wd794 : Cond.methodLink "java/lang/StringUTF16" (71 : Nat) ({ cls := "java/lang/StringUTF16", name := "getChar", desc := "([BI)C" } : Jvm.MethodName) ∈ GW := gwi 794 (by decide +kernel) rfl
theorem wd795 : Cond.static ({ cls := "java/lang/StringUTF16", name := "getChar", desc := "([BI)C" } : Jvm.MethodName) ∈ GW := gwi 795 (by decide +kernel) rfl
theorem wd796 : Cond.code ({ cls := "java/lang/StringUTF16", name := "getChar", desc := "([BI)C" } : Jvm.MethodName) prog_25_method_5_code (2 : Nat) (Option.some Jvm.ClassFile.FieldType.char) ∈ GW := gwi 796 (by decide +kernel) rfl
theorem wd797 : Cond.fieldLink "java/lang/StringUTF16" (44 : Nat) "java/lang/StringUTF16" "$assertionsDisabled" "Z" ∈ GW := gwi 797 (by decide +kernel) rfl
theorem wd799 : Cond.fieldLink "java/lang/StringUTF16" (59 : Nat) "java/lang/StringUTF16" "HI_BYTE_SHIFT" "I" ∈ GW := gwi 799 (by decide +kernel) rfl
theorem wd801 : Cond.fieldLink "java/lang/StringUTF16" (63 : Nat) "java/lang/StringUTF16" "LO_BYTE_SHIFT" "I" ∈ GW := gwi 801 (by decide +kernel) rfl
theorem wd803 : Cond.methodLink "BakeryNight$Parser" (83 : Nat) ({ cls := "BakeryNight$Parser", name := "fail", desc := "(I)V" } : Jvm.MethodName) ∈ GW := gwi 803 (by decide +kernel) rfl
theorem wd805 : Cond.instanceMethod ({ cls := "BakeryNight$Parser", name := "fail", desc := "(I)V" } : Jvm.MethodName) ∈ GW := gwi 805 (by decide +kernel) rfl
theorem wd806 : Cond.code ({ cls := "BakeryNight$Parser", name := "fail", desc := "(I)V" } : Jvm.MethodName) prog_9_method_3_code (2 : Nat) (Option.none : Option Jvm.ClassFile.FieldType) ∈ GW := gwi 806 (by decide +kernel) rfl
theorem wd807 : Cond.fieldLink "BakeryNight$Parser" (86 : Nat) "BakeryNight$1" "$SwitchMap$BakeryNight$Word" "[I" ∈ GW := gwi 807 (by decide +kernel) rfl
theorem wd809 : Cond.methodLink "BakeryNight$Parser" (92 : Nat) ({ cls := "BakeryNight$Word", name := "ordinal", desc := "()I" } : Jvm.MethodName) ∈ GW := gwi 809 (by decide +kernel) rfl
theorem wd812 : Cond.selects "BakeryNight$Word" ({ cls := "BakeryNight$Word", name := "ordinal", desc := "()I" } : Jvm.MethodName) ({ cls := "java/lang/Enum", name := "ordinal", desc := "()I" } : Jvm.MethodName) ∈ GW := gwi 812 (by decide +kernel) rfl
theorem wd813 : Cond.instanceMethod ({ cls := "java/lang/Enum", name := "ordinal", desc := "()I" } : Jvm.MethodName) ∈ GW := gwi 813 (by decide +kernel) rfl
theorem wd814 : Cond.code ({ cls := "java/lang/Enum", name := "ordinal", desc := "()I" } : Jvm.MethodName) prog_16_method_2_code (1 : Nat) (Option.some Jvm.ClassFile.FieldType.int) ∈ GW := gwi 814 (by decide +kernel) rfl
theorem wd815 : Cond.methodLink "BakeryNight$Parser" (98 : Nat) ({ cls := "BakeryNight$Parser", name := "readSetting", desc := "(ZII)I" } : Jvm.MethodName) ∈ GW := gwi 815 (by decide +kernel) rfl
theorem wd817 : Cond.instanceMethod ({ cls := "BakeryNight$Parser", name := "readSetting", desc := "(ZII)I" } : Jvm.MethodName) ∈ GW := gwi 817 (by decide +kernel) rfl
theorem wd818 : Cond.code ({ cls := "BakeryNight$Parser", name := "readSetting", desc := "(ZII)I" } : Jvm.MethodName) prog_9_method_7_code (4 : Nat) (Option.some Jvm.ClassFile.FieldType.int) ∈ GW := gwi 818 (by decide +kernel) rfl
theorem wd819 : Cond.methodLink "BakeryNight$Parser" (139 : Nat) ({ cls := "BakeryNight$Scanner", name := "next", desc := "()V" } : Jvm.MethodName) ∈ GW := gwi 819 (by decide +kernel) rfl
theorem wd820 : Cond.methodLink "BakeryNight$Parser" (142 : Nat) ({ cls := "BakeryNight$Parser", name := "readNumber", desc := "(II)I" } : Jvm.MethodName) ∈ GW := gwi 820 (by decide +kernel) rfl
theorem wd822 : Cond.instanceMethod ({ cls := "BakeryNight$Parser", name := "readNumber", desc := "(II)I" } : Jvm.MethodName) ∈ GW := gwi 822 (by decide +kernel) rfl
theorem wd823 : Cond.code ({ cls := "BakeryNight$Parser", name := "readNumber", desc := "(II)I" } : Jvm.MethodName) prog_9_method_16_code (4 : Nat) (Option.some Jvm.ClassFile.FieldType.int) ∈ GW := gwi 823 (by decide +kernel) rfl
theorem wd824 : Cond.methodLink "BakeryNight$Parser" (298 : Nat) ({ cls := "BakeryNight$Scanner", name := "isNumber", desc := "()Z" } : Jvm.MethodName) ∈ GW := gwi 824 (by decide +kernel) rfl
theorem wd825 : Cond.instanceMethod ({ cls := "BakeryNight$Scanner", name := "isNumber", desc := "()Z" } : Jvm.MethodName) ∈ GW := gwi 825 (by decide +kernel) rfl
theorem wd826 : Cond.selects "BakeryNight$Scanner" ({ cls := "BakeryNight$Scanner", name := "isNumber", desc := "()Z" } : Jvm.MethodName) ({ cls := "BakeryNight$Scanner", name := "isNumber", desc := "()Z" } : Jvm.MethodName) ∈ GW := gwi 826 (by decide +kernel) rfl
theorem wd827 : Cond.code ({ cls := "BakeryNight$Scanner", name := "isNumber", desc := "()Z" } : Jvm.MethodName) prog_12_method_5_code (1 : Nat) (Option.some Jvm.ClassFile.FieldType.boolean) ∈ GW := gwi 827 (by decide +kernel) rfl
theorem wd828 : Cond.methodLink "BakeryNight$Parser" (301 : Nat) ({ cls := "BakeryNight$Scanner", name := "value", desc := "()I" } : Jvm.MethodName) ∈ GW := gwi 828 (by decide +kernel) rfl
theorem wd829 : Cond.instanceMethod ({ cls := "BakeryNight$Scanner", name := "value", desc := "()I" } : Jvm.MethodName) ∈ GW := gwi 829 (by decide +kernel) rfl
theorem wd830 : Cond.selects "BakeryNight$Scanner" ({ cls := "BakeryNight$Scanner", name := "value", desc := "()I" } : Jvm.MethodName) ({ cls := "BakeryNight$Scanner", name := "value", desc := "()I" } : Jvm.MethodName) ∈ GW := gwi 830 (by decide +kernel) rfl
theorem wd831 : Cond.code ({ cls := "BakeryNight$Scanner", name := "value", desc := "()I" } : Jvm.MethodName) prog_12_method_6_code (3 : Nat) (Option.some Jvm.ClassFile.FieldType.int) ∈ GW := gwi 831 (by decide +kernel) rfl
theorem wd832 : Cond.methodLink "BakeryNight$Parser" (135 : Nat) ({ cls := "BakeryNight$Parser", name := "failed", desc := "()Z" } : Jvm.MethodName) ∈ GW := gwi 832 (by decide +kernel) rfl
theorem wd834 : Cond.instanceMethod ({ cls := "BakeryNight$Parser", name := "failed", desc := "()Z" } : Jvm.MethodName) ∈ GW := gwi 834 (by decide +kernel) rfl
theorem wd835 : Cond.code ({ cls := "BakeryNight$Parser", name := "failed", desc := "()Z" } : Jvm.MethodName) prog_9_method_4_code (1 : Nat) (Option.some Jvm.ClassFile.FieldType.boolean) ∈ GW := gwi 835 (by decide +kernel) rfl
theorem wd836 : Cond.methodLink "BakeryNight$Parser" (114 : Nat) ({ cls := "BakeryNight$Parser", name := "readDough", desc := "(LBakeryNight$Bakery;)V" } : Jvm.MethodName) ∈ GW := gwi 836 (by decide +kernel) rfl
theorem wd838 : Cond.instanceMethod ({ cls := "BakeryNight$Parser", name := "readDough", desc := "(LBakeryNight$Bakery;)V" } : Jvm.MethodName) ∈ GW := gwi 838 (by decide +kernel) rfl
theorem wd839 : Cond.code ({ cls := "BakeryNight$Parser", name := "readDough", desc := "(LBakeryNight$Bakery;)V" } : Jvm.MethodName) prog_9_method_9_code (4 : Nat) (Option.none : Option Jvm.ClassFile.FieldType) ∈ GW := gwi 839 (by decide +kernel) rfl
theorem wd840 : Cond.methodLink "BakeryNight$Parser" (149 : Nat) ({ cls := "BakeryNight$Parser", name := "beginOneOf", desc := "(II)V" } : Jvm.MethodName) ∈ GW := gwi 840 (by decide +kernel) rfl
theorem wd842 : Cond.instanceMethod ({ cls := "BakeryNight$Parser", name := "beginOneOf", desc := "(II)V" } : Jvm.MethodName) ∈ GW := gwi 842 (by decide +kernel) rfl
theorem wd843 : Cond.code ({ cls := "BakeryNight$Parser", name := "beginOneOf", desc := "(II)V" } : Jvm.MethodName) prog_9_method_8_code (3 : Nat) (Option.none : Option Jvm.ClassFile.FieldType) ∈ GW := gwi 843 (by decide +kernel) rfl
theorem wd844 : Cond.methodLink "BakeryNight$Parser" (152 : Nat) ({ cls := "BakeryNight$Parser", name := "readNewName", desc := "([JI)V" } : Jvm.MethodName) ∈ GW := gwi 844 (by decide +kernel) rfl
theorem wd846 : Cond.instanceMethod ({ cls := "BakeryNight$Parser", name := "readNewName", desc := "([JI)V" } : Jvm.MethodName) ∈ GW := gwi 846 (by decide +kernel) rfl
theorem wd847 : Cond.code ({ cls := "BakeryNight$Parser", name := "readNewName", desc := "([JI)V" } : Jvm.MethodName) prog_9_method_17_code (3 : Nat) (Option.none : Option Jvm.ClassFile.FieldType) ∈ GW := gwi 847 (by decide +kernel) rfl
theorem wd848 : Cond.methodLink "BakeryNight$Parser" (304 : Nat) ({ cls := "BakeryNight$Scanner", name := "isName", desc := "()Z" } : Jvm.MethodName) ∈ GW := gwi 848 (by decide +kernel) rfl
theorem wd849 : Cond.instanceMethod ({ cls := "BakeryNight$Scanner", name := "isName", desc := "()Z" } : Jvm.MethodName) ∈ GW := gwi 849 (by decide +kernel) rfl
theorem wd850 : Cond.selects "BakeryNight$Scanner" ({ cls := "BakeryNight$Scanner", name := "isName", desc := "()Z" } : Jvm.MethodName) ({ cls := "BakeryNight$Scanner", name := "isName", desc := "()Z" } : Jvm.MethodName) ∈ GW := gwi 850 (by decide +kernel) rfl
theorem wd851 : Cond.code ({ cls := "BakeryNight$Scanner", name := "isName", desc := "()Z" } : Jvm.MethodName) prog_12_method_7_code (1 : Nat) (Option.some Jvm.ClassFile.FieldType.boolean) ∈ GW := gwi 851 (by decide +kernel) rfl
theorem wd852 : Cond.methodLink "BakeryNight$Scanner" (39 : Nat) ({ cls := "BakeryNight$Scanner", name := "keyword", desc := "()LBakeryNight$Word;" } : Jvm.MethodName) ∈ GW := gwi 852 (by decide +kernel) rfl
theorem wd853 : Cond.methodLink "BakeryNight$Parser" (307 : Nat) ({ cls := "BakeryNight$Parser", name := "indexOfName", desc := "([JI)I" } : Jvm.MethodName) ∈ GW := gwi 853 (by decide +kernel) rfl
theorem wd855 : Cond.instanceMethod ({ cls := "BakeryNight$Parser", name := "indexOfName", desc := "([JI)I" } : Jvm.MethodName) ∈ GW := gwi 855 (by decide +kernel) rfl
theorem wd856 : Cond.code ({ cls := "BakeryNight$Parser", name := "indexOfName", desc := "([JI)I" } : Jvm.MethodName) prog_9_method_19_code (6 : Nat) (Option.some Jvm.ClassFile.FieldType.int) ∈ GW := gwi 856 (by decide +kernel) rfl
theorem wd857 : Cond.methodLink "BakeryNight$Parser" (310 : Nat) ({ cls := "BakeryNight$Scanner", name := "letters", desc := "()J" } : Jvm.MethodName) ∈ GW := gwi 857 (by decide +kernel) rfl
theorem wd858 : Cond.instanceMethod ({ cls := "BakeryNight$Scanner", name := "letters", desc := "()J" } : Jvm.MethodName) ∈ GW := gwi 858 (by decide +kernel) rfl
theorem wd859 : Cond.selects "BakeryNight$Scanner" ({ cls := "BakeryNight$Scanner", name := "letters", desc := "()J" } : Jvm.MethodName) ({ cls := "BakeryNight$Scanner", name := "letters", desc := "()J" } : Jvm.MethodName) ∈ GW := gwi 859 (by decide +kernel) rfl
theorem wd860 : Cond.code ({ cls := "BakeryNight$Scanner", name := "letters", desc := "()J" } : Jvm.MethodName) prog_12_method_8_code (4 : Nat) (Option.some Jvm.ClassFile.FieldType.long) ∈ GW := gwi 860 (by decide +kernel) rfl
theorem wd861 : Cond.constantLong "BakeryNight$Scanner" (43 : Nat) (32 : Int64) ∈ GW := gwi 861 (by decide +kernel) rfl
theorem wd862 : Cond.constantLong "BakeryNight$Scanner" (45 : Nat) (97 : Int64) ∈ GW := gwi 862 (by decide +kernel) rfl
theorem wd863 : Cond.fieldLink "BakeryNight$Parser" (160 : Nat) "BakeryNight$Word" "MIX" "LBakeryNight$Word;" ∈ GW := gwi 863 (by decide +kernel) rfl
theorem wd865 : Cond.methodLink "BakeryNight$Parser" (164 : Nat) ({ cls := "BakeryNight$Parser", name := "readField", desc := "(LBakeryNight$Word;II)I" } : Jvm.MethodName) ∈ GW := gwi 865 (by decide +kernel) rfl
theorem wd867 : Cond.instanceMethod ({ cls := "BakeryNight$Parser", name := "readField", desc := "(LBakeryNight$Word;II)I" } : Jvm.MethodName) ∈ GW := gwi 867 (by decide +kernel) rfl
theorem wd868 : Cond.code ({ cls := "BakeryNight$Parser", name := "readField", desc := "(LBakeryNight$Word;II)I" } : Jvm.MethodName) prog_9_method_15_code (4 : Nat) (Option.some Jvm.ClassFile.FieldType.int) ∈ GW := gwi 868 (by decide +kernel) rfl
theorem wd869 : Cond.fieldLink "BakeryNight$Parser" (173 : Nat) "BakeryNight$Word" "RISE" "LBakeryNight$Word;" ∈ GW := gwi 869 (by decide +kernel) rfl
theorem wd871 : Cond.fieldLink "BakeryNight$Parser" (179 : Nat) "BakeryNight$Word" "SHAPE" "LBakeryNight$Word;" ∈ GW := gwi 871 (by decide +kernel) rfl
theorem wd873 : Cond.fieldLink "BakeryNight$Parser" (185 : Nat) "BakeryNight$Word" "PROOF" "LBakeryNight$Word;" ∈ GW := gwi 873 (by decide +kernel) rfl
theorem wd875 : Cond.fieldLink "BakeryNight$Parser" (191 : Nat) "BakeryNight$Word" "LIMIT" "LBakeryNight$Word;" ∈ GW := gwi 875 (by decide +kernel) rfl
theorem wd877 : Cond.fieldLink "BakeryNight$Parser" (197 : Nat) "BakeryNight$Word" "BAKE" "LBakeryNight$Word;" ∈ GW := gwi 877 (by decide +kernel) rfl
theorem wd879 : Cond.fieldLink "BakeryNight$Parser" (203 : Nat) "BakeryNight$Word" "HEAT" "LBakeryNight$Word;" ∈ GW := gwi 879 (by decide +kernel) rfl
theorem wd881 : Cond.fieldLink "BakeryNight$Parser" (209 : Nat) "BakeryNight$Word" "YIELD" "LBakeryNight$Word;" ∈ GW := gwi 881 (by decide +kernel) rfl
theorem wd883 : Cond.fieldLink "BakeryNight$Parser" (215 : Nat) "BakeryNight$Word" "KEEP" "LBakeryNight$Word;" ∈ GW := gwi 883 (by decide +kernel) rfl
theorem wd885 : Cond.fieldLink "BakeryNight$Parser" (221 : Nat) "BakeryNight$Word" "PRICE" "LBakeryNight$Word;" ∈ GW := gwi 885 (by decide +kernel) rfl
theorem wd887 : Cond.methodLink "BakeryNight$Parser" (117 : Nat) ({ cls := "BakeryNight$Parser", name := "readOven", desc := "(LBakeryNight$Bakery;)V" } : Jvm.MethodName) ∈ GW := gwi 887 (by decide +kernel) rfl
theorem wd889 : Cond.instanceMethod ({ cls := "BakeryNight$Parser", name := "readOven", desc := "(LBakeryNight$Bakery;)V" } : Jvm.MethodName) ∈ GW := gwi 889 (by decide +kernel) rfl
theorem wd890 : Cond.code ({ cls := "BakeryNight$Parser", name := "readOven", desc := "(LBakeryNight$Bakery;)V" } : Jvm.MethodName) prog_9_method_10_code (4 : Nat) (Option.none : Option Jvm.ClassFile.FieldType) ∈ GW := gwi 890 (by decide +kernel) rfl
theorem wd891 : Cond.fieldLink "BakeryNight$Parser" (234 : Nat) "BakeryNight$Word" "SHELVES" "LBakeryNight$Word;" ∈ GW := gwi 891 (by decide +kernel) rfl
theorem wd893 : Cond.fieldLink "BakeryNight$Parser" (243 : Nat) "BakeryNight$Word" "RATE" "LBakeryNight$Word;" ∈ GW := gwi 893 (by decide +kernel) rfl
theorem wd895 : Cond.methodLink "BakeryNight$Parser" (120 : Nat) ({ cls := "BakeryNight$Parser", name := "readShop", desc := "(LBakeryNight$Bakery;)V" } : Jvm.MethodName) ∈ GW := gwi 895 (by decide +kernel) rfl
theorem wd897 : Cond.instanceMethod ({ cls := "BakeryNight$Parser", name := "readShop", desc := "(LBakeryNight$Bakery;)V" } : Jvm.MethodName) ∈ GW := gwi 897 (by decide +kernel) rfl
theorem wd898 : Cond.code ({ cls := "BakeryNight$Parser", name := "readShop", desc := "(LBakeryNight$Bakery;)V" } : Jvm.MethodName) prog_9_method_11_code (2 : Nat) (Option.none : Option Jvm.ClassFile.FieldType) ∈ GW := gwi 898 (by decide +kernel) rfl
theorem wd899 : Cond.methodLink "BakeryNight$Parser" (123 : Nat) ({ cls := "BakeryNight$Parser", name := "readStreet", desc := "(LBakeryNight$Bakery;)V" } : Jvm.MethodName) ∈ GW := gwi 899 (by decide +kernel) rfl
theorem wd901 : Cond.instanceMethod ({ cls := "BakeryNight$Parser", name := "readStreet", desc := "(LBakeryNight$Bakery;)V" } : Jvm.MethodName) ∈ GW := gwi 901 (by decide +kernel) rfl
theorem wd902 : Cond.code ({ cls := "BakeryNight$Parser", name := "readStreet", desc := "(LBakeryNight$Bakery;)V" } : Jvm.MethodName) prog_9_method_12_code (7 : Nat) (Option.none : Option Jvm.ClassFile.FieldType) ∈ GW := gwi 902 (by decide +kernel) rfl
theorem wd903 : Cond.methodLink "BakeryNight$Parser" (255 : Nat) ({ cls := "BakeryNight$Parser", name := "readPlace", desc := "(LBakeryNight$Bakery;I)I" } : Jvm.MethodName) ∈ GW := gwi 903 (by decide +kernel) rfl
theorem wd905 : Cond.instanceMethod ({ cls := "BakeryNight$Parser", name := "readPlace", desc := "(LBakeryNight$Bakery;I)I" } : Jvm.MethodName) ∈ GW := gwi 905 (by decide +kernel) rfl
theorem wd906 : Cond.code ({ cls := "BakeryNight$Parser", name := "readPlace", desc := "(LBakeryNight$Bakery;I)I" } : Jvm.MethodName) prog_9_method_20_code (4 : Nat) (Option.some Jvm.ClassFile.FieldType.int) ∈ GW := gwi 906 (by decide +kernel) rfl
theorem wd907 : Cond.fieldLink "BakeryNight$Parser" (314 : Nat) "BakeryNight$Word" "HOME" "LBakeryNight$Word;" ∈ GW := gwi 907 (by decide +kernel) rfl
theorem wd909 : Cond.methodLink "BakeryNight$Parser" (126 : Nat) ({ cls := "BakeryNight$Parser", name := "readVan", desc := "(LBakeryNight$Bakery;)V" } : Jvm.MethodName) ∈ GW := gwi 909 (by decide +kernel) rfl
theorem wd911 : Cond.instanceMethod ({ cls := "BakeryNight$Parser", name := "readVan", desc := "(LBakeryNight$Bakery;)V" } : Jvm.MethodName) ∈ GW := gwi 911 (by decide +kernel) rfl
theorem wd912 : Cond.code ({ cls := "BakeryNight$Parser", name := "readVan", desc := "(LBakeryNight$Bakery;)V" } : Jvm.MethodName) prog_9_method_13_code (3 : Nat) (Option.none : Option Jvm.ClassFile.FieldType) ∈ GW := gwi 912 (by decide +kernel) rfl
theorem wd913 : Cond.methodLink "BakeryNight$Parser" (129 : Nat) ({ cls := "BakeryNight$Parser", name := "readOrder", desc := "(LBakeryNight$Bakery;)V" } : Jvm.MethodName) ∈ GW := gwi 913 (by decide +kernel) rfl
theorem wd915 : Cond.instanceMethod ({ cls := "BakeryNight$Parser", name := "readOrder", desc := "(LBakeryNight$Bakery;)V" } : Jvm.MethodName) ∈ GW := gwi 915 (by decide +kernel) rfl
theorem wd916 : Cond.code ({ cls := "BakeryNight$Parser", name := "readOrder", desc := "(LBakeryNight$Bakery;)V" } : Jvm.MethodName) prog_9_method_14_code (6 : Nat) (Option.none : Option Jvm.ClassFile.FieldType) ∈ GW := gwi 916 (by decide +kernel) rfl
theorem wd917 : Cond.methodLink "BakeryNight$Parser" (281 : Nat) ({ cls := "BakeryNight$Parser", name := "readKnownName", desc := "([JI)I" } : Jvm.MethodName) ∈ GW := gwi 917 (by decide +kernel) rfl
theorem wd919 : Cond.instanceMethod ({ cls := "BakeryNight$Parser", name := "readKnownName", desc := "([JI)I" } : Jvm.MethodName) ∈ GW := gwi 919 (by decide +kernel) rfl
theorem wd920 : Cond.code ({ cls := "BakeryNight$Parser", name := "readKnownName", desc := "([JI)I" } : Jvm.MethodName) prog_9_method_18_code (4 : Nat) (Option.some Jvm.ClassFile.FieldType.int) ∈ GW := gwi 920 (by decide +kernel) rfl
theorem wd921 : Cond.fieldLink "BakeryNight$Parser" (285 : Nat) "BakeryNight$Word" "BY" "LBakeryNight$Word;" ∈ GW := gwi 921 (by decide +kernel) rfl
theorem wd923 : Cond.methodLink "BakeryNight$Parser" (292 : Nat) ({ cls := "BakeryNight$Order", name := "set", desc := "(IIII)V" } : Jvm.MethodName) ∈ GW := gwi 923 (by decide +kernel) rfl
theorem wd924 : Cond.instanceMethod ({ cls := "BakeryNight$Order", name := "set", desc := "(IIII)V" } : Jvm.MethodName) ∈ GW := gwi 924 (by decide +kernel) rfl
theorem wd925 : Cond.selects "BakeryNight$Order" ({ cls := "BakeryNight$Order", name := "set", desc := "(IIII)V" } : Jvm.MethodName) ({ cls := "BakeryNight$Order", name := "set", desc := "(IIII)V" } : Jvm.MethodName) ∈ GW := gwi 925 (by decide +kernel) rfl
theorem wd926 : Cond.code ({ cls := "BakeryNight$Order", name := "set", desc := "(IIII)V" } : Jvm.MethodName) prog_7_method_2_code (5 : Nat) (Option.none : Option Jvm.ClassFile.FieldType) ∈ GW := gwi 926 (by decide +kernel) rfl
theorem wd927 : Cond.methodLink "BakeryNight$Parser" (132 : Nat) ({ cls := "BakeryNight$Parser", name := "readSemicolon", desc := "()V" } : Jvm.MethodName) ∈ GW := gwi 927 (by decide +kernel) rfl
theorem wd929 : Cond.instanceMethod ({ cls := "BakeryNight$Parser", name := "readSemicolon", desc := "()V" } : Jvm.MethodName) ∈ GW := gwi 929 (by decide +kernel) rfl
theorem wd930 : Cond.code ({ cls := "BakeryNight$Parser", name := "readSemicolon", desc := "()V" } : Jvm.MethodName) prog_9_method_6_code (1 : Nat) (Option.none : Option Jvm.ClassFile.FieldType) ∈ GW := gwi 930 (by decide +kernel) rfl
theorem wd931 : Cond.methodLink "BakeryNight$Parser" (70 : Nat) ({ cls := "BakeryNight$Roads", name := "explore", desc := "(II)V" } : Jvm.MethodName) ∈ GW := gwi 931 (by decide +kernel) rfl
theorem wd932 : Cond.methodLink "BakeryNight" (71 : Nat) ({ cls := "BakeryNight$History", name := "forget", desc := "()V" } : Jvm.MethodName) ∈ GW := gwi 932 (by decide +kernel) rfl
theorem wd933 : Cond.instanceMethod ({ cls := "BakeryNight$History", name := "forget", desc := "()V" } : Jvm.MethodName) ∈ GW := gwi 933 (by decide +kernel) rfl
theorem wd934 : Cond.selects "BakeryNight$History" ({ cls := "BakeryNight$History", name := "forget", desc := "()V" } : Jvm.MethodName) ({ cls := "BakeryNight$History", name := "forget", desc := "()V" } : Jvm.MethodName) ∈ GW := gwi 934 (by decide +kernel) rfl
theorem wd935 : Cond.code ({ cls := "BakeryNight$History", name := "forget", desc := "()V" } : Jvm.MethodName) prog_5_method_2_code (1 : Nat) (Option.none : Option Jvm.ClassFile.FieldType) ∈ GW := gwi 935 (by decide +kernel) rfl
theorem wd936 : Cond.methodLink "BakeryNight" (74 : Nat) ({ cls := "BakeryNight", name := "dropNight", desc := "()V" } : Jvm.MethodName) ∈ GW := gwi 936 (by decide +kernel) rfl
theorem wd938 : Cond.instanceMethod ({ cls := "BakeryNight", name := "dropNight", desc := "()V" } : Jvm.MethodName) ∈ GW := gwi 938 (by decide +kernel) rfl
theorem wd939 : Cond.code ({ cls := "BakeryNight", name := "dropNight", desc := "()V" } : Jvm.MethodName) prog_1_method_17_code (1 : Nat) (Option.none : Option Jvm.ClassFile.FieldType) ∈ GW := gwi 939 (by decide +kernel) rfl
theorem wd940 : Cond.methodLink "BakeryNightLaw" (43 : Nat) ({ cls := "BakeryNight", name := "errorCode", desc := "()I" } : Jvm.MethodName) ∈ GW := gwi 940 (by decide +kernel) rfl
theorem wd941 : Cond.instanceMethod ({ cls := "BakeryNight", name := "errorCode", desc := "()I" } : Jvm.MethodName) ∈ GW := gwi 941 (by decide +kernel) rfl
theorem wd942 : Cond.selects "BakeryNight" ({ cls := "BakeryNight", name := "errorCode", desc := "()I" } : Jvm.MethodName) ({ cls := "BakeryNight", name := "errorCode", desc := "()I" } : Jvm.MethodName) ∈ GW := gwi 942 (by decide +kernel) rfl
theorem wd943 : Cond.code ({ cls := "BakeryNight", name := "errorCode", desc := "()I" } : Jvm.MethodName) prog_1_method_6_code (1 : Nat) (Option.some Jvm.ClassFile.FieldType.int) ∈ GW := gwi 943 (by decide +kernel) rfl
theorem wd944 : Cond.methodLink "BakeryNightLaw" (47 : Nat) ({ cls := "BakeryNight", name := "errorOffset", desc := "()I" } : Jvm.MethodName) ∈ GW := gwi 944 (by decide +kernel) rfl
theorem wd945 : Cond.instanceMethod ({ cls := "BakeryNight", name := "errorOffset", desc := "()I" } : Jvm.MethodName) ∈ GW := gwi 945 (by decide +kernel) rfl
theorem wd946 : Cond.selects "BakeryNight" ({ cls := "BakeryNight", name := "errorOffset", desc := "()I" } : Jvm.MethodName) ({ cls := "BakeryNight", name := "errorOffset", desc := "()I" } : Jvm.MethodName) ∈ GW := gwi 946 (by decide +kernel) rfl
theorem wd947 : Cond.code ({ cls := "BakeryNight", name := "errorOffset", desc := "()I" } : Jvm.MethodName) prog_1_method_7_code (1 : Nat) (Option.some Jvm.ClassFile.FieldType.int) ∈ GW := gwi 947 (by decide +kernel) rfl
theorem wd948 : Cond.methodLink "BakeryNightLaw" (51 : Nat) ({ cls := "BakeryNight", name := "orderCount", desc := "()I" } : Jvm.MethodName) ∈ GW := gwi 948 (by decide +kernel) rfl
theorem wd949 : Cond.instanceMethod ({ cls := "BakeryNight", name := "orderCount", desc := "()I" } : Jvm.MethodName) ∈ GW := gwi 949 (by decide +kernel) rfl
theorem wd950 : Cond.selects "BakeryNight" ({ cls := "BakeryNight", name := "orderCount", desc := "()I" } : Jvm.MethodName) ({ cls := "BakeryNight", name := "orderCount", desc := "()I" } : Jvm.MethodName) ∈ GW := gwi 950 (by decide +kernel) rfl
theorem wd951 : Cond.code ({ cls := "BakeryNight", name := "orderCount", desc := "()I" } : Jvm.MethodName) prog_1_method_8_code (1 : Nat) (Option.some Jvm.ClassFile.FieldType.int) ∈ GW := gwi 951 (by decide +kernel) rfl
theorem wd952 : Cond.methodLink "BakeryNightLaw" (55 : Nat) ({ cls := "BakeryNight", name := "orderedLoaves", desc := "(I)I" } : Jvm.MethodName) ∈ GW := gwi 952 (by decide +kernel) rfl
theorem wd953 : Cond.instanceMethod ({ cls := "BakeryNight", name := "orderedLoaves", desc := "(I)I" } : Jvm.MethodName) ∈ GW := gwi 953 (by decide +kernel) rfl
theorem wd954 : Cond.selects "BakeryNight" ({ cls := "BakeryNight", name := "orderedLoaves", desc := "(I)I" } : Jvm.MethodName) ({ cls := "BakeryNight", name := "orderedLoaves", desc := "(I)I" } : Jvm.MethodName) ∈ GW := gwi 954 (by decide +kernel) rfl
theorem wd955 : Cond.code ({ cls := "BakeryNight", name := "orderedLoaves", desc := "(I)I" } : Jvm.MethodName) prog_1_method_9_code (2 : Nat) (Option.some Jvm.ClassFile.FieldType.int) ∈ GW := gwi 955 (by decide +kernel) rfl
theorem wd956 : Cond.methodLink "BakeryNight" (86 : Nat) ({ cls := "BakeryNight$Bakery", name := "hasDough", desc := "(I)Z" } : Jvm.MethodName) ∈ GW := gwi 956 (by decide +kernel) rfl
theorem wd957 : Cond.instanceMethod ({ cls := "BakeryNight$Bakery", name := "hasDough", desc := "(I)Z" } : Jvm.MethodName) ∈ GW := gwi 957 (by decide +kernel) rfl
theorem wd958 : Cond.selects "BakeryNight$Bakery" ({ cls := "BakeryNight$Bakery", name := "hasDough", desc := "(I)Z" } : Jvm.MethodName) ({ cls := "BakeryNight$Bakery", name := "hasDough", desc := "(I)Z" } : Jvm.MethodName) ∈ GW := gwi 958 (by decide +kernel) rfl
theorem wd959 : Cond.code ({ cls := "BakeryNight$Bakery", name := "hasDough", desc := "(I)Z" } : Jvm.MethodName) prog_3_method_3_code (2 : Nat) (Option.some Jvm.ClassFile.FieldType.boolean) ∈ GW := gwi 959 (by decide +kernel) rfl
theorem wd960 : Cond.methodLink "BakeryNight" (90 : Nat) ({ cls := "BakeryNight$Bakery", name := "loavesOf", desc := "(I)I" } : Jvm.MethodName) ∈ GW := gwi 960 (by decide +kernel) rfl
theorem wd961 : Cond.instanceMethod ({ cls := "BakeryNight$Bakery", name := "loavesOf", desc := "(I)I" } : Jvm.MethodName) ∈ GW := gwi 961 (by decide +kernel) rfl
theorem wd962 : Cond.selects "BakeryNight$Bakery" ({ cls := "BakeryNight$Bakery", name := "loavesOf", desc := "(I)I" } : Jvm.MethodName) ({ cls := "BakeryNight$Bakery", name := "loavesOf", desc := "(I)I" } : Jvm.MethodName) ∈ GW := gwi 962 (by decide +kernel) rfl
theorem wd963 : Cond.code ({ cls := "BakeryNight$Bakery", name := "loavesOf", desc := "(I)I" } : Jvm.MethodName) prog_3_method_10_code (4 : Nat) (Option.some Jvm.ClassFile.FieldType.int) ∈ GW := gwi 963 (by decide +kernel) rfl
theorem wd964 : Cond.methodLink "BakeryNight$Bakery" (89 : Nat) ({ cls := "BakeryNight$Bakery", name := "hasOrder", desc := "(I)Z" } : Jvm.MethodName) ∈ GW := gwi 964 (by decide +kernel) rfl
theorem wd965 : Cond.instanceMethod ({ cls := "BakeryNight$Bakery", name := "hasOrder", desc := "(I)Z" } : Jvm.MethodName) ∈ GW := gwi 965 (by decide +kernel) rfl
theorem wd966 : Cond.selects "BakeryNight$Bakery" ({ cls := "BakeryNight$Bakery", name := "hasOrder", desc := "(I)Z" } : Jvm.MethodName) ({ cls := "BakeryNight$Bakery", name := "hasOrder", desc := "(I)Z" } : Jvm.MethodName) ∈ GW := gwi 966 (by decide +kernel) rfl
theorem wd967 : Cond.code ({ cls := "BakeryNight$Bakery", name := "hasOrder", desc := "(I)Z" } : Jvm.MethodName) prog_3_method_7_code (2 : Nat) (Option.some Jvm.ClassFile.FieldType.boolean) ∈ GW := gwi 967 (by decide +kernel) rfl
theorem wd968 : Cond.methodLink "BakeryNightLaw" (59 : Nat) ({ cls := "BakeryNight", name := "batchCount", desc := "()I" } : Jvm.MethodName) ∈ GW := gwi 968 (by decide +kernel) rfl
theorem wd969 : Cond.instanceMethod ({ cls := "BakeryNight", name := "batchCount", desc := "()I" } : Jvm.MethodName) ∈ GW := gwi 969 (by decide +kernel) rfl
theorem wd970 : Cond.selects "BakeryNight" ({ cls := "BakeryNight", name := "batchCount", desc := "()I" } : Jvm.MethodName) ({ cls := "BakeryNight", name := "batchCount", desc := "()I" } : Jvm.MethodName) ∈ GW := gwi 970 (by decide +kernel) rfl
theorem wd971 : Cond.code ({ cls := "BakeryNight", name := "batchCount", desc := "()I" } : Jvm.MethodName) prog_1_method_10_code (2 : Nat) (Option.some Jvm.ClassFile.FieldType.int) ∈ GW := gwi 971 (by decide +kernel) rfl
theorem wd972 : Cond.methodLink "BakeryNight" (94 : Nat) ({ cls := "BakeryNight$Bakery", name := "batchesNeeded", desc := "()I" } : Jvm.MethodName) ∈ GW := gwi 972 (by decide +kernel) rfl
theorem wd973 : Cond.instanceMethod ({ cls := "BakeryNight$Bakery", name := "batchesNeeded", desc := "()I" } : Jvm.MethodName) ∈ GW := gwi 973 (by decide +kernel) rfl
theorem wd974 : Cond.selects "BakeryNight$Bakery" ({ cls := "BakeryNight$Bakery", name := "batchesNeeded", desc := "()I" } : Jvm.MethodName) ({ cls := "BakeryNight$Bakery", name := "batchesNeeded", desc := "()I" } : Jvm.MethodName) ∈ GW := gwi 974 (by decide +kernel) rfl
theorem wd975 : Cond.code ({ cls := "BakeryNight$Bakery", name := "batchesNeeded", desc := "()I" } : Jvm.MethodName) prog_3_method_12_code (3 : Nat) (Option.some Jvm.ClassFile.FieldType.int) ∈ GW := gwi 975 (by decide +kernel) rfl
theorem wd976 : Cond.methodLink "BakeryNight$Bakery" (104 : Nat) ({ cls := "BakeryNight$Bakery", name := "batchesOf", desc := "(I)I" } : Jvm.MethodName) ∈ GW := gwi 976 (by decide +kernel) rfl
theorem wd977 : Cond.instanceMethod ({ cls := "BakeryNight$Bakery", name := "batchesOf", desc := "(I)I" } : Jvm.MethodName) ∈ GW := gwi 977 (by decide +kernel) rfl
theorem wd978 : Cond.selects "BakeryNight$Bakery" ({ cls := "BakeryNight$Bakery", name := "batchesOf", desc := "(I)I" } : Jvm.MethodName) ({ cls := "BakeryNight$Bakery", name := "batchesOf", desc := "(I)I" } : Jvm.MethodName) ∈ GW := gwi 978 (by decide +kernel) rfl
theorem wd979 : Cond.code ({ cls := "BakeryNight$Bakery", name := "batchesOf", desc := "(I)I" } : Jvm.MethodName) prog_3_method_11_code (2 : Nat) (Option.some Jvm.ClassFile.FieldType.int) ∈ GW := gwi 979 (by decide +kernel) rfl
theorem wd980 : Cond.methodLink "BakeryNight$Bakery" (99 : Nat) ({ cls := "BakeryNight$Bakery", name := "loavesOf", desc := "(I)I" } : Jvm.MethodName) ∈ GW := gwi 980 (by decide +kernel) rfl
theorem wd982 : Cond.static ({ cls := "BakeryNight", name := "dividedUp", desc := "(II)I" } : Jvm.MethodName) ∈ GW := gwi 982 (by decide +kernel) rfl
theorem wd983 : Cond.code ({ cls := "BakeryNight", name := "dividedUp", desc := "(II)I" } : Jvm.MethodName) prog_1_method_49_code (2 : Nat) (Option.some Jvm.ClassFile.FieldType.int) ∈ GW := gwi 983 (by decide +kernel) rfl
theorem wd984 : Cond.methodLink "BakeryNightLaw" (63 : Nat) ({ cls := "BakeryNight", name := "risingMinutes", desc := "(IZ)I" } : Jvm.MethodName) ∈ GW := gwi 984 (by decide +kernel) rfl
theorem wd985 : Cond.instanceMethod ({ cls := "BakeryNight", name := "risingMinutes", desc := "(IZ)I" } : Jvm.MethodName) ∈ GW := gwi 985 (by decide +kernel) rfl
theorem wd986 : Cond.selects "BakeryNight" ({ cls := "BakeryNight", name := "risingMinutes", desc := "(IZ)I" } : Jvm.MethodName) ({ cls := "BakeryNight", name := "risingMinutes", desc := "(IZ)I" } : Jvm.MethodName) ∈ GW := gwi 986 (by decide +kernel) rfl
theorem wd987 : Cond.code ({ cls := "BakeryNight", name := "risingMinutes", desc := "(IZ)I" } : Jvm.MethodName) prog_1_method_11_code (3 : Nat) (Option.some Jvm.ClassFile.FieldType.int) ∈ GW := gwi 987 (by decide +kernel) rfl
theorem wd988 : Cond.methodLink "BakeryNight" (110 : Nat) ({ cls := "BakeryNight$Bakery", name := "inThisRoom", desc := "(I)I" } : Jvm.MethodName) ∈ GW := gwi 988 (by decide +kernel) rfl
theorem wd989 : Cond.instanceMethod ({ cls := "BakeryNight$Bakery", name := "inThisRoom", desc := "(I)I" } : Jvm.MethodName) ∈ GW := gwi 989 (by decide +kernel) rfl
theorem wd990 : Cond.selects "BakeryNight$Bakery" ({ cls := "BakeryNight$Bakery", name := "inThisRoom", desc := "(I)I" } : Jvm.MethodName) ({ cls := "BakeryNight$Bakery", name := "inThisRoom", desc := "(I)I" } : Jvm.MethodName) ∈ GW := gwi 990 (by decide +kernel) rfl
theorem wd991 : Cond.code ({ cls := "BakeryNight$Bakery", name := "inThisRoom", desc := "(I)I" } : Jvm.MethodName) prog_3_method_9_code (2 : Nat) (Option.some Jvm.ClassFile.FieldType.int) ∈ GW := gwi 991 (by decide +kernel) rfl
theorem wd992 : Cond.methodLink "BakeryNightLaw" (68 : Nat) ({ cls := "BakeryNight", name := "distance", desc := "(II)I" } : Jvm.MethodName) ∈ GW := gwi 992 (by decide +kernel) rfl
theorem wd993 : Cond.instanceMethod ({ cls := "BakeryNight", name := "distance", desc := "(II)I" } : Jvm.MethodName) ∈ GW := gwi 993 (by decide +kernel) rfl
theorem wd994 : Cond.selects "BakeryNight" ({ cls := "BakeryNight", name := "distance", desc := "(II)I" } : Jvm.MethodName) ({ cls := "BakeryNight", name := "distance", desc := "(II)I" } : Jvm.MethodName) ∈ GW := gwi 994 (by decide +kernel) rfl
theorem wd995 : Cond.code ({ cls := "BakeryNight", name := "distance", desc := "(II)I" } : Jvm.MethodName) prog_1_method_12_code (6 : Nat) (Option.some Jvm.ClassFile.FieldType.int) ∈ GW := gwi 995 (by decide +kernel) rfl
theorem wd996 : Cond.methodLink "BakeryNight" (113 : Nat) ({ cls := "BakeryNight", name := "placeOf", desc := "(I)I" } : Jvm.MethodName) ∈ GW := gwi 996 (by decide +kernel) rfl
theorem wd998 : Cond.instanceMethod ({ cls := "BakeryNight", name := "placeOf", desc := "(I)I" } : Jvm.MethodName) ∈ GW := gwi 998 (by decide +kernel) rfl
theorem wd999 : Cond.code ({ cls := "BakeryNight", name := "placeOf", desc := "(I)I" } : Jvm.MethodName) prog_1_method_13_code (2 : Nat) (Option.some Jvm.ClassFile.FieldType.int) ∈ GW := gwi 999 (by decide +kernel) rfl
theorem wd1000 : Cond.methodLink "BakeryNight" (127 : Nat) ({ cls := "BakeryNight$Bakery", name := "hasShop", desc := "(I)Z" } : Jvm.MethodName) ∈ GW := gwi 1000 (by decide +kernel) rfl
theorem wd1001 : Cond.instanceMethod ({ cls := "BakeryNight$Bakery", name := "hasShop", desc := "(I)Z" } : Jvm.MethodName) ∈ GW := gwi 1001 (by decide +kernel) rfl
theorem wd1002 : Cond.selects "BakeryNight$Bakery" ({ cls := "BakeryNight$Bakery", name := "hasShop", desc := "(I)Z" } : Jvm.MethodName) ({ cls := "BakeryNight$Bakery", name := "hasShop", desc := "(I)Z" } : Jvm.MethodName) ∈ GW := gwi 1002 (by decide +kernel) rfl
theorem wd1003 : Cond.code ({ cls := "BakeryNight$Bakery", name := "hasShop", desc := "(I)Z" } : Jvm.MethodName) prog_3_method_5_code (2 : Nat) (Option.some Jvm.ClassFile.FieldType.boolean) ∈ GW := gwi 1003 (by decide +kernel) rfl
theorem wd1004 : Cond.methodLink "BakeryNight" (120 : Nat) ({ cls := "BakeryNight$Roads", name := "between", desc := "(II)I" } : Jvm.MethodName) ∈ GW := gwi 1004 (by decide +kernel) rfl
theorem wd1005 : Cond.instanceMethod ({ cls := "BakeryNight$Roads", name := "between", desc := "(II)I" } : Jvm.MethodName) ∈ GW := gwi 1005 (by decide +kernel) rfl
theorem wd1006 : Cond.selects "BakeryNight$Roads" ({ cls := "BakeryNight$Roads", name := "between", desc := "(II)I" } : Jvm.MethodName) ({ cls := "BakeryNight$Roads", name := "between", desc := "(II)I" } : Jvm.MethodName) ∈ GW := gwi 1006 (by decide +kernel) rfl
theorem wd1007 : Cond.code ({ cls := "BakeryNight$Roads", name := "between", desc := "(II)I" } : Jvm.MethodName) prog_11_method_2_code (3 : Nat) (Option.some Jvm.ClassFile.FieldType.int) ∈ GW := gwi 1007 (by decide +kernel) rfl
theorem wd1008 : Cond.constant "BakeryNight" (126 : Nat) (1000000 : Int32) ∈ GW := gwi 1008 (by decide +kernel) rfl
theorem wd1009 : Cond.methodLink "BakeryNightLaw" (72 : Nat) ({ cls := "BakeryNight", name := "routeMinutes", desc := "(I)I" } : Jvm.MethodName) ∈ GW := gwi 1009 (by decide +kernel) rfl
theorem wd1010 : Cond.instanceMethod ({ cls := "BakeryNight", name := "routeMinutes", desc := "(I)I" } : Jvm.MethodName) ∈ GW := gwi 1010 (by decide +kernel) rfl
theorem wd1011 : Cond.selects "BakeryNight" ({ cls := "BakeryNight", name := "routeMinutes", desc := "(I)I" } : Jvm.MethodName) ({ cls := "BakeryNight", name := "routeMinutes", desc := "(I)I" } : Jvm.MethodName) ∈ GW := gwi 1011 (by decide +kernel) rfl
theorem wd1012 : Cond.code ({ cls := "BakeryNight", name := "routeMinutes", desc := "(I)I" } : Jvm.MethodName) prog_1_method_14_code (3 : Nat) (Option.some Jvm.ClassFile.FieldType.int) ∈ GW := gwi 1012 (by decide +kernel) rfl
theorem wd1013 : Cond.methodLink "BakeryNight" (130 : Nat) ({ cls := "BakeryNight$Bakery", name := "allShops", desc := "()I" } : Jvm.MethodName) ∈ GW := gwi 1013 (by decide +kernel) rfl
theorem wd1014 : Cond.instanceMethod ({ cls := "BakeryNight$Bakery", name := "allShops", desc := "()I" } : Jvm.MethodName) ∈ GW := gwi 1014 (by decide +kernel) rfl
theorem wd1015 : Cond.selects "BakeryNight$Bakery" ({ cls := "BakeryNight$Bakery", name := "allShops", desc := "()I" } : Jvm.MethodName) ({ cls := "BakeryNight$Bakery", name := "allShops", desc := "()I" } : Jvm.MethodName) ∈ GW := gwi 1015 (by decide +kernel) rfl
theorem wd1016 : Cond.code ({ cls := "BakeryNight$Bakery", name := "allShops", desc := "()I" } : Jvm.MethodName) prog_3_method_8_code (1 : Nat) (Option.some Jvm.ClassFile.FieldType.int) ∈ GW := gwi 1016 (by decide +kernel) rfl
theorem wd1017 : Cond.methodLink "BakeryNight" (133 : Nat) ({ cls := "BakeryNight$Roads", name := "restOfRoute", desc := "(II)I" } : Jvm.MethodName) ∈ GW := gwi 1017 (by decide +kernel) rfl
theorem wd1018 : Cond.instanceMethod ({ cls := "BakeryNight$Roads", name := "restOfRoute", desc := "(II)I" } : Jvm.MethodName) ∈ GW := gwi 1018 (by decide +kernel) rfl
theorem wd1019 : Cond.selects "BakeryNight$Roads" ({ cls := "BakeryNight$Roads", name := "restOfRoute", desc := "(II)I" } : Jvm.MethodName) ({ cls := "BakeryNight$Roads", name := "restOfRoute", desc := "(II)I" } : Jvm.MethodName) ∈ GW := gwi 1019 (by decide +kernel) rfl
theorem wd1020 : Cond.code ({ cls := "BakeryNight$Roads", name := "restOfRoute", desc := "(II)I" } : Jvm.MethodName) prog_11_method_3_code (3 : Nat) (Option.some Jvm.ClassFile.FieldType.int) ∈ GW := gwi 1020 (by decide +kernel) rfl
theorem wd1021 : Cond.methodLink "BakeryNightLaw" (76 : Nat) ({ cls := "BakeryNight", name := "routeStop", desc := "(II)I" } : Jvm.MethodName) ∈ GW := gwi 1021 (by decide +kernel) rfl
theorem wd1022 : Cond.instanceMethod ({ cls := "BakeryNight", name := "routeStop", desc := "(II)I" } : Jvm.MethodName) ∈ GW := gwi 1022 (by decide +kernel) rfl
theorem wd1023 : Cond.selects "BakeryNight" ({ cls := "BakeryNight", name := "routeStop", desc := "(II)I" } : Jvm.MethodName) ({ cls := "BakeryNight", name := "routeStop", desc := "(II)I" } : Jvm.MethodName) ∈ GW := gwi 1023 (by decide +kernel) rfl
theorem wd1024 : Cond.code ({ cls := "BakeryNight", name := "routeStop", desc := "(II)I" } : Jvm.MethodName) prog_1_method_15_code (6 : Nat) (Option.some Jvm.ClassFile.FieldType.int) ∈ GW := gwi 1024 (by decide +kernel) rfl
theorem wd1025 : Cond.methodLink "BakeryNight" (136 : Nat) ({ cls := "BakeryNight", name := "routeMinutes", desc := "(I)I" } : Jvm.MethodName) ∈ GW := gwi 1025 (by decide +kernel) rfl
theorem wd1026 : Cond.methodLink "BakeryNight" (139 : Nat) ({ cls := "java/lang/Integer", name := "bitCount", desc := "(I)I" } : Jvm.MethodName) ∈ GW := gwi 1026 (by decide +kernel) rfl
theorem wd1027 : Cond.static ({ cls := "java/lang/Integer", name := "bitCount", desc := "(I)I" } : Jvm.MethodName) ∈ GW := gwi 1027 (by decide +kernel) rfl
theorem wd1028 : Cond.code ({ cls := "java/lang/Integer", name := "bitCount", desc := "(I)I" } : Jvm.MethodName) prog_20_method_49_code (1 : Nat) (Option.some Jvm.ClassFile.FieldType.int) ∈ GW := gwi 1028 (by decide +kernel) rfl
theorem wd1029 : Cond.constant "java/lang/Integer" (265 : Nat) (1431655765 : Int32) ∈ GW := gwi 1029 (by decide +kernel) rfl
theorem wd1030 : Cond.constant "java/lang/Integer" (266 : Nat) (858993459 : Int32) ∈ GW := gwi 1030 (by decide +kernel) rfl
theorem wd1031 : Cond.constant "java/lang/Integer" (267 : Nat) (252645135 : Int32) ∈ GW := gwi 1031 (by decide +kernel) rfl
theorem wd1032 : Cond.methodLink "BakeryNight" (144 : Nat) ({ cls := "BakeryNight$Roads", name := "nextStop", desc := "(II)I" } : Jvm.MethodName) ∈ GW := gwi 1032 (by decide +kernel) rfl
theorem wd1033 : Cond.instanceMethod ({ cls := "BakeryNight$Roads", name := "nextStop", desc := "(II)I" } : Jvm.MethodName) ∈ GW := gwi 1033 (by decide +kernel) rfl
theorem wd1034 : Cond.selects "BakeryNight$Roads" ({ cls := "BakeryNight$Roads", name := "nextStop", desc := "(II)I" } : Jvm.MethodName) ({ cls := "BakeryNight$Roads", name := "nextStop", desc := "(II)I" } : Jvm.MethodName) ∈ GW := gwi 1034 (by decide +kernel) rfl
theorem wd1035 : Cond.code ({ cls := "BakeryNight$Roads", name := "nextStop", desc := "(II)I" } : Jvm.MethodName) prog_11_method_8_code (4 : Nat) (Option.some Jvm.ClassFile.FieldType.int) ∈ GW := gwi 1035 (by decide +kernel) rfl
theorem wd1036 : Cond.methodLink "BakeryNight$Roads" (62 : Nat) ({ cls := "BakeryNight$Roads", name := "restOfRoute", desc := "(II)I" } : Jvm.MethodName) ∈ GW := gwi 1036 (by decide +kernel) rfl
theorem wd1037 : Cond.methodLink "BakeryNightLaw" (80 : Nat) ({ cls := "BakeryNight", name := "simulate", desc := "(I)I" } : Jvm.MethodName) ∈ GW := gwi 1037 (by decide +kernel) rfl
theorem wd1038 : Cond.instanceMethod ({ cls := "BakeryNight", name := "simulate", desc := "(I)I" } : Jvm.MethodName) ∈ GW := gwi 1038 (by decide +kernel) rfl
theorem wd1039 : Cond.selects "BakeryNight" ({ cls := "BakeryNight", name := "simulate", desc := "(I)I" } : Jvm.MethodName) ({ cls := "BakeryNight", name := "simulate", desc := "(I)I" } : Jvm.MethodName) ∈ GW := gwi 1039 (by decide +kernel) rfl
theorem wd1040 : Cond.code ({ cls := "BakeryNight", name := "simulate", desc := "(I)I" } : Jvm.MethodName) prog_1_method_16_code (2 : Nat) (Option.some Jvm.ClassFile.FieldType.int) ∈ GW := gwi 1040 (by decide +kernel) rfl
theorem wd1041 : Cond.methodLink "BakeryNight" (147 : Nat) ({ cls := "BakeryNight", name := "batchCount", desc := "()I" } : Jvm.MethodName) ∈ GW := gwi 1041 (by decide +kernel) rfl
theorem wd1042 : Cond.methodLink "BakeryNight" (150 : Nat) ({ cls := "BakeryNight$Night", name := "run", desc := "(LBakeryNight$Bakery;I)V" } : Jvm.MethodName) ∈ GW := gwi 1042 (by decide +kernel) rfl
theorem wd1043 : Cond.instanceMethod ({ cls := "BakeryNight$Night", name := "run", desc := "(LBakeryNight$Bakery;I)V" } : Jvm.MethodName) ∈ GW := gwi 1043 (by decide +kernel) rfl
theorem wd1044 : Cond.selects "BakeryNight$Night" ({ cls := "BakeryNight$Night", name := "run", desc := "(LBakeryNight$Bakery;I)V" } : Jvm.MethodName) ({ cls := "BakeryNight$Night", name := "run", desc := "(LBakeryNight$Bakery;I)V" } : Jvm.MethodName) ∈ GW := gwi 1044 (by decide +kernel) rfl
theorem wd1045 : Cond.code ({ cls := "BakeryNight$Night", name := "run", desc := "(LBakeryNight$Bakery;I)V" } : Jvm.MethodName) prog_6_method_2_code (5 : Nat) (Option.none : Option Jvm.ClassFile.FieldType) ∈ GW := gwi 1045 (by decide +kernel) rfl
theorem wd1046 : Cond.methodLink "BakeryNight$Night" (58 : Nat) ({ cls := "BakeryNight$Night", name := "begin", desc := "(LBakeryNight$Bakery;I)V" } : Jvm.MethodName) ∈ GW := gwi 1046 (by decide +kernel) rfl
theorem wd1048 : Cond.instanceMethod ({ cls := "BakeryNight$Night", name := "begin", desc := "(LBakeryNight$Bakery;I)V" } : Jvm.MethodName) ∈ GW := gwi 1048 (by decide +kernel) rfl
theorem wd1049 : Cond.code ({ cls := "BakeryNight$Night", name := "begin", desc := "(LBakeryNight$Bakery;I)V" } : Jvm.MethodName) prog_6_method_3_code (7 : Nat) (Option.none : Option Jvm.ClassFile.FieldType) ∈ GW := gwi 1049 (by decide +kernel) rfl
theorem wd1050 : Cond.methodLink "BakeryNight$Night" (111 : Nat) ({ cls := "java/util/Arrays", name := "fill", desc := "([II)V" } : Jvm.MethodName) ∈ GW := gwi 1050 (by decide +kernel) rfl
theorem wd1051 : Cond.methodLink "BakeryNight$Night" (128 : Nat) ({ cls := "BakeryNight$Night", name := "numberBatches", desc := "(LBakeryNight$Bakery;)V" } : Jvm.MethodName) ∈ GW := gwi 1051 (by decide +kernel) rfl
theorem wd1053 : Cond.instanceMethod ({ cls := "BakeryNight$Night", name := "numberBatches", desc := "(LBakeryNight$Bakery;)V" } : Jvm.MethodName) ∈ GW := gwi 1053 (by decide +kernel) rfl
theorem wd1054 : Cond.code ({ cls := "BakeryNight$Night", name := "numberBatches", desc := "(LBakeryNight$Bakery;)V" } : Jvm.MethodName) prog_6_method_4_code (6 : Nat) (Option.none : Option Jvm.ClassFile.FieldType) ∈ GW := gwi 1054 (by decide +kernel) rfl
theorem wd1055 : Cond.methodLink "BakeryNight$Night" (134 : Nat) ({ cls := "BakeryNight$Bakery", name := "dueOf", desc := "(I)I" } : Jvm.MethodName) ∈ GW := gwi 1055 (by decide +kernel) rfl
theorem wd1056 : Cond.instanceMethod ({ cls := "BakeryNight$Bakery", name := "dueOf", desc := "(I)I" } : Jvm.MethodName) ∈ GW := gwi 1056 (by decide +kernel) rfl
theorem wd1057 : Cond.selects "BakeryNight$Bakery" ({ cls := "BakeryNight$Bakery", name := "dueOf", desc := "(I)I" } : Jvm.MethodName) ({ cls := "BakeryNight$Bakery", name := "dueOf", desc := "(I)I" } : Jvm.MethodName) ∈ GW := gwi 1057 (by decide +kernel) rfl
theorem wd1058 : Cond.code ({ cls := "BakeryNight$Bakery", name := "dueOf", desc := "(I)I" } : Jvm.MethodName) prog_3_method_13_code (4 : Nat) (Option.some Jvm.ClassFile.FieldType.int) ∈ GW := gwi 1058 (by decide +kernel) rfl
theorem wd1059 : Cond.methodLink "BakeryNight$Bakery" (110 : Nat) ({ cls := "java/lang/Math", name := "min", desc := "(II)I" } : Jvm.MethodName) ∈ GW := gwi 1059 (by decide +kernel) rfl
theorem wd1060 : Cond.methodLink "BakeryNight$Night" (138 : Nat) ({ cls := "BakeryNight$Bakery", name := "batchesOf", desc := "(I)I" } : Jvm.MethodName) ∈ GW := gwi 1060 (by decide +kernel) rfl
theorem wd1061 : Cond.methodLink "BakeryNight$Night" (141 : Nat) ({ cls := "java/lang/Math", name := "min", desc := "(II)I" } : Jvm.MethodName) ∈ GW := gwi 1061 (by decide +kernel) rfl
theorem wd1062 : Cond.constant "BakeryNight$Night" (62 : Nat) (1000000 : Int32) ∈ GW := gwi 1062 (by decide +kernel) rfl
theorem wd1063 : Cond.methodLink "BakeryNight$Night" (63 : Nat) ({ cls := "BakeryNight$Night", name := "noteWhatEnded", desc := "(LBakeryNight$Bakery;I)V" } : Jvm.MethodName) ∈ GW := gwi 1063 (by decide +kernel) rfl
theorem wd1065 : Cond.instanceMethod ({ cls := "BakeryNight$Night", name := "noteWhatEnded", desc := "(LBakeryNight$Bakery;I)V" } : Jvm.MethodName) ∈ GW := gwi 1065 (by decide +kernel) rfl
theorem wd1066 : Cond.code ({ cls := "BakeryNight$Night", name := "noteWhatEnded", desc := "(LBakeryNight$Bakery;I)V" } : Jvm.MethodName) prog_6_method_5_code (4 : Nat) (Option.none : Option Jvm.ClassFile.FieldType) ∈ GW := gwi 1066 (by decide +kernel) rfl
theorem wd1067 : Cond.methodLink "BakeryNight$Night" (144 : Nat) ({ cls := "BakeryNight$Night", name := "shelvesTaken", desc := "(II)I" } : Jvm.MethodName) ∈ GW := gwi 1067 (by decide +kernel) rfl
theorem wd1068 : Cond.instanceMethod ({ cls := "BakeryNight$Night", name := "shelvesTaken", desc := "(II)I" } : Jvm.MethodName) ∈ GW := gwi 1068 (by decide +kernel) rfl
theorem wd1069 : Cond.selects "BakeryNight$Night" ({ cls := "BakeryNight$Night", name := "shelvesTaken", desc := "(II)I" } : Jvm.MethodName) ({ cls := "BakeryNight$Night", name := "shelvesTaken", desc := "(II)I" } : Jvm.MethodName) ∈ GW := gwi 1069 (by decide +kernel) rfl
theorem wd1070 : Cond.code ({ cls := "BakeryNight$Night", name := "shelvesTaken", desc := "(II)I" } : Jvm.MethodName) prog_6_method_25_code (5 : Nat) (Option.some Jvm.ClassFile.FieldType.int) ∈ GW := gwi 1070 (by decide +kernel) rfl
theorem wd1071 : Cond.methodLink "BakeryNight$Night" (261 : Nat) ({ cls := "BakeryNight$Night", name := "isIn", desc := "(III)Z" } : Jvm.MethodName) ∈ GW := gwi 1071 (by decide +kernel) rfl
theorem wd1073 : Cond.instanceMethod ({ cls := "BakeryNight$Night", name := "isIn", desc := "(III)Z" } : Jvm.MethodName) ∈ GW := gwi 1073 (by decide +kernel) rfl
theorem wd1074 : Cond.code ({ cls := "BakeryNight$Night", name := "isIn", desc := "(III)Z" } : Jvm.MethodName) prog_6_method_24_code (5 : Nat) (Option.some Jvm.ClassFile.FieldType.boolean) ∈ GW := gwi 1074 (by decide +kernel) rfl
theorem wd1075 : Cond.methodLink "BakeryNight$Night" (66 : Nat) ({ cls := "BakeryNight$Night", name := "spoilWaiting", desc := "(LBakeryNight$Bakery;I)V" } : Jvm.MethodName) ∈ GW := gwi 1075 (by decide +kernel) rfl
theorem wd1077 : Cond.instanceMethod ({ cls := "BakeryNight$Night", name := "spoilWaiting", desc := "(LBakeryNight$Bakery;I)V" } : Jvm.MethodName) ∈ GW := gwi 1077 (by decide +kernel) rfl
theorem wd1078 : Cond.code ({ cls := "BakeryNight$Night", name := "spoilWaiting", desc := "(LBakeryNight$Bakery;I)V" } : Jvm.MethodName) prog_6_method_6_code (6 : Nat) (Option.none : Option Jvm.ClassFile.FieldType) ∈ GW := gwi 1078 (by decide +kernel) rfl
theorem wd1079 : Cond.methodLink "BakeryNight$Night" (69 : Nat) ({ cls := "BakeryNight$Night", name := "bakeWaiting", desc := "(LBakeryNight$Bakery;I)V" } : Jvm.MethodName) ∈ GW := gwi 1079 (by decide +kernel) rfl
theorem wd1081 : Cond.instanceMethod ({ cls := "BakeryNight$Night", name := "bakeWaiting", desc := "(LBakeryNight$Bakery;I)V" } : Jvm.MethodName) ∈ GW := gwi 1081 (by decide +kernel) rfl
theorem wd1082 : Cond.code ({ cls := "BakeryNight$Night", name := "bakeWaiting", desc := "(LBakeryNight$Bakery;I)V" } : Jvm.MethodName) prog_6_method_7_code (8 : Nat) (Option.none : Option Jvm.ClassFile.FieldType) ∈ GW := gwi 1082 (by decide +kernel) rfl
theorem wd1083 : Cond.methodLink "BakeryNight$Night" (157 : Nat) ({ cls := "BakeryNight$Night", name := "freeOven", desc := "(LBakeryNight$Bakery;II)I" } : Jvm.MethodName) ∈ GW := gwi 1083 (by decide +kernel) rfl
theorem wd1085 : Cond.instanceMethod ({ cls := "BakeryNight$Night", name := "freeOven", desc := "(LBakeryNight$Bakery;II)I" } : Jvm.MethodName) ∈ GW := gwi 1085 (by decide +kernel) rfl
theorem wd1086 : Cond.code ({ cls := "BakeryNight$Night", name := "freeOven", desc := "(LBakeryNight$Bakery;II)I" } : Jvm.MethodName) prog_6_method_8_code (6 : Nat) (Option.some Jvm.ClassFile.FieldType.int) ∈ GW := gwi 1086 (by decide +kernel) rfl
theorem wd1087 : Cond.methodLink "BakeryNight$Night" (164 : Nat) ({ cls := "BakeryNight$Night", name := "changeAnOven", desc := "(LBakeryNight$Bakery;II)V" } : Jvm.MethodName) ∈ GW := gwi 1087 (by decide +kernel) rfl
theorem wd1089 : Cond.instanceMethod ({ cls := "BakeryNight$Night", name := "changeAnOven", desc := "(LBakeryNight$Bakery;II)V" } : Jvm.MethodName) ∈ GW := gwi 1089 (by decide +kernel) rfl
theorem wd1090 : Cond.code ({ cls := "BakeryNight$Night", name := "changeAnOven", desc := "(LBakeryNight$Bakery;II)V" } : Jvm.MethodName) prog_6_method_9_code (8 : Nat) (Option.none : Option Jvm.ClassFile.FieldType) ∈ GW := gwi 1090 (by decide +kernel) rfl
theorem wd1091 : Cond.methodLink "BakeryNight$Night" (175 : Nat) ({ cls := "java/lang/Math", name := "abs", desc := "(I)I" } : Jvm.MethodName) ∈ GW := gwi 1091 (by decide +kernel) rfl
theorem wd1092 : Cond.static ({ cls := "java/lang/Math", name := "abs", desc := "(I)I" } : Jvm.MethodName) ∈ GW := gwi 1092 (by decide +kernel) rfl
theorem wd1093 : Cond.code ({ cls := "java/lang/Math", name := "abs", desc := "(I)I" } : Jvm.MethodName) prog_21_method_59_code (1 : Nat) (Option.some Jvm.ClassFile.FieldType.int) ∈ GW := gwi 1093 (by decide +kernel) rfl
theorem wd1095 : Cond.methodLink "BakeryNight$Night" (72 : Nat) ({ cls := "BakeryNight$Night", name := "shapeWaiting", desc := "(LBakeryNight$Bakery;I)V" } : Jvm.MethodName) ∈ GW := gwi 1095 (by decide +kernel) rfl
theorem wd1097 : Cond.instanceMethod ({ cls := "BakeryNight$Night", name := "shapeWaiting", desc := "(LBakeryNight$Bakery;I)V" } : Jvm.MethodName) ∈ GW := gwi 1097 (by decide +kernel) rfl
theorem wd1098 : Cond.code ({ cls := "BakeryNight$Night", name := "shapeWaiting", desc := "(LBakeryNight$Bakery;I)V" } : Jvm.MethodName) prog_6_method_10_code (7 : Nat) (Option.none : Option Jvm.ClassFile.FieldType) ∈ GW := gwi 1098 (by decide +kernel) rfl
theorem wd1099 : Cond.methodLink "BakeryNight$Night" (187 : Nat) ({ cls := "BakeryNight$Night", name := "inUse", desc := "(II)I" } : Jvm.MethodName) ∈ GW := gwi 1099 (by decide +kernel) rfl
theorem wd1100 : Cond.instanceMethod ({ cls := "BakeryNight$Night", name := "inUse", desc := "(II)I" } : Jvm.MethodName) ∈ GW := gwi 1100 (by decide +kernel) rfl
theorem wd1101 : Cond.selects "BakeryNight$Night" ({ cls := "BakeryNight$Night", name := "inUse", desc := "(II)I" } : Jvm.MethodName) ({ cls := "BakeryNight$Night", name := "inUse", desc := "(II)I" } : Jvm.MethodName) ∈ GW := gwi 1101 (by decide +kernel) rfl
theorem wd1102 : Cond.code ({ cls := "BakeryNight$Night", name := "inUse", desc := "(II)I" } : Jvm.MethodName) prog_6_method_26_code (5 : Nat) (Option.some Jvm.ClassFile.FieldType.int) ∈ GW := gwi 1102 (by decide +kernel) rfl
theorem wd1103 : Cond.methodLink "BakeryNight$Night" (89 : Nat) ({ cls := "java/lang/Math", name := "max", desc := "(II)I" } : Jvm.MethodName) ∈ GW := gwi 1103 (by decide +kernel) rfl
theorem wd1104 : Cond.static ({ cls := "java/lang/Math", name := "max", desc := "(II)I" } : Jvm.MethodName) ∈ GW := gwi 1104 (by decide +kernel) rfl
theorem wd1105 : Cond.code ({ cls := "java/lang/Math", name := "max", desc := "(II)I" } : Jvm.MethodName) prog_21_method_65_code (2 : Nat) (Option.some Jvm.ClassFile.FieldType.int) ∈ GW := gwi 1105 (by decide +kernel) rfl
theorem wd1106 : Cond.methodLink "BakeryNight$Night" (196 : Nat) ({ cls := "BakeryNight$Bakery", name := "inThisRoom", desc := "(I)I" } : Jvm.MethodName) ∈ GW := gwi 1106 (by decide +kernel) rfl
theorem wd1107 : Cond.methodLink "BakeryNight$Night" (199 : Nat) ({ cls := "java/lang/System", name := "arraycopy", desc := "(Ljava/lang/Object;ILjava/lang/Object;II)V" } : Jvm.MethodName) ∈ GW := gwi 1107 (by decide +kernel) rfl
theorem wd1108 : Cond.static ({ cls := "java/lang/System", name := "arraycopy", desc := "(Ljava/lang/Object;ILjava/lang/Object;II)V" } : Jvm.MethodName) ∈ GW := gwi 1108 (by decide +kernel) rfl
theorem wd1110 : Cond.methodLink "BakeryNight$Night" (75 : Nat) ({ cls := "BakeryNight$Night", name := "mixNext", desc := "(LBakeryNight$Bakery;I)V" } : Jvm.MethodName) ∈ GW := gwi 1110 (by decide +kernel) rfl
theorem wd1112 : Cond.instanceMethod ({ cls := "BakeryNight$Night", name := "mixNext", desc := "(LBakeryNight$Bakery;I)V" } : Jvm.MethodName) ∈ GW := gwi 1112 (by decide +kernel) rfl
theorem wd1113 : Cond.code ({ cls := "BakeryNight$Night", name := "mixNext", desc := "(LBakeryNight$Bakery;I)V" } : Jvm.MethodName) prog_6_method_11_code (5 : Nat) (Option.none : Option Jvm.ClassFile.FieldType) ∈ GW := gwi 1113 (by decide +kernel) rfl
theorem wd1114 : Cond.methodLink "BakeryNight$Night" (78 : Nat) ({ cls := "BakeryNight$Night", name := "nextMinute", desc := "(LBakeryNight$Bakery;I)I" } : Jvm.MethodName) ∈ GW := gwi 1114 (by decide +kernel) rfl
theorem wd1116 : Cond.instanceMethod ({ cls := "BakeryNight$Night", name := "nextMinute", desc := "(LBakeryNight$Bakery;I)I" } : Jvm.MethodName) ∈ GW := gwi 1116 (by decide +kernel) rfl
theorem wd1117 : Cond.code ({ cls := "BakeryNight$Night", name := "nextMinute", desc := "(LBakeryNight$Bakery;I)I" } : Jvm.MethodName) prog_6_method_12_code (6 : Nat) (Option.some Jvm.ClassFile.FieldType.int) ∈ GW := gwi 1117 (by decide +kernel) rfl
theorem wd1118 : Cond.methodLink "BakeryNight$Night" (214 : Nat) ({ cls := "BakeryNight$Night", name := "sooner", desc := "(III)I" } : Jvm.MethodName) ∈ GW := gwi 1118 (by decide +kernel) rfl
theorem wd1119 : Cond.static ({ cls := "BakeryNight$Night", name := "sooner", desc := "(III)I" } : Jvm.MethodName) ∈ GW := gwi 1119 (by decide +kernel) rfl
theorem wd1120 : Cond.code ({ cls := "BakeryNight$Night", name := "sooner", desc := "(III)I" } : Jvm.MethodName) prog_6_method_13_code (3 : Nat) (Option.some Jvm.ClassFile.FieldType.int) ∈ GW := gwi 1120 (by decide +kernel) rfl
theorem wd1121 : Cond.methodLink "BakeryNight$Night" (95 : Nat) ({ cls := "BakeryNight$Night", name := "giveLoaves", desc := "(LBakeryNight$Bakery;)V" } : Jvm.MethodName) ∈ GW := gwi 1121 (by decide +kernel) rfl
theorem wd1123 : Cond.instanceMethod ({ cls := "BakeryNight$Night", name := "giveLoaves", desc := "(LBakeryNight$Bakery;)V" } : Jvm.MethodName) ∈ GW := gwi 1123 (by decide +kernel) rfl
theorem wd1124 : Cond.code ({ cls := "BakeryNight$Night", name := "giveLoaves", desc := "(LBakeryNight$Bakery;)V" } : Jvm.MethodName) prog_6_method_14_code (6 : Nat) (Option.none : Option Jvm.ClassFile.FieldType) ∈ GW := gwi 1124 (by decide +kernel) rfl
theorem wd1125 : Cond.methodLink "BakeryNight$Night" (221 : Nat) ({ cls := "BakeryNight$Bakery", name := "hasOrder", desc := "(I)Z" } : Jvm.MethodName) ∈ GW := gwi 1125 (by decide +kernel) rfl
theorem wd1126 : Cond.methodLink "BakeryNight$Night" (233 : Nat) ({ cls := "BakeryNight$Bakery", name := "loavesAheadOf", desc := "(I)I" } : Jvm.MethodName) ∈ GW := gwi 1126 (by decide +kernel) rfl
theorem wd1127 : Cond.instanceMethod ({ cls := "BakeryNight$Bakery", name := "loavesAheadOf", desc := "(I)I" } : Jvm.MethodName) ∈ GW := gwi 1127 (by decide +kernel) rfl
theorem wd1128 : Cond.selects "BakeryNight$Bakery" ({ cls := "BakeryNight$Bakery", name := "loavesAheadOf", desc := "(I)I" } : Jvm.MethodName) ({ cls := "BakeryNight$Bakery", name := "loavesAheadOf", desc := "(I)I" } : Jvm.MethodName) ∈ GW := gwi 1128 (by decide +kernel) rfl
theorem wd1129 : Cond.code ({ cls := "BakeryNight$Bakery", name := "loavesAheadOf", desc := "(I)I" } : Jvm.MethodName) prog_3_method_14_code (4 : Nat) (Option.some Jvm.ClassFile.FieldType.int) ∈ GW := gwi 1129 (by decide +kernel) rfl
theorem wd1130 : Cond.methodLink "BakeryNight$Bakery" (115 : Nat) ({ cls := "BakeryNight$Bakery", name := "comesBefore", desc := "(II)Z" } : Jvm.MethodName) ∈ GW := gwi 1130 (by decide +kernel) rfl
theorem wd1132 : Cond.instanceMethod ({ cls := "BakeryNight$Bakery", name := "comesBefore", desc := "(II)Z" } : Jvm.MethodName) ∈ GW := gwi 1132 (by decide +kernel) rfl
theorem wd1133 : Cond.code ({ cls := "BakeryNight$Bakery", name := "comesBefore", desc := "(II)Z" } : Jvm.MethodName) prog_3_method_15_code (4 : Nat) (Option.some Jvm.ClassFile.FieldType.boolean) ∈ GW := gwi 1133 (by decide +kernel) rfl
theorem wd1134 : Cond.methodLink "BakeryNight$Night" (239 : Nat) ({ cls := "BakeryNight$Night", name := "takenOut", desc := "(LBakeryNight$Bakery;II)I" } : Jvm.MethodName) ∈ GW := gwi 1134 (by decide +kernel) rfl
theorem wd1136 : Cond.instanceMethod ({ cls := "BakeryNight$Night", name := "takenOut", desc := "(LBakeryNight$Bakery;II)I" } : Jvm.MethodName) ∈ GW := gwi 1136 (by decide +kernel) rfl
theorem wd1137 : Cond.code ({ cls := "BakeryNight$Night", name := "takenOut", desc := "(LBakeryNight$Bakery;II)I" } : Jvm.MethodName) prog_6_method_15_code (6 : Nat) (Option.some Jvm.ClassFile.FieldType.int) ∈ GW := gwi 1137 (by decide +kernel) rfl
theorem wd1138 : Cond.methodLink "BakeryNightLaw" (100 : Nat) ({ cls := "BakeryNight", name := "spoiledCount", desc := "()I" } : Jvm.MethodName) ∈ GW := gwi 1138 (by decide +kernel) rfl
theorem wd1139 : Cond.instanceMethod ({ cls := "BakeryNight", name := "spoiledCount", desc := "()I" } : Jvm.MethodName) ∈ GW := gwi 1139 (by decide +kernel) rfl
theorem wd1140 : Cond.selects "BakeryNight" ({ cls := "BakeryNight", name := "spoiledCount", desc := "()I" } : Jvm.MethodName) ({ cls := "BakeryNight", name := "spoiledCount", desc := "()I" } : Jvm.MethodName) ∈ GW := gwi 1140 (by decide +kernel) rfl
theorem wd1141 : Cond.code ({ cls := "BakeryNight", name := "spoiledCount", desc := "()I" } : Jvm.MethodName) prog_1_method_21_code (1 : Nat) (Option.some Jvm.ClassFile.FieldType.int) ∈ GW := gwi 1141 (by decide +kernel) rfl
theorem wd1142 : Cond.methodLink "BakeryNight" (192 : Nat) ({ cls := "BakeryNight$Night", name := "spoiledBatches", desc := "()I" } : Jvm.MethodName) ∈ GW := gwi 1142 (by decide +kernel) rfl
theorem wd1143 : Cond.instanceMethod ({ cls := "BakeryNight$Night", name := "spoiledBatches", desc := "()I" } : Jvm.MethodName) ∈ GW := gwi 1143 (by decide +kernel) rfl
theorem wd1144 : Cond.selects "BakeryNight$Night" ({ cls := "BakeryNight$Night", name := "spoiledBatches", desc := "()I" } : Jvm.MethodName) ({ cls := "BakeryNight$Night", name := "spoiledBatches", desc := "()I" } : Jvm.MethodName) ∈ GW := gwi 1144 (by decide +kernel) rfl
theorem wd1145 : Cond.code ({ cls := "BakeryNight$Night", name := "spoiledBatches", desc := "()I" } : Jvm.MethodName) prog_6_method_21_code (3 : Nat) (Option.some Jvm.ClassFile.FieldType.int) ∈ GW := gwi 1145 (by decide +kernel) rfl
theorem wd1146 : Cond.methodLink "BakeryNightLaw" (104 : Nat) ({ cls := "BakeryNight", name := "changingMinutes", desc := "(I)I" } : Jvm.MethodName) ∈ GW := gwi 1146 (by decide +kernel) rfl
theorem wd1147 : Cond.instanceMethod ({ cls := "BakeryNight", name := "changingMinutes", desc := "(I)I" } : Jvm.MethodName) ∈ GW := gwi 1147 (by decide +kernel) rfl
theorem wd1148 : Cond.selects "BakeryNight" ({ cls := "BakeryNight", name := "changingMinutes", desc := "(I)I" } : Jvm.MethodName) ({ cls := "BakeryNight", name := "changingMinutes", desc := "(I)I" } : Jvm.MethodName) ∈ GW := gwi 1148 (by decide +kernel) rfl
theorem wd1149 : Cond.code ({ cls := "BakeryNight", name := "changingMinutes", desc := "(I)I" } : Jvm.MethodName) prog_1_method_22_code (2 : Nat) (Option.some Jvm.ClassFile.FieldType.int) ∈ GW := gwi 1149 (by decide +kernel) rfl
theorem wd1150 : Cond.methodLink "BakeryNight" (195 : Nat) ({ cls := "BakeryNight$Bakery", name := "hasOven", desc := "(I)Z" } : Jvm.MethodName) ∈ GW := gwi 1150 (by decide +kernel) rfl
theorem wd1151 : Cond.instanceMethod ({ cls := "BakeryNight$Bakery", name := "hasOven", desc := "(I)Z" } : Jvm.MethodName) ∈ GW := gwi 1151 (by decide +kernel) rfl
theorem wd1152 : Cond.selects "BakeryNight$Bakery" ({ cls := "BakeryNight$Bakery", name := "hasOven", desc := "(I)Z" } : Jvm.MethodName) ({ cls := "BakeryNight$Bakery", name := "hasOven", desc := "(I)Z" } : Jvm.MethodName) ∈ GW := gwi 1152 (by decide +kernel) rfl
theorem wd1153 : Cond.code ({ cls := "BakeryNight$Bakery", name := "hasOven", desc := "(I)Z" } : Jvm.MethodName) prog_3_method_4_code (2 : Nat) (Option.some Jvm.ClassFile.FieldType.boolean) ∈ GW := gwi 1153 (by decide +kernel) rfl
theorem wd1154 : Cond.methodLink "BakeryNightLaw" (108 : Nat) ({ cls := "BakeryNight", name := "bakingMinutes", desc := "(I)I" } : Jvm.MethodName) ∈ GW := gwi 1154 (by decide +kernel) rfl
theorem wd1155 : Cond.instanceMethod ({ cls := "BakeryNight", name := "bakingMinutes", desc := "(I)I" } : Jvm.MethodName) ∈ GW := gwi 1155 (by decide +kernel) rfl
theorem wd1156 : Cond.selects "BakeryNight" ({ cls := "BakeryNight", name := "bakingMinutes", desc := "(I)I" } : Jvm.MethodName) ({ cls := "BakeryNight", name := "bakingMinutes", desc := "(I)I" } : Jvm.MethodName) ∈ GW := gwi 1156 (by decide +kernel) rfl
theorem wd1157 : Cond.code ({ cls := "BakeryNight", name := "bakingMinutes", desc := "(I)I" } : Jvm.MethodName) prog_1_method_23_code (2 : Nat) (Option.some Jvm.ClassFile.FieldType.int) ∈ GW := gwi 1157 (by decide +kernel) rfl
theorem wd1158 : Cond.methodLink "BakeryNight" (201 : Nat) ({ cls := "BakeryNight$Night", name := "minutesBakedIn", desc := "(I)I" } : Jvm.MethodName) ∈ GW := gwi 1158 (by decide +kernel) rfl
theorem wd1159 : Cond.instanceMethod ({ cls := "BakeryNight$Night", name := "minutesBakedIn", desc := "(I)I" } : Jvm.MethodName) ∈ GW := gwi 1159 (by decide +kernel) rfl
theorem wd1160 : Cond.selects "BakeryNight$Night" ({ cls := "BakeryNight$Night", name := "minutesBakedIn", desc := "(I)I" } : Jvm.MethodName) ({ cls := "BakeryNight$Night", name := "minutesBakedIn", desc := "(I)I" } : Jvm.MethodName) ∈ GW := gwi 1160 (by decide +kernel) rfl
theorem wd1161 : Cond.code ({ cls := "BakeryNight$Night", name := "minutesBakedIn", desc := "(I)I" } : Jvm.MethodName) prog_6_method_22_code (4 : Nat) (Option.some Jvm.ClassFile.FieldType.int) ∈ GW := gwi 1161 (by decide +kernel) rfl
theorem wd1162 : Cond.methodLink "BakeryNightLaw" (112 : Nat) ({ cls := "BakeryNight", name := "waitingMinutes", desc := "(I)I" } : Jvm.MethodName) ∈ GW := gwi 1162 (by decide +kernel) rfl
theorem wd1163 : Cond.instanceMethod ({ cls := "BakeryNight", name := "waitingMinutes", desc := "(I)I" } : Jvm.MethodName) ∈ GW := gwi 1163 (by decide +kernel) rfl
theorem wd1164 : Cond.selects "BakeryNight" ({ cls := "BakeryNight", name := "waitingMinutes", desc := "(I)I" } : Jvm.MethodName) ({ cls := "BakeryNight", name := "waitingMinutes", desc := "(I)I" } : Jvm.MethodName) ∈ GW := gwi 1164 (by decide +kernel) rfl
theorem wd1165 : Cond.code ({ cls := "BakeryNight", name := "waitingMinutes", desc := "(I)I" } : Jvm.MethodName) prog_1_method_24_code (2 : Nat) (Option.some Jvm.ClassFile.FieldType.int) ∈ GW := gwi 1165 (by decide +kernel) rfl
theorem wd1166 : Cond.methodLink "BakeryNight" (204 : Nat) ({ cls := "BakeryNight$Night", name := "isPlace", desc := "(I)Z" } : Jvm.MethodName) ∈ GW := gwi 1166 (by decide +kernel) rfl
theorem wd1167 : Cond.static ({ cls := "BakeryNight$Night", name := "isPlace", desc := "(I)Z" } : Jvm.MethodName) ∈ GW := gwi 1167 (by decide +kernel) rfl
theorem wd1168 : Cond.code ({ cls := "BakeryNight$Night", name := "isPlace", desc := "(I)Z" } : Jvm.MethodName) prog_6_method_19_code (1 : Nat) (Option.some Jvm.ClassFile.FieldType.boolean) ∈ GW := gwi 1168 (by decide +kernel) rfl
theorem wd1169 : Cond.methodLink "BakeryNight" (207 : Nat) ({ cls := "BakeryNight$Night", name := "minutesWaitedFor", desc := "(I)I" } : Jvm.MethodName) ∈ GW := gwi 1169 (by decide +kernel) rfl
theorem wd1170 : Cond.instanceMethod ({ cls := "BakeryNight$Night", name := "minutesWaitedFor", desc := "(I)I" } : Jvm.MethodName) ∈ GW := gwi 1170 (by decide +kernel) rfl
theorem wd1171 : Cond.selects "BakeryNight$Night" ({ cls := "BakeryNight$Night", name := "minutesWaitedFor", desc := "(I)I" } : Jvm.MethodName) ({ cls := "BakeryNight$Night", name := "minutesWaitedFor", desc := "(I)I" } : Jvm.MethodName) ∈ GW := gwi 1171 (by decide +kernel) rfl
theorem wd1172 : Cond.code ({ cls := "BakeryNight$Night", name := "minutesWaitedFor", desc := "(I)I" } : Jvm.MethodName) prog_6_method_23_code (4 : Nat) (Option.some Jvm.ClassFile.FieldType.int) ∈ GW := gwi 1172 (by decide +kernel) rfl
theorem wd1173 : Cond.methodLink "BakeryNight$Night" (258 : Nat) ({ cls := "BakeryNight$Night", name := "stageAt", desc := "(I)I" } : Jvm.MethodName) ∈ GW := gwi 1173 (by decide +kernel) rfl
theorem wd1174 : Cond.static ({ cls := "BakeryNight$Night", name := "stageAt", desc := "(I)I" } : Jvm.MethodName) ∈ GW := gwi 1174 (by decide +kernel) rfl
theorem wd1175 : Cond.code ({ cls := "BakeryNight$Night", name := "stageAt", desc := "(I)I" } : Jvm.MethodName) prog_6_method_20_code (1 : Nat) (Option.some Jvm.ClassFile.FieldType.int) ∈ GW := gwi 1175 (by decide +kernel) rfl
theorem wd1176 : Cond.methodLink "BakeryNightLaw" (116 : Nat) ({ cls := "BakeryNight", name := "shelvesUsed", desc := "(II)I" } : Jvm.MethodName) ∈ GW := gwi 1176 (by decide +kernel) rfl
theorem wd1177 : Cond.instanceMethod ({ cls := "BakeryNight", name := "shelvesUsed", desc := "(II)I" } : Jvm.MethodName) ∈ GW := gwi 1177 (by decide +kernel) rfl
theorem wd1178 : Cond.selects "BakeryNight" ({ cls := "BakeryNight", name := "shelvesUsed", desc := "(II)I" } : Jvm.MethodName) ({ cls := "BakeryNight", name := "shelvesUsed", desc := "(II)I" } : Jvm.MethodName) ∈ GW := gwi 1178 (by decide +kernel) rfl
theorem wd1179 : Cond.code ({ cls := "BakeryNight", name := "shelvesUsed", desc := "(II)I" } : Jvm.MethodName) prog_1_method_25_code (3 : Nat) (Option.some Jvm.ClassFile.FieldType.int) ∈ GW := gwi 1179 (by decide +kernel) rfl
theorem wd1180 : Cond.methodLink "BakeryNight" (210 : Nat) ({ cls := "BakeryNight$Night", name := "shelvesTaken", desc := "(II)I" } : Jvm.MethodName) ∈ GW := gwi 1180 (by decide +kernel) rfl
theorem wd1181 : Cond.methodLink "BakeryNightLaw" (120 : Nat) ({ cls := "BakeryNight", name := "busy", desc := "(II)I" } : Jvm.MethodName) ∈ GW := gwi 1181 (by decide +kernel) rfl
theorem wd1182 : Cond.instanceMethod ({ cls := "BakeryNight", name := "busy", desc := "(II)I" } : Jvm.MethodName) ∈ GW := gwi 1182 (by decide +kernel) rfl
theorem wd1183 : Cond.selects "BakeryNight" ({ cls := "BakeryNight", name := "busy", desc := "(II)I" } : Jvm.MethodName) ({ cls := "BakeryNight", name := "busy", desc := "(II)I" } : Jvm.MethodName) ∈ GW := gwi 1183 (by decide +kernel) rfl
theorem wd1184 : Cond.code ({ cls := "BakeryNight", name := "busy", desc := "(II)I" } : Jvm.MethodName) prog_1_method_26_code (3 : Nat) (Option.some Jvm.ClassFile.FieldType.int) ∈ GW := gwi 1184 (by decide +kernel) rfl
theorem wd1185 : Cond.methodLink "BakeryNight" (213 : Nat) ({ cls := "BakeryNight$Night", name := "stageAt", desc := "(I)I" } : Jvm.MethodName) ∈ GW := gwi 1185 (by decide +kernel) rfl
theorem wd1186 : Cond.methodLink "BakeryNight" (216 : Nat) ({ cls := "BakeryNight$Night", name := "inUse", desc := "(II)I" } : Jvm.MethodName) ∈ GW := gwi 1186 (by decide +kernel) rfl
theorem wd1187 : Cond.methodLink "BakeryNightLaw" (124 : Nat) ({ cls := "BakeryNight", name := "busiestMinute", desc := "(I)I" } : Jvm.MethodName) ∈ GW := gwi 1187 (by decide +kernel) rfl
theorem wd1188 : Cond.instanceMethod ({ cls := "BakeryNight", name := "busiestMinute", desc := "(I)I" } : Jvm.MethodName) ∈ GW := gwi 1188 (by decide +kernel) rfl
theorem wd1189 : Cond.selects "BakeryNight" ({ cls := "BakeryNight", name := "busiestMinute", desc := "(I)I" } : Jvm.MethodName) ({ cls := "BakeryNight", name := "busiestMinute", desc := "(I)I" } : Jvm.MethodName) ∈ GW := gwi 1189 (by decide +kernel) rfl
theorem wd1190 : Cond.code ({ cls := "BakeryNight", name := "busiestMinute", desc := "(I)I" } : Jvm.MethodName) prog_1_method_27_code (2 : Nat) (Option.some Jvm.ClassFile.FieldType.int) ∈ GW := gwi 1190 (by decide +kernel) rfl
theorem wd1191 : Cond.methodLink "BakeryNight" (219 : Nat) ({ cls := "BakeryNight$Night", name := "firstFullest", desc := "(I)I" } : Jvm.MethodName) ∈ GW := gwi 1191 (by decide +kernel) rfl
theorem wd1192 : Cond.instanceMethod ({ cls := "BakeryNight$Night", name := "firstFullest", desc := "(I)I" } : Jvm.MethodName) ∈ GW := gwi 1192 (by decide +kernel) rfl
theorem wd1193 : Cond.selects "BakeryNight$Night" ({ cls := "BakeryNight$Night", name := "firstFullest", desc := "(I)I" } : Jvm.MethodName) ({ cls := "BakeryNight$Night", name := "firstFullest", desc := "(I)I" } : Jvm.MethodName) ∈ GW := gwi 1193 (by decide +kernel) rfl
theorem wd1194 : Cond.code ({ cls := "BakeryNight$Night", name := "firstFullest", desc := "(I)I" } : Jvm.MethodName) prog_6_method_27_code (7 : Nat) (Option.some Jvm.ClassFile.FieldType.int) ∈ GW := gwi 1194 (by decide +kernel) rfl
theorem wd1195 : Cond.methodLink "BakeryNightLaw" (128 : Nat) ({ cls := "BakeryNight", name := "readyMinute", desc := "(I)I" } : Jvm.MethodName) ∈ GW := gwi 1195 (by decide +kernel) rfl
theorem wd1196 : Cond.instanceMethod ({ cls := "BakeryNight", name := "readyMinute", desc := "(I)I" } : Jvm.MethodName) ∈ GW := gwi 1196 (by decide +kernel) rfl
theorem wd1197 : Cond.selects "BakeryNight" ({ cls := "BakeryNight", name := "readyMinute", desc := "(I)I" } : Jvm.MethodName) ({ cls := "BakeryNight", name := "readyMinute", desc := "(I)I" } : Jvm.MethodName) ∈ GW := gwi 1197 (by decide +kernel) rfl
theorem wd1198 : Cond.code ({ cls := "BakeryNight", name := "readyMinute", desc := "(I)I" } : Jvm.MethodName) prog_1_method_28_code (2 : Nat) (Option.some Jvm.ClassFile.FieldType.int) ∈ GW := gwi 1198 (by decide +kernel) rfl
theorem wd1199 : Cond.methodLink "BakeryNight" (222 : Nat) ({ cls := "BakeryNight$Bakery", name := "hasOrder", desc := "(I)Z" } : Jvm.MethodName) ∈ GW := gwi 1199 (by decide +kernel) rfl
theorem wd1200 : Cond.methodLink "BakeryNightLaw" (132 : Nat) ({ cls := "BakeryNight", name := "surplusLoaves", desc := "(I)I" } : Jvm.MethodName) ∈ GW := gwi 1200 (by decide +kernel) rfl
theorem wd1201 : Cond.instanceMethod ({ cls := "BakeryNight", name := "surplusLoaves", desc := "(I)I" } : Jvm.MethodName) ∈ GW := gwi 1201 (by decide +kernel) rfl
theorem wd1202 : Cond.selects "BakeryNight" ({ cls := "BakeryNight", name := "surplusLoaves", desc := "(I)I" } : Jvm.MethodName) ({ cls := "BakeryNight", name := "surplusLoaves", desc := "(I)I" } : Jvm.MethodName) ∈ GW := gwi 1202 (by decide +kernel) rfl
theorem wd1203 : Cond.code ({ cls := "BakeryNight", name := "surplusLoaves", desc := "(I)I" } : Jvm.MethodName) prog_1_method_29_code (2 : Nat) (Option.some Jvm.ClassFile.FieldType.int) ∈ GW := gwi 1203 (by decide +kernel) rfl
theorem wd1204 : Cond.methodLink "BakeryNight" (228 : Nat) ({ cls := "BakeryNight$Night", name := "leftOver", desc := "(LBakeryNight$Bakery;I)I" } : Jvm.MethodName) ∈ GW := gwi 1204 (by decide +kernel) rfl
theorem wd1205 : Cond.instanceMethod ({ cls := "BakeryNight$Night", name := "leftOver", desc := "(LBakeryNight$Bakery;I)I" } : Jvm.MethodName) ∈ GW := gwi 1205 (by decide +kernel) rfl
theorem wd1206 : Cond.selects "BakeryNight$Night" ({ cls := "BakeryNight$Night", name := "leftOver", desc := "(LBakeryNight$Bakery;I)I" } : Jvm.MethodName) ({ cls := "BakeryNight$Night", name := "leftOver", desc := "(LBakeryNight$Bakery;I)I" } : Jvm.MethodName) ∈ GW := gwi 1206 (by decide +kernel) rfl
theorem wd1207 : Cond.code ({ cls := "BakeryNight$Night", name := "leftOver", desc := "(LBakeryNight$Bakery;I)I" } : Jvm.MethodName) prog_6_method_16_code (5 : Nat) (Option.some Jvm.ClassFile.FieldType.int) ∈ GW := gwi 1207 (by decide +kernel) rfl
theorem wd1208 : Cond.methodLink "BakeryNight$Night" (246 : Nat) ({ cls := "BakeryNight$Bakery", name := "loavesOf", desc := "(I)I" } : Jvm.MethodName) ∈ GW := gwi 1208 (by decide +kernel) rfl
theorem wd1209 : Cond.methodLink "BakeryNightLaw" (136 : Nat) ({ cls := "BakeryNight", name := "surplusValue", desc := "(I)I" } : Jvm.MethodName) ∈ GW := gwi 1209 (by decide +kernel) rfl
theorem wd1210 : Cond.instanceMethod ({ cls := "BakeryNight", name := "surplusValue", desc := "(I)I" } : Jvm.MethodName) ∈ GW := gwi 1210 (by decide +kernel) rfl
theorem wd1211 : Cond.selects "BakeryNight" ({ cls := "BakeryNight", name := "surplusValue", desc := "(I)I" } : Jvm.MethodName) ({ cls := "BakeryNight", name := "surplusValue", desc := "(I)I" } : Jvm.MethodName) ∈ GW := gwi 1211 (by decide +kernel) rfl
theorem wd1212 : Cond.code ({ cls := "BakeryNight", name := "surplusValue", desc := "(I)I" } : Jvm.MethodName) prog_1_method_30_code (4 : Nat) (Option.some Jvm.ClassFile.FieldType.int) ∈ GW := gwi 1212 (by decide +kernel) rfl
theorem wd1213 : Cond.methodLink "BakeryNight" (235 : Nat) ({ cls := "BakeryNight$Night", name := "leftOverCents", desc := "(LBakeryNight$Bakery;II)I" } : Jvm.MethodName) ∈ GW := gwi 1213 (by decide +kernel) rfl
theorem wd1214 : Cond.instanceMethod ({ cls := "BakeryNight$Night", name := "leftOverCents", desc := "(LBakeryNight$Bakery;II)I" } : Jvm.MethodName) ∈ GW := gwi 1214 (by decide +kernel) rfl
theorem wd1215 : Cond.selects "BakeryNight$Night" ({ cls := "BakeryNight$Night", name := "leftOverCents", desc := "(LBakeryNight$Bakery;II)I" } : Jvm.MethodName) ({ cls := "BakeryNight$Night", name := "leftOverCents", desc := "(LBakeryNight$Bakery;II)I" } : Jvm.MethodName) ∈ GW := gwi 1215 (by decide +kernel) rfl
theorem wd1216 : Cond.code ({ cls := "BakeryNight$Night", name := "leftOverCents", desc := "(LBakeryNight$Bakery;II)I" } : Jvm.MethodName) prog_6_method_17_code (7 : Nat) (Option.some Jvm.ClassFile.FieldType.int) ∈ GW := gwi 1216 (by decide +kernel) rfl
theorem wd1217 : Cond.methodLink "BakeryNight$Night" (249 : Nat) ({ cls := "BakeryNight$Night", name := "leftOver", desc := "(LBakeryNight$Bakery;I)I" } : Jvm.MethodName) ∈ GW := gwi 1217 (by decide +kernel) rfl
theorem wd1218 : Cond.methodLink "BakeryNightLaw" (140 : Nat) ({ cls := "BakeryNight", name := "failedShops", desc := "()I" } : Jvm.MethodName) ∈ GW := gwi 1218 (by decide +kernel) rfl
theorem wd1219 : Cond.instanceMethod ({ cls := "BakeryNight", name := "failedShops", desc := "()I" } : Jvm.MethodName) ∈ GW := gwi 1219 (by decide +kernel) rfl
theorem wd1220 : Cond.selects "BakeryNight" ({ cls := "BakeryNight", name := "failedShops", desc := "()I" } : Jvm.MethodName) ({ cls := "BakeryNight", name := "failedShops", desc := "()I" } : Jvm.MethodName) ∈ GW := gwi 1220 (by decide +kernel) rfl
theorem wd1221 : Cond.code ({ cls := "BakeryNight", name := "failedShops", desc := "()I" } : Jvm.MethodName) prog_1_method_32_code (2 : Nat) (Option.some Jvm.ClassFile.FieldType.int) ∈ GW := gwi 1221 (by decide +kernel) rfl
theorem wd1222 : Cond.methodLink "BakeryNight" (247 : Nat) ({ cls := "BakeryNight", name := "bestPlan", desc := "()LBakeryNight$Plan;" } : Jvm.MethodName) ∈ GW := gwi 1222 (by decide +kernel) rfl
theorem wd1224 : Cond.instanceMethod ({ cls := "BakeryNight", name := "bestPlan", desc := "()LBakeryNight$Plan;" } : Jvm.MethodName) ∈ GW := gwi 1224 (by decide +kernel) rfl
theorem wd1225 : Cond.code ({ cls := "BakeryNight", name := "bestPlan", desc := "()LBakeryNight$Plan;" } : Jvm.MethodName) prog_1_method_31_code (1 : Nat) (Option.some (Jvm.ClassFile.FieldType.object "BakeryNight$Plan")) ∈ GW := gwi 1225 (by decide +kernel) rfl
theorem wd1226 : Cond.methodLink "BakeryNight" (239 : Nat) ({ cls := "BakeryNight$Plan", name := "gather", desc := "(LBakeryNight$Bakery;LBakeryNight$Night;)V" } : Jvm.MethodName) ∈ GW := gwi 1226 (by decide +kernel) rfl
theorem wd1227 : Cond.instanceMethod ({ cls := "BakeryNight$Plan", name := "gather", desc := "(LBakeryNight$Bakery;LBakeryNight$Night;)V" } : Jvm.MethodName) ∈ GW := gwi 1227 (by decide +kernel) rfl
theorem wd1228 : Cond.selects "BakeryNight$Plan" ({ cls := "BakeryNight$Plan", name := "gather", desc := "(LBakeryNight$Bakery;LBakeryNight$Night;)V" } : Jvm.MethodName) ({ cls := "BakeryNight$Plan", name := "gather", desc := "(LBakeryNight$Bakery;LBakeryNight$Night;)V" } : Jvm.MethodName) ∈ GW := gwi 1228 (by decide +kernel) rfl
theorem wd1229 : Cond.code ({ cls := "BakeryNight$Plan", name := "gather", desc := "(LBakeryNight$Bakery;LBakeryNight$Night;)V" } : Jvm.MethodName) prog_10_method_2_code (6 : Nat) (Option.none : Option Jvm.ClassFile.FieldType) ∈ GW := gwi 1229 (by decide +kernel) rfl
theorem wd1230 : Cond.methodLink "BakeryNight$Plan" (49 : Nat) ({ cls := "java/util/Arrays", name := "fill", desc := "([II)V" } : Jvm.MethodName) ∈ GW := gwi 1230 (by decide +kernel) rfl
theorem wd1231 : Cond.methodLink "BakeryNight$Plan" (62 : Nat) ({ cls := "BakeryNight$Bakery", name := "hasOrder", desc := "(I)Z" } : Jvm.MethodName) ∈ GW := gwi 1231 (by decide +kernel) rfl
theorem wd1232 : Cond.methodLink "BakeryNight$Plan" (83 : Nat) ({ cls := "java/lang/Math", name := "min", desc := "(II)I" } : Jvm.MethodName) ∈ GW := gwi 1232 (by decide +kernel) rfl
theorem wd1233 : Cond.methodLink "BakeryNight$Plan" (92 : Nat) ({ cls := "java/lang/Math", name := "max", desc := "(II)I" } : Jvm.MethodName) ∈ GW := gwi 1233 (by decide +kernel) rfl
theorem wd1234 : Cond.methodLink "BakeryNight" (243 : Nat) ({ cls := "BakeryNight$Plan", name := "choose", desc := "(LBakeryNight$Bakery;)V" } : Jvm.MethodName) ∈ GW := gwi 1234 (by decide +kernel) rfl
theorem wd1235 : Cond.instanceMethod ({ cls := "BakeryNight$Plan", name := "choose", desc := "(LBakeryNight$Bakery;)V" } : Jvm.MethodName) ∈ GW := gwi 1235 (by decide +kernel) rfl
theorem wd1236 : Cond.selects "BakeryNight$Plan" ({ cls := "BakeryNight$Plan", name := "choose", desc := "(LBakeryNight$Bakery;)V" } : Jvm.MethodName) ({ cls := "BakeryNight$Plan", name := "choose", desc := "(LBakeryNight$Bakery;)V" } : Jvm.MethodName) ∈ GW := gwi 1236 (by decide +kernel) rfl
theorem wd1237 : Cond.code ({ cls := "BakeryNight$Plan", name := "choose", desc := "(LBakeryNight$Bakery;)V" } : Jvm.MethodName) prog_10_method_3_code (8 : Nat) (Option.none : Option Jvm.ClassFile.FieldType) ∈ GW := gwi 1237 (by decide +kernel) rfl
theorem wd1238 : Cond.methodLink "BakeryNight$Plan" (102 : Nat) ({ cls := "BakeryNight$Plan", name := "measureSets", desc := "(LBakeryNight$Bakery;)V" } : Jvm.MethodName) ∈ GW := gwi 1238 (by decide +kernel) rfl
theorem wd1240 : Cond.instanceMethod ({ cls := "BakeryNight$Plan", name := "measureSets", desc := "(LBakeryNight$Bakery;)V" } : Jvm.MethodName) ∈ GW := gwi 1240 (by decide +kernel) rfl
theorem wd1241 : Cond.code ({ cls := "BakeryNight$Plan", name := "measureSets", desc := "(LBakeryNight$Bakery;)V" } : Jvm.MethodName) prog_10_method_8_code (3 : Nat) (Option.none : Option Jvm.ClassFile.FieldType) ∈ GW := gwi 1241 (by decide +kernel) rfl
theorem wd1242 : Cond.methodLink "BakeryNight$Plan" (133 : Nat) ({ cls := "BakeryNight$Plan", name := "drive", desc := "(LBakeryNight$Roads;I)V" } : Jvm.MethodName) ∈ GW := gwi 1242 (by decide +kernel) rfl
theorem wd1244 : Cond.instanceMethod ({ cls := "BakeryNight$Plan", name := "drive", desc := "(LBakeryNight$Roads;I)V" } : Jvm.MethodName) ∈ GW := gwi 1244 (by decide +kernel) rfl
theorem wd1245 : Cond.code ({ cls := "BakeryNight$Plan", name := "drive", desc := "(LBakeryNight$Roads;I)V" } : Jvm.MethodName) prog_10_method_9_code (9 : Nat) (Option.none : Option Jvm.ClassFile.FieldType) ∈ GW := gwi 1245 (by decide +kernel) rfl
theorem wd1246 : Cond.methodLink "BakeryNight$Plan" (150 : Nat) ({ cls := "BakeryNight$Plan", name := "departureFor", desc := "(I)I" } : Jvm.MethodName) ∈ GW := gwi 1246 (by decide +kernel) rfl
theorem wd1248 : Cond.instanceMethod ({ cls := "BakeryNight$Plan", name := "departureFor", desc := "(I)I" } : Jvm.MethodName) ∈ GW := gwi 1248 (by decide +kernel) rfl
theorem wd1249 : Cond.code ({ cls := "BakeryNight$Plan", name := "departureFor", desc := "(I)I" } : Jvm.MethodName) prog_10_method_10_code (4 : Nat) (Option.some Jvm.ClassFile.FieldType.int) ∈ GW := gwi 1249 (by decide +kernel) rfl
theorem wd1250 : Cond.methodLink "BakeryNight$Plan" (153 : Nat) ({ cls := "BakeryNight$Roads", name := "nextStop", desc := "(II)I" } : Jvm.MethodName) ∈ GW := gwi 1250 (by decide +kernel) rfl
theorem wd1251 : Cond.methodLink "BakeryNight$Plan" (156 : Nat) ({ cls := "BakeryNight$Roads", name := "between", desc := "(II)I" } : Jvm.MethodName) ∈ GW := gwi 1251 (by decide +kernel) rfl
theorem wd1252 : Cond.methodLink "BakeryNight$Plan" (106 : Nat) ({ cls := "BakeryNight$Plan", name := "firstWay", desc := "(LBakeryNight$Bakery;)I" } : Jvm.MethodName) ∈ GW := gwi 1252 (by decide +kernel) rfl
theorem wd1254 : Cond.instanceMethod ({ cls := "BakeryNight$Plan", name := "firstWay", desc := "(LBakeryNight$Bakery;)I" } : Jvm.MethodName) ∈ GW := gwi 1254 (by decide +kernel) rfl
theorem wd1255 : Cond.code ({ cls := "BakeryNight$Plan", name := "firstWay", desc := "(LBakeryNight$Bakery;)I" } : Jvm.MethodName) prog_10_method_5_code (4 : Nat) (Option.some Jvm.ClassFile.FieldType.int) ∈ GW := gwi 1255 (by decide +kernel) rfl
theorem wd1256 : Cond.methodLink "BakeryNight$Plan" (137 : Nat) ({ cls := "BakeryNight$Roads", name := "restOfRoute", desc := "(II)I" } : Jvm.MethodName) ∈ GW := gwi 1256 (by decide +kernel) rfl
theorem wd1257 : Cond.constant "BakeryNight$Plan" (140 : Nat) (1000000 : Int32) ∈ GW := gwi 1257 (by decide +kernel) rfl
theorem wd1258 : Cond.methodLink "BakeryNight$Plan" (141 : Nat) ({ cls := "java/lang/Integer", name := "bitCount", desc := "(I)I" } : Jvm.MethodName) ∈ GW := gwi 1258 (by decide +kernel) rfl
theorem wd1259 : Cond.methodLink "BakeryNight$Plan" (110 : Nat) ({ cls := "BakeryNight$Plan", name := "canCarry", desc := "(LBakeryNight$Bakery;)Z" } : Jvm.MethodName) ∈ GW := gwi 1259 (by decide +kernel) rfl
theorem wd1261 : Cond.instanceMethod ({ cls := "BakeryNight$Plan", name := "canCarry", desc := "(LBakeryNight$Bakery;)Z" } : Jvm.MethodName) ∈ GW := gwi 1261 (by decide +kernel) rfl
theorem wd1262 : Cond.code ({ cls := "BakeryNight$Plan", name := "canCarry", desc := "(LBakeryNight$Bakery;)Z" } : Jvm.MethodName) prog_10_method_7_code (3 : Nat) (Option.some Jvm.ClassFile.FieldType.boolean) ∈ GW := gwi 1262 (by decide +kernel) rfl
theorem wd1263 : Cond.methodLink "BakeryNight$Plan" (120 : Nat) ({ cls := "java/lang/System", name := "arraycopy", desc := "(Ljava/lang/Object;ILjava/lang/Object;II)V" } : Jvm.MethodName) ∈ GW := gwi 1263 (by decide +kernel) rfl
theorem wd1264 : Cond.methodLink "BakeryNight$Plan" (126 : Nat) ({ cls := "BakeryNight$Plan", name := "nextWay", desc := "(LBakeryNight$Bakery;)V" } : Jvm.MethodName) ∈ GW := gwi 1264 (by decide +kernel) rfl
theorem wd1266 : Cond.instanceMethod ({ cls := "BakeryNight$Plan", name := "nextWay", desc := "(LBakeryNight$Bakery;)V" } : Jvm.MethodName) ∈ GW := gwi 1266 (by decide +kernel) rfl
theorem wd1267 : Cond.code ({ cls := "BakeryNight$Plan", name := "nextWay", desc := "(LBakeryNight$Bakery;)V" } : Jvm.MethodName) prog_10_method_6_code (5 : Nat) (Option.none : Option Jvm.ClassFile.FieldType) ∈ GW := gwi 1267 (by decide +kernel) rfl
theorem wd1268 : Cond.methodLink "BakeryNight" (254 : Nat) ({ cls := "BakeryNight$Plan", name := "missedTotal", desc := "()I" } : Jvm.MethodName) ∈ GW := gwi 1268 (by decide +kernel) rfl
theorem wd1269 : Cond.instanceMethod ({ cls := "BakeryNight$Plan", name := "missedTotal", desc := "()I" } : Jvm.MethodName) ∈ GW := gwi 1269 (by decide +kernel) rfl
theorem wd1270 : Cond.selects "BakeryNight$Plan" ({ cls := "BakeryNight$Plan", name := "missedTotal", desc := "()I" } : Jvm.MethodName) ({ cls := "BakeryNight$Plan", name := "missedTotal", desc := "()I" } : Jvm.MethodName) ∈ GW := gwi 1270 (by decide +kernel) rfl
theorem wd1271 : Cond.code ({ cls := "BakeryNight$Plan", name := "missedTotal", desc := "()I" } : Jvm.MethodName) prog_10_method_11_code (1 : Nat) (Option.some Jvm.ClassFile.FieldType.int) ∈ GW := gwi 1271 (by decide +kernel) rfl
theorem wd1272 : Cond.methodLink "BakeryNightLaw" (144 : Nat) ({ cls := "BakeryNight", name := "vanOf", desc := "(I)I" } : Jvm.MethodName) ∈ GW := gwi 1272 (by decide +kernel) rfl
theorem wd1273 : Cond.instanceMethod ({ cls := "BakeryNight", name := "vanOf", desc := "(I)I" } : Jvm.MethodName) ∈ GW := gwi 1273 (by decide +kernel) rfl
theorem wd1274 : Cond.selects "BakeryNight" ({ cls := "BakeryNight", name := "vanOf", desc := "(I)I" } : Jvm.MethodName) ({ cls := "BakeryNight", name := "vanOf", desc := "(I)I" } : Jvm.MethodName) ∈ GW := gwi 1274 (by decide +kernel) rfl
theorem wd1275 : Cond.code ({ cls := "BakeryNight", name := "vanOf", desc := "(I)I" } : Jvm.MethodName) prog_1_method_33_code (2 : Nat) (Option.some Jvm.ClassFile.FieldType.int) ∈ GW := gwi 1275 (by decide +kernel) rfl
theorem wd1276 : Cond.methodLink "BakeryNight" (260 : Nat) ({ cls := "BakeryNight$Plan", name := "vanFor", desc := "(I)I" } : Jvm.MethodName) ∈ GW := gwi 1276 (by decide +kernel) rfl
theorem wd1277 : Cond.instanceMethod ({ cls := "BakeryNight$Plan", name := "vanFor", desc := "(I)I" } : Jvm.MethodName) ∈ GW := gwi 1277 (by decide +kernel) rfl
theorem wd1278 : Cond.selects "BakeryNight$Plan" ({ cls := "BakeryNight$Plan", name := "vanFor", desc := "(I)I" } : Jvm.MethodName) ({ cls := "BakeryNight$Plan", name := "vanFor", desc := "(I)I" } : Jvm.MethodName) ∈ GW := gwi 1278 (by decide +kernel) rfl
theorem wd1279 : Cond.code ({ cls := "BakeryNight$Plan", name := "vanFor", desc := "(I)I" } : Jvm.MethodName) prog_10_method_12_code (3 : Nat) (Option.some Jvm.ClassFile.FieldType.int) ∈ GW := gwi 1279 (by decide +kernel) rfl
theorem wd1280 : Cond.methodLink "BakeryNightLaw" (148 : Nat) ({ cls := "BakeryNight", name := "arrivalMinute", desc := "(I)I" } : Jvm.MethodName) ∈ GW := gwi 1280 (by decide +kernel) rfl
theorem wd1281 : Cond.instanceMethod ({ cls := "BakeryNight", name := "arrivalMinute", desc := "(I)I" } : Jvm.MethodName) ∈ GW := gwi 1281 (by decide +kernel) rfl
theorem wd1282 : Cond.selects "BakeryNight" ({ cls := "BakeryNight", name := "arrivalMinute", desc := "(I)I" } : Jvm.MethodName) ({ cls := "BakeryNight", name := "arrivalMinute", desc := "(I)I" } : Jvm.MethodName) ∈ GW := gwi 1282 (by decide +kernel) rfl
theorem wd1283 : Cond.code ({ cls := "BakeryNight", name := "arrivalMinute", desc := "(I)I" } : Jvm.MethodName) prog_1_method_34_code (3 : Nat) (Option.some Jvm.ClassFile.FieldType.int) ∈ GW := gwi 1283 (by decide +kernel) rfl
theorem wd1284 : Cond.methodLink "BakeryNightLaw" (152 : Nat) ({ cls := "BakeryNight", name := "departureMinute", desc := "(I)I" } : Jvm.MethodName) ∈ GW := gwi 1284 (by decide +kernel) rfl
theorem wd1285 : Cond.instanceMethod ({ cls := "BakeryNight", name := "departureMinute", desc := "(I)I" } : Jvm.MethodName) ∈ GW := gwi 1285 (by decide +kernel) rfl
theorem wd1286 : Cond.selects "BakeryNight" ({ cls := "BakeryNight", name := "departureMinute", desc := "(I)I" } : Jvm.MethodName) ({ cls := "BakeryNight", name := "departureMinute", desc := "(I)I" } : Jvm.MethodName) ∈ GW := gwi 1286 (by decide +kernel) rfl
theorem wd1287 : Cond.code ({ cls := "BakeryNight", name := "departureMinute", desc := "(I)I" } : Jvm.MethodName) prog_1_method_35_code (2 : Nat) (Option.some Jvm.ClassFile.FieldType.int) ∈ GW := gwi 1287 (by decide +kernel) rfl
theorem wd1288 : Cond.methodLink "BakeryNight" (266 : Nat) ({ cls := "BakeryNight$Bakery", name := "hasVan", desc := "(I)Z" } : Jvm.MethodName) ∈ GW := gwi 1288 (by decide +kernel) rfl
theorem wd1289 : Cond.instanceMethod ({ cls := "BakeryNight$Bakery", name := "hasVan", desc := "(I)Z" } : Jvm.MethodName) ∈ GW := gwi 1289 (by decide +kernel) rfl
theorem wd1290 : Cond.selects "BakeryNight$Bakery" ({ cls := "BakeryNight$Bakery", name := "hasVan", desc := "(I)Z" } : Jvm.MethodName) ({ cls := "BakeryNight$Bakery", name := "hasVan", desc := "(I)Z" } : Jvm.MethodName) ∈ GW := gwi 1290 (by decide +kernel) rfl
theorem wd1291 : Cond.code ({ cls := "BakeryNight$Bakery", name := "hasVan", desc := "(I)Z" } : Jvm.MethodName) prog_3_method_6_code (2 : Nat) (Option.some Jvm.ClassFile.FieldType.boolean) ∈ GW := gwi 1291 (by decide +kernel) rfl
theorem wd1292 : Cond.methodLink "BakeryNight" (269 : Nat) ({ cls := "BakeryNight$Plan", name := "departureOf", desc := "(I)I" } : Jvm.MethodName) ∈ GW := gwi 1292 (by decide +kernel) rfl
theorem wd1293 : Cond.instanceMethod ({ cls := "BakeryNight$Plan", name := "departureOf", desc := "(I)I" } : Jvm.MethodName) ∈ GW := gwi 1293 (by decide +kernel) rfl
theorem wd1294 : Cond.selects "BakeryNight$Plan" ({ cls := "BakeryNight$Plan", name := "departureOf", desc := "(I)I" } : Jvm.MethodName) ({ cls := "BakeryNight$Plan", name := "departureOf", desc := "(I)I" } : Jvm.MethodName) ∈ GW := gwi 1294 (by decide +kernel) rfl
theorem wd1295 : Cond.code ({ cls := "BakeryNight$Plan", name := "departureOf", desc := "(I)I" } : Jvm.MethodName) prog_10_method_13_code (2 : Nat) (Option.some Jvm.ClassFile.FieldType.int) ∈ GW := gwi 1295 (by decide +kernel) rfl
theorem wd1296 : Cond.methodLink "BakeryNightLaw" (156 : Nat) ({ cls := "BakeryNight", name := "staleOrders", desc := "()I" } : Jvm.MethodName) ∈ GW := gwi 1296 (by decide +kernel) rfl
theorem wd1297 : Cond.instanceMethod ({ cls := "BakeryNight", name := "staleOrders", desc := "()I" } : Jvm.MethodName) ∈ GW := gwi 1297 (by decide +kernel) rfl
theorem wd1298 : Cond.selects "BakeryNight" ({ cls := "BakeryNight", name := "staleOrders", desc := "()I" } : Jvm.MethodName) ({ cls := "BakeryNight", name := "staleOrders", desc := "()I" } : Jvm.MethodName) ∈ GW := gwi 1298 (by decide +kernel) rfl
theorem wd1299 : Cond.code ({ cls := "BakeryNight", name := "staleOrders", desc := "()I" } : Jvm.MethodName) prog_1_method_36_code (2 : Nat) (Option.some Jvm.ClassFile.FieldType.int) ∈ GW := gwi 1299 (by decide +kernel) rfl
theorem wd1300 : Cond.methodLink "BakeryNight" (272 : Nat) ({ cls := "BakeryNight$Plan", name := "staleTotal", desc := "(LBakeryNight$Bakery;LBakeryNight$Night;)I" } : Jvm.MethodName) ∈ GW := gwi 1300 (by decide +kernel) rfl
theorem wd1301 : Cond.instanceMethod ({ cls := "BakeryNight$Plan", name := "staleTotal", desc := "(LBakeryNight$Bakery;LBakeryNight$Night;)I" } : Jvm.MethodName) ∈ GW := gwi 1301 (by decide +kernel) rfl
theorem wd1302 : Cond.selects "BakeryNight$Plan" ({ cls := "BakeryNight$Plan", name := "staleTotal", desc := "(LBakeryNight$Bakery;LBakeryNight$Night;)I" } : Jvm.MethodName) ({ cls := "BakeryNight$Plan", name := "staleTotal", desc := "(LBakeryNight$Bakery;LBakeryNight$Night;)I" } : Jvm.MethodName) ∈ GW := gwi 1302 (by decide +kernel) rfl
theorem wd1303 : Cond.code ({ cls := "BakeryNight$Plan", name := "staleTotal", desc := "(LBakeryNight$Bakery;LBakeryNight$Night;)I" } : Jvm.MethodName) prog_10_method_14_code (7 : Nat) (Option.some Jvm.ClassFile.FieldType.int) ∈ GW := gwi 1303 (by decide +kernel) rfl
theorem wd1304 : Cond.methodLink "BakeryNight$Plan" (159 : Nat) ({ cls := "BakeryNight$Plan", name := "vanFor", desc := "(I)I" } : Jvm.MethodName) ∈ GW := gwi 1304 (by decide +kernel) rfl
theorem wd1305 : Cond.methodLink "BakeryNightLaw" (160 : Nat) ({ cls := "BakeryNight", name := "latestStart", desc := "()I" } : Jvm.MethodName) ∈ GW := gwi 1305 (by decide +kernel) rfl
theorem wd1306 : Cond.instanceMethod ({ cls := "BakeryNight", name := "latestStart", desc := "()I" } : Jvm.MethodName) ∈ GW := gwi 1306 (by decide +kernel) rfl
theorem wd1307 : Cond.selects "BakeryNight" ({ cls := "BakeryNight", name := "latestStart", desc := "()I" } : Jvm.MethodName) ({ cls := "BakeryNight", name := "latestStart", desc := "()I" } : Jvm.MethodName) ∈ GW := gwi 1307 (by decide +kernel) rfl
theorem wd1308 : Cond.code ({ cls := "BakeryNight", name := "latestStart", desc := "()I" } : Jvm.MethodName) prog_1_method_37_code (1 : Nat) (Option.some Jvm.ClassFile.FieldType.int) ∈ GW := gwi 1308 (by decide +kernel) rfl
theorem wd1309 : Cond.methodLink "BakeryNight" (276 : Nat) ({ cls := "BakeryNight", name := "latestAsItIs", desc := "()I" } : Jvm.MethodName) ∈ GW := gwi 1309 (by decide +kernel) rfl
theorem wd1311 : Cond.instanceMethod ({ cls := "BakeryNight", name := "latestAsItIs", desc := "()I" } : Jvm.MethodName) ∈ GW := gwi 1311 (by decide +kernel) rfl
theorem wd1312 : Cond.code ({ cls := "BakeryNight", name := "latestAsItIs", desc := "()I" } : Jvm.MethodName) prog_1_method_40_code (1 : Nat) (Option.some Jvm.ClassFile.FieldType.int) ∈ GW := gwi 1312 (by decide +kernel) rfl
theorem wd1313 : Cond.methodLink "BakeryNight" (296 : Nat) ({ cls := "BakeryNight$Plan", name := "latest", desc := "(LBakeryNight$Bakery;)I" } : Jvm.MethodName) ∈ GW := gwi 1313 (by decide +kernel) rfl
theorem wd1314 : Cond.instanceMethod ({ cls := "BakeryNight$Plan", name := "latest", desc := "(LBakeryNight$Bakery;)I" } : Jvm.MethodName) ∈ GW := gwi 1314 (by decide +kernel) rfl
theorem wd1315 : Cond.selects "BakeryNight$Plan" ({ cls := "BakeryNight$Plan", name := "latest", desc := "(LBakeryNight$Bakery;)I" } : Jvm.MethodName) ({ cls := "BakeryNight$Plan", name := "latest", desc := "(LBakeryNight$Bakery;)I" } : Jvm.MethodName) ∈ GW := gwi 1315 (by decide +kernel) rfl
theorem wd1316 : Cond.code ({ cls := "BakeryNight$Plan", name := "latest", desc := "(LBakeryNight$Bakery;)I" } : Jvm.MethodName) prog_10_method_4_code (7 : Nat) (Option.some Jvm.ClassFile.FieldType.int) ∈ GW := gwi 1316 (by decide +kernel) rfl
theorem wd1317 : Cond.methodLink "BakeryNightLaw" (164 : Nat) ({ cls := "BakeryNight", name := "latestStartWith", desc := "(I)I" } : Jvm.MethodName) ∈ GW := gwi 1317 (by decide +kernel) rfl
theorem wd1318 : Cond.instanceMethod ({ cls := "BakeryNight", name := "latestStartWith", desc := "(I)I" } : Jvm.MethodName) ∈ GW := gwi 1318 (by decide +kernel) rfl
theorem wd1319 : Cond.selects "BakeryNight" ({ cls := "BakeryNight", name := "latestStartWith", desc := "(I)I" } : Jvm.MethodName) ({ cls := "BakeryNight", name := "latestStartWith", desc := "(I)I" } : Jvm.MethodName) ∈ GW := gwi 1319 (by decide +kernel) rfl
theorem wd1320 : Cond.code ({ cls := "BakeryNight", name := "latestStartWith", desc := "(I)I" } : Jvm.MethodName) prog_1_method_38_code (3 : Nat) (Option.some Jvm.ClassFile.FieldType.int) ∈ GW := gwi 1320 (by decide +kernel) rfl
theorem wd1321 : Cond.methodLink "BakeryNight" (279 : Nat) ({ cls := "BakeryNight$Bakery", name := "improve", desc := "(II)V" } : Jvm.MethodName) ∈ GW := gwi 1321 (by decide +kernel) rfl
theorem wd1322 : Cond.instanceMethod ({ cls := "BakeryNight$Bakery", name := "improve", desc := "(II)V" } : Jvm.MethodName) ∈ GW := gwi 1322 (by decide +kernel) rfl
theorem wd1323 : Cond.selects "BakeryNight$Bakery" ({ cls := "BakeryNight$Bakery", name := "improve", desc := "(II)V" } : Jvm.MethodName) ({ cls := "BakeryNight$Bakery", name := "improve", desc := "(II)V" } : Jvm.MethodName) ∈ GW := gwi 1323 (by decide +kernel) rfl
theorem wd1324 : Cond.code ({ cls := "BakeryNight$Bakery", name := "improve", desc := "(II)V" } : Jvm.MethodName) prog_3_method_17_code (4 : Nat) (Option.none : Option Jvm.ClassFile.FieldType) ∈ GW := gwi 1324 (by decide +kernel) rfl
theorem wd1325 : Cond.constant "BakeryNight$Bakery" (126 : Nat) (1000000 : Int32) ∈ GW := gwi 1325 (by decide +kernel) rfl
theorem wd1326 : Cond.methodLink "BakeryNightLaw" (168 : Nat) ({ cls := "BakeryNight", name := "vitalStreet", desc := "()I" } : Jvm.MethodName) ∈ GW := gwi 1326 (by decide +kernel) rfl
theorem wd1327 : Cond.instanceMethod ({ cls := "BakeryNight", name := "vitalStreet", desc := "()I" } : Jvm.MethodName) ∈ GW := gwi 1327 (by decide +kernel) rfl
theorem wd1328 : Cond.selects "BakeryNight" ({ cls := "BakeryNight", name := "vitalStreet", desc := "()I" } : Jvm.MethodName) ({ cls := "BakeryNight", name := "vitalStreet", desc := "()I" } : Jvm.MethodName) ∈ GW := gwi 1328 (by decide +kernel) rfl
theorem wd1329 : Cond.code ({ cls := "BakeryNight", name := "vitalStreet", desc := "()I" } : Jvm.MethodName) prog_1_method_39_code (6 : Nat) (Option.some Jvm.ClassFile.FieldType.int) ∈ GW := gwi 1329 (by decide +kernel) rfl
theorem wd1330 : Cond.methodLink "BakeryNight" (293 : Nat) ({ cls := "BakeryNight$Roads", name := "explore", desc := "(II)V" } : Jvm.MethodName) ∈ GW := gwi 1330 (by decide +kernel) rfl
theorem wd1331 : Cond.methodLink "BakeryNightLaw" (172 : Nat) ({ cls := "BakeryNight", name := "setRoom", desc := "(I)I" } : Jvm.MethodName) ∈ GW := gwi 1331 (by decide +kernel) rfl
theorem wd1332 : Cond.instanceMethod ({ cls := "BakeryNight", name := "setRoom", desc := "(I)I" } : Jvm.MethodName) ∈ GW := gwi 1332 (by decide +kernel) rfl
theorem wd1333 : Cond.selects "BakeryNight" ({ cls := "BakeryNight", name := "setRoom", desc := "(I)I" } : Jvm.MethodName) ({ cls := "BakeryNight", name := "setRoom", desc := "(I)I" } : Jvm.MethodName) ∈ GW := gwi 1333 (by decide +kernel) rfl
theorem wd1334 : Cond.code ({ cls := "BakeryNight", name := "setRoom", desc := "(I)I" } : Jvm.MethodName) prog_1_method_42_code (3 : Nat) (Option.some Jvm.ClassFile.FieldType.int) ∈ GW := gwi 1334 (by decide +kernel) rfl
theorem wd1335 : Cond.methodLink "BakeryNight" (307 : Nat) ({ cls := "BakeryNight", name := "recordChange", desc := "(III)V" } : Jvm.MethodName) ∈ GW := gwi 1335 (by decide +kernel) rfl
theorem wd1337 : Cond.instanceMethod ({ cls := "BakeryNight", name := "recordChange", desc := "(III)V" } : Jvm.MethodName) ∈ GW := gwi 1337 (by decide +kernel) rfl
theorem wd1338 : Cond.code ({ cls := "BakeryNight", name := "recordChange", desc := "(III)V" } : Jvm.MethodName) prog_1_method_41_code (4 : Nat) (Option.none : Option Jvm.ClassFile.FieldType) ∈ GW := gwi 1338 (by decide +kernel) rfl
theorem wd1339 : Cond.methodLink "BakeryNight" (300 : Nat) ({ cls := "BakeryNight$History", name := "add", desc := "(III)V" } : Jvm.MethodName) ∈ GW := gwi 1339 (by decide +kernel) rfl
theorem wd1340 : Cond.instanceMethod ({ cls := "BakeryNight$History", name := "add", desc := "(III)V" } : Jvm.MethodName) ∈ GW := gwi 1340 (by decide +kernel) rfl
theorem wd1341 : Cond.selects "BakeryNight$History" ({ cls := "BakeryNight$History", name := "add", desc := "(III)V" } : Jvm.MethodName) ({ cls := "BakeryNight$History", name := "add", desc := "(III)V" } : Jvm.MethodName) ∈ GW := gwi 1341 (by decide +kernel) rfl
theorem wd1342 : Cond.code ({ cls := "BakeryNight$History", name := "add", desc := "(III)V" } : Jvm.MethodName) prog_5_method_3_code (4 : Nat) (Option.none : Option Jvm.ClassFile.FieldType) ∈ GW := gwi 1342 (by decide +kernel) rfl
theorem wd1343 : Cond.methodLink "BakeryNight$History" (23 : Nat) ({ cls := "BakeryNight$History", name := "dropOldest", desc := "()V" } : Jvm.MethodName) ∈ GW := gwi 1343 (by decide +kernel) rfl
theorem wd1345 : Cond.instanceMethod ({ cls := "BakeryNight$History", name := "dropOldest", desc := "()V" } : Jvm.MethodName) ∈ GW := gwi 1345 (by decide +kernel) rfl
theorem wd1346 : Cond.code ({ cls := "BakeryNight$History", name := "dropOldest", desc := "()V" } : Jvm.MethodName) prog_5_method_4_code (1 : Nat) (Option.none : Option Jvm.ClassFile.FieldType) ∈ GW := gwi 1346 (by decide +kernel) rfl
theorem wd1347 : Cond.methodLink "BakeryNight$History" (26 : Nat) ({ cls := "java/lang/System", name := "arraycopy", desc := "(Ljava/lang/Object;ILjava/lang/Object;II)V" } : Jvm.MethodName) ∈ GW := gwi 1347 (by decide +kernel) rfl
theorem wd1348 : Cond.methodLink "BakeryNightLaw" (176 : Nat) ({ cls := "BakeryNight", name := "breakOven", desc := "(IZ)Z" } : Jvm.MethodName) ∈ GW := gwi 1348 (by decide +kernel) rfl
theorem wd1349 : Cond.instanceMethod ({ cls := "BakeryNight", name := "breakOven", desc := "(IZ)Z" } : Jvm.MethodName) ∈ GW := gwi 1349 (by decide +kernel) rfl
theorem wd1350 : Cond.selects "BakeryNight" ({ cls := "BakeryNight", name := "breakOven", desc := "(IZ)Z" } : Jvm.MethodName) ({ cls := "BakeryNight", name := "breakOven", desc := "(IZ)Z" } : Jvm.MethodName) ∈ GW := gwi 1350 (by decide +kernel) rfl
theorem wd1351 : Cond.code ({ cls := "BakeryNight", name := "breakOven", desc := "(IZ)Z" } : Jvm.MethodName) prog_1_method_43_code (4 : Nat) (Option.some Jvm.ClassFile.FieldType.boolean) ∈ GW := gwi 1351 (by decide +kernel) rfl
theorem wd1352 : Cond.methodLink "BakeryNightLaw" (181 : Nat) ({ cls := "BakeryNight", name := "closeStreet", desc := "(IZ)Z" } : Jvm.MethodName) ∈ GW := gwi 1352 (by decide +kernel) rfl
theorem wd1353 : Cond.instanceMethod ({ cls := "BakeryNight", name := "closeStreet", desc := "(IZ)Z" } : Jvm.MethodName) ∈ GW := gwi 1353 (by decide +kernel) rfl
theorem wd1354 : Cond.selects "BakeryNight" ({ cls := "BakeryNight", name := "closeStreet", desc := "(IZ)Z" } : Jvm.MethodName) ({ cls := "BakeryNight", name := "closeStreet", desc := "(IZ)Z" } : Jvm.MethodName) ∈ GW := gwi 1354 (by decide +kernel) rfl
theorem wd1355 : Cond.code ({ cls := "BakeryNight", name := "closeStreet", desc := "(IZ)Z" } : Jvm.MethodName) prog_1_method_44_code (4 : Nat) (Option.some Jvm.ClassFile.FieldType.boolean) ∈ GW := gwi 1355 (by decide +kernel) rfl
theorem wd1356 : Cond.methodLink "BakeryNight" (319 : Nat) ({ cls := "BakeryNight$Bakery", name := "markStreet", desc := "(IZ)V" } : Jvm.MethodName) ∈ GW := gwi 1356 (by decide +kernel) rfl
theorem wd1357 : Cond.instanceMethod ({ cls := "BakeryNight$Bakery", name := "markStreet", desc := "(IZ)V" } : Jvm.MethodName) ∈ GW := gwi 1357 (by decide +kernel) rfl
theorem wd1358 : Cond.selects "BakeryNight$Bakery" ({ cls := "BakeryNight$Bakery", name := "markStreet", desc := "(IZ)V" } : Jvm.MethodName) ({ cls := "BakeryNight$Bakery", name := "markStreet", desc := "(IZ)V" } : Jvm.MethodName) ∈ GW := gwi 1358 (by decide +kernel) rfl
theorem wd1359 : Cond.code ({ cls := "BakeryNight$Bakery", name := "markStreet", desc := "(IZ)V" } : Jvm.MethodName) prog_3_method_16_code (3 : Nat) (Option.none : Option Jvm.ClassFile.FieldType) ∈ GW := gwi 1359 (by decide +kernel) rfl
theorem wd1360 : Cond.methodLink "BakeryNightLaw" (185 : Nat) ({ cls := "BakeryNight", name := "addOrder", desc := "(IIII)I" } : Jvm.MethodName) ∈ GW := gwi 1360 (by decide +kernel) rfl
theorem wd1361 : Cond.instanceMethod ({ cls := "BakeryNight", name := "addOrder", desc := "(IIII)I" } : Jvm.MethodName) ∈ GW := gwi 1361 (by decide +kernel) rfl
theorem wd1362 : Cond.selects "BakeryNight" ({ cls := "BakeryNight", name := "addOrder", desc := "(IIII)I" } : Jvm.MethodName) ({ cls := "BakeryNight", name := "addOrder", desc := "(IIII)I" } : Jvm.MethodName) ∈ GW := gwi 1362 (by decide +kernel) rfl
theorem wd1363 : Cond.code ({ cls := "BakeryNight", name := "addOrder", desc := "(IIII)I" } : Jvm.MethodName) prog_1_method_45_code (6 : Nat) (Option.some Jvm.ClassFile.FieldType.int) ∈ GW := gwi 1363 (by decide +kernel) rfl
theorem wd1364 : Cond.methodLink "BakeryNight" (327 : Nat) ({ cls := "BakeryNight$Order", name := "set", desc := "(IIII)V" } : Jvm.MethodName) ∈ GW := gwi 1364 (by decide +kernel) rfl
theorem wd1365 : Cond.methodLink "BakeryNightLaw" (190 : Nat) ({ cls := "BakeryNight", name := "cancelOrder", desc := "(I)Z" } : Jvm.MethodName) ∈ GW := gwi 1365 (by decide +kernel) rfl
theorem wd1366 : Cond.instanceMethod ({ cls := "BakeryNight", name := "cancelOrder", desc := "(I)Z" } : Jvm.MethodName) ∈ GW := gwi 1366 (by decide +kernel) rfl
theorem wd1367 : Cond.selects "BakeryNight" ({ cls := "BakeryNight", name := "cancelOrder", desc := "(I)Z" } : Jvm.MethodName) ({ cls := "BakeryNight", name := "cancelOrder", desc := "(I)Z" } : Jvm.MethodName) ∈ GW := gwi 1367 (by decide +kernel) rfl
theorem wd1368 : Cond.code ({ cls := "BakeryNight", name := "cancelOrder", desc := "(I)Z" } : Jvm.MethodName) prog_1_method_46_code (2 : Nat) (Option.some Jvm.ClassFile.FieldType.boolean) ∈ GW := gwi 1368 (by decide +kernel) rfl
theorem wd1369 : Cond.methodLink "BakeryNightLaw" (194 : Nat) ({ cls := "BakeryNight", name := "moveOrder", desc := "(II)I" } : Jvm.MethodName) ∈ GW := gwi 1369 (by decide +kernel) rfl
theorem wd1370 : Cond.instanceMethod ({ cls := "BakeryNight", name := "moveOrder", desc := "(II)I" } : Jvm.MethodName) ∈ GW := gwi 1370 (by decide +kernel) rfl
theorem wd1371 : Cond.selects "BakeryNight" ({ cls := "BakeryNight", name := "moveOrder", desc := "(II)I" } : Jvm.MethodName) ({ cls := "BakeryNight", name := "moveOrder", desc := "(II)I" } : Jvm.MethodName) ∈ GW := gwi 1371 (by decide +kernel) rfl
theorem wd1372 : Cond.code ({ cls := "BakeryNight", name := "moveOrder", desc := "(II)I" } : Jvm.MethodName) prog_1_method_47_code (4 : Nat) (Option.some Jvm.ClassFile.FieldType.int) ∈ GW := gwi 1372 (by decide +kernel) rfl
theorem wd1373 : Cond.methodLink "BakeryNightLaw" (198 : Nat) ({ cls := "BakeryNight", name := "undo", desc := "()I" } : Jvm.MethodName) ∈ GW := gwi 1373 (by decide +kernel) rfl
theorem wd1374 : Cond.instanceMethod ({ cls := "BakeryNight", name := "undo", desc := "()I" } : Jvm.MethodName) ∈ GW := gwi 1374 (by decide +kernel) rfl
theorem wd1375 : Cond.selects "BakeryNight" ({ cls := "BakeryNight", name := "undo", desc := "()I" } : Jvm.MethodName) ({ cls := "BakeryNight", name := "undo", desc := "()I" } : Jvm.MethodName) ∈ GW := gwi 1375 (by decide +kernel) rfl
theorem wd1376 : Cond.code ({ cls := "BakeryNight", name := "undo", desc := "()I" } : Jvm.MethodName) prog_1_method_48_code (1 : Nat) (Option.some Jvm.ClassFile.FieldType.int) ∈ GW := gwi 1376 (by decide +kernel) rfl
theorem wd1377 : Cond.methodLink "BakeryNight" (342 : Nat) ({ cls := "BakeryNight$History", name := "takeBack", desc := "(LBakeryNight$Bakery;)V" } : Jvm.MethodName) ∈ GW := gwi 1377 (by decide +kernel) rfl
theorem wd1378 : Cond.instanceMethod ({ cls := "BakeryNight$History", name := "takeBack", desc := "(LBakeryNight$Bakery;)V" } : Jvm.MethodName) ∈ GW := gwi 1378 (by decide +kernel) rfl
theorem wd1379 : Cond.selects "BakeryNight$History" ({ cls := "BakeryNight$History", name := "takeBack", desc := "(LBakeryNight$Bakery;)V" } : Jvm.MethodName) ({ cls := "BakeryNight$History", name := "takeBack", desc := "(LBakeryNight$Bakery;)V" } : Jvm.MethodName) ∈ GW := gwi 1379 (by decide +kernel) rfl
theorem wd1380 : Cond.code ({ cls := "BakeryNight$History", name := "takeBack", desc := "(LBakeryNight$Bakery;)V" } : Jvm.MethodName) prog_5_method_5_code (3 : Nat) (Option.none : Option Jvm.ClassFile.FieldType) ∈ GW := gwi 1380 (by decide +kernel) rfl
theorem wd1381 : Cond.methodLink "BakeryNight$History" (47 : Nat) ({ cls := "BakeryNight$Bakery", name := "markStreet", desc := "(IZ)V" } : Jvm.MethodName) ∈ GW := gwi 1381 (by decide +kernel) rfl
theorem wd1382 : Cond.methodLink "BakeryNightLaw" (84 : Nat) ({ cls := "BakeryNightLaw", name := "batchDough", desc := "(LBakeryNight;I[J)I" } : Jvm.MethodName) ∈ GW := gwi 1382 (by decide +kernel) rfl
theorem wd1383 : Cond.static ({ cls := "BakeryNightLaw", name := "batchDough", desc := "(LBakeryNight;I[J)I" } : Jvm.MethodName) ∈ GW := gwi 1383 (by decide +kernel) rfl
theorem wd1385 : Cond.classLink "BakeryNightLaw" (13 : Nat) "java/lang/IllegalStateException" ∈ GW := gwi 1385 (by decide +kernel) rfl
theorem wd1386 : Cond.classLink "BakeryNightLaw" (15 : Nat) "java/lang/IndexOutOfBoundsException" ∈ GW := gwi 1386 (by decide +kernel) rfl
theorem wd1387 : Cond.methodLink "BakeryNightLaw" (7 : Nat) ({ cls := "BakeryNight", name := "batchDough", desc := "(I)I" } : Jvm.MethodName) ∈ GW := gwi 1387 (by decide +kernel) rfl
theorem wd1388 : Cond.instanceMethod ({ cls := "BakeryNight", name := "batchDough", desc := "(I)I" } : Jvm.MethodName) ∈ GW := gwi 1388 (by decide +kernel) rfl
theorem wd1389 : Cond.selects "BakeryNight" ({ cls := "BakeryNight", name := "batchDough", desc := "(I)I" } : Jvm.MethodName) ({ cls := "BakeryNight", name := "batchDough", desc := "(I)I" } : Jvm.MethodName) ∈ GW := gwi 1389 (by decide +kernel) rfl
theorem wd1390 : Cond.code ({ cls := "BakeryNight", name := "batchDough", desc := "(I)I" } : Jvm.MethodName) prog_1_method_18_code (2 : Nat) (Option.some Jvm.ClassFile.FieldType.int) ∈ GW := gwi 1390 (by decide +kernel) rfl
theorem wd1391 : Cond.classLink "BakeryNight" (164 : Nat) "java/lang/IllegalStateException" ∈ GW := gwi 1391 (by decide +kernel) rfl
theorem wd1392 : Cond.instantiable "java/lang/IllegalStateException" (6 : Nat) ∈ GW := gwi 1392 (by decide +kernel) rfl
theorem wd1400 : Cond.selects "java/lang/IllegalStateException" ({ cls := "java/lang/Throwable", name := "fillInStackTrace", desc := "(I)Ljava/lang/Throwable;" } : Jvm.MethodName) ({ cls := "java/lang/Throwable", name := "fillInStackTrace", desc := "(I)Ljava/lang/Throwable;" } : Jvm.MethodName) ∈ GW := gwi 1400 (by decide +kernel) rfl
theorem wd1401 : Cond.selects "java/lang/IllegalStateException" ({ cls := "java/lang/Throwable", name := "fillInStackTrace", desc := "()Ljava/lang/Throwable;" } : Jvm.MethodName) ({ cls := "java/lang/Throwable", name := "fillInStackTrace", desc := "()Ljava/lang/Throwable;" } : Jvm.MethodName) ∈ GW := gwi 1401 (by decide +kernel) rfl
theorem wd1412 : Cond.fieldLink "java/lang/Throwable" (198 : Nat) "java/lang/Throwable" "backtrace" "Ljava/lang/Object;" ∈ GW := gwi 1412 (by decide +kernel) rfl
theorem wd1414 : Cond.instanceMethod ({ cls := "java/lang/Throwable", name := "<init>", desc := "()V" } : Jvm.MethodName) ∈ GW := gwi 1414 (by decide +kernel) rfl
theorem wd1415 : Cond.code ({ cls := "java/lang/Throwable", name := "<init>", desc := "()V" } : Jvm.MethodName) prog_27_method_1_code (1 : Nat) (Option.none : Option Jvm.ClassFile.FieldType) ∈ GW := gwi 1415 (by decide +kernel) rfl
theorem wd1416 : Cond.methodLink "java/lang/Throwable" (1 : Nat) ({ cls := "java/lang/Object", name := "<init>", desc := "()V" } : Jvm.MethodName) ∈ GW := gwi 1416 (by decide +kernel) rfl
theorem wd1417 : Cond.fieldLink "java/lang/Throwable" (13 : Nat) "java/lang/Throwable" "UNASSIGNED_STACK" "[Ljava/lang/StackTraceElement;" ∈ GW := gwi 1417 (by decide +kernel) rfl
theorem wd1419 : Cond.fieldLink "java/lang/Throwable" (20 : Nat) "java/lang/Throwable" "SUPPRESSED_SENTINEL" "Ljava/util/List;" ∈ GW := gwi 1419 (by decide +kernel) rfl
theorem wd1421 : Cond.methodLink "java/lang/Throwable" (27 : Nat) ({ cls := "java/lang/Throwable", name := "fillInStackTrace", desc := "()Ljava/lang/Throwable;" } : Jvm.MethodName) ∈ GW := gwi 1421 (by decide +kernel) rfl
theorem wd1422 : Cond.instanceMethod ({ cls := "java/lang/Throwable", name := "fillInStackTrace", desc := "()Ljava/lang/Throwable;" } : Jvm.MethodName) ∈ GW := gwi 1422 (by decide +kernel) rfl
theorem wd1424 : Cond.selects "java/lang/IndexOutOfBoundsException" ({ cls := "java/lang/Throwable", name := "fillInStackTrace", desc := "()Ljava/lang/Throwable;" } : Jvm.MethodName) ({ cls := "java/lang/Throwable", name := "fillInStackTrace", desc := "()Ljava/lang/Throwable;" } : Jvm.MethodName) ∈ GW := gwi 1424 (by decide +kernel) rfl
theorem wd1426 : Cond.methodLink "java/lang/Throwable" (202 : Nat) ({ cls := "java/lang/Throwable", name := "fillInStackTrace", desc := "(I)Ljava/lang/Throwable;" } : Jvm.MethodName) ∈ GW := gwi 1426 (by decide +kernel) rfl
theorem wd1428 : Cond.instanceMethod ({ cls := "java/lang/Throwable", name := "fillInStackTrace", desc := "(I)Ljava/lang/Throwable;" } : Jvm.MethodName) ∈ GW := gwi 1428 (by decide +kernel) rfl
theorem wd1429 : Cond.instantiable "java/lang/Throwable" (6 : Nat) ∈ GW := gwi 1429 (by decide +kernel) rfl
theorem wd1432 : Cond.methodLink "BakeryNight" (168 : Nat) ({ cls := "java/lang/IllegalStateException", name := "<init>", desc := "(Ljava/lang/String;)V" } : Jvm.MethodName) ∈ GW := gwi 1432 (by decide +kernel) rfl
theorem wd1433 : Cond.instanceMethod ({ cls := "java/lang/IllegalStateException", name := "<init>", desc := "(Ljava/lang/String;)V" } : Jvm.MethodName) ∈ GW := gwi 1433 (by decide +kernel) rfl
theorem wd1434 : Cond.code ({ cls := "java/lang/IllegalStateException", name := "<init>", desc := "(Ljava/lang/String;)V" } : Jvm.MethodName) prog_18_method_2_code (2 : Nat) (Option.none : Option Jvm.ClassFile.FieldType) ∈ GW := gwi 1434 (by decide +kernel) rfl
theorem wd1435 : Cond.methodLink "java/lang/IllegalStateException" (7 : Nat) ({ cls := "java/lang/RuntimeException", name := "<init>", desc := "(Ljava/lang/String;)V" } : Jvm.MethodName) ∈ GW := gwi 1435 (by decide +kernel) rfl
theorem wd1436 : Cond.instanceMethod ({ cls := "java/lang/RuntimeException", name := "<init>", desc := "(Ljava/lang/String;)V" } : Jvm.MethodName) ∈ GW := gwi 1436 (by decide +kernel) rfl
theorem wd1437 : Cond.code ({ cls := "java/lang/RuntimeException", name := "<init>", desc := "(Ljava/lang/String;)V" } : Jvm.MethodName) prog_22_method_2_code (2 : Nat) (Option.none : Option Jvm.ClassFile.FieldType) ∈ GW := gwi 1437 (by decide +kernel) rfl
theorem wd1438 : Cond.methodLink "java/lang/RuntimeException" (7 : Nat) ({ cls := "java/lang/Exception", name := "<init>", desc := "(Ljava/lang/String;)V" } : Jvm.MethodName) ∈ GW := gwi 1438 (by decide +kernel) rfl
theorem wd1439 : Cond.instanceMethod ({ cls := "java/lang/Exception", name := "<init>", desc := "(Ljava/lang/String;)V" } : Jvm.MethodName) ∈ GW := gwi 1439 (by decide +kernel) rfl
theorem wd1440 : Cond.code ({ cls := "java/lang/Exception", name := "<init>", desc := "(Ljava/lang/String;)V" } : Jvm.MethodName) prog_17_method_2_code (2 : Nat) (Option.none : Option Jvm.ClassFile.FieldType) ∈ GW := gwi 1440 (by decide +kernel) rfl
theorem wd1441 : Cond.methodLink "java/lang/Exception" (7 : Nat) ({ cls := "java/lang/Throwable", name := "<init>", desc := "(Ljava/lang/String;)V" } : Jvm.MethodName) ∈ GW := gwi 1441 (by decide +kernel) rfl
theorem wd1442 : Cond.instanceMethod ({ cls := "java/lang/Throwable", name := "<init>", desc := "(Ljava/lang/String;)V" } : Jvm.MethodName) ∈ GW := gwi 1442 (by decide +kernel) rfl
theorem wd1443 : Cond.code ({ cls := "java/lang/Throwable", name := "<init>", desc := "(Ljava/lang/String;)V" } : Jvm.MethodName) prog_27_method_2_code (2 : Nat) (Option.none : Option Jvm.ClassFile.FieldType) ∈ GW := gwi 1443 (by decide +kernel) rfl
theorem wd1444 : Cond.fieldLink "java/lang/Throwable" (198 : Nat) "java/lang/Throwable" "backtrace" "Ljava/lang/Object;" ∈ GW := gwi 1444 (by decide +kernel) rfl
theorem wd1445 : Cond.fieldLink "java/lang/Throwable" (31 : Nat) "java/lang/Throwable" "detailMessage" "Ljava/lang/String;" ∈ GW := gwi 1445 (by decide +kernel) rfl
theorem wd1446 : Cond.fieldLink "java/lang/Throwable" (7 : Nat) "java/lang/Throwable" "cause" "Ljava/lang/Throwable;" ∈ GW := gwi 1446 (by decide +kernel) rfl
theorem wd1447 : Cond.fieldLink "java/lang/Throwable" (17 : Nat) "java/lang/Throwable" "stackTrace" "[Ljava/lang/StackTraceElement;" ∈ GW := gwi 1447 (by decide +kernel) rfl
theorem wd1448 : Cond.fieldLink "java/lang/Throwable" (24 : Nat) "java/lang/Throwable" "suppressedExceptions" "Ljava/util/List;" ∈ GW := gwi 1448 (by decide +kernel) rfl
theorem wd1457 : Cond.methodLink "BakeryNight" (171 : Nat) ({ cls := "BakeryNight$Night", name := "hasBatch", desc := "(I)Z" } : Jvm.MethodName) ∈ GW := gwi 1457 (by decide +kernel) rfl
theorem wd1458 : Cond.instanceMethod ({ cls := "BakeryNight$Night", name := "hasBatch", desc := "(I)Z" } : Jvm.MethodName) ∈ GW := gwi 1458 (by decide +kernel) rfl
theorem wd1459 : Cond.selects "BakeryNight$Night" ({ cls := "BakeryNight$Night", name := "hasBatch", desc := "(I)Z" } : Jvm.MethodName) ({ cls := "BakeryNight$Night", name := "hasBatch", desc := "(I)Z" } : Jvm.MethodName) ∈ GW := gwi 1459 (by decide +kernel) rfl
theorem wd1460 : Cond.code ({ cls := "BakeryNight$Night", name := "hasBatch", desc := "(I)Z" } : Jvm.MethodName) prog_6_method_18_code (2 : Nat) (Option.some Jvm.ClassFile.FieldType.boolean) ∈ GW := gwi 1460 (by decide +kernel) rfl
theorem wd1461 : Cond.classLink "BakeryNight" (174 : Nat) "java/lang/IndexOutOfBoundsException" ∈ GW := gwi 1461 (by decide +kernel) rfl
theorem wd1462 : Cond.instantiable "java/lang/IndexOutOfBoundsException" (6 : Nat) ∈ GW := gwi 1462 (by decide +kernel) rfl
theorem wd1464 : Cond.selects "java/lang/IndexOutOfBoundsException" ({ cls := "java/lang/Throwable", name := "fillInStackTrace", desc := "(I)Ljava/lang/Throwable;" } : Jvm.MethodName) ({ cls := "java/lang/Throwable", name := "fillInStackTrace", desc := "(I)Ljava/lang/Throwable;" } : Jvm.MethodName) ∈ GW := gwi 1464 (by decide +kernel) rfl
theorem wd1471 : Cond.methodLink "BakeryNight" (178 : Nat) ({ cls := "java/lang/IndexOutOfBoundsException", name := "<init>", desc := "(Ljava/lang/String;)V" } : Jvm.MethodName) ∈ GW := gwi 1471 (by decide +kernel) rfl
theorem wd1472 : Cond.instanceMethod ({ cls := "java/lang/IndexOutOfBoundsException", name := "<init>", desc := "(Ljava/lang/String;)V" } : Jvm.MethodName) ∈ GW := gwi 1472 (by decide +kernel) rfl
theorem wd1473 : Cond.code ({ cls := "java/lang/IndexOutOfBoundsException", name := "<init>", desc := "(Ljava/lang/String;)V" } : Jvm.MethodName) prog_19_method_2_code (2 : Nat) (Option.none : Option Jvm.ClassFile.FieldType) ∈ GW := gwi 1473 (by decide +kernel) rfl
theorem wd1474 : Cond.methodLink "java/lang/IndexOutOfBoundsException" (7 : Nat) ({ cls := "java/lang/RuntimeException", name := "<init>", desc := "(Ljava/lang/String;)V" } : Jvm.MethodName) ∈ GW := gwi 1474 (by decide +kernel) rfl
theorem wd1477 : Cond.methodLink "BakeryNightLaw" (93 : Nat) ({ cls := "BakeryNightLaw", name := "stageMinute", desc := "(LBakeryNight;II[J)I" } : Jvm.MethodName) ∈ GW := gwi 1477 (by decide +kernel) rfl
theorem wd1478 : Cond.static ({ cls := "BakeryNightLaw", name := "stageMinute", desc := "(LBakeryNight;II[J)I" } : Jvm.MethodName) ∈ GW := gwi 1478 (by decide +kernel) rfl
theorem wd1480 : Cond.methodLink "BakeryNightLaw" (17 : Nat) ({ cls := "BakeryNight", name := "stageMinute", desc := "(II)I" } : Jvm.MethodName) ∈ GW := gwi 1480 (by decide +kernel) rfl
theorem wd1481 : Cond.instanceMethod ({ cls := "BakeryNight", name := "stageMinute", desc := "(II)I" } : Jvm.MethodName) ∈ GW := gwi 1481 (by decide +kernel) rfl
theorem wd1482 : Cond.selects "BakeryNight" ({ cls := "BakeryNight", name := "stageMinute", desc := "(II)I" } : Jvm.MethodName) ({ cls := "BakeryNight", name := "stageMinute", desc := "(II)I" } : Jvm.MethodName) ∈ GW := gwi 1482 (by decide +kernel) rfl
theorem wd1483 : Cond.code ({ cls := "BakeryNight", name := "stageMinute", desc := "(II)I" } : Jvm.MethodName) prog_1_method_19_code (3 : Nat) (Option.some Jvm.ClassFile.FieldType.int) ∈ GW := gwi 1483 (by decide +kernel) rfl
theorem wd1485 : Cond.methodLink "BakeryNightLaw" (97 : Nat) ({ cls := "BakeryNightLaw", name := "ovenOf", desc := "(LBakeryNight;I[J)I" } : Jvm.MethodName) ∈ GW := gwi 1485 (by decide +kernel) rfl
theorem wd1486 : Cond.static ({ cls := "BakeryNightLaw", name := "ovenOf", desc := "(LBakeryNight;I[J)I" } : Jvm.MethodName) ∈ GW := gwi 1486 (by decide +kernel) rfl
theorem wd1488 : Cond.methodLink "BakeryNightLaw" (21 : Nat) ({ cls := "BakeryNight", name := "ovenOf", desc := "(I)I" } : Jvm.MethodName) ∈ GW := gwi 1488 (by decide +kernel) rfl
theorem wd1489 : Cond.instanceMethod ({ cls := "BakeryNight", name := "ovenOf", desc := "(I)I" } : Jvm.MethodName) ∈ GW := gwi 1489 (by decide +kernel) rfl
theorem wd1490 : Cond.selects "BakeryNight" ({ cls := "BakeryNight", name := "ovenOf", desc := "(I)I" } : Jvm.MethodName) ({ cls := "BakeryNight", name := "ovenOf", desc := "(I)I" } : Jvm.MethodName) ∈ GW := gwi 1490 (by decide +kernel) rfl
theorem wd1491 : Cond.code ({ cls := "BakeryNight", name := "ovenOf", desc := "(I)I" } : Jvm.MethodName) prog_1_method_20_code (2 : Nat) (Option.some Jvm.ClassFile.FieldType.int) ∈ GW := gwi 1491 (by decide +kernel) rfl
theorem wd1492 : Cond.classLink "BakeryNightLaw" (25 : Nat) "BakeryNightModel" ∈ GW := gwi 1492 (by decide +kernel) rfl
theorem wd1493 : Cond.instantiable "BakeryNightModel" (55 : Nat) ∈ GW := gwi 1493 (by decide +kernel) rfl
theorem wd1494 : Cond.methodLink "BakeryNightLaw" (27 : Nat) ({ cls := "BakeryNightModel", name := "<init>", desc := "()V" } : Jvm.MethodName) ∈ GW := gwi 1494 (by decide +kernel) rfl
theorem wd1495 : Cond.instanceMethod ({ cls := "BakeryNightModel", name := "<init>", desc := "()V" } : Jvm.MethodName) ∈ GW := gwi 1495 (by decide +kernel) rfl
theorem wd1496 : Cond.code ({ cls := "BakeryNightModel", name := "<init>", desc := "()V" } : Jvm.MethodName) prog_15_method_1_code (1 : Nat) (Option.none : Option Jvm.ClassFile.FieldType) ∈ GW := gwi 1496 (by decide +kernel) rfl
theorem wd1497 : Cond.methodLink "BakeryNightModel" (1 : Nat) ({ cls := "java/lang/Object", name := "<init>", desc := "()V" } : Jvm.MethodName) ∈ GW := gwi 1497 (by decide +kernel) rfl
theorem wd1498 : Cond.methodLink "BakeryNightModel" (106 : Nat) ({ cls := "BakeryNightModel", name := "empties", desc := "([I)V" } : Jvm.MethodName) ∈ GW := gwi 1498 (by decide +kernel) rfl
theorem wd1500 : Cond.instanceMethod ({ cls := "BakeryNightModel", name := "empties", desc := "([I)V" } : Jvm.MethodName) ∈ GW := gwi 1500 (by decide +kernel) rfl
theorem wd1501 : Cond.code ({ cls := "BakeryNightModel", name := "empties", desc := "([I)V" } : Jvm.MethodName) prog_15_method_9_code (3 : Nat) (Option.none : Option Jvm.ClassFile.FieldType) ∈ GW := gwi 1501 (by decide +kernel) rfl
theorem wd1502 : Cond.fieldLink "BakeryNightModel" (7 : Nat) "BakeryNightModel" "bakery" "[I" ∈ GW := gwi 1502 (by decide +kernel) rfl
theorem wd1503 : Cond.fieldLink "BakeryNightModel" (13 : Nat) "BakeryNightModel" "draft" "[I" ∈ GW := gwi 1503 (by decide +kernel) rfl
theorem wd1504 : Cond.fieldLink "BakeryNightModel" (16 : Nat) "BakeryNightModel" "trial" "[I" ∈ GW := gwi 1504 (by decide +kernel) rfl
theorem wd1505 : Cond.fieldLink "BakeryNightModel" (19 : Nat) "BakeryNightModel" "undo" "[I" ∈ GW := gwi 1505 (by decide +kernel) rfl
theorem wd1506 : Cond.fieldLink "BakeryNightModel" (318 : Nat) "BakeryNightModel" "undos" "I" ∈ GW := gwi 1506 (by decide +kernel) rfl
theorem wd1507 : Cond.fieldLink "BakeryNightModel" (321 : Nat) "BakeryNightModel" "hasNight" "Z" ∈ GW := gwi 1507 (by decide +kernel) rfl
theorem wd1508 : Cond.fieldLink "BakeryNightModel" (435 : Nat) "BakeryNightModel" "nightStart" "I" ∈ GW := gwi 1508 (by decide +kernel) rfl
theorem wd1509 : Cond.fieldLink "BakeryNightModel" (110 : Nat) "BakeryNightModel" "told" "I" ∈ GW := gwi 1509 (by decide +kernel) rfl
theorem wd1510 : Cond.fieldLink "BakeryNightModel" (22 : Nat) "BakeryNightModel" "buffer" "[B" ∈ GW := gwi 1510 (by decide +kernel) rfl
theorem wd1511 : Cond.fieldLink "BakeryNightModel" (117 : Nat) "BakeryNightModel" "filled" "I" ∈ GW := gwi 1511 (by decide +kernel) rfl
theorem wd1512 : Cond.fieldLink "BakeryNightModel" (124 : Nat) "BakeryNightModel" "length" "I" ∈ GW := gwi 1512 (by decide +kernel) rfl
theorem wd1513 : Cond.fieldLink "BakeryNightModel" (127 : Nat) "BakeryNightModel" "at" "I" ∈ GW := gwi 1513 (by decide +kernel) rfl
theorem wd1514 : Cond.fieldLink "BakeryNightModel" (142 : Nat) "BakeryNightModel" "code" "I" ∈ GW := gwi 1514 (by decide +kernel) rfl
theorem wd1515 : Cond.fieldLink "BakeryNightModel" (26 : Nat) "BakeryNightModel" "offset" "I" ∈ GW := gwi 1515 (by decide +kernel) rfl
theorem wd1516 : Cond.fieldLink "BakeryNightModel" (228 : Nat) "BakeryNightModel" "named" "I" ∈ GW := gwi 1516 (by decide +kernel) rfl
theorem wd1517 : Cond.fieldLink "BakeryNightModel" (30 : Nat) "BakeryNightModel" "doughName" "[J" ∈ GW := gwi 1517 (by decide +kernel) rfl
theorem wd1518 : Cond.fieldLink "BakeryNightModel" (34 : Nat) "BakeryNightModel" "shopName" "[J" ∈ GW := gwi 1518 (by decide +kernel) rfl
theorem wd1519 : Cond.fieldLink "BakeryNightModel" (248 : Nat) "BakeryNightModel" "given" "I" ∈ GW := gwi 1519 (by decide +kernel) rfl
theorem wd1520 : Cond.fieldLink "BakeryNightModel" (37 : Nat) "BakeryNightModel" "batchDough" "[I" ∈ GW := gwi 1520 (by decide +kernel) rfl
theorem wd1521 : Cond.fieldLink "BakeryNightModel" (345 : Nat) "BakeryNightModel" "batches" "I" ∈ GW := gwi 1521 (by decide +kernel) rfl
theorem wd1522 : Cond.fieldLink "BakeryNightModel" (40 : Nat) "BakeryNightModel" "state" "[I" ∈ GW := gwi 1522 (by decide +kernel) rfl
theorem wd1523 : Cond.fieldLink "BakeryNightModel" (43 : Nat) "BakeryNightModel" "until" "[I" ∈ GW := gwi 1523 (by decide +kernel) rfl
theorem wd1524 : Cond.fieldLink "BakeryNightModel" (46 : Nat) "BakeryNightModel" "stage" "[I" ∈ GW := gwi 1524 (by decide +kernel) rfl
theorem wd1525 : Cond.fieldLink "BakeryNightModel" (49 : Nat) "BakeryNightModel" "inOven" "[I" ∈ GW := gwi 1525 (by decide +kernel) rfl
theorem wd1526 : Cond.fieldLink "BakeryNightModel" (52 : Nat) "BakeryNightModel" "proofedAt" "[I" ∈ GW := gwi 1526 (by decide +kernel) rfl
theorem wd1527 : Cond.fieldLink "BakeryNightModel" (55 : Nat) "BakeryNightModel" "risenAt" "[I" ∈ GW := gwi 1527 (by decide +kernel) rfl
theorem wd1528 : Cond.fieldLink "BakeryNightModel" (58 : Nat) "BakeryNightModel" "risen" "[I" ∈ GW := gwi 1528 (by decide +kernel) rfl
theorem wd1529 : Cond.fieldLink "BakeryNightModel" (369 : Nat) "BakeryNightModel" "risenMany" "I" ∈ GW := gwi 1529 (by decide +kernel) rfl
theorem wd1530 : Cond.fieldLink "BakeryNightModel" (61 : Nat) "BakeryNightModel" "proofed" "[I" ∈ GW := gwi 1530 (by decide +kernel) rfl
theorem wd1531 : Cond.fieldLink "BakeryNightModel" (372 : Nat) "BakeryNightModel" "proofedMany" "I" ∈ GW := gwi 1531 (by decide +kernel) rfl
theorem wd1532 : Cond.fieldLink "BakeryNightModel" (64 : Nat) "BakeryNightModel" "heat" "[I" ∈ GW := gwi 1532 (by decide +kernel) rfl
theorem wd1533 : Cond.fieldLink "BakeryNightModel" (67 : Nat) "BakeryNightModel" "toHeat" "[I" ∈ GW := gwi 1533 (by decide +kernel) rfl
theorem wd1534 : Cond.fieldLink "BakeryNightModel" (70 : Nat) "BakeryNightModel" "changed" "[I" ∈ GW := gwi 1534 (by decide +kernel) rfl
theorem wd1535 : Cond.fieldLink "BakeryNightModel" (73 : Nat) "BakeryNightModel" "changes" "[I" ∈ GW := gwi 1535 (by decide +kernel) rfl
theorem wd1536 : Cond.fieldLink "BakeryNightModel" (361 : Nat) "BakeryNightModel" "now" "I" ∈ GW := gwi 1536 (by decide +kernel) rfl
theorem wd1537 : Cond.fieldLink "BakeryNightModel" (375 : Nat) "BakeryNightModel" "ended" "I" ∈ GW := gwi 1537 (by decide +kernel) rfl
theorem wd1538 : Cond.fieldLink "BakeryNightModel" (378 : Nat) "BakeryNightModel" "waitedForMixer" "I" ∈ GW := gwi 1538 (by decide +kernel) rfl
theorem wd1539 : Cond.fieldLink "BakeryNightModel" (381 : Nat) "BakeryNightModel" "waitedForBaker" "I" ∈ GW := gwi 1539 (by decide +kernel) rfl
theorem wd1540 : Cond.fieldLink "BakeryNightModel" (384 : Nat) "BakeryNightModel" "waitedForOven" "I" ∈ GW := gwi 1540 (by decide +kernel) rfl
theorem wd1541 : Cond.fieldLink "BakeryNightModel" (76 : Nat) "BakeryNightModel" "way" "[I" ∈ GW := gwi 1541 (by decide +kernel) rfl
theorem wd1542 : Cond.fieldLink "BakeryNightModel" (79 : Nat) "BakeryNightModel" "least" "[I" ∈ GW := gwi 1542 (by decide +kernel) rfl
theorem wd1543 : Cond.fieldLink "BakeryNightModel" (82 : Nat) "BakeryNightModel" "stops" "[I" ∈ GW := gwi 1543 (by decide +kernel) rfl
theorem wd1544 : Cond.fieldLink "BakeryNightModel" (499 : Nat) "BakeryNightModel" "stopMany" "I" ∈ GW := gwi 1544 (by decide +kernel) rfl
theorem wd1545 : Cond.fieldLink "BakeryNightModel" (85 : Nat) "BakeryNightModel" "shopReady" "[I" ∈ GW := gwi 1545 (by decide +kernel) rfl
theorem wd1546 : Cond.fieldLink "BakeryNightModel" (88 : Nat) "BakeryNightModel" "shopDue" "[I" ∈ GW := gwi 1546 (by decide +kernel) rfl
theorem wd1547 : Cond.fieldLink "BakeryNightModel" (91 : Nat) "BakeryNightModel" "shopLoad" "[I" ∈ GW := gwi 1547 (by decide +kernel) rfl
theorem wd1548 : Cond.fieldLink "BakeryNightModel" (511 : Nat) "BakeryNightModel" "served" "I" ∈ GW := gwi 1548 (by decide +kernel) rfl
theorem wd1549 : Cond.fieldLink "BakeryNightModel" (514 : Nat) "BakeryNightModel" "missed" "I" ∈ GW := gwi 1549 (by decide +kernel) rfl
theorem wd1550 : Cond.fieldLink "BakeryNightModel" (94 : Nat) "BakeryNightModel" "vanSet" "[I" ∈ GW := gwi 1550 (by decide +kernel) rfl
theorem wd1551 : Cond.fieldLink "BakeryNightModel" (97 : Nat) "BakeryNightModel" "vanOf" "[I" ∈ GW := gwi 1551 (by decide +kernel) rfl
theorem wd1552 : Cond.fieldLink "BakeryNightModel" (517 : Nat) "BakeryNightModel" "isEndless" "Z" ∈ GW := gwi 1552 (by decide +kernel) rfl
theorem wd1553 : Cond.fieldLink "BakeryNightModel" (100 : Nat) "BakeryNightModel" "arrives" "[I" ∈ GW := gwi 1553 (by decide +kernel) rfl
theorem wd1554 : Cond.fieldLink "BakeryNightModel" (532 : Nat) "BakeryNightModel" "bestLate" "I" ∈ GW := gwi 1554 (by decide +kernel) rfl
theorem wd1555 : Cond.fieldLink "BakeryNightModel" (544 : Nat) "BakeryNightModel" "bestMinutes" "I" ∈ GW := gwi 1555 (by decide +kernel) rfl
theorem wd1556 : Cond.fieldLink "BakeryNightModel" (103 : Nat) "BakeryNightModel" "bestVan" "[I" ∈ GW := gwi 1556 (by decide +kernel) rfl
theorem wd1668 : Cond.methodLink "BakeryNightLaw" (90 : Nat) ({ cls := "BakeryNightModel", name := "thrown", desc := "()I" } : Jvm.MethodName) ∈ GW := gwi 1668 (by decide +kernel) rfl
theorem wd1669 : Cond.instanceMethod ({ cls := "BakeryNightModel", name := "thrown", desc := "()I" } : Jvm.MethodName) ∈ GW := gwi 1669 (by decide +kernel) rfl
theorem wd1670 : Cond.selects "BakeryNightModel" ({ cls := "BakeryNightModel", name := "thrown", desc := "()I" } : Jvm.MethodName) ({ cls := "BakeryNightModel", name := "thrown", desc := "()I" } : Jvm.MethodName) ∈ GW := gwi 1670 (by decide +kernel) rfl
theorem wd1671 : Cond.code ({ cls := "BakeryNightModel", name := "thrown", desc := "()I" } : Jvm.MethodName) prog_15_method_2_code (1 : Nat) (Option.some Jvm.ClassFile.FieldType.int) ∈ GW := gwi 1671 (by decide +kernel) rfl
theorem wd1672 : Cond.methodLink "BakeryNightLaw" (32 : Nat) ({ cls := "BakeryNightModel", name := "feed", desc := "(IIIII)I" } : Jvm.MethodName) ∈ GW := gwi 1672 (by decide +kernel) rfl
theorem wd1673 : Cond.instanceMethod ({ cls := "BakeryNightModel", name := "feed", desc := "(IIIII)I" } : Jvm.MethodName) ∈ GW := gwi 1673 (by decide +kernel) rfl
theorem wd1674 : Cond.selects "BakeryNightModel" ({ cls := "BakeryNightModel", name := "feed", desc := "(IIIII)I" } : Jvm.MethodName) ({ cls := "BakeryNightModel", name := "feed", desc := "(IIIII)I" } : Jvm.MethodName) ∈ GW := gwi 1674 (by decide +kernel) rfl
theorem wd1675 : Cond.code ({ cls := "BakeryNightModel", name := "feed", desc := "(IIIII)I" } : Jvm.MethodName) prog_15_method_16_code (8 : Nat) (Option.some Jvm.ClassFile.FieldType.int) ∈ GW := gwi 1675 (by decide +kernel) rfl
theorem wd1676 : Cond.methodLink "BakeryNightLaw" (37 : Nat) ({ cls := "BakeryNightModel", name := "truncate", desc := "(I)Z" } : Jvm.MethodName) ∈ GW := gwi 1676 (by decide +kernel) rfl
theorem wd1677 : Cond.instanceMethod ({ cls := "BakeryNightModel", name := "truncate", desc := "(I)Z" } : Jvm.MethodName) ∈ GW := gwi 1677 (by decide +kernel) rfl
theorem wd1678 : Cond.selects "BakeryNightModel" ({ cls := "BakeryNightModel", name := "truncate", desc := "(I)Z" } : Jvm.MethodName) ({ cls := "BakeryNightModel", name := "truncate", desc := "(I)Z" } : Jvm.MethodName) ∈ GW := gwi 1678 (by decide +kernel) rfl
theorem wd1679 : Cond.code ({ cls := "BakeryNightModel", name := "truncate", desc := "(I)Z" } : Jvm.MethodName) prog_15_method_17_code (2 : Nat) (Option.some Jvm.ClassFile.FieldType.boolean) ∈ GW := gwi 1679 (by decide +kernel) rfl
theorem wd1680 : Cond.methodLink "BakeryNightModel" (120 : Nat) ({ cls := "BakeryNightModel", name := "isIn", desc := "(JJJ)Z" } : Jvm.MethodName) ∈ GW := gwi 1680 (by decide +kernel) rfl
theorem wd1682 : Cond.instanceMethod ({ cls := "BakeryNightModel", name := "isIn", desc := "(JJJ)Z" } : Jvm.MethodName) ∈ GW := gwi 1682 (by decide +kernel) rfl
theorem wd1683 : Cond.code ({ cls := "BakeryNightModel", name := "isIn", desc := "(JJJ)Z" } : Jvm.MethodName) prog_15_method_4_code (7 : Nat) (Option.some Jvm.ClassFile.FieldType.boolean) ∈ GW := gwi 1683 (by decide +kernel) rfl
theorem wd1684 : Cond.methodLink "BakeryNightLaw" (42 : Nat) ({ cls := "BakeryNightModel", name := "parseBakery", desc := "()I" } : Jvm.MethodName) ∈ GW := gwi 1684 (by decide +kernel) rfl
theorem wd1685 : Cond.instanceMethod ({ cls := "BakeryNightModel", name := "parseBakery", desc := "()I" } : Jvm.MethodName) ∈ GW := gwi 1685 (by decide +kernel) rfl
theorem wd1686 : Cond.selects "BakeryNightModel" ({ cls := "BakeryNightModel", name := "parseBakery", desc := "()I" } : Jvm.MethodName) ({ cls := "BakeryNightModel", name := "parseBakery", desc := "()I" } : Jvm.MethodName) ∈ GW := gwi 1686 (by decide +kernel) rfl
theorem wd1687 : Cond.code ({ cls := "BakeryNightModel", name := "parseBakery", desc := "()I" } : Jvm.MethodName) prog_15_method_48_code (2 : Nat) (Option.some Jvm.ClassFile.FieldType.int) ∈ GW := gwi 1687 (by decide +kernel) rfl
theorem wd1688 : Cond.methodLink "BakeryNightModel" (168 : Nat) ({ cls := "BakeryNightModel", name := "skips", desc := "()V" } : Jvm.MethodName) ∈ GW := gwi 1688 (by decide +kernel) rfl
theorem wd1690 : Cond.instanceMethod ({ cls := "BakeryNightModel", name := "skips", desc := "()V" } : Jvm.MethodName) ∈ GW := gwi 1690 (by decide +kernel) rfl
theorem wd1691 : Cond.code ({ cls := "BakeryNightModel", name := "skips", desc := "()V" } : Jvm.MethodName) prog_15_method_21_code (1 : Nat) (Option.none : Option Jvm.ClassFile.FieldType) ∈ GW := gwi 1691 (by decide +kernel) rfl
theorem wd1692 : Cond.methodLink "BakeryNightModel" (138 : Nat) ({ cls := "BakeryNightModel", name := "here", desc := "()I" } : Jvm.MethodName) ∈ GW := gwi 1692 (by decide +kernel) rfl
theorem wd1694 : Cond.instanceMethod ({ cls := "BakeryNightModel", name := "here", desc := "()I" } : Jvm.MethodName) ∈ GW := gwi 1694 (by decide +kernel) rfl
theorem wd1695 : Cond.code ({ cls := "BakeryNightModel", name := "here", desc := "()I" } : Jvm.MethodName) prog_15_method_19_code (1 : Nat) (Option.some Jvm.ClassFile.FieldType.int) ∈ GW := gwi 1695 (by decide +kernel) rfl
theorem wd1696 : Cond.methodLink "BakeryNightModel" (130 : Nat) ({ cls := "BakeryNightModel", name := "byteAt", desc := "(I)I" } : Jvm.MethodName) ∈ GW := gwi 1696 (by decide +kernel) rfl
theorem wd1698 : Cond.instanceMethod ({ cls := "BakeryNightModel", name := "byteAt", desc := "(I)I" } : Jvm.MethodName) ∈ GW := gwi 1698 (by decide +kernel) rfl
theorem wd1699 : Cond.code ({ cls := "BakeryNightModel", name := "byteAt", desc := "(I)I" } : Jvm.MethodName) prog_15_method_18_code (2 : Nat) (Option.some Jvm.ClassFile.FieldType.int) ∈ GW := gwi 1699 (by decide +kernel) rfl
theorem wd1700 : Cond.methodLink "BakeryNightModel" (149 : Nat) ({ cls := "BakeryNightModel", name := "fine", desc := "()Z" } : Jvm.MethodName) ∈ GW := gwi 1700 (by decide +kernel) rfl
theorem wd1702 : Cond.instanceMethod ({ cls := "BakeryNightModel", name := "fine", desc := "()Z" } : Jvm.MethodName) ∈ GW := gwi 1702 (by decide +kernel) rfl
theorem wd1703 : Cond.code ({ cls := "BakeryNightModel", name := "fine", desc := "()Z" } : Jvm.MethodName) prog_15_method_22_code (1 : Nat) (Option.some Jvm.ClassFile.FieldType.boolean) ∈ GW := gwi 1703 (by decide +kernel) rfl
theorem wd1704 : Cond.methodLink "BakeryNightModel" (311 : Nat) ({ cls := "BakeryNightModel", name := "statement", desc := "()V" } : Jvm.MethodName) ∈ GW := gwi 1704 (by decide +kernel) rfl
theorem wd1706 : Cond.instanceMethod ({ cls := "BakeryNightModel", name := "statement", desc := "()V" } : Jvm.MethodName) ∈ GW := gwi 1706 (by decide +kernel) rfl
theorem wd1707 : Cond.code ({ cls := "BakeryNightModel", name := "statement", desc := "()V" } : Jvm.MethodName) prog_15_method_47_code (3 : Nat) (Option.none : Option Jvm.ClassFile.FieldType) ∈ GW := gwi 1707 (by decide +kernel) rfl
theorem wd1708 : Cond.methodLink "BakeryNightModel" (295 : Nat) ({ cls := "BakeryNightModel", name := "singleHere", desc := "()I" } : Jvm.MethodName) ∈ GW := gwi 1708 (by decide +kernel) rfl
theorem wd1710 : Cond.instanceMethod ({ cls := "BakeryNightModel", name := "singleHere", desc := "()I" } : Jvm.MethodName) ∈ GW := gwi 1710 (by decide +kernel) rfl
theorem wd1711 : Cond.code ({ cls := "BakeryNightModel", name := "singleHere", desc := "()I" } : Jvm.MethodName) prog_15_method_35_code (1 : Nat) (Option.some Jvm.ClassFile.FieldType.int) ∈ GW := gwi 1711 (by decide +kernel) rfl
theorem wd1713 : Cond.methodLink "BakeryNightModel" (164 : Nat) ({ cls := "BakeryNightModel", name := "isWord", desc := "(Ljava/lang/String;)Z" } : Jvm.MethodName) ∈ GW := gwi 1713 (by decide +kernel) rfl
theorem wd1715 : Cond.instanceMethod ({ cls := "BakeryNightModel", name := "isWord", desc := "(Ljava/lang/String;)Z" } : Jvm.MethodName) ∈ GW := gwi 1715 (by decide +kernel) rfl
theorem wd1716 : Cond.code ({ cls := "BakeryNightModel", name := "isWord", desc := "(Ljava/lang/String;)Z" } : Jvm.MethodName) prog_15_method_25_code (3 : Nat) (Option.some Jvm.ClassFile.FieldType.boolean) ∈ GW := gwi 1716 (by decide +kernel) rfl
theorem wd1717 : Cond.methodLink "BakeryNightModel" (153 : Nat) ({ cls := "BakeryNightModel", name := "wordLength", desc := "()I" } : Jvm.MethodName) ∈ GW := gwi 1717 (by decide +kernel) rfl
theorem wd1719 : Cond.instanceMethod ({ cls := "BakeryNightModel", name := "wordLength", desc := "()I" } : Jvm.MethodName) ∈ GW := gwi 1719 (by decide +kernel) rfl
theorem wd1720 : Cond.code ({ cls := "BakeryNightModel", name := "wordLength", desc := "()I" } : Jvm.MethodName) prog_15_method_24_code (2 : Nat) (Option.some Jvm.ClassFile.FieldType.int) ∈ GW := gwi 1720 (by decide +kernel) rfl
theorem wd1721 : Cond.methodLink "BakeryNightModel" (145 : Nat) ({ cls := "BakeryNightModel", name := "isLetter", desc := "(I)Z" } : Jvm.MethodName) ∈ GW := gwi 1721 (by decide +kernel) rfl
theorem wd1723 : Cond.instanceMethod ({ cls := "BakeryNightModel", name := "isLetter", desc := "(I)Z" } : Jvm.MethodName) ∈ GW := gwi 1723 (by decide +kernel) rfl
theorem wd1724 : Cond.code ({ cls := "BakeryNightModel", name := "isLetter", desc := "(I)Z" } : Jvm.MethodName) prog_15_method_20_code (2 : Nat) (Option.some Jvm.ClassFile.FieldType.boolean) ∈ GW := gwi 1724 (by decide +kernel) rfl
theorem wd1725 : Cond.constantLong "BakeryNightModel" (134 : Nat) (97 : Int64) ∈ GW := gwi 1725 (by decide +kernel) rfl
theorem wd1726 : Cond.constantLong "BakeryNightModel" (136 : Nat) (122 : Int64) ∈ GW := gwi 1726 (by decide +kernel) rfl
theorem wd1727 : Cond.methodLink "BakeryNightModel" (156 : Nat) ({ cls := "java/lang/String", name := "length", desc := "()I" } : Jvm.MethodName) ∈ GW := gwi 1727 (by decide +kernel) rfl
theorem wd1728 : Cond.methodLink "BakeryNightModel" (160 : Nat) ({ cls := "java/lang/String", name := "charAt", desc := "(I)C" } : Jvm.MethodName) ∈ GW := gwi 1728 (by decide +kernel) rfl
theorem wd1732 : Cond.methodLink "BakeryNightModel" (298 : Nat) ({ cls := "BakeryNightModel", name := "manyHere", desc := "()I" } : Jvm.MethodName) ∈ GW := gwi 1732 (by decide +kernel) rfl
theorem wd1734 : Cond.instanceMethod ({ cls := "BakeryNightModel", name := "manyHere", desc := "()I" } : Jvm.MethodName) ∈ GW := gwi 1734 (by decide +kernel) rfl
theorem wd1735 : Cond.code ({ cls := "BakeryNightModel", name := "manyHere", desc := "()I" } : Jvm.MethodName) prog_15_method_36_code (1 : Nat) (Option.some Jvm.ClassFile.FieldType.int) ∈ GW := gwi 1735 (by decide +kernel) rfl
theorem wd1742 : Cond.methodLink "BakeryNightModel" (301 : Nat) ({ cls := "BakeryNightModel", name := "single", desc := "(I)V" } : Jvm.MethodName) ∈ GW := gwi 1742 (by decide +kernel) rfl
theorem wd1744 : Cond.instanceMethod ({ cls := "BakeryNightModel", name := "single", desc := "(I)V" } : Jvm.MethodName) ∈ GW := gwi 1744 (by decide +kernel) rfl
theorem wd1745 : Cond.code ({ cls := "BakeryNightModel", name := "single", desc := "(I)V" } : Jvm.MethodName) prog_15_method_39_code (2 : Nat) (Option.none : Option Jvm.ClassFile.FieldType) ∈ GW := gwi 1745 (by decide +kernel) rfl
theorem wd1746 : Cond.methodLink "BakeryNightModel" (251 : Nat) ({ cls := "BakeryNightModel", name := "has", desc := "(II)Z" } : Jvm.MethodName) ∈ GW := gwi 1746 (by decide +kernel) rfl
theorem wd1748 : Cond.instanceMethod ({ cls := "BakeryNightModel", name := "has", desc := "(II)Z" } : Jvm.MethodName) ∈ GW := gwi 1748 (by decide +kernel) rfl
theorem wd1749 : Cond.code ({ cls := "BakeryNightModel", name := "has", desc := "(II)Z" } : Jvm.MethodName) prog_15_method_5_code (3 : Nat) (Option.some Jvm.ClassFile.FieldType.boolean) ∈ GW := gwi 1749 (by decide +kernel) rfl
theorem wd1750 : Cond.methodLink "BakeryNightModel" (174 : Nat) ({ cls := "BakeryNightModel", name := "faulty", desc := "(II)V" } : Jvm.MethodName) ∈ GW := gwi 1750 (by decide +kernel) rfl
theorem wd1752 : Cond.instanceMethod ({ cls := "BakeryNightModel", name := "faulty", desc := "(II)V" } : Jvm.MethodName) ∈ GW := gwi 1752 (by decide +kernel) rfl
theorem wd1753 : Cond.code ({ cls := "BakeryNightModel", name := "faulty", desc := "(II)V" } : Jvm.MethodName) prog_15_method_23_code (3 : Nat) (Option.none : Option Jvm.ClassFile.FieldType) ∈ GW := gwi 1753 (by decide +kernel) rfl
theorem wd1754 : Cond.methodLink "BakeryNightModel" (255 : Nat) ({ cls := "BakeryNightModel", name := "skipsWord", desc := "()V" } : Jvm.MethodName) ∈ GW := gwi 1754 (by decide +kernel) rfl
theorem wd1756 : Cond.instanceMethod ({ cls := "BakeryNightModel", name := "skipsWord", desc := "()V" } : Jvm.MethodName) ∈ GW := gwi 1756 (by decide +kernel) rfl
theorem wd1757 : Cond.code ({ cls := "BakeryNightModel", name := "skipsWord", desc := "()V" } : Jvm.MethodName) prog_15_method_38_code (1 : Nat) (Option.none : Option Jvm.ClassFile.FieldType) ∈ GW := gwi 1757 (by decide +kernel) rfl
theorem wd1758 : Cond.methodLink "BakeryNightModel" (258 : Nat) ({ cls := "BakeryNightModel", name := "number", desc := "(II)I" } : Jvm.MethodName) ∈ GW := gwi 1758 (by decide +kernel) rfl
theorem wd1760 : Cond.instanceMethod ({ cls := "BakeryNightModel", name := "number", desc := "(II)I" } : Jvm.MethodName) ∈ GW := gwi 1760 (by decide +kernel) rfl
theorem wd1761 : Cond.code ({ cls := "BakeryNightModel", name := "number", desc := "(II)I" } : Jvm.MethodName) prog_15_method_28_code (5 : Nat) (Option.some Jvm.ClassFile.FieldType.int) ∈ GW := gwi 1761 (by decide +kernel) rfl
theorem wd1762 : Cond.constantLong "BakeryNightModel" (178 : Nat) (48 : Int64) ∈ GW := gwi 1762 (by decide +kernel) rfl
theorem wd1763 : Cond.constantLong "BakeryNightModel" (180 : Nat) (57 : Int64) ∈ GW := gwi 1763 (by decide +kernel) rfl
theorem wd1764 : Cond.methodLink "BakeryNightModel" (305 : Nat) ({ cls := "BakeryNightModel", name := "many", desc := "(I)V" } : Jvm.MethodName) ∈ GW := gwi 1764 (by decide +kernel) rfl
theorem wd1766 : Cond.instanceMethod ({ cls := "BakeryNightModel", name := "many", desc := "(I)V" } : Jvm.MethodName) ∈ GW := gwi 1766 (by decide +kernel) rfl
theorem wd1767 : Cond.code ({ cls := "BakeryNightModel", name := "many", desc := "(I)V" } : Jvm.MethodName) prog_15_method_46_code (2 : Nat) (Option.none : Option Jvm.ClassFile.FieldType) ∈ GW := gwi 1767 (by decide +kernel) rfl
theorem wd1768 : Cond.methodLink "BakeryNightModel" (280 : Nat) ({ cls := "BakeryNightModel", name := "mostOf", desc := "(I)I" } : Jvm.MethodName) ∈ GW := gwi 1768 (by decide +kernel) rfl
theorem wd1770 : Cond.instanceMethod ({ cls := "BakeryNightModel", name := "mostOf", desc := "(I)I" } : Jvm.MethodName) ∈ GW := gwi 1770 (by decide +kernel) rfl
theorem wd1771 : Cond.code ({ cls := "BakeryNightModel", name := "mostOf", desc := "(I)I" } : Jvm.MethodName) prog_15_method_37_code (2 : Nat) (Option.some Jvm.ClassFile.FieldType.int) ∈ GW := gwi 1771 (by decide +kernel) rfl
theorem wd1772 : Cond.methodLink "BakeryNightModel" (283 : Nat) ({ cls := "BakeryNightModel", name := "doughStatement", desc := "()V" } : Jvm.MethodName) ∈ GW := gwi 1772 (by decide +kernel) rfl
theorem wd1774 : Cond.instanceMethod ({ cls := "BakeryNightModel", name := "doughStatement", desc := "()V" } : Jvm.MethodName) ∈ GW := gwi 1774 (by decide +kernel) rfl
theorem wd1775 : Cond.code ({ cls := "BakeryNightModel", name := "doughStatement", desc := "()V" } : Jvm.MethodName) prog_15_method_41_code (5 : Nat) (Option.none : Option Jvm.ClassFile.FieldType) ∈ GW := gwi 1775 (by decide +kernel) rfl
theorem wd1776 : Cond.methodLink "BakeryNightModel" (265 : Nat) ({ cls := "BakeryNightModel", name := "fresh", desc := "([JI)J" } : Jvm.MethodName) ∈ GW := gwi 1776 (by decide +kernel) rfl
theorem wd1778 : Cond.instanceMethod ({ cls := "BakeryNightModel", name := "fresh", desc := "([JI)J" } : Jvm.MethodName) ∈ GW := gwi 1778 (by decide +kernel) rfl
theorem wd1779 : Cond.code ({ cls := "BakeryNightModel", name := "fresh", desc := "([JI)J" } : Jvm.MethodName) prog_15_method_32_code (5 : Nat) (Option.some Jvm.ClassFile.FieldType.long) ∈ GW := gwi 1779 (by decide +kernel) rfl
theorem wd1780 : Cond.methodLink "BakeryNightModel" (236 : Nat) ({ cls := "BakeryNightModel", name := "name", desc := "()J" } : Jvm.MethodName) ∈ GW := gwi 1780 (by decide +kernel) rfl
theorem wd1782 : Cond.instanceMethod ({ cls := "BakeryNightModel", name := "name", desc := "()J" } : Jvm.MethodName) ∈ GW := gwi 1782 (by decide +kernel) rfl
theorem wd1783 : Cond.code ({ cls := "BakeryNightModel", name := "name", desc := "()J" } : Jvm.MethodName) prog_15_method_30_code (5 : Nat) (Option.some Jvm.ClassFile.FieldType.long) ∈ GW := gwi 1783 (by decide +kernel) rfl
theorem wd1784 : Cond.methodLink "BakeryNightModel" (231 : Nat) ({ cls := "BakeryNightModel", name := "isKeyword", desc := "()Z" } : Jvm.MethodName) ∈ GW := gwi 1784 (by decide +kernel) rfl
theorem wd1786 : Cond.instanceMethod ({ cls := "BakeryNightModel", name := "isKeyword", desc := "()Z" } : Jvm.MethodName) ∈ GW := gwi 1786 (by decide +kernel) rfl
theorem wd1787 : Cond.code ({ cls := "BakeryNightModel", name := "isKeyword", desc := "()Z" } : Jvm.MethodName) prog_15_method_29_code (1 : Nat) (Option.some Jvm.ClassFile.FieldType.boolean) ∈ GW := gwi 1787 (by decide +kernel) rfl
theorem wd1802 : Cond.constantLong "BakeryNightModel" (234 : Nat) (27 : Int64) ∈ GW := gwi 1802 (by decide +kernel) rfl
theorem wd1803 : Cond.methodLink "BakeryNightModel" (240 : Nat) ({ cls := "BakeryNightModel", name := "placeOf", desc := "([JIJ)I" } : Jvm.MethodName) ∈ GW := gwi 1803 (by decide +kernel) rfl
theorem wd1805 : Cond.instanceMethod ({ cls := "BakeryNightModel", name := "placeOf", desc := "([JIJ)I" } : Jvm.MethodName) ∈ GW := gwi 1805 (by decide +kernel) rfl
theorem wd1806 : Cond.code ({ cls := "BakeryNightModel", name := "placeOf", desc := "([JIJ)I" } : Jvm.MethodName) prog_15_method_31_code (6 : Nat) (Option.some Jvm.ClassFile.FieldType.int) ∈ GW := gwi 1806 (by decide +kernel) rfl
theorem wd1807 : Cond.methodLink "BakeryNightModel" (269 : Nat) ({ cls := "BakeryNightModel", name := "part", desc := "(ILjava/lang/String;II)V" } : Jvm.MethodName) ∈ GW := gwi 1807 (by decide +kernel) rfl
theorem wd1809 : Cond.instanceMethod ({ cls := "BakeryNightModel", name := "part", desc := "(ILjava/lang/String;II)V" } : Jvm.MethodName) ∈ GW := gwi 1809 (by decide +kernel) rfl
theorem wd1810 : Cond.code ({ cls := "BakeryNightModel", name := "part", desc := "(ILjava/lang/String;II)V" } : Jvm.MethodName) prog_15_method_40_code (5 : Nat) (Option.none : Option Jvm.ClassFile.FieldType) ∈ GW := gwi 1810 (by decide +kernel) rfl
theorem wd1811 : Cond.methodLink "BakeryNightModel" (261 : Nat) ({ cls := "BakeryNightModel", name := "needs", desc := "(Ljava/lang/String;)V" } : Jvm.MethodName) ∈ GW := gwi 1811 (by decide +kernel) rfl
theorem wd1813 : Cond.instanceMethod ({ cls := "BakeryNightModel", name := "needs", desc := "(Ljava/lang/String;)V" } : Jvm.MethodName) ∈ GW := gwi 1813 (by decide +kernel) rfl
theorem wd1814 : Cond.code ({ cls := "BakeryNightModel", name := "needs", desc := "(Ljava/lang/String;)V" } : Jvm.MethodName) prog_15_method_27_code (2 : Nat) (Option.none : Option Jvm.ClassFile.FieldType) ∈ GW := gwi 1814 (by decide +kernel) rfl
theorem wd1815 : Cond.methodLink "BakeryNightModel" (171 : Nat) ({ cls := "BakeryNightModel", name := "takes", desc := "(Ljava/lang/String;)Z" } : Jvm.MethodName) ∈ GW := gwi 1815 (by decide +kernel) rfl
theorem wd1817 : Cond.instanceMethod ({ cls := "BakeryNightModel", name := "takes", desc := "(Ljava/lang/String;)Z" } : Jvm.MethodName) ∈ GW := gwi 1817 (by decide +kernel) rfl
theorem wd1818 : Cond.code ({ cls := "BakeryNightModel", name := "takes", desc := "(Ljava/lang/String;)Z" } : Jvm.MethodName) prog_15_method_26_code (2 : Nat) (Option.some Jvm.ClassFile.FieldType.boolean) ∈ GW := gwi 1818 (by decide +kernel) rfl
theorem wd1819 : Cond.methodLink "BakeryNightModel" (286 : Nat) ({ cls := "BakeryNightModel", name := "ovenStatement", desc := "()V" } : Jvm.MethodName) ∈ GW := gwi 1819 (by decide +kernel) rfl
theorem wd1821 : Cond.instanceMethod ({ cls := "BakeryNightModel", name := "ovenStatement", desc := "()V" } : Jvm.MethodName) ∈ GW := gwi 1821 (by decide +kernel) rfl
theorem wd1822 : Cond.code ({ cls := "BakeryNightModel", name := "ovenStatement", desc := "()V" } : Jvm.MethodName) prog_15_method_42_code (2 : Nat) (Option.none : Option Jvm.ClassFile.FieldType) ∈ GW := gwi 1822 (by decide +kernel) rfl
theorem wd1823 : Cond.methodLink "BakeryNightModel" (289 : Nat) ({ cls := "BakeryNightModel", name := "streetStatement", desc := "()V" } : Jvm.MethodName) ∈ GW := gwi 1823 (by decide +kernel) rfl
theorem wd1825 : Cond.instanceMethod ({ cls := "BakeryNightModel", name := "streetStatement", desc := "()V" } : Jvm.MethodName) ∈ GW := gwi 1825 (by decide +kernel) rfl
theorem wd1826 : Cond.code ({ cls := "BakeryNightModel", name := "streetStatement", desc := "()V" } : Jvm.MethodName) prog_15_method_44_code (3 : Nat) (Option.none : Option Jvm.ClassFile.FieldType) ∈ GW := gwi 1826 (by decide +kernel) rfl
theorem wd1827 : Cond.methodLink "BakeryNightModel" (277 : Nat) ({ cls := "BakeryNightModel", name := "place", desc := "()I" } : Jvm.MethodName) ∈ GW := gwi 1827 (by decide +kernel) rfl
theorem wd1829 : Cond.instanceMethod ({ cls := "BakeryNightModel", name := "place", desc := "()I" } : Jvm.MethodName) ∈ GW := gwi 1829 (by decide +kernel) rfl
theorem wd1830 : Cond.code ({ cls := "BakeryNightModel", name := "place", desc := "()I" } : Jvm.MethodName) prog_15_method_43_code (1 : Nat) (Option.some Jvm.ClassFile.FieldType.int) ∈ GW := gwi 1830 (by decide +kernel) rfl
theorem wd1831 : Cond.methodLink "BakeryNightModel" (273 : Nat) ({ cls := "BakeryNightModel", name := "known", desc := "([JI)I" } : Jvm.MethodName) ∈ GW := gwi 1831 (by decide +kernel) rfl
theorem wd1833 : Cond.instanceMethod ({ cls := "BakeryNightModel", name := "known", desc := "([JI)I" } : Jvm.MethodName) ∈ GW := gwi 1833 (by decide +kernel) rfl
theorem wd1834 : Cond.code ({ cls := "BakeryNightModel", name := "known", desc := "([JI)I" } : Jvm.MethodName) prog_15_method_33_code (6 : Nat) (Option.some Jvm.ClassFile.FieldType.int) ∈ GW := gwi 1834 (by decide +kernel) rfl
theorem wd1835 : Cond.methodLink "BakeryNightModel" (244 : Nat) ({ cls := "BakeryNightModel", name := "greater", desc := "(II)I" } : Jvm.MethodName) ∈ GW := gwi 1835 (by decide +kernel) rfl
theorem wd1837 : Cond.instanceMethod ({ cls := "BakeryNightModel", name := "greater", desc := "(II)I" } : Jvm.MethodName) ∈ GW := gwi 1837 (by decide +kernel) rfl
theorem wd1838 : Cond.code ({ cls := "BakeryNightModel", name := "greater", desc := "(II)I" } : Jvm.MethodName) prog_15_method_6_code (3 : Nat) (Option.some Jvm.ClassFile.FieldType.int) ∈ GW := gwi 1838 (by decide +kernel) rfl
theorem wd1839 : Cond.methodLink "BakeryNightModel" (292 : Nat) ({ cls := "BakeryNightModel", name := "orderStatement", desc := "()V" } : Jvm.MethodName) ∈ GW := gwi 1839 (by decide +kernel) rfl
theorem wd1841 : Cond.instanceMethod ({ cls := "BakeryNightModel", name := "orderStatement", desc := "()V" } : Jvm.MethodName) ∈ GW := gwi 1841 (by decide +kernel) rfl
theorem wd1842 : Cond.code ({ cls := "BakeryNightModel", name := "orderStatement", desc := "()V" } : Jvm.MethodName) prog_15_method_45_code (2 : Nat) (Option.none : Option Jvm.ClassFile.FieldType) ∈ GW := gwi 1842 (by decide +kernel) rfl
theorem wd1843 : Cond.methodLink "BakeryNightModel" (308 : Nat) ({ cls := "BakeryNightModel", name := "semicolon", desc := "()V" } : Jvm.MethodName) ∈ GW := gwi 1843 (by decide +kernel) rfl
theorem wd1845 : Cond.instanceMethod ({ cls := "BakeryNightModel", name := "semicolon", desc := "()V" } : Jvm.MethodName) ∈ GW := gwi 1845 (by decide +kernel) rfl
theorem wd1846 : Cond.code ({ cls := "BakeryNightModel", name := "semicolon", desc := "()V" } : Jvm.MethodName) prog_15_method_34_code (1 : Nat) (Option.none : Option Jvm.ClassFile.FieldType) ∈ GW := gwi 1846 (by decide +kernel) rfl
theorem wd1847 : Cond.methodLink "BakeryNightModel" (314 : Nat) ({ cls := "BakeryNightModel", name := "copies", desc := "([I[I)V" } : Jvm.MethodName) ∈ GW := gwi 1847 (by decide +kernel) rfl
theorem wd1849 : Cond.instanceMethod ({ cls := "BakeryNightModel", name := "copies", desc := "([I[I)V" } : Jvm.MethodName) ∈ GW := gwi 1849 (by decide +kernel) rfl
theorem wd1850 : Cond.code ({ cls := "BakeryNightModel", name := "copies", desc := "([I[I)V" } : Jvm.MethodName) prog_15_method_10_code (4 : Nat) (Option.none : Option Jvm.ClassFile.FieldType) ∈ GW := gwi 1850 (by decide +kernel) rfl
theorem wd1851 : Cond.methodLink "BakeryNightLaw" (46 : Nat) ({ cls := "BakeryNightModel", name := "errorCode", desc := "()I" } : Jvm.MethodName) ∈ GW := gwi 1851 (by decide +kernel) rfl
theorem wd1852 : Cond.instanceMethod ({ cls := "BakeryNightModel", name := "errorCode", desc := "()I" } : Jvm.MethodName) ∈ GW := gwi 1852 (by decide +kernel) rfl
theorem wd1853 : Cond.selects "BakeryNightModel" ({ cls := "BakeryNightModel", name := "errorCode", desc := "()I" } : Jvm.MethodName) ({ cls := "BakeryNightModel", name := "errorCode", desc := "()I" } : Jvm.MethodName) ∈ GW := gwi 1853 (by decide +kernel) rfl
theorem wd1854 : Cond.code ({ cls := "BakeryNightModel", name := "errorCode", desc := "()I" } : Jvm.MethodName) prog_15_method_49_code (1 : Nat) (Option.some Jvm.ClassFile.FieldType.int) ∈ GW := gwi 1854 (by decide +kernel) rfl
theorem wd1855 : Cond.methodLink "BakeryNightLaw" (50 : Nat) ({ cls := "BakeryNightModel", name := "errorOffset", desc := "()I" } : Jvm.MethodName) ∈ GW := gwi 1855 (by decide +kernel) rfl
theorem wd1856 : Cond.instanceMethod ({ cls := "BakeryNightModel", name := "errorOffset", desc := "()I" } : Jvm.MethodName) ∈ GW := gwi 1856 (by decide +kernel) rfl
theorem wd1857 : Cond.selects "BakeryNightModel" ({ cls := "BakeryNightModel", name := "errorOffset", desc := "()I" } : Jvm.MethodName) ({ cls := "BakeryNightModel", name := "errorOffset", desc := "()I" } : Jvm.MethodName) ∈ GW := gwi 1857 (by decide +kernel) rfl
theorem wd1858 : Cond.code ({ cls := "BakeryNightModel", name := "errorOffset", desc := "()I" } : Jvm.MethodName) prog_15_method_50_code (1 : Nat) (Option.some Jvm.ClassFile.FieldType.int) ∈ GW := gwi 1858 (by decide +kernel) rfl
theorem wd1859 : Cond.methodLink "BakeryNightLaw" (54 : Nat) ({ cls := "BakeryNightModel", name := "orderCount", desc := "()I" } : Jvm.MethodName) ∈ GW := gwi 1859 (by decide +kernel) rfl
theorem wd1860 : Cond.instanceMethod ({ cls := "BakeryNightModel", name := "orderCount", desc := "()I" } : Jvm.MethodName) ∈ GW := gwi 1860 (by decide +kernel) rfl
theorem wd1861 : Cond.selects "BakeryNightModel" ({ cls := "BakeryNightModel", name := "orderCount", desc := "()I" } : Jvm.MethodName) ({ cls := "BakeryNightModel", name := "orderCount", desc := "()I" } : Jvm.MethodName) ∈ GW := gwi 1861 (by decide +kernel) rfl
theorem wd1862 : Cond.code ({ cls := "BakeryNightModel", name := "orderCount", desc := "()I" } : Jvm.MethodName) prog_15_method_59_code (1 : Nat) (Option.some Jvm.ClassFile.FieldType.int) ∈ GW := gwi 1862 (by decide +kernel) rfl
theorem wd1863 : Cond.methodLink "BakeryNightLaw" (58 : Nat) ({ cls := "BakeryNightModel", name := "orderedLoaves", desc := "(I)I" } : Jvm.MethodName) ∈ GW := gwi 1863 (by decide +kernel) rfl
theorem wd1864 : Cond.instanceMethod ({ cls := "BakeryNightModel", name := "orderedLoaves", desc := "(I)I" } : Jvm.MethodName) ∈ GW := gwi 1864 (by decide +kernel) rfl
theorem wd1865 : Cond.selects "BakeryNightModel" ({ cls := "BakeryNightModel", name := "orderedLoaves", desc := "(I)I" } : Jvm.MethodName) ({ cls := "BakeryNightModel", name := "orderedLoaves", desc := "(I)I" } : Jvm.MethodName) ∈ GW := gwi 1865 (by decide +kernel) rfl
theorem wd1866 : Cond.code ({ cls := "BakeryNightModel", name := "orderedLoaves", desc := "(I)I" } : Jvm.MethodName) prog_15_method_60_code (2 : Nat) (Option.some Jvm.ClassFile.FieldType.int) ∈ GW := gwi 1866 (by decide +kernel) rfl
theorem wd1867 : Cond.methodLink "BakeryNightModel" (351 : Nat) ({ cls := "BakeryNightModel", name := "isDough", desc := "(I)Z" } : Jvm.MethodName) ∈ GW := gwi 1867 (by decide +kernel) rfl
theorem wd1869 : Cond.instanceMethod ({ cls := "BakeryNightModel", name := "isDough", desc := "(I)Z" } : Jvm.MethodName) ∈ GW := gwi 1869 (by decide +kernel) rfl
theorem wd1870 : Cond.code ({ cls := "BakeryNightModel", name := "isDough", desc := "(I)Z" } : Jvm.MethodName) prog_15_method_56_code (2 : Nat) (Option.some Jvm.ClassFile.FieldType.boolean) ∈ GW := gwi 1870 (by decide +kernel) rfl
theorem wd1871 : Cond.methodLink "BakeryNightModel" (329 : Nat) ({ cls := "BakeryNightModel", name := "loavesOf", desc := "([II)I" } : Jvm.MethodName) ∈ GW := gwi 1871 (by decide +kernel) rfl
theorem wd1873 : Cond.instanceMethod ({ cls := "BakeryNightModel", name := "loavesOf", desc := "([II)I" } : Jvm.MethodName) ∈ GW := gwi 1873 (by decide +kernel) rfl
theorem wd1874 : Cond.code ({ cls := "BakeryNightModel", name := "loavesOf", desc := "([II)I" } : Jvm.MethodName) prog_15_method_51_code (5 : Nat) (Option.some Jvm.ClassFile.FieldType.int) ∈ GW := gwi 1874 (by decide +kernel) rfl
theorem wd1875 : Cond.methodLink "BakeryNightModel" (325 : Nat) ({ cls := "BakeryNightModel", name := "isMeant", desc := "([II)Z" } : Jvm.MethodName) ∈ GW := gwi 1875 (by decide +kernel) rfl
theorem wd1877 : Cond.instanceMethod ({ cls := "BakeryNightModel", name := "isMeant", desc := "([II)Z" } : Jvm.MethodName) ∈ GW := gwi 1877 (by decide +kernel) rfl
theorem wd1878 : Cond.code ({ cls := "BakeryNightModel", name := "isMeant", desc := "([II)Z" } : Jvm.MethodName) prog_15_method_15_code (3 : Nat) (Option.some Jvm.ClassFile.FieldType.boolean) ∈ GW := gwi 1878 (by decide +kernel) rfl
theorem wd1879 : Cond.methodLink "BakeryNightModel" (113 : Nat) ({ cls := "BakeryNightModel", name := "order", desc := "([III)I" } : Jvm.MethodName) ∈ GW := gwi 1879 (by decide +kernel) rfl
theorem wd1881 : Cond.instanceMethod ({ cls := "BakeryNightModel", name := "order", desc := "([III)I" } : Jvm.MethodName) ∈ GW := gwi 1881 (by decide +kernel) rfl
theorem wd1882 : Cond.code ({ cls := "BakeryNightModel", name := "order", desc := "([III)I" } : Jvm.MethodName) prog_15_method_14_code (4 : Nat) (Option.some Jvm.ClassFile.FieldType.int) ∈ GW := gwi 1882 (by decide +kernel) rfl
theorem wd1883 : Cond.methodLink "BakeryNightLaw" (62 : Nat) ({ cls := "BakeryNightModel", name := "batchCount", desc := "()I" } : Jvm.MethodName) ∈ GW := gwi 1883 (by decide +kernel) rfl
theorem wd1884 : Cond.instanceMethod ({ cls := "BakeryNightModel", name := "batchCount", desc := "()I" } : Jvm.MethodName) ∈ GW := gwi 1884 (by decide +kernel) rfl
theorem wd1885 : Cond.selects "BakeryNightModel" ({ cls := "BakeryNightModel", name := "batchCount", desc := "()I" } : Jvm.MethodName) ({ cls := "BakeryNightModel", name := "batchCount", desc := "()I" } : Jvm.MethodName) ∈ GW := gwi 1885 (by decide +kernel) rfl
theorem wd1886 : Cond.code ({ cls := "BakeryNightModel", name := "batchCount", desc := "()I" } : Jvm.MethodName) prog_15_method_61_code (2 : Nat) (Option.some Jvm.ClassFile.FieldType.int) ∈ GW := gwi 1886 (by decide +kernel) rfl
theorem wd1887 : Cond.methodLink "BakeryNightModel" (354 : Nat) ({ cls := "BakeryNightModel", name := "allBatches", desc := "([I)I" } : Jvm.MethodName) ∈ GW := gwi 1887 (by decide +kernel) rfl
theorem wd1889 : Cond.instanceMethod ({ cls := "BakeryNightModel", name := "allBatches", desc := "([I)I" } : Jvm.MethodName) ∈ GW := gwi 1889 (by decide +kernel) rfl
theorem wd1890 : Cond.code ({ cls := "BakeryNightModel", name := "allBatches", desc := "([I)I" } : Jvm.MethodName) prog_15_method_53_code (4 : Nat) (Option.some Jvm.ClassFile.FieldType.int) ∈ GW := gwi 1890 (by decide +kernel) rfl
theorem wd1891 : Cond.methodLink "BakeryNightModel" (338 : Nat) ({ cls := "BakeryNightModel", name := "batchesOf", desc := "([II)I" } : Jvm.MethodName) ∈ GW := gwi 1891 (by decide +kernel) rfl
theorem wd1893 : Cond.instanceMethod ({ cls := "BakeryNightModel", name := "batchesOf", desc := "([II)I" } : Jvm.MethodName) ∈ GW := gwi 1893 (by decide +kernel) rfl
theorem wd1894 : Cond.code ({ cls := "BakeryNightModel", name := "batchesOf", desc := "([II)I" } : Jvm.MethodName) prog_15_method_52_code (3 : Nat) (Option.some Jvm.ClassFile.FieldType.int) ∈ GW := gwi 1894 (by decide +kernel) rfl
theorem wd1895 : Cond.methodLink "BakeryNightModel" (333 : Nat) ({ cls := "BakeryNightModel", name := "dough", desc := "([III)I" } : Jvm.MethodName) ∈ GW := gwi 1895 (by decide +kernel) rfl
theorem wd1897 : Cond.instanceMethod ({ cls := "BakeryNightModel", name := "dough", desc := "([III)I" } : Jvm.MethodName) ∈ GW := gwi 1897 (by decide +kernel) rfl
theorem wd1898 : Cond.code ({ cls := "BakeryNightModel", name := "dough", desc := "([III)I" } : Jvm.MethodName) prog_15_method_11_code (4 : Nat) (Option.some Jvm.ClassFile.FieldType.int) ∈ GW := gwi 1898 (by decide +kernel) rfl
theorem wd1899 : Cond.methodLink "BakeryNightModel" (335 : Nat) ({ cls := "BakeryNightModel", name := "up", desc := "(II)I" } : Jvm.MethodName) ∈ GW := gwi 1899 (by decide +kernel) rfl
theorem wd1901 : Cond.instanceMethod ({ cls := "BakeryNightModel", name := "up", desc := "(II)I" } : Jvm.MethodName) ∈ GW := gwi 1901 (by decide +kernel) rfl
theorem wd1902 : Cond.code ({ cls := "BakeryNightModel", name := "up", desc := "(II)I" } : Jvm.MethodName) prog_15_method_8_code (3 : Nat) (Option.some Jvm.ClassFile.FieldType.int) ∈ GW := gwi 1902 (by decide +kernel) rfl
theorem wd1903 : Cond.methodLink "BakeryNightLaw" (67 : Nat) ({ cls := "BakeryNightModel", name := "risingMinutes", desc := "(IZ)I" } : Jvm.MethodName) ∈ GW := gwi 1903 (by decide +kernel) rfl
theorem wd1904 : Cond.instanceMethod ({ cls := "BakeryNightModel", name := "risingMinutes", desc := "(IZ)I" } : Jvm.MethodName) ∈ GW := gwi 1904 (by decide +kernel) rfl
theorem wd1905 : Cond.selects "BakeryNightModel" ({ cls := "BakeryNightModel", name := "risingMinutes", desc := "(IZ)I" } : Jvm.MethodName) ({ cls := "BakeryNightModel", name := "risingMinutes", desc := "(IZ)I" } : Jvm.MethodName) ∈ GW := gwi 1905 (by decide +kernel) rfl
theorem wd1906 : Cond.code ({ cls := "BakeryNightModel", name := "risingMinutes", desc := "(IZ)I" } : Jvm.MethodName) prog_15_method_63_code (3 : Nat) (Option.some Jvm.ClassFile.FieldType.int) ∈ GW := gwi 1906 (by decide +kernel) rfl
theorem wd1907 : Cond.methodLink "BakeryNightModel" (358 : Nat) ({ cls := "BakeryNightModel", name := "slowed", desc := "([II)I" } : Jvm.MethodName) ∈ GW := gwi 1907 (by decide +kernel) rfl
theorem wd1909 : Cond.instanceMethod ({ cls := "BakeryNightModel", name := "slowed", desc := "([II)I" } : Jvm.MethodName) ∈ GW := gwi 1909 (by decide +kernel) rfl
theorem wd1910 : Cond.code ({ cls := "BakeryNightModel", name := "slowed", desc := "([II)I" } : Jvm.MethodName) prog_15_method_62_code (3 : Nat) (Option.some Jvm.ClassFile.FieldType.int) ∈ GW := gwi 1910 (by decide +kernel) rfl
theorem wd1911 : Cond.methodLink "BakeryNightLaw" (83 : Nat) ({ cls := "BakeryNightModel", name := "simulate", desc := "(I)I" } : Jvm.MethodName) ∈ GW := gwi 1911 (by decide +kernel) rfl
theorem wd1912 : Cond.instanceMethod ({ cls := "BakeryNightModel", name := "simulate", desc := "(I)I" } : Jvm.MethodName) ∈ GW := gwi 1912 (by decide +kernel) rfl
theorem wd1913 : Cond.selects "BakeryNightModel" ({ cls := "BakeryNightModel", name := "simulate", desc := "(I)I" } : Jvm.MethodName) ({ cls := "BakeryNightModel", name := "simulate", desc := "(I)I" } : Jvm.MethodName) ∈ GW := gwi 1913 (by decide +kernel) rfl
theorem wd1914 : Cond.code ({ cls := "BakeryNightModel", name := "simulate", desc := "(I)I" } : Jvm.MethodName) prog_15_method_81_code (2 : Nat) (Option.some Jvm.ClassFile.FieldType.int) ∈ GW := gwi 1914 (by decide +kernel) rfl
theorem wd1915 : Cond.constantLong "BakeryNightModel" (433 : Nat) (1439 : Int64) ∈ GW := gwi 1915 (by decide +kernel) rfl
theorem wd1916 : Cond.methodLink "BakeryNightModel" (438 : Nat) ({ cls := "BakeryNightModel", name := "simulates", desc := "([I)V" } : Jvm.MethodName) ∈ GW := gwi 1916 (by decide +kernel) rfl
theorem wd1918 : Cond.instanceMethod ({ cls := "BakeryNightModel", name := "simulates", desc := "([I)V" } : Jvm.MethodName) ∈ GW := gwi 1918 (by decide +kernel) rfl
theorem wd1919 : Cond.code ({ cls := "BakeryNightModel", name := "simulates", desc := "([I)V" } : Jvm.MethodName) prog_15_method_80_code (2 : Nat) (Option.none : Option Jvm.ClassFile.FieldType) ∈ GW := gwi 1919 (by decide +kernel) rfl
theorem wd1920 : Cond.methodLink "BakeryNightModel" (415 : Nat) ({ cls := "BakeryNightModel", name := "clears", desc := "([I)V" } : Jvm.MethodName) ∈ GW := gwi 1920 (by decide +kernel) rfl
theorem wd1922 : Cond.instanceMethod ({ cls := "BakeryNightModel", name := "clears", desc := "([I)V" } : Jvm.MethodName) ∈ GW := gwi 1922 (by decide +kernel) rfl
theorem wd1923 : Cond.code ({ cls := "BakeryNightModel", name := "clears", desc := "([I)V" } : Jvm.MethodName) prog_15_method_66_code (4 : Nat) (Option.none : Option Jvm.ClassFile.FieldType) ∈ GW := gwi 1923 (by decide +kernel) rfl
theorem wd1924 : Cond.methodLink "BakeryNightModel" (364 : Nat) ({ cls := "BakeryNightModel", name := "findsBatches", desc := "([I)V" } : Jvm.MethodName) ∈ GW := gwi 1924 (by decide +kernel) rfl
theorem wd1926 : Cond.instanceMethod ({ cls := "BakeryNightModel", name := "findsBatches", desc := "([I)V" } : Jvm.MethodName) ∈ GW := gwi 1926 (by decide +kernel) rfl
theorem wd1927 : Cond.code ({ cls := "BakeryNightModel", name := "findsBatches", desc := "([I)V" } : Jvm.MethodName) prog_15_method_55_code (6 : Nat) (Option.none : Option Jvm.ClassFile.FieldType) ∈ GW := gwi 1927 (by decide +kernel) rfl
theorem wd1928 : Cond.methodLink "BakeryNightModel" (348 : Nat) ({ cls := "BakeryNightModel", name := "dueOf", desc := "([II)I" } : Jvm.MethodName) ∈ GW := gwi 1928 (by decide +kernel) rfl
theorem wd1930 : Cond.instanceMethod ({ cls := "BakeryNightModel", name := "dueOf", desc := "([II)I" } : Jvm.MethodName) ∈ GW := gwi 1930 (by decide +kernel) rfl
theorem wd1931 : Cond.code ({ cls := "BakeryNightModel", name := "dueOf", desc := "([II)I" } : Jvm.MethodName) prog_15_method_54_code (5 : Nat) (Option.some Jvm.ClassFile.FieldType.int) ∈ GW := gwi 1931 (by decide +kernel) rfl
theorem wd1932 : Cond.constant "BakeryNightModel" (341 : Nat) (1000000 : Int32) ∈ GW := gwi 1932 (by decide +kernel) rfl
theorem wd1933 : Cond.methodLink "BakeryNightModel" (342 : Nat) ({ cls := "BakeryNightModel", name := "lesser", desc := "(II)I" } : Jvm.MethodName) ∈ GW := gwi 1933 (by decide +kernel) rfl
theorem wd1935 : Cond.instanceMethod ({ cls := "BakeryNightModel", name := "lesser", desc := "(II)I" } : Jvm.MethodName) ∈ GW := gwi 1935 (by decide +kernel) rfl
theorem wd1936 : Cond.code ({ cls := "BakeryNightModel", name := "lesser", desc := "(II)I" } : Jvm.MethodName) prog_15_method_7_code (3 : Nat) (Option.some Jvm.ClassFile.FieldType.int) ∈ GW := gwi 1936 (by decide +kernel) rfl
theorem wd1937 : Cond.methodLink "BakeryNightModel" (367 : Nat) ({ cls := "BakeryNightModel", name := "oven", desc := "([III)I" } : Jvm.MethodName) ∈ GW := gwi 1937 (by decide +kernel) rfl
theorem wd1939 : Cond.instanceMethod ({ cls := "BakeryNightModel", name := "oven", desc := "([III)I" } : Jvm.MethodName) ∈ GW := gwi 1939 (by decide +kernel) rfl
theorem wd1940 : Cond.code ({ cls := "BakeryNightModel", name := "oven", desc := "([III)I" } : Jvm.MethodName) prog_15_method_12_code (4 : Nat) (Option.some Jvm.ClassFile.FieldType.int) ∈ GW := gwi 1940 (by decide +kernel) rfl
theorem wd1941 : Cond.methodLink "BakeryNightModel" (412 : Nat) ({ cls := "BakeryNightModel", name := "stateMany", desc := "(I)I" } : Jvm.MethodName) ∈ GW := gwi 1941 (by decide +kernel) rfl
theorem wd1943 : Cond.instanceMethod ({ cls := "BakeryNightModel", name := "stateMany", desc := "(I)I" } : Jvm.MethodName) ∈ GW := gwi 1943 (by decide +kernel) rfl
theorem wd1944 : Cond.code ({ cls := "BakeryNightModel", name := "stateMany", desc := "(I)I" } : Jvm.MethodName) prog_15_method_67_code (4 : Nat) (Option.some Jvm.ClassFile.FieldType.int) ∈ GW := gwi 1944 (by decide +kernel) rfl
theorem wd1945 : Cond.methodLink "BakeryNightModel" (418 : Nat) ({ cls := "BakeryNightModel", name := "endsAll", desc := "([I)V" } : Jvm.MethodName) ∈ GW := gwi 1945 (by decide +kernel) rfl
theorem wd1947 : Cond.instanceMethod ({ cls := "BakeryNightModel", name := "endsAll", desc := "([I)V" } : Jvm.MethodName) ∈ GW := gwi 1947 (by decide +kernel) rfl
theorem wd1948 : Cond.code ({ cls := "BakeryNightModel", name := "endsAll", desc := "([I)V" } : Jvm.MethodName) prog_15_method_69_code (3 : Nat) (Option.none : Option Jvm.ClassFile.FieldType) ∈ GW := gwi 1948 (by decide +kernel) rfl
theorem wd1949 : Cond.methodLink "BakeryNightModel" (390 : Nat) ({ cls := "BakeryNightModel", name := "goesOn", desc := "([II)V" } : Jvm.MethodName) ∈ GW := gwi 1949 (by decide +kernel) rfl
theorem wd1951 : Cond.instanceMethod ({ cls := "BakeryNightModel", name := "goesOn", desc := "([II)V" } : Jvm.MethodName) ∈ GW := gwi 1951 (by decide +kernel) rfl
theorem wd1952 : Cond.code ({ cls := "BakeryNightModel", name := "goesOn", desc := "([II)V" } : Jvm.MethodName) prog_15_method_68_code (4 : Nat) (Option.none : Option Jvm.ClassFile.FieldType) ∈ GW := gwi 1952 (by decide +kernel) rfl
theorem wd1953 : Cond.methodLink "BakeryNightModel" (387 : Nat) ({ cls := "BakeryNightModel", name := "reaches", desc := "(II)V" } : Jvm.MethodName) ∈ GW := gwi 1953 (by decide +kernel) rfl
theorem wd1955 : Cond.instanceMethod ({ cls := "BakeryNightModel", name := "reaches", desc := "(II)V" } : Jvm.MethodName) ∈ GW := gwi 1955 (by decide +kernel) rfl
theorem wd1956 : Cond.code ({ cls := "BakeryNightModel", name := "reaches", desc := "(II)V" } : Jvm.MethodName) prog_15_method_65_code (3 : Nat) (Option.none : Option Jvm.ClassFile.FieldType) ∈ GW := gwi 1956 (by decide +kernel) rfl
theorem wd1957 : Cond.methodLink "BakeryNightModel" (421 : Nat) ({ cls := "BakeryNightModel", name := "spoils", desc := "([I)V" } : Jvm.MethodName) ∈ GW := gwi 1957 (by decide +kernel) rfl
theorem wd1959 : Cond.instanceMethod ({ cls := "BakeryNightModel", name := "spoils", desc := "([I)V" } : Jvm.MethodName) ∈ GW := gwi 1959 (by decide +kernel) rfl
theorem wd1960 : Cond.code ({ cls := "BakeryNightModel", name := "spoils", desc := "([I)V" } : Jvm.MethodName) prog_15_method_70_code (5 : Nat) (Option.none : Option Jvm.ClassFile.FieldType) ∈ GW := gwi 1960 (by decide +kernel) rfl
theorem wd1961 : Cond.methodLink "BakeryNightModel" (424 : Nat) ({ cls := "BakeryNightModel", name := "bakes", desc := "([I)V" } : Jvm.MethodName) ∈ GW := gwi 1961 (by decide +kernel) rfl
theorem wd1963 : Cond.instanceMethod ({ cls := "BakeryNightModel", name := "bakes", desc := "([I)V" } : Jvm.MethodName) ∈ GW := gwi 1963 (by decide +kernel) rfl
theorem wd1964 : Cond.code ({ cls := "BakeryNightModel", name := "bakes", desc := "([I)V" } : Jvm.MethodName) prog_15_method_77_code (7 : Nat) (Option.none : Option Jvm.ClassFile.FieldType) ∈ GW := gwi 1964 (by decide +kernel) rfl
theorem wd1965 : Cond.methodLink "BakeryNightModel" (403 : Nat) ({ cls := "BakeryNightModel", name := "ovenFor", desc := "([II)I" } : Jvm.MethodName) ∈ GW := gwi 1965 (by decide +kernel) rfl
theorem wd1967 : Cond.instanceMethod ({ cls := "BakeryNightModel", name := "ovenFor", desc := "([II)I" } : Jvm.MethodName) ∈ GW := gwi 1967 (by decide +kernel) rfl
theorem wd1968 : Cond.code ({ cls := "BakeryNightModel", name := "ovenFor", desc := "([II)I" } : Jvm.MethodName) prog_15_method_73_code (4 : Nat) (Option.some Jvm.ClassFile.FieldType.int) ∈ GW := gwi 1968 (by decide +kernel) rfl
theorem wd1969 : Cond.methodLink "BakeryNightModel" (394 : Nat) ({ cls := "BakeryNightModel", name := "isUsable", desc := "([II)Z" } : Jvm.MethodName) ∈ GW := gwi 1969 (by decide +kernel) rfl
theorem wd1971 : Cond.instanceMethod ({ cls := "BakeryNightModel", name := "isUsable", desc := "([II)Z" } : Jvm.MethodName) ∈ GW := gwi 1971 (by decide +kernel) rfl
theorem wd1972 : Cond.code ({ cls := "BakeryNightModel", name := "isUsable", desc := "([II)Z" } : Jvm.MethodName) prog_15_method_72_code (3 : Nat) (Option.some Jvm.ClassFile.FieldType.boolean) ∈ GW := gwi 1972 (by decide +kernel) rfl
theorem wd1973 : Cond.methodLink "BakeryNightModel" (397 : Nat) ({ cls := "BakeryNightModel", name := "onShelves", desc := "(I)I" } : Jvm.MethodName) ∈ GW := gwi 1973 (by decide +kernel) rfl
theorem wd1975 : Cond.instanceMethod ({ cls := "BakeryNightModel", name := "onShelves", desc := "(I)I" } : Jvm.MethodName) ∈ GW := gwi 1975 (by decide +kernel) rfl
theorem wd1976 : Cond.code ({ cls := "BakeryNightModel", name := "onShelves", desc := "(I)I" } : Jvm.MethodName) prog_15_method_71_code (4 : Nat) (Option.some Jvm.ClassFile.FieldType.int) ∈ GW := gwi 1976 (by decide +kernel) rfl
theorem wd1977 : Cond.methodLink "BakeryNightModel" (406 : Nat) ({ cls := "BakeryNightModel", name := "isOneChanging", desc := "([II)Z" } : Jvm.MethodName) ∈ GW := gwi 1977 (by decide +kernel) rfl
theorem wd1979 : Cond.instanceMethod ({ cls := "BakeryNightModel", name := "isOneChanging", desc := "([II)Z" } : Jvm.MethodName) ∈ GW := gwi 1979 (by decide +kernel) rfl
theorem wd1980 : Cond.code ({ cls := "BakeryNightModel", name := "isOneChanging", desc := "([II)Z" } : Jvm.MethodName) prog_15_method_74_code (4 : Nat) (Option.some Jvm.ClassFile.FieldType.boolean) ∈ GW := gwi 1980 (by decide +kernel) rfl
theorem wd1981 : Cond.methodLink "BakeryNightModel" (409 : Nat) ({ cls := "BakeryNightModel", name := "heats", desc := "([II)V" } : Jvm.MethodName) ∈ GW := gwi 1981 (by decide +kernel) rfl
theorem wd1983 : Cond.instanceMethod ({ cls := "BakeryNightModel", name := "heats", desc := "([II)V" } : Jvm.MethodName) ∈ GW := gwi 1983 (by decide +kernel) rfl
theorem wd1984 : Cond.code ({ cls := "BakeryNightModel", name := "heats", desc := "([II)V" } : Jvm.MethodName) prog_15_method_76_code (5 : Nat) (Option.none : Option Jvm.ClassFile.FieldType) ∈ GW := gwi 1984 (by decide +kernel) rfl
theorem wd1985 : Cond.methodLink "BakeryNightModel" (400 : Nat) ({ cls := "BakeryNightModel", name := "changeMinutes", desc := "([III)I" } : Jvm.MethodName) ∈ GW := gwi 1985 (by decide +kernel) rfl
theorem wd1987 : Cond.instanceMethod ({ cls := "BakeryNightModel", name := "changeMinutes", desc := "([III)I" } : Jvm.MethodName) ∈ GW := gwi 1987 (by decide +kernel) rfl
theorem wd1988 : Cond.code ({ cls := "BakeryNightModel", name := "changeMinutes", desc := "([III)I" } : Jvm.MethodName) prog_15_method_75_code (4 : Nat) (Option.some Jvm.ClassFile.FieldType.int) ∈ GW := gwi 1988 (by decide +kernel) rfl
theorem wd1989 : Cond.methodLink "BakeryNightModel" (427 : Nat) ({ cls := "BakeryNightModel", name := "shapes", desc := "([I)V" } : Jvm.MethodName) ∈ GW := gwi 1989 (by decide +kernel) rfl
theorem wd1991 : Cond.instanceMethod ({ cls := "BakeryNightModel", name := "shapes", desc := "([I)V" } : Jvm.MethodName) ∈ GW := gwi 1991 (by decide +kernel) rfl
theorem wd1992 : Cond.code ({ cls := "BakeryNightModel", name := "shapes", desc := "([I)V" } : Jvm.MethodName) prog_15_method_78_code (6 : Nat) (Option.none : Option Jvm.ClassFile.FieldType) ∈ GW := gwi 1992 (by decide +kernel) rfl
theorem wd1993 : Cond.methodLink "BakeryNightModel" (430 : Nat) ({ cls := "BakeryNightModel", name := "mixes", desc := "([I)V" } : Jvm.MethodName) ∈ GW := gwi 1993 (by decide +kernel) rfl
theorem wd1995 : Cond.instanceMethod ({ cls := "BakeryNightModel", name := "mixes", desc := "([I)V" } : Jvm.MethodName) ∈ GW := gwi 1995 (by decide +kernel) rfl
theorem wd1996 : Cond.code ({ cls := "BakeryNightModel", name := "mixes", desc := "([I)V" } : Jvm.MethodName) prog_15_method_79_code (4 : Nat) (Option.none : Option Jvm.ClassFile.FieldType) ∈ GW := gwi 1996 (by decide +kernel) rfl
theorem wd1997 : Cond.methodLink "BakeryNightLaw" (89 : Nat) ({ cls := "BakeryNightModel", name := "batchDough", desc := "(I)I" } : Jvm.MethodName) ∈ GW := gwi 1997 (by decide +kernel) rfl
theorem wd1998 : Cond.instanceMethod ({ cls := "BakeryNightModel", name := "batchDough", desc := "(I)I" } : Jvm.MethodName) ∈ GW := gwi 1998 (by decide +kernel) rfl
theorem wd1999 : Cond.selects "BakeryNightModel" ({ cls := "BakeryNightModel", name := "batchDough", desc := "(I)I" } : Jvm.MethodName) ({ cls := "BakeryNightModel", name := "batchDough", desc := "(I)I" } : Jvm.MethodName) ∈ GW := gwi 1999 (by decide +kernel) rfl
theorem wd2000 : Cond.code ({ cls := "BakeryNightModel", name := "batchDough", desc := "(I)I" } : Jvm.MethodName) prog_15_method_84_code (2 : Nat) (Option.some Jvm.ClassFile.FieldType.int) ∈ GW := gwi 2000 (by decide +kernel) rfl
theorem wd2001 : Cond.methodLink "BakeryNightModel" (444 : Nat) ({ cls := "BakeryNightModel", name := "isBatch", desc := "(I)Z" } : Jvm.MethodName) ∈ GW := gwi 2001 (by decide +kernel) rfl
theorem wd2003 : Cond.instanceMethod ({ cls := "BakeryNightModel", name := "isBatch", desc := "(I)Z" } : Jvm.MethodName) ∈ GW := gwi 2003 (by decide +kernel) rfl
theorem wd2004 : Cond.code ({ cls := "BakeryNightModel", name := "isBatch", desc := "(I)Z" } : Jvm.MethodName) prog_15_method_83_code (2 : Nat) (Option.some Jvm.ClassFile.FieldType.boolean) ∈ GW := gwi 2004 (by decide +kernel) rfl
theorem wd2005 : Cond.methodLink "BakeryNightModel" (441 : Nat) ({ cls := "BakeryNightModel", name := "isNight", desc := "()Z" } : Jvm.MethodName) ∈ GW := gwi 2005 (by decide +kernel) rfl
theorem wd2007 : Cond.instanceMethod ({ cls := "BakeryNightModel", name := "isNight", desc := "()Z" } : Jvm.MethodName) ∈ GW := gwi 2007 (by decide +kernel) rfl
theorem wd2008 : Cond.code ({ cls := "BakeryNightModel", name := "isNight", desc := "()Z" } : Jvm.MethodName) prog_15_method_82_code (1 : Nat) (Option.some Jvm.ClassFile.FieldType.boolean) ∈ GW := gwi 2008 (by decide +kernel) rfl
theorem wd2009 : Cond.methodLink "BakeryNightLaw" (96 : Nat) ({ cls := "BakeryNightModel", name := "stageMinute", desc := "(II)I" } : Jvm.MethodName) ∈ GW := gwi 2009 (by decide +kernel) rfl
theorem wd2010 : Cond.instanceMethod ({ cls := "BakeryNightModel", name := "stageMinute", desc := "(II)I" } : Jvm.MethodName) ∈ GW := gwi 2010 (by decide +kernel) rfl
theorem wd2011 : Cond.selects "BakeryNightModel" ({ cls := "BakeryNightModel", name := "stageMinute", desc := "(II)I" } : Jvm.MethodName) ({ cls := "BakeryNightModel", name := "stageMinute", desc := "(II)I" } : Jvm.MethodName) ∈ GW := gwi 2011 (by decide +kernel) rfl
theorem wd2012 : Cond.code ({ cls := "BakeryNightModel", name := "stageMinute", desc := "(II)I" } : Jvm.MethodName) prog_15_method_85_code (4 : Nat) (Option.some Jvm.ClassFile.FieldType.int) ∈ GW := gwi 2012 (by decide +kernel) rfl
theorem wd2013 : Cond.constantLong "BakeryNightModel" (447 : Nat) (5 : Int64) ∈ GW := gwi 2013 (by decide +kernel) rfl
theorem wd2014 : Cond.methodLink "BakeryNightModel" (449 : Nat) ({ cls := "BakeryNightModel", name := "fails", desc := "(I)I" } : Jvm.MethodName) ∈ GW := gwi 2014 (by decide +kernel) rfl
theorem wd2016 : Cond.instanceMethod ({ cls := "BakeryNightModel", name := "fails", desc := "(I)I" } : Jvm.MethodName) ∈ GW := gwi 2016 (by decide +kernel) rfl
theorem wd2017 : Cond.code ({ cls := "BakeryNightModel", name := "fails", desc := "(I)I" } : Jvm.MethodName) prog_15_method_3_code (2 : Nat) (Option.some Jvm.ClassFile.FieldType.int) ∈ GW := gwi 2017 (by decide +kernel) rfl
theorem wd2018 : Cond.methodLink "BakeryNightModel" (452 : Nat) ({ cls := "BakeryNightModel", name := "stageOf", desc := "(II)I" } : Jvm.MethodName) ∈ GW := gwi 2018 (by decide +kernel) rfl
theorem wd2020 : Cond.instanceMethod ({ cls := "BakeryNightModel", name := "stageOf", desc := "(II)I" } : Jvm.MethodName) ∈ GW := gwi 2020 (by decide +kernel) rfl
theorem wd2021 : Cond.code ({ cls := "BakeryNightModel", name := "stageOf", desc := "(II)I" } : Jvm.MethodName) prog_15_method_64_code (3 : Nat) (Option.some Jvm.ClassFile.FieldType.int) ∈ GW := gwi 2021 (by decide +kernel) rfl
theorem wd2022 : Cond.methodLink "BakeryNightLaw" (99 : Nat) ({ cls := "BakeryNightModel", name := "ovenOf", desc := "(I)I" } : Jvm.MethodName) ∈ GW := gwi 2022 (by decide +kernel) rfl
theorem wd2023 : Cond.instanceMethod ({ cls := "BakeryNightModel", name := "ovenOf", desc := "(I)I" } : Jvm.MethodName) ∈ GW := gwi 2023 (by decide +kernel) rfl
theorem wd2024 : Cond.selects "BakeryNightModel" ({ cls := "BakeryNightModel", name := "ovenOf", desc := "(I)I" } : Jvm.MethodName) ({ cls := "BakeryNightModel", name := "ovenOf", desc := "(I)I" } : Jvm.MethodName) ∈ GW := gwi 2024 (by decide +kernel) rfl
theorem wd2025 : Cond.code ({ cls := "BakeryNightModel", name := "ovenOf", desc := "(I)I" } : Jvm.MethodName) prog_15_method_86_code (2 : Nat) (Option.some Jvm.ClassFile.FieldType.int) ∈ GW := gwi 2025 (by decide +kernel) rfl
theorem wd2026 : Cond.methodLink "BakeryNightLaw" (103 : Nat) ({ cls := "BakeryNightModel", name := "spoiledCount", desc := "()I" } : Jvm.MethodName) ∈ GW := gwi 2026 (by decide +kernel) rfl
theorem wd2027 : Cond.instanceMethod ({ cls := "BakeryNightModel", name := "spoiledCount", desc := "()I" } : Jvm.MethodName) ∈ GW := gwi 2027 (by decide +kernel) rfl
theorem wd2028 : Cond.selects "BakeryNightModel" ({ cls := "BakeryNightModel", name := "spoiledCount", desc := "()I" } : Jvm.MethodName) ({ cls := "BakeryNightModel", name := "spoiledCount", desc := "()I" } : Jvm.MethodName) ∈ GW := gwi 2028 (by decide +kernel) rfl
theorem wd2029 : Cond.code ({ cls := "BakeryNightModel", name := "spoiledCount", desc := "()I" } : Jvm.MethodName) prog_15_method_87_code (1 : Nat) (Option.some Jvm.ClassFile.FieldType.int) ∈ GW := gwi 2029 (by decide +kernel) rfl
theorem wd2030 : Cond.methodLink "BakeryNightLaw" (107 : Nat) ({ cls := "BakeryNightModel", name := "changingMinutes", desc := "(I)I" } : Jvm.MethodName) ∈ GW := gwi 2030 (by decide +kernel) rfl
theorem wd2031 : Cond.instanceMethod ({ cls := "BakeryNightModel", name := "changingMinutes", desc := "(I)I" } : Jvm.MethodName) ∈ GW := gwi 2031 (by decide +kernel) rfl
theorem wd2032 : Cond.selects "BakeryNightModel" ({ cls := "BakeryNightModel", name := "changingMinutes", desc := "(I)I" } : Jvm.MethodName) ({ cls := "BakeryNightModel", name := "changingMinutes", desc := "(I)I" } : Jvm.MethodName) ∈ GW := gwi 2032 (by decide +kernel) rfl
theorem wd2033 : Cond.code ({ cls := "BakeryNightModel", name := "changingMinutes", desc := "(I)I" } : Jvm.MethodName) prog_15_method_88_code (2 : Nat) (Option.some Jvm.ClassFile.FieldType.int) ∈ GW := gwi 2033 (by decide +kernel) rfl
theorem wd2034 : Cond.methodLink "BakeryNightModel" (455 : Nat) ({ cls := "BakeryNightModel", name := "isOven", desc := "(I)Z" } : Jvm.MethodName) ∈ GW := gwi 2034 (by decide +kernel) rfl
theorem wd2036 : Cond.instanceMethod ({ cls := "BakeryNightModel", name := "isOven", desc := "(I)Z" } : Jvm.MethodName) ∈ GW := gwi 2036 (by decide +kernel) rfl
theorem wd2037 : Cond.code ({ cls := "BakeryNightModel", name := "isOven", desc := "(I)Z" } : Jvm.MethodName) prog_15_method_57_code (2 : Nat) (Option.some Jvm.ClassFile.FieldType.boolean) ∈ GW := gwi 2037 (by decide +kernel) rfl
theorem wd2038 : Cond.methodLink "BakeryNightLaw" (111 : Nat) ({ cls := "BakeryNightModel", name := "bakingMinutes", desc := "(I)I" } : Jvm.MethodName) ∈ GW := gwi 2038 (by decide +kernel) rfl
theorem wd2039 : Cond.instanceMethod ({ cls := "BakeryNightModel", name := "bakingMinutes", desc := "(I)I" } : Jvm.MethodName) ∈ GW := gwi 2039 (by decide +kernel) rfl
theorem wd2040 : Cond.selects "BakeryNightModel" ({ cls := "BakeryNightModel", name := "bakingMinutes", desc := "(I)I" } : Jvm.MethodName) ({ cls := "BakeryNightModel", name := "bakingMinutes", desc := "(I)I" } : Jvm.MethodName) ∈ GW := gwi 2040 (by decide +kernel) rfl
theorem wd2041 : Cond.code ({ cls := "BakeryNightModel", name := "bakingMinutes", desc := "(I)I" } : Jvm.MethodName) prog_15_method_89_code (4 : Nat) (Option.some Jvm.ClassFile.FieldType.int) ∈ GW := gwi 2041 (by decide +kernel) rfl
theorem wd2042 : Cond.methodLink "BakeryNightLaw" (115 : Nat) ({ cls := "BakeryNightModel", name := "waitingMinutes", desc := "(I)I" } : Jvm.MethodName) ∈ GW := gwi 2042 (by decide +kernel) rfl
theorem wd2043 : Cond.instanceMethod ({ cls := "BakeryNightModel", name := "waitingMinutes", desc := "(I)I" } : Jvm.MethodName) ∈ GW := gwi 2043 (by decide +kernel) rfl
theorem wd2044 : Cond.selects "BakeryNightModel" ({ cls := "BakeryNightModel", name := "waitingMinutes", desc := "(I)I" } : Jvm.MethodName) ({ cls := "BakeryNightModel", name := "waitingMinutes", desc := "(I)I" } : Jvm.MethodName) ∈ GW := gwi 2044 (by decide +kernel) rfl
theorem wd2045 : Cond.code ({ cls := "BakeryNightModel", name := "waitingMinutes", desc := "(I)I" } : Jvm.MethodName) prog_15_method_90_code (2 : Nat) (Option.some Jvm.ClassFile.FieldType.int) ∈ GW := gwi 2045 (by decide +kernel) rfl
theorem wd2046 : Cond.methodLink "BakeryNightLaw" (119 : Nat) ({ cls := "BakeryNightModel", name := "shelvesUsed", desc := "(II)I" } : Jvm.MethodName) ∈ GW := gwi 2046 (by decide +kernel) rfl
theorem wd2047 : Cond.instanceMethod ({ cls := "BakeryNightModel", name := "shelvesUsed", desc := "(II)I" } : Jvm.MethodName) ∈ GW := gwi 2047 (by decide +kernel) rfl
theorem wd2048 : Cond.selects "BakeryNightModel" ({ cls := "BakeryNightModel", name := "shelvesUsed", desc := "(II)I" } : Jvm.MethodName) ({ cls := "BakeryNightModel", name := "shelvesUsed", desc := "(II)I" } : Jvm.MethodName) ∈ GW := gwi 2048 (by decide +kernel) rfl
theorem wd2049 : Cond.code ({ cls := "BakeryNightModel", name := "shelvesUsed", desc := "(II)I" } : Jvm.MethodName) prog_15_method_93_code (5 : Nat) (Option.some Jvm.ClassFile.FieldType.int) ∈ GW := gwi 2049 (by decide +kernel) rfl
theorem wd2050 : Cond.methodLink "BakeryNightModel" (458 : Nat) ({ cls := "BakeryNightModel", name := "uses", desc := "(III)Z" } : Jvm.MethodName) ∈ GW := gwi 2050 (by decide +kernel) rfl
theorem wd2052 : Cond.instanceMethod ({ cls := "BakeryNightModel", name := "uses", desc := "(III)Z" } : Jvm.MethodName) ∈ GW := gwi 2052 (by decide +kernel) rfl
theorem wd2053 : Cond.code ({ cls := "BakeryNightModel", name := "uses", desc := "(III)Z" } : Jvm.MethodName) prog_15_method_91_code (5 : Nat) (Option.some Jvm.ClassFile.FieldType.boolean) ∈ GW := gwi 2053 (by decide +kernel) rfl
theorem wd2054 : Cond.methodLink "BakeryNightLaw" (123 : Nat) ({ cls := "BakeryNightModel", name := "busy", desc := "(II)I" } : Jvm.MethodName) ∈ GW := gwi 2054 (by decide +kernel) rfl
theorem wd2055 : Cond.instanceMethod ({ cls := "BakeryNightModel", name := "busy", desc := "(II)I" } : Jvm.MethodName) ∈ GW := gwi 2055 (by decide +kernel) rfl
theorem wd2056 : Cond.selects "BakeryNightModel" ({ cls := "BakeryNightModel", name := "busy", desc := "(II)I" } : Jvm.MethodName) ({ cls := "BakeryNightModel", name := "busy", desc := "(II)I" } : Jvm.MethodName) ∈ GW := gwi 2056 (by decide +kernel) rfl
theorem wd2057 : Cond.code ({ cls := "BakeryNightModel", name := "busy", desc := "(II)I" } : Jvm.MethodName) prog_15_method_94_code (3 : Nat) (Option.some Jvm.ClassFile.FieldType.int) ∈ GW := gwi 2057 (by decide +kernel) rfl
theorem wd2058 : Cond.constantLong "BakeryNightModel" (462 : Nat) (2 : Int64) ∈ GW := gwi 2058 (by decide +kernel) rfl
theorem wd2059 : Cond.methodLink "BakeryNightModel" (464 : Nat) ({ cls := "BakeryNightModel", name := "inUse", desc := "(II)I" } : Jvm.MethodName) ∈ GW := gwi 2059 (by decide +kernel) rfl
theorem wd2061 : Cond.instanceMethod ({ cls := "BakeryNightModel", name := "inUse", desc := "(II)I" } : Jvm.MethodName) ∈ GW := gwi 2061 (by decide +kernel) rfl
theorem wd2062 : Cond.code ({ cls := "BakeryNightModel", name := "inUse", desc := "(II)I" } : Jvm.MethodName) prog_15_method_92_code (5 : Nat) (Option.some Jvm.ClassFile.FieldType.int) ∈ GW := gwi 2062 (by decide +kernel) rfl
theorem wd2063 : Cond.methodLink "BakeryNightLaw" (127 : Nat) ({ cls := "BakeryNightModel", name := "busiestMinute", desc := "(I)I" } : Jvm.MethodName) ∈ GW := gwi 2063 (by decide +kernel) rfl
theorem wd2064 : Cond.instanceMethod ({ cls := "BakeryNightModel", name := "busiestMinute", desc := "(I)I" } : Jvm.MethodName) ∈ GW := gwi 2064 (by decide +kernel) rfl
theorem wd2065 : Cond.selects "BakeryNightModel" ({ cls := "BakeryNightModel", name := "busiestMinute", desc := "(I)I" } : Jvm.MethodName) ({ cls := "BakeryNightModel", name := "busiestMinute", desc := "(I)I" } : Jvm.MethodName) ∈ GW := gwi 2065 (by decide +kernel) rfl
theorem wd2066 : Cond.code ({ cls := "BakeryNightModel", name := "busiestMinute", desc := "(I)I" } : Jvm.MethodName) prog_15_method_95_code (6 : Nat) (Option.some Jvm.ClassFile.FieldType.int) ∈ GW := gwi 2066 (by decide +kernel) rfl
theorem wd2067 : Cond.methodLink "BakeryNightLaw" (131 : Nat) ({ cls := "BakeryNightModel", name := "readyMinute", desc := "(I)I" } : Jvm.MethodName) ∈ GW := gwi 2067 (by decide +kernel) rfl
theorem wd2068 : Cond.instanceMethod ({ cls := "BakeryNightModel", name := "readyMinute", desc := "(I)I" } : Jvm.MethodName) ∈ GW := gwi 2068 (by decide +kernel) rfl
theorem wd2069 : Cond.selects "BakeryNightModel" ({ cls := "BakeryNightModel", name := "readyMinute", desc := "(I)I" } : Jvm.MethodName) ({ cls := "BakeryNightModel", name := "readyMinute", desc := "(I)I" } : Jvm.MethodName) ∈ GW := gwi 2069 (by decide +kernel) rfl
theorem wd2070 : Cond.code ({ cls := "BakeryNightModel", name := "readyMinute", desc := "(I)I" } : Jvm.MethodName) prog_15_method_102_code (3 : Nat) (Option.some Jvm.ClassFile.FieldType.int) ∈ GW := gwi 2070 (by decide +kernel) rfl
theorem wd2071 : Cond.methodLink "BakeryNightModel" (483 : Nat) ({ cls := "BakeryNightModel", name := "readyAt", desc := "([II)I" } : Jvm.MethodName) ∈ GW := gwi 2071 (by decide +kernel) rfl
theorem wd2073 : Cond.instanceMethod ({ cls := "BakeryNightModel", name := "readyAt", desc := "([II)I" } : Jvm.MethodName) ∈ GW := gwi 2073 (by decide +kernel) rfl
theorem wd2074 : Cond.code ({ cls := "BakeryNightModel", name := "readyAt", desc := "([II)I" } : Jvm.MethodName) prog_15_method_101_code (3 : Nat) (Option.some Jvm.ClassFile.FieldType.int) ∈ GW := gwi 2074 (by decide +kernel) rfl
theorem wd2075 : Cond.methodLink "BakeryNightModel" (477 : Nat) ({ cls := "BakeryNightModel", name := "isReady", desc := "([II)Z" } : Jvm.MethodName) ∈ GW := gwi 2075 (by decide +kernel) rfl
theorem wd2077 : Cond.instanceMethod ({ cls := "BakeryNightModel", name := "isReady", desc := "([II)Z" } : Jvm.MethodName) ∈ GW := gwi 2077 (by decide +kernel) rfl
theorem wd2078 : Cond.code ({ cls := "BakeryNightModel", name := "isReady", desc := "([II)Z" } : Jvm.MethodName) prog_15_method_100_code (3 : Nat) (Option.some Jvm.ClassFile.FieldType.boolean) ∈ GW := gwi 2078 (by decide +kernel) rfl
theorem wd2079 : Cond.methodLink "BakeryNightModel" (471 : Nat) ({ cls := "BakeryNightModel", name := "givenAhead", desc := "([II)I" } : Jvm.MethodName) ∈ GW := gwi 2079 (by decide +kernel) rfl
theorem wd2081 : Cond.instanceMethod ({ cls := "BakeryNightModel", name := "givenAhead", desc := "([II)I" } : Jvm.MethodName) ∈ GW := gwi 2081 (by decide +kernel) rfl
theorem wd2082 : Cond.code ({ cls := "BakeryNightModel", name := "givenAhead", desc := "([II)I" } : Jvm.MethodName) prog_15_method_98_code (5 : Nat) (Option.some Jvm.ClassFile.FieldType.int) ∈ GW := gwi 2082 (by decide +kernel) rfl
theorem wd2083 : Cond.methodLink "BakeryNightModel" (467 : Nat) ({ cls := "BakeryNightModel", name := "isBefore", desc := "([III)Z" } : Jvm.MethodName) ∈ GW := gwi 2083 (by decide +kernel) rfl
theorem wd2085 : Cond.instanceMethod ({ cls := "BakeryNightModel", name := "isBefore", desc := "([III)Z" } : Jvm.MethodName) ∈ GW := gwi 2085 (by decide +kernel) rfl
theorem wd2086 : Cond.code ({ cls := "BakeryNightModel", name := "isBefore", desc := "([III)Z" } : Jvm.MethodName) prog_15_method_97_code (4 : Nat) (Option.some Jvm.ClassFile.FieldType.boolean) ∈ GW := gwi 2086 (by decide +kernel) rfl
theorem wd2087 : Cond.methodLink "BakeryNightModel" (474 : Nat) ({ cls := "BakeryNightModel", name := "bakedLoaves", desc := "([II)I" } : Jvm.MethodName) ∈ GW := gwi 2087 (by decide +kernel) rfl
theorem wd2089 : Cond.instanceMethod ({ cls := "BakeryNightModel", name := "bakedLoaves", desc := "([II)I" } : Jvm.MethodName) ∈ GW := gwi 2089 (by decide +kernel) rfl
theorem wd2090 : Cond.code ({ cls := "BakeryNightModel", name := "bakedLoaves", desc := "([II)I" } : Jvm.MethodName) prog_15_method_96_code (5 : Nat) (Option.some Jvm.ClassFile.FieldType.int) ∈ GW := gwi 2090 (by decide +kernel) rfl
theorem wd2091 : Cond.methodLink "BakeryNightModel" (480 : Nat) ({ cls := "BakeryNightModel", name := "outAt", desc := "([III)I" } : Jvm.MethodName) ∈ GW := gwi 2091 (by decide +kernel) rfl
theorem wd2093 : Cond.instanceMethod ({ cls := "BakeryNightModel", name := "outAt", desc := "([III)I" } : Jvm.MethodName) ∈ GW := gwi 2093 (by decide +kernel) rfl
theorem wd2094 : Cond.code ({ cls := "BakeryNightModel", name := "outAt", desc := "([III)I" } : Jvm.MethodName) prog_15_method_99_code (9 : Nat) (Option.some Jvm.ClassFile.FieldType.int) ∈ GW := gwi 2094 (by decide +kernel) rfl
theorem wd2095 : Cond.methodLink "BakeryNightLaw" (135 : Nat) ({ cls := "BakeryNightModel", name := "surplusLoaves", desc := "(I)I" } : Jvm.MethodName) ∈ GW := gwi 2095 (by decide +kernel) rfl
theorem wd2096 : Cond.instanceMethod ({ cls := "BakeryNightModel", name := "surplusLoaves", desc := "(I)I" } : Jvm.MethodName) ∈ GW := gwi 2096 (by decide +kernel) rfl
theorem wd2097 : Cond.selects "BakeryNightModel" ({ cls := "BakeryNightModel", name := "surplusLoaves", desc := "(I)I" } : Jvm.MethodName) ({ cls := "BakeryNightModel", name := "surplusLoaves", desc := "(I)I" } : Jvm.MethodName) ∈ GW := gwi 2097 (by decide +kernel) rfl
theorem wd2098 : Cond.code ({ cls := "BakeryNightModel", name := "surplusLoaves", desc := "(I)I" } : Jvm.MethodName) prog_15_method_103_code (2 : Nat) (Option.some Jvm.ClassFile.FieldType.int) ∈ GW := gwi 2098 (by decide +kernel) rfl
theorem wd2099 : Cond.methodLink "BakeryNightLaw" (139 : Nat) ({ cls := "BakeryNightModel", name := "surplusValue", desc := "(I)I" } : Jvm.MethodName) ∈ GW := gwi 2099 (by decide +kernel) rfl
theorem wd2100 : Cond.instanceMethod ({ cls := "BakeryNightModel", name := "surplusValue", desc := "(I)I" } : Jvm.MethodName) ∈ GW := gwi 2100 (by decide +kernel) rfl
theorem wd2101 : Cond.selects "BakeryNightModel" ({ cls := "BakeryNightModel", name := "surplusValue", desc := "(I)I" } : Jvm.MethodName) ({ cls := "BakeryNightModel", name := "surplusValue", desc := "(I)I" } : Jvm.MethodName) ∈ GW := gwi 2101 (by decide +kernel) rfl
theorem wd2102 : Cond.code ({ cls := "BakeryNightModel", name := "surplusValue", desc := "(I)I" } : Jvm.MethodName) prog_15_method_105_code (5 : Nat) (Option.some Jvm.ClassFile.FieldType.int) ∈ GW := gwi 2102 (by decide +kernel) rfl
theorem wd2103 : Cond.constantLong "BakeryNightModel" (486 : Nat) (9999 : Int64) ∈ GW := gwi 2103 (by decide +kernel) rfl
theorem wd2104 : Cond.methodLink "BakeryNightModel" (488 : Nat) ({ cls := "BakeryNightModel", name := "valueOf", desc := "(II)I" } : Jvm.MethodName) ∈ GW := gwi 2104 (by decide +kernel) rfl
theorem wd2106 : Cond.instanceMethod ({ cls := "BakeryNightModel", name := "valueOf", desc := "(II)I" } : Jvm.MethodName) ∈ GW := gwi 2106 (by decide +kernel) rfl
theorem wd2107 : Cond.code ({ cls := "BakeryNightModel", name := "valueOf", desc := "(II)I" } : Jvm.MethodName) prog_15_method_104_code (4 : Nat) (Option.some Jvm.ClassFile.FieldType.int) ∈ GW := gwi 2107 (by decide +kernel) rfl
theorem wd2108 : Cond.methodLink "BakeryNightLaw" (71 : Nat) ({ cls := "BakeryNightModel", name := "distance", desc := "(II)I" } : Jvm.MethodName) ∈ GW := gwi 2108 (by decide +kernel) rfl
theorem wd2109 : Cond.instanceMethod ({ cls := "BakeryNightModel", name := "distance", desc := "(II)I" } : Jvm.MethodName) ∈ GW := gwi 2109 (by decide +kernel) rfl
theorem wd2110 : Cond.selects "BakeryNightModel" ({ cls := "BakeryNightModel", name := "distance", desc := "(II)I" } : Jvm.MethodName) ({ cls := "BakeryNightModel", name := "distance", desc := "(II)I" } : Jvm.MethodName) ∈ GW := gwi 2110 (by decide +kernel) rfl
theorem wd2111 : Cond.code ({ cls := "BakeryNightModel", name := "distance", desc := "(II)I" } : Jvm.MethodName) prog_15_method_107_code (4 : Nat) (Option.some Jvm.ClassFile.FieldType.int) ∈ GW := gwi 2111 (by decide +kernel) rfl
theorem wd2112 : Cond.methodLink "BakeryNightModel" (493 : Nat) ({ cls := "BakeryNightModel", name := "isShop", desc := "(I)Z" } : Jvm.MethodName) ∈ GW := gwi 2112 (by decide +kernel) rfl
theorem wd2114 : Cond.instanceMethod ({ cls := "BakeryNightModel", name := "isShop", desc := "(I)Z" } : Jvm.MethodName) ∈ GW := gwi 2114 (by decide +kernel) rfl
theorem wd2115 : Cond.code ({ cls := "BakeryNightModel", name := "isShop", desc := "(I)Z" } : Jvm.MethodName) prog_15_method_58_code (2 : Nat) (Option.some Jvm.ClassFile.FieldType.boolean) ∈ GW := gwi 2115 (by decide +kernel) rfl
theorem wd2116 : Cond.methodLink "BakeryNightModel" (496 : Nat) ({ cls := "BakeryNightModel", name := "findsWays", desc := "([I)V" } : Jvm.MethodName) ∈ GW := gwi 2116 (by decide +kernel) rfl
theorem wd2118 : Cond.instanceMethod ({ cls := "BakeryNightModel", name := "findsWays", desc := "([I)V" } : Jvm.MethodName) ∈ GW := gwi 2118 (by decide +kernel) rfl
theorem wd2119 : Cond.code ({ cls := "BakeryNightModel", name := "findsWays", desc := "([I)V" } : Jvm.MethodName) prog_15_method_106_code (6 : Nat) (Option.none : Option Jvm.ClassFile.FieldType) ∈ GW := gwi 2119 (by decide +kernel) rfl
theorem wd2120 : Cond.methodLink "BakeryNightModel" (491 : Nat) ({ cls := "BakeryNightModel", name := "street", desc := "([III)I" } : Jvm.MethodName) ∈ GW := gwi 2120 (by decide +kernel) rfl
theorem wd2122 : Cond.instanceMethod ({ cls := "BakeryNightModel", name := "street", desc := "([III)I" } : Jvm.MethodName) ∈ GW := gwi 2122 (by decide +kernel) rfl
theorem wd2123 : Cond.code ({ cls := "BakeryNightModel", name := "street", desc := "([III)I" } : Jvm.MethodName) prog_15_method_13_code (4 : Nat) (Option.some Jvm.ClassFile.FieldType.int) ∈ GW := gwi 2123 (by decide +kernel) rfl
theorem wd2124 : Cond.methodLink "BakeryNightLaw" (75 : Nat) ({ cls := "BakeryNightModel", name := "routeMinutes", desc := "(I)I" } : Jvm.MethodName) ∈ GW := gwi 2124 (by decide +kernel) rfl
theorem wd2125 : Cond.instanceMethod ({ cls := "BakeryNightModel", name := "routeMinutes", desc := "(I)I" } : Jvm.MethodName) ∈ GW := gwi 2125 (by decide +kernel) rfl
theorem wd2126 : Cond.selects "BakeryNightModel" ({ cls := "BakeryNightModel", name := "routeMinutes", desc := "(I)I" } : Jvm.MethodName) ({ cls := "BakeryNightModel", name := "routeMinutes", desc := "(I)I" } : Jvm.MethodName) ∈ GW := gwi 2126 (by decide +kernel) rfl
theorem wd2127 : Cond.code ({ cls := "BakeryNightModel", name := "routeMinutes", desc := "(I)I" } : Jvm.MethodName) prog_15_method_110_code (2 : Nat) (Option.some Jvm.ClassFile.FieldType.int) ∈ GW := gwi 2127 (by decide +kernel) rfl
theorem wd2128 : Cond.methodLink "BakeryNightModel" (502 : Nat) ({ cls := "BakeryNightModel", name := "findsRoutes", desc := "([I)V" } : Jvm.MethodName) ∈ GW := gwi 2128 (by decide +kernel) rfl
theorem wd2130 : Cond.instanceMethod ({ cls := "BakeryNightModel", name := "findsRoutes", desc := "([I)V" } : Jvm.MethodName) ∈ GW := gwi 2130 (by decide +kernel) rfl
theorem wd2131 : Cond.code ({ cls := "BakeryNightModel", name := "findsRoutes", desc := "([I)V" } : Jvm.MethodName) prog_15_method_108_code (6 : Nat) (Option.none : Option Jvm.ClassFile.FieldType) ∈ GW := gwi 2131 (by decide +kernel) rfl
theorem wd2132 : Cond.methodLink "BakeryNightLaw" (79 : Nat) ({ cls := "BakeryNightModel", name := "routeStop", desc := "(II)I" } : Jvm.MethodName) ∈ GW := gwi 2132 (by decide +kernel) rfl
theorem wd2133 : Cond.instanceMethod ({ cls := "BakeryNightModel", name := "routeStop", desc := "(II)I" } : Jvm.MethodName) ∈ GW := gwi 2133 (by decide +kernel) rfl
theorem wd2134 : Cond.selects "BakeryNightModel" ({ cls := "BakeryNightModel", name := "routeStop", desc := "(II)I" } : Jvm.MethodName) ({ cls := "BakeryNightModel", name := "routeStop", desc := "(II)I" } : Jvm.MethodName) ∈ GW := gwi 2134 (by decide +kernel) rfl
theorem wd2135 : Cond.code ({ cls := "BakeryNightModel", name := "routeStop", desc := "(II)I" } : Jvm.MethodName) prog_15_method_111_code (3 : Nat) (Option.some Jvm.ClassFile.FieldType.int) ∈ GW := gwi 2135 (by decide +kernel) rfl
theorem wd2136 : Cond.methodLink "BakeryNightModel" (505 : Nat) ({ cls := "BakeryNightModel", name := "routeMinutes", desc := "(I)I" } : Jvm.MethodName) ∈ GW := gwi 2136 (by decide +kernel) rfl
theorem wd2137 : Cond.methodLink "BakeryNightModel" (508 : Nat) ({ cls := "BakeryNightModel", name := "routes", desc := "([II)V" } : Jvm.MethodName) ∈ GW := gwi 2137 (by decide +kernel) rfl
theorem wd2139 : Cond.instanceMethod ({ cls := "BakeryNightModel", name := "routes", desc := "([II)V" } : Jvm.MethodName) ∈ GW := gwi 2139 (by decide +kernel) rfl
theorem wd2140 : Cond.code ({ cls := "BakeryNightModel", name := "routes", desc := "([II)V" } : Jvm.MethodName) prog_15_method_109_code (6 : Nat) (Option.none : Option Jvm.ClassFile.FieldType) ∈ GW := gwi 2140 (by decide +kernel) rfl
theorem wd2141 : Cond.methodLink "BakeryNightLaw" (143 : Nat) ({ cls := "BakeryNightModel", name := "failedShops", desc := "()I" } : Jvm.MethodName) ∈ GW := gwi 2141 (by decide +kernel) rfl
theorem wd2142 : Cond.instanceMethod ({ cls := "BakeryNightModel", name := "failedShops", desc := "()I" } : Jvm.MethodName) ∈ GW := gwi 2142 (by decide +kernel) rfl
theorem wd2143 : Cond.selects "BakeryNightModel" ({ cls := "BakeryNightModel", name := "failedShops", desc := "()I" } : Jvm.MethodName) ({ cls := "BakeryNightModel", name := "failedShops", desc := "()I" } : Jvm.MethodName) ∈ GW := gwi 2143 (by decide +kernel) rfl
theorem wd2144 : Cond.code ({ cls := "BakeryNightModel", name := "failedShops", desc := "()I" } : Jvm.MethodName) prog_15_method_124_code (1 : Nat) (Option.some Jvm.ClassFile.FieldType.int) ∈ GW := gwi 2144 (by decide +kernel) rfl
theorem wd2145 : Cond.methodLink "BakeryNightModel" (557 : Nat) ({ cls := "BakeryNightModel", name := "hasPlan", desc := "()Z" } : Jvm.MethodName) ∈ GW := gwi 2145 (by decide +kernel) rfl
theorem wd2147 : Cond.instanceMethod ({ cls := "BakeryNightModel", name := "hasPlan", desc := "()Z" } : Jvm.MethodName) ∈ GW := gwi 2147 (by decide +kernel) rfl
theorem wd2148 : Cond.code ({ cls := "BakeryNightModel", name := "hasPlan", desc := "()Z" } : Jvm.MethodName) prog_15_method_122_code (1 : Nat) (Option.some Jvm.ClassFile.FieldType.boolean) ∈ GW := gwi 2148 (by decide +kernel) rfl
theorem wd2149 : Cond.methodLink "BakeryNightModel" (551 : Nat) ({ cls := "BakeryNightModel", name := "plans", desc := "([II)Z" } : Jvm.MethodName) ∈ GW := gwi 2149 (by decide +kernel) rfl
theorem wd2151 : Cond.instanceMethod ({ cls := "BakeryNightModel", name := "plans", desc := "([II)Z" } : Jvm.MethodName) ∈ GW := gwi 2151 (by decide +kernel) rfl
theorem wd2152 : Cond.code ({ cls := "BakeryNightModel", name := "plans", desc := "([II)Z" } : Jvm.MethodName) prog_15_method_120_code (7 : Nat) (Option.some Jvm.ClassFile.FieldType.boolean) ∈ GW := gwi 2152 (by decide +kernel) rfl
theorem wd2153 : Cond.methodLink "BakeryNightModel" (529 : Nat) ({ cls := "BakeryNightModel", name := "findsShops", desc := "([I)V" } : Jvm.MethodName) ∈ GW := gwi 2153 (by decide +kernel) rfl
theorem wd2155 : Cond.instanceMethod ({ cls := "BakeryNightModel", name := "findsShops", desc := "([I)V" } : Jvm.MethodName) ∈ GW := gwi 2155 (by decide +kernel) rfl
theorem wd2156 : Cond.code ({ cls := "BakeryNightModel", name := "findsShops", desc := "([I)V" } : Jvm.MethodName) prog_15_method_112_code (4 : Nat) (Option.none : Option Jvm.ClassFile.FieldType) ∈ GW := gwi 2156 (by decide +kernel) rfl
theorem wd2157 : Cond.methodLink "BakeryNightModel" (535 : Nat) ({ cls := "BakeryNightModel", name := "firstAssignment", desc := "([I)V" } : Jvm.MethodName) ∈ GW := gwi 2157 (by decide +kernel) rfl
theorem wd2159 : Cond.instanceMethod ({ cls := "BakeryNightModel", name := "firstAssignment", desc := "([I)V" } : Jvm.MethodName) ∈ GW := gwi 2159 (by decide +kernel) rfl
theorem wd2160 : Cond.code ({ cls := "BakeryNightModel", name := "firstAssignment", desc := "([I)V" } : Jvm.MethodName) prog_15_method_117_code (3 : Nat) (Option.none : Option Jvm.ClassFile.FieldType) ∈ GW := gwi 2160 (by decide +kernel) rfl
theorem wd2161 : Cond.methodLink "BakeryNightModel" (538 : Nat) ({ cls := "BakeryNightModel", name := "drives", desc := "([I)I" } : Jvm.MethodName) ∈ GW := gwi 2161 (by decide +kernel) rfl
theorem wd2163 : Cond.instanceMethod ({ cls := "BakeryNightModel", name := "drives", desc := "([I)I" } : Jvm.MethodName) ∈ GW := gwi 2163 (by decide +kernel) rfl
theorem wd2164 : Cond.code ({ cls := "BakeryNightModel", name := "drives", desc := "([I)I" } : Jvm.MethodName) prog_15_method_116_code (7 : Nat) (Option.some Jvm.ClassFile.FieldType.int) ∈ GW := gwi 2164 (by decide +kernel) rfl
theorem wd2165 : Cond.methodLink "BakeryNightModel" (523 : Nat) ({ cls := "BakeryNightModel", name := "carries", desc := "([II)Z" } : Jvm.MethodName) ∈ GW := gwi 2165 (by decide +kernel) rfl
theorem wd2167 : Cond.instanceMethod ({ cls := "BakeryNightModel", name := "carries", desc := "([II)Z" } : Jvm.MethodName) ∈ GW := gwi 2167 (by decide +kernel) rfl
theorem wd2168 : Cond.code ({ cls := "BakeryNightModel", name := "carries", desc := "([II)Z" } : Jvm.MethodName) prog_15_method_114_code (3 : Nat) (Option.some Jvm.ClassFile.FieldType.boolean) ∈ GW := gwi 2168 (by decide +kernel) rfl
theorem wd2169 : Cond.methodLink "BakeryNightModel" (520 : Nat) ({ cls := "BakeryNightModel", name := "loadOf", desc := "(I)I" } : Jvm.MethodName) ∈ GW := gwi 2169 (by decide +kernel) rfl
theorem wd2171 : Cond.instanceMethod ({ cls := "BakeryNightModel", name := "loadOf", desc := "(I)I" } : Jvm.MethodName) ∈ GW := gwi 2171 (by decide +kernel) rfl
theorem wd2172 : Cond.code ({ cls := "BakeryNightModel", name := "loadOf", desc := "(I)I" } : Jvm.MethodName) prog_15_method_113_code (4 : Nat) (Option.some Jvm.ClassFile.FieldType.int) ∈ GW := gwi 2172 (by decide +kernel) rfl
theorem wd2173 : Cond.methodLink "BakeryNightModel" (526 : Nat) ({ cls := "BakeryNightModel", name := "leaves", desc := "(I)I" } : Jvm.MethodName) ∈ GW := gwi 2173 (by decide +kernel) rfl
theorem wd2175 : Cond.instanceMethod ({ cls := "BakeryNightModel", name := "leaves", desc := "(I)I" } : Jvm.MethodName) ∈ GW := gwi 2175 (by decide +kernel) rfl
theorem wd2176 : Cond.code ({ cls := "BakeryNightModel", name := "leaves", desc := "(I)I" } : Jvm.MethodName) prog_15_method_115_code (4 : Nat) (Option.some Jvm.ClassFile.FieldType.int) ∈ GW := gwi 2176 (by decide +kernel) rfl
theorem wd2177 : Cond.methodLink "BakeryNightModel" (541 : Nat) ({ cls := "BakeryNightModel", name := "lateShops", desc := "(I)I" } : Jvm.MethodName) ∈ GW := gwi 2177 (by decide +kernel) rfl
theorem wd2179 : Cond.instanceMethod ({ cls := "BakeryNightModel", name := "lateShops", desc := "(I)I" } : Jvm.MethodName) ∈ GW := gwi 2179 (by decide +kernel) rfl
theorem wd2180 : Cond.code ({ cls := "BakeryNightModel", name := "lateShops", desc := "(I)I" } : Jvm.MethodName) prog_15_method_119_code (4 : Nat) (Option.some Jvm.ClassFile.FieldType.int) ∈ GW := gwi 2180 (by decide +kernel) rfl
theorem wd2181 : Cond.methodLink "BakeryNightModel" (547 : Nat) ({ cls := "BakeryNightModel", name := "nextAssignment", desc := "([I)Z" } : Jvm.MethodName) ∈ GW := gwi 2181 (by decide +kernel) rfl
theorem wd2183 : Cond.instanceMethod ({ cls := "BakeryNightModel", name := "nextAssignment", desc := "([I)Z" } : Jvm.MethodName) ∈ GW := gwi 2183 (by decide +kernel) rfl
theorem wd2184 : Cond.code ({ cls := "BakeryNightModel", name := "nextAssignment", desc := "([I)Z" } : Jvm.MethodName) prog_15_method_118_code (3 : Nat) (Option.some Jvm.ClassFile.FieldType.boolean) ∈ GW := gwi 2184 (by decide +kernel) rfl
theorem wd2185 : Cond.methodLink "BakeryNightModel" (554 : Nat) ({ cls := "BakeryNightModel", name := "takesBest", desc := "()V" } : Jvm.MethodName) ∈ GW := gwi 2185 (by decide +kernel) rfl
theorem wd2187 : Cond.instanceMethod ({ cls := "BakeryNightModel", name := "takesBest", desc := "()V" } : Jvm.MethodName) ∈ GW := gwi 2187 (by decide +kernel) rfl
theorem wd2188 : Cond.code ({ cls := "BakeryNightModel", name := "takesBest", desc := "()V" } : Jvm.MethodName) prog_15_method_121_code (2 : Nat) (Option.none : Option Jvm.ClassFile.FieldType) ∈ GW := gwi 2188 (by decide +kernel) rfl
theorem wd2189 : Cond.methodLink "BakeryNightModel" (560 : Nat) ({ cls := "BakeryNightModel", name := "bits", desc := "(I)I" } : Jvm.MethodName) ∈ GW := gwi 2189 (by decide +kernel) rfl
theorem wd2191 : Cond.instanceMethod ({ cls := "BakeryNightModel", name := "bits", desc := "(I)I" } : Jvm.MethodName) ∈ GW := gwi 2191 (by decide +kernel) rfl
theorem wd2192 : Cond.code ({ cls := "BakeryNightModel", name := "bits", desc := "(I)I" } : Jvm.MethodName) prog_15_method_123_code (4 : Nat) (Option.some Jvm.ClassFile.FieldType.int) ∈ GW := gwi 2192 (by decide +kernel) rfl
theorem wd2193 : Cond.methodLink "BakeryNightLaw" (147 : Nat) ({ cls := "BakeryNightModel", name := "vanOf", desc := "(I)I" } : Jvm.MethodName) ∈ GW := gwi 2193 (by decide +kernel) rfl
theorem wd2194 : Cond.instanceMethod ({ cls := "BakeryNightModel", name := "vanOf", desc := "(I)I" } : Jvm.MethodName) ∈ GW := gwi 2194 (by decide +kernel) rfl
theorem wd2195 : Cond.selects "BakeryNightModel" ({ cls := "BakeryNightModel", name := "vanOf", desc := "(I)I" } : Jvm.MethodName) ({ cls := "BakeryNightModel", name := "vanOf", desc := "(I)I" } : Jvm.MethodName) ∈ GW := gwi 2195 (by decide +kernel) rfl
theorem wd2196 : Cond.code ({ cls := "BakeryNightModel", name := "vanOf", desc := "(I)I" } : Jvm.MethodName) prog_15_method_125_code (2 : Nat) (Option.some Jvm.ClassFile.FieldType.int) ∈ GW := gwi 2196 (by decide +kernel) rfl
theorem wd2197 : Cond.methodLink "BakeryNightLaw" (151 : Nat) ({ cls := "BakeryNightModel", name := "arrivalMinute", desc := "(I)I" } : Jvm.MethodName) ∈ GW := gwi 2197 (by decide +kernel) rfl
theorem wd2198 : Cond.instanceMethod ({ cls := "BakeryNightModel", name := "arrivalMinute", desc := "(I)I" } : Jvm.MethodName) ∈ GW := gwi 2198 (by decide +kernel) rfl
theorem wd2199 : Cond.selects "BakeryNightModel" ({ cls := "BakeryNightModel", name := "arrivalMinute", desc := "(I)I" } : Jvm.MethodName) ({ cls := "BakeryNightModel", name := "arrivalMinute", desc := "(I)I" } : Jvm.MethodName) ∈ GW := gwi 2199 (by decide +kernel) rfl
theorem wd2200 : Cond.code ({ cls := "BakeryNightModel", name := "arrivalMinute", desc := "(I)I" } : Jvm.MethodName) prog_15_method_126_code (2 : Nat) (Option.some Jvm.ClassFile.FieldType.int) ∈ GW := gwi 2200 (by decide +kernel) rfl
theorem wd2201 : Cond.methodLink "BakeryNightLaw" (155 : Nat) ({ cls := "BakeryNightModel", name := "departureMinute", desc := "(I)I" } : Jvm.MethodName) ∈ GW := gwi 2201 (by decide +kernel) rfl
theorem wd2202 : Cond.instanceMethod ({ cls := "BakeryNightModel", name := "departureMinute", desc := "(I)I" } : Jvm.MethodName) ∈ GW := gwi 2202 (by decide +kernel) rfl
theorem wd2203 : Cond.selects "BakeryNightModel" ({ cls := "BakeryNightModel", name := "departureMinute", desc := "(I)I" } : Jvm.MethodName) ({ cls := "BakeryNightModel", name := "departureMinute", desc := "(I)I" } : Jvm.MethodName) ∈ GW := gwi 2203 (by decide +kernel) rfl
theorem wd2204 : Cond.code ({ cls := "BakeryNightModel", name := "departureMinute", desc := "(I)I" } : Jvm.MethodName) prog_15_method_127_code (2 : Nat) (Option.some Jvm.ClassFile.FieldType.int) ∈ GW := gwi 2204 (by decide +kernel) rfl
theorem wd2205 : Cond.methodLink "BakeryNightLaw" (159 : Nat) ({ cls := "BakeryNightModel", name := "staleOrders", desc := "()I" } : Jvm.MethodName) ∈ GW := gwi 2205 (by decide +kernel) rfl
theorem wd2206 : Cond.instanceMethod ({ cls := "BakeryNightModel", name := "staleOrders", desc := "()I" } : Jvm.MethodName) ∈ GW := gwi 2206 (by decide +kernel) rfl
theorem wd2207 : Cond.selects "BakeryNightModel" ({ cls := "BakeryNightModel", name := "staleOrders", desc := "()I" } : Jvm.MethodName) ({ cls := "BakeryNightModel", name := "staleOrders", desc := "()I" } : Jvm.MethodName) ∈ GW := gwi 2207 (by decide +kernel) rfl
theorem wd2208 : Cond.code ({ cls := "BakeryNightModel", name := "staleOrders", desc := "()I" } : Jvm.MethodName) prog_15_method_128_code (4 : Nat) (Option.some Jvm.ClassFile.FieldType.int) ∈ GW := gwi 2208 (by decide +kernel) rfl
theorem wd2209 : Cond.methodLink "BakeryNightLaw" (163 : Nat) ({ cls := "BakeryNightModel", name := "latestStart", desc := "()I" } : Jvm.MethodName) ∈ GW := gwi 2209 (by decide +kernel) rfl
theorem wd2210 : Cond.instanceMethod ({ cls := "BakeryNightModel", name := "latestStart", desc := "()I" } : Jvm.MethodName) ∈ GW := gwi 2210 (by decide +kernel) rfl
theorem wd2211 : Cond.selects "BakeryNightModel" ({ cls := "BakeryNightModel", name := "latestStart", desc := "()I" } : Jvm.MethodName) ({ cls := "BakeryNightModel", name := "latestStart", desc := "()I" } : Jvm.MethodName) ∈ GW := gwi 2211 (by decide +kernel) rfl
theorem wd2212 : Cond.code ({ cls := "BakeryNightModel", name := "latestStart", desc := "()I" } : Jvm.MethodName) prog_15_method_132_code (1 : Nat) (Option.some Jvm.ClassFile.FieldType.int) ∈ GW := gwi 2212 (by decide +kernel) rfl
theorem wd2213 : Cond.methodLink "BakeryNightModel" (566 : Nat) ({ cls := "BakeryNightModel", name := "isMuch", desc := "()Z" } : Jvm.MethodName) ∈ GW := gwi 2213 (by decide +kernel) rfl
theorem wd2215 : Cond.instanceMethod ({ cls := "BakeryNightModel", name := "isMuch", desc := "()Z" } : Jvm.MethodName) ∈ GW := gwi 2215 (by decide +kernel) rfl
theorem wd2216 : Cond.code ({ cls := "BakeryNightModel", name := "isMuch", desc := "()Z" } : Jvm.MethodName) prog_15_method_131_code (1 : Nat) (Option.some Jvm.ClassFile.FieldType.boolean) ∈ GW := gwi 2216 (by decide +kernel) rfl
theorem wd2217 : Cond.methodLink "BakeryNightModel" (569 : Nat) ({ cls := "BakeryNightModel", name := "latest", desc := "([I)I" } : Jvm.MethodName) ∈ GW := gwi 2217 (by decide +kernel) rfl
theorem wd2219 : Cond.instanceMethod ({ cls := "BakeryNightModel", name := "latest", desc := "([I)I" } : Jvm.MethodName) ∈ GW := gwi 2219 (by decide +kernel) rfl
theorem wd2220 : Cond.code ({ cls := "BakeryNightModel", name := "latest", desc := "([I)I" } : Jvm.MethodName) prog_15_method_130_code (4 : Nat) (Option.some Jvm.ClassFile.FieldType.int) ∈ GW := gwi 2220 (by decide +kernel) rfl
theorem wd2221 : Cond.methodLink "BakeryNightModel" (563 : Nat) ({ cls := "BakeryNightModel", name := "slack", desc := "()I" } : Jvm.MethodName) ∈ GW := gwi 2221 (by decide +kernel) rfl
theorem wd2223 : Cond.instanceMethod ({ cls := "BakeryNightModel", name := "slack", desc := "()I" } : Jvm.MethodName) ∈ GW := gwi 2223 (by decide +kernel) rfl
theorem wd2224 : Cond.code ({ cls := "BakeryNightModel", name := "slack", desc := "()I" } : Jvm.MethodName) prog_15_method_129_code (3 : Nat) (Option.some Jvm.ClassFile.FieldType.int) ∈ GW := gwi 2224 (by decide +kernel) rfl
theorem wd2225 : Cond.methodLink "BakeryNightLaw" (167 : Nat) ({ cls := "BakeryNightModel", name := "latestStartWith", desc := "(I)I" } : Jvm.MethodName) ∈ GW := gwi 2225 (by decide +kernel) rfl
theorem wd2226 : Cond.instanceMethod ({ cls := "BakeryNightModel", name := "latestStartWith", desc := "(I)I" } : Jvm.MethodName) ∈ GW := gwi 2226 (by decide +kernel) rfl
theorem wd2227 : Cond.selects "BakeryNightModel" ({ cls := "BakeryNightModel", name := "latestStartWith", desc := "(I)I" } : Jvm.MethodName) ({ cls := "BakeryNightModel", name := "latestStartWith", desc := "(I)I" } : Jvm.MethodName) ∈ GW := gwi 2227 (by decide +kernel) rfl
theorem wd2228 : Cond.code ({ cls := "BakeryNightModel", name := "latestStartWith", desc := "(I)I" } : Jvm.MethodName) prog_15_method_133_code (3 : Nat) (Option.some Jvm.ClassFile.FieldType.int) ∈ GW := gwi 2228 (by decide +kernel) rfl
theorem wd2229 : Cond.constantLong "BakeryNightModel" (572 : Nat) (4 : Int64) ∈ GW := gwi 2229 (by decide +kernel) rfl
theorem wd2230 : Cond.methodLink "BakeryNightLaw" (171 : Nat) ({ cls := "BakeryNightModel", name := "vitalStreet", desc := "()I" } : Jvm.MethodName) ∈ GW := gwi 2230 (by decide +kernel) rfl
theorem wd2231 : Cond.instanceMethod ({ cls := "BakeryNightModel", name := "vitalStreet", desc := "()I" } : Jvm.MethodName) ∈ GW := gwi 2231 (by decide +kernel) rfl
theorem wd2232 : Cond.selects "BakeryNightModel" ({ cls := "BakeryNightModel", name := "vitalStreet", desc := "()I" } : Jvm.MethodName) ({ cls := "BakeryNightModel", name := "vitalStreet", desc := "()I" } : Jvm.MethodName) ∈ GW := gwi 2232 (by decide +kernel) rfl
theorem wd2233 : Cond.code ({ cls := "BakeryNightModel", name := "vitalStreet", desc := "()I" } : Jvm.MethodName) prog_15_method_134_code (5 : Nat) (Option.some Jvm.ClassFile.FieldType.int) ∈ GW := gwi 2233 (by decide +kernel) rfl
theorem wd2234 : Cond.methodLink "BakeryNightLaw" (175 : Nat) ({ cls := "BakeryNightModel", name := "setRoom", desc := "(I)I" } : Jvm.MethodName) ∈ GW := gwi 2234 (by decide +kernel) rfl
theorem wd2235 : Cond.instanceMethod ({ cls := "BakeryNightModel", name := "setRoom", desc := "(I)I" } : Jvm.MethodName) ∈ GW := gwi 2235 (by decide +kernel) rfl
theorem wd2236 : Cond.selects "BakeryNightModel" ({ cls := "BakeryNightModel", name := "setRoom", desc := "(I)I" } : Jvm.MethodName) ({ cls := "BakeryNightModel", name := "setRoom", desc := "(I)I" } : Jvm.MethodName) ∈ GW := gwi 2236 (by decide +kernel) rfl
theorem wd2237 : Cond.code ({ cls := "BakeryNightModel", name := "setRoom", desc := "(I)I" } : Jvm.MethodName) prog_15_method_137_code (2 : Nat) (Option.some Jvm.ClassFile.FieldType.int) ∈ GW := gwi 2237 (by decide +kernel) rfl
theorem wd2238 : Cond.constantLong "BakeryNightModel" (577 : Nat) (10 : Int64) ∈ GW := gwi 2238 (by decide +kernel) rfl
theorem wd2239 : Cond.constantLong "BakeryNightModel" (579 : Nat) (40 : Int64) ∈ GW := gwi 2239 (by decide +kernel) rfl
theorem wd2240 : Cond.methodLink "BakeryNightModel" (581 : Nat) ({ cls := "BakeryNightModel", name := "sets", desc := "(II)I" } : Jvm.MethodName) ∈ GW := gwi 2240 (by decide +kernel) rfl
theorem wd2242 : Cond.instanceMethod ({ cls := "BakeryNightModel", name := "sets", desc := "(II)I" } : Jvm.MethodName) ∈ GW := gwi 2242 (by decide +kernel) rfl
theorem wd2243 : Cond.code ({ cls := "BakeryNightModel", name := "sets", desc := "(II)I" } : Jvm.MethodName) prog_15_method_136_code (4 : Nat) (Option.some Jvm.ClassFile.FieldType.int) ∈ GW := gwi 2243 (by decide +kernel) rfl
theorem wd2244 : Cond.methodLink "BakeryNightModel" (574 : Nat) ({ cls := "BakeryNightModel", name := "records", desc := "()V" } : Jvm.MethodName) ∈ GW := gwi 2244 (by decide +kernel) rfl
theorem wd2246 : Cond.instanceMethod ({ cls := "BakeryNightModel", name := "records", desc := "()V" } : Jvm.MethodName) ∈ GW := gwi 2246 (by decide +kernel) rfl
theorem wd2247 : Cond.code ({ cls := "BakeryNightModel", name := "records", desc := "()V" } : Jvm.MethodName) prog_15_method_135_code (2 : Nat) (Option.none : Option Jvm.ClassFile.FieldType) ∈ GW := gwi 2247 (by decide +kernel) rfl
theorem wd2248 : Cond.methodLink "BakeryNightLaw" (180 : Nat) ({ cls := "BakeryNightModel", name := "breakOven", desc := "(IZ)Z" } : Jvm.MethodName) ∈ GW := gwi 2248 (by decide +kernel) rfl
theorem wd2249 : Cond.instanceMethod ({ cls := "BakeryNightModel", name := "breakOven", desc := "(IZ)Z" } : Jvm.MethodName) ∈ GW := gwi 2249 (by decide +kernel) rfl
theorem wd2250 : Cond.selects "BakeryNightModel" ({ cls := "BakeryNightModel", name := "breakOven", desc := "(IZ)Z" } : Jvm.MethodName) ({ cls := "BakeryNightModel", name := "breakOven", desc := "(IZ)Z" } : Jvm.MethodName) ∈ GW := gwi 2250 (by decide +kernel) rfl
theorem wd2251 : Cond.code ({ cls := "BakeryNightModel", name := "breakOven", desc := "(IZ)Z" } : Jvm.MethodName) prog_15_method_138_code (4 : Nat) (Option.some Jvm.ClassFile.FieldType.boolean) ∈ GW := gwi 2251 (by decide +kernel) rfl
theorem wd2252 : Cond.methodLink "BakeryNightLaw" (184 : Nat) ({ cls := "BakeryNightModel", name := "closeStreet", desc := "(IZ)Z" } : Jvm.MethodName) ∈ GW := gwi 2252 (by decide +kernel) rfl
theorem wd2253 : Cond.instanceMethod ({ cls := "BakeryNightModel", name := "closeStreet", desc := "(IZ)Z" } : Jvm.MethodName) ∈ GW := gwi 2253 (by decide +kernel) rfl
theorem wd2254 : Cond.selects "BakeryNightModel" ({ cls := "BakeryNightModel", name := "closeStreet", desc := "(IZ)Z" } : Jvm.MethodName) ({ cls := "BakeryNightModel", name := "closeStreet", desc := "(IZ)Z" } : Jvm.MethodName) ∈ GW := gwi 2254 (by decide +kernel) rfl
theorem wd2255 : Cond.code ({ cls := "BakeryNightModel", name := "closeStreet", desc := "(IZ)Z" } : Jvm.MethodName) prog_15_method_139_code (4 : Nat) (Option.some Jvm.ClassFile.FieldType.boolean) ∈ GW := gwi 2255 (by decide +kernel) rfl
theorem wd2256 : Cond.methodLink "BakeryNightLaw" (189 : Nat) ({ cls := "BakeryNightModel", name := "addOrder", desc := "(IIII)I" } : Jvm.MethodName) ∈ GW := gwi 2256 (by decide +kernel) rfl
theorem wd2257 : Cond.instanceMethod ({ cls := "BakeryNightModel", name := "addOrder", desc := "(IIII)I" } : Jvm.MethodName) ∈ GW := gwi 2257 (by decide +kernel) rfl
theorem wd2258 : Cond.selects "BakeryNightModel" ({ cls := "BakeryNightModel", name := "addOrder", desc := "(IIII)I" } : Jvm.MethodName) ({ cls := "BakeryNightModel", name := "addOrder", desc := "(IIII)I" } : Jvm.MethodName) ∈ GW := gwi 2258 (by decide +kernel) rfl
theorem wd2259 : Cond.code ({ cls := "BakeryNightModel", name := "addOrder", desc := "(IIII)I" } : Jvm.MethodName) prog_15_method_140_code (7 : Nat) (Option.some Jvm.ClassFile.FieldType.int) ∈ GW := gwi 2259 (by decide +kernel) rfl
theorem wd2260 : Cond.constantLong "BakeryNightModel" (584 : Nat) (200 : Int64) ∈ GW := gwi 2260 (by decide +kernel) rfl
theorem wd2261 : Cond.methodLink "BakeryNightLaw" (193 : Nat) ({ cls := "BakeryNightModel", name := "cancelOrder", desc := "(I)Z" } : Jvm.MethodName) ∈ GW := gwi 2261 (by decide +kernel) rfl
theorem wd2262 : Cond.instanceMethod ({ cls := "BakeryNightModel", name := "cancelOrder", desc := "(I)Z" } : Jvm.MethodName) ∈ GW := gwi 2262 (by decide +kernel) rfl
theorem wd2263 : Cond.selects "BakeryNightModel" ({ cls := "BakeryNightModel", name := "cancelOrder", desc := "(I)Z" } : Jvm.MethodName) ({ cls := "BakeryNightModel", name := "cancelOrder", desc := "(I)Z" } : Jvm.MethodName) ∈ GW := gwi 2263 (by decide +kernel) rfl
theorem wd2264 : Cond.code ({ cls := "BakeryNightModel", name := "cancelOrder", desc := "(I)Z" } : Jvm.MethodName) prog_15_method_142_code (3 : Nat) (Option.some Jvm.ClassFile.FieldType.boolean) ∈ GW := gwi 2264 (by decide +kernel) rfl
theorem wd2265 : Cond.methodLink "BakeryNightModel" (586 : Nat) ({ cls := "BakeryNightModel", name := "isOrder", desc := "(I)Z" } : Jvm.MethodName) ∈ GW := gwi 2265 (by decide +kernel) rfl
theorem wd2267 : Cond.instanceMethod ({ cls := "BakeryNightModel", name := "isOrder", desc := "(I)Z" } : Jvm.MethodName) ∈ GW := gwi 2267 (by decide +kernel) rfl
theorem wd2268 : Cond.code ({ cls := "BakeryNightModel", name := "isOrder", desc := "(I)Z" } : Jvm.MethodName) prog_15_method_141_code (2 : Nat) (Option.some Jvm.ClassFile.FieldType.boolean) ∈ GW := gwi 2268 (by decide +kernel) rfl
theorem wd2269 : Cond.methodLink "BakeryNightLaw" (197 : Nat) ({ cls := "BakeryNightModel", name := "moveOrder", desc := "(II)I" } : Jvm.MethodName) ∈ GW := gwi 2269 (by decide +kernel) rfl
theorem wd2270 : Cond.instanceMethod ({ cls := "BakeryNightModel", name := "moveOrder", desc := "(II)I" } : Jvm.MethodName) ∈ GW := gwi 2270 (by decide +kernel) rfl
theorem wd2271 : Cond.selects "BakeryNightModel" ({ cls := "BakeryNightModel", name := "moveOrder", desc := "(II)I" } : Jvm.MethodName) ({ cls := "BakeryNightModel", name := "moveOrder", desc := "(II)I" } : Jvm.MethodName) ∈ GW := gwi 2271 (by decide +kernel) rfl
theorem wd2272 : Cond.code ({ cls := "BakeryNightModel", name := "moveOrder", desc := "(II)I" } : Jvm.MethodName) prog_15_method_143_code (3 : Nat) (Option.some Jvm.ClassFile.FieldType.int) ∈ GW := gwi 2272 (by decide +kernel) rfl
theorem wd2273 : Cond.methodLink "BakeryNightLaw" (201 : Nat) ({ cls := "BakeryNightModel", name := "undo", desc := "()I" } : Jvm.MethodName) ∈ GW := gwi 2273 (by decide +kernel) rfl
theorem wd2274 : Cond.instanceMethod ({ cls := "BakeryNightModel", name := "undo", desc := "()I" } : Jvm.MethodName) ∈ GW := gwi 2274 (by decide +kernel) rfl
theorem wd2275 : Cond.selects "BakeryNightModel" ({ cls := "BakeryNightModel", name := "undo", desc := "()I" } : Jvm.MethodName) ({ cls := "BakeryNightModel", name := "undo", desc := "()I" } : Jvm.MethodName) ∈ GW := gwi 2275 (by decide +kernel) rfl
theorem wd2276 : Cond.code ({ cls := "BakeryNightModel", name := "undo", desc := "()I" } : Jvm.MethodName) prog_15_method_144_code (2 : Nat) (Option.some Jvm.ClassFile.FieldType.int) ∈ GW := gwi 2276 (by decide +kernel) rfl
theorem wd2278 : Cond.fieldLink "BakeryNight$Scanner" (51 : Nat) "BakeryNight$Word" "text" "Ljava/lang/String;" ∈ GW := gwi 2278 (by decide +kernel) rfl
theorem wd2279 : Cond.fieldLink "java/lang/String" (9 : Nat) "java/lang/String" "value" "[B" ∈ GW := gwi 2279 (by decide +kernel) rfl
theorem wd2280 : Cond.fieldLink "java/lang/String" (15 : Nat) "java/lang/String" "coder" "B" ∈ GW := gwi 2280 (by decide +kernel) rfl
theorem wd2281 : Cond.fieldLink "java/lang/Enum" (7 : Nat) "java/lang/Enum" "ordinal" "I" ∈ GW := gwi 2281 (by decide +kernel) rfl
theorem lay_X1_ix : ∀ k, k < 14 → lw_tbl[([495, 497, 499, 501, 503, 505, 507, 509, 511, 513, 515, 517, 519, 521] : List Nat).getD k 0]? = some (u_lay RX1 TX1 k) ∧ goodWord (u_lay RX1 TX1 k) = true := by decide +kernel
theorem lay_X1 : ∀ w ∈ u_ws RX1 TX1 14, w ∈ GW := fun w hw => by
  obtain ⟨k, hk, rfl⟩ := List.mem_map.mp hw
  have h := lay_X1_ix k (List.mem_range.mp hk)
  exact gwi _ h.1 h.2
theorem lay_X2_ix : ∀ k, k < 10 → lw_tbl[([286, 288, 290, 292, 294, 296, 298, 300, 302, 304] : List Nat).getD k 0]? = some (u_lay RX2 TX2 k) ∧ goodWord (u_lay RX2 TX2 k) = true := by decide +kernel
theorem lay_X2 : ∀ w ∈ u_ws RX2 TX2 10, w ∈ GW := fun w hw => by
  obtain ⟨k, hk, rfl⟩ := List.mem_map.mp hw
  have h := lay_X2_ix k (List.mem_range.mp hk)
  exact gwi _ h.1 h.2
theorem lay_X3_ix : ∀ k, k < 4 → lw_tbl[([535, 537, 539, 541] : List Nat).getD k 0]? = some (u_lay RX3 TX3 k) ∧ goodWord (u_lay RX3 TX3 k) = true := by decide +kernel
theorem lay_X3 : ∀ w ∈ u_ws RX3 TX3 4, w ∈ GW := fun w hw => by
  obtain ⟨k, hk, rfl⟩ := List.mem_map.mp hw
  have h := lay_X3_ix k (List.mem_range.mp hk)
  exact gwi _ h.1 h.2
theorem lay_X4_ix : ∀ k, k < 20 → lw_tbl[([579, 581, 583, 585, 587, 589, 591, 593, 595, 597, 599, 601, 603, 605, 607, 609, 611, 613, 615, 617] : List Nat).getD k 0]? = some (u_lay RX4 TX4 k) ∧ goodWord (u_lay RX4 TX4 k) = true := by decide +kernel
theorem lay_X4 : ∀ w ∈ u_ws RX4 TX4 20, w ∈ GW := fun w hw => by
  obtain ⟨k, hk, rfl⟩ := List.mem_map.mp hw
  have h := lay_X4_ix k (List.mem_range.mp hk)
  exact gwi _ h.1 h.2
theorem lay_X5_ix : ∀ k, k < 5 → lw_tbl[([360, 362, 364, 366, 368] : List Nat).getD k 0]? = some (u_lay RX5 TX5 k) ∧ goodWord (u_lay RX5 TX5 k) = true := by decide +kernel
theorem lay_X5 : ∀ w ∈ u_ws RX5 TX5 5, w ∈ GW := fun w hw => by
  obtain ⟨k, hk, rfl⟩ := List.mem_map.mp hw
  have h := lay_X5_ix k (List.mem_range.mp hk)
  exact gwi _ h.1 h.2
theorem lay_X6_ix : ∀ k, k < 4 → lw_tbl[([325, 327, 329, 331] : List Nat).getD k 0]? = some (u_lay RX6 TX6 k) ∧ goodWord (u_lay RX6 TX6 k) = true := by decide +kernel
theorem lay_X6 : ∀ w ∈ u_ws RX6 TX6 4, w ∈ GW := fun w hw => by
  obtain ⟨k, hk, rfl⟩ := List.mem_map.mp hw
  have h := lay_X6_ix k (List.mem_range.mp hk)
  exact gwi _ h.1 h.2
theorem lay_X7_ix : ∀ k, k < 9 → lw_tbl[([229, 231, 233, 235, 237, 239, 241, 243, 245] : List Nat).getD k 0]? = some (u_lay RX7 TX7 k) ∧ goodWord (u_lay RX7 TX7 k) = true := by decide +kernel
theorem lay_X7 : ∀ w ∈ u_ws RX7 TX7 9, w ∈ GW := fun w hw => by
  obtain ⟨k, hk, rfl⟩ := List.mem_map.mp hw
  have h := lay_X7_ix k (List.mem_range.mp hk)
  exact gwi _ h.1 h.2
theorem lay_X8_ix : ∀ k, k < 15 → lw_tbl[([644, 646, 648, 650, 652, 654, 656, 658, 660, 662, 664, 666, 668, 670, 672] : List Nat).getD k 0]? = some (u_lay RX8 TX8 k) ∧ goodWord (u_lay RX8 TX8 k) = true := by decide +kernel
theorem lay_X8 : ∀ w ∈ u_ws RX8 TX8 15, w ∈ GW := fun w hw => by
  obtain ⟨k, hk, rfl⟩ := List.mem_map.mp hw
  have h := lay_X8_ix k (List.mem_range.mp hk)
  exact gwi _ h.1 h.2
theorem lay_X9_ix : ∀ k, k < 7 → lw_tbl[([395, 397, 399, 401, 403, 405, 407] : List Nat).getD k 0]? = some (u_lay RX9 TX9 k) ∧ goodWord (u_lay RX9 TX9 k) = true := by decide +kernel
theorem lay_X9 : ∀ w ∈ u_ws RX9 TX9 7, w ∈ GW := fun w hw => by
  obtain ⟨k, hk, rfl⟩ := List.mem_map.mp hw
  have h := lay_X9_ix k (List.mem_range.mp hk)
  exact gwi _ h.1 h.2
theorem lay_X10_ix : ∀ k, k < 5 → lw_tbl[([206, 208, 210, 212, 214] : List Nat).getD k 0]? = some (u_lay RX10 TX10 k) ∧ goodWord (u_lay RX10 TX10 k) = true := by decide +kernel
theorem lay_X10 : ∀ w ∈ u_ws RX10 TX10 5, w ∈ GW := fun w hw => by
  obtain ⟨k, hk, rfl⟩ := List.mem_map.mp hw
  have h := lay_X10_ix k (List.mem_range.mp hk)
  exact gwi _ h.1 h.2
theorem lay_X12_ix : ∀ k, k < 12 → lw_tbl[([687, 689, 691, 693, 695, 697, 699, 701, 703, 705, 707, 709] : List Nat).getD k 0]? = some (u_lay RX12 TX12 k) ∧ goodWord (u_lay RX12 TX12 k) = true := by decide +kernel
theorem lay_X12 : ∀ w ∈ u_ws RX12 TX12 12, w ∈ GW := fun w hw => by
  obtain ⟨k, hk, rfl⟩ := List.mem_map.mp hw
  have h := lay_X12_ix k (List.mem_range.mp hk)
  exact gwi _ h.1 h.2
theorem lay_X13_ix : ∀ k, k < 55 → lw_tbl[([1557, 1559, 1561, 1563, 1565, 1567, 1569, 1571, 1573, 1575, 1577, 1579, 1581, 1583, 1585, 1587, 1589, 1591, 1593, 1595, 1597, 1599, 1601, 1603, 1605, 1607, 1609, 1611, 1613, 1615, 1617, 1619, 1621, 1623, 1625, 1627, 1629, 1631, 1633, 1635, 1637, 1639, 1641, 1643, 1645, 1647, 1649, 1651, 1653, 1655, 1657, 1659, 1661, 1663, 1665] : List Nat).getD k 0]? = some (u_lay RX13 TX13 k) ∧ goodWord (u_lay RX13 TX13 k) = true := by decide +kernel
theorem lay_X13 : ∀ w ∈ u_ws RX13 TX13 55, w ∈ GW := fun w hw => by
  obtain ⟨k, hk, rfl⟩ := List.mem_map.mp hw
  have h := lay_X13_ix k (List.mem_range.mp hk)
  exact gwi _ h.1 h.2
