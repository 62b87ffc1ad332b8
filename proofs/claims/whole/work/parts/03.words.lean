theorem wd0 : Cond.selects "BakeryNight$Roads" (⟨"BakeryNight$Roads", "joinStreets", "()V"⟩ : MethodName) ⟨"BakeryNight$Roads", "joinStreets", "()V"⟩ ∈ GW := gwp0 0 (by decide +kernel) rfl
theorem wd1 : Cond.selects "BakeryNight$Roads" (⟨"BakeryNight$Roads", "measureRoutes", "(I)V"⟩ : MethodName) ⟨"BakeryNight$Roads", "measureRoutes", "(I)V"⟩ ∈ GW := gwp0 1 (by decide +kernel) rfl
theorem wd2 : Cond.selects "BakeryNight$Roads" (⟨"BakeryNight$Roads", "by", "(III)I"⟩ : MethodName) ⟨"BakeryNight$Roads", "by", "(III)I"⟩ ∈ GW := gwp0 2 (by decide +kernel) rfl
theorem wd3 : Cond.selects "BakeryNight" (⟨"BakeryNight", "append", "(I)V"⟩ : MethodName) ⟨"BakeryNight", "append", "(I)V"⟩ ∈ GW := gwp0 3 (by decide +kernel) rfl
theorem wd4 : Cond.selects "BakeryNight$Parser" (⟨"BakeryNight$Parser", "readStatement", "(LBakeryNight$Bakery;)V"⟩ : MethodName) ⟨"BakeryNight$Parser", "readStatement", "(LBakeryNight$Bakery;)V"⟩ ∈ GW := gwp0 4 (by decide +kernel) rfl
theorem wd5 : Cond.selects "BakeryNight$Parser" (⟨"BakeryNight$Parser", "fail", "(I)V"⟩ : MethodName) ⟨"BakeryNight$Parser", "fail", "(I)V"⟩ ∈ GW := gwp0 5 (by decide +kernel) rfl
theorem wd6 : Cond.selects "BakeryNight$Parser" (⟨"BakeryNight$Parser", "readSetting", "(ZII)I"⟩ : MethodName) ⟨"BakeryNight$Parser", "readSetting", "(ZII)I"⟩ ∈ GW := gwp0 6 (by decide +kernel) rfl
theorem wd7 : Cond.selects "BakeryNight$Parser" (⟨"BakeryNight$Parser", "readNumber", "(II)I"⟩ : MethodName) ⟨"BakeryNight$Parser", "readNumber", "(II)I"⟩ ∈ GW := gwp0 7 (by decide +kernel) rfl
theorem wd8 : Cond.selects "BakeryNight$Parser" (⟨"BakeryNight$Parser", "failed", "()Z"⟩ : MethodName) ⟨"BakeryNight$Parser", "failed", "()Z"⟩ ∈ GW := gwp0 8 (by decide +kernel) rfl
theorem wd9 : Cond.selects "BakeryNight$Parser" (⟨"BakeryNight$Parser", "readDough", "(LBakeryNight$Bakery;)V"⟩ : MethodName) ⟨"BakeryNight$Parser", "readDough", "(LBakeryNight$Bakery;)V"⟩ ∈ GW := gwp0 9 (by decide +kernel) rfl
theorem wd10 : Cond.selects "BakeryNight$Parser" (⟨"BakeryNight$Parser", "beginOneOf", "(II)V"⟩ : MethodName) ⟨"BakeryNight$Parser", "beginOneOf", "(II)V"⟩ ∈ GW := gwp0 10 (by decide +kernel) rfl
theorem wd11 : Cond.selects "BakeryNight$Parser" (⟨"BakeryNight$Parser", "readNewName", "([JI)V"⟩ : MethodName) ⟨"BakeryNight$Parser", "readNewName", "([JI)V"⟩ ∈ GW := gwp0 11 (by decide +kernel) rfl
theorem wd12 : Cond.selects "BakeryNight$Parser" (⟨"BakeryNight$Parser", "indexOfName", "([JI)I"⟩ : MethodName) ⟨"BakeryNight$Parser", "indexOfName", "([JI)I"⟩ ∈ GW := gwp0 12 (by decide +kernel) rfl
theorem wd13 : Cond.selects "BakeryNight$Parser" (⟨"BakeryNight$Parser", "readField", "(LBakeryNight$Word;II)I"⟩ : MethodName) ⟨"BakeryNight$Parser", "readField", "(LBakeryNight$Word;II)I"⟩ ∈ GW := gwp0 13 (by decide +kernel) rfl
theorem wd14 : Cond.selects "BakeryNight$Parser" (⟨"BakeryNight$Parser", "readOven", "(LBakeryNight$Bakery;)V"⟩ : MethodName) ⟨"BakeryNight$Parser", "readOven", "(LBakeryNight$Bakery;)V"⟩ ∈ GW := gwp0 14 (by decide +kernel) rfl
theorem wd15 : Cond.selects "BakeryNight$Parser" (⟨"BakeryNight$Parser", "readShop", "(LBakeryNight$Bakery;)V"⟩ : MethodName) ⟨"BakeryNight$Parser", "readShop", "(LBakeryNight$Bakery;)V"⟩ ∈ GW := gwp0 15 (by decide +kernel) rfl
theorem wd16 : Cond.selects "BakeryNight$Parser" (⟨"BakeryNight$Parser", "readStreet", "(LBakeryNight$Bakery;)V"⟩ : MethodName) ⟨"BakeryNight$Parser", "readStreet", "(LBakeryNight$Bakery;)V"⟩ ∈ GW := gwp1 0 (by decide +kernel) rfl
theorem wd17 : Cond.selects "BakeryNight$Parser" (⟨"BakeryNight$Parser", "readPlace", "(LBakeryNight$Bakery;I)I"⟩ : MethodName) ⟨"BakeryNight$Parser", "readPlace", "(LBakeryNight$Bakery;I)I"⟩ ∈ GW := gwp1 1 (by decide +kernel) rfl
theorem wd18 : Cond.selects "BakeryNight$Parser" (⟨"BakeryNight$Parser", "readVan", "(LBakeryNight$Bakery;)V"⟩ : MethodName) ⟨"BakeryNight$Parser", "readVan", "(LBakeryNight$Bakery;)V"⟩ ∈ GW := gwp1 2 (by decide +kernel) rfl
theorem wd19 : Cond.selects "BakeryNight$Parser" (⟨"BakeryNight$Parser", "readOrder", "(LBakeryNight$Bakery;)V"⟩ : MethodName) ⟨"BakeryNight$Parser", "readOrder", "(LBakeryNight$Bakery;)V"⟩ ∈ GW := gwp1 3 (by decide +kernel) rfl
theorem wd20 : Cond.selects "BakeryNight$Parser" (⟨"BakeryNight$Parser", "readKnownName", "([JI)I"⟩ : MethodName) ⟨"BakeryNight$Parser", "readKnownName", "([JI)I"⟩ ∈ GW := gwp1 4 (by decide +kernel) rfl
theorem wd21 : Cond.selects "BakeryNight$Parser" (⟨"BakeryNight$Parser", "readSemicolon", "()V"⟩ : MethodName) ⟨"BakeryNight$Parser", "readSemicolon", "()V"⟩ ∈ GW := gwp1 5 (by decide +kernel) rfl
theorem wd22 : Cond.selects "BakeryNight" (⟨"BakeryNight", "dropNight", "()V"⟩ : MethodName) ⟨"BakeryNight", "dropNight", "()V"⟩ ∈ GW := gwp1 6 (by decide +kernel) rfl
theorem wd23 : Cond.selects "BakeryNight" (⟨"BakeryNight", "placeOf", "(I)I"⟩ : MethodName) ⟨"BakeryNight", "placeOf", "(I)I"⟩ ∈ GW := gwp1 7 (by decide +kernel) rfl
theorem wd24 : Cond.selects "BakeryNight$Night" (⟨"BakeryNight$Night", "begin", "(LBakeryNight$Bakery;I)V"⟩ : MethodName) ⟨"BakeryNight$Night", "begin", "(LBakeryNight$Bakery;I)V"⟩ ∈ GW := gwp1 8 (by decide +kernel) rfl
theorem wd25 : Cond.selects "BakeryNight$Night" (⟨"BakeryNight$Night", "numberBatches", "(LBakeryNight$Bakery;)V"⟩ : MethodName) ⟨"BakeryNight$Night", "numberBatches", "(LBakeryNight$Bakery;)V"⟩ ∈ GW := gwp1 9 (by decide +kernel) rfl
theorem wd26 : Cond.selects "BakeryNight$Night" (⟨"BakeryNight$Night", "noteWhatEnded", "(LBakeryNight$Bakery;I)V"⟩ : MethodName) ⟨"BakeryNight$Night", "noteWhatEnded", "(LBakeryNight$Bakery;I)V"⟩ ∈ GW := gwp1 10 (by decide +kernel) rfl
theorem wd27 : Cond.selects "BakeryNight$Night" (⟨"BakeryNight$Night", "isIn", "(III)Z"⟩ : MethodName) ⟨"BakeryNight$Night", "isIn", "(III)Z"⟩ ∈ GW := gwp1 11 (by decide +kernel) rfl
theorem wd28 : Cond.selects "BakeryNight$Night" (⟨"BakeryNight$Night", "spoilWaiting", "(LBakeryNight$Bakery;I)V"⟩ : MethodName) ⟨"BakeryNight$Night", "spoilWaiting", "(LBakeryNight$Bakery;I)V"⟩ ∈ GW := gwp1 12 (by decide +kernel) rfl
theorem wd29 : Cond.selects "BakeryNight$Night" (⟨"BakeryNight$Night", "bakeWaiting", "(LBakeryNight$Bakery;I)V"⟩ : MethodName) ⟨"BakeryNight$Night", "bakeWaiting", "(LBakeryNight$Bakery;I)V"⟩ ∈ GW := gwp1 13 (by decide +kernel) rfl
theorem wd30 : Cond.selects "BakeryNight$Night" (⟨"BakeryNight$Night", "freeOven", "(LBakeryNight$Bakery;II)I"⟩ : MethodName) ⟨"BakeryNight$Night", "freeOven", "(LBakeryNight$Bakery;II)I"⟩ ∈ GW := gwp1 14 (by decide +kernel) rfl
theorem wd31 : Cond.selects "BakeryNight$Night" (⟨"BakeryNight$Night", "changeAnOven", "(LBakeryNight$Bakery;II)V"⟩ : MethodName) ⟨"BakeryNight$Night", "changeAnOven", "(LBakeryNight$Bakery;II)V"⟩ ∈ GW := gwp1 15 (by decide +kernel) rfl
theorem wd32 : Cond.selects "BakeryNight$Night" (⟨"BakeryNight$Night", "shapeWaiting", "(LBakeryNight$Bakery;I)V"⟩ : MethodName) ⟨"BakeryNight$Night", "shapeWaiting", "(LBakeryNight$Bakery;I)V"⟩ ∈ GW := gwp2 0 (by decide +kernel) rfl
theorem wd33 : Cond.selects "BakeryNight$Night" (⟨"BakeryNight$Night", "mixNext", "(LBakeryNight$Bakery;I)V"⟩ : MethodName) ⟨"BakeryNight$Night", "mixNext", "(LBakeryNight$Bakery;I)V"⟩ ∈ GW := gwp2 1 (by decide +kernel) rfl
theorem wd34 : Cond.selects "BakeryNight$Night" (⟨"BakeryNight$Night", "nextMinute", "(LBakeryNight$Bakery;I)I"⟩ : MethodName) ⟨"BakeryNight$Night", "nextMinute", "(LBakeryNight$Bakery;I)I"⟩ ∈ GW := gwp2 2 (by decide +kernel) rfl
theorem wd35 : Cond.selects "BakeryNight$Night" (⟨"BakeryNight$Night", "giveLoaves", "(LBakeryNight$Bakery;)V"⟩ : MethodName) ⟨"BakeryNight$Night", "giveLoaves", "(LBakeryNight$Bakery;)V"⟩ ∈ GW := gwp2 3 (by decide +kernel) rfl
theorem wd36 : Cond.selects "BakeryNight$Bakery" (⟨"BakeryNight$Bakery", "comesBefore", "(II)Z"⟩ : MethodName) ⟨"BakeryNight$Bakery", "comesBefore", "(II)Z"⟩ ∈ GW := gwp2 4 (by decide +kernel) rfl
theorem wd37 : Cond.selects "BakeryNight$Night" (⟨"BakeryNight$Night", "takenOut", "(LBakeryNight$Bakery;II)I"⟩ : MethodName) ⟨"BakeryNight$Night", "takenOut", "(LBakeryNight$Bakery;II)I"⟩ ∈ GW := gwp2 5 (by decide +kernel) rfl
theorem wd38 : Cond.selects "BakeryNight" (⟨"BakeryNight", "bestPlan", "()LBakeryNight$Plan;"⟩ : MethodName) ⟨"BakeryNight", "bestPlan", "()LBakeryNight$Plan;"⟩ ∈ GW := gwp2 6 (by decide +kernel) rfl
theorem wd39 : Cond.selects "BakeryNight$Plan" (⟨"BakeryNight$Plan", "measureSets", "(LBakeryNight$Bakery;)V"⟩ : MethodName) ⟨"BakeryNight$Plan", "measureSets", "(LBakeryNight$Bakery;)V"⟩ ∈ GW := gwp2 7 (by decide +kernel) rfl
theorem wd40 : Cond.selects "BakeryNight$Plan" (⟨"BakeryNight$Plan", "drive", "(LBakeryNight$Roads;I)V"⟩ : MethodName) ⟨"BakeryNight$Plan", "drive", "(LBakeryNight$Roads;I)V"⟩ ∈ GW := gwp2 8 (by decide +kernel) rfl
theorem wd41 : Cond.selects "BakeryNight$Plan" (⟨"BakeryNight$Plan", "departureFor", "(I)I"⟩ : MethodName) ⟨"BakeryNight$Plan", "departureFor", "(I)I"⟩ ∈ GW := gwp2 9 (by decide +kernel) rfl
theorem wd42 : Cond.selects "BakeryNight$Plan" (⟨"BakeryNight$Plan", "firstWay", "(LBakeryNight$Bakery;)I"⟩ : MethodName) ⟨"BakeryNight$Plan", "firstWay", "(LBakeryNight$Bakery;)I"⟩ ∈ GW := gwp2 10 (by decide +kernel) rfl
theorem wd43 : Cond.selects "BakeryNight$Plan" (⟨"BakeryNight$Plan", "canCarry", "(LBakeryNight$Bakery;)Z"⟩ : MethodName) ⟨"BakeryNight$Plan", "canCarry", "(LBakeryNight$Bakery;)Z"⟩ ∈ GW := gwp2 11 (by decide +kernel) rfl
theorem wd44 : Cond.selects "BakeryNight$Plan" (⟨"BakeryNight$Plan", "nextWay", "(LBakeryNight$Bakery;)V"⟩ : MethodName) ⟨"BakeryNight$Plan", "nextWay", "(LBakeryNight$Bakery;)V"⟩ ∈ GW := gwp2 12 (by decide +kernel) rfl
theorem wd45 : Cond.selects "BakeryNight" (⟨"BakeryNight", "latestAsItIs", "()I"⟩ : MethodName) ⟨"BakeryNight", "latestAsItIs", "()I"⟩ ∈ GW := gwp2 13 (by decide +kernel) rfl
theorem wd46 : Cond.selects "BakeryNight" (⟨"BakeryNight", "recordChange", "(III)V"⟩ : MethodName) ⟨"BakeryNight", "recordChange", "(III)V"⟩ ∈ GW := gwp2 14 (by decide +kernel) rfl
theorem wd47 : Cond.selects "BakeryNight$History" (⟨"BakeryNight$History", "dropOldest", "()V"⟩ : MethodName) ⟨"BakeryNight$History", "dropOldest", "()V"⟩ ∈ GW := gwp2 15 (by decide +kernel) rfl
theorem wd48 : Cond.selects "java/lang/Throwable" (⟨"java/lang/Throwable", "fillInStackTrace", "(I)Ljava/lang/Throwable;"⟩ : MethodName) ⟨"java/lang/Throwable", "fillInStackTrace", "(I)Ljava/lang/Throwable;"⟩ ∈ GW := gwp3 0 (by decide +kernel) rfl
theorem wd49 : Cond.selects "BakeryNightModel" (⟨"BakeryNightModel", "empties", "([I)V"⟩ : MethodName) ⟨"BakeryNightModel", "empties", "([I)V"⟩ ∈ GW := gwp3 1 (by decide +kernel) rfl
theorem wd50 : Cond.selects "BakeryNightModel" (⟨"BakeryNightModel", "isIn", "(JJJ)Z"⟩ : MethodName) ⟨"BakeryNightModel", "isIn", "(JJJ)Z"⟩ ∈ GW := gwp3 2 (by decide +kernel) rfl
theorem wd51 : Cond.selects "BakeryNightModel" (⟨"BakeryNightModel", "skips", "()V"⟩ : MethodName) ⟨"BakeryNightModel", "skips", "()V"⟩ ∈ GW := gwp3 3 (by decide +kernel) rfl
theorem wd52 : Cond.selects "BakeryNightModel" (⟨"BakeryNightModel", "here", "()I"⟩ : MethodName) ⟨"BakeryNightModel", "here", "()I"⟩ ∈ GW := gwp3 4 (by decide +kernel) rfl
theorem wd53 : Cond.selects "BakeryNightModel" (⟨"BakeryNightModel", "byteAt", "(I)I"⟩ : MethodName) ⟨"BakeryNightModel", "byteAt", "(I)I"⟩ ∈ GW := gwp3 5 (by decide +kernel) rfl
theorem wd54 : Cond.selects "BakeryNightModel" (⟨"BakeryNightModel", "fine", "()Z"⟩ : MethodName) ⟨"BakeryNightModel", "fine", "()Z"⟩ ∈ GW := gwp3 6 (by decide +kernel) rfl
theorem wd55 : Cond.selects "BakeryNightModel" (⟨"BakeryNightModel", "statement", "()V"⟩ : MethodName) ⟨"BakeryNightModel", "statement", "()V"⟩ ∈ GW := gwp3 7 (by decide +kernel) rfl
theorem wd56 : Cond.selects "BakeryNightModel" (⟨"BakeryNightModel", "singleHere", "()I"⟩ : MethodName) ⟨"BakeryNightModel", "singleHere", "()I"⟩ ∈ GW := gwp3 8 (by decide +kernel) rfl
theorem wd57 : Cond.selects "BakeryNightModel" (⟨"BakeryNightModel", "isWord", "(Ljava/lang/String;)Z"⟩ : MethodName) ⟨"BakeryNightModel", "isWord", "(Ljava/lang/String;)Z"⟩ ∈ GW := gwp3 9 (by decide +kernel) rfl
theorem wd58 : Cond.selects "BakeryNightModel" (⟨"BakeryNightModel", "wordLength", "()I"⟩ : MethodName) ⟨"BakeryNightModel", "wordLength", "()I"⟩ ∈ GW := gwp3 10 (by decide +kernel) rfl
theorem wd59 : Cond.selects "BakeryNightModel" (⟨"BakeryNightModel", "isLetter", "(I)Z"⟩ : MethodName) ⟨"BakeryNightModel", "isLetter", "(I)Z"⟩ ∈ GW := gwp3 11 (by decide +kernel) rfl
theorem wd60 : Cond.selects "BakeryNightModel" (⟨"BakeryNightModel", "manyHere", "()I"⟩ : MethodName) ⟨"BakeryNightModel", "manyHere", "()I"⟩ ∈ GW := gwp3 12 (by decide +kernel) rfl
theorem wd61 : Cond.selects "BakeryNightModel" (⟨"BakeryNightModel", "single", "(I)V"⟩ : MethodName) ⟨"BakeryNightModel", "single", "(I)V"⟩ ∈ GW := gwp3 13 (by decide +kernel) rfl
theorem wd62 : Cond.selects "BakeryNightModel" (⟨"BakeryNightModel", "has", "(II)Z"⟩ : MethodName) ⟨"BakeryNightModel", "has", "(II)Z"⟩ ∈ GW := gwp3 14 (by decide +kernel) rfl
theorem wd63 : Cond.selects "BakeryNightModel" (⟨"BakeryNightModel", "faulty", "(II)V"⟩ : MethodName) ⟨"BakeryNightModel", "faulty", "(II)V"⟩ ∈ GW := gwp3 15 (by decide +kernel) rfl
theorem wd64 : Cond.selects "BakeryNightModel" (⟨"BakeryNightModel", "skipsWord", "()V"⟩ : MethodName) ⟨"BakeryNightModel", "skipsWord", "()V"⟩ ∈ GW := gwp4 0 (by decide +kernel) rfl
theorem wd65 : Cond.selects "BakeryNightModel" (⟨"BakeryNightModel", "number", "(II)I"⟩ : MethodName) ⟨"BakeryNightModel", "number", "(II)I"⟩ ∈ GW := gwp4 1 (by decide +kernel) rfl
theorem wd66 : Cond.selects "BakeryNightModel" (⟨"BakeryNightModel", "many", "(I)V"⟩ : MethodName) ⟨"BakeryNightModel", "many", "(I)V"⟩ ∈ GW := gwp4 2 (by decide +kernel) rfl
theorem wd67 : Cond.selects "BakeryNightModel" (⟨"BakeryNightModel", "mostOf", "(I)I"⟩ : MethodName) ⟨"BakeryNightModel", "mostOf", "(I)I"⟩ ∈ GW := gwp4 3 (by decide +kernel) rfl
theorem wd68 : Cond.selects "BakeryNightModel" (⟨"BakeryNightModel", "doughStatement", "()V"⟩ : MethodName) ⟨"BakeryNightModel", "doughStatement", "()V"⟩ ∈ GW := gwp4 4 (by decide +kernel) rfl
theorem wd69 : Cond.selects "BakeryNightModel" (⟨"BakeryNightModel", "fresh", "([JI)J"⟩ : MethodName) ⟨"BakeryNightModel", "fresh", "([JI)J"⟩ ∈ GW := gwp4 5 (by decide +kernel) rfl
theorem wd70 : Cond.selects "BakeryNightModel" (⟨"BakeryNightModel", "name", "()J"⟩ : MethodName) ⟨"BakeryNightModel", "name", "()J"⟩ ∈ GW := gwp4 6 (by decide +kernel) rfl
theorem wd71 : Cond.selects "BakeryNightModel" (⟨"BakeryNightModel", "isKeyword", "()Z"⟩ : MethodName) ⟨"BakeryNightModel", "isKeyword", "()Z"⟩ ∈ GW := gwp4 7 (by decide +kernel) rfl
theorem wd72 : Cond.selects "BakeryNightModel" (⟨"BakeryNightModel", "placeOf", "([JIJ)I"⟩ : MethodName) ⟨"BakeryNightModel", "placeOf", "([JIJ)I"⟩ ∈ GW := gwp4 8 (by decide +kernel) rfl
theorem wd73 : Cond.selects "BakeryNightModel" (⟨"BakeryNightModel", "part", "(ILjava/lang/String;II)V"⟩ : MethodName) ⟨"BakeryNightModel", "part", "(ILjava/lang/String;II)V"⟩ ∈ GW := gwp4 9 (by decide +kernel) rfl
theorem wd74 : Cond.selects "BakeryNightModel" (⟨"BakeryNightModel", "needs", "(Ljava/lang/String;)V"⟩ : MethodName) ⟨"BakeryNightModel", "needs", "(Ljava/lang/String;)V"⟩ ∈ GW := gwp4 10 (by decide +kernel) rfl
theorem wd75 : Cond.selects "BakeryNightModel" (⟨"BakeryNightModel", "takes", "(Ljava/lang/String;)Z"⟩ : MethodName) ⟨"BakeryNightModel", "takes", "(Ljava/lang/String;)Z"⟩ ∈ GW := gwp4 11 (by decide +kernel) rfl
theorem wd76 : Cond.selects "BakeryNightModel" (⟨"BakeryNightModel", "ovenStatement", "()V"⟩ : MethodName) ⟨"BakeryNightModel", "ovenStatement", "()V"⟩ ∈ GW := gwp4 12 (by decide +kernel) rfl
theorem wd77 : Cond.selects "BakeryNightModel" (⟨"BakeryNightModel", "streetStatement", "()V"⟩ : MethodName) ⟨"BakeryNightModel", "streetStatement", "()V"⟩ ∈ GW := gwp4 13 (by decide +kernel) rfl
theorem wd78 : Cond.selects "BakeryNightModel" (⟨"BakeryNightModel", "place", "()I"⟩ : MethodName) ⟨"BakeryNightModel", "place", "()I"⟩ ∈ GW := gwp4 14 (by decide +kernel) rfl
theorem wd79 : Cond.selects "BakeryNightModel" (⟨"BakeryNightModel", "known", "([JI)I"⟩ : MethodName) ⟨"BakeryNightModel", "known", "([JI)I"⟩ ∈ GW := gwp4 15 (by decide +kernel) rfl
theorem wd80 : Cond.selects "BakeryNightModel" (⟨"BakeryNightModel", "greater", "(II)I"⟩ : MethodName) ⟨"BakeryNightModel", "greater", "(II)I"⟩ ∈ GW := gwp5 0 (by decide +kernel) rfl
theorem wd81 : Cond.selects "BakeryNightModel" (⟨"BakeryNightModel", "orderStatement", "()V"⟩ : MethodName) ⟨"BakeryNightModel", "orderStatement", "()V"⟩ ∈ GW := gwp5 1 (by decide +kernel) rfl
theorem wd82 : Cond.selects "BakeryNightModel" (⟨"BakeryNightModel", "semicolon", "()V"⟩ : MethodName) ⟨"BakeryNightModel", "semicolon", "()V"⟩ ∈ GW := gwp5 2 (by decide +kernel) rfl
theorem wd83 : Cond.selects "BakeryNightModel" (⟨"BakeryNightModel", "copies", "([I[I)V"⟩ : MethodName) ⟨"BakeryNightModel", "copies", "([I[I)V"⟩ ∈ GW := gwp5 3 (by decide +kernel) rfl
theorem wd84 : Cond.selects "BakeryNightModel" (⟨"BakeryNightModel", "isDough", "(I)Z"⟩ : MethodName) ⟨"BakeryNightModel", "isDough", "(I)Z"⟩ ∈ GW := gwp5 4 (by decide +kernel) rfl
theorem wd85 : Cond.selects "BakeryNightModel" (⟨"BakeryNightModel", "loavesOf", "([II)I"⟩ : MethodName) ⟨"BakeryNightModel", "loavesOf", "([II)I"⟩ ∈ GW := gwp5 5 (by decide +kernel) rfl
theorem wd86 : Cond.selects "BakeryNightModel" (⟨"BakeryNightModel", "isMeant", "([II)Z"⟩ : MethodName) ⟨"BakeryNightModel", "isMeant", "([II)Z"⟩ ∈ GW := gwp5 6 (by decide +kernel) rfl
theorem wd87 : Cond.selects "BakeryNightModel" (⟨"BakeryNightModel", "order", "([III)I"⟩ : MethodName) ⟨"BakeryNightModel", "order", "([III)I"⟩ ∈ GW := gwp5 7 (by decide +kernel) rfl
theorem wd88 : Cond.selects "BakeryNightModel" (⟨"BakeryNightModel", "allBatches", "([I)I"⟩ : MethodName) ⟨"BakeryNightModel", "allBatches", "([I)I"⟩ ∈ GW := gwp5 8 (by decide +kernel) rfl
theorem wd89 : Cond.selects "BakeryNightModel" (⟨"BakeryNightModel", "batchesOf", "([II)I"⟩ : MethodName) ⟨"BakeryNightModel", "batchesOf", "([II)I"⟩ ∈ GW := gwp5 9 (by decide +kernel) rfl
theorem wd90 : Cond.selects "BakeryNightModel" (⟨"BakeryNightModel", "dough", "([III)I"⟩ : MethodName) ⟨"BakeryNightModel", "dough", "([III)I"⟩ ∈ GW := gwp5 10 (by decide +kernel) rfl
theorem wd91 : Cond.selects "BakeryNightModel" (⟨"BakeryNightModel", "up", "(II)I"⟩ : MethodName) ⟨"BakeryNightModel", "up", "(II)I"⟩ ∈ GW := gwp5 11 (by decide +kernel) rfl
theorem wd92 : Cond.selects "BakeryNightModel" (⟨"BakeryNightModel", "slowed", "([II)I"⟩ : MethodName) ⟨"BakeryNightModel", "slowed", "([II)I"⟩ ∈ GW := gwp5 12 (by decide +kernel) rfl
theorem wd93 : Cond.selects "BakeryNightModel" (⟨"BakeryNightModel", "simulates", "([I)V"⟩ : MethodName) ⟨"BakeryNightModel", "simulates", "([I)V"⟩ ∈ GW := gwp5 13 (by decide +kernel) rfl
theorem wd94 : Cond.selects "BakeryNightModel" (⟨"BakeryNightModel", "clears", "([I)V"⟩ : MethodName) ⟨"BakeryNightModel", "clears", "([I)V"⟩ ∈ GW := gwp5 14 (by decide +kernel) rfl
theorem wd95 : Cond.selects "BakeryNightModel" (⟨"BakeryNightModel", "findsBatches", "([I)V"⟩ : MethodName) ⟨"BakeryNightModel", "findsBatches", "([I)V"⟩ ∈ GW := gwp5 15 (by decide +kernel) rfl
theorem wd96 : Cond.selects "BakeryNightModel" (⟨"BakeryNightModel", "dueOf", "([II)I"⟩ : MethodName) ⟨"BakeryNightModel", "dueOf", "([II)I"⟩ ∈ GW := gwp6 0 (by decide +kernel) rfl
theorem wd97 : Cond.selects "BakeryNightModel" (⟨"BakeryNightModel", "lesser", "(II)I"⟩ : MethodName) ⟨"BakeryNightModel", "lesser", "(II)I"⟩ ∈ GW := gwp6 1 (by decide +kernel) rfl
theorem wd98 : Cond.selects "BakeryNightModel" (⟨"BakeryNightModel", "oven", "([III)I"⟩ : MethodName) ⟨"BakeryNightModel", "oven", "([III)I"⟩ ∈ GW := gwp6 2 (by decide +kernel) rfl
theorem wd99 : Cond.selects "BakeryNightModel" (⟨"BakeryNightModel", "stateMany", "(I)I"⟩ : MethodName) ⟨"BakeryNightModel", "stateMany", "(I)I"⟩ ∈ GW := gwp6 3 (by decide +kernel) rfl
theorem wd100 : Cond.selects "BakeryNightModel" (⟨"BakeryNightModel", "endsAll", "([I)V"⟩ : MethodName) ⟨"BakeryNightModel", "endsAll", "([I)V"⟩ ∈ GW := gwp6 4 (by decide +kernel) rfl
theorem wd101 : Cond.selects "BakeryNightModel" (⟨"BakeryNightModel", "goesOn", "([II)V"⟩ : MethodName) ⟨"BakeryNightModel", "goesOn", "([II)V"⟩ ∈ GW := gwp6 5 (by decide +kernel) rfl
theorem wd102 : Cond.selects "BakeryNightModel" (⟨"BakeryNightModel", "reaches", "(II)V"⟩ : MethodName) ⟨"BakeryNightModel", "reaches", "(II)V"⟩ ∈ GW := gwp6 6 (by decide +kernel) rfl
theorem wd103 : Cond.selects "BakeryNightModel" (⟨"BakeryNightModel", "spoils", "([I)V"⟩ : MethodName) ⟨"BakeryNightModel", "spoils", "([I)V"⟩ ∈ GW := gwp6 7 (by decide +kernel) rfl
theorem wd104 : Cond.selects "BakeryNightModel" (⟨"BakeryNightModel", "bakes", "([I)V"⟩ : MethodName) ⟨"BakeryNightModel", "bakes", "([I)V"⟩ ∈ GW := gwp6 8 (by decide +kernel) rfl
theorem wd105 : Cond.selects "BakeryNightModel" (⟨"BakeryNightModel", "ovenFor", "([II)I"⟩ : MethodName) ⟨"BakeryNightModel", "ovenFor", "([II)I"⟩ ∈ GW := gwp6 9 (by decide +kernel) rfl
theorem wd106 : Cond.selects "BakeryNightModel" (⟨"BakeryNightModel", "isUsable", "([II)Z"⟩ : MethodName) ⟨"BakeryNightModel", "isUsable", "([II)Z"⟩ ∈ GW := gwp6 10 (by decide +kernel) rfl
theorem wd107 : Cond.selects "BakeryNightModel" (⟨"BakeryNightModel", "onShelves", "(I)I"⟩ : MethodName) ⟨"BakeryNightModel", "onShelves", "(I)I"⟩ ∈ GW := gwp6 11 (by decide +kernel) rfl
theorem wd108 : Cond.selects "BakeryNightModel" (⟨"BakeryNightModel", "isOneChanging", "([II)Z"⟩ : MethodName) ⟨"BakeryNightModel", "isOneChanging", "([II)Z"⟩ ∈ GW := gwp6 12 (by decide +kernel) rfl
theorem wd109 : Cond.selects "BakeryNightModel" (⟨"BakeryNightModel", "heats", "([II)V"⟩ : MethodName) ⟨"BakeryNightModel", "heats", "([II)V"⟩ ∈ GW := gwp6 13 (by decide +kernel) rfl
theorem wd110 : Cond.selects "BakeryNightModel" (⟨"BakeryNightModel", "changeMinutes", "([III)I"⟩ : MethodName) ⟨"BakeryNightModel", "changeMinutes", "([III)I"⟩ ∈ GW := gwp6 14 (by decide +kernel) rfl
theorem wd111 : Cond.selects "BakeryNightModel" (⟨"BakeryNightModel", "shapes", "([I)V"⟩ : MethodName) ⟨"BakeryNightModel", "shapes", "([I)V"⟩ ∈ GW := gwp6 15 (by decide +kernel) rfl
theorem wd112 : Cond.selects "BakeryNightModel" (⟨"BakeryNightModel", "mixes", "([I)V"⟩ : MethodName) ⟨"BakeryNightModel", "mixes", "([I)V"⟩ ∈ GW := gwp7 0 (by decide +kernel) rfl
theorem wd113 : Cond.selects "BakeryNightModel" (⟨"BakeryNightModel", "isBatch", "(I)Z"⟩ : MethodName) ⟨"BakeryNightModel", "isBatch", "(I)Z"⟩ ∈ GW := gwp7 1 (by decide +kernel) rfl
theorem wd114 : Cond.selects "BakeryNightModel" (⟨"BakeryNightModel", "isNight", "()Z"⟩ : MethodName) ⟨"BakeryNightModel", "isNight", "()Z"⟩ ∈ GW := gwp7 2 (by decide +kernel) rfl
theorem wd115 : Cond.selects "BakeryNightModel" (⟨"BakeryNightModel", "fails", "(I)I"⟩ : MethodName) ⟨"BakeryNightModel", "fails", "(I)I"⟩ ∈ GW := gwp7 3 (by decide +kernel) rfl
theorem wd116 : Cond.selects "BakeryNightModel" (⟨"BakeryNightModel", "stageOf", "(II)I"⟩ : MethodName) ⟨"BakeryNightModel", "stageOf", "(II)I"⟩ ∈ GW := gwp7 4 (by decide +kernel) rfl
theorem wd117 : Cond.selects "BakeryNightModel" (⟨"BakeryNightModel", "isOven", "(I)Z"⟩ : MethodName) ⟨"BakeryNightModel", "isOven", "(I)Z"⟩ ∈ GW := gwp7 5 (by decide +kernel) rfl
theorem wd118 : Cond.selects "BakeryNightModel" (⟨"BakeryNightModel", "uses", "(III)Z"⟩ : MethodName) ⟨"BakeryNightModel", "uses", "(III)Z"⟩ ∈ GW := gwp7 6 (by decide +kernel) rfl
theorem wd119 : Cond.selects "BakeryNightModel" (⟨"BakeryNightModel", "inUse", "(II)I"⟩ : MethodName) ⟨"BakeryNightModel", "inUse", "(II)I"⟩ ∈ GW := gwp7 7 (by decide +kernel) rfl
theorem wd120 : Cond.selects "BakeryNightModel" (⟨"BakeryNightModel", "readyAt", "([II)I"⟩ : MethodName) ⟨"BakeryNightModel", "readyAt", "([II)I"⟩ ∈ GW := gwp7 8 (by decide +kernel) rfl
theorem wd121 : Cond.selects "BakeryNightModel" (⟨"BakeryNightModel", "isReady", "([II)Z"⟩ : MethodName) ⟨"BakeryNightModel", "isReady", "([II)Z"⟩ ∈ GW := gwp7 9 (by decide +kernel) rfl
theorem wd122 : Cond.selects "BakeryNightModel" (⟨"BakeryNightModel", "givenAhead", "([II)I"⟩ : MethodName) ⟨"BakeryNightModel", "givenAhead", "([II)I"⟩ ∈ GW := gwp7 10 (by decide +kernel) rfl
theorem wd123 : Cond.selects "BakeryNightModel" (⟨"BakeryNightModel", "isBefore", "([III)Z"⟩ : MethodName) ⟨"BakeryNightModel", "isBefore", "([III)Z"⟩ ∈ GW := gwp7 11 (by decide +kernel) rfl
theorem wd124 : Cond.selects "BakeryNightModel" (⟨"BakeryNightModel", "bakedLoaves", "([II)I"⟩ : MethodName) ⟨"BakeryNightModel", "bakedLoaves", "([II)I"⟩ ∈ GW := gwp7 12 (by decide +kernel) rfl
theorem wd125 : Cond.selects "BakeryNightModel" (⟨"BakeryNightModel", "outAt", "([III)I"⟩ : MethodName) ⟨"BakeryNightModel", "outAt", "([III)I"⟩ ∈ GW := gwp7 13 (by decide +kernel) rfl
theorem wd126 : Cond.selects "BakeryNightModel" (⟨"BakeryNightModel", "valueOf", "(II)I"⟩ : MethodName) ⟨"BakeryNightModel", "valueOf", "(II)I"⟩ ∈ GW := gwp7 14 (by decide +kernel) rfl
theorem wd127 : Cond.selects "BakeryNightModel" (⟨"BakeryNightModel", "isShop", "(I)Z"⟩ : MethodName) ⟨"BakeryNightModel", "isShop", "(I)Z"⟩ ∈ GW := gwp7 15 (by decide +kernel) rfl
theorem wd128 : Cond.selects "BakeryNightModel" (⟨"BakeryNightModel", "findsWays", "([I)V"⟩ : MethodName) ⟨"BakeryNightModel", "findsWays", "([I)V"⟩ ∈ GW := gwp8 0 (by decide +kernel) rfl
theorem wd129 : Cond.selects "BakeryNightModel" (⟨"BakeryNightModel", "street", "([III)I"⟩ : MethodName) ⟨"BakeryNightModel", "street", "([III)I"⟩ ∈ GW := gwp8 1 (by decide +kernel) rfl
theorem wd130 : Cond.selects "BakeryNightModel" (⟨"BakeryNightModel", "findsRoutes", "([I)V"⟩ : MethodName) ⟨"BakeryNightModel", "findsRoutes", "([I)V"⟩ ∈ GW := gwp8 2 (by decide +kernel) rfl
theorem wd131 : Cond.selects "BakeryNightModel" (⟨"BakeryNightModel", "routes", "([II)V"⟩ : MethodName) ⟨"BakeryNightModel", "routes", "([II)V"⟩ ∈ GW := gwp8 3 (by decide +kernel) rfl
theorem wd132 : Cond.selects "BakeryNightModel" (⟨"BakeryNightModel", "hasPlan", "()Z"⟩ : MethodName) ⟨"BakeryNightModel", "hasPlan", "()Z"⟩ ∈ GW := gwp8 4 (by decide +kernel) rfl
theorem wd133 : Cond.selects "BakeryNightModel" (⟨"BakeryNightModel", "plans", "([II)Z"⟩ : MethodName) ⟨"BakeryNightModel", "plans", "([II)Z"⟩ ∈ GW := gwp8 5 (by decide +kernel) rfl
theorem wd134 : Cond.selects "BakeryNightModel" (⟨"BakeryNightModel", "findsShops", "([I)V"⟩ : MethodName) ⟨"BakeryNightModel", "findsShops", "([I)V"⟩ ∈ GW := gwp8 6 (by decide +kernel) rfl
theorem wd135 : Cond.selects "BakeryNightModel" (⟨"BakeryNightModel", "firstAssignment", "([I)V"⟩ : MethodName) ⟨"BakeryNightModel", "firstAssignment", "([I)V"⟩ ∈ GW := gwp8 7 (by decide +kernel) rfl
theorem wd136 : Cond.selects "BakeryNightModel" (⟨"BakeryNightModel", "drives", "([I)I"⟩ : MethodName) ⟨"BakeryNightModel", "drives", "([I)I"⟩ ∈ GW := gwp8 8 (by decide +kernel) rfl
theorem wd137 : Cond.selects "BakeryNightModel" (⟨"BakeryNightModel", "carries", "([II)Z"⟩ : MethodName) ⟨"BakeryNightModel", "carries", "([II)Z"⟩ ∈ GW := gwp8 9 (by decide +kernel) rfl
theorem wd138 : Cond.selects "BakeryNightModel" (⟨"BakeryNightModel", "loadOf", "(I)I"⟩ : MethodName) ⟨"BakeryNightModel", "loadOf", "(I)I"⟩ ∈ GW := gwp8 10 (by decide +kernel) rfl
theorem wd139 : Cond.selects "BakeryNightModel" (⟨"BakeryNightModel", "leaves", "(I)I"⟩ : MethodName) ⟨"BakeryNightModel", "leaves", "(I)I"⟩ ∈ GW := gwp8 11 (by decide +kernel) rfl
theorem wd140 : Cond.selects "BakeryNightModel" (⟨"BakeryNightModel", "lateShops", "(I)I"⟩ : MethodName) ⟨"BakeryNightModel", "lateShops", "(I)I"⟩ ∈ GW := gwp8 12 (by decide +kernel) rfl
theorem wd141 : Cond.selects "BakeryNightModel" (⟨"BakeryNightModel", "nextAssignment", "([I)Z"⟩ : MethodName) ⟨"BakeryNightModel", "nextAssignment", "([I)Z"⟩ ∈ GW := gwp8 13 (by decide +kernel) rfl
theorem wd142 : Cond.selects "BakeryNightModel" (⟨"BakeryNightModel", "takesBest", "()V"⟩ : MethodName) ⟨"BakeryNightModel", "takesBest", "()V"⟩ ∈ GW := gwp8 14 (by decide +kernel) rfl
theorem wd143 : Cond.selects "BakeryNightModel" (⟨"BakeryNightModel", "bits", "(I)I"⟩ : MethodName) ⟨"BakeryNightModel", "bits", "(I)I"⟩ ∈ GW := gwp8 15 (by decide +kernel) rfl
theorem wd144 : Cond.selects "BakeryNightModel" (⟨"BakeryNightModel", "isMuch", "()Z"⟩ : MethodName) ⟨"BakeryNightModel", "isMuch", "()Z"⟩ ∈ GW := gwp9 0 (by decide +kernel) rfl
theorem wd145 : Cond.selects "BakeryNightModel" (⟨"BakeryNightModel", "latest", "([I)I"⟩ : MethodName) ⟨"BakeryNightModel", "latest", "([I)I"⟩ ∈ GW := gwp9 1 (by decide +kernel) rfl
theorem wd146 : Cond.selects "BakeryNightModel" (⟨"BakeryNightModel", "slack", "()I"⟩ : MethodName) ⟨"BakeryNightModel", "slack", "()I"⟩ ∈ GW := gwp9 2 (by decide +kernel) rfl
theorem wd147 : Cond.selects "BakeryNightModel" (⟨"BakeryNightModel", "sets", "(II)I"⟩ : MethodName) ⟨"BakeryNightModel", "sets", "(II)I"⟩ ∈ GW := gwp9 3 (by decide +kernel) rfl
theorem wd148 : Cond.selects "BakeryNightModel" (⟨"BakeryNightModel", "records", "()V"⟩ : MethodName) ⟨"BakeryNightModel", "records", "()V"⟩ ∈ GW := gwp9 4 (by decide +kernel) rfl
theorem wd149 : Cond.selects "BakeryNightModel" (⟨"BakeryNightModel", "isOrder", "(I)Z"⟩ : MethodName) ⟨"BakeryNightModel", "isOrder", "(I)Z"⟩ ∈ GW := gwp9 5 (by decide +kernel) rfl
theorem wd150 : Cond.initialized "BakeryNightLaw" ∈ GW := gwt0 0 (by decide +kernel) rfl
theorem wd151 : Cond.initialized "BakeryNight" ∈ GW := gwt0 1 (by decide +kernel) rfl
theorem wd152 : Cond.initialized "BakeryNight$Parser" ∈ GW := gwt0 2 (by decide +kernel) rfl
theorem wd153 : Cond.initialized "BakeryNight$Scanner" ∈ GW := gwt0 3 (by decide +kernel) rfl
theorem wd154 : Cond.initialized "BakeryNight$Bakery" ∈ GW := gwt0 4 (by decide +kernel) rfl
theorem wd155 : Cond.initialized "BakeryNight$Dough" ∈ GW := gwt0 5 (by decide +kernel) rfl
theorem wd156 : Cond.initialized "BakeryNight$Oven" ∈ GW := gwt0 6 (by decide +kernel) rfl
theorem wd157 : Cond.initialized "BakeryNight$Order" ∈ GW := gwt0 7 (by decide +kernel) rfl
theorem wd158 : Cond.initialized "BakeryNight$Roads" ∈ GW := gwt0 8 (by decide +kernel) rfl
theorem wd159 : Cond.initialized "java/util/Arrays" ∈ GW := gwt0 9 (by decide +kernel) rfl
theorem wd160 : Cond.initialized "java/lang/Math" ∈ GW := gwt0 10 (by decide +kernel) rfl
theorem wd161 : Cond.initialized "BakeryNight$History" ∈ GW := gwt0 11 (by decide +kernel) rfl
theorem wd162 : Cond.initialized "BakeryNight$Night" ∈ GW := gwt0 12 (by decide +kernel) rfl
theorem wd163 : Cond.initialized "BakeryNight$Plan" ∈ GW := gwt0 13 (by decide +kernel) rfl
theorem wd164 : Cond.initialized "BakeryNightModel" ∈ GW := gwt0 14 (by decide +kernel) rfl
theorem wd165 : Cond.initialized "java/lang/String" ∈ GW := gwt0 15 (by decide +kernel) rfl
theorem wd166 : Cond.initialized "java/lang/StringLatin1" ∈ GW := gwt0 16 (by decide +kernel) rfl
theorem wd167 : Cond.initialized "jdk/internal/util/Preconditions" ∈ GW := gwt0 17 (by decide +kernel) rfl
theorem wd168 : Cond.initialized "java/lang/StringUTF16" ∈ GW := gwt0 18 (by decide +kernel) rfl
theorem wd169 : Cond.initialized "BakeryNight$1" ∈ GW := gwt0 19 (by decide +kernel) rfl
theorem wd170 : Cond.initialized "java/lang/Enum" ∈ GW := gwt0 20 (by decide +kernel) rfl
theorem wd171 : Cond.initialized "BakeryNight$Word" ∈ GW := gwt0 21 (by decide +kernel) rfl
theorem wd172 : Cond.initialized "java/lang/Integer" ∈ GW := gwt0 22 (by decide +kernel) rfl
theorem wd173 : Cond.initialized "java/lang/System" ∈ GW := gwt0 23 (by decide +kernel) rfl
theorem wd174 : Cond.initialized "java/lang/Throwable" ∈ GW := gwt0 24 (by decide +kernel) rfl
theorem wd175 : Cond.initialized "java/lang/Exception" ∈ GW := gwt0 25 (by decide +kernel) rfl
theorem wd176 : Cond.initialized "java/lang/RuntimeException" ∈ GW := gwt0 26 (by decide +kernel) rfl
theorem wd177 : Cond.initialized "java/lang/IllegalStateException" ∈ GW := gwt0 27 (by decide +kernel) rfl
theorem wd178 : Cond.initialized "java/lang/IndexOutOfBoundsException" ∈ GW := gwt0 28 (by decide +kernel) rfl
theorem wd179 : Cond.classLink "BakeryNightLaw" (8 : Nat) "BakeryNight" ∈ GW := gwt0 29 (by decide +kernel) rfl
theorem wd180 : Cond.instantiable "BakeryNight" (12 : Nat) ∈ GW := gwt0 30 (by decide +kernel) rfl
theorem wd181 : Cond.methodLink "BakeryNightLaw" (24 : Nat) ({ cls := "BakeryNight", name := "<init>", desc := "()V" } : Jvm.MethodName) ∈ GW := gwt0 31 (by decide +kernel) rfl
theorem wd182 : Cond.instanceMethod ({ cls := "BakeryNight", name := "<init>", desc := "()V" } : Jvm.MethodName) ∈ GW := gwt0 32 (by decide +kernel) rfl
theorem wd183 : Cond.code ({ cls := "BakeryNight", name := "<init>", desc := "()V" } : Jvm.MethodName) prog_1_method_1_code (1 : Nat) (Option.none : Option Jvm.ClassFile.FieldType) ∈ GW := gwt0 33 (by decide +kernel) rfl
theorem wd184 : Cond.methodLink "BakeryNight" (1 : Nat) ({ cls := "java/lang/Object", name := "<init>", desc := "()V" } : Jvm.MethodName) ∈ GW := gwt0 34 (by decide +kernel) rfl
theorem wd185 : Cond.instanceMethod ({ cls := "java/lang/Object", name := "<init>", desc := "()V" } : Jvm.MethodName) ∈ GW := gwt0 35 (by decide +kernel) rfl
theorem wd186 : Cond.code ({ cls := "java/lang/Object", name := "<init>", desc := "()V" } : Jvm.MethodName) object_method_1_code (1 : Nat) (Option.none : Option Jvm.ClassFile.FieldType) ∈ GW := gwt0 36 (by decide +kernel) rfl
theorem wd187 : Cond.classLink "BakeryNight" (13 : Nat) "BakeryNight$Parser" ∈ GW := gwt0 37 (by decide +kernel) rfl
theorem wd188 : Cond.instantiable "BakeryNight$Parser" (9 : Nat) ∈ GW := gwt0 38 (by decide +kernel) rfl
theorem wd189 : Cond.methodLink "BakeryNight" (15 : Nat) ({ cls := "BakeryNight$Parser", name := "<init>", desc := "()V" } : Jvm.MethodName) ∈ GW := gwt0 39 (by decide +kernel) rfl
theorem wd190 : Cond.instanceMethod ({ cls := "BakeryNight$Parser", name := "<init>", desc := "()V" } : Jvm.MethodName) ∈ GW := gwt0 40 (by decide +kernel) rfl
theorem wd191 : Cond.code ({ cls := "BakeryNight$Parser", name := "<init>", desc := "()V" } : Jvm.MethodName) prog_9_method_1_code (1 : Nat) (Option.none : Option Jvm.ClassFile.FieldType) ∈ GW := gwt0 41 (by decide +kernel) rfl
theorem wd192 : Cond.methodLink "BakeryNight$Parser" (3 : Nat) ({ cls := "java/lang/Object", name := "<init>", desc := "()V" } : Jvm.MethodName) ∈ GW := gwt0 42 (by decide +kernel) rfl
theorem wd193 : Cond.classLink "BakeryNight$Parser" (9 : Nat) "BakeryNight$Scanner" ∈ GW := gwt0 43 (by decide +kernel) rfl
theorem wd194 : Cond.instantiable "BakeryNight$Scanner" (5 : Nat) ∈ GW := gwt0 44 (by decide +kernel) rfl
theorem wd195 : Cond.methodLink "BakeryNight$Parser" (11 : Nat) ({ cls := "BakeryNight$Scanner", name := "<init>", desc := "()V" } : Jvm.MethodName) ∈ GW := gwt0 45 (by decide +kernel) rfl
theorem wd196 : Cond.instanceMethod ({ cls := "BakeryNight$Scanner", name := "<init>", desc := "()V" } : Jvm.MethodName) ∈ GW := gwt0 46 (by decide +kernel) rfl
theorem wd197 : Cond.code ({ cls := "BakeryNight$Scanner", name := "<init>", desc := "()V" } : Jvm.MethodName) prog_12_method_1_code (1 : Nat) (Option.none : Option Jvm.ClassFile.FieldType) ∈ GW := gwt0 47 (by decide +kernel) rfl
theorem wd198 : Cond.methodLink "BakeryNight$Scanner" (1 : Nat) ({ cls := "java/lang/Object", name := "<init>", desc := "()V" } : Jvm.MethodName) ∈ GW := gwt0 48 (by decide +kernel) rfl
theorem wd199 : Cond.fieldLink "BakeryNight$Scanner" (7 : Nat) "BakeryNight$Scanner" "text" "[B" ∈ GW := gwt0 49 (by decide +kernel) rfl
theorem wd200 : Cond.fieldLink "BakeryNight$Scanner" (19 : Nat) "BakeryNight$Scanner" "length" "I" ∈ GW := gwt0 50 (by decide +kernel) rfl
theorem wd201 : Cond.fieldLink "BakeryNight$Parser" (54 : Nat) "BakeryNight$Scanner" "kind" "I" ∈ GW := gwt0 51 (by decide +kernel) rfl
theorem wd202 : Cond.fieldLink "BakeryNight$Scanner" (36 : Nat) "BakeryNight$Scanner" "kind" "I" ∈ GW := gwt0 52 (by decide +kernel) rfl
theorem wd203 : Cond.fieldLink "BakeryNight$Scanner" (29 : Nat) "BakeryNight$Scanner" "start" "I" ∈ GW := gwt0 53 (by decide +kernel) rfl
theorem wd204 : Cond.fieldLink "BakeryNight$Parser" (74 : Nat) "BakeryNight$Scanner" "start" "I" ∈ GW := gwt0 54 (by decide +kernel) rfl
theorem wd205 : Cond.fieldLink "BakeryNight$Scanner" (23 : Nat) "BakeryNight$Scanner" "end" "I" ∈ GW := gwt0 55 (by decide +kernel) rfl
theorem wd218 : Cond.fieldLink "BakeryNight$Parser" (12 : Nat) "BakeryNight$Parser" "scanner" "LBakeryNight$Scanner;" ∈ GW := gwt0 68 (by decide +kernel) rfl
theorem wd219 : Cond.fieldLink "BakeryNight$Parser" (20 : Nat) "BakeryNight$Parser" "doughNames" "[J" ∈ GW := gwt0 69 (by decide +kernel) rfl
theorem wd220 : Cond.fieldLink "BakeryNight$Parser" (24 : Nat) "BakeryNight$Parser" "shopNames" "[J" ∈ GW := gwt0 70 (by decide +kernel) rfl
theorem wd221 : Cond.fieldLink "BakeryNight$Parser" (34 : Nat) "BakeryNight$Parser" "roomGiven" "Z" ∈ GW := gwt0 71 (by decide +kernel) rfl
theorem wd222 : Cond.fieldLink "BakeryNight$Parser" (38 : Nat) "BakeryNight$Parser" "coolGiven" "Z" ∈ GW := gwt0 72 (by decide +kernel) rfl
theorem wd223 : Cond.fieldLink "BakeryNight$Parser" (41 : Nat) "BakeryNight$Parser" "mixersGiven" "Z" ∈ GW := gwt0 73 (by decide +kernel) rfl
theorem wd224 : Cond.fieldLink "BakeryNight$Parser" (44 : Nat) "BakeryNight$Parser" "bakersGiven" "Z" ∈ GW := gwt0 74 (by decide +kernel) rfl
theorem wd225 : Cond.fieldLink "BakeryNight$Parser" (31 : Nat) "BakeryNight$Parser" "faultCode" "I" ∈ GW := gwt0 75 (by decide +kernel) rfl
theorem wd226 : Cond.fieldLink "BakeryNight" (75 : Nat) "BakeryNight$Parser" "faultCode" "I" ∈ GW := gwt0 76 (by decide +kernel) rfl
theorem wd227 : Cond.fieldLink "BakeryNight$Parser" (27 : Nat) "BakeryNight$Parser" "faultOffset" "I" ∈ GW := gwt0 77 (by decide +kernel) rfl
theorem wd228 : Cond.fieldLink "BakeryNight" (78 : Nat) "BakeryNight$Parser" "faultOffset" "I" ∈ GW := gwt0 78 (by decide +kernel) rfl
theorem wd249 : Cond.classLink "BakeryNight" (20 : Nat) "BakeryNight$Bakery" ∈ GW := gwt0 99 (by decide +kernel) rfl
theorem wd250 : Cond.instantiable "BakeryNight$Bakery" (14 : Nat) ∈ GW := gwt0 100 (by decide +kernel) rfl
theorem wd251 : Cond.methodLink "BakeryNight" (22 : Nat) ({ cls := "BakeryNight$Bakery", name := "<init>", desc := "()V" } : Jvm.MethodName) ∈ GW := gwt0 101 (by decide +kernel) rfl
theorem wd252 : Cond.instanceMethod ({ cls := "BakeryNight$Bakery", name := "<init>", desc := "()V" } : Jvm.MethodName) ∈ GW := gwt0 102 (by decide +kernel) rfl
theorem wd253 : Cond.code ({ cls := "BakeryNight$Bakery", name := "<init>", desc := "()V" } : Jvm.MethodName) prog_3_method_1_code (2 : Nat) (Option.none : Option Jvm.ClassFile.FieldType) ∈ GW := gwt0 103 (by decide +kernel) rfl
theorem wd254 : Cond.methodLink "BakeryNight$Bakery" (3 : Nat) ({ cls := "java/lang/Object", name := "<init>", desc := "()V" } : Jvm.MethodName) ∈ GW := gwt0 104 (by decide +kernel) rfl
theorem wd255 : Cond.classLink "BakeryNight$Bakery" (11 : Nat) "BakeryNight$Dough" ∈ GW := gwt0 105 (by decide +kernel) rfl
theorem wd257 : Cond.instantiable "BakeryNight$Dough" (10 : Nat) ∈ GW := gwt0 107 (by decide +kernel) rfl
theorem wd259 : Cond.instanceMethod ({ cls := "BakeryNight$Dough", name := "<init>", desc := "()V" } : Jvm.MethodName) ∈ GW := gwt0 109 (by decide +kernel) rfl
theorem wd260 : Cond.code ({ cls := "BakeryNight$Dough", name := "<init>", desc := "()V" } : Jvm.MethodName) prog_4_method_1_code (1 : Nat) (Option.none : Option Jvm.ClassFile.FieldType) ∈ GW := gwt0 110 (by decide +kernel) rfl
theorem wd261 : Cond.methodLink "BakeryNight$Dough" (1 : Nat) ({ cls := "java/lang/Object", name := "<init>", desc := "()V" } : Jvm.MethodName) ∈ GW := gwt0 111 (by decide +kernel) rfl
theorem wd262 : Cond.fieldLink "BakeryNight$Parser" (167 : Nat) "BakeryNight$Dough" "mix" "I" ∈ GW := gwt0 112 (by decide +kernel) rfl
theorem wd263 : Cond.fieldLink "BakeryNight$Night" (208 : Nat) "BakeryNight$Dough" "mix" "I" ∈ GW := gwt0 113 (by decide +kernel) rfl
theorem wd264 : Cond.fieldLink "BakeryNight$Parser" (175 : Nat) "BakeryNight$Dough" "rise" "I" ∈ GW := gwt0 114 (by decide +kernel) rfl
theorem wd265 : Cond.fieldLink "BakeryNight" (105 : Nat) "BakeryNight$Dough" "rise" "I" ∈ GW := gwt0 115 (by decide +kernel) rfl
theorem wd266 : Cond.fieldLink "BakeryNight$Night" (211 : Nat) "BakeryNight$Dough" "rise" "I" ∈ GW := gwt0 116 (by decide +kernel) rfl
theorem wd267 : Cond.fieldLink "BakeryNight$Parser" (181 : Nat) "BakeryNight$Dough" "shape" "I" ∈ GW := gwt0 117 (by decide +kernel) rfl
theorem wd268 : Cond.fieldLink "BakeryNight$Night" (190 : Nat) "BakeryNight$Dough" "shape" "I" ∈ GW := gwt0 118 (by decide +kernel) rfl
theorem wd269 : Cond.fieldLink "BakeryNight$Parser" (187 : Nat) "BakeryNight$Dough" "proof" "I" ∈ GW := gwt0 119 (by decide +kernel) rfl
theorem wd270 : Cond.fieldLink "BakeryNight$Night" (193 : Nat) "BakeryNight$Dough" "proof" "I" ∈ GW := gwt0 120 (by decide +kernel) rfl
theorem wd271 : Cond.fieldLink "BakeryNight" (100 : Nat) "BakeryNight$Dough" "proof" "I" ∈ GW := gwt0 121 (by decide +kernel) rfl
theorem wd272 : Cond.fieldLink "BakeryNight$Night" (151 : Nat) "BakeryNight$Dough" "limit" "I" ∈ GW := gwt0 122 (by decide +kernel) rfl
theorem wd273 : Cond.fieldLink "BakeryNight$Parser" (193 : Nat) "BakeryNight$Dough" "limit" "I" ∈ GW := gwt0 123 (by decide +kernel) rfl
theorem wd274 : Cond.fieldLink "BakeryNight$Night" (161 : Nat) "BakeryNight$Dough" "bake" "I" ∈ GW := gwt0 124 (by decide +kernel) rfl
theorem wd275 : Cond.fieldLink "BakeryNight$Parser" (199 : Nat) "BakeryNight$Dough" "bake" "I" ∈ GW := gwt0 125 (by decide +kernel) rfl
theorem wd276 : Cond.fieldLink "BakeryNight$Night" (156 : Nat) "BakeryNight$Dough" "heat" "I" ∈ GW := gwt0 126 (by decide +kernel) rfl
theorem wd277 : Cond.fieldLink "BakeryNight$Parser" (205 : Nat) "BakeryNight$Dough" "heat" "I" ∈ GW := gwt0 127 (by decide +kernel) rfl
theorem wd278 : Cond.fieldLink "BakeryNight$Parser" (211 : Nat) "BakeryNight$Dough" "loaves" "I" ∈ GW := gwt0 128 (by decide +kernel) rfl
theorem wd279 : Cond.fieldLink "BakeryNight$Bakery" (103 : Nat) "BakeryNight$Dough" "loaves" "I" ∈ GW := gwt0 129 (by decide +kernel) rfl
theorem wd280 : Cond.fieldLink "BakeryNight$Night" (245 : Nat) "BakeryNight$Dough" "loaves" "I" ∈ GW := gwt0 130 (by decide +kernel) rfl
theorem wd281 : Cond.fieldLink "BakeryNight$Parser" (217 : Nat) "BakeryNight$Dough" "keep" "I" ∈ GW := gwt0 131 (by decide +kernel) rfl
theorem wd282 : Cond.fieldLink "BakeryNight$Plan" (172 : Nat) "BakeryNight$Dough" "keep" "I" ∈ GW := gwt0 132 (by decide +kernel) rfl
theorem wd283 : Cond.fieldLink "BakeryNight$Night" (252 : Nat) "BakeryNight$Dough" "keep" "I" ∈ GW := gwt0 133 (by decide +kernel) rfl
theorem wd284 : Cond.fieldLink "BakeryNight$Parser" (223 : Nat) "BakeryNight$Dough" "price" "I" ∈ GW := gwt0 134 (by decide +kernel) rfl
theorem wd285 : Cond.fieldLink "BakeryNight$Night" (255 : Nat) "BakeryNight$Dough" "price" "I" ∈ GW := gwt0 135 (by decide +kernel) rfl
theorem wd307 : Cond.classLink "BakeryNight$Bakery" (18 : Nat) "BakeryNight$Oven" ∈ GW := gwt0 157 (by decide +kernel) rfl
theorem wd309 : Cond.instantiable "BakeryNight$Oven" (4 : Nat) ∈ GW := gwt0 159 (by decide +kernel) rfl
theorem wd311 : Cond.instanceMethod ({ cls := "BakeryNight$Oven", name := "<init>", desc := "()V" } : Jvm.MethodName) ∈ GW := gwt0 161 (by decide +kernel) rfl
theorem wd312 : Cond.code ({ cls := "BakeryNight$Oven", name := "<init>", desc := "()V" } : Jvm.MethodName) prog_8_method_1_code (1 : Nat) (Option.none : Option Jvm.ClassFile.FieldType) ∈ GW := gwt0 162 (by decide +kernel) rfl
theorem wd313 : Cond.methodLink "BakeryNight$Oven" (1 : Nat) ({ cls := "java/lang/Object", name := "<init>", desc := "()V" } : Jvm.MethodName) ∈ GW := gwt0 163 (by decide +kernel) rfl
theorem wd314 : Cond.fieldLink "BakeryNight$Night" (172 : Nat) "BakeryNight$Oven" "shelves" "I" ∈ GW := gwt0 164 (by decide +kernel) rfl
theorem wd315 : Cond.fieldLink "BakeryNight$Parser" (236 : Nat) "BakeryNight$Oven" "shelves" "I" ∈ GW := gwt0 165 (by decide +kernel) rfl
theorem wd316 : Cond.fieldLink "BakeryNight$Bakery" (123 : Nat) "BakeryNight$Oven" "shelves" "I" ∈ GW := gwt0 166 (by decide +kernel) rfl
theorem wd317 : Cond.fieldLink "BakeryNight$Night" (124 : Nat) "BakeryNight$Oven" "heat" "I" ∈ GW := gwt0 167 (by decide +kernel) rfl
theorem wd318 : Cond.fieldLink "BakeryNight$Parser" (241 : Nat) "BakeryNight$Oven" "heat" "I" ∈ GW := gwt0 168 (by decide +kernel) rfl
theorem wd319 : Cond.fieldLink "BakeryNight$Night" (178 : Nat) "BakeryNight$Oven" "rate" "I" ∈ GW := gwt0 169 (by decide +kernel) rfl
theorem wd320 : Cond.fieldLink "BakeryNight$Parser" (245 : Nat) "BakeryNight$Oven" "rate" "I" ∈ GW := gwt0 170 (by decide +kernel) rfl
theorem wd321 : Cond.fieldLink "BakeryNight$History" (41 : Nat) "BakeryNight$Oven" "broken" "Z" ∈ GW := gwt0 171 (by decide +kernel) rfl
theorem wd322 : Cond.fieldLink "BakeryNight$Night" (168 : Nat) "BakeryNight$Oven" "broken" "Z" ∈ GW := gwt0 172 (by decide +kernel) rfl
theorem wd323 : Cond.fieldLink "BakeryNight$Parser" (248 : Nat) "BakeryNight$Oven" "broken" "Z" ∈ GW := gwt0 173 (by decide +kernel) rfl
theorem wd324 : Cond.fieldLink "BakeryNight" (312 : Nat) "BakeryNight$Oven" "broken" "Z" ∈ GW := gwt0 174 (by decide +kernel) rfl
theorem wd334 : Cond.classLink "BakeryNight$Bakery" (25 : Nat) "BakeryNight$Order" ∈ GW := gwt0 184 (by decide +kernel) rfl
theorem wd336 : Cond.instantiable "BakeryNight$Order" (5 : Nat) ∈ GW := gwt0 186 (by decide +kernel) rfl
theorem wd338 : Cond.instanceMethod ({ cls := "BakeryNight$Order", name := "<init>", desc := "()V" } : Jvm.MethodName) ∈ GW := gwt0 188 (by decide +kernel) rfl
theorem wd339 : Cond.code ({ cls := "BakeryNight$Order", name := "<init>", desc := "()V" } : Jvm.MethodName) prog_7_method_1_code (1 : Nat) (Option.none : Option Jvm.ClassFile.FieldType) ∈ GW := gwt0 189 (by decide +kernel) rfl
theorem wd340 : Cond.methodLink "BakeryNight$Order" (1 : Nat) ({ cls := "java/lang/Object", name := "<init>", desc := "()V" } : Jvm.MethodName) ∈ GW := gwt0 190 (by decide +kernel) rfl
theorem wd341 : Cond.fieldLink "BakeryNight$Order" (7 : Nat) "BakeryNight$Order" "shop" "I" ∈ GW := gwt0 191 (by decide +kernel) rfl
theorem wd342 : Cond.fieldLink "BakeryNight$Plan" (70 : Nat) "BakeryNight$Order" "shop" "I" ∈ GW := gwt0 192 (by decide +kernel) rfl
theorem wd343 : Cond.fieldLink "BakeryNight$Order" (13 : Nat) "BakeryNight$Order" "dough" "I" ∈ GW := gwt0 193 (by decide +kernel) rfl
theorem wd344 : Cond.fieldLink "BakeryNight$Bakery" (93 : Nat) "BakeryNight$Order" "dough" "I" ∈ GW := gwt0 194 (by decide +kernel) rfl
theorem wd345 : Cond.fieldLink "BakeryNight$Night" (229 : Nat) "BakeryNight$Order" "dough" "I" ∈ GW := gwt0 195 (by decide +kernel) rfl
theorem wd346 : Cond.fieldLink "BakeryNight$Plan" (169 : Nat) "BakeryNight$Order" "dough" "I" ∈ GW := gwt0 196 (by decide +kernel) rfl
theorem wd347 : Cond.fieldLink "BakeryNight$Order" (16 : Nat) "BakeryNight$Order" "loaves" "I" ∈ GW := gwt0 197 (by decide +kernel) rfl
theorem wd348 : Cond.fieldLink "BakeryNight$Plan" (89 : Nat) "BakeryNight$Order" "loaves" "I" ∈ GW := gwt0 198 (by decide +kernel) rfl
theorem wd349 : Cond.fieldLink "BakeryNight$Bakery" (96 : Nat) "BakeryNight$Order" "loaves" "I" ∈ GW := gwt0 199 (by decide +kernel) rfl
theorem wd350 : Cond.fieldLink "BakeryNight$Night" (236 : Nat) "BakeryNight$Order" "loaves" "I" ∈ GW := gwt0 200 (by decide +kernel) rfl
theorem wd351 : Cond.fieldLink "BakeryNight$Order" (19 : Nat) "BakeryNight$Order" "by" "I" ∈ GW := gwt0 201 (by decide +kernel) rfl
theorem wd352 : Cond.fieldLink "BakeryNight$Plan" (80 : Nat) "BakeryNight$Order" "by" "I" ∈ GW := gwt0 202 (by decide +kernel) rfl
theorem wd353 : Cond.fieldLink "BakeryNight$History" (63 : Nat) "BakeryNight$Order" "by" "I" ∈ GW := gwt0 203 (by decide +kernel) rfl
theorem wd354 : Cond.fieldLink "BakeryNight$Bakery" (107 : Nat) "BakeryNight$Order" "by" "I" ∈ GW := gwt0 204 (by decide +kernel) rfl
theorem wd355 : Cond.fieldLink "BakeryNight" (334 : Nat) "BakeryNight$Order" "by" "I" ∈ GW := gwt0 205 (by decide +kernel) rfl
theorem wd356 : Cond.fieldLink "BakeryNight$Order" (22 : Nat) "BakeryNight$Order" "cancelled" "Z" ∈ GW := gwt0 206 (by decide +kernel) rfl
theorem wd357 : Cond.fieldLink "BakeryNight$History" (58 : Nat) "BakeryNight$Order" "cancelled" "Z" ∈ GW := gwt0 207 (by decide +kernel) rfl
theorem wd358 : Cond.fieldLink "BakeryNight$Bakery" (81 : Nat) "BakeryNight$Order" "cancelled" "Z" ∈ GW := gwt0 208 (by decide +kernel) rfl
theorem wd359 : Cond.fieldLink "BakeryNight" (331 : Nat) "BakeryNight$Order" "cancelled" "Z" ∈ GW := gwt0 209 (by decide +kernel) rfl
theorem wd371 : Cond.classLink "BakeryNight$Bakery" (36 : Nat) "BakeryNight$Roads" ∈ GW := gwt0 221 (by decide +kernel) rfl
theorem wd372 : Cond.instantiable "BakeryNight$Roads" (7 : Nat) ∈ GW := gwt0 222 (by decide +kernel) rfl
theorem wd373 : Cond.methodLink "BakeryNight$Bakery" (38 : Nat) ({ cls := "BakeryNight$Roads", name := "<init>", desc := "()V" } : Jvm.MethodName) ∈ GW := gwt0 223 (by decide +kernel) rfl
theorem wd374 : Cond.instanceMethod ({ cls := "BakeryNight$Roads", name := "<init>", desc := "()V" } : Jvm.MethodName) ∈ GW := gwt0 224 (by decide +kernel) rfl
theorem wd375 : Cond.code ({ cls := "BakeryNight$Roads", name := "<init>", desc := "()V" } : Jvm.MethodName) prog_11_method_1_code (1 : Nat) (Option.none : Option Jvm.ClassFile.FieldType) ∈ GW := gwt0 225 (by decide +kernel) rfl
theorem wd376 : Cond.methodLink "BakeryNight$Roads" (5 : Nat) ({ cls := "java/lang/Object", name := "<init>", desc := "()V" } : Jvm.MethodName) ∈ GW := gwt0 226 (by decide +kernel) rfl
theorem wd377 : Cond.classLink "BakeryNight$Roads" (25 : Nat) "[[I" ∈ GW := gwt0 227 (by decide +kernel) rfl
theorem wd379 : Cond.fieldLink "BakeryNight$Roads" (11 : Nat) "BakeryNight$Roads" "from" "[I" ∈ GW := gwt0 229 (by decide +kernel) rfl
theorem wd380 : Cond.fieldLink "BakeryNight$Parser" (258 : Nat) "BakeryNight$Roads" "from" "[I" ∈ GW := gwt0 230 (by decide +kernel) rfl
theorem wd381 : Cond.fieldLink "BakeryNight$Roads" (15 : Nat) "BakeryNight$Roads" "to" "[I" ∈ GW := gwt0 231 (by decide +kernel) rfl
theorem wd382 : Cond.fieldLink "BakeryNight$Parser" (261 : Nat) "BakeryNight$Roads" "to" "[I" ∈ GW := gwt0 232 (by decide +kernel) rfl
theorem wd383 : Cond.fieldLink "BakeryNight$Roads" (18 : Nat) "BakeryNight$Roads" "minutes" "[I" ∈ GW := gwt0 233 (by decide +kernel) rfl
theorem wd384 : Cond.fieldLink "BakeryNight$Parser" (264 : Nat) "BakeryNight$Roads" "minutes" "[I" ∈ GW := gwt0 234 (by decide +kernel) rfl
theorem wd385 : Cond.fieldLink "BakeryNight$Roads" (21 : Nat) "BakeryNight$Roads" "closed" "[Z" ∈ GW := gwt0 235 (by decide +kernel) rfl
theorem wd386 : Cond.fieldLink "BakeryNight$Parser" (267 : Nat) "BakeryNight$Roads" "closed" "[Z" ∈ GW := gwt0 236 (by decide +kernel) rfl
theorem wd387 : Cond.fieldLink "BakeryNight$Bakery" (119 : Nat) "BakeryNight$Roads" "closed" "[Z" ∈ GW := gwt0 237 (by decide +kernel) rfl
theorem wd388 : Cond.fieldLink "BakeryNight" (284 : Nat) "BakeryNight$Roads" "closed" "[Z" ∈ GW := gwt0 238 (by decide +kernel) rfl
theorem wd389 : Cond.fieldLink "BakeryNight$Bakery" (72 : Nat) "BakeryNight$Roads" "streetTotal" "I" ∈ GW := gwt0 239 (by decide +kernel) rfl
theorem wd390 : Cond.fieldLink "BakeryNight$Roads" (40 : Nat) "BakeryNight$Roads" "streetTotal" "I" ∈ GW := gwt1 0 (by decide +kernel) rfl
theorem wd391 : Cond.fieldLink "BakeryNight$Parser" (251 : Nat) "BakeryNight$Roads" "streetTotal" "I" ∈ GW := gwt1 1 (by decide +kernel) rfl
theorem wd392 : Cond.fieldLink "BakeryNight" (281 : Nat) "BakeryNight$Roads" "streetTotal" "I" ∈ GW := gwt1 2 (by decide +kernel) rfl
theorem wd393 : Cond.fieldLink "BakeryNight$Roads" (27 : Nat) "BakeryNight$Roads" "shortest" "[[I" ∈ GW := gwt1 3 (by decide +kernel) rfl
theorem wd394 : Cond.fieldLink "BakeryNight$Roads" (30 : Nat) "BakeryNight$Roads" "rest" "[I" ∈ GW := gwt1 4 (by decide +kernel) rfl
theorem wd412 : Cond.methodLink "BakeryNight$Bakery" (43 : Nat) ({ cls := "BakeryNight$Bakery", name := "clear", desc := "()V" } : Jvm.MethodName) ∈ GW := gwt1 22 (by decide +kernel) rfl
theorem wd413 : Cond.instanceMethod ({ cls := "BakeryNight$Bakery", name := "clear", desc := "()V" } : Jvm.MethodName) ∈ GW := gwt1 23 (by decide +kernel) rfl
theorem wd414 : Cond.selects "BakeryNight$Bakery" ({ cls := "BakeryNight$Bakery", name := "clear", desc := "()V" } : Jvm.MethodName) ({ cls := "BakeryNight$Bakery", name := "clear", desc := "()V" } : Jvm.MethodName) ∈ GW := gwt1 24 (by decide +kernel) rfl
theorem wd415 : Cond.code ({ cls := "BakeryNight$Bakery", name := "clear", desc := "()V" } : Jvm.MethodName) prog_3_method_2_code (1 : Nat) (Option.none : Option Jvm.ClassFile.FieldType) ∈ GW := gwt1 25 (by decide +kernel) rfl
theorem wd416 : Cond.methodLink "BakeryNight$Bakery" (46 : Nat) ({ cls := "BakeryNight$Roads", name := "explore", desc := "(II)V" } : Jvm.MethodName) ∈ GW := gwt1 26 (by decide +kernel) rfl
theorem wd417 : Cond.instanceMethod ({ cls := "BakeryNight$Roads", name := "explore", desc := "(II)V" } : Jvm.MethodName) ∈ GW := gwt1 27 (by decide +kernel) rfl
theorem wd418 : Cond.selects "BakeryNight$Roads" ({ cls := "BakeryNight$Roads", name := "explore", desc := "(II)V" } : Jvm.MethodName) ({ cls := "BakeryNight$Roads", name := "explore", desc := "(II)V" } : Jvm.MethodName) ∈ GW := gwt1 28 (by decide +kernel) rfl
theorem wd419 : Cond.code ({ cls := "BakeryNight$Roads", name := "explore", desc := "(II)V" } : Jvm.MethodName) prog_11_method_4_code (5 : Nat) (Option.none : Option Jvm.ClassFile.FieldType) ∈ GW := gwt1 29 (by decide +kernel) rfl
theorem wd420 : Cond.constant "BakeryNight$Roads" (33 : Nat) (1000000 : Int32) ∈ GW := gwt1 30 (by decide +kernel) rfl
theorem wd421 : Cond.methodLink "BakeryNight$Roads" (34 : Nat) ({ cls := "java/util/Arrays", name := "fill", desc := "([II)V" } : Jvm.MethodName) ∈ GW := gwt1 31 (by decide +kernel) rfl
theorem wd422 : Cond.static ({ cls := "java/util/Arrays", name := "fill", desc := "([II)V" } : Jvm.MethodName) ∈ GW := gwt1 32 (by decide +kernel) rfl
theorem wd423 : Cond.code ({ cls := "java/util/Arrays", name := "fill", desc := "([II)V" } : Jvm.MethodName) prog_28_method_103_code (4 : Nat) (Option.none : Option Jvm.ClassFile.FieldType) ∈ GW := gwt1 33 (by decide +kernel) rfl
theorem wd424 : Cond.methodLink "BakeryNight$Roads" (44 : Nat) ({ cls := "java/lang/Math", name := "min", desc := "(II)I" } : Jvm.MethodName) ∈ GW := gwt1 34 (by decide +kernel) rfl
theorem wd425 : Cond.static ({ cls := "java/lang/Math", name := "min", desc := "(II)I" } : Jvm.MethodName) ∈ GW := gwt1 35 (by decide +kernel) rfl
theorem wd426 : Cond.code ({ cls := "java/lang/Math", name := "min", desc := "(II)I" } : Jvm.MethodName) prog_21_method_69_code (2 : Nat) (Option.some Jvm.ClassFile.FieldType.int) ∈ GW := gwt1 36 (by decide +kernel) rfl
theorem wd427 : Cond.methodLink "BakeryNight$Roads" (50 : Nat) ({ cls := "BakeryNight$Roads", name := "joinStreets", desc := "()V" } : Jvm.MethodName) ∈ GW := gwt1 37 (by decide +kernel) rfl
theorem wd429 : Cond.instanceMethod ({ cls := "BakeryNight$Roads", name := "joinStreets", desc := "()V" } : Jvm.MethodName) ∈ GW := gwt1 39 (by decide +kernel) rfl
theorem wd430 : Cond.code ({ cls := "BakeryNight$Roads", name := "joinStreets", desc := "()V" } : Jvm.MethodName) prog_11_method_5_code (5 : Nat) (Option.none : Option Jvm.ClassFile.FieldType) ∈ GW := gwt1 40 (by decide +kernel) rfl
theorem wd431 : Cond.methodLink "BakeryNight$Roads" (53 : Nat) ({ cls := "BakeryNight$Roads", name := "measureRoutes", desc := "(I)V" } : Jvm.MethodName) ∈ GW := gwt1 41 (by decide +kernel) rfl
theorem wd433 : Cond.instanceMethod ({ cls := "BakeryNight$Roads", name := "measureRoutes", desc := "(I)V" } : Jvm.MethodName) ∈ GW := gwt1 43 (by decide +kernel) rfl
theorem wd434 : Cond.code ({ cls := "BakeryNight$Roads", name := "measureRoutes", desc := "(I)V" } : Jvm.MethodName) prog_11_method_6_code (6 : Nat) (Option.none : Option Jvm.ClassFile.FieldType) ∈ GW := gwt1 44 (by decide +kernel) rfl
theorem wd435 : Cond.constant "BakeryNight$Roads" (57 : Nat) (8000000 : Int32) ∈ GW := gwt1 45 (by decide +kernel) rfl
theorem wd436 : Cond.methodLink "BakeryNight$Roads" (58 : Nat) ({ cls := "BakeryNight$Roads", name := "by", desc := "(III)I" } : Jvm.MethodName) ∈ GW := gwt1 46 (by decide +kernel) rfl
theorem wd438 : Cond.instanceMethod ({ cls := "BakeryNight$Roads", name := "by", desc := "(III)I" } : Jvm.MethodName) ∈ GW := gwt1 48 (by decide +kernel) rfl
theorem wd439 : Cond.code ({ cls := "BakeryNight$Roads", name := "by", desc := "(III)I" } : Jvm.MethodName) prog_11_method_7_code (4 : Nat) (Option.some Jvm.ClassFile.FieldType.int) ∈ GW := gwt1 49 (by decide +kernel) rfl
theorem wd440 : Cond.fieldLink "BakeryNight$Bakery" (50 : Nat) "BakeryNight$Bakery" "room" "I" ∈ GW := gwt1 50 (by decide +kernel) rfl
theorem wd441 : Cond.fieldLink "BakeryNight$History" (32 : Nat) "BakeryNight$Bakery" "room" "I" ∈ GW := gwt1 51 (by decide +kernel) rfl
theorem wd442 : Cond.fieldLink "BakeryNight$Parser" (101 : Nat) "BakeryNight$Bakery" "room" "I" ∈ GW := gwt1 52 (by decide +kernel) rfl
theorem wd443 : Cond.fieldLink "BakeryNight" (302 : Nat) "BakeryNight$Bakery" "room" "I" ∈ GW := gwt1 53 (by decide +kernel) rfl
theorem wd444 : Cond.fieldLink "BakeryNight$Bakery" (54 : Nat) "BakeryNight$Bakery" "cool" "I" ∈ GW := gwt1 54 (by decide +kernel) rfl
theorem wd445 : Cond.fieldLink "BakeryNight$Parser" (104 : Nat) "BakeryNight$Bakery" "cool" "I" ∈ GW := gwt1 55 (by decide +kernel) rfl
theorem wd446 : Cond.fieldLink "BakeryNight$Night" (242 : Nat) "BakeryNight$Bakery" "cool" "I" ∈ GW := gwt1 56 (by decide +kernel) rfl
theorem wd447 : Cond.fieldLink "BakeryNight$Bakery" (57 : Nat) "BakeryNight$Bakery" "mixers" "I" ∈ GW := gwt1 57 (by decide +kernel) rfl
theorem wd448 : Cond.fieldLink "BakeryNight$Parser" (107 : Nat) "BakeryNight$Bakery" "mixers" "I" ∈ GW := gwt1 58 (by decide +kernel) rfl
theorem wd449 : Cond.fieldLink "BakeryNight$Night" (205 : Nat) "BakeryNight$Bakery" "mixers" "I" ∈ GW := gwt1 59 (by decide +kernel) rfl
theorem wd450 : Cond.fieldLink "BakeryNight$Bakery" (60 : Nat) "BakeryNight$Bakery" "bakers" "I" ∈ GW := gwt1 60 (by decide +kernel) rfl
theorem wd451 : Cond.fieldLink "BakeryNight$Parser" (110 : Nat) "BakeryNight$Bakery" "bakers" "I" ∈ GW := gwt1 61 (by decide +kernel) rfl
theorem wd452 : Cond.fieldLink "BakeryNight$Night" (184 : Nat) "BakeryNight$Bakery" "bakers" "I" ∈ GW := gwt1 62 (by decide +kernel) rfl
theorem wd453 : Cond.fieldLink "BakeryNight$Bakery" (13 : Nat) "BakeryNight$Bakery" "doughs" "[LBakeryNight$Dough;" ∈ GW := gwt1 63 (by decide +kernel) rfl
theorem wd454 : Cond.fieldLink "BakeryNight$Night" (147 : Nat) "BakeryNight$Bakery" "doughs" "[LBakeryNight$Dough;" ∈ GW := gwt1 64 (by decide +kernel) rfl
theorem wd455 : Cond.fieldLink "BakeryNight$Parser" (155 : Nat) "BakeryNight$Bakery" "doughs" "[LBakeryNight$Dough;" ∈ GW := gwt1 65 (by decide +kernel) rfl
theorem wd456 : Cond.fieldLink "BakeryNight" (96 : Nat) "BakeryNight$Bakery" "doughs" "[LBakeryNight$Dough;" ∈ GW := gwt1 66 (by decide +kernel) rfl
theorem wd457 : Cond.fieldLink "BakeryNight$Plan" (165 : Nat) "BakeryNight$Bakery" "doughs" "[LBakeryNight$Dough;" ∈ GW := gwt1 67 (by decide +kernel) rfl
theorem wd458 : Cond.fieldLink "BakeryNight$Bakery" (63 : Nat) "BakeryNight$Bakery" "doughTotal" "I" ∈ GW := gwt1 68 (by decide +kernel) rfl
theorem wd459 : Cond.fieldLink "BakeryNight$Night" (131 : Nat) "BakeryNight$Bakery" "doughTotal" "I" ∈ GW := gwt1 69 (by decide +kernel) rfl
theorem wd460 : Cond.fieldLink "BakeryNight$Parser" (145 : Nat) "BakeryNight$Bakery" "doughTotal" "I" ∈ GW := gwt1 70 (by decide +kernel) rfl
theorem wd461 : Cond.fieldLink "BakeryNight" (230 : Nat) "BakeryNight$Bakery" "doughTotal" "I" ∈ GW := gwt1 71 (by decide +kernel) rfl
theorem wd462 : Cond.fieldLink "BakeryNight$Bakery" (20 : Nat) "BakeryNight$Bakery" "ovens" "[LBakeryNight$Oven;" ∈ GW := gwt1 72 (by decide +kernel) rfl
theorem wd463 : Cond.fieldLink "BakeryNight$Night" (120 : Nat) "BakeryNight$Bakery" "ovens" "[LBakeryNight$Oven;" ∈ GW := gwt1 73 (by decide +kernel) rfl
theorem wd464 : Cond.fieldLink "BakeryNight$History" (37 : Nat) "BakeryNight$Bakery" "ovens" "[LBakeryNight$Oven;" ∈ GW := gwt1 74 (by decide +kernel) rfl
theorem wd465 : Cond.fieldLink "BakeryNight$Parser" (229 : Nat) "BakeryNight$Bakery" "ovens" "[LBakeryNight$Oven;" ∈ GW := gwt1 75 (by decide +kernel) rfl
theorem wd466 : Cond.fieldLink "BakeryNight" (308 : Nat) "BakeryNight$Bakery" "ovens" "[LBakeryNight$Oven;" ∈ GW := gwt1 76 (by decide +kernel) rfl
theorem wd467 : Cond.fieldLink "BakeryNight$Bakery" (66 : Nat) "BakeryNight$Bakery" "ovenTotal" "I" ∈ GW := gwt1 77 (by decide +kernel) rfl
theorem wd468 : Cond.fieldLink "BakeryNight$Night" (117 : Nat) "BakeryNight$Bakery" "ovenTotal" "I" ∈ GW := gwt1 78 (by decide +kernel) rfl
theorem wd469 : Cond.fieldLink "BakeryNight$Parser" (226 : Nat) "BakeryNight$Bakery" "ovenTotal" "I" ∈ GW := gwt1 79 (by decide +kernel) rfl
theorem wd470 : Cond.fieldLink "BakeryNight$Bakery" (69 : Nat) "BakeryNight$Bakery" "shopTotal" "I" ∈ GW := gwt1 80 (by decide +kernel) rfl
theorem wd471 : Cond.fieldLink "BakeryNight$Parser" (65 : Nat) "BakeryNight$Bakery" "shopTotal" "I" ∈ GW := gwt1 81 (by decide +kernel) rfl
theorem wd472 : Cond.fieldLink "BakeryNight" (288 : Nat) "BakeryNight$Bakery" "shopTotal" "I" ∈ GW := gwt1 82 (by decide +kernel) rfl
theorem wd473 : Cond.fieldLink "BakeryNight$Bakery" (39 : Nat) "BakeryNight$Bakery" "roads" "LBakeryNight$Roads;" ∈ GW := gwt1 83 (by decide +kernel) rfl
theorem wd474 : Cond.fieldLink "BakeryNight$Parser" (61 : Nat) "BakeryNight$Bakery" "roads" "LBakeryNight$Roads;" ∈ GW := gwt1 84 (by decide +kernel) rfl
theorem wd475 : Cond.fieldLink "BakeryNight$Plan" (129 : Nat) "BakeryNight$Bakery" "roads" "LBakeryNight$Roads;" ∈ GW := gwt1 85 (by decide +kernel) rfl
theorem wd476 : Cond.fieldLink "BakeryNight" (114 : Nat) "BakeryNight$Bakery" "roads" "LBakeryNight$Roads;" ∈ GW := gwt1 86 (by decide +kernel) rfl
theorem wd477 : Cond.fieldLink "BakeryNight$Bakery" (32 : Nat) "BakeryNight$Bakery" "vanLoads" "[I" ∈ GW := gwt1 87 (by decide +kernel) rfl
theorem wd478 : Cond.fieldLink "BakeryNight$Plan" (147 : Nat) "BakeryNight$Bakery" "vanLoads" "[I" ∈ GW := gwt1 88 (by decide +kernel) rfl
theorem wd479 : Cond.fieldLink "BakeryNight$Parser" (274 : Nat) "BakeryNight$Bakery" "vanLoads" "[I" ∈ GW := gwt1 89 (by decide +kernel) rfl
theorem wd480 : Cond.fieldLink "BakeryNight$Bakery" (75 : Nat) "BakeryNight$Bakery" "vanTotal" "I" ∈ GW := gwt1 90 (by decide +kernel) rfl
theorem wd481 : Cond.fieldLink "BakeryNight$Plan" (114 : Nat) "BakeryNight$Bakery" "vanTotal" "I" ∈ GW := gwt1 91 (by decide +kernel) rfl
theorem wd482 : Cond.fieldLink "BakeryNight$Parser" (271 : Nat) "BakeryNight$Bakery" "vanTotal" "I" ∈ GW := gwt1 92 (by decide +kernel) rfl
theorem wd483 : Cond.fieldLink "BakeryNight$Bakery" (27 : Nat) "BakeryNight$Bakery" "orders" "[LBakeryNight$Order;" ∈ GW := gwt1 93 (by decide +kernel) rfl
theorem wd484 : Cond.fieldLink "BakeryNight$Plan" (66 : Nat) "BakeryNight$Bakery" "orders" "[LBakeryNight$Order;" ∈ GW := gwt1 94 (by decide +kernel) rfl
theorem wd485 : Cond.fieldLink "BakeryNight$History" (54 : Nat) "BakeryNight$Bakery" "orders" "[LBakeryNight$Order;" ∈ GW := gwt1 95 (by decide +kernel) rfl
theorem wd486 : Cond.fieldLink "BakeryNight$Night" (225 : Nat) "BakeryNight$Bakery" "orders" "[LBakeryNight$Order;" ∈ GW := gwt1 96 (by decide +kernel) rfl
theorem wd487 : Cond.fieldLink "BakeryNight$Parser" (287 : Nat) "BakeryNight$Bakery" "orders" "[LBakeryNight$Order;" ∈ GW := gwt1 97 (by decide +kernel) rfl
theorem wd488 : Cond.fieldLink "BakeryNight" (321 : Nat) "BakeryNight$Bakery" "orders" "[LBakeryNight$Order;" ∈ GW := gwt1 98 (by decide +kernel) rfl
theorem wd489 : Cond.fieldLink "BakeryNight$Plan" (59 : Nat) "BakeryNight$Bakery" "orderTotal" "I" ∈ GW := gwt1 99 (by decide +kernel) rfl
theorem wd490 : Cond.fieldLink "BakeryNight$Bakery" (78 : Nat) "BakeryNight$Bakery" "orderTotal" "I" ∈ GW := gwt1 100 (by decide +kernel) rfl
theorem wd491 : Cond.fieldLink "BakeryNight$History" (51 : Nat) "BakeryNight$Bakery" "orderTotal" "I" ∈ GW := gwt1 101 (by decide +kernel) rfl
theorem wd492 : Cond.fieldLink "BakeryNight" (81 : Nat) "BakeryNight$Bakery" "orderTotal" "I" ∈ GW := gwt1 102 (by decide +kernel) rfl
theorem wd493 : Cond.fieldLink "BakeryNight$Parser" (277 : Nat) "BakeryNight$Bakery" "orderTotal" "I" ∈ GW := gwt1 103 (by decide +kernel) rfl
theorem wd494 : Cond.fieldLink "BakeryNight$Night" (218 : Nat) "BakeryNight$Bakery" "orderTotal" "I" ∈ GW := gwt1 104 (by decide +kernel) rfl
theorem wd524 : Cond.classLink "BakeryNight" (30 : Nat) "BakeryNight$History" ∈ GW := gwt1 134 (by decide +kernel) rfl
theorem wd525 : Cond.instantiable "BakeryNight$History" (4 : Nat) ∈ GW := gwt1 135 (by decide +kernel) rfl
theorem wd526 : Cond.methodLink "BakeryNight" (32 : Nat) ({ cls := "BakeryNight$History", name := "<init>", desc := "()V" } : Jvm.MethodName) ∈ GW := gwt1 136 (by decide +kernel) rfl
theorem wd527 : Cond.instanceMethod ({ cls := "BakeryNight$History", name := "<init>", desc := "()V" } : Jvm.MethodName) ∈ GW := gwt1 137 (by decide +kernel) rfl
theorem wd528 : Cond.code ({ cls := "BakeryNight$History", name := "<init>", desc := "()V" } : Jvm.MethodName) prog_5_method_1_code (1 : Nat) (Option.none : Option Jvm.ClassFile.FieldType) ∈ GW := gwt1 138 (by decide +kernel) rfl
theorem wd529 : Cond.methodLink "BakeryNight$History" (1 : Nat) ({ cls := "java/lang/Object", name := "<init>", desc := "()V" } : Jvm.MethodName) ∈ GW := gwt1 139 (by decide +kernel) rfl
theorem wd530 : Cond.fieldLink "BakeryNight$History" (9 : Nat) "BakeryNight$History" "kinds" "[I" ∈ GW := gwt1 140 (by decide +kernel) rfl
theorem wd531 : Cond.fieldLink "BakeryNight$History" (13 : Nat) "BakeryNight$History" "indexes" "[I" ∈ GW := gwt1 141 (by decide +kernel) rfl
theorem wd532 : Cond.fieldLink "BakeryNight$History" (16 : Nat) "BakeryNight$History" "before" "[I" ∈ GW := gwt1 142 (by decide +kernel) rfl
theorem wd533 : Cond.fieldLink "BakeryNight$History" (19 : Nat) "BakeryNight$History" "size" "I" ∈ GW := gwt1 143 (by decide +kernel) rfl
theorem wd534 : Cond.fieldLink "BakeryNight" (337 : Nat) "BakeryNight$History" "size" "I" ∈ GW := gwt1 144 (by decide +kernel) rfl
theorem wd544 : Cond.classLink "BakeryNight" (37 : Nat) "BakeryNight$Night" ∈ GW := gwt1 154 (by decide +kernel) rfl
theorem wd545 : Cond.instantiable "BakeryNight$Night" (20 : Nat) ∈ GW := gwt1 155 (by decide +kernel) rfl
theorem wd546 : Cond.methodLink "BakeryNight" (39 : Nat) ({ cls := "BakeryNight$Night", name := "<init>", desc := "()V" } : Jvm.MethodName) ∈ GW := gwt1 156 (by decide +kernel) rfl
theorem wd547 : Cond.instanceMethod ({ cls := "BakeryNight$Night", name := "<init>", desc := "()V" } : Jvm.MethodName) ∈ GW := gwt1 157 (by decide +kernel) rfl
theorem wd548 : Cond.code ({ cls := "BakeryNight$Night", name := "<init>", desc := "()V" } : Jvm.MethodName) prog_6_method_1_code (1 : Nat) (Option.none : Option Jvm.ClassFile.FieldType) ∈ GW := gwt1 158 (by decide +kernel) rfl
theorem wd549 : Cond.methodLink "BakeryNight$Night" (3 : Nat) ({ cls := "java/lang/Object", name := "<init>", desc := "()V" } : Jvm.MethodName) ∈ GW := gwt1 159 (by decide +kernel) rfl
theorem wd550 : Cond.classLink "BakeryNight$Night" (18 : Nat) "[[I" ∈ GW := gwt1 160 (by decide +kernel) rfl
theorem wd551 : Cond.fieldLink "BakeryNight$Night" (99 : Nat) "BakeryNight$Night" "start" "I" ∈ GW := gwt1 161 (by decide +kernel) rfl
theorem wd552 : Cond.fieldLink "BakeryNight$Night" (86 : Nat) "BakeryNight$Night" "end" "I" ∈ GW := gwt1 162 (by decide +kernel) rfl
theorem wd553 : Cond.fieldLink "BakeryNight" (159 : Nat) "BakeryNight$Night" "end" "I" ∈ GW := gwt1 163 (by decide +kernel) rfl
theorem wd554 : Cond.fieldLink "BakeryNight$Night" (82 : Nat) "BakeryNight$Night" "batches" "I" ∈ GW := gwt1 164 (by decide +kernel) rfl
theorem wd555 : Cond.fieldLink "BakeryNight$Night" (11 : Nat) "BakeryNight$Night" "dough" "[I" ∈ GW := gwt1 165 (by decide +kernel) rfl
theorem wd556 : Cond.fieldLink "BakeryNight" (177 : Nat) "BakeryNight$Night" "dough" "[I" ∈ GW := gwt1 166 (by decide +kernel) rfl
theorem wd557 : Cond.fieldLink "BakeryNight$Night" (15 : Nat) "BakeryNight$Night" "oven" "[I" ∈ GW := gwt1 167 (by decide +kernel) rfl
theorem wd558 : Cond.fieldLink "BakeryNight" (187 : Nat) "BakeryNight$Night" "oven" "[I" ∈ GW := gwt1 168 (by decide +kernel) rfl
theorem wd559 : Cond.fieldLink "BakeryNight$Night" (20 : Nat) "BakeryNight$Night" "begun" "[[I" ∈ GW := gwt1 169 (by decide +kernel) rfl
theorem wd560 : Cond.fieldLink "BakeryNight" (183 : Nat) "BakeryNight$Night" "begun" "[[I" ∈ GW := gwt1 170 (by decide +kernel) rfl
theorem wd561 : Cond.fieldLink "BakeryNight$Night" (23 : Nat) "BakeryNight$Night" "risen" "[I" ∈ GW := gwt1 171 (by decide +kernel) rfl
theorem wd562 : Cond.fieldLink "BakeryNight$Night" (26 : Nat) "BakeryNight$Night" "proofed" "[I" ∈ GW := gwt1 172 (by decide +kernel) rfl
theorem wd563 : Cond.fieldLink "BakeryNight$Night" (29 : Nat) "BakeryNight$Night" "spoiled" "[I" ∈ GW := gwt1 173 (by decide +kernel) rfl
theorem wd564 : Cond.fieldLink "BakeryNight$Night" (102 : Nat) "BakeryNight$Night" "mixed" "I" ∈ GW := gwt1 174 (by decide +kernel) rfl
theorem wd565 : Cond.fieldLink "BakeryNight$Night" (32 : Nat) "BakeryNight$Night" "toShape" "[I" ∈ GW := gwt1 175 (by decide +kernel) rfl
theorem wd566 : Cond.fieldLink "BakeryNight$Night" (105 : Nat) "BakeryNight$Night" "toShapeTotal" "I" ∈ GW := gwt1 176 (by decide +kernel) rfl
theorem wd567 : Cond.fieldLink "BakeryNight$Night" (35 : Nat) "BakeryNight$Night" "toBake" "[I" ∈ GW := gwt1 177 (by decide +kernel) rfl
theorem wd568 : Cond.fieldLink "BakeryNight$Night" (108 : Nat) "BakeryNight$Night" "toBakeTotal" "I" ∈ GW := gwt1 178 (by decide +kernel) rfl
theorem wd569 : Cond.fieldLink "BakeryNight$Night" (40 : Nat) "BakeryNight$Night" "heat" "[I" ∈ GW := gwt1 179 (by decide +kernel) rfl
theorem wd570 : Cond.fieldLink "BakeryNight$Night" (43 : Nat) "BakeryNight$Night" "steady" "[I" ∈ GW := gwt1 180 (by decide +kernel) rfl
theorem wd571 : Cond.fieldLink "BakeryNight$Night" (46 : Nat) "BakeryNight$Night" "changed" "[I" ∈ GW := gwt1 181 (by decide +kernel) rfl
theorem wd572 : Cond.fieldLink "BakeryNight" (196 : Nat) "BakeryNight$Night" "changed" "[I" ∈ GW := gwt1 182 (by decide +kernel) rfl
theorem wd573 : Cond.fieldLink "BakeryNight$Night" (49 : Nat) "BakeryNight$Night" "taken" "[I" ∈ GW := gwt1 183 (by decide +kernel) rfl
theorem wd574 : Cond.fieldLink "BakeryNight$Night" (52 : Nat) "BakeryNight$Night" "ready" "[I" ∈ GW := gwt1 184 (by decide +kernel) rfl
theorem wd575 : Cond.fieldLink "BakeryNight$Plan" (75 : Nat) "BakeryNight$Night" "ready" "[I" ∈ GW := gwt1 185 (by decide +kernel) rfl
theorem wd576 : Cond.fieldLink "BakeryNight" (223 : Nat) "BakeryNight$Night" "ready" "[I" ∈ GW := gwt1 186 (by decide +kernel) rfl
theorem wd577 : Cond.fieldLink "BakeryNight$Night" (55 : Nat) "BakeryNight$Night" "oldest" "[I" ∈ GW := gwt1 187 (by decide +kernel) rfl
theorem wd578 : Cond.fieldLink "BakeryNight$Plan" (162 : Nat) "BakeryNight$Night" "oldest" "[I" ∈ GW := gwt1 188 (by decide +kernel) rfl
theorem wd620 : Cond.classLink "BakeryNight" (44 : Nat) "BakeryNight$Plan" ∈ GW := gwt1 230 (by decide +kernel) rfl
theorem wd621 : Cond.instantiable "BakeryNight$Plan" (15 : Nat) ∈ GW := gwt1 231 (by decide +kernel) rfl
theorem wd622 : Cond.methodLink "BakeryNight" (46 : Nat) ({ cls := "BakeryNight$Plan", name := "<init>", desc := "()V" } : Jvm.MethodName) ∈ GW := gwt1 232 (by decide +kernel) rfl
theorem wd623 : Cond.instanceMethod ({ cls := "BakeryNight$Plan", name := "<init>", desc := "()V" } : Jvm.MethodName) ∈ GW := gwt1 233 (by decide +kernel) rfl
theorem wd624 : Cond.code ({ cls := "BakeryNight$Plan", name := "<init>", desc := "()V" } : Jvm.MethodName) prog_10_method_1_code (1 : Nat) (Option.none : Option Jvm.ClassFile.FieldType) ∈ GW := gwt1 234 (by decide +kernel) rfl
theorem wd625 : Cond.methodLink "BakeryNight$Plan" (3 : Nat) ({ cls := "java/lang/Object", name := "<init>", desc := "()V" } : Jvm.MethodName) ∈ GW := gwt1 235 (by decide +kernel) rfl
theorem wd626 : Cond.fieldLink "BakeryNight$Plan" (11 : Nat) "BakeryNight$Plan" "due" "[I" ∈ GW := gwt1 236 (by decide +kernel) rfl
theorem wd627 : Cond.fieldLink "BakeryNight$Plan" (17 : Nat) "BakeryNight$Plan" "load" "[I" ∈ GW := gwt1 237 (by decide +kernel) rfl
theorem wd628 : Cond.fieldLink "BakeryNight$Plan" (20 : Nat) "BakeryNight$Plan" "readyAt" "[I" ∈ GW := gwt1 238 (by decide +kernel) rfl
theorem wd629 : Cond.fieldLink "BakeryNight$Plan" (95 : Nat) "BakeryNight$Plan" "served" "I" ∈ GW := gwt1 239 (by decide +kernel) rfl
theorem wd630 : Cond.fieldLink "BakeryNight$Plan" (55 : Nat) "BakeryNight$Plan" "missed" "I" ∈ GW := gwt2 0 (by decide +kernel) rfl
theorem wd631 : Cond.fieldLink "BakeryNight$Plan" (25 : Nat) "BakeryNight$Plan" "setLoad" "[I" ∈ GW := gwt2 1 (by decide +kernel) rfl
theorem wd632 : Cond.fieldLink "BakeryNight$Plan" (28 : Nat) "BakeryNight$Plan" "setLate" "[I" ∈ GW := gwt2 2 (by decide +kernel) rfl
theorem wd633 : Cond.fieldLink "BakeryNight$Plan" (31 : Nat) "BakeryNight$Plan" "setMinutes" "[I" ∈ GW := gwt2 3 (by decide +kernel) rfl
theorem wd634 : Cond.fieldLink "BakeryNight$Plan" (34 : Nat) "BakeryNight$Plan" "setSlack" "[I" ∈ GW := gwt2 4 (by decide +kernel) rfl
theorem wd635 : Cond.fieldLink "BakeryNight$Plan" (37 : Nat) "BakeryNight$Plan" "shopsOfVan" "[I" ∈ GW := gwt2 5 (by decide +kernel) rfl
theorem wd636 : Cond.fieldLink "BakeryNight$Plan" (40 : Nat) "BakeryNight$Plan" "vanOfShop" "[I" ∈ GW := gwt2 6 (by decide +kernel) rfl
theorem wd637 : Cond.fieldLink "BakeryNight$Plan" (98 : Nat) "BakeryNight$Plan" "possible" "Z" ∈ GW := gwt2 7 (by decide +kernel) rfl
theorem wd638 : Cond.fieldLink "BakeryNight" (249 : Nat) "BakeryNight$Plan" "possible" "Z" ∈ GW := gwt2 8 (by decide +kernel) rfl
theorem wd639 : Cond.fieldLink "BakeryNight$Plan" (117 : Nat) "BakeryNight$Plan" "lateTotal" "I" ∈ GW := gwt2 9 (by decide +kernel) rfl
theorem wd640 : Cond.fieldLink "BakeryNight" (255 : Nat) "BakeryNight$Plan" "lateTotal" "I" ∈ GW := gwt2 10 (by decide +kernel) rfl
theorem wd641 : Cond.fieldLink "BakeryNight$Plan" (43 : Nat) "BakeryNight$Plan" "bestShops" "[I" ∈ GW := gwt2 11 (by decide +kernel) rfl
theorem wd642 : Cond.fieldLink "BakeryNight$Plan" (46 : Nat) "BakeryNight$Plan" "arrival" "[I" ∈ GW := gwt2 12 (by decide +kernel) rfl
theorem wd643 : Cond.fieldLink "BakeryNight" (261 : Nat) "BakeryNight$Plan" "arrival" "[I" ∈ GW := gwt2 13 (by decide +kernel) rfl
theorem wd675 : Cond.fieldLink "BakeryNight" (9 : Nat) "BakeryNight" "buffer" "[B" ∈ GW := gwt2 45 (by decide +kernel) rfl
theorem wd676 : Cond.fieldLink "BakeryNight" (57 : Nat) "BakeryNight" "length" "I" ∈ GW := gwt2 46 (by decide +kernel) rfl
theorem wd677 : Cond.fieldLink "BakeryNight" (16 : Nat) "BakeryNight" "parser" "LBakeryNight$Parser;" ∈ GW := gwt2 47 (by decide +kernel) rfl
theorem wd678 : Cond.fieldLink "BakeryNight" (23 : Nat) "BakeryNight" "bakery" "LBakeryNight$Bakery;" ∈ GW := gwt2 48 (by decide +kernel) rfl
theorem wd679 : Cond.fieldLink "BakeryNight" (27 : Nat) "BakeryNight" "spare" "LBakeryNight$Bakery;" ∈ GW := gwt2 49 (by decide +kernel) rfl
theorem wd680 : Cond.fieldLink "BakeryNight" (33 : Nat) "BakeryNight" "history" "LBakeryNight$History;" ∈ GW := gwt2 50 (by decide +kernel) rfl
theorem wd681 : Cond.fieldLink "BakeryNight" (40 : Nat) "BakeryNight" "night" "LBakeryNight$Night;" ∈ GW := gwt2 51 (by decide +kernel) rfl
theorem wd682 : Cond.fieldLink "BakeryNight" (47 : Nat) "BakeryNight" "plan" "LBakeryNight$Plan;" ∈ GW := gwt2 52 (by decide +kernel) rfl
theorem wd683 : Cond.fieldLink "BakeryNight" (152 : Nat) "BakeryNight" "simulated" "Z" ∈ GW := gwt2 53 (by decide +kernel) rfl
theorem wd684 : Cond.fieldLink "BakeryNight" (156 : Nat) "BakeryNight" "planned" "Z" ∈ GW := gwt2 54 (by decide +kernel) rfl
theorem wd685 : Cond.fieldLink "BakeryNight" (51 : Nat) "BakeryNight" "trialNight" "LBakeryNight$Night;" ∈ GW := gwt2 55 (by decide +kernel) rfl
theorem wd686 : Cond.fieldLink "BakeryNight" (54 : Nat) "BakeryNight" "trialPlan" "LBakeryNight$Plan;" ∈ GW := gwt2 56 (by decide +kernel) rfl
theorem wd712 : Cond.methodLink "BakeryNightLaw" (28 : Nat) ({ cls := "BakeryNight", name := "feed", desc := "(IIIII)I" } : Jvm.MethodName) ∈ GW := gwt2 82 (by decide +kernel) rfl
theorem wd713 : Cond.instanceMethod ({ cls := "BakeryNight", name := "feed", desc := "(IIIII)I" } : Jvm.MethodName) ∈ GW := gwt2 83 (by decide +kernel) rfl
theorem wd714 : Cond.selects "BakeryNight" ({ cls := "BakeryNight", name := "feed", desc := "(IIIII)I" } : Jvm.MethodName) ({ cls := "BakeryNight", name := "feed", desc := "(IIIII)I" } : Jvm.MethodName) ∈ GW := gwt2 84 (by decide +kernel) rfl
theorem wd715 : Cond.code ({ cls := "BakeryNight", name := "feed", desc := "(IIIII)I" } : Jvm.MethodName) prog_1_method_2_code (6 : Nat) (Option.some Jvm.ClassFile.FieldType.int) ∈ GW := gwt2 85 (by decide +kernel) rfl
theorem wd716 : Cond.methodLink "BakeryNight" (61 : Nat) ({ cls := "BakeryNight", name := "append", desc := "(I)V" } : Jvm.MethodName) ∈ GW := gwt2 86 (by decide +kernel) rfl
theorem wd718 : Cond.instanceMethod ({ cls := "BakeryNight", name := "append", desc := "(I)V" } : Jvm.MethodName) ∈ GW := gwt2 88 (by decide +kernel) rfl
theorem wd719 : Cond.code ({ cls := "BakeryNight", name := "append", desc := "(I)V" } : Jvm.MethodName) prog_1_method_3_code (3 : Nat) (Option.none : Option Jvm.ClassFile.FieldType) ∈ GW := gwt2 89 (by decide +kernel) rfl
theorem wd720 : Cond.methodLink "BakeryNightLaw" (33 : Nat) ({ cls := "BakeryNight", name := "truncate", desc := "(I)Z" } : Jvm.MethodName) ∈ GW := gwt2 90 (by decide +kernel) rfl
theorem wd721 : Cond.instanceMethod ({ cls := "BakeryNight", name := "truncate", desc := "(I)Z" } : Jvm.MethodName) ∈ GW := gwt2 91 (by decide +kernel) rfl
theorem wd722 : Cond.selects "BakeryNight" ({ cls := "BakeryNight", name := "truncate", desc := "(I)Z" } : Jvm.MethodName) ({ cls := "BakeryNight", name := "truncate", desc := "(I)Z" } : Jvm.MethodName) ∈ GW := gwt2 92 (by decide +kernel) rfl
theorem wd723 : Cond.code ({ cls := "BakeryNight", name := "truncate", desc := "(I)Z" } : Jvm.MethodName) prog_1_method_4_code (2 : Nat) (Option.some Jvm.ClassFile.FieldType.boolean) ∈ GW := gwt2 93 (by decide +kernel) rfl
theorem wd724 : Cond.methodLink "BakeryNightLaw" (38 : Nat) ({ cls := "BakeryNight", name := "parseBakery", desc := "()I" } : Jvm.MethodName) ∈ GW := gwt2 94 (by decide +kernel) rfl
theorem wd725 : Cond.instanceMethod ({ cls := "BakeryNight", name := "parseBakery", desc := "()I" } : Jvm.MethodName) ∈ GW := gwt2 95 (by decide +kernel) rfl
theorem wd726 : Cond.selects "BakeryNight" ({ cls := "BakeryNight", name := "parseBakery", desc := "()I" } : Jvm.MethodName) ({ cls := "BakeryNight", name := "parseBakery", desc := "()I" } : Jvm.MethodName) ∈ GW := gwt2 96 (by decide +kernel) rfl
theorem wd727 : Cond.code ({ cls := "BakeryNight", name := "parseBakery", desc := "()I" } : Jvm.MethodName) prog_1_method_5_code (3 : Nat) (Option.some Jvm.ClassFile.FieldType.int) ∈ GW := gwt2 97 (by decide +kernel) rfl
theorem wd728 : Cond.methodLink "BakeryNight" (65 : Nat) ({ cls := "BakeryNight$Parser", name := "parse", desc := "([BILBakeryNight$Bakery;)I" } : Jvm.MethodName) ∈ GW := gwt2 98 (by decide +kernel) rfl
theorem wd729 : Cond.instanceMethod ({ cls := "BakeryNight$Parser", name := "parse", desc := "([BILBakeryNight$Bakery;)I" } : Jvm.MethodName) ∈ GW := gwt2 99 (by decide +kernel) rfl
theorem wd730 : Cond.selects "BakeryNight$Parser" ({ cls := "BakeryNight$Parser", name := "parse", desc := "([BILBakeryNight$Bakery;)I" } : Jvm.MethodName) ({ cls := "BakeryNight$Parser", name := "parse", desc := "([BILBakeryNight$Bakery;)I" } : Jvm.MethodName) ∈ GW := gwt2 100 (by decide +kernel) rfl
theorem wd731 : Cond.code ({ cls := "BakeryNight$Parser", name := "parse", desc := "([BILBakeryNight$Bakery;)I" } : Jvm.MethodName) prog_9_method_2_code (5 : Nat) (Option.some Jvm.ClassFile.FieldType.int) ∈ GW := gwt2 101 (by decide +kernel) rfl
theorem wd732 : Cond.methodLink "BakeryNight$Parser" (47 : Nat) ({ cls := "BakeryNight$Bakery", name := "clear", desc := "()V" } : Jvm.MethodName) ∈ GW := gwt2 102 (by decide +kernel) rfl
theorem wd733 : Cond.methodLink "BakeryNight$Parser" (50 : Nat) ({ cls := "BakeryNight$Scanner", name := "begin", desc := "([BI)V" } : Jvm.MethodName) ∈ GW := gwt2 103 (by decide +kernel) rfl
theorem wd734 : Cond.instanceMethod ({ cls := "BakeryNight$Scanner", name := "begin", desc := "([BI)V" } : Jvm.MethodName) ∈ GW := gwt2 104 (by decide +kernel) rfl
theorem wd735 : Cond.selects "BakeryNight$Scanner" ({ cls := "BakeryNight$Scanner", name := "begin", desc := "([BI)V" } : Jvm.MethodName) ({ cls := "BakeryNight$Scanner", name := "begin", desc := "([BI)V" } : Jvm.MethodName) ∈ GW := gwt2 105 (by decide +kernel) rfl
theorem wd736 : Cond.code ({ cls := "BakeryNight$Scanner", name := "begin", desc := "([BI)V" } : Jvm.MethodName) prog_12_method_2_code (3 : Nat) (Option.none : Option Jvm.ClassFile.FieldType) ∈ GW := gwt2 106 (by decide +kernel) rfl
theorem wd737 : Cond.methodLink "BakeryNight$Scanner" (13 : Nat) ({ cls := "java/lang/Math", name := "min", desc := "(II)I" } : Jvm.MethodName) ∈ GW := gwt2 107 (by decide +kernel) rfl
theorem wd738 : Cond.methodLink "BakeryNight$Scanner" (26 : Nat) ({ cls := "BakeryNight$Scanner", name := "next", desc := "()V" } : Jvm.MethodName) ∈ GW := gwt2 108 (by decide +kernel) rfl
theorem wd739 : Cond.instanceMethod ({ cls := "BakeryNight$Scanner", name := "next", desc := "()V" } : Jvm.MethodName) ∈ GW := gwt2 109 (by decide +kernel) rfl
theorem wd740 : Cond.selects "BakeryNight$Scanner" ({ cls := "BakeryNight$Scanner", name := "next", desc := "()V" } : Jvm.MethodName) ({ cls := "BakeryNight$Scanner", name := "next", desc := "()V" } : Jvm.MethodName) ∈ GW := gwt2 110 (by decide +kernel) rfl
theorem wd741 : Cond.code ({ cls := "BakeryNight$Scanner", name := "next", desc := "()V" } : Jvm.MethodName) prog_12_method_3_code (1 : Nat) (Option.none : Option Jvm.ClassFile.FieldType) ∈ GW := gwt2 111 (by decide +kernel) rfl
theorem wd742 : Cond.methodLink "BakeryNight$Scanner" (32 : Nat) ({ cls := "BakeryNight$Scanner", name := "kindOf", desc := "(I)I" } : Jvm.MethodName) ∈ GW := gwt2 112 (by decide +kernel) rfl
theorem wd743 : Cond.static ({ cls := "BakeryNight$Scanner", name := "kindOf", desc := "(I)I" } : Jvm.MethodName) ∈ GW := gwt2 113 (by decide +kernel) rfl
theorem wd744 : Cond.code ({ cls := "BakeryNight$Scanner", name := "kindOf", desc := "(I)I" } : Jvm.MethodName) prog_12_method_4_code (1 : Nat) (Option.some Jvm.ClassFile.FieldType.int) ∈ GW := gwt2 114 (by decide +kernel) rfl
theorem wd745 : Cond.methodLink "BakeryNight$Parser" (57 : Nat) ({ cls := "BakeryNight$Parser", name := "readStatement", desc := "(LBakeryNight$Bakery;)V" } : Jvm.MethodName) ∈ GW := gwt2 115 (by decide +kernel) rfl
theorem wd747 : Cond.instanceMethod ({ cls := "BakeryNight$Parser", name := "readStatement", desc := "(LBakeryNight$Bakery;)V" } : Jvm.MethodName) ∈ GW := gwt2 117 (by decide +kernel) rfl
theorem wd748 : Cond.code ({ cls := "BakeryNight$Parser", name := "readStatement", desc := "(LBakeryNight$Bakery;)V" } : Jvm.MethodName) prog_9_method_5_code (3 : Nat) (Option.none : Option Jvm.ClassFile.FieldType) ∈ GW := gwt2 118 (by decide +kernel) rfl
theorem wd749 : Cond.methodLink "BakeryNight$Parser" (77 : Nat) ({ cls := "BakeryNight$Scanner", name := "keyword", desc := "()LBakeryNight$Word;" } : Jvm.MethodName) ∈ GW := gwt2 119 (by decide +kernel) rfl
theorem wd750 : Cond.instanceMethod ({ cls := "BakeryNight$Scanner", name := "keyword", desc := "()LBakeryNight$Word;" } : Jvm.MethodName) ∈ GW := gwt2 120 (by decide +kernel) rfl
theorem wd751 : Cond.selects "BakeryNight$Scanner" ({ cls := "BakeryNight$Scanner", name := "keyword", desc := "()LBakeryNight$Word;" } : Jvm.MethodName) ({ cls := "BakeryNight$Scanner", name := "keyword", desc := "()LBakeryNight$Word;" } : Jvm.MethodName) ∈ GW := gwt2 121 (by decide +kernel) rfl
theorem wd752 : Cond.code ({ cls := "BakeryNight$Scanner", name := "keyword", desc := "()LBakeryNight$Word;" } : Jvm.MethodName) prog_12_method_9_code (7 : Nat) (Option.some (Jvm.ClassFile.FieldType.object "BakeryNight$Word")) ∈ GW := gwt2 122 (by decide +kernel) rfl
theorem wd753 : Cond.fieldLink "BakeryNight$Scanner" (47 : Nat) "BakeryNight$Scanner" "WORDS" "[LBakeryNight$Word;" ∈ GW := gwt2 123 (by decide +kernel) rfl
theorem wd755 : Cond.methodLink "BakeryNight$Scanner" (56 : Nat) ({ cls := "java/lang/String", name := "length", desc := "()I" } : Jvm.MethodName) ∈ GW := gwt2 125 (by decide +kernel) rfl
theorem wd756 : Cond.instanceMethod ({ cls := "java/lang/String", name := "length", desc := "()I" } : Jvm.MethodName) ∈ GW := gwt2 126 (by decide +kernel) rfl
theorem wd757 : Cond.selects "java/lang/String" ({ cls := "java/lang/String", name := "length", desc := "()I" } : Jvm.MethodName) ({ cls := "java/lang/String", name := "length", desc := "()I" } : Jvm.MethodName) ∈ GW := gwt2 127 (by decide +kernel) rfl
theorem wd758 : Cond.code ({ cls := "java/lang/String", name := "length", desc := "()I" } : Jvm.MethodName) prog_23_method_54_code (1 : Nat) (Option.some Jvm.ClassFile.FieldType.int) ∈ GW := gwt2 128 (by decide +kernel) rfl
theorem wd759 : Cond.methodLink "java/lang/String" (335 : Nat) ({ cls := "java/lang/String", name := "coder", desc := "()B" } : Jvm.MethodName) ∈ GW := gwt2 129 (by decide +kernel) rfl
theorem wd760 : Cond.instanceMethod ({ cls := "java/lang/String", name := "coder", desc := "()B" } : Jvm.MethodName) ∈ GW := gwt2 130 (by decide +kernel) rfl
theorem wd761 : Cond.selects "java/lang/String" ({ cls := "java/lang/String", name := "coder", desc := "()B" } : Jvm.MethodName) ({ cls := "java/lang/String", name := "coder", desc := "()B" } : Jvm.MethodName) ∈ GW := gwt2 131 (by decide +kernel) rfl
theorem wd762 : Cond.code ({ cls := "java/lang/String", name := "coder", desc := "()B" } : Jvm.MethodName) prog_23_method_152_code (1 : Nat) (Option.some Jvm.ClassFile.FieldType.byte) ∈ GW := gwt2 132 (by decide +kernel) rfl
theorem wd763 : Cond.fieldLink "java/lang/String" (38 : Nat) "java/lang/String" "COMPACT_STRINGS" "Z" ∈ GW := gwt2 133 (by decide +kernel) rfl
theorem wd765 : Cond.methodLink "BakeryNight$Scanner" (61 : Nat) ({ cls := "java/lang/String", name := "charAt", desc := "(I)C" } : Jvm.MethodName) ∈ GW := gwt2 135 (by decide +kernel) rfl
theorem wd766 : Cond.instanceMethod ({ cls := "java/lang/String", name := "charAt", desc := "(I)C" } : Jvm.MethodName) ∈ GW := gwt2 136 (by decide +kernel) rfl
theorem wd767 : Cond.selects "java/lang/String" ({ cls := "java/lang/String", name := "charAt", desc := "(I)C" } : Jvm.MethodName) ({ cls := "java/lang/String", name := "charAt", desc := "(I)C" } : Jvm.MethodName) ∈ GW := gwt2 137 (by decide +kernel) rfl
theorem wd768 : Cond.code ({ cls := "java/lang/String", name := "charAt", desc := "(I)C" } : Jvm.MethodName) prog_23_method_56_code (2 : Nat) (Option.some Jvm.ClassFile.FieldType.char) ∈ GW := gwt2 138 (by decide +kernel) rfl
theorem wd769 : Cond.methodLink "java/lang/String" (492 : Nat) ({ cls := "java/lang/String", name := "isLatin1", desc := "()Z" } : Jvm.MethodName) ∈ GW := gwt2 139 (by decide +kernel) rfl
theorem wd770 : Cond.instanceMethod ({ cls := "java/lang/String", name := "isLatin1", desc := "()Z" } : Jvm.MethodName) ∈ GW := gwt2 140 (by decide +kernel) rfl
theorem wd771 : Cond.selects "java/lang/String" ({ cls := "java/lang/String", name := "isLatin1", desc := "()Z" } : Jvm.MethodName) ({ cls := "java/lang/String", name := "isLatin1", desc := "()Z" } : Jvm.MethodName) ∈ GW := gwt2 141 (by decide +kernel) rfl
theorem wd772 : Cond.code ({ cls := "java/lang/String", name := "isLatin1", desc := "()Z" } : Jvm.MethodName) prog_23_method_154_code (1 : Nat) (Option.some Jvm.ClassFile.FieldType.boolean) ∈ GW := gwt2 142 (by decide +kernel) rfl
theorem wd773 : Cond.methodLink "java/lang/String" (495 : Nat) ({ cls := "java/lang/StringLatin1", name := "charAt", desc := "([BI)C" } : Jvm.MethodName) ∈ GW := gwt2 143 (by decide +kernel) rfl
theorem wd774 : Cond.static ({ cls := "java/lang/StringLatin1", name := "charAt", desc := "([BI)C" } : Jvm.MethodName) ∈ GW := gwt2 144 (by decide +kernel) rfl
theorem wd775 : Cond.code ({ cls := "java/lang/StringLatin1", name := "charAt", desc := "([BI)C" } : Jvm.MethodName) prog_24_method_2_code (2 : Nat) (Option.some Jvm.ClassFile.FieldType.char) ∈ GW := gwt2 145 (by decide +kernel) rfl
theorem wd776 : Cond.methodLink "java/lang/StringLatin1" (9 : Nat) ({ cls := "java/lang/String", name := "checkIndex", desc := "(II)V" } : Jvm.MethodName) ∈ GW := gwt2 146 (by decide +kernel) rfl
theorem wd777 : Cond.static ({ cls := "java/lang/String", name := "checkIndex", desc := "(II)V" } : Jvm.MethodName) ∈ GW := gwt2 147 (by decide +kernel) rfl
theorem wd778 : Cond.code ({ cls := "java/lang/String", name := "checkIndex", desc := "(II)V" } : Jvm.MethodName) prog_23_method_155_code (2 : Nat) (Option.none : Option Jvm.ClassFile.FieldType) ∈ GW := gwt2 148 (by decide +kernel) rfl
theorem wd779 : Cond.fieldLink "java/lang/String" (1053 : Nat) "jdk/internal/util/Preconditions" "SIOOBE_FORMATTER" "Ljava/util/function/BiFunction;" ∈ GW := gwt2 149 (by decide +kernel) rfl
theorem wd781 : Cond.methodLink "java/lang/String" (1059 : Nat) ({ cls := "jdk/internal/util/Preconditions", name := "checkIndex", desc := "(IILjava/util/function/BiFunction;)I" } : Jvm.MethodName) ∈ GW := gwt2 151 (by decide +kernel) rfl
theorem wd782 : Cond.static ({ cls := "jdk/internal/util/Preconditions", name := "checkIndex", desc := "(IILjava/util/function/BiFunction;)I" } : Jvm.MethodName) ∈ GW := gwt2 152 (by decide +kernel) rfl
theorem wd783 : Cond.code ({ cls := "jdk/internal/util/Preconditions", name := "checkIndex", desc := "(IILjava/util/function/BiFunction;)I" } : Jvm.MethodName) prog_29_method_11_code (3 : Nat) (Option.some Jvm.ClassFile.FieldType.int) ∈ GW := gwt2 153 (by decide +kernel) rfl
theorem wd784 : Cond.methodLink "java/lang/String" (498 : Nat) ({ cls := "java/lang/StringUTF16", name := "charAt", desc := "([BI)C" } : Jvm.MethodName) ∈ GW := gwt2 154 (by decide +kernel) rfl
theorem wd785 : Cond.static ({ cls := "java/lang/StringUTF16", name := "charAt", desc := "([BI)C" } : Jvm.MethodName) ∈ GW := gwt2 155 (by decide +kernel) rfl
theorem wd786 : Cond.code ({ cls := "java/lang/StringUTF16", name := "charAt", desc := "([BI)C" } : Jvm.MethodName) prog_25_method_83_code (2 : Nat) (Option.some Jvm.ClassFile.FieldType.char) ∈ GW := gwt2 156 (by decide +kernel) rfl
theorem wd787 : Cond.methodLink "java/lang/StringUTF16" (67 : Nat) ({ cls := "java/lang/StringUTF16", name := "checkIndex", desc := "(I[B)V" } : Jvm.MethodName) ∈ GW := gwt2 157 (by decide +kernel) rfl
theorem wd788 : Cond.static ({ cls := "java/lang/StringUTF16", name := "checkIndex", desc := "(I[B)V" } : Jvm.MethodName) ∈ GW := gwt2 158 (by decide +kernel) rfl
theorem wd789 : Cond.code ({ cls := "java/lang/StringUTF16", name := "checkIndex", desc := "(I[B)V" } : Jvm.MethodName) prog_25_method_91_code (2 : Nat) (Option.none : Option Jvm.ClassFile.FieldType) ∈ GW := gwt2 159 (by decide +kernel) rfl
theorem wd790 : Cond.methodLink "java/lang/StringUTF16" (48 : Nat) ({ cls := "java/lang/StringUTF16", name := "length", desc := "([B)I" } : Jvm.MethodName) ∈ GW := gwt2 160 (by decide +kernel) rfl
theorem wd791 : Cond.static ({ cls := "java/lang/StringUTF16", name := "length", desc := "([B)I" } : Jvm.MethodName) ∈ GW := gwt2 161 (by decide +kernel) rfl
theorem wd792 : Cond.code ({ cls := "java/lang/StringUTF16", name := "length", desc := "([B)I" } : Jvm.MethodName) prog_25_method_6_code (1 : Nat) (Option.some Jvm.ClassFile.FieldType.int) ∈ GW := gwt2 162 (by decide +kernel) rfl
theorem wd793 : Cond.methodLink "java/lang/StringUTF16" (414 : Nat) ({ cls := "java/lang/String", name := "checkIndex", desc := "(II)V" } : Jvm.MethodName) ∈ GW := gwt2 163 (by decide +kernel) rfl
theorem wd794 : Cond.methodLink "java/lang/StringUTF16" (71 : Nat) ({ cls := "java/lang/StringUTF16", name := "getChar", desc := "([BI)C" } : Jvm.MethodName) ∈ GW := gwt2 164 (by decide +kernel) rfl
theorem wd795 : Cond.static ({ cls := "java/lang/StringUTF16", name := "getChar", desc := "([BI)C" } : Jvm.MethodName) ∈ GW := gwt2 165 (by decide +kernel) rfl
theorem wd796 : Cond.code ({ cls := "java/lang/StringUTF16", name := "getChar", desc := "([BI)C" } : Jvm.MethodName) prog_25_method_5_code (2 : Nat) (Option.some Jvm.ClassFile.FieldType.char) ∈ GW := gwt2 166 (by decide +kernel) rfl
theorem wd797 : Cond.fieldLink "java/lang/StringUTF16" (44 : Nat) "java/lang/StringUTF16" "$assertionsDisabled" "Z" ∈ GW := gwt2 167 (by decide +kernel) rfl
theorem wd799 : Cond.fieldLink "java/lang/StringUTF16" (59 : Nat) "java/lang/StringUTF16" "HI_BYTE_SHIFT" "I" ∈ GW := gwt2 169 (by decide +kernel) rfl
theorem wd801 : Cond.fieldLink "java/lang/StringUTF16" (63 : Nat) "java/lang/StringUTF16" "LO_BYTE_SHIFT" "I" ∈ GW := gwt2 171 (by decide +kernel) rfl
theorem wd803 : Cond.methodLink "BakeryNight$Parser" (81 : Nat) ({ cls := "BakeryNight$Parser", name := "fail", desc := "(I)V" } : Jvm.MethodName) ∈ GW := gwt2 173 (by decide +kernel) rfl
theorem wd805 : Cond.instanceMethod ({ cls := "BakeryNight$Parser", name := "fail", desc := "(I)V" } : Jvm.MethodName) ∈ GW := gwt2 175 (by decide +kernel) rfl
theorem wd806 : Cond.code ({ cls := "BakeryNight$Parser", name := "fail", desc := "(I)V" } : Jvm.MethodName) prog_9_method_3_code (2 : Nat) (Option.none : Option Jvm.ClassFile.FieldType) ∈ GW := gwt2 176 (by decide +kernel) rfl
theorem wd807 : Cond.fieldLink "BakeryNight$Parser" (85 : Nat) "BakeryNight$1" "$SwitchMap$BakeryNight$Word" "[I" ∈ GW := gwt2 177 (by decide +kernel) rfl
theorem wd809 : Cond.methodLink "BakeryNight$Parser" (91 : Nat) ({ cls := "BakeryNight$Word", name := "ordinal", desc := "()I" } : Jvm.MethodName) ∈ GW := gwt2 179 (by decide +kernel) rfl
theorem wd812 : Cond.selects "BakeryNight$Word" ({ cls := "BakeryNight$Word", name := "ordinal", desc := "()I" } : Jvm.MethodName) ({ cls := "java/lang/Enum", name := "ordinal", desc := "()I" } : Jvm.MethodName) ∈ GW := gwt2 182 (by decide +kernel) rfl
theorem wd813 : Cond.instanceMethod ({ cls := "java/lang/Enum", name := "ordinal", desc := "()I" } : Jvm.MethodName) ∈ GW := gwt2 183 (by decide +kernel) rfl
theorem wd814 : Cond.code ({ cls := "java/lang/Enum", name := "ordinal", desc := "()I" } : Jvm.MethodName) prog_16_method_2_code (1 : Nat) (Option.some Jvm.ClassFile.FieldType.int) ∈ GW := gwt2 184 (by decide +kernel) rfl
theorem wd815 : Cond.methodLink "BakeryNight$Parser" (97 : Nat) ({ cls := "BakeryNight$Parser", name := "readSetting", desc := "(ZII)I" } : Jvm.MethodName) ∈ GW := gwt2 185 (by decide +kernel) rfl
theorem wd817 : Cond.instanceMethod ({ cls := "BakeryNight$Parser", name := "readSetting", desc := "(ZII)I" } : Jvm.MethodName) ∈ GW := gwt2 187 (by decide +kernel) rfl
theorem wd818 : Cond.code ({ cls := "BakeryNight$Parser", name := "readSetting", desc := "(ZII)I" } : Jvm.MethodName) prog_9_method_7_code (4 : Nat) (Option.some Jvm.ClassFile.FieldType.int) ∈ GW := gwt2 188 (by decide +kernel) rfl
theorem wd819 : Cond.methodLink "BakeryNight$Parser" (138 : Nat) ({ cls := "BakeryNight$Scanner", name := "next", desc := "()V" } : Jvm.MethodName) ∈ GW := gwt2 189 (by decide +kernel) rfl
theorem wd820 : Cond.methodLink "BakeryNight$Parser" (141 : Nat) ({ cls := "BakeryNight$Parser", name := "readNumber", desc := "(II)I" } : Jvm.MethodName) ∈ GW := gwt2 190 (by decide +kernel) rfl
theorem wd822 : Cond.instanceMethod ({ cls := "BakeryNight$Parser", name := "readNumber", desc := "(II)I" } : Jvm.MethodName) ∈ GW := gwt2 192 (by decide +kernel) rfl
theorem wd823 : Cond.code ({ cls := "BakeryNight$Parser", name := "readNumber", desc := "(II)I" } : Jvm.MethodName) prog_9_method_16_code (4 : Nat) (Option.some Jvm.ClassFile.FieldType.int) ∈ GW := gwt2 193 (by decide +kernel) rfl
theorem wd824 : Cond.methodLink "BakeryNight$Parser" (297 : Nat) ({ cls := "BakeryNight$Scanner", name := "isNumber", desc := "()Z" } : Jvm.MethodName) ∈ GW := gwt2 194 (by decide +kernel) rfl
theorem wd825 : Cond.instanceMethod ({ cls := "BakeryNight$Scanner", name := "isNumber", desc := "()Z" } : Jvm.MethodName) ∈ GW := gwt2 195 (by decide +kernel) rfl
theorem wd826 : Cond.selects "BakeryNight$Scanner" ({ cls := "BakeryNight$Scanner", name := "isNumber", desc := "()Z" } : Jvm.MethodName) ({ cls := "BakeryNight$Scanner", name := "isNumber", desc := "()Z" } : Jvm.MethodName) ∈ GW := gwt2 196 (by decide +kernel) rfl
theorem wd827 : Cond.code ({ cls := "BakeryNight$Scanner", name := "isNumber", desc := "()Z" } : Jvm.MethodName) prog_12_method_5_code (1 : Nat) (Option.some Jvm.ClassFile.FieldType.boolean) ∈ GW := gwt2 197 (by decide +kernel) rfl
theorem wd828 : Cond.methodLink "BakeryNight$Parser" (300 : Nat) ({ cls := "BakeryNight$Scanner", name := "value", desc := "()I" } : Jvm.MethodName) ∈ GW := gwt2 198 (by decide +kernel) rfl
theorem wd829 : Cond.instanceMethod ({ cls := "BakeryNight$Scanner", name := "value", desc := "()I" } : Jvm.MethodName) ∈ GW := gwt2 199 (by decide +kernel) rfl
theorem wd830 : Cond.selects "BakeryNight$Scanner" ({ cls := "BakeryNight$Scanner", name := "value", desc := "()I" } : Jvm.MethodName) ({ cls := "BakeryNight$Scanner", name := "value", desc := "()I" } : Jvm.MethodName) ∈ GW := gwt2 200 (by decide +kernel) rfl
theorem wd831 : Cond.code ({ cls := "BakeryNight$Scanner", name := "value", desc := "()I" } : Jvm.MethodName) prog_12_method_6_code (3 : Nat) (Option.some Jvm.ClassFile.FieldType.int) ∈ GW := gwt2 201 (by decide +kernel) rfl
theorem wd832 : Cond.methodLink "BakeryNight$Parser" (134 : Nat) ({ cls := "BakeryNight$Parser", name := "failed", desc := "()Z" } : Jvm.MethodName) ∈ GW := gwt2 202 (by decide +kernel) rfl
theorem wd834 : Cond.instanceMethod ({ cls := "BakeryNight$Parser", name := "failed", desc := "()Z" } : Jvm.MethodName) ∈ GW := gwt2 204 (by decide +kernel) rfl
theorem wd835 : Cond.code ({ cls := "BakeryNight$Parser", name := "failed", desc := "()Z" } : Jvm.MethodName) prog_9_method_4_code (1 : Nat) (Option.some Jvm.ClassFile.FieldType.boolean) ∈ GW := gwt2 205 (by decide +kernel) rfl
theorem wd836 : Cond.methodLink "BakeryNight$Parser" (113 : Nat) ({ cls := "BakeryNight$Parser", name := "readDough", desc := "(LBakeryNight$Bakery;)V" } : Jvm.MethodName) ∈ GW := gwt2 206 (by decide +kernel) rfl
theorem wd838 : Cond.instanceMethod ({ cls := "BakeryNight$Parser", name := "readDough", desc := "(LBakeryNight$Bakery;)V" } : Jvm.MethodName) ∈ GW := gwt2 208 (by decide +kernel) rfl
theorem wd839 : Cond.code ({ cls := "BakeryNight$Parser", name := "readDough", desc := "(LBakeryNight$Bakery;)V" } : Jvm.MethodName) prog_9_method_9_code (4 : Nat) (Option.none : Option Jvm.ClassFile.FieldType) ∈ GW := gwt2 209 (by decide +kernel) rfl
theorem wd840 : Cond.methodLink "BakeryNight$Parser" (148 : Nat) ({ cls := "BakeryNight$Parser", name := "beginOneOf", desc := "(II)V" } : Jvm.MethodName) ∈ GW := gwt2 210 (by decide +kernel) rfl
theorem wd842 : Cond.instanceMethod ({ cls := "BakeryNight$Parser", name := "beginOneOf", desc := "(II)V" } : Jvm.MethodName) ∈ GW := gwt2 212 (by decide +kernel) rfl
theorem wd843 : Cond.code ({ cls := "BakeryNight$Parser", name := "beginOneOf", desc := "(II)V" } : Jvm.MethodName) prog_9_method_8_code (3 : Nat) (Option.none : Option Jvm.ClassFile.FieldType) ∈ GW := gwt2 213 (by decide +kernel) rfl
theorem wd844 : Cond.methodLink "BakeryNight$Parser" (151 : Nat) ({ cls := "BakeryNight$Parser", name := "readNewName", desc := "([JI)V" } : Jvm.MethodName) ∈ GW := gwt2 214 (by decide +kernel) rfl
theorem wd846 : Cond.instanceMethod ({ cls := "BakeryNight$Parser", name := "readNewName", desc := "([JI)V" } : Jvm.MethodName) ∈ GW := gwt2 216 (by decide +kernel) rfl
theorem wd847 : Cond.code ({ cls := "BakeryNight$Parser", name := "readNewName", desc := "([JI)V" } : Jvm.MethodName) prog_9_method_17_code (3 : Nat) (Option.none : Option Jvm.ClassFile.FieldType) ∈ GW := gwt2 217 (by decide +kernel) rfl
theorem wd848 : Cond.methodLink "BakeryNight$Parser" (303 : Nat) ({ cls := "BakeryNight$Scanner", name := "isName", desc := "()Z" } : Jvm.MethodName) ∈ GW := gwt2 218 (by decide +kernel) rfl
theorem wd849 : Cond.instanceMethod ({ cls := "BakeryNight$Scanner", name := "isName", desc := "()Z" } : Jvm.MethodName) ∈ GW := gwt2 219 (by decide +kernel) rfl
theorem wd850 : Cond.selects "BakeryNight$Scanner" ({ cls := "BakeryNight$Scanner", name := "isName", desc := "()Z" } : Jvm.MethodName) ({ cls := "BakeryNight$Scanner", name := "isName", desc := "()Z" } : Jvm.MethodName) ∈ GW := gwt2 220 (by decide +kernel) rfl
theorem wd851 : Cond.code ({ cls := "BakeryNight$Scanner", name := "isName", desc := "()Z" } : Jvm.MethodName) prog_12_method_7_code (1 : Nat) (Option.some Jvm.ClassFile.FieldType.boolean) ∈ GW := gwt2 221 (by decide +kernel) rfl
theorem wd852 : Cond.methodLink "BakeryNight$Scanner" (39 : Nat) ({ cls := "BakeryNight$Scanner", name := "keyword", desc := "()LBakeryNight$Word;" } : Jvm.MethodName) ∈ GW := gwt2 222 (by decide +kernel) rfl
theorem wd853 : Cond.methodLink "BakeryNight$Parser" (306 : Nat) ({ cls := "BakeryNight$Parser", name := "indexOfName", desc := "([JI)I" } : Jvm.MethodName) ∈ GW := gwt2 223 (by decide +kernel) rfl
theorem wd855 : Cond.instanceMethod ({ cls := "BakeryNight$Parser", name := "indexOfName", desc := "([JI)I" } : Jvm.MethodName) ∈ GW := gwt2 225 (by decide +kernel) rfl
theorem wd856 : Cond.code ({ cls := "BakeryNight$Parser", name := "indexOfName", desc := "([JI)I" } : Jvm.MethodName) prog_9_method_19_code (6 : Nat) (Option.some Jvm.ClassFile.FieldType.int) ∈ GW := gwt2 226 (by decide +kernel) rfl
theorem wd857 : Cond.methodLink "BakeryNight$Parser" (309 : Nat) ({ cls := "BakeryNight$Scanner", name := "letters", desc := "()J" } : Jvm.MethodName) ∈ GW := gwt2 227 (by decide +kernel) rfl
theorem wd858 : Cond.instanceMethod ({ cls := "BakeryNight$Scanner", name := "letters", desc := "()J" } : Jvm.MethodName) ∈ GW := gwt2 228 (by decide +kernel) rfl
theorem wd859 : Cond.selects "BakeryNight$Scanner" ({ cls := "BakeryNight$Scanner", name := "letters", desc := "()J" } : Jvm.MethodName) ({ cls := "BakeryNight$Scanner", name := "letters", desc := "()J" } : Jvm.MethodName) ∈ GW := gwt2 229 (by decide +kernel) rfl
theorem wd860 : Cond.code ({ cls := "BakeryNight$Scanner", name := "letters", desc := "()J" } : Jvm.MethodName) prog_12_method_8_code (4 : Nat) (Option.some Jvm.ClassFile.FieldType.long) ∈ GW := gwt2 230 (by decide +kernel) rfl
theorem wd861 : Cond.constantLong "BakeryNight$Scanner" (43 : Nat) (32 : Int64) ∈ GW := gwt2 231 (by decide +kernel) rfl
theorem wd862 : Cond.constantLong "BakeryNight$Scanner" (45 : Nat) (97 : Int64) ∈ GW := gwt2 232 (by decide +kernel) rfl
theorem wd863 : Cond.fieldLink "BakeryNight$Parser" (159 : Nat) "BakeryNight$Word" "MIX" "LBakeryNight$Word;" ∈ GW := gwt2 233 (by decide +kernel) rfl
theorem wd865 : Cond.methodLink "BakeryNight$Parser" (163 : Nat) ({ cls := "BakeryNight$Parser", name := "readField", desc := "(LBakeryNight$Word;II)I" } : Jvm.MethodName) ∈ GW := gwt2 235 (by decide +kernel) rfl
theorem wd867 : Cond.instanceMethod ({ cls := "BakeryNight$Parser", name := "readField", desc := "(LBakeryNight$Word;II)I" } : Jvm.MethodName) ∈ GW := gwt2 237 (by decide +kernel) rfl
theorem wd868 : Cond.code ({ cls := "BakeryNight$Parser", name := "readField", desc := "(LBakeryNight$Word;II)I" } : Jvm.MethodName) prog_9_method_15_code (4 : Nat) (Option.some Jvm.ClassFile.FieldType.int) ∈ GW := gwt2 238 (by decide +kernel) rfl
theorem wd869 : Cond.fieldLink "BakeryNight$Parser" (172 : Nat) "BakeryNight$Word" "RISE" "LBakeryNight$Word;" ∈ GW := gwt2 239 (by decide +kernel) rfl
theorem wd871 : Cond.fieldLink "BakeryNight$Parser" (178 : Nat) "BakeryNight$Word" "SHAPE" "LBakeryNight$Word;" ∈ GW := gwt3 1 (by decide +kernel) rfl
theorem wd873 : Cond.fieldLink "BakeryNight$Parser" (184 : Nat) "BakeryNight$Word" "PROOF" "LBakeryNight$Word;" ∈ GW := gwt3 3 (by decide +kernel) rfl
theorem wd875 : Cond.fieldLink "BakeryNight$Parser" (190 : Nat) "BakeryNight$Word" "LIMIT" "LBakeryNight$Word;" ∈ GW := gwt3 5 (by decide +kernel) rfl
theorem wd877 : Cond.fieldLink "BakeryNight$Parser" (196 : Nat) "BakeryNight$Word" "BAKE" "LBakeryNight$Word;" ∈ GW := gwt3 7 (by decide +kernel) rfl
theorem wd879 : Cond.fieldLink "BakeryNight$Parser" (202 : Nat) "BakeryNight$Word" "HEAT" "LBakeryNight$Word;" ∈ GW := gwt3 9 (by decide +kernel) rfl
theorem wd881 : Cond.fieldLink "BakeryNight$Parser" (208 : Nat) "BakeryNight$Word" "YIELD" "LBakeryNight$Word;" ∈ GW := gwt3 11 (by decide +kernel) rfl
theorem wd883 : Cond.fieldLink "BakeryNight$Parser" (214 : Nat) "BakeryNight$Word" "KEEP" "LBakeryNight$Word;" ∈ GW := gwt3 13 (by decide +kernel) rfl
theorem wd885 : Cond.fieldLink "BakeryNight$Parser" (220 : Nat) "BakeryNight$Word" "PRICE" "LBakeryNight$Word;" ∈ GW := gwt3 15 (by decide +kernel) rfl
theorem wd887 : Cond.methodLink "BakeryNight$Parser" (116 : Nat) ({ cls := "BakeryNight$Parser", name := "readOven", desc := "(LBakeryNight$Bakery;)V" } : Jvm.MethodName) ∈ GW := gwt3 17 (by decide +kernel) rfl
theorem wd889 : Cond.instanceMethod ({ cls := "BakeryNight$Parser", name := "readOven", desc := "(LBakeryNight$Bakery;)V" } : Jvm.MethodName) ∈ GW := gwt3 19 (by decide +kernel) rfl
theorem wd890 : Cond.code ({ cls := "BakeryNight$Parser", name := "readOven", desc := "(LBakeryNight$Bakery;)V" } : Jvm.MethodName) prog_9_method_10_code (4 : Nat) (Option.none : Option Jvm.ClassFile.FieldType) ∈ GW := gwt3 20 (by decide +kernel) rfl
theorem wd891 : Cond.fieldLink "BakeryNight$Parser" (233 : Nat) "BakeryNight$Word" "SHELVES" "LBakeryNight$Word;" ∈ GW := gwt3 21 (by decide +kernel) rfl
theorem wd893 : Cond.fieldLink "BakeryNight$Parser" (242 : Nat) "BakeryNight$Word" "RATE" "LBakeryNight$Word;" ∈ GW := gwt3 23 (by decide +kernel) rfl
theorem wd895 : Cond.methodLink "BakeryNight$Parser" (119 : Nat) ({ cls := "BakeryNight$Parser", name := "readShop", desc := "(LBakeryNight$Bakery;)V" } : Jvm.MethodName) ∈ GW := gwt3 25 (by decide +kernel) rfl
theorem wd897 : Cond.instanceMethod ({ cls := "BakeryNight$Parser", name := "readShop", desc := "(LBakeryNight$Bakery;)V" } : Jvm.MethodName) ∈ GW := gwt3 27 (by decide +kernel) rfl
theorem wd898 : Cond.code ({ cls := "BakeryNight$Parser", name := "readShop", desc := "(LBakeryNight$Bakery;)V" } : Jvm.MethodName) prog_9_method_11_code (2 : Nat) (Option.none : Option Jvm.ClassFile.FieldType) ∈ GW := gwt3 28 (by decide +kernel) rfl
theorem wd899 : Cond.methodLink "BakeryNight$Parser" (122 : Nat) ({ cls := "BakeryNight$Parser", name := "readStreet", desc := "(LBakeryNight$Bakery;)V" } : Jvm.MethodName) ∈ GW := gwt3 29 (by decide +kernel) rfl
theorem wd901 : Cond.instanceMethod ({ cls := "BakeryNight$Parser", name := "readStreet", desc := "(LBakeryNight$Bakery;)V" } : Jvm.MethodName) ∈ GW := gwt3 31 (by decide +kernel) rfl
theorem wd902 : Cond.code ({ cls := "BakeryNight$Parser", name := "readStreet", desc := "(LBakeryNight$Bakery;)V" } : Jvm.MethodName) prog_9_method_12_code (7 : Nat) (Option.none : Option Jvm.ClassFile.FieldType) ∈ GW := gwt3 32 (by decide +kernel) rfl
theorem wd903 : Cond.methodLink "BakeryNight$Parser" (254 : Nat) ({ cls := "BakeryNight$Parser", name := "readPlace", desc := "(LBakeryNight$Bakery;I)I" } : Jvm.MethodName) ∈ GW := gwt3 33 (by decide +kernel) rfl
theorem wd905 : Cond.instanceMethod ({ cls := "BakeryNight$Parser", name := "readPlace", desc := "(LBakeryNight$Bakery;I)I" } : Jvm.MethodName) ∈ GW := gwt3 35 (by decide +kernel) rfl
theorem wd906 : Cond.code ({ cls := "BakeryNight$Parser", name := "readPlace", desc := "(LBakeryNight$Bakery;I)I" } : Jvm.MethodName) prog_9_method_20_code (4 : Nat) (Option.some Jvm.ClassFile.FieldType.int) ∈ GW := gwt3 36 (by decide +kernel) rfl
theorem wd907 : Cond.fieldLink "BakeryNight$Parser" (313 : Nat) "BakeryNight$Word" "HOME" "LBakeryNight$Word;" ∈ GW := gwt3 37 (by decide +kernel) rfl
theorem wd909 : Cond.methodLink "BakeryNight$Parser" (125 : Nat) ({ cls := "BakeryNight$Parser", name := "readVan", desc := "(LBakeryNight$Bakery;)V" } : Jvm.MethodName) ∈ GW := gwt3 39 (by decide +kernel) rfl
theorem wd911 : Cond.instanceMethod ({ cls := "BakeryNight$Parser", name := "readVan", desc := "(LBakeryNight$Bakery;)V" } : Jvm.MethodName) ∈ GW := gwt3 41 (by decide +kernel) rfl
theorem wd912 : Cond.code ({ cls := "BakeryNight$Parser", name := "readVan", desc := "(LBakeryNight$Bakery;)V" } : Jvm.MethodName) prog_9_method_13_code (3 : Nat) (Option.none : Option Jvm.ClassFile.FieldType) ∈ GW := gwt3 42 (by decide +kernel) rfl
theorem wd913 : Cond.methodLink "BakeryNight$Parser" (128 : Nat) ({ cls := "BakeryNight$Parser", name := "readOrder", desc := "(LBakeryNight$Bakery;)V" } : Jvm.MethodName) ∈ GW := gwt3 43 (by decide +kernel) rfl
theorem wd915 : Cond.instanceMethod ({ cls := "BakeryNight$Parser", name := "readOrder", desc := "(LBakeryNight$Bakery;)V" } : Jvm.MethodName) ∈ GW := gwt3 45 (by decide +kernel) rfl
theorem wd916 : Cond.code ({ cls := "BakeryNight$Parser", name := "readOrder", desc := "(LBakeryNight$Bakery;)V" } : Jvm.MethodName) prog_9_method_14_code (6 : Nat) (Option.none : Option Jvm.ClassFile.FieldType) ∈ GW := gwt3 46 (by decide +kernel) rfl
theorem wd917 : Cond.methodLink "BakeryNight$Parser" (280 : Nat) ({ cls := "BakeryNight$Parser", name := "readKnownName", desc := "([JI)I" } : Jvm.MethodName) ∈ GW := gwt3 47 (by decide +kernel) rfl
theorem wd919 : Cond.instanceMethod ({ cls := "BakeryNight$Parser", name := "readKnownName", desc := "([JI)I" } : Jvm.MethodName) ∈ GW := gwt3 49 (by decide +kernel) rfl
theorem wd920 : Cond.code ({ cls := "BakeryNight$Parser", name := "readKnownName", desc := "([JI)I" } : Jvm.MethodName) prog_9_method_18_code (4 : Nat) (Option.some Jvm.ClassFile.FieldType.int) ∈ GW := gwt3 50 (by decide +kernel) rfl
theorem wd921 : Cond.fieldLink "BakeryNight$Parser" (284 : Nat) "BakeryNight$Word" "BY" "LBakeryNight$Word;" ∈ GW := gwt3 51 (by decide +kernel) rfl
theorem wd923 : Cond.methodLink "BakeryNight$Parser" (291 : Nat) ({ cls := "BakeryNight$Order", name := "set", desc := "(IIII)V" } : Jvm.MethodName) ∈ GW := gwt3 53 (by decide +kernel) rfl
theorem wd924 : Cond.instanceMethod ({ cls := "BakeryNight$Order", name := "set", desc := "(IIII)V" } : Jvm.MethodName) ∈ GW := gwt3 54 (by decide +kernel) rfl
theorem wd925 : Cond.selects "BakeryNight$Order" ({ cls := "BakeryNight$Order", name := "set", desc := "(IIII)V" } : Jvm.MethodName) ({ cls := "BakeryNight$Order", name := "set", desc := "(IIII)V" } : Jvm.MethodName) ∈ GW := gwt3 55 (by decide +kernel) rfl
theorem wd926 : Cond.code ({ cls := "BakeryNight$Order", name := "set", desc := "(IIII)V" } : Jvm.MethodName) prog_7_method_2_code (5 : Nat) (Option.none : Option Jvm.ClassFile.FieldType) ∈ GW := gwt3 56 (by decide +kernel) rfl
theorem wd927 : Cond.methodLink "BakeryNight$Parser" (131 : Nat) ({ cls := "BakeryNight$Parser", name := "readSemicolon", desc := "()V" } : Jvm.MethodName) ∈ GW := gwt3 57 (by decide +kernel) rfl
theorem wd929 : Cond.instanceMethod ({ cls := "BakeryNight$Parser", name := "readSemicolon", desc := "()V" } : Jvm.MethodName) ∈ GW := gwt3 59 (by decide +kernel) rfl
theorem wd930 : Cond.code ({ cls := "BakeryNight$Parser", name := "readSemicolon", desc := "()V" } : Jvm.MethodName) prog_9_method_6_code (1 : Nat) (Option.none : Option Jvm.ClassFile.FieldType) ∈ GW := gwt3 60 (by decide +kernel) rfl
theorem wd931 : Cond.methodLink "BakeryNight$Parser" (68 : Nat) ({ cls := "BakeryNight$Roads", name := "explore", desc := "(II)V" } : Jvm.MethodName) ∈ GW := gwt3 61 (by decide +kernel) rfl
theorem wd932 : Cond.methodLink "BakeryNight" (69 : Nat) ({ cls := "BakeryNight$History", name := "forget", desc := "()V" } : Jvm.MethodName) ∈ GW := gwt3 62 (by decide +kernel) rfl
theorem wd933 : Cond.instanceMethod ({ cls := "BakeryNight$History", name := "forget", desc := "()V" } : Jvm.MethodName) ∈ GW := gwt3 63 (by decide +kernel) rfl
theorem wd934 : Cond.selects "BakeryNight$History" ({ cls := "BakeryNight$History", name := "forget", desc := "()V" } : Jvm.MethodName) ({ cls := "BakeryNight$History", name := "forget", desc := "()V" } : Jvm.MethodName) ∈ GW := gwt3 64 (by decide +kernel) rfl
theorem wd935 : Cond.code ({ cls := "BakeryNight$History", name := "forget", desc := "()V" } : Jvm.MethodName) prog_5_method_2_code (1 : Nat) (Option.none : Option Jvm.ClassFile.FieldType) ∈ GW := gwt3 65 (by decide +kernel) rfl
theorem wd936 : Cond.methodLink "BakeryNight" (72 : Nat) ({ cls := "BakeryNight", name := "dropNight", desc := "()V" } : Jvm.MethodName) ∈ GW := gwt3 66 (by decide +kernel) rfl
theorem wd938 : Cond.instanceMethod ({ cls := "BakeryNight", name := "dropNight", desc := "()V" } : Jvm.MethodName) ∈ GW := gwt3 68 (by decide +kernel) rfl
theorem wd939 : Cond.code ({ cls := "BakeryNight", name := "dropNight", desc := "()V" } : Jvm.MethodName) prog_1_method_17_code (1 : Nat) (Option.none : Option Jvm.ClassFile.FieldType) ∈ GW := gwt3 69 (by decide +kernel) rfl
theorem wd940 : Cond.methodLink "BakeryNightLaw" (43 : Nat) ({ cls := "BakeryNight", name := "errorCode", desc := "()I" } : Jvm.MethodName) ∈ GW := gwt3 70 (by decide +kernel) rfl
theorem wd941 : Cond.instanceMethod ({ cls := "BakeryNight", name := "errorCode", desc := "()I" } : Jvm.MethodName) ∈ GW := gwt3 71 (by decide +kernel) rfl
theorem wd942 : Cond.selects "BakeryNight" ({ cls := "BakeryNight", name := "errorCode", desc := "()I" } : Jvm.MethodName) ({ cls := "BakeryNight", name := "errorCode", desc := "()I" } : Jvm.MethodName) ∈ GW := gwt3 72 (by decide +kernel) rfl
theorem wd943 : Cond.code ({ cls := "BakeryNight", name := "errorCode", desc := "()I" } : Jvm.MethodName) prog_1_method_6_code (1 : Nat) (Option.some Jvm.ClassFile.FieldType.int) ∈ GW := gwt3 73 (by decide +kernel) rfl
theorem wd944 : Cond.methodLink "BakeryNightLaw" (47 : Nat) ({ cls := "BakeryNight", name := "errorOffset", desc := "()I" } : Jvm.MethodName) ∈ GW := gwt3 74 (by decide +kernel) rfl
theorem wd945 : Cond.instanceMethod ({ cls := "BakeryNight", name := "errorOffset", desc := "()I" } : Jvm.MethodName) ∈ GW := gwt3 75 (by decide +kernel) rfl
theorem wd946 : Cond.selects "BakeryNight" ({ cls := "BakeryNight", name := "errorOffset", desc := "()I" } : Jvm.MethodName) ({ cls := "BakeryNight", name := "errorOffset", desc := "()I" } : Jvm.MethodName) ∈ GW := gwt3 76 (by decide +kernel) rfl
theorem wd947 : Cond.code ({ cls := "BakeryNight", name := "errorOffset", desc := "()I" } : Jvm.MethodName) prog_1_method_7_code (1 : Nat) (Option.some Jvm.ClassFile.FieldType.int) ∈ GW := gwt3 77 (by decide +kernel) rfl
theorem wd948 : Cond.methodLink "BakeryNightLaw" (51 : Nat) ({ cls := "BakeryNight", name := "orderCount", desc := "()I" } : Jvm.MethodName) ∈ GW := gwt3 78 (by decide +kernel) rfl
theorem wd949 : Cond.instanceMethod ({ cls := "BakeryNight", name := "orderCount", desc := "()I" } : Jvm.MethodName) ∈ GW := gwt3 79 (by decide +kernel) rfl
theorem wd950 : Cond.selects "BakeryNight" ({ cls := "BakeryNight", name := "orderCount", desc := "()I" } : Jvm.MethodName) ({ cls := "BakeryNight", name := "orderCount", desc := "()I" } : Jvm.MethodName) ∈ GW := gwt3 80 (by decide +kernel) rfl
theorem wd951 : Cond.code ({ cls := "BakeryNight", name := "orderCount", desc := "()I" } : Jvm.MethodName) prog_1_method_8_code (1 : Nat) (Option.some Jvm.ClassFile.FieldType.int) ∈ GW := gwt3 81 (by decide +kernel) rfl
theorem wd952 : Cond.methodLink "BakeryNightLaw" (55 : Nat) ({ cls := "BakeryNight", name := "orderedLoaves", desc := "(I)I" } : Jvm.MethodName) ∈ GW := gwt3 82 (by decide +kernel) rfl
theorem wd953 : Cond.instanceMethod ({ cls := "BakeryNight", name := "orderedLoaves", desc := "(I)I" } : Jvm.MethodName) ∈ GW := gwt3 83 (by decide +kernel) rfl
theorem wd954 : Cond.selects "BakeryNight" ({ cls := "BakeryNight", name := "orderedLoaves", desc := "(I)I" } : Jvm.MethodName) ({ cls := "BakeryNight", name := "orderedLoaves", desc := "(I)I" } : Jvm.MethodName) ∈ GW := gwt3 84 (by decide +kernel) rfl
theorem wd955 : Cond.code ({ cls := "BakeryNight", name := "orderedLoaves", desc := "(I)I" } : Jvm.MethodName) prog_1_method_9_code (2 : Nat) (Option.some Jvm.ClassFile.FieldType.int) ∈ GW := gwt3 85 (by decide +kernel) rfl
theorem wd956 : Cond.methodLink "BakeryNight" (84 : Nat) ({ cls := "BakeryNight$Bakery", name := "hasDough", desc := "(I)Z" } : Jvm.MethodName) ∈ GW := gwt3 86 (by decide +kernel) rfl
theorem wd957 : Cond.instanceMethod ({ cls := "BakeryNight$Bakery", name := "hasDough", desc := "(I)Z" } : Jvm.MethodName) ∈ GW := gwt3 87 (by decide +kernel) rfl
theorem wd958 : Cond.selects "BakeryNight$Bakery" ({ cls := "BakeryNight$Bakery", name := "hasDough", desc := "(I)Z" } : Jvm.MethodName) ({ cls := "BakeryNight$Bakery", name := "hasDough", desc := "(I)Z" } : Jvm.MethodName) ∈ GW := gwt3 88 (by decide +kernel) rfl
theorem wd959 : Cond.code ({ cls := "BakeryNight$Bakery", name := "hasDough", desc := "(I)Z" } : Jvm.MethodName) prog_3_method_3_code (2 : Nat) (Option.some Jvm.ClassFile.FieldType.boolean) ∈ GW := gwt3 89 (by decide +kernel) rfl
theorem wd960 : Cond.methodLink "BakeryNight" (88 : Nat) ({ cls := "BakeryNight$Bakery", name := "loavesOf", desc := "(I)I" } : Jvm.MethodName) ∈ GW := gwt3 90 (by decide +kernel) rfl
theorem wd961 : Cond.instanceMethod ({ cls := "BakeryNight$Bakery", name := "loavesOf", desc := "(I)I" } : Jvm.MethodName) ∈ GW := gwt3 91 (by decide +kernel) rfl
theorem wd962 : Cond.selects "BakeryNight$Bakery" ({ cls := "BakeryNight$Bakery", name := "loavesOf", desc := "(I)I" } : Jvm.MethodName) ({ cls := "BakeryNight$Bakery", name := "loavesOf", desc := "(I)I" } : Jvm.MethodName) ∈ GW := gwt3 92 (by decide +kernel) rfl
theorem wd963 : Cond.code ({ cls := "BakeryNight$Bakery", name := "loavesOf", desc := "(I)I" } : Jvm.MethodName) prog_3_method_10_code (4 : Nat) (Option.some Jvm.ClassFile.FieldType.int) ∈ GW := gwt3 93 (by decide +kernel) rfl
theorem wd964 : Cond.methodLink "BakeryNight$Bakery" (89 : Nat) ({ cls := "BakeryNight$Bakery", name := "hasOrder", desc := "(I)Z" } : Jvm.MethodName) ∈ GW := gwt3 94 (by decide +kernel) rfl
theorem wd965 : Cond.instanceMethod ({ cls := "BakeryNight$Bakery", name := "hasOrder", desc := "(I)Z" } : Jvm.MethodName) ∈ GW := gwt3 95 (by decide +kernel) rfl
theorem wd966 : Cond.selects "BakeryNight$Bakery" ({ cls := "BakeryNight$Bakery", name := "hasOrder", desc := "(I)Z" } : Jvm.MethodName) ({ cls := "BakeryNight$Bakery", name := "hasOrder", desc := "(I)Z" } : Jvm.MethodName) ∈ GW := gwt3 96 (by decide +kernel) rfl
theorem wd967 : Cond.code ({ cls := "BakeryNight$Bakery", name := "hasOrder", desc := "(I)Z" } : Jvm.MethodName) prog_3_method_7_code (2 : Nat) (Option.some Jvm.ClassFile.FieldType.boolean) ∈ GW := gwt3 97 (by decide +kernel) rfl
theorem wd968 : Cond.methodLink "BakeryNightLaw" (59 : Nat) ({ cls := "BakeryNight", name := "batchCount", desc := "()I" } : Jvm.MethodName) ∈ GW := gwt3 98 (by decide +kernel) rfl
theorem wd969 : Cond.instanceMethod ({ cls := "BakeryNight", name := "batchCount", desc := "()I" } : Jvm.MethodName) ∈ GW := gwt3 99 (by decide +kernel) rfl
theorem wd970 : Cond.selects "BakeryNight" ({ cls := "BakeryNight", name := "batchCount", desc := "()I" } : Jvm.MethodName) ({ cls := "BakeryNight", name := "batchCount", desc := "()I" } : Jvm.MethodName) ∈ GW := gwt3 100 (by decide +kernel) rfl
theorem wd971 : Cond.code ({ cls := "BakeryNight", name := "batchCount", desc := "()I" } : Jvm.MethodName) prog_1_method_10_code (2 : Nat) (Option.some Jvm.ClassFile.FieldType.int) ∈ GW := gwt3 101 (by decide +kernel) rfl
theorem wd972 : Cond.methodLink "BakeryNight" (92 : Nat) ({ cls := "BakeryNight$Bakery", name := "batchesNeeded", desc := "()I" } : Jvm.MethodName) ∈ GW := gwt3 102 (by decide +kernel) rfl
theorem wd973 : Cond.instanceMethod ({ cls := "BakeryNight$Bakery", name := "batchesNeeded", desc := "()I" } : Jvm.MethodName) ∈ GW := gwt3 103 (by decide +kernel) rfl
theorem wd974 : Cond.selects "BakeryNight$Bakery" ({ cls := "BakeryNight$Bakery", name := "batchesNeeded", desc := "()I" } : Jvm.MethodName) ({ cls := "BakeryNight$Bakery", name := "batchesNeeded", desc := "()I" } : Jvm.MethodName) ∈ GW := gwt3 104 (by decide +kernel) rfl
theorem wd975 : Cond.code ({ cls := "BakeryNight$Bakery", name := "batchesNeeded", desc := "()I" } : Jvm.MethodName) prog_3_method_12_code (3 : Nat) (Option.some Jvm.ClassFile.FieldType.int) ∈ GW := gwt3 105 (by decide +kernel) rfl
theorem wd976 : Cond.methodLink "BakeryNight$Bakery" (104 : Nat) ({ cls := "BakeryNight$Bakery", name := "batchesOf", desc := "(I)I" } : Jvm.MethodName) ∈ GW := gwt3 106 (by decide +kernel) rfl
theorem wd977 : Cond.instanceMethod ({ cls := "BakeryNight$Bakery", name := "batchesOf", desc := "(I)I" } : Jvm.MethodName) ∈ GW := gwt3 107 (by decide +kernel) rfl
theorem wd978 : Cond.selects "BakeryNight$Bakery" ({ cls := "BakeryNight$Bakery", name := "batchesOf", desc := "(I)I" } : Jvm.MethodName) ({ cls := "BakeryNight$Bakery", name := "batchesOf", desc := "(I)I" } : Jvm.MethodName) ∈ GW := gwt3 108 (by decide +kernel) rfl
theorem wd979 : Cond.code ({ cls := "BakeryNight$Bakery", name := "batchesOf", desc := "(I)I" } : Jvm.MethodName) prog_3_method_11_code (2 : Nat) (Option.some Jvm.ClassFile.FieldType.int) ∈ GW := gwt3 109 (by decide +kernel) rfl
theorem wd980 : Cond.methodLink "BakeryNight$Bakery" (99 : Nat) ({ cls := "BakeryNight$Bakery", name := "loavesOf", desc := "(I)I" } : Jvm.MethodName) ∈ GW := gwt3 110 (by decide +kernel) rfl
theorem wd982 : Cond.static ({ cls := "BakeryNight", name := "dividedUp", desc := "(II)I" } : Jvm.MethodName) ∈ GW := gwt3 112 (by decide +kernel) rfl
theorem wd983 : Cond.code ({ cls := "BakeryNight", name := "dividedUp", desc := "(II)I" } : Jvm.MethodName) prog_1_method_49_code (2 : Nat) (Option.some Jvm.ClassFile.FieldType.int) ∈ GW := gwt3 113 (by decide +kernel) rfl
theorem wd984 : Cond.methodLink "BakeryNightLaw" (63 : Nat) ({ cls := "BakeryNight", name := "risingMinutes", desc := "(IZ)I" } : Jvm.MethodName) ∈ GW := gwt3 114 (by decide +kernel) rfl
theorem wd985 : Cond.instanceMethod ({ cls := "BakeryNight", name := "risingMinutes", desc := "(IZ)I" } : Jvm.MethodName) ∈ GW := gwt3 115 (by decide +kernel) rfl
theorem wd986 : Cond.selects "BakeryNight" ({ cls := "BakeryNight", name := "risingMinutes", desc := "(IZ)I" } : Jvm.MethodName) ({ cls := "BakeryNight", name := "risingMinutes", desc := "(IZ)I" } : Jvm.MethodName) ∈ GW := gwt3 116 (by decide +kernel) rfl
theorem wd987 : Cond.code ({ cls := "BakeryNight", name := "risingMinutes", desc := "(IZ)I" } : Jvm.MethodName) prog_1_method_11_code (3 : Nat) (Option.some Jvm.ClassFile.FieldType.int) ∈ GW := gwt3 117 (by decide +kernel) rfl
theorem wd988 : Cond.methodLink "BakeryNight" (108 : Nat) ({ cls := "BakeryNight$Bakery", name := "inThisRoom", desc := "(I)I" } : Jvm.MethodName) ∈ GW := gwt3 118 (by decide +kernel) rfl
theorem wd989 : Cond.instanceMethod ({ cls := "BakeryNight$Bakery", name := "inThisRoom", desc := "(I)I" } : Jvm.MethodName) ∈ GW := gwt3 119 (by decide +kernel) rfl
theorem wd990 : Cond.selects "BakeryNight$Bakery" ({ cls := "BakeryNight$Bakery", name := "inThisRoom", desc := "(I)I" } : Jvm.MethodName) ({ cls := "BakeryNight$Bakery", name := "inThisRoom", desc := "(I)I" } : Jvm.MethodName) ∈ GW := gwt3 120 (by decide +kernel) rfl
theorem wd991 : Cond.code ({ cls := "BakeryNight$Bakery", name := "inThisRoom", desc := "(I)I" } : Jvm.MethodName) prog_3_method_9_code (2 : Nat) (Option.some Jvm.ClassFile.FieldType.int) ∈ GW := gwt3 121 (by decide +kernel) rfl
theorem wd992 : Cond.methodLink "BakeryNightLaw" (68 : Nat) ({ cls := "BakeryNight", name := "distance", desc := "(II)I" } : Jvm.MethodName) ∈ GW := gwt3 122 (by decide +kernel) rfl
theorem wd993 : Cond.instanceMethod ({ cls := "BakeryNight", name := "distance", desc := "(II)I" } : Jvm.MethodName) ∈ GW := gwt3 123 (by decide +kernel) rfl
theorem wd994 : Cond.selects "BakeryNight" ({ cls := "BakeryNight", name := "distance", desc := "(II)I" } : Jvm.MethodName) ({ cls := "BakeryNight", name := "distance", desc := "(II)I" } : Jvm.MethodName) ∈ GW := gwt3 124 (by decide +kernel) rfl
theorem wd995 : Cond.code ({ cls := "BakeryNight", name := "distance", desc := "(II)I" } : Jvm.MethodName) prog_1_method_12_code (6 : Nat) (Option.some Jvm.ClassFile.FieldType.int) ∈ GW := gwt3 125 (by decide +kernel) rfl
theorem wd996 : Cond.methodLink "BakeryNight" (111 : Nat) ({ cls := "BakeryNight", name := "placeOf", desc := "(I)I" } : Jvm.MethodName) ∈ GW := gwt3 126 (by decide +kernel) rfl
theorem wd998 : Cond.instanceMethod ({ cls := "BakeryNight", name := "placeOf", desc := "(I)I" } : Jvm.MethodName) ∈ GW := gwt3 128 (by decide +kernel) rfl
theorem wd999 : Cond.code ({ cls := "BakeryNight", name := "placeOf", desc := "(I)I" } : Jvm.MethodName) prog_1_method_13_code (2 : Nat) (Option.some Jvm.ClassFile.FieldType.int) ∈ GW := gwt3 129 (by decide +kernel) rfl
theorem wd1000 : Cond.methodLink "BakeryNight" (125 : Nat) ({ cls := "BakeryNight$Bakery", name := "hasShop", desc := "(I)Z" } : Jvm.MethodName) ∈ GW := gwt3 130 (by decide +kernel) rfl
theorem wd1001 : Cond.instanceMethod ({ cls := "BakeryNight$Bakery", name := "hasShop", desc := "(I)Z" } : Jvm.MethodName) ∈ GW := gwt3 131 (by decide +kernel) rfl
theorem wd1002 : Cond.selects "BakeryNight$Bakery" ({ cls := "BakeryNight$Bakery", name := "hasShop", desc := "(I)Z" } : Jvm.MethodName) ({ cls := "BakeryNight$Bakery", name := "hasShop", desc := "(I)Z" } : Jvm.MethodName) ∈ GW := gwt3 132 (by decide +kernel) rfl
theorem wd1003 : Cond.code ({ cls := "BakeryNight$Bakery", name := "hasShop", desc := "(I)Z" } : Jvm.MethodName) prog_3_method_5_code (2 : Nat) (Option.some Jvm.ClassFile.FieldType.boolean) ∈ GW := gwt3 133 (by decide +kernel) rfl
theorem wd1004 : Cond.methodLink "BakeryNight" (118 : Nat) ({ cls := "BakeryNight$Roads", name := "between", desc := "(II)I" } : Jvm.MethodName) ∈ GW := gwt3 134 (by decide +kernel) rfl
theorem wd1005 : Cond.instanceMethod ({ cls := "BakeryNight$Roads", name := "between", desc := "(II)I" } : Jvm.MethodName) ∈ GW := gwt3 135 (by decide +kernel) rfl
theorem wd1006 : Cond.selects "BakeryNight$Roads" ({ cls := "BakeryNight$Roads", name := "between", desc := "(II)I" } : Jvm.MethodName) ({ cls := "BakeryNight$Roads", name := "between", desc := "(II)I" } : Jvm.MethodName) ∈ GW := gwt3 136 (by decide +kernel) rfl
theorem wd1007 : Cond.code ({ cls := "BakeryNight$Roads", name := "between", desc := "(II)I" } : Jvm.MethodName) prog_11_method_2_code (3 : Nat) (Option.some Jvm.ClassFile.FieldType.int) ∈ GW := gwt3 137 (by decide +kernel) rfl
theorem wd1008 : Cond.constant "BakeryNight" (124 : Nat) (1000000 : Int32) ∈ GW := gwt3 138 (by decide +kernel) rfl
theorem wd1009 : Cond.methodLink "BakeryNightLaw" (72 : Nat) ({ cls := "BakeryNight", name := "routeMinutes", desc := "(I)I" } : Jvm.MethodName) ∈ GW := gwt3 139 (by decide +kernel) rfl
theorem wd1010 : Cond.instanceMethod ({ cls := "BakeryNight", name := "routeMinutes", desc := "(I)I" } : Jvm.MethodName) ∈ GW := gwt3 140 (by decide +kernel) rfl
theorem wd1011 : Cond.selects "BakeryNight" ({ cls := "BakeryNight", name := "routeMinutes", desc := "(I)I" } : Jvm.MethodName) ({ cls := "BakeryNight", name := "routeMinutes", desc := "(I)I" } : Jvm.MethodName) ∈ GW := gwt3 141 (by decide +kernel) rfl
theorem wd1012 : Cond.code ({ cls := "BakeryNight", name := "routeMinutes", desc := "(I)I" } : Jvm.MethodName) prog_1_method_14_code (3 : Nat) (Option.some Jvm.ClassFile.FieldType.int) ∈ GW := gwt3 142 (by decide +kernel) rfl
theorem wd1013 : Cond.methodLink "BakeryNight" (128 : Nat) ({ cls := "BakeryNight$Bakery", name := "allShops", desc := "()I" } : Jvm.MethodName) ∈ GW := gwt3 143 (by decide +kernel) rfl
theorem wd1014 : Cond.instanceMethod ({ cls := "BakeryNight$Bakery", name := "allShops", desc := "()I" } : Jvm.MethodName) ∈ GW := gwt3 144 (by decide +kernel) rfl
theorem wd1015 : Cond.selects "BakeryNight$Bakery" ({ cls := "BakeryNight$Bakery", name := "allShops", desc := "()I" } : Jvm.MethodName) ({ cls := "BakeryNight$Bakery", name := "allShops", desc := "()I" } : Jvm.MethodName) ∈ GW := gwt3 145 (by decide +kernel) rfl
theorem wd1016 : Cond.code ({ cls := "BakeryNight$Bakery", name := "allShops", desc := "()I" } : Jvm.MethodName) prog_3_method_8_code (1 : Nat) (Option.some Jvm.ClassFile.FieldType.int) ∈ GW := gwt3 146 (by decide +kernel) rfl
theorem wd1017 : Cond.methodLink "BakeryNight" (131 : Nat) ({ cls := "BakeryNight$Roads", name := "restOfRoute", desc := "(II)I" } : Jvm.MethodName) ∈ GW := gwt3 147 (by decide +kernel) rfl
theorem wd1018 : Cond.instanceMethod ({ cls := "BakeryNight$Roads", name := "restOfRoute", desc := "(II)I" } : Jvm.MethodName) ∈ GW := gwt3 148 (by decide +kernel) rfl
theorem wd1019 : Cond.selects "BakeryNight$Roads" ({ cls := "BakeryNight$Roads", name := "restOfRoute", desc := "(II)I" } : Jvm.MethodName) ({ cls := "BakeryNight$Roads", name := "restOfRoute", desc := "(II)I" } : Jvm.MethodName) ∈ GW := gwt3 149 (by decide +kernel) rfl
theorem wd1020 : Cond.code ({ cls := "BakeryNight$Roads", name := "restOfRoute", desc := "(II)I" } : Jvm.MethodName) prog_11_method_3_code (3 : Nat) (Option.some Jvm.ClassFile.FieldType.int) ∈ GW := gwt3 150 (by decide +kernel) rfl
theorem wd1021 : Cond.methodLink "BakeryNightLaw" (76 : Nat) ({ cls := "BakeryNight", name := "routeStop", desc := "(II)I" } : Jvm.MethodName) ∈ GW := gwt3 151 (by decide +kernel) rfl
theorem wd1022 : Cond.instanceMethod ({ cls := "BakeryNight", name := "routeStop", desc := "(II)I" } : Jvm.MethodName) ∈ GW := gwt3 152 (by decide +kernel) rfl
theorem wd1023 : Cond.selects "BakeryNight" ({ cls := "BakeryNight", name := "routeStop", desc := "(II)I" } : Jvm.MethodName) ({ cls := "BakeryNight", name := "routeStop", desc := "(II)I" } : Jvm.MethodName) ∈ GW := gwt3 153 (by decide +kernel) rfl
theorem wd1024 : Cond.code ({ cls := "BakeryNight", name := "routeStop", desc := "(II)I" } : Jvm.MethodName) prog_1_method_15_code (6 : Nat) (Option.some Jvm.ClassFile.FieldType.int) ∈ GW := gwt3 154 (by decide +kernel) rfl
theorem wd1025 : Cond.methodLink "BakeryNight" (134 : Nat) ({ cls := "BakeryNight", name := "routeMinutes", desc := "(I)I" } : Jvm.MethodName) ∈ GW := gwt3 155 (by decide +kernel) rfl
theorem wd1026 : Cond.methodLink "BakeryNight" (137 : Nat) ({ cls := "java/lang/Integer", name := "bitCount", desc := "(I)I" } : Jvm.MethodName) ∈ GW := gwt3 156 (by decide +kernel) rfl
theorem wd1027 : Cond.static ({ cls := "java/lang/Integer", name := "bitCount", desc := "(I)I" } : Jvm.MethodName) ∈ GW := gwt3 157 (by decide +kernel) rfl
theorem wd1028 : Cond.code ({ cls := "java/lang/Integer", name := "bitCount", desc := "(I)I" } : Jvm.MethodName) prog_20_method_49_code (1 : Nat) (Option.some Jvm.ClassFile.FieldType.int) ∈ GW := gwt3 158 (by decide +kernel) rfl
theorem wd1029 : Cond.constant "java/lang/Integer" (265 : Nat) (1431655765 : Int32) ∈ GW := gwt3 159 (by decide +kernel) rfl
theorem wd1030 : Cond.constant "java/lang/Integer" (266 : Nat) (858993459 : Int32) ∈ GW := gwt3 160 (by decide +kernel) rfl
theorem wd1031 : Cond.constant "java/lang/Integer" (267 : Nat) (252645135 : Int32) ∈ GW := gwt3 161 (by decide +kernel) rfl
theorem wd1032 : Cond.methodLink "BakeryNight" (142 : Nat) ({ cls := "BakeryNight$Roads", name := "nextStop", desc := "(II)I" } : Jvm.MethodName) ∈ GW := gwt3 162 (by decide +kernel) rfl
theorem wd1033 : Cond.instanceMethod ({ cls := "BakeryNight$Roads", name := "nextStop", desc := "(II)I" } : Jvm.MethodName) ∈ GW := gwt3 163 (by decide +kernel) rfl
theorem wd1034 : Cond.selects "BakeryNight$Roads" ({ cls := "BakeryNight$Roads", name := "nextStop", desc := "(II)I" } : Jvm.MethodName) ({ cls := "BakeryNight$Roads", name := "nextStop", desc := "(II)I" } : Jvm.MethodName) ∈ GW := gwt3 164 (by decide +kernel) rfl
theorem wd1035 : Cond.code ({ cls := "BakeryNight$Roads", name := "nextStop", desc := "(II)I" } : Jvm.MethodName) prog_11_method_8_code (4 : Nat) (Option.some Jvm.ClassFile.FieldType.int) ∈ GW := gwt3 165 (by decide +kernel) rfl
theorem wd1036 : Cond.methodLink "BakeryNight$Roads" (62 : Nat) ({ cls := "BakeryNight$Roads", name := "restOfRoute", desc := "(II)I" } : Jvm.MethodName) ∈ GW := gwt3 166 (by decide +kernel) rfl
theorem wd1037 : Cond.methodLink "BakeryNightLaw" (80 : Nat) ({ cls := "BakeryNight", name := "simulate", desc := "(I)I" } : Jvm.MethodName) ∈ GW := gwt3 167 (by decide +kernel) rfl
theorem wd1038 : Cond.instanceMethod ({ cls := "BakeryNight", name := "simulate", desc := "(I)I" } : Jvm.MethodName) ∈ GW := gwt3 168 (by decide +kernel) rfl
theorem wd1039 : Cond.selects "BakeryNight" ({ cls := "BakeryNight", name := "simulate", desc := "(I)I" } : Jvm.MethodName) ({ cls := "BakeryNight", name := "simulate", desc := "(I)I" } : Jvm.MethodName) ∈ GW := gwt3 169 (by decide +kernel) rfl
theorem wd1040 : Cond.code ({ cls := "BakeryNight", name := "simulate", desc := "(I)I" } : Jvm.MethodName) prog_1_method_16_code (2 : Nat) (Option.some Jvm.ClassFile.FieldType.int) ∈ GW := gwt3 170 (by decide +kernel) rfl
theorem wd1041 : Cond.methodLink "BakeryNight" (145 : Nat) ({ cls := "BakeryNight", name := "batchCount", desc := "()I" } : Jvm.MethodName) ∈ GW := gwt3 171 (by decide +kernel) rfl
theorem wd1042 : Cond.methodLink "BakeryNight" (148 : Nat) ({ cls := "BakeryNight$Night", name := "run", desc := "(LBakeryNight$Bakery;I)V" } : Jvm.MethodName) ∈ GW := gwt3 172 (by decide +kernel) rfl
theorem wd1043 : Cond.instanceMethod ({ cls := "BakeryNight$Night", name := "run", desc := "(LBakeryNight$Bakery;I)V" } : Jvm.MethodName) ∈ GW := gwt3 173 (by decide +kernel) rfl
theorem wd1044 : Cond.selects "BakeryNight$Night" ({ cls := "BakeryNight$Night", name := "run", desc := "(LBakeryNight$Bakery;I)V" } : Jvm.MethodName) ({ cls := "BakeryNight$Night", name := "run", desc := "(LBakeryNight$Bakery;I)V" } : Jvm.MethodName) ∈ GW := gwt3 174 (by decide +kernel) rfl
theorem wd1045 : Cond.code ({ cls := "BakeryNight$Night", name := "run", desc := "(LBakeryNight$Bakery;I)V" } : Jvm.MethodName) prog_6_method_2_code (5 : Nat) (Option.none : Option Jvm.ClassFile.FieldType) ∈ GW := gwt3 175 (by decide +kernel) rfl
theorem wd1046 : Cond.methodLink "BakeryNight$Night" (58 : Nat) ({ cls := "BakeryNight$Night", name := "begin", desc := "(LBakeryNight$Bakery;I)V" } : Jvm.MethodName) ∈ GW := gwt3 176 (by decide +kernel) rfl
theorem wd1048 : Cond.instanceMethod ({ cls := "BakeryNight$Night", name := "begin", desc := "(LBakeryNight$Bakery;I)V" } : Jvm.MethodName) ∈ GW := gwt3 178 (by decide +kernel) rfl
theorem wd1049 : Cond.code ({ cls := "BakeryNight$Night", name := "begin", desc := "(LBakeryNight$Bakery;I)V" } : Jvm.MethodName) prog_6_method_3_code (7 : Nat) (Option.none : Option Jvm.ClassFile.FieldType) ∈ GW := gwt3 179 (by decide +kernel) rfl
theorem wd1050 : Cond.methodLink "BakeryNight$Night" (111 : Nat) ({ cls := "java/util/Arrays", name := "fill", desc := "([II)V" } : Jvm.MethodName) ∈ GW := gwt3 180 (by decide +kernel) rfl
theorem wd1051 : Cond.methodLink "BakeryNight$Night" (128 : Nat) ({ cls := "BakeryNight$Night", name := "numberBatches", desc := "(LBakeryNight$Bakery;)V" } : Jvm.MethodName) ∈ GW := gwt3 181 (by decide +kernel) rfl
theorem wd1053 : Cond.instanceMethod ({ cls := "BakeryNight$Night", name := "numberBatches", desc := "(LBakeryNight$Bakery;)V" } : Jvm.MethodName) ∈ GW := gwt3 183 (by decide +kernel) rfl
theorem wd1054 : Cond.code ({ cls := "BakeryNight$Night", name := "numberBatches", desc := "(LBakeryNight$Bakery;)V" } : Jvm.MethodName) prog_6_method_4_code (6 : Nat) (Option.none : Option Jvm.ClassFile.FieldType) ∈ GW := gwt3 184 (by decide +kernel) rfl
theorem wd1055 : Cond.methodLink "BakeryNight$Night" (134 : Nat) ({ cls := "BakeryNight$Bakery", name := "dueOf", desc := "(I)I" } : Jvm.MethodName) ∈ GW := gwt3 185 (by decide +kernel) rfl
theorem wd1056 : Cond.instanceMethod ({ cls := "BakeryNight$Bakery", name := "dueOf", desc := "(I)I" } : Jvm.MethodName) ∈ GW := gwt3 186 (by decide +kernel) rfl
theorem wd1057 : Cond.selects "BakeryNight$Bakery" ({ cls := "BakeryNight$Bakery", name := "dueOf", desc := "(I)I" } : Jvm.MethodName) ({ cls := "BakeryNight$Bakery", name := "dueOf", desc := "(I)I" } : Jvm.MethodName) ∈ GW := gwt3 187 (by decide +kernel) rfl
theorem wd1058 : Cond.code ({ cls := "BakeryNight$Bakery", name := "dueOf", desc := "(I)I" } : Jvm.MethodName) prog_3_method_13_code (4 : Nat) (Option.some Jvm.ClassFile.FieldType.int) ∈ GW := gwt3 188 (by decide +kernel) rfl
theorem wd1059 : Cond.methodLink "BakeryNight$Bakery" (110 : Nat) ({ cls := "java/lang/Math", name := "min", desc := "(II)I" } : Jvm.MethodName) ∈ GW := gwt3 189 (by decide +kernel) rfl
theorem wd1060 : Cond.methodLink "BakeryNight$Night" (138 : Nat) ({ cls := "BakeryNight$Bakery", name := "batchesOf", desc := "(I)I" } : Jvm.MethodName) ∈ GW := gwt3 190 (by decide +kernel) rfl
theorem wd1061 : Cond.methodLink "BakeryNight$Night" (141 : Nat) ({ cls := "java/lang/Math", name := "min", desc := "(II)I" } : Jvm.MethodName) ∈ GW := gwt3 191 (by decide +kernel) rfl
theorem wd1062 : Cond.constant "BakeryNight$Night" (62 : Nat) (1000000 : Int32) ∈ GW := gwt3 192 (by decide +kernel) rfl
theorem wd1063 : Cond.methodLink "BakeryNight$Night" (63 : Nat) ({ cls := "BakeryNight$Night", name := "noteWhatEnded", desc := "(LBakeryNight$Bakery;I)V" } : Jvm.MethodName) ∈ GW := gwt3 193 (by decide +kernel) rfl
theorem wd1065 : Cond.instanceMethod ({ cls := "BakeryNight$Night", name := "noteWhatEnded", desc := "(LBakeryNight$Bakery;I)V" } : Jvm.MethodName) ∈ GW := gwt3 195 (by decide +kernel) rfl
theorem wd1066 : Cond.code ({ cls := "BakeryNight$Night", name := "noteWhatEnded", desc := "(LBakeryNight$Bakery;I)V" } : Jvm.MethodName) prog_6_method_5_code (4 : Nat) (Option.none : Option Jvm.ClassFile.FieldType) ∈ GW := gwt3 196 (by decide +kernel) rfl
theorem wd1067 : Cond.methodLink "BakeryNight$Night" (144 : Nat) ({ cls := "BakeryNight$Night", name := "shelvesTaken", desc := "(II)I" } : Jvm.MethodName) ∈ GW := gwt3 197 (by decide +kernel) rfl
theorem wd1068 : Cond.instanceMethod ({ cls := "BakeryNight$Night", name := "shelvesTaken", desc := "(II)I" } : Jvm.MethodName) ∈ GW := gwt3 198 (by decide +kernel) rfl
theorem wd1069 : Cond.selects "BakeryNight$Night" ({ cls := "BakeryNight$Night", name := "shelvesTaken", desc := "(II)I" } : Jvm.MethodName) ({ cls := "BakeryNight$Night", name := "shelvesTaken", desc := "(II)I" } : Jvm.MethodName) ∈ GW := gwt3 199 (by decide +kernel) rfl
theorem wd1070 : Cond.code ({ cls := "BakeryNight$Night", name := "shelvesTaken", desc := "(II)I" } : Jvm.MethodName) prog_6_method_25_code (5 : Nat) (Option.some Jvm.ClassFile.FieldType.int) ∈ GW := gwt3 200 (by decide +kernel) rfl
theorem wd1071 : Cond.methodLink "BakeryNight$Night" (261 : Nat) ({ cls := "BakeryNight$Night", name := "isIn", desc := "(III)Z" } : Jvm.MethodName) ∈ GW := gwt3 201 (by decide +kernel) rfl
theorem wd1073 : Cond.instanceMethod ({ cls := "BakeryNight$Night", name := "isIn", desc := "(III)Z" } : Jvm.MethodName) ∈ GW := gwt3 203 (by decide +kernel) rfl
theorem wd1074 : Cond.code ({ cls := "BakeryNight$Night", name := "isIn", desc := "(III)Z" } : Jvm.MethodName) prog_6_method_24_code (5 : Nat) (Option.some Jvm.ClassFile.FieldType.boolean) ∈ GW := gwt3 204 (by decide +kernel) rfl
theorem wd1075 : Cond.methodLink "BakeryNight$Night" (66 : Nat) ({ cls := "BakeryNight$Night", name := "spoilWaiting", desc := "(LBakeryNight$Bakery;I)V" } : Jvm.MethodName) ∈ GW := gwt3 205 (by decide +kernel) rfl
theorem wd1077 : Cond.instanceMethod ({ cls := "BakeryNight$Night", name := "spoilWaiting", desc := "(LBakeryNight$Bakery;I)V" } : Jvm.MethodName) ∈ GW := gwt3 207 (by decide +kernel) rfl
theorem wd1078 : Cond.code ({ cls := "BakeryNight$Night", name := "spoilWaiting", desc := "(LBakeryNight$Bakery;I)V" } : Jvm.MethodName) prog_6_method_6_code (6 : Nat) (Option.none : Option Jvm.ClassFile.FieldType) ∈ GW := gwt3 208 (by decide +kernel) rfl
theorem wd1079 : Cond.methodLink "BakeryNight$Night" (69 : Nat) ({ cls := "BakeryNight$Night", name := "bakeWaiting", desc := "(LBakeryNight$Bakery;I)V" } : Jvm.MethodName) ∈ GW := gwt3 209 (by decide +kernel) rfl
theorem wd1081 : Cond.instanceMethod ({ cls := "BakeryNight$Night", name := "bakeWaiting", desc := "(LBakeryNight$Bakery;I)V" } : Jvm.MethodName) ∈ GW := gwt3 211 (by decide +kernel) rfl
theorem wd1082 : Cond.code ({ cls := "BakeryNight$Night", name := "bakeWaiting", desc := "(LBakeryNight$Bakery;I)V" } : Jvm.MethodName) prog_6_method_7_code (8 : Nat) (Option.none : Option Jvm.ClassFile.FieldType) ∈ GW := gwt3 212 (by decide +kernel) rfl
theorem wd1083 : Cond.methodLink "BakeryNight$Night" (157 : Nat) ({ cls := "BakeryNight$Night", name := "freeOven", desc := "(LBakeryNight$Bakery;II)I" } : Jvm.MethodName) ∈ GW := gwt3 213 (by decide +kernel) rfl
theorem wd1085 : Cond.instanceMethod ({ cls := "BakeryNight$Night", name := "freeOven", desc := "(LBakeryNight$Bakery;II)I" } : Jvm.MethodName) ∈ GW := gwt3 215 (by decide +kernel) rfl
theorem wd1086 : Cond.code ({ cls := "BakeryNight$Night", name := "freeOven", desc := "(LBakeryNight$Bakery;II)I" } : Jvm.MethodName) prog_6_method_8_code (6 : Nat) (Option.some Jvm.ClassFile.FieldType.int) ∈ GW := gwt3 216 (by decide +kernel) rfl
theorem wd1087 : Cond.methodLink "BakeryNight$Night" (164 : Nat) ({ cls := "BakeryNight$Night", name := "changeAnOven", desc := "(LBakeryNight$Bakery;II)V" } : Jvm.MethodName) ∈ GW := gwt3 217 (by decide +kernel) rfl
theorem wd1089 : Cond.instanceMethod ({ cls := "BakeryNight$Night", name := "changeAnOven", desc := "(LBakeryNight$Bakery;II)V" } : Jvm.MethodName) ∈ GW := gwt3 219 (by decide +kernel) rfl
theorem wd1090 : Cond.code ({ cls := "BakeryNight$Night", name := "changeAnOven", desc := "(LBakeryNight$Bakery;II)V" } : Jvm.MethodName) prog_6_method_9_code (8 : Nat) (Option.none : Option Jvm.ClassFile.FieldType) ∈ GW := gwt3 220 (by decide +kernel) rfl
theorem wd1091 : Cond.methodLink "BakeryNight$Night" (175 : Nat) ({ cls := "java/lang/Math", name := "abs", desc := "(I)I" } : Jvm.MethodName) ∈ GW := gwt3 221 (by decide +kernel) rfl
theorem wd1092 : Cond.static ({ cls := "java/lang/Math", name := "abs", desc := "(I)I" } : Jvm.MethodName) ∈ GW := gwt3 222 (by decide +kernel) rfl
theorem wd1093 : Cond.code ({ cls := "java/lang/Math", name := "abs", desc := "(I)I" } : Jvm.MethodName) prog_21_method_59_code (1 : Nat) (Option.some Jvm.ClassFile.FieldType.int) ∈ GW := gwt3 223 (by decide +kernel) rfl
theorem wd1095 : Cond.methodLink "BakeryNight$Night" (72 : Nat) ({ cls := "BakeryNight$Night", name := "shapeWaiting", desc := "(LBakeryNight$Bakery;I)V" } : Jvm.MethodName) ∈ GW := gwt3 225 (by decide +kernel) rfl
theorem wd1097 : Cond.instanceMethod ({ cls := "BakeryNight$Night", name := "shapeWaiting", desc := "(LBakeryNight$Bakery;I)V" } : Jvm.MethodName) ∈ GW := gwt3 227 (by decide +kernel) rfl
theorem wd1098 : Cond.code ({ cls := "BakeryNight$Night", name := "shapeWaiting", desc := "(LBakeryNight$Bakery;I)V" } : Jvm.MethodName) prog_6_method_10_code (7 : Nat) (Option.none : Option Jvm.ClassFile.FieldType) ∈ GW := gwt3 228 (by decide +kernel) rfl
theorem wd1099 : Cond.methodLink "BakeryNight$Night" (187 : Nat) ({ cls := "BakeryNight$Night", name := "inUse", desc := "(II)I" } : Jvm.MethodName) ∈ GW := gwt3 229 (by decide +kernel) rfl
theorem wd1100 : Cond.instanceMethod ({ cls := "BakeryNight$Night", name := "inUse", desc := "(II)I" } : Jvm.MethodName) ∈ GW := gwt3 230 (by decide +kernel) rfl
theorem wd1101 : Cond.selects "BakeryNight$Night" ({ cls := "BakeryNight$Night", name := "inUse", desc := "(II)I" } : Jvm.MethodName) ({ cls := "BakeryNight$Night", name := "inUse", desc := "(II)I" } : Jvm.MethodName) ∈ GW := gwt3 231 (by decide +kernel) rfl
theorem wd1102 : Cond.code ({ cls := "BakeryNight$Night", name := "inUse", desc := "(II)I" } : Jvm.MethodName) prog_6_method_26_code (5 : Nat) (Option.some Jvm.ClassFile.FieldType.int) ∈ GW := gwt3 232 (by decide +kernel) rfl
theorem wd1103 : Cond.methodLink "BakeryNight$Night" (89 : Nat) ({ cls := "java/lang/Math", name := "max", desc := "(II)I" } : Jvm.MethodName) ∈ GW := gwt3 233 (by decide +kernel) rfl
theorem wd1104 : Cond.static ({ cls := "java/lang/Math", name := "max", desc := "(II)I" } : Jvm.MethodName) ∈ GW := gwt3 234 (by decide +kernel) rfl
theorem wd1105 : Cond.code ({ cls := "java/lang/Math", name := "max", desc := "(II)I" } : Jvm.MethodName) prog_21_method_65_code (2 : Nat) (Option.some Jvm.ClassFile.FieldType.int) ∈ GW := gwt3 235 (by decide +kernel) rfl
theorem wd1106 : Cond.methodLink "BakeryNight$Night" (196 : Nat) ({ cls := "BakeryNight$Bakery", name := "inThisRoom", desc := "(I)I" } : Jvm.MethodName) ∈ GW := gwt3 236 (by decide +kernel) rfl
theorem wd1107 : Cond.methodLink "BakeryNight$Night" (199 : Nat) ({ cls := "java/lang/System", name := "arraycopy", desc := "(Ljava/lang/Object;ILjava/lang/Object;II)V" } : Jvm.MethodName) ∈ GW := gwt3 237 (by decide +kernel) rfl
theorem wd1108 : Cond.static ({ cls := "java/lang/System", name := "arraycopy", desc := "(Ljava/lang/Object;ILjava/lang/Object;II)V" } : Jvm.MethodName) ∈ GW := gwt3 238 (by decide +kernel) rfl
theorem wd1109 : Cond.native ({ cls := "java/lang/System", name := "arraycopy", desc := "(Ljava/lang/Object;ILjava/lang/Object;II)V" } : Jvm.MethodName) ∈ GW := gwt3 239 (by decide +kernel) rfl
theorem wd1110 : Cond.methodLink "BakeryNight$Night" (75 : Nat) ({ cls := "BakeryNight$Night", name := "mixNext", desc := "(LBakeryNight$Bakery;I)V" } : Jvm.MethodName) ∈ GW := gwt4 0 (by decide +kernel) rfl
theorem wd1112 : Cond.instanceMethod ({ cls := "BakeryNight$Night", name := "mixNext", desc := "(LBakeryNight$Bakery;I)V" } : Jvm.MethodName) ∈ GW := gwt4 2 (by decide +kernel) rfl
theorem wd1113 : Cond.code ({ cls := "BakeryNight$Night", name := "mixNext", desc := "(LBakeryNight$Bakery;I)V" } : Jvm.MethodName) prog_6_method_11_code (5 : Nat) (Option.none : Option Jvm.ClassFile.FieldType) ∈ GW := gwt4 3 (by decide +kernel) rfl
theorem wd1114 : Cond.methodLink "BakeryNight$Night" (78 : Nat) ({ cls := "BakeryNight$Night", name := "nextMinute", desc := "(LBakeryNight$Bakery;I)I" } : Jvm.MethodName) ∈ GW := gwt4 4 (by decide +kernel) rfl
theorem wd1116 : Cond.instanceMethod ({ cls := "BakeryNight$Night", name := "nextMinute", desc := "(LBakeryNight$Bakery;I)I" } : Jvm.MethodName) ∈ GW := gwt4 6 (by decide +kernel) rfl
theorem wd1117 : Cond.code ({ cls := "BakeryNight$Night", name := "nextMinute", desc := "(LBakeryNight$Bakery;I)I" } : Jvm.MethodName) prog_6_method_12_code (6 : Nat) (Option.some Jvm.ClassFile.FieldType.int) ∈ GW := gwt4 7 (by decide +kernel) rfl
theorem wd1118 : Cond.methodLink "BakeryNight$Night" (214 : Nat) ({ cls := "BakeryNight$Night", name := "sooner", desc := "(III)I" } : Jvm.MethodName) ∈ GW := gwt4 8 (by decide +kernel) rfl
theorem wd1119 : Cond.static ({ cls := "BakeryNight$Night", name := "sooner", desc := "(III)I" } : Jvm.MethodName) ∈ GW := gwt4 9 (by decide +kernel) rfl
theorem wd1120 : Cond.code ({ cls := "BakeryNight$Night", name := "sooner", desc := "(III)I" } : Jvm.MethodName) prog_6_method_13_code (3 : Nat) (Option.some Jvm.ClassFile.FieldType.int) ∈ GW := gwt4 10 (by decide +kernel) rfl
theorem wd1121 : Cond.methodLink "BakeryNight$Night" (95 : Nat) ({ cls := "BakeryNight$Night", name := "giveLoaves", desc := "(LBakeryNight$Bakery;)V" } : Jvm.MethodName) ∈ GW := gwt4 11 (by decide +kernel) rfl
theorem wd1123 : Cond.instanceMethod ({ cls := "BakeryNight$Night", name := "giveLoaves", desc := "(LBakeryNight$Bakery;)V" } : Jvm.MethodName) ∈ GW := gwt4 13 (by decide +kernel) rfl
theorem wd1124 : Cond.code ({ cls := "BakeryNight$Night", name := "giveLoaves", desc := "(LBakeryNight$Bakery;)V" } : Jvm.MethodName) prog_6_method_14_code (6 : Nat) (Option.none : Option Jvm.ClassFile.FieldType) ∈ GW := gwt4 14 (by decide +kernel) rfl
theorem wd1125 : Cond.methodLink "BakeryNight$Night" (221 : Nat) ({ cls := "BakeryNight$Bakery", name := "hasOrder", desc := "(I)Z" } : Jvm.MethodName) ∈ GW := gwt4 15 (by decide +kernel) rfl
theorem wd1126 : Cond.methodLink "BakeryNight$Night" (233 : Nat) ({ cls := "BakeryNight$Bakery", name := "loavesAheadOf", desc := "(I)I" } : Jvm.MethodName) ∈ GW := gwt4 16 (by decide +kernel) rfl
theorem wd1127 : Cond.instanceMethod ({ cls := "BakeryNight$Bakery", name := "loavesAheadOf", desc := "(I)I" } : Jvm.MethodName) ∈ GW := gwt4 17 (by decide +kernel) rfl
theorem wd1128 : Cond.selects "BakeryNight$Bakery" ({ cls := "BakeryNight$Bakery", name := "loavesAheadOf", desc := "(I)I" } : Jvm.MethodName) ({ cls := "BakeryNight$Bakery", name := "loavesAheadOf", desc := "(I)I" } : Jvm.MethodName) ∈ GW := gwt4 18 (by decide +kernel) rfl
theorem wd1129 : Cond.code ({ cls := "BakeryNight$Bakery", name := "loavesAheadOf", desc := "(I)I" } : Jvm.MethodName) prog_3_method_14_code (4 : Nat) (Option.some Jvm.ClassFile.FieldType.int) ∈ GW := gwt4 19 (by decide +kernel) rfl
theorem wd1130 : Cond.methodLink "BakeryNight$Bakery" (115 : Nat) ({ cls := "BakeryNight$Bakery", name := "comesBefore", desc := "(II)Z" } : Jvm.MethodName) ∈ GW := gwt4 20 (by decide +kernel) rfl
theorem wd1132 : Cond.instanceMethod ({ cls := "BakeryNight$Bakery", name := "comesBefore", desc := "(II)Z" } : Jvm.MethodName) ∈ GW := gwt4 22 (by decide +kernel) rfl
theorem wd1133 : Cond.code ({ cls := "BakeryNight$Bakery", name := "comesBefore", desc := "(II)Z" } : Jvm.MethodName) prog_3_method_15_code (4 : Nat) (Option.some Jvm.ClassFile.FieldType.boolean) ∈ GW := gwt4 23 (by decide +kernel) rfl
theorem wd1134 : Cond.methodLink "BakeryNight$Night" (239 : Nat) ({ cls := "BakeryNight$Night", name := "takenOut", desc := "(LBakeryNight$Bakery;II)I" } : Jvm.MethodName) ∈ GW := gwt4 24 (by decide +kernel) rfl
theorem wd1136 : Cond.instanceMethod ({ cls := "BakeryNight$Night", name := "takenOut", desc := "(LBakeryNight$Bakery;II)I" } : Jvm.MethodName) ∈ GW := gwt4 26 (by decide +kernel) rfl
theorem wd1137 : Cond.code ({ cls := "BakeryNight$Night", name := "takenOut", desc := "(LBakeryNight$Bakery;II)I" } : Jvm.MethodName) prog_6_method_15_code (6 : Nat) (Option.some Jvm.ClassFile.FieldType.int) ∈ GW := gwt4 27 (by decide +kernel) rfl
theorem wd1138 : Cond.methodLink "BakeryNightLaw" (100 : Nat) ({ cls := "BakeryNight", name := "spoiledCount", desc := "()I" } : Jvm.MethodName) ∈ GW := gwt4 28 (by decide +kernel) rfl
theorem wd1139 : Cond.instanceMethod ({ cls := "BakeryNight", name := "spoiledCount", desc := "()I" } : Jvm.MethodName) ∈ GW := gwt4 29 (by decide +kernel) rfl
theorem wd1140 : Cond.selects "BakeryNight" ({ cls := "BakeryNight", name := "spoiledCount", desc := "()I" } : Jvm.MethodName) ({ cls := "BakeryNight", name := "spoiledCount", desc := "()I" } : Jvm.MethodName) ∈ GW := gwt4 30 (by decide +kernel) rfl
theorem wd1141 : Cond.code ({ cls := "BakeryNight", name := "spoiledCount", desc := "()I" } : Jvm.MethodName) prog_1_method_21_code (1 : Nat) (Option.some Jvm.ClassFile.FieldType.int) ∈ GW := gwt4 31 (by decide +kernel) rfl
theorem wd1142 : Cond.methodLink "BakeryNight" (190 : Nat) ({ cls := "BakeryNight$Night", name := "spoiledBatches", desc := "()I" } : Jvm.MethodName) ∈ GW := gwt4 32 (by decide +kernel) rfl
theorem wd1143 : Cond.instanceMethod ({ cls := "BakeryNight$Night", name := "spoiledBatches", desc := "()I" } : Jvm.MethodName) ∈ GW := gwt4 33 (by decide +kernel) rfl
theorem wd1144 : Cond.selects "BakeryNight$Night" ({ cls := "BakeryNight$Night", name := "spoiledBatches", desc := "()I" } : Jvm.MethodName) ({ cls := "BakeryNight$Night", name := "spoiledBatches", desc := "()I" } : Jvm.MethodName) ∈ GW := gwt4 34 (by decide +kernel) rfl
theorem wd1145 : Cond.code ({ cls := "BakeryNight$Night", name := "spoiledBatches", desc := "()I" } : Jvm.MethodName) prog_6_method_21_code (3 : Nat) (Option.some Jvm.ClassFile.FieldType.int) ∈ GW := gwt4 35 (by decide +kernel) rfl
theorem wd1146 : Cond.methodLink "BakeryNightLaw" (104 : Nat) ({ cls := "BakeryNight", name := "changingMinutes", desc := "(I)I" } : Jvm.MethodName) ∈ GW := gwt4 36 (by decide +kernel) rfl
theorem wd1147 : Cond.instanceMethod ({ cls := "BakeryNight", name := "changingMinutes", desc := "(I)I" } : Jvm.MethodName) ∈ GW := gwt4 37 (by decide +kernel) rfl
theorem wd1148 : Cond.selects "BakeryNight" ({ cls := "BakeryNight", name := "changingMinutes", desc := "(I)I" } : Jvm.MethodName) ({ cls := "BakeryNight", name := "changingMinutes", desc := "(I)I" } : Jvm.MethodName) ∈ GW := gwt4 38 (by decide +kernel) rfl
theorem wd1149 : Cond.code ({ cls := "BakeryNight", name := "changingMinutes", desc := "(I)I" } : Jvm.MethodName) prog_1_method_22_code (2 : Nat) (Option.some Jvm.ClassFile.FieldType.int) ∈ GW := gwt4 39 (by decide +kernel) rfl
theorem wd1150 : Cond.methodLink "BakeryNight" (193 : Nat) ({ cls := "BakeryNight$Bakery", name := "hasOven", desc := "(I)Z" } : Jvm.MethodName) ∈ GW := gwt4 40 (by decide +kernel) rfl
theorem wd1151 : Cond.instanceMethod ({ cls := "BakeryNight$Bakery", name := "hasOven", desc := "(I)Z" } : Jvm.MethodName) ∈ GW := gwt4 41 (by decide +kernel) rfl
theorem wd1152 : Cond.selects "BakeryNight$Bakery" ({ cls := "BakeryNight$Bakery", name := "hasOven", desc := "(I)Z" } : Jvm.MethodName) ({ cls := "BakeryNight$Bakery", name := "hasOven", desc := "(I)Z" } : Jvm.MethodName) ∈ GW := gwt4 42 (by decide +kernel) rfl
theorem wd1153 : Cond.code ({ cls := "BakeryNight$Bakery", name := "hasOven", desc := "(I)Z" } : Jvm.MethodName) prog_3_method_4_code (2 : Nat) (Option.some Jvm.ClassFile.FieldType.boolean) ∈ GW := gwt4 43 (by decide +kernel) rfl
theorem wd1154 : Cond.methodLink "BakeryNightLaw" (108 : Nat) ({ cls := "BakeryNight", name := "bakingMinutes", desc := "(I)I" } : Jvm.MethodName) ∈ GW := gwt4 44 (by decide +kernel) rfl
theorem wd1155 : Cond.instanceMethod ({ cls := "BakeryNight", name := "bakingMinutes", desc := "(I)I" } : Jvm.MethodName) ∈ GW := gwt4 45 (by decide +kernel) rfl
theorem wd1156 : Cond.selects "BakeryNight" ({ cls := "BakeryNight", name := "bakingMinutes", desc := "(I)I" } : Jvm.MethodName) ({ cls := "BakeryNight", name := "bakingMinutes", desc := "(I)I" } : Jvm.MethodName) ∈ GW := gwt4 46 (by decide +kernel) rfl
theorem wd1157 : Cond.code ({ cls := "BakeryNight", name := "bakingMinutes", desc := "(I)I" } : Jvm.MethodName) prog_1_method_23_code (2 : Nat) (Option.some Jvm.ClassFile.FieldType.int) ∈ GW := gwt4 47 (by decide +kernel) rfl
theorem wd1158 : Cond.methodLink "BakeryNight" (199 : Nat) ({ cls := "BakeryNight$Night", name := "minutesBakedIn", desc := "(I)I" } : Jvm.MethodName) ∈ GW := gwt4 48 (by decide +kernel) rfl
theorem wd1159 : Cond.instanceMethod ({ cls := "BakeryNight$Night", name := "minutesBakedIn", desc := "(I)I" } : Jvm.MethodName) ∈ GW := gwt4 49 (by decide +kernel) rfl
theorem wd1160 : Cond.selects "BakeryNight$Night" ({ cls := "BakeryNight$Night", name := "minutesBakedIn", desc := "(I)I" } : Jvm.MethodName) ({ cls := "BakeryNight$Night", name := "minutesBakedIn", desc := "(I)I" } : Jvm.MethodName) ∈ GW := gwt4 50 (by decide +kernel) rfl
theorem wd1161 : Cond.code ({ cls := "BakeryNight$Night", name := "minutesBakedIn", desc := "(I)I" } : Jvm.MethodName) prog_6_method_22_code (4 : Nat) (Option.some Jvm.ClassFile.FieldType.int) ∈ GW := gwt4 51 (by decide +kernel) rfl
theorem wd1162 : Cond.methodLink "BakeryNightLaw" (112 : Nat) ({ cls := "BakeryNight", name := "waitingMinutes", desc := "(I)I" } : Jvm.MethodName) ∈ GW := gwt4 52 (by decide +kernel) rfl
theorem wd1163 : Cond.instanceMethod ({ cls := "BakeryNight", name := "waitingMinutes", desc := "(I)I" } : Jvm.MethodName) ∈ GW := gwt4 53 (by decide +kernel) rfl
theorem wd1164 : Cond.selects "BakeryNight" ({ cls := "BakeryNight", name := "waitingMinutes", desc := "(I)I" } : Jvm.MethodName) ({ cls := "BakeryNight", name := "waitingMinutes", desc := "(I)I" } : Jvm.MethodName) ∈ GW := gwt4 54 (by decide +kernel) rfl
theorem wd1165 : Cond.code ({ cls := "BakeryNight", name := "waitingMinutes", desc := "(I)I" } : Jvm.MethodName) prog_1_method_24_code (2 : Nat) (Option.some Jvm.ClassFile.FieldType.int) ∈ GW := gwt4 55 (by decide +kernel) rfl
theorem wd1166 : Cond.methodLink "BakeryNight" (202 : Nat) ({ cls := "BakeryNight$Night", name := "isPlace", desc := "(I)Z" } : Jvm.MethodName) ∈ GW := gwt4 56 (by decide +kernel) rfl
theorem wd1167 : Cond.static ({ cls := "BakeryNight$Night", name := "isPlace", desc := "(I)Z" } : Jvm.MethodName) ∈ GW := gwt4 57 (by decide +kernel) rfl
theorem wd1168 : Cond.code ({ cls := "BakeryNight$Night", name := "isPlace", desc := "(I)Z" } : Jvm.MethodName) prog_6_method_19_code (1 : Nat) (Option.some Jvm.ClassFile.FieldType.boolean) ∈ GW := gwt4 58 (by decide +kernel) rfl
theorem wd1169 : Cond.methodLink "BakeryNight" (205 : Nat) ({ cls := "BakeryNight$Night", name := "minutesWaitedFor", desc := "(I)I" } : Jvm.MethodName) ∈ GW := gwt4 59 (by decide +kernel) rfl
theorem wd1170 : Cond.instanceMethod ({ cls := "BakeryNight$Night", name := "minutesWaitedFor", desc := "(I)I" } : Jvm.MethodName) ∈ GW := gwt4 60 (by decide +kernel) rfl
theorem wd1171 : Cond.selects "BakeryNight$Night" ({ cls := "BakeryNight$Night", name := "minutesWaitedFor", desc := "(I)I" } : Jvm.MethodName) ({ cls := "BakeryNight$Night", name := "minutesWaitedFor", desc := "(I)I" } : Jvm.MethodName) ∈ GW := gwt4 61 (by decide +kernel) rfl
theorem wd1172 : Cond.code ({ cls := "BakeryNight$Night", name := "minutesWaitedFor", desc := "(I)I" } : Jvm.MethodName) prog_6_method_23_code (4 : Nat) (Option.some Jvm.ClassFile.FieldType.int) ∈ GW := gwt4 62 (by decide +kernel) rfl
theorem wd1173 : Cond.methodLink "BakeryNight$Night" (258 : Nat) ({ cls := "BakeryNight$Night", name := "stageAt", desc := "(I)I" } : Jvm.MethodName) ∈ GW := gwt4 63 (by decide +kernel) rfl
theorem wd1174 : Cond.static ({ cls := "BakeryNight$Night", name := "stageAt", desc := "(I)I" } : Jvm.MethodName) ∈ GW := gwt4 64 (by decide +kernel) rfl
theorem wd1175 : Cond.code ({ cls := "BakeryNight$Night", name := "stageAt", desc := "(I)I" } : Jvm.MethodName) prog_6_method_20_code (1 : Nat) (Option.some Jvm.ClassFile.FieldType.int) ∈ GW := gwt4 65 (by decide +kernel) rfl
theorem wd1176 : Cond.methodLink "BakeryNightLaw" (116 : Nat) ({ cls := "BakeryNight", name := "shelvesUsed", desc := "(II)I" } : Jvm.MethodName) ∈ GW := gwt4 66 (by decide +kernel) rfl
theorem wd1177 : Cond.instanceMethod ({ cls := "BakeryNight", name := "shelvesUsed", desc := "(II)I" } : Jvm.MethodName) ∈ GW := gwt4 67 (by decide +kernel) rfl
theorem wd1178 : Cond.selects "BakeryNight" ({ cls := "BakeryNight", name := "shelvesUsed", desc := "(II)I" } : Jvm.MethodName) ({ cls := "BakeryNight", name := "shelvesUsed", desc := "(II)I" } : Jvm.MethodName) ∈ GW := gwt4 68 (by decide +kernel) rfl
theorem wd1179 : Cond.code ({ cls := "BakeryNight", name := "shelvesUsed", desc := "(II)I" } : Jvm.MethodName) prog_1_method_25_code (3 : Nat) (Option.some Jvm.ClassFile.FieldType.int) ∈ GW := gwt4 69 (by decide +kernel) rfl
theorem wd1180 : Cond.methodLink "BakeryNight" (208 : Nat) ({ cls := "BakeryNight$Night", name := "shelvesTaken", desc := "(II)I" } : Jvm.MethodName) ∈ GW := gwt4 70 (by decide +kernel) rfl
theorem wd1181 : Cond.methodLink "BakeryNightLaw" (120 : Nat) ({ cls := "BakeryNight", name := "busy", desc := "(II)I" } : Jvm.MethodName) ∈ GW := gwt4 71 (by decide +kernel) rfl
theorem wd1182 : Cond.instanceMethod ({ cls := "BakeryNight", name := "busy", desc := "(II)I" } : Jvm.MethodName) ∈ GW := gwt4 72 (by decide +kernel) rfl
theorem wd1183 : Cond.selects "BakeryNight" ({ cls := "BakeryNight", name := "busy", desc := "(II)I" } : Jvm.MethodName) ({ cls := "BakeryNight", name := "busy", desc := "(II)I" } : Jvm.MethodName) ∈ GW := gwt4 73 (by decide +kernel) rfl
theorem wd1184 : Cond.code ({ cls := "BakeryNight", name := "busy", desc := "(II)I" } : Jvm.MethodName) prog_1_method_26_code (3 : Nat) (Option.some Jvm.ClassFile.FieldType.int) ∈ GW := gwt4 74 (by decide +kernel) rfl
theorem wd1185 : Cond.methodLink "BakeryNight" (211 : Nat) ({ cls := "BakeryNight$Night", name := "stageAt", desc := "(I)I" } : Jvm.MethodName) ∈ GW := gwt4 75 (by decide +kernel) rfl
theorem wd1186 : Cond.methodLink "BakeryNight" (214 : Nat) ({ cls := "BakeryNight$Night", name := "inUse", desc := "(II)I" } : Jvm.MethodName) ∈ GW := gwt4 76 (by decide +kernel) rfl
theorem wd1187 : Cond.methodLink "BakeryNightLaw" (124 : Nat) ({ cls := "BakeryNight", name := "busiestMinute", desc := "(I)I" } : Jvm.MethodName) ∈ GW := gwt4 77 (by decide +kernel) rfl
theorem wd1188 : Cond.instanceMethod ({ cls := "BakeryNight", name := "busiestMinute", desc := "(I)I" } : Jvm.MethodName) ∈ GW := gwt4 78 (by decide +kernel) rfl
theorem wd1189 : Cond.selects "BakeryNight" ({ cls := "BakeryNight", name := "busiestMinute", desc := "(I)I" } : Jvm.MethodName) ({ cls := "BakeryNight", name := "busiestMinute", desc := "(I)I" } : Jvm.MethodName) ∈ GW := gwt4 79 (by decide +kernel) rfl
theorem wd1190 : Cond.code ({ cls := "BakeryNight", name := "busiestMinute", desc := "(I)I" } : Jvm.MethodName) prog_1_method_27_code (2 : Nat) (Option.some Jvm.ClassFile.FieldType.int) ∈ GW := gwt4 80 (by decide +kernel) rfl
theorem wd1191 : Cond.methodLink "BakeryNight" (217 : Nat) ({ cls := "BakeryNight$Night", name := "firstFullest", desc := "(I)I" } : Jvm.MethodName) ∈ GW := gwt4 81 (by decide +kernel) rfl
theorem wd1192 : Cond.instanceMethod ({ cls := "BakeryNight$Night", name := "firstFullest", desc := "(I)I" } : Jvm.MethodName) ∈ GW := gwt4 82 (by decide +kernel) rfl
theorem wd1193 : Cond.selects "BakeryNight$Night" ({ cls := "BakeryNight$Night", name := "firstFullest", desc := "(I)I" } : Jvm.MethodName) ({ cls := "BakeryNight$Night", name := "firstFullest", desc := "(I)I" } : Jvm.MethodName) ∈ GW := gwt4 83 (by decide +kernel) rfl
theorem wd1194 : Cond.code ({ cls := "BakeryNight$Night", name := "firstFullest", desc := "(I)I" } : Jvm.MethodName) prog_6_method_27_code (7 : Nat) (Option.some Jvm.ClassFile.FieldType.int) ∈ GW := gwt4 84 (by decide +kernel) rfl
theorem wd1195 : Cond.methodLink "BakeryNightLaw" (128 : Nat) ({ cls := "BakeryNight", name := "readyMinute", desc := "(I)I" } : Jvm.MethodName) ∈ GW := gwt4 85 (by decide +kernel) rfl
theorem wd1196 : Cond.instanceMethod ({ cls := "BakeryNight", name := "readyMinute", desc := "(I)I" } : Jvm.MethodName) ∈ GW := gwt4 86 (by decide +kernel) rfl
theorem wd1197 : Cond.selects "BakeryNight" ({ cls := "BakeryNight", name := "readyMinute", desc := "(I)I" } : Jvm.MethodName) ({ cls := "BakeryNight", name := "readyMinute", desc := "(I)I" } : Jvm.MethodName) ∈ GW := gwt4 87 (by decide +kernel) rfl
theorem wd1198 : Cond.code ({ cls := "BakeryNight", name := "readyMinute", desc := "(I)I" } : Jvm.MethodName) prog_1_method_28_code (2 : Nat) (Option.some Jvm.ClassFile.FieldType.int) ∈ GW := gwt4 88 (by decide +kernel) rfl
theorem wd1199 : Cond.methodLink "BakeryNight" (220 : Nat) ({ cls := "BakeryNight$Bakery", name := "hasOrder", desc := "(I)Z" } : Jvm.MethodName) ∈ GW := gwt4 89 (by decide +kernel) rfl
theorem wd1200 : Cond.methodLink "BakeryNightLaw" (132 : Nat) ({ cls := "BakeryNight", name := "surplusLoaves", desc := "(I)I" } : Jvm.MethodName) ∈ GW := gwt4 90 (by decide +kernel) rfl
theorem wd1201 : Cond.instanceMethod ({ cls := "BakeryNight", name := "surplusLoaves", desc := "(I)I" } : Jvm.MethodName) ∈ GW := gwt4 91 (by decide +kernel) rfl
theorem wd1202 : Cond.selects "BakeryNight" ({ cls := "BakeryNight", name := "surplusLoaves", desc := "(I)I" } : Jvm.MethodName) ({ cls := "BakeryNight", name := "surplusLoaves", desc := "(I)I" } : Jvm.MethodName) ∈ GW := gwt4 92 (by decide +kernel) rfl
theorem wd1203 : Cond.code ({ cls := "BakeryNight", name := "surplusLoaves", desc := "(I)I" } : Jvm.MethodName) prog_1_method_29_code (2 : Nat) (Option.some Jvm.ClassFile.FieldType.int) ∈ GW := gwt4 93 (by decide +kernel) rfl
theorem wd1204 : Cond.methodLink "BakeryNight" (226 : Nat) ({ cls := "BakeryNight$Night", name := "leftOver", desc := "(LBakeryNight$Bakery;I)I" } : Jvm.MethodName) ∈ GW := gwt4 94 (by decide +kernel) rfl
theorem wd1205 : Cond.instanceMethod ({ cls := "BakeryNight$Night", name := "leftOver", desc := "(LBakeryNight$Bakery;I)I" } : Jvm.MethodName) ∈ GW := gwt4 95 (by decide +kernel) rfl
theorem wd1206 : Cond.selects "BakeryNight$Night" ({ cls := "BakeryNight$Night", name := "leftOver", desc := "(LBakeryNight$Bakery;I)I" } : Jvm.MethodName) ({ cls := "BakeryNight$Night", name := "leftOver", desc := "(LBakeryNight$Bakery;I)I" } : Jvm.MethodName) ∈ GW := gwt4 96 (by decide +kernel) rfl
theorem wd1207 : Cond.code ({ cls := "BakeryNight$Night", name := "leftOver", desc := "(LBakeryNight$Bakery;I)I" } : Jvm.MethodName) prog_6_method_16_code (5 : Nat) (Option.some Jvm.ClassFile.FieldType.int) ∈ GW := gwt4 97 (by decide +kernel) rfl
theorem wd1208 : Cond.methodLink "BakeryNight$Night" (246 : Nat) ({ cls := "BakeryNight$Bakery", name := "loavesOf", desc := "(I)I" } : Jvm.MethodName) ∈ GW := gwt4 98 (by decide +kernel) rfl
theorem wd1209 : Cond.methodLink "BakeryNightLaw" (136 : Nat) ({ cls := "BakeryNight", name := "surplusValue", desc := "(I)I" } : Jvm.MethodName) ∈ GW := gwt4 99 (by decide +kernel) rfl
theorem wd1210 : Cond.instanceMethod ({ cls := "BakeryNight", name := "surplusValue", desc := "(I)I" } : Jvm.MethodName) ∈ GW := gwt4 100 (by decide +kernel) rfl
theorem wd1211 : Cond.selects "BakeryNight" ({ cls := "BakeryNight", name := "surplusValue", desc := "(I)I" } : Jvm.MethodName) ({ cls := "BakeryNight", name := "surplusValue", desc := "(I)I" } : Jvm.MethodName) ∈ GW := gwt4 101 (by decide +kernel) rfl
theorem wd1212 : Cond.code ({ cls := "BakeryNight", name := "surplusValue", desc := "(I)I" } : Jvm.MethodName) prog_1_method_30_code (4 : Nat) (Option.some Jvm.ClassFile.FieldType.int) ∈ GW := gwt4 102 (by decide +kernel) rfl
theorem wd1213 : Cond.methodLink "BakeryNight" (233 : Nat) ({ cls := "BakeryNight$Night", name := "leftOverCents", desc := "(LBakeryNight$Bakery;II)I" } : Jvm.MethodName) ∈ GW := gwt4 103 (by decide +kernel) rfl
theorem wd1214 : Cond.instanceMethod ({ cls := "BakeryNight$Night", name := "leftOverCents", desc := "(LBakeryNight$Bakery;II)I" } : Jvm.MethodName) ∈ GW := gwt4 104 (by decide +kernel) rfl
theorem wd1215 : Cond.selects "BakeryNight$Night" ({ cls := "BakeryNight$Night", name := "leftOverCents", desc := "(LBakeryNight$Bakery;II)I" } : Jvm.MethodName) ({ cls := "BakeryNight$Night", name := "leftOverCents", desc := "(LBakeryNight$Bakery;II)I" } : Jvm.MethodName) ∈ GW := gwt4 105 (by decide +kernel) rfl
theorem wd1216 : Cond.code ({ cls := "BakeryNight$Night", name := "leftOverCents", desc := "(LBakeryNight$Bakery;II)I" } : Jvm.MethodName) prog_6_method_17_code (7 : Nat) (Option.some Jvm.ClassFile.FieldType.int) ∈ GW := gwt4 106 (by decide +kernel) rfl
theorem wd1217 : Cond.methodLink "BakeryNight$Night" (249 : Nat) ({ cls := "BakeryNight$Night", name := "leftOver", desc := "(LBakeryNight$Bakery;I)I" } : Jvm.MethodName) ∈ GW := gwt4 107 (by decide +kernel) rfl
theorem wd1218 : Cond.methodLink "BakeryNightLaw" (140 : Nat) ({ cls := "BakeryNight", name := "failedShops", desc := "()I" } : Jvm.MethodName) ∈ GW := gwt4 108 (by decide +kernel) rfl
theorem wd1219 : Cond.instanceMethod ({ cls := "BakeryNight", name := "failedShops", desc := "()I" } : Jvm.MethodName) ∈ GW := gwt4 109 (by decide +kernel) rfl
theorem wd1220 : Cond.selects "BakeryNight" ({ cls := "BakeryNight", name := "failedShops", desc := "()I" } : Jvm.MethodName) ({ cls := "BakeryNight", name := "failedShops", desc := "()I" } : Jvm.MethodName) ∈ GW := gwt4 110 (by decide +kernel) rfl
theorem wd1221 : Cond.code ({ cls := "BakeryNight", name := "failedShops", desc := "()I" } : Jvm.MethodName) prog_1_method_32_code (2 : Nat) (Option.some Jvm.ClassFile.FieldType.int) ∈ GW := gwt4 111 (by decide +kernel) rfl
theorem wd1222 : Cond.methodLink "BakeryNight" (245 : Nat) ({ cls := "BakeryNight", name := "bestPlan", desc := "()LBakeryNight$Plan;" } : Jvm.MethodName) ∈ GW := gwt4 112 (by decide +kernel) rfl
theorem wd1224 : Cond.instanceMethod ({ cls := "BakeryNight", name := "bestPlan", desc := "()LBakeryNight$Plan;" } : Jvm.MethodName) ∈ GW := gwt4 114 (by decide +kernel) rfl
theorem wd1225 : Cond.code ({ cls := "BakeryNight", name := "bestPlan", desc := "()LBakeryNight$Plan;" } : Jvm.MethodName) prog_1_method_31_code (1 : Nat) (Option.some (Jvm.ClassFile.FieldType.object "BakeryNight$Plan")) ∈ GW := gwt4 115 (by decide +kernel) rfl
theorem wd1226 : Cond.methodLink "BakeryNight" (237 : Nat) ({ cls := "BakeryNight$Plan", name := "gather", desc := "(LBakeryNight$Bakery;LBakeryNight$Night;)V" } : Jvm.MethodName) ∈ GW := gwt4 116 (by decide +kernel) rfl
theorem wd1227 : Cond.instanceMethod ({ cls := "BakeryNight$Plan", name := "gather", desc := "(LBakeryNight$Bakery;LBakeryNight$Night;)V" } : Jvm.MethodName) ∈ GW := gwt4 117 (by decide +kernel) rfl
theorem wd1228 : Cond.selects "BakeryNight$Plan" ({ cls := "BakeryNight$Plan", name := "gather", desc := "(LBakeryNight$Bakery;LBakeryNight$Night;)V" } : Jvm.MethodName) ({ cls := "BakeryNight$Plan", name := "gather", desc := "(LBakeryNight$Bakery;LBakeryNight$Night;)V" } : Jvm.MethodName) ∈ GW := gwt4 118 (by decide +kernel) rfl
theorem wd1229 : Cond.code ({ cls := "BakeryNight$Plan", name := "gather", desc := "(LBakeryNight$Bakery;LBakeryNight$Night;)V" } : Jvm.MethodName) prog_10_method_2_code (6 : Nat) (Option.none : Option Jvm.ClassFile.FieldType) ∈ GW := gwt4 119 (by decide +kernel) rfl
theorem wd1230 : Cond.methodLink "BakeryNight$Plan" (49 : Nat) ({ cls := "java/util/Arrays", name := "fill", desc := "([II)V" } : Jvm.MethodName) ∈ GW := gwt4 120 (by decide +kernel) rfl
theorem wd1231 : Cond.methodLink "BakeryNight$Plan" (62 : Nat) ({ cls := "BakeryNight$Bakery", name := "hasOrder", desc := "(I)Z" } : Jvm.MethodName) ∈ GW := gwt4 121 (by decide +kernel) rfl
theorem wd1232 : Cond.methodLink "BakeryNight$Plan" (83 : Nat) ({ cls := "java/lang/Math", name := "min", desc := "(II)I" } : Jvm.MethodName) ∈ GW := gwt4 122 (by decide +kernel) rfl
theorem wd1233 : Cond.methodLink "BakeryNight$Plan" (92 : Nat) ({ cls := "java/lang/Math", name := "max", desc := "(II)I" } : Jvm.MethodName) ∈ GW := gwt4 123 (by decide +kernel) rfl
theorem wd1234 : Cond.methodLink "BakeryNight" (241 : Nat) ({ cls := "BakeryNight$Plan", name := "choose", desc := "(LBakeryNight$Bakery;)V" } : Jvm.MethodName) ∈ GW := gwt4 124 (by decide +kernel) rfl
theorem wd1235 : Cond.instanceMethod ({ cls := "BakeryNight$Plan", name := "choose", desc := "(LBakeryNight$Bakery;)V" } : Jvm.MethodName) ∈ GW := gwt4 125 (by decide +kernel) rfl
theorem wd1236 : Cond.selects "BakeryNight$Plan" ({ cls := "BakeryNight$Plan", name := "choose", desc := "(LBakeryNight$Bakery;)V" } : Jvm.MethodName) ({ cls := "BakeryNight$Plan", name := "choose", desc := "(LBakeryNight$Bakery;)V" } : Jvm.MethodName) ∈ GW := gwt4 126 (by decide +kernel) rfl
theorem wd1237 : Cond.code ({ cls := "BakeryNight$Plan", name := "choose", desc := "(LBakeryNight$Bakery;)V" } : Jvm.MethodName) prog_10_method_3_code (8 : Nat) (Option.none : Option Jvm.ClassFile.FieldType) ∈ GW := gwt4 127 (by decide +kernel) rfl
theorem wd1238 : Cond.methodLink "BakeryNight$Plan" (102 : Nat) ({ cls := "BakeryNight$Plan", name := "measureSets", desc := "(LBakeryNight$Bakery;)V" } : Jvm.MethodName) ∈ GW := gwt4 128 (by decide +kernel) rfl
theorem wd1240 : Cond.instanceMethod ({ cls := "BakeryNight$Plan", name := "measureSets", desc := "(LBakeryNight$Bakery;)V" } : Jvm.MethodName) ∈ GW := gwt4 130 (by decide +kernel) rfl
theorem wd1241 : Cond.code ({ cls := "BakeryNight$Plan", name := "measureSets", desc := "(LBakeryNight$Bakery;)V" } : Jvm.MethodName) prog_10_method_8_code (3 : Nat) (Option.none : Option Jvm.ClassFile.FieldType) ∈ GW := gwt4 131 (by decide +kernel) rfl
theorem wd1242 : Cond.methodLink "BakeryNight$Plan" (133 : Nat) ({ cls := "BakeryNight$Plan", name := "drive", desc := "(LBakeryNight$Roads;I)V" } : Jvm.MethodName) ∈ GW := gwt4 132 (by decide +kernel) rfl
theorem wd1244 : Cond.instanceMethod ({ cls := "BakeryNight$Plan", name := "drive", desc := "(LBakeryNight$Roads;I)V" } : Jvm.MethodName) ∈ GW := gwt4 134 (by decide +kernel) rfl
theorem wd1245 : Cond.code ({ cls := "BakeryNight$Plan", name := "drive", desc := "(LBakeryNight$Roads;I)V" } : Jvm.MethodName) prog_10_method_9_code (9 : Nat) (Option.none : Option Jvm.ClassFile.FieldType) ∈ GW := gwt4 135 (by decide +kernel) rfl
theorem wd1246 : Cond.methodLink "BakeryNight$Plan" (150 : Nat) ({ cls := "BakeryNight$Plan", name := "departureFor", desc := "(I)I" } : Jvm.MethodName) ∈ GW := gwt4 136 (by decide +kernel) rfl
theorem wd1248 : Cond.instanceMethod ({ cls := "BakeryNight$Plan", name := "departureFor", desc := "(I)I" } : Jvm.MethodName) ∈ GW := gwt4 138 (by decide +kernel) rfl
theorem wd1249 : Cond.code ({ cls := "BakeryNight$Plan", name := "departureFor", desc := "(I)I" } : Jvm.MethodName) prog_10_method_10_code (4 : Nat) (Option.some Jvm.ClassFile.FieldType.int) ∈ GW := gwt4 139 (by decide +kernel) rfl
theorem wd1250 : Cond.methodLink "BakeryNight$Plan" (153 : Nat) ({ cls := "BakeryNight$Roads", name := "nextStop", desc := "(II)I" } : Jvm.MethodName) ∈ GW := gwt4 140 (by decide +kernel) rfl
theorem wd1251 : Cond.methodLink "BakeryNight$Plan" (156 : Nat) ({ cls := "BakeryNight$Roads", name := "between", desc := "(II)I" } : Jvm.MethodName) ∈ GW := gwt4 141 (by decide +kernel) rfl
theorem wd1252 : Cond.methodLink "BakeryNight$Plan" (106 : Nat) ({ cls := "BakeryNight$Plan", name := "firstWay", desc := "(LBakeryNight$Bakery;)I" } : Jvm.MethodName) ∈ GW := gwt4 142 (by decide +kernel) rfl
theorem wd1254 : Cond.instanceMethod ({ cls := "BakeryNight$Plan", name := "firstWay", desc := "(LBakeryNight$Bakery;)I" } : Jvm.MethodName) ∈ GW := gwt4 144 (by decide +kernel) rfl
theorem wd1255 : Cond.code ({ cls := "BakeryNight$Plan", name := "firstWay", desc := "(LBakeryNight$Bakery;)I" } : Jvm.MethodName) prog_10_method_5_code (4 : Nat) (Option.some Jvm.ClassFile.FieldType.int) ∈ GW := gwt4 145 (by decide +kernel) rfl
theorem wd1256 : Cond.methodLink "BakeryNight$Plan" (137 : Nat) ({ cls := "BakeryNight$Roads", name := "restOfRoute", desc := "(II)I" } : Jvm.MethodName) ∈ GW := gwt4 146 (by decide +kernel) rfl
theorem wd1257 : Cond.constant "BakeryNight$Plan" (140 : Nat) (1000000 : Int32) ∈ GW := gwt4 147 (by decide +kernel) rfl
theorem wd1258 : Cond.methodLink "BakeryNight$Plan" (141 : Nat) ({ cls := "java/lang/Integer", name := "bitCount", desc := "(I)I" } : Jvm.MethodName) ∈ GW := gwt4 148 (by decide +kernel) rfl
theorem wd1259 : Cond.methodLink "BakeryNight$Plan" (110 : Nat) ({ cls := "BakeryNight$Plan", name := "canCarry", desc := "(LBakeryNight$Bakery;)Z" } : Jvm.MethodName) ∈ GW := gwt4 149 (by decide +kernel) rfl
theorem wd1261 : Cond.instanceMethod ({ cls := "BakeryNight$Plan", name := "canCarry", desc := "(LBakeryNight$Bakery;)Z" } : Jvm.MethodName) ∈ GW := gwt4 151 (by decide +kernel) rfl
theorem wd1262 : Cond.code ({ cls := "BakeryNight$Plan", name := "canCarry", desc := "(LBakeryNight$Bakery;)Z" } : Jvm.MethodName) prog_10_method_7_code (3 : Nat) (Option.some Jvm.ClassFile.FieldType.boolean) ∈ GW := gwt4 152 (by decide +kernel) rfl
theorem wd1263 : Cond.methodLink "BakeryNight$Plan" (120 : Nat) ({ cls := "java/lang/System", name := "arraycopy", desc := "(Ljava/lang/Object;ILjava/lang/Object;II)V" } : Jvm.MethodName) ∈ GW := gwt4 153 (by decide +kernel) rfl
theorem wd1264 : Cond.methodLink "BakeryNight$Plan" (126 : Nat) ({ cls := "BakeryNight$Plan", name := "nextWay", desc := "(LBakeryNight$Bakery;)V" } : Jvm.MethodName) ∈ GW := gwt4 154 (by decide +kernel) rfl
theorem wd1266 : Cond.instanceMethod ({ cls := "BakeryNight$Plan", name := "nextWay", desc := "(LBakeryNight$Bakery;)V" } : Jvm.MethodName) ∈ GW := gwt4 156 (by decide +kernel) rfl
theorem wd1267 : Cond.code ({ cls := "BakeryNight$Plan", name := "nextWay", desc := "(LBakeryNight$Bakery;)V" } : Jvm.MethodName) prog_10_method_6_code (5 : Nat) (Option.none : Option Jvm.ClassFile.FieldType) ∈ GW := gwt4 157 (by decide +kernel) rfl
theorem wd1268 : Cond.methodLink "BakeryNight" (252 : Nat) ({ cls := "BakeryNight$Plan", name := "missedTotal", desc := "()I" } : Jvm.MethodName) ∈ GW := gwt4 158 (by decide +kernel) rfl
theorem wd1269 : Cond.instanceMethod ({ cls := "BakeryNight$Plan", name := "missedTotal", desc := "()I" } : Jvm.MethodName) ∈ GW := gwt4 159 (by decide +kernel) rfl
theorem wd1270 : Cond.selects "BakeryNight$Plan" ({ cls := "BakeryNight$Plan", name := "missedTotal", desc := "()I" } : Jvm.MethodName) ({ cls := "BakeryNight$Plan", name := "missedTotal", desc := "()I" } : Jvm.MethodName) ∈ GW := gwt4 160 (by decide +kernel) rfl
theorem wd1271 : Cond.code ({ cls := "BakeryNight$Plan", name := "missedTotal", desc := "()I" } : Jvm.MethodName) prog_10_method_11_code (1 : Nat) (Option.some Jvm.ClassFile.FieldType.int) ∈ GW := gwt4 161 (by decide +kernel) rfl
theorem wd1272 : Cond.methodLink "BakeryNightLaw" (144 : Nat) ({ cls := "BakeryNight", name := "vanOf", desc := "(I)I" } : Jvm.MethodName) ∈ GW := gwt4 162 (by decide +kernel) rfl
theorem wd1273 : Cond.instanceMethod ({ cls := "BakeryNight", name := "vanOf", desc := "(I)I" } : Jvm.MethodName) ∈ GW := gwt4 163 (by decide +kernel) rfl
theorem wd1274 : Cond.selects "BakeryNight" ({ cls := "BakeryNight", name := "vanOf", desc := "(I)I" } : Jvm.MethodName) ({ cls := "BakeryNight", name := "vanOf", desc := "(I)I" } : Jvm.MethodName) ∈ GW := gwt4 164 (by decide +kernel) rfl
theorem wd1275 : Cond.code ({ cls := "BakeryNight", name := "vanOf", desc := "(I)I" } : Jvm.MethodName) prog_1_method_33_code (2 : Nat) (Option.some Jvm.ClassFile.FieldType.int) ∈ GW := gwt4 165 (by decide +kernel) rfl
theorem wd1276 : Cond.methodLink "BakeryNight" (258 : Nat) ({ cls := "BakeryNight$Plan", name := "vanFor", desc := "(I)I" } : Jvm.MethodName) ∈ GW := gwt4 166 (by decide +kernel) rfl
theorem wd1277 : Cond.instanceMethod ({ cls := "BakeryNight$Plan", name := "vanFor", desc := "(I)I" } : Jvm.MethodName) ∈ GW := gwt4 167 (by decide +kernel) rfl
theorem wd1278 : Cond.selects "BakeryNight$Plan" ({ cls := "BakeryNight$Plan", name := "vanFor", desc := "(I)I" } : Jvm.MethodName) ({ cls := "BakeryNight$Plan", name := "vanFor", desc := "(I)I" } : Jvm.MethodName) ∈ GW := gwt4 168 (by decide +kernel) rfl
theorem wd1279 : Cond.code ({ cls := "BakeryNight$Plan", name := "vanFor", desc := "(I)I" } : Jvm.MethodName) prog_10_method_12_code (3 : Nat) (Option.some Jvm.ClassFile.FieldType.int) ∈ GW := gwt4 169 (by decide +kernel) rfl
theorem wd1280 : Cond.methodLink "BakeryNightLaw" (148 : Nat) ({ cls := "BakeryNight", name := "arrivalMinute", desc := "(I)I" } : Jvm.MethodName) ∈ GW := gwt4 170 (by decide +kernel) rfl
theorem wd1281 : Cond.instanceMethod ({ cls := "BakeryNight", name := "arrivalMinute", desc := "(I)I" } : Jvm.MethodName) ∈ GW := gwt4 171 (by decide +kernel) rfl
theorem wd1282 : Cond.selects "BakeryNight" ({ cls := "BakeryNight", name := "arrivalMinute", desc := "(I)I" } : Jvm.MethodName) ({ cls := "BakeryNight", name := "arrivalMinute", desc := "(I)I" } : Jvm.MethodName) ∈ GW := gwt4 172 (by decide +kernel) rfl
theorem wd1283 : Cond.code ({ cls := "BakeryNight", name := "arrivalMinute", desc := "(I)I" } : Jvm.MethodName) prog_1_method_34_code (3 : Nat) (Option.some Jvm.ClassFile.FieldType.int) ∈ GW := gwt4 173 (by decide +kernel) rfl
theorem wd1284 : Cond.methodLink "BakeryNightLaw" (152 : Nat) ({ cls := "BakeryNight", name := "departureMinute", desc := "(I)I" } : Jvm.MethodName) ∈ GW := gwt4 174 (by decide +kernel) rfl
theorem wd1285 : Cond.instanceMethod ({ cls := "BakeryNight", name := "departureMinute", desc := "(I)I" } : Jvm.MethodName) ∈ GW := gwt4 175 (by decide +kernel) rfl
theorem wd1286 : Cond.selects "BakeryNight" ({ cls := "BakeryNight", name := "departureMinute", desc := "(I)I" } : Jvm.MethodName) ({ cls := "BakeryNight", name := "departureMinute", desc := "(I)I" } : Jvm.MethodName) ∈ GW := gwt4 176 (by decide +kernel) rfl
theorem wd1287 : Cond.code ({ cls := "BakeryNight", name := "departureMinute", desc := "(I)I" } : Jvm.MethodName) prog_1_method_35_code (2 : Nat) (Option.some Jvm.ClassFile.FieldType.int) ∈ GW := gwt4 177 (by decide +kernel) rfl
theorem wd1288 : Cond.methodLink "BakeryNight" (264 : Nat) ({ cls := "BakeryNight$Bakery", name := "hasVan", desc := "(I)Z" } : Jvm.MethodName) ∈ GW := gwt4 178 (by decide +kernel) rfl
theorem wd1289 : Cond.instanceMethod ({ cls := "BakeryNight$Bakery", name := "hasVan", desc := "(I)Z" } : Jvm.MethodName) ∈ GW := gwt4 179 (by decide +kernel) rfl
theorem wd1290 : Cond.selects "BakeryNight$Bakery" ({ cls := "BakeryNight$Bakery", name := "hasVan", desc := "(I)Z" } : Jvm.MethodName) ({ cls := "BakeryNight$Bakery", name := "hasVan", desc := "(I)Z" } : Jvm.MethodName) ∈ GW := gwt4 180 (by decide +kernel) rfl
theorem wd1291 : Cond.code ({ cls := "BakeryNight$Bakery", name := "hasVan", desc := "(I)Z" } : Jvm.MethodName) prog_3_method_6_code (2 : Nat) (Option.some Jvm.ClassFile.FieldType.boolean) ∈ GW := gwt4 181 (by decide +kernel) rfl
theorem wd1292 : Cond.methodLink "BakeryNight" (267 : Nat) ({ cls := "BakeryNight$Plan", name := "departureOf", desc := "(I)I" } : Jvm.MethodName) ∈ GW := gwt4 182 (by decide +kernel) rfl
theorem wd1293 : Cond.instanceMethod ({ cls := "BakeryNight$Plan", name := "departureOf", desc := "(I)I" } : Jvm.MethodName) ∈ GW := gwt4 183 (by decide +kernel) rfl
theorem wd1294 : Cond.selects "BakeryNight$Plan" ({ cls := "BakeryNight$Plan", name := "departureOf", desc := "(I)I" } : Jvm.MethodName) ({ cls := "BakeryNight$Plan", name := "departureOf", desc := "(I)I" } : Jvm.MethodName) ∈ GW := gwt4 184 (by decide +kernel) rfl
theorem wd1295 : Cond.code ({ cls := "BakeryNight$Plan", name := "departureOf", desc := "(I)I" } : Jvm.MethodName) prog_10_method_13_code (2 : Nat) (Option.some Jvm.ClassFile.FieldType.int) ∈ GW := gwt4 185 (by decide +kernel) rfl
theorem wd1296 : Cond.methodLink "BakeryNightLaw" (156 : Nat) ({ cls := "BakeryNight", name := "staleOrders", desc := "()I" } : Jvm.MethodName) ∈ GW := gwt4 186 (by decide +kernel) rfl
theorem wd1297 : Cond.instanceMethod ({ cls := "BakeryNight", name := "staleOrders", desc := "()I" } : Jvm.MethodName) ∈ GW := gwt4 187 (by decide +kernel) rfl
theorem wd1298 : Cond.selects "BakeryNight" ({ cls := "BakeryNight", name := "staleOrders", desc := "()I" } : Jvm.MethodName) ({ cls := "BakeryNight", name := "staleOrders", desc := "()I" } : Jvm.MethodName) ∈ GW := gwt4 188 (by decide +kernel) rfl
theorem wd1299 : Cond.code ({ cls := "BakeryNight", name := "staleOrders", desc := "()I" } : Jvm.MethodName) prog_1_method_36_code (2 : Nat) (Option.some Jvm.ClassFile.FieldType.int) ∈ GW := gwt4 189 (by decide +kernel) rfl
theorem wd1300 : Cond.methodLink "BakeryNight" (270 : Nat) ({ cls := "BakeryNight$Plan", name := "staleTotal", desc := "(LBakeryNight$Bakery;LBakeryNight$Night;)I" } : Jvm.MethodName) ∈ GW := gwt4 190 (by decide +kernel) rfl
theorem wd1301 : Cond.instanceMethod ({ cls := "BakeryNight$Plan", name := "staleTotal", desc := "(LBakeryNight$Bakery;LBakeryNight$Night;)I" } : Jvm.MethodName) ∈ GW := gwt4 191 (by decide +kernel) rfl
theorem wd1302 : Cond.selects "BakeryNight$Plan" ({ cls := "BakeryNight$Plan", name := "staleTotal", desc := "(LBakeryNight$Bakery;LBakeryNight$Night;)I" } : Jvm.MethodName) ({ cls := "BakeryNight$Plan", name := "staleTotal", desc := "(LBakeryNight$Bakery;LBakeryNight$Night;)I" } : Jvm.MethodName) ∈ GW := gwt4 192 (by decide +kernel) rfl
theorem wd1303 : Cond.code ({ cls := "BakeryNight$Plan", name := "staleTotal", desc := "(LBakeryNight$Bakery;LBakeryNight$Night;)I" } : Jvm.MethodName) prog_10_method_14_code (7 : Nat) (Option.some Jvm.ClassFile.FieldType.int) ∈ GW := gwt4 193 (by decide +kernel) rfl
theorem wd1304 : Cond.methodLink "BakeryNight$Plan" (159 : Nat) ({ cls := "BakeryNight$Plan", name := "vanFor", desc := "(I)I" } : Jvm.MethodName) ∈ GW := gwt4 194 (by decide +kernel) rfl
theorem wd1305 : Cond.methodLink "BakeryNightLaw" (160 : Nat) ({ cls := "BakeryNight", name := "latestStart", desc := "()I" } : Jvm.MethodName) ∈ GW := gwt4 195 (by decide +kernel) rfl
theorem wd1306 : Cond.instanceMethod ({ cls := "BakeryNight", name := "latestStart", desc := "()I" } : Jvm.MethodName) ∈ GW := gwt4 196 (by decide +kernel) rfl
theorem wd1307 : Cond.selects "BakeryNight" ({ cls := "BakeryNight", name := "latestStart", desc := "()I" } : Jvm.MethodName) ({ cls := "BakeryNight", name := "latestStart", desc := "()I" } : Jvm.MethodName) ∈ GW := gwt4 197 (by decide +kernel) rfl
theorem wd1308 : Cond.code ({ cls := "BakeryNight", name := "latestStart", desc := "()I" } : Jvm.MethodName) prog_1_method_37_code (1 : Nat) (Option.some Jvm.ClassFile.FieldType.int) ∈ GW := gwt4 198 (by decide +kernel) rfl
theorem wd1309 : Cond.methodLink "BakeryNight" (274 : Nat) ({ cls := "BakeryNight", name := "latestAsItIs", desc := "()I" } : Jvm.MethodName) ∈ GW := gwt4 199 (by decide +kernel) rfl
theorem wd1311 : Cond.instanceMethod ({ cls := "BakeryNight", name := "latestAsItIs", desc := "()I" } : Jvm.MethodName) ∈ GW := gwt4 201 (by decide +kernel) rfl
theorem wd1312 : Cond.code ({ cls := "BakeryNight", name := "latestAsItIs", desc := "()I" } : Jvm.MethodName) prog_1_method_40_code (1 : Nat) (Option.some Jvm.ClassFile.FieldType.int) ∈ GW := gwt4 202 (by decide +kernel) rfl
theorem wd1313 : Cond.methodLink "BakeryNight" (294 : Nat) ({ cls := "BakeryNight$Plan", name := "latest", desc := "(LBakeryNight$Bakery;)I" } : Jvm.MethodName) ∈ GW := gwt4 203 (by decide +kernel) rfl
theorem wd1314 : Cond.instanceMethod ({ cls := "BakeryNight$Plan", name := "latest", desc := "(LBakeryNight$Bakery;)I" } : Jvm.MethodName) ∈ GW := gwt4 204 (by decide +kernel) rfl
theorem wd1315 : Cond.selects "BakeryNight$Plan" ({ cls := "BakeryNight$Plan", name := "latest", desc := "(LBakeryNight$Bakery;)I" } : Jvm.MethodName) ({ cls := "BakeryNight$Plan", name := "latest", desc := "(LBakeryNight$Bakery;)I" } : Jvm.MethodName) ∈ GW := gwt4 205 (by decide +kernel) rfl
theorem wd1316 : Cond.code ({ cls := "BakeryNight$Plan", name := "latest", desc := "(LBakeryNight$Bakery;)I" } : Jvm.MethodName) prog_10_method_4_code (7 : Nat) (Option.some Jvm.ClassFile.FieldType.int) ∈ GW := gwt4 206 (by decide +kernel) rfl
theorem wd1317 : Cond.methodLink "BakeryNightLaw" (164 : Nat) ({ cls := "BakeryNight", name := "latestStartWith", desc := "(I)I" } : Jvm.MethodName) ∈ GW := gwt4 207 (by decide +kernel) rfl
theorem wd1318 : Cond.instanceMethod ({ cls := "BakeryNight", name := "latestStartWith", desc := "(I)I" } : Jvm.MethodName) ∈ GW := gwt4 208 (by decide +kernel) rfl
theorem wd1319 : Cond.selects "BakeryNight" ({ cls := "BakeryNight", name := "latestStartWith", desc := "(I)I" } : Jvm.MethodName) ({ cls := "BakeryNight", name := "latestStartWith", desc := "(I)I" } : Jvm.MethodName) ∈ GW := gwt4 209 (by decide +kernel) rfl
theorem wd1320 : Cond.code ({ cls := "BakeryNight", name := "latestStartWith", desc := "(I)I" } : Jvm.MethodName) prog_1_method_38_code (3 : Nat) (Option.some Jvm.ClassFile.FieldType.int) ∈ GW := gwt4 210 (by decide +kernel) rfl
theorem wd1321 : Cond.methodLink "BakeryNight" (277 : Nat) ({ cls := "BakeryNight$Bakery", name := "improve", desc := "(II)V" } : Jvm.MethodName) ∈ GW := gwt4 211 (by decide +kernel) rfl
theorem wd1322 : Cond.instanceMethod ({ cls := "BakeryNight$Bakery", name := "improve", desc := "(II)V" } : Jvm.MethodName) ∈ GW := gwt4 212 (by decide +kernel) rfl
theorem wd1323 : Cond.selects "BakeryNight$Bakery" ({ cls := "BakeryNight$Bakery", name := "improve", desc := "(II)V" } : Jvm.MethodName) ({ cls := "BakeryNight$Bakery", name := "improve", desc := "(II)V" } : Jvm.MethodName) ∈ GW := gwt4 213 (by decide +kernel) rfl
theorem wd1324 : Cond.code ({ cls := "BakeryNight$Bakery", name := "improve", desc := "(II)V" } : Jvm.MethodName) prog_3_method_17_code (4 : Nat) (Option.none : Option Jvm.ClassFile.FieldType) ∈ GW := gwt4 214 (by decide +kernel) rfl
theorem wd1325 : Cond.constant "BakeryNight$Bakery" (126 : Nat) (1000000 : Int32) ∈ GW := gwt4 215 (by decide +kernel) rfl
theorem wd1326 : Cond.methodLink "BakeryNightLaw" (168 : Nat) ({ cls := "BakeryNight", name := "vitalStreet", desc := "()I" } : Jvm.MethodName) ∈ GW := gwt4 216 (by decide +kernel) rfl
theorem wd1327 : Cond.instanceMethod ({ cls := "BakeryNight", name := "vitalStreet", desc := "()I" } : Jvm.MethodName) ∈ GW := gwt4 217 (by decide +kernel) rfl
theorem wd1328 : Cond.selects "BakeryNight" ({ cls := "BakeryNight", name := "vitalStreet", desc := "()I" } : Jvm.MethodName) ({ cls := "BakeryNight", name := "vitalStreet", desc := "()I" } : Jvm.MethodName) ∈ GW := gwt4 218 (by decide +kernel) rfl
theorem wd1329 : Cond.code ({ cls := "BakeryNight", name := "vitalStreet", desc := "()I" } : Jvm.MethodName) prog_1_method_39_code (6 : Nat) (Option.some Jvm.ClassFile.FieldType.int) ∈ GW := gwt4 219 (by decide +kernel) rfl
theorem wd1330 : Cond.methodLink "BakeryNight" (291 : Nat) ({ cls := "BakeryNight$Roads", name := "explore", desc := "(II)V" } : Jvm.MethodName) ∈ GW := gwt4 220 (by decide +kernel) rfl
theorem wd1331 : Cond.methodLink "BakeryNightLaw" (172 : Nat) ({ cls := "BakeryNight", name := "setRoom", desc := "(I)I" } : Jvm.MethodName) ∈ GW := gwt4 221 (by decide +kernel) rfl
theorem wd1332 : Cond.instanceMethod ({ cls := "BakeryNight", name := "setRoom", desc := "(I)I" } : Jvm.MethodName) ∈ GW := gwt4 222 (by decide +kernel) rfl
theorem wd1333 : Cond.selects "BakeryNight" ({ cls := "BakeryNight", name := "setRoom", desc := "(I)I" } : Jvm.MethodName) ({ cls := "BakeryNight", name := "setRoom", desc := "(I)I" } : Jvm.MethodName) ∈ GW := gwt4 223 (by decide +kernel) rfl
theorem wd1334 : Cond.code ({ cls := "BakeryNight", name := "setRoom", desc := "(I)I" } : Jvm.MethodName) prog_1_method_42_code (3 : Nat) (Option.some Jvm.ClassFile.FieldType.int) ∈ GW := gwt4 224 (by decide +kernel) rfl
theorem wd1335 : Cond.methodLink "BakeryNight" (305 : Nat) ({ cls := "BakeryNight", name := "recordChange", desc := "(III)V" } : Jvm.MethodName) ∈ GW := gwt4 225 (by decide +kernel) rfl
theorem wd1337 : Cond.instanceMethod ({ cls := "BakeryNight", name := "recordChange", desc := "(III)V" } : Jvm.MethodName) ∈ GW := gwt4 227 (by decide +kernel) rfl
theorem wd1338 : Cond.code ({ cls := "BakeryNight", name := "recordChange", desc := "(III)V" } : Jvm.MethodName) prog_1_method_41_code (4 : Nat) (Option.none : Option Jvm.ClassFile.FieldType) ∈ GW := gwt4 228 (by decide +kernel) rfl
theorem wd1339 : Cond.methodLink "BakeryNight" (298 : Nat) ({ cls := "BakeryNight$History", name := "add", desc := "(III)V" } : Jvm.MethodName) ∈ GW := gwt4 229 (by decide +kernel) rfl
theorem wd1340 : Cond.instanceMethod ({ cls := "BakeryNight$History", name := "add", desc := "(III)V" } : Jvm.MethodName) ∈ GW := gwt4 230 (by decide +kernel) rfl
theorem wd1341 : Cond.selects "BakeryNight$History" ({ cls := "BakeryNight$History", name := "add", desc := "(III)V" } : Jvm.MethodName) ({ cls := "BakeryNight$History", name := "add", desc := "(III)V" } : Jvm.MethodName) ∈ GW := gwt4 231 (by decide +kernel) rfl
theorem wd1342 : Cond.code ({ cls := "BakeryNight$History", name := "add", desc := "(III)V" } : Jvm.MethodName) prog_5_method_3_code (4 : Nat) (Option.none : Option Jvm.ClassFile.FieldType) ∈ GW := gwt4 232 (by decide +kernel) rfl
theorem wd1343 : Cond.methodLink "BakeryNight$History" (23 : Nat) ({ cls := "BakeryNight$History", name := "dropOldest", desc := "()V" } : Jvm.MethodName) ∈ GW := gwt4 233 (by decide +kernel) rfl
theorem wd1345 : Cond.instanceMethod ({ cls := "BakeryNight$History", name := "dropOldest", desc := "()V" } : Jvm.MethodName) ∈ GW := gwt4 235 (by decide +kernel) rfl
theorem wd1346 : Cond.code ({ cls := "BakeryNight$History", name := "dropOldest", desc := "()V" } : Jvm.MethodName) prog_5_method_4_code (1 : Nat) (Option.none : Option Jvm.ClassFile.FieldType) ∈ GW := gwt4 236 (by decide +kernel) rfl
theorem wd1347 : Cond.methodLink "BakeryNight$History" (26 : Nat) ({ cls := "java/lang/System", name := "arraycopy", desc := "(Ljava/lang/Object;ILjava/lang/Object;II)V" } : Jvm.MethodName) ∈ GW := gwt4 237 (by decide +kernel) rfl
theorem wd1348 : Cond.methodLink "BakeryNightLaw" (176 : Nat) ({ cls := "BakeryNight", name := "breakOven", desc := "(IZ)Z" } : Jvm.MethodName) ∈ GW := gwt4 238 (by decide +kernel) rfl
theorem wd1349 : Cond.instanceMethod ({ cls := "BakeryNight", name := "breakOven", desc := "(IZ)Z" } : Jvm.MethodName) ∈ GW := gwt4 239 (by decide +kernel) rfl
theorem wd1350 : Cond.selects "BakeryNight" ({ cls := "BakeryNight", name := "breakOven", desc := "(IZ)Z" } : Jvm.MethodName) ({ cls := "BakeryNight", name := "breakOven", desc := "(IZ)Z" } : Jvm.MethodName) ∈ GW := gwt5 0 (by decide +kernel) rfl
theorem wd1351 : Cond.code ({ cls := "BakeryNight", name := "breakOven", desc := "(IZ)Z" } : Jvm.MethodName) prog_1_method_43_code (4 : Nat) (Option.some Jvm.ClassFile.FieldType.boolean) ∈ GW := gwt5 1 (by decide +kernel) rfl
theorem wd1352 : Cond.methodLink "BakeryNightLaw" (181 : Nat) ({ cls := "BakeryNight", name := "closeStreet", desc := "(IZ)Z" } : Jvm.MethodName) ∈ GW := gwt5 2 (by decide +kernel) rfl
theorem wd1353 : Cond.instanceMethod ({ cls := "BakeryNight", name := "closeStreet", desc := "(IZ)Z" } : Jvm.MethodName) ∈ GW := gwt5 3 (by decide +kernel) rfl
theorem wd1354 : Cond.selects "BakeryNight" ({ cls := "BakeryNight", name := "closeStreet", desc := "(IZ)Z" } : Jvm.MethodName) ({ cls := "BakeryNight", name := "closeStreet", desc := "(IZ)Z" } : Jvm.MethodName) ∈ GW := gwt5 4 (by decide +kernel) rfl
theorem wd1355 : Cond.code ({ cls := "BakeryNight", name := "closeStreet", desc := "(IZ)Z" } : Jvm.MethodName) prog_1_method_44_code (4 : Nat) (Option.some Jvm.ClassFile.FieldType.boolean) ∈ GW := gwt5 5 (by decide +kernel) rfl
theorem wd1356 : Cond.methodLink "BakeryNight" (317 : Nat) ({ cls := "BakeryNight$Bakery", name := "markStreet", desc := "(IZ)V" } : Jvm.MethodName) ∈ GW := gwt5 6 (by decide +kernel) rfl
theorem wd1357 : Cond.instanceMethod ({ cls := "BakeryNight$Bakery", name := "markStreet", desc := "(IZ)V" } : Jvm.MethodName) ∈ GW := gwt5 7 (by decide +kernel) rfl
theorem wd1358 : Cond.selects "BakeryNight$Bakery" ({ cls := "BakeryNight$Bakery", name := "markStreet", desc := "(IZ)V" } : Jvm.MethodName) ({ cls := "BakeryNight$Bakery", name := "markStreet", desc := "(IZ)V" } : Jvm.MethodName) ∈ GW := gwt5 8 (by decide +kernel) rfl
theorem wd1359 : Cond.code ({ cls := "BakeryNight$Bakery", name := "markStreet", desc := "(IZ)V" } : Jvm.MethodName) prog_3_method_16_code (3 : Nat) (Option.none : Option Jvm.ClassFile.FieldType) ∈ GW := gwt5 9 (by decide +kernel) rfl
theorem wd1360 : Cond.methodLink "BakeryNightLaw" (185 : Nat) ({ cls := "BakeryNight", name := "addOrder", desc := "(IIII)I" } : Jvm.MethodName) ∈ GW := gwt5 10 (by decide +kernel) rfl
theorem wd1361 : Cond.instanceMethod ({ cls := "BakeryNight", name := "addOrder", desc := "(IIII)I" } : Jvm.MethodName) ∈ GW := gwt5 11 (by decide +kernel) rfl
theorem wd1362 : Cond.selects "BakeryNight" ({ cls := "BakeryNight", name := "addOrder", desc := "(IIII)I" } : Jvm.MethodName) ({ cls := "BakeryNight", name := "addOrder", desc := "(IIII)I" } : Jvm.MethodName) ∈ GW := gwt5 12 (by decide +kernel) rfl
theorem wd1363 : Cond.code ({ cls := "BakeryNight", name := "addOrder", desc := "(IIII)I" } : Jvm.MethodName) prog_1_method_45_code (6 : Nat) (Option.some Jvm.ClassFile.FieldType.int) ∈ GW := gwt5 13 (by decide +kernel) rfl
theorem wd1364 : Cond.methodLink "BakeryNight" (325 : Nat) ({ cls := "BakeryNight$Order", name := "set", desc := "(IIII)V" } : Jvm.MethodName) ∈ GW := gwt5 14 (by decide +kernel) rfl
theorem wd1365 : Cond.methodLink "BakeryNightLaw" (190 : Nat) ({ cls := "BakeryNight", name := "cancelOrder", desc := "(I)Z" } : Jvm.MethodName) ∈ GW := gwt5 15 (by decide +kernel) rfl
theorem wd1366 : Cond.instanceMethod ({ cls := "BakeryNight", name := "cancelOrder", desc := "(I)Z" } : Jvm.MethodName) ∈ GW := gwt5 16 (by decide +kernel) rfl
theorem wd1367 : Cond.selects "BakeryNight" ({ cls := "BakeryNight", name := "cancelOrder", desc := "(I)Z" } : Jvm.MethodName) ({ cls := "BakeryNight", name := "cancelOrder", desc := "(I)Z" } : Jvm.MethodName) ∈ GW := gwt5 17 (by decide +kernel) rfl
theorem wd1368 : Cond.code ({ cls := "BakeryNight", name := "cancelOrder", desc := "(I)Z" } : Jvm.MethodName) prog_1_method_46_code (2 : Nat) (Option.some Jvm.ClassFile.FieldType.boolean) ∈ GW := gwt5 18 (by decide +kernel) rfl
theorem wd1369 : Cond.methodLink "BakeryNightLaw" (194 : Nat) ({ cls := "BakeryNight", name := "moveOrder", desc := "(II)I" } : Jvm.MethodName) ∈ GW := gwt5 19 (by decide +kernel) rfl
theorem wd1370 : Cond.instanceMethod ({ cls := "BakeryNight", name := "moveOrder", desc := "(II)I" } : Jvm.MethodName) ∈ GW := gwt5 20 (by decide +kernel) rfl
theorem wd1371 : Cond.selects "BakeryNight" ({ cls := "BakeryNight", name := "moveOrder", desc := "(II)I" } : Jvm.MethodName) ({ cls := "BakeryNight", name := "moveOrder", desc := "(II)I" } : Jvm.MethodName) ∈ GW := gwt5 21 (by decide +kernel) rfl
theorem wd1372 : Cond.code ({ cls := "BakeryNight", name := "moveOrder", desc := "(II)I" } : Jvm.MethodName) prog_1_method_47_code (4 : Nat) (Option.some Jvm.ClassFile.FieldType.int) ∈ GW := gwt5 22 (by decide +kernel) rfl
theorem wd1373 : Cond.methodLink "BakeryNightLaw" (198 : Nat) ({ cls := "BakeryNight", name := "undo", desc := "()I" } : Jvm.MethodName) ∈ GW := gwt5 23 (by decide +kernel) rfl
theorem wd1374 : Cond.instanceMethod ({ cls := "BakeryNight", name := "undo", desc := "()I" } : Jvm.MethodName) ∈ GW := gwt5 24 (by decide +kernel) rfl
theorem wd1375 : Cond.selects "BakeryNight" ({ cls := "BakeryNight", name := "undo", desc := "()I" } : Jvm.MethodName) ({ cls := "BakeryNight", name := "undo", desc := "()I" } : Jvm.MethodName) ∈ GW := gwt5 25 (by decide +kernel) rfl
theorem wd1376 : Cond.code ({ cls := "BakeryNight", name := "undo", desc := "()I" } : Jvm.MethodName) prog_1_method_48_code (1 : Nat) (Option.some Jvm.ClassFile.FieldType.int) ∈ GW := gwt5 26 (by decide +kernel) rfl
theorem wd1377 : Cond.methodLink "BakeryNight" (340 : Nat) ({ cls := "BakeryNight$History", name := "takeBack", desc := "(LBakeryNight$Bakery;)V" } : Jvm.MethodName) ∈ GW := gwt5 27 (by decide +kernel) rfl
theorem wd1378 : Cond.instanceMethod ({ cls := "BakeryNight$History", name := "takeBack", desc := "(LBakeryNight$Bakery;)V" } : Jvm.MethodName) ∈ GW := gwt5 28 (by decide +kernel) rfl
theorem wd1379 : Cond.selects "BakeryNight$History" ({ cls := "BakeryNight$History", name := "takeBack", desc := "(LBakeryNight$Bakery;)V" } : Jvm.MethodName) ({ cls := "BakeryNight$History", name := "takeBack", desc := "(LBakeryNight$Bakery;)V" } : Jvm.MethodName) ∈ GW := gwt5 29 (by decide +kernel) rfl
theorem wd1380 : Cond.code ({ cls := "BakeryNight$History", name := "takeBack", desc := "(LBakeryNight$Bakery;)V" } : Jvm.MethodName) prog_5_method_5_code (3 : Nat) (Option.none : Option Jvm.ClassFile.FieldType) ∈ GW := gwt5 30 (by decide +kernel) rfl
theorem wd1381 : Cond.methodLink "BakeryNight$History" (47 : Nat) ({ cls := "BakeryNight$Bakery", name := "markStreet", desc := "(IZ)V" } : Jvm.MethodName) ∈ GW := gwt5 31 (by decide +kernel) rfl
theorem wd1382 : Cond.methodLink "BakeryNightLaw" (84 : Nat) ({ cls := "BakeryNightLaw", name := "batchDough", desc := "(LBakeryNight;I[J)I" } : Jvm.MethodName) ∈ GW := gwt5 32 (by decide +kernel) rfl
theorem wd1383 : Cond.static ({ cls := "BakeryNightLaw", name := "batchDough", desc := "(LBakeryNight;I[J)I" } : Jvm.MethodName) ∈ GW := gwt5 33 (by decide +kernel) rfl
theorem wd1385 : Cond.classLink "BakeryNightLaw" (13 : Nat) "java/lang/IllegalStateException" ∈ GW := gwt5 35 (by decide +kernel) rfl
theorem wd1386 : Cond.classLink "BakeryNightLaw" (15 : Nat) "java/lang/IndexOutOfBoundsException" ∈ GW := gwt5 36 (by decide +kernel) rfl
theorem wd1387 : Cond.methodLink "BakeryNightLaw" (7 : Nat) ({ cls := "BakeryNight", name := "batchDough", desc := "(I)I" } : Jvm.MethodName) ∈ GW := gwt5 37 (by decide +kernel) rfl
theorem wd1388 : Cond.instanceMethod ({ cls := "BakeryNight", name := "batchDough", desc := "(I)I" } : Jvm.MethodName) ∈ GW := gwt5 38 (by decide +kernel) rfl
theorem wd1389 : Cond.selects "BakeryNight" ({ cls := "BakeryNight", name := "batchDough", desc := "(I)I" } : Jvm.MethodName) ({ cls := "BakeryNight", name := "batchDough", desc := "(I)I" } : Jvm.MethodName) ∈ GW := gwt5 39 (by decide +kernel) rfl
theorem wd1390 : Cond.code ({ cls := "BakeryNight", name := "batchDough", desc := "(I)I" } : Jvm.MethodName) prog_1_method_18_code (2 : Nat) (Option.some Jvm.ClassFile.FieldType.int) ∈ GW := gwt5 40 (by decide +kernel) rfl
theorem wd1391 : Cond.classLink "BakeryNight" (162 : Nat) "java/lang/IllegalStateException" ∈ GW := gwt5 41 (by decide +kernel) rfl
theorem wd1392 : Cond.instantiable "java/lang/IllegalStateException" (6 : Nat) ∈ GW := gwt5 42 (by decide +kernel) rfl
theorem wd1400 : Cond.selects "java/lang/IllegalStateException" ({ cls := "java/lang/Throwable", name := "fillInStackTrace", desc := "(I)Ljava/lang/Throwable;" } : Jvm.MethodName) ({ cls := "java/lang/Throwable", name := "fillInStackTrace", desc := "(I)Ljava/lang/Throwable;" } : Jvm.MethodName) ∈ GW := gwt5 50 (by decide +kernel) rfl
theorem wd1401 : Cond.selects "java/lang/IllegalStateException" ({ cls := "java/lang/Throwable", name := "fillInStackTrace", desc := "()Ljava/lang/Throwable;" } : Jvm.MethodName) ({ cls := "java/lang/Throwable", name := "fillInStackTrace", desc := "()Ljava/lang/Throwable;" } : Jvm.MethodName) ∈ GW := gwt5 51 (by decide +kernel) rfl
theorem wd1412 : Cond.fieldLink "java/lang/Throwable" (198 : Nat) "java/lang/Throwable" "backtrace" "Ljava/lang/Object;" ∈ GW := gwt5 62 (by decide +kernel) rfl
theorem wd1414 : Cond.instanceMethod ({ cls := "java/lang/Throwable", name := "<init>", desc := "()V" } : Jvm.MethodName) ∈ GW := gwt5 64 (by decide +kernel) rfl
theorem wd1415 : Cond.code ({ cls := "java/lang/Throwable", name := "<init>", desc := "()V" } : Jvm.MethodName) prog_27_method_1_code (1 : Nat) (Option.none : Option Jvm.ClassFile.FieldType) ∈ GW := gwt5 65 (by decide +kernel) rfl
theorem wd1416 : Cond.methodLink "java/lang/Throwable" (1 : Nat) ({ cls := "java/lang/Object", name := "<init>", desc := "()V" } : Jvm.MethodName) ∈ GW := gwt5 66 (by decide +kernel) rfl
theorem wd1417 : Cond.fieldLink "java/lang/Throwable" (13 : Nat) "java/lang/Throwable" "UNASSIGNED_STACK" "[Ljava/lang/StackTraceElement;" ∈ GW := gwt5 67 (by decide +kernel) rfl
theorem wd1419 : Cond.fieldLink "java/lang/Throwable" (20 : Nat) "java/lang/Throwable" "SUPPRESSED_SENTINEL" "Ljava/util/List;" ∈ GW := gwt5 69 (by decide +kernel) rfl
theorem wd1421 : Cond.methodLink "java/lang/Throwable" (27 : Nat) ({ cls := "java/lang/Throwable", name := "fillInStackTrace", desc := "()Ljava/lang/Throwable;" } : Jvm.MethodName) ∈ GW := gwt5 71 (by decide +kernel) rfl
theorem wd1422 : Cond.instanceMethod ({ cls := "java/lang/Throwable", name := "fillInStackTrace", desc := "()Ljava/lang/Throwable;" } : Jvm.MethodName) ∈ GW := gwt5 72 (by decide +kernel) rfl
theorem wd1424 : Cond.selects "java/lang/IndexOutOfBoundsException" ({ cls := "java/lang/Throwable", name := "fillInStackTrace", desc := "()Ljava/lang/Throwable;" } : Jvm.MethodName) ({ cls := "java/lang/Throwable", name := "fillInStackTrace", desc := "()Ljava/lang/Throwable;" } : Jvm.MethodName) ∈ GW := gwt5 74 (by decide +kernel) rfl
theorem wd1426 : Cond.methodLink "java/lang/Throwable" (202 : Nat) ({ cls := "java/lang/Throwable", name := "fillInStackTrace", desc := "(I)Ljava/lang/Throwable;" } : Jvm.MethodName) ∈ GW := gwt5 76 (by decide +kernel) rfl
theorem wd1428 : Cond.instanceMethod ({ cls := "java/lang/Throwable", name := "fillInStackTrace", desc := "(I)Ljava/lang/Throwable;" } : Jvm.MethodName) ∈ GW := gwt5 78 (by decide +kernel) rfl
theorem wd1429 : Cond.instantiable "java/lang/Throwable" (6 : Nat) ∈ GW := gwt5 79 (by decide +kernel) rfl
theorem wd1430 : Cond.native ({ cls := "java/lang/Throwable", name := "fillInStackTrace", desc := "(I)Ljava/lang/Throwable;" } : Jvm.MethodName) ∈ GW := gwt5 80 (by decide +kernel) rfl
theorem wd1432 : Cond.methodLink "BakeryNight" (166 : Nat) ({ cls := "java/lang/IllegalStateException", name := "<init>", desc := "(Ljava/lang/String;)V" } : Jvm.MethodName) ∈ GW := gwt5 82 (by decide +kernel) rfl
theorem wd1433 : Cond.instanceMethod ({ cls := "java/lang/IllegalStateException", name := "<init>", desc := "(Ljava/lang/String;)V" } : Jvm.MethodName) ∈ GW := gwt5 83 (by decide +kernel) rfl
theorem wd1434 : Cond.code ({ cls := "java/lang/IllegalStateException", name := "<init>", desc := "(Ljava/lang/String;)V" } : Jvm.MethodName) prog_18_method_2_code (2 : Nat) (Option.none : Option Jvm.ClassFile.FieldType) ∈ GW := gwt5 84 (by decide +kernel) rfl
theorem wd1435 : Cond.methodLink "java/lang/IllegalStateException" (7 : Nat) ({ cls := "java/lang/RuntimeException", name := "<init>", desc := "(Ljava/lang/String;)V" } : Jvm.MethodName) ∈ GW := gwt5 85 (by decide +kernel) rfl
theorem wd1436 : Cond.instanceMethod ({ cls := "java/lang/RuntimeException", name := "<init>", desc := "(Ljava/lang/String;)V" } : Jvm.MethodName) ∈ GW := gwt5 86 (by decide +kernel) rfl
theorem wd1437 : Cond.code ({ cls := "java/lang/RuntimeException", name := "<init>", desc := "(Ljava/lang/String;)V" } : Jvm.MethodName) prog_22_method_2_code (2 : Nat) (Option.none : Option Jvm.ClassFile.FieldType) ∈ GW := gwt5 87 (by decide +kernel) rfl
theorem wd1438 : Cond.methodLink "java/lang/RuntimeException" (7 : Nat) ({ cls := "java/lang/Exception", name := "<init>", desc := "(Ljava/lang/String;)V" } : Jvm.MethodName) ∈ GW := gwt5 88 (by decide +kernel) rfl
theorem wd1439 : Cond.instanceMethod ({ cls := "java/lang/Exception", name := "<init>", desc := "(Ljava/lang/String;)V" } : Jvm.MethodName) ∈ GW := gwt5 89 (by decide +kernel) rfl
theorem wd1440 : Cond.code ({ cls := "java/lang/Exception", name := "<init>", desc := "(Ljava/lang/String;)V" } : Jvm.MethodName) prog_17_method_2_code (2 : Nat) (Option.none : Option Jvm.ClassFile.FieldType) ∈ GW := gwt5 90 (by decide +kernel) rfl
theorem wd1441 : Cond.methodLink "java/lang/Exception" (7 : Nat) ({ cls := "java/lang/Throwable", name := "<init>", desc := "(Ljava/lang/String;)V" } : Jvm.MethodName) ∈ GW := gwt5 91 (by decide +kernel) rfl
theorem wd1442 : Cond.instanceMethod ({ cls := "java/lang/Throwable", name := "<init>", desc := "(Ljava/lang/String;)V" } : Jvm.MethodName) ∈ GW := gwt5 92 (by decide +kernel) rfl
theorem wd1443 : Cond.code ({ cls := "java/lang/Throwable", name := "<init>", desc := "(Ljava/lang/String;)V" } : Jvm.MethodName) prog_27_method_2_code (2 : Nat) (Option.none : Option Jvm.ClassFile.FieldType) ∈ GW := gwt5 93 (by decide +kernel) rfl
theorem wd1444 : Cond.fieldLink "java/lang/Throwable" (198 : Nat) "java/lang/Throwable" "backtrace" "Ljava/lang/Object;" ∈ GW := gwt5 94 (by decide +kernel) rfl
theorem wd1445 : Cond.fieldLink "java/lang/Throwable" (31 : Nat) "java/lang/Throwable" "detailMessage" "Ljava/lang/String;" ∈ GW := gwt5 95 (by decide +kernel) rfl
theorem wd1446 : Cond.fieldLink "java/lang/Throwable" (7 : Nat) "java/lang/Throwable" "cause" "Ljava/lang/Throwable;" ∈ GW := gwt5 96 (by decide +kernel) rfl
theorem wd1447 : Cond.fieldLink "java/lang/Throwable" (17 : Nat) "java/lang/Throwable" "stackTrace" "[Ljava/lang/StackTraceElement;" ∈ GW := gwt5 97 (by decide +kernel) rfl
theorem wd1448 : Cond.fieldLink "java/lang/Throwable" (24 : Nat) "java/lang/Throwable" "suppressedExceptions" "Ljava/util/List;" ∈ GW := gwt5 98 (by decide +kernel) rfl
theorem wd1457 : Cond.methodLink "BakeryNight" (169 : Nat) ({ cls := "BakeryNight$Night", name := "hasBatch", desc := "(I)Z" } : Jvm.MethodName) ∈ GW := gwt5 107 (by decide +kernel) rfl
theorem wd1458 : Cond.instanceMethod ({ cls := "BakeryNight$Night", name := "hasBatch", desc := "(I)Z" } : Jvm.MethodName) ∈ GW := gwt5 108 (by decide +kernel) rfl
theorem wd1459 : Cond.selects "BakeryNight$Night" ({ cls := "BakeryNight$Night", name := "hasBatch", desc := "(I)Z" } : Jvm.MethodName) ({ cls := "BakeryNight$Night", name := "hasBatch", desc := "(I)Z" } : Jvm.MethodName) ∈ GW := gwt5 109 (by decide +kernel) rfl
theorem wd1460 : Cond.code ({ cls := "BakeryNight$Night", name := "hasBatch", desc := "(I)Z" } : Jvm.MethodName) prog_6_method_18_code (2 : Nat) (Option.some Jvm.ClassFile.FieldType.boolean) ∈ GW := gwt5 110 (by decide +kernel) rfl
theorem wd1461 : Cond.classLink "BakeryNight" (172 : Nat) "java/lang/IndexOutOfBoundsException" ∈ GW := gwt5 111 (by decide +kernel) rfl
theorem wd1462 : Cond.instantiable "java/lang/IndexOutOfBoundsException" (6 : Nat) ∈ GW := gwt5 112 (by decide +kernel) rfl
theorem wd1464 : Cond.selects "java/lang/IndexOutOfBoundsException" ({ cls := "java/lang/Throwable", name := "fillInStackTrace", desc := "(I)Ljava/lang/Throwable;" } : Jvm.MethodName) ({ cls := "java/lang/Throwable", name := "fillInStackTrace", desc := "(I)Ljava/lang/Throwable;" } : Jvm.MethodName) ∈ GW := gwt5 114 (by decide +kernel) rfl
theorem wd1471 : Cond.methodLink "BakeryNight" (176 : Nat) ({ cls := "java/lang/IndexOutOfBoundsException", name := "<init>", desc := "(Ljava/lang/String;)V" } : Jvm.MethodName) ∈ GW := gwt5 121 (by decide +kernel) rfl
theorem wd1472 : Cond.instanceMethod ({ cls := "java/lang/IndexOutOfBoundsException", name := "<init>", desc := "(Ljava/lang/String;)V" } : Jvm.MethodName) ∈ GW := gwt5 122 (by decide +kernel) rfl
theorem wd1473 : Cond.code ({ cls := "java/lang/IndexOutOfBoundsException", name := "<init>", desc := "(Ljava/lang/String;)V" } : Jvm.MethodName) prog_19_method_2_code (2 : Nat) (Option.none : Option Jvm.ClassFile.FieldType) ∈ GW := gwt5 123 (by decide +kernel) rfl
theorem wd1474 : Cond.methodLink "java/lang/IndexOutOfBoundsException" (7 : Nat) ({ cls := "java/lang/RuntimeException", name := "<init>", desc := "(Ljava/lang/String;)V" } : Jvm.MethodName) ∈ GW := gwt5 124 (by decide +kernel) rfl
theorem wd1477 : Cond.methodLink "BakeryNightLaw" (93 : Nat) ({ cls := "BakeryNightLaw", name := "stageMinute", desc := "(LBakeryNight;II[J)I" } : Jvm.MethodName) ∈ GW := gwt5 127 (by decide +kernel) rfl
theorem wd1478 : Cond.static ({ cls := "BakeryNightLaw", name := "stageMinute", desc := "(LBakeryNight;II[J)I" } : Jvm.MethodName) ∈ GW := gwt5 128 (by decide +kernel) rfl
theorem wd1480 : Cond.methodLink "BakeryNightLaw" (17 : Nat) ({ cls := "BakeryNight", name := "stageMinute", desc := "(II)I" } : Jvm.MethodName) ∈ GW := gwt5 130 (by decide +kernel) rfl
theorem wd1481 : Cond.instanceMethod ({ cls := "BakeryNight", name := "stageMinute", desc := "(II)I" } : Jvm.MethodName) ∈ GW := gwt5 131 (by decide +kernel) rfl
theorem wd1482 : Cond.selects "BakeryNight" ({ cls := "BakeryNight", name := "stageMinute", desc := "(II)I" } : Jvm.MethodName) ({ cls := "BakeryNight", name := "stageMinute", desc := "(II)I" } : Jvm.MethodName) ∈ GW := gwt5 132 (by decide +kernel) rfl
theorem wd1483 : Cond.code ({ cls := "BakeryNight", name := "stageMinute", desc := "(II)I" } : Jvm.MethodName) prog_1_method_19_code (3 : Nat) (Option.some Jvm.ClassFile.FieldType.int) ∈ GW := gwt5 133 (by decide +kernel) rfl
theorem wd1485 : Cond.methodLink "BakeryNightLaw" (97 : Nat) ({ cls := "BakeryNightLaw", name := "ovenOf", desc := "(LBakeryNight;I[J)I" } : Jvm.MethodName) ∈ GW := gwt5 135 (by decide +kernel) rfl
theorem wd1486 : Cond.static ({ cls := "BakeryNightLaw", name := "ovenOf", desc := "(LBakeryNight;I[J)I" } : Jvm.MethodName) ∈ GW := gwt5 136 (by decide +kernel) rfl
theorem wd1488 : Cond.methodLink "BakeryNightLaw" (21 : Nat) ({ cls := "BakeryNight", name := "ovenOf", desc := "(I)I" } : Jvm.MethodName) ∈ GW := gwt5 138 (by decide +kernel) rfl
theorem wd1489 : Cond.instanceMethod ({ cls := "BakeryNight", name := "ovenOf", desc := "(I)I" } : Jvm.MethodName) ∈ GW := gwt5 139 (by decide +kernel) rfl
theorem wd1490 : Cond.selects "BakeryNight" ({ cls := "BakeryNight", name := "ovenOf", desc := "(I)I" } : Jvm.MethodName) ({ cls := "BakeryNight", name := "ovenOf", desc := "(I)I" } : Jvm.MethodName) ∈ GW := gwt5 140 (by decide +kernel) rfl
theorem wd1491 : Cond.code ({ cls := "BakeryNight", name := "ovenOf", desc := "(I)I" } : Jvm.MethodName) prog_1_method_20_code (2 : Nat) (Option.some Jvm.ClassFile.FieldType.int) ∈ GW := gwt5 141 (by decide +kernel) rfl
theorem wd1492 : Cond.classLink "BakeryNightLaw" (25 : Nat) "BakeryNightModel" ∈ GW := gwt5 142 (by decide +kernel) rfl
theorem wd1493 : Cond.instantiable "BakeryNightModel" (55 : Nat) ∈ GW := gwt5 143 (by decide +kernel) rfl
theorem wd1494 : Cond.methodLink "BakeryNightLaw" (27 : Nat) ({ cls := "BakeryNightModel", name := "<init>", desc := "()V" } : Jvm.MethodName) ∈ GW := gwt5 144 (by decide +kernel) rfl
theorem wd1495 : Cond.instanceMethod ({ cls := "BakeryNightModel", name := "<init>", desc := "()V" } : Jvm.MethodName) ∈ GW := gwt5 145 (by decide +kernel) rfl
theorem wd1496 : Cond.code ({ cls := "BakeryNightModel", name := "<init>", desc := "()V" } : Jvm.MethodName) prog_15_method_1_code (1 : Nat) (Option.none : Option Jvm.ClassFile.FieldType) ∈ GW := gwt5 146 (by decide +kernel) rfl
theorem wd1497 : Cond.methodLink "BakeryNightModel" (1 : Nat) ({ cls := "java/lang/Object", name := "<init>", desc := "()V" } : Jvm.MethodName) ∈ GW := gwt5 147 (by decide +kernel) rfl
theorem wd1498 : Cond.methodLink "BakeryNightModel" (106 : Nat) ({ cls := "BakeryNightModel", name := "empties", desc := "([I)V" } : Jvm.MethodName) ∈ GW := gwt5 148 (by decide +kernel) rfl
theorem wd1500 : Cond.instanceMethod ({ cls := "BakeryNightModel", name := "empties", desc := "([I)V" } : Jvm.MethodName) ∈ GW := gwt5 150 (by decide +kernel) rfl
theorem wd1501 : Cond.code ({ cls := "BakeryNightModel", name := "empties", desc := "([I)V" } : Jvm.MethodName) prog_15_method_9_code (3 : Nat) (Option.none : Option Jvm.ClassFile.FieldType) ∈ GW := gwt5 151 (by decide +kernel) rfl
theorem wd1502 : Cond.fieldLink "BakeryNightModel" (7 : Nat) "BakeryNightModel" "bakery" "[I" ∈ GW := gwt5 152 (by decide +kernel) rfl
theorem wd1503 : Cond.fieldLink "BakeryNightModel" (13 : Nat) "BakeryNightModel" "draft" "[I" ∈ GW := gwt5 153 (by decide +kernel) rfl
theorem wd1504 : Cond.fieldLink "BakeryNightModel" (16 : Nat) "BakeryNightModel" "trial" "[I" ∈ GW := gwt5 154 (by decide +kernel) rfl
theorem wd1505 : Cond.fieldLink "BakeryNightModel" (19 : Nat) "BakeryNightModel" "undo" "[I" ∈ GW := gwt5 155 (by decide +kernel) rfl
theorem wd1506 : Cond.fieldLink "BakeryNightModel" (318 : Nat) "BakeryNightModel" "undos" "I" ∈ GW := gwt5 156 (by decide +kernel) rfl
theorem wd1507 : Cond.fieldLink "BakeryNightModel" (321 : Nat) "BakeryNightModel" "hasNight" "Z" ∈ GW := gwt5 157 (by decide +kernel) rfl
theorem wd1508 : Cond.fieldLink "BakeryNightModel" (435 : Nat) "BakeryNightModel" "nightStart" "I" ∈ GW := gwt5 158 (by decide +kernel) rfl
theorem wd1509 : Cond.fieldLink "BakeryNightModel" (110 : Nat) "BakeryNightModel" "told" "I" ∈ GW := gwt5 159 (by decide +kernel) rfl
theorem wd1510 : Cond.fieldLink "BakeryNightModel" (22 : Nat) "BakeryNightModel" "buffer" "[B" ∈ GW := gwt5 160 (by decide +kernel) rfl
theorem wd1511 : Cond.fieldLink "BakeryNightModel" (117 : Nat) "BakeryNightModel" "filled" "I" ∈ GW := gwt5 161 (by decide +kernel) rfl
theorem wd1512 : Cond.fieldLink "BakeryNightModel" (124 : Nat) "BakeryNightModel" "length" "I" ∈ GW := gwt5 162 (by decide +kernel) rfl
theorem wd1513 : Cond.fieldLink "BakeryNightModel" (127 : Nat) "BakeryNightModel" "at" "I" ∈ GW := gwt5 163 (by decide +kernel) rfl
theorem wd1514 : Cond.fieldLink "BakeryNightModel" (142 : Nat) "BakeryNightModel" "code" "I" ∈ GW := gwt5 164 (by decide +kernel) rfl
theorem wd1515 : Cond.fieldLink "BakeryNightModel" (26 : Nat) "BakeryNightModel" "offset" "I" ∈ GW := gwt5 165 (by decide +kernel) rfl
theorem wd1516 : Cond.fieldLink "BakeryNightModel" (228 : Nat) "BakeryNightModel" "named" "I" ∈ GW := gwt5 166 (by decide +kernel) rfl
theorem wd1517 : Cond.fieldLink "BakeryNightModel" (30 : Nat) "BakeryNightModel" "doughName" "[J" ∈ GW := gwt5 167 (by decide +kernel) rfl
theorem wd1518 : Cond.fieldLink "BakeryNightModel" (34 : Nat) "BakeryNightModel" "shopName" "[J" ∈ GW := gwt5 168 (by decide +kernel) rfl
theorem wd1519 : Cond.fieldLink "BakeryNightModel" (248 : Nat) "BakeryNightModel" "given" "I" ∈ GW := gwt5 169 (by decide +kernel) rfl
theorem wd1520 : Cond.fieldLink "BakeryNightModel" (37 : Nat) "BakeryNightModel" "batchDough" "[I" ∈ GW := gwt5 170 (by decide +kernel) rfl
theorem wd1521 : Cond.fieldLink "BakeryNightModel" (345 : Nat) "BakeryNightModel" "batches" "I" ∈ GW := gwt5 171 (by decide +kernel) rfl
theorem wd1522 : Cond.fieldLink "BakeryNightModel" (40 : Nat) "BakeryNightModel" "state" "[I" ∈ GW := gwt5 172 (by decide +kernel) rfl
theorem wd1523 : Cond.fieldLink "BakeryNightModel" (43 : Nat) "BakeryNightModel" "until" "[I" ∈ GW := gwt5 173 (by decide +kernel) rfl
theorem wd1524 : Cond.fieldLink "BakeryNightModel" (46 : Nat) "BakeryNightModel" "stage" "[I" ∈ GW := gwt5 174 (by decide +kernel) rfl
theorem wd1525 : Cond.fieldLink "BakeryNightModel" (49 : Nat) "BakeryNightModel" "inOven" "[I" ∈ GW := gwt5 175 (by decide +kernel) rfl
theorem wd1526 : Cond.fieldLink "BakeryNightModel" (52 : Nat) "BakeryNightModel" "proofedAt" "[I" ∈ GW := gwt5 176 (by decide +kernel) rfl
theorem wd1527 : Cond.fieldLink "BakeryNightModel" (55 : Nat) "BakeryNightModel" "risenAt" "[I" ∈ GW := gwt5 177 (by decide +kernel) rfl
theorem wd1528 : Cond.fieldLink "BakeryNightModel" (58 : Nat) "BakeryNightModel" "risen" "[I" ∈ GW := gwt5 178 (by decide +kernel) rfl
theorem wd1529 : Cond.fieldLink "BakeryNightModel" (369 : Nat) "BakeryNightModel" "risenMany" "I" ∈ GW := gwt5 179 (by decide +kernel) rfl
theorem wd1530 : Cond.fieldLink "BakeryNightModel" (61 : Nat) "BakeryNightModel" "proofed" "[I" ∈ GW := gwt5 180 (by decide +kernel) rfl
theorem wd1531 : Cond.fieldLink "BakeryNightModel" (372 : Nat) "BakeryNightModel" "proofedMany" "I" ∈ GW := gwt5 181 (by decide +kernel) rfl
theorem wd1532 : Cond.fieldLink "BakeryNightModel" (64 : Nat) "BakeryNightModel" "heat" "[I" ∈ GW := gwt5 182 (by decide +kernel) rfl
theorem wd1533 : Cond.fieldLink "BakeryNightModel" (67 : Nat) "BakeryNightModel" "toHeat" "[I" ∈ GW := gwt5 183 (by decide +kernel) rfl
theorem wd1534 : Cond.fieldLink "BakeryNightModel" (70 : Nat) "BakeryNightModel" "changed" "[I" ∈ GW := gwt5 184 (by decide +kernel) rfl
theorem wd1535 : Cond.fieldLink "BakeryNightModel" (73 : Nat) "BakeryNightModel" "changes" "[I" ∈ GW := gwt5 185 (by decide +kernel) rfl
theorem wd1536 : Cond.fieldLink "BakeryNightModel" (361 : Nat) "BakeryNightModel" "now" "I" ∈ GW := gwt5 186 (by decide +kernel) rfl
theorem wd1537 : Cond.fieldLink "BakeryNightModel" (375 : Nat) "BakeryNightModel" "ended" "I" ∈ GW := gwt5 187 (by decide +kernel) rfl
theorem wd1538 : Cond.fieldLink "BakeryNightModel" (378 : Nat) "BakeryNightModel" "waitedForMixer" "I" ∈ GW := gwt5 188 (by decide +kernel) rfl
theorem wd1539 : Cond.fieldLink "BakeryNightModel" (381 : Nat) "BakeryNightModel" "waitedForBaker" "I" ∈ GW := gwt5 189 (by decide +kernel) rfl
theorem wd1540 : Cond.fieldLink "BakeryNightModel" (384 : Nat) "BakeryNightModel" "waitedForOven" "I" ∈ GW := gwt5 190 (by decide +kernel) rfl
theorem wd1541 : Cond.fieldLink "BakeryNightModel" (76 : Nat) "BakeryNightModel" "way" "[I" ∈ GW := gwt5 191 (by decide +kernel) rfl
theorem wd1542 : Cond.fieldLink "BakeryNightModel" (79 : Nat) "BakeryNightModel" "least" "[I" ∈ GW := gwt5 192 (by decide +kernel) rfl
theorem wd1543 : Cond.fieldLink "BakeryNightModel" (82 : Nat) "BakeryNightModel" "stops" "[I" ∈ GW := gwt5 193 (by decide +kernel) rfl
theorem wd1544 : Cond.fieldLink "BakeryNightModel" (499 : Nat) "BakeryNightModel" "stopMany" "I" ∈ GW := gwt5 194 (by decide +kernel) rfl
theorem wd1545 : Cond.fieldLink "BakeryNightModel" (85 : Nat) "BakeryNightModel" "shopReady" "[I" ∈ GW := gwt5 195 (by decide +kernel) rfl
theorem wd1546 : Cond.fieldLink "BakeryNightModel" (88 : Nat) "BakeryNightModel" "shopDue" "[I" ∈ GW := gwt5 196 (by decide +kernel) rfl
theorem wd1547 : Cond.fieldLink "BakeryNightModel" (91 : Nat) "BakeryNightModel" "shopLoad" "[I" ∈ GW := gwt5 197 (by decide +kernel) rfl
theorem wd1548 : Cond.fieldLink "BakeryNightModel" (511 : Nat) "BakeryNightModel" "served" "I" ∈ GW := gwt5 198 (by decide +kernel) rfl
theorem wd1549 : Cond.fieldLink "BakeryNightModel" (514 : Nat) "BakeryNightModel" "missed" "I" ∈ GW := gwt5 199 (by decide +kernel) rfl
theorem wd1550 : Cond.fieldLink "BakeryNightModel" (94 : Nat) "BakeryNightModel" "vanSet" "[I" ∈ GW := gwt5 200 (by decide +kernel) rfl
theorem wd1551 : Cond.fieldLink "BakeryNightModel" (97 : Nat) "BakeryNightModel" "vanOf" "[I" ∈ GW := gwt5 201 (by decide +kernel) rfl
theorem wd1552 : Cond.fieldLink "BakeryNightModel" (517 : Nat) "BakeryNightModel" "isEndless" "Z" ∈ GW := gwt5 202 (by decide +kernel) rfl
theorem wd1553 : Cond.fieldLink "BakeryNightModel" (100 : Nat) "BakeryNightModel" "arrives" "[I" ∈ GW := gwt5 203 (by decide +kernel) rfl
theorem wd1554 : Cond.fieldLink "BakeryNightModel" (532 : Nat) "BakeryNightModel" "bestLate" "I" ∈ GW := gwt5 204 (by decide +kernel) rfl
theorem wd1555 : Cond.fieldLink "BakeryNightModel" (544 : Nat) "BakeryNightModel" "bestMinutes" "I" ∈ GW := gwt5 205 (by decide +kernel) rfl
theorem wd1556 : Cond.fieldLink "BakeryNightModel" (103 : Nat) "BakeryNightModel" "bestVan" "[I" ∈ GW := gwt5 206 (by decide +kernel) rfl
theorem wd1668 : Cond.methodLink "BakeryNightLaw" (90 : Nat) ({ cls := "BakeryNightModel", name := "thrown", desc := "()I" } : Jvm.MethodName) ∈ GW := gwt6 78 (by decide +kernel) rfl
theorem wd1669 : Cond.instanceMethod ({ cls := "BakeryNightModel", name := "thrown", desc := "()I" } : Jvm.MethodName) ∈ GW := gwt6 79 (by decide +kernel) rfl
theorem wd1670 : Cond.selects "BakeryNightModel" ({ cls := "BakeryNightModel", name := "thrown", desc := "()I" } : Jvm.MethodName) ({ cls := "BakeryNightModel", name := "thrown", desc := "()I" } : Jvm.MethodName) ∈ GW := gwt6 80 (by decide +kernel) rfl
theorem wd1671 : Cond.code ({ cls := "BakeryNightModel", name := "thrown", desc := "()I" } : Jvm.MethodName) prog_15_method_2_code (1 : Nat) (Option.some Jvm.ClassFile.FieldType.int) ∈ GW := gwt6 81 (by decide +kernel) rfl
theorem wd1672 : Cond.methodLink "BakeryNightLaw" (32 : Nat) ({ cls := "BakeryNightModel", name := "feed", desc := "(IIIII)I" } : Jvm.MethodName) ∈ GW := gwt6 82 (by decide +kernel) rfl
theorem wd1673 : Cond.instanceMethod ({ cls := "BakeryNightModel", name := "feed", desc := "(IIIII)I" } : Jvm.MethodName) ∈ GW := gwt6 83 (by decide +kernel) rfl
theorem wd1674 : Cond.selects "BakeryNightModel" ({ cls := "BakeryNightModel", name := "feed", desc := "(IIIII)I" } : Jvm.MethodName) ({ cls := "BakeryNightModel", name := "feed", desc := "(IIIII)I" } : Jvm.MethodName) ∈ GW := gwt6 84 (by decide +kernel) rfl
theorem wd1675 : Cond.code ({ cls := "BakeryNightModel", name := "feed", desc := "(IIIII)I" } : Jvm.MethodName) prog_15_method_16_code (8 : Nat) (Option.some Jvm.ClassFile.FieldType.int) ∈ GW := gwt6 85 (by decide +kernel) rfl
theorem wd1676 : Cond.methodLink "BakeryNightLaw" (37 : Nat) ({ cls := "BakeryNightModel", name := "truncate", desc := "(I)Z" } : Jvm.MethodName) ∈ GW := gwt6 86 (by decide +kernel) rfl
theorem wd1677 : Cond.instanceMethod ({ cls := "BakeryNightModel", name := "truncate", desc := "(I)Z" } : Jvm.MethodName) ∈ GW := gwt6 87 (by decide +kernel) rfl
theorem wd1678 : Cond.selects "BakeryNightModel" ({ cls := "BakeryNightModel", name := "truncate", desc := "(I)Z" } : Jvm.MethodName) ({ cls := "BakeryNightModel", name := "truncate", desc := "(I)Z" } : Jvm.MethodName) ∈ GW := gwt6 88 (by decide +kernel) rfl
theorem wd1679 : Cond.code ({ cls := "BakeryNightModel", name := "truncate", desc := "(I)Z" } : Jvm.MethodName) prog_15_method_17_code (2 : Nat) (Option.some Jvm.ClassFile.FieldType.boolean) ∈ GW := gwt6 89 (by decide +kernel) rfl
theorem wd1680 : Cond.methodLink "BakeryNightModel" (120 : Nat) ({ cls := "BakeryNightModel", name := "isIn", desc := "(JJJ)Z" } : Jvm.MethodName) ∈ GW := gwt6 90 (by decide +kernel) rfl
theorem wd1682 : Cond.instanceMethod ({ cls := "BakeryNightModel", name := "isIn", desc := "(JJJ)Z" } : Jvm.MethodName) ∈ GW := gwt6 92 (by decide +kernel) rfl
theorem wd1683 : Cond.code ({ cls := "BakeryNightModel", name := "isIn", desc := "(JJJ)Z" } : Jvm.MethodName) prog_15_method_4_code (7 : Nat) (Option.some Jvm.ClassFile.FieldType.boolean) ∈ GW := gwt6 93 (by decide +kernel) rfl
theorem wd1684 : Cond.methodLink "BakeryNightLaw" (42 : Nat) ({ cls := "BakeryNightModel", name := "parseBakery", desc := "()I" } : Jvm.MethodName) ∈ GW := gwt6 94 (by decide +kernel) rfl
theorem wd1685 : Cond.instanceMethod ({ cls := "BakeryNightModel", name := "parseBakery", desc := "()I" } : Jvm.MethodName) ∈ GW := gwt6 95 (by decide +kernel) rfl
theorem wd1686 : Cond.selects "BakeryNightModel" ({ cls := "BakeryNightModel", name := "parseBakery", desc := "()I" } : Jvm.MethodName) ({ cls := "BakeryNightModel", name := "parseBakery", desc := "()I" } : Jvm.MethodName) ∈ GW := gwt6 96 (by decide +kernel) rfl
theorem wd1687 : Cond.code ({ cls := "BakeryNightModel", name := "parseBakery", desc := "()I" } : Jvm.MethodName) prog_15_method_48_code (2 : Nat) (Option.some Jvm.ClassFile.FieldType.int) ∈ GW := gwt6 97 (by decide +kernel) rfl
theorem wd1688 : Cond.methodLink "BakeryNightModel" (168 : Nat) ({ cls := "BakeryNightModel", name := "skips", desc := "()V" } : Jvm.MethodName) ∈ GW := gwt6 98 (by decide +kernel) rfl
theorem wd1690 : Cond.instanceMethod ({ cls := "BakeryNightModel", name := "skips", desc := "()V" } : Jvm.MethodName) ∈ GW := gwt6 100 (by decide +kernel) rfl
theorem wd1691 : Cond.code ({ cls := "BakeryNightModel", name := "skips", desc := "()V" } : Jvm.MethodName) prog_15_method_21_code (1 : Nat) (Option.none : Option Jvm.ClassFile.FieldType) ∈ GW := gwt6 101 (by decide +kernel) rfl
theorem wd1692 : Cond.methodLink "BakeryNightModel" (138 : Nat) ({ cls := "BakeryNightModel", name := "here", desc := "()I" } : Jvm.MethodName) ∈ GW := gwt6 102 (by decide +kernel) rfl
theorem wd1694 : Cond.instanceMethod ({ cls := "BakeryNightModel", name := "here", desc := "()I" } : Jvm.MethodName) ∈ GW := gwt6 104 (by decide +kernel) rfl
theorem wd1695 : Cond.code ({ cls := "BakeryNightModel", name := "here", desc := "()I" } : Jvm.MethodName) prog_15_method_19_code (1 : Nat) (Option.some Jvm.ClassFile.FieldType.int) ∈ GW := gwt6 105 (by decide +kernel) rfl
theorem wd1696 : Cond.methodLink "BakeryNightModel" (130 : Nat) ({ cls := "BakeryNightModel", name := "byteAt", desc := "(I)I" } : Jvm.MethodName) ∈ GW := gwt6 106 (by decide +kernel) rfl
theorem wd1698 : Cond.instanceMethod ({ cls := "BakeryNightModel", name := "byteAt", desc := "(I)I" } : Jvm.MethodName) ∈ GW := gwt6 108 (by decide +kernel) rfl
theorem wd1699 : Cond.code ({ cls := "BakeryNightModel", name := "byteAt", desc := "(I)I" } : Jvm.MethodName) prog_15_method_18_code (2 : Nat) (Option.some Jvm.ClassFile.FieldType.int) ∈ GW := gwt6 109 (by decide +kernel) rfl
theorem wd1700 : Cond.methodLink "BakeryNightModel" (149 : Nat) ({ cls := "BakeryNightModel", name := "fine", desc := "()Z" } : Jvm.MethodName) ∈ GW := gwt6 110 (by decide +kernel) rfl
theorem wd1702 : Cond.instanceMethod ({ cls := "BakeryNightModel", name := "fine", desc := "()Z" } : Jvm.MethodName) ∈ GW := gwt6 112 (by decide +kernel) rfl
theorem wd1703 : Cond.code ({ cls := "BakeryNightModel", name := "fine", desc := "()Z" } : Jvm.MethodName) prog_15_method_22_code (1 : Nat) (Option.some Jvm.ClassFile.FieldType.boolean) ∈ GW := gwt6 113 (by decide +kernel) rfl
theorem wd1704 : Cond.methodLink "BakeryNightModel" (311 : Nat) ({ cls := "BakeryNightModel", name := "statement", desc := "()V" } : Jvm.MethodName) ∈ GW := gwt6 114 (by decide +kernel) rfl
theorem wd1706 : Cond.instanceMethod ({ cls := "BakeryNightModel", name := "statement", desc := "()V" } : Jvm.MethodName) ∈ GW := gwt6 116 (by decide +kernel) rfl
theorem wd1707 : Cond.code ({ cls := "BakeryNightModel", name := "statement", desc := "()V" } : Jvm.MethodName) prog_15_method_47_code (3 : Nat) (Option.none : Option Jvm.ClassFile.FieldType) ∈ GW := gwt6 117 (by decide +kernel) rfl
theorem wd1708 : Cond.methodLink "BakeryNightModel" (295 : Nat) ({ cls := "BakeryNightModel", name := "singleHere", desc := "()I" } : Jvm.MethodName) ∈ GW := gwt6 118 (by decide +kernel) rfl
theorem wd1710 : Cond.instanceMethod ({ cls := "BakeryNightModel", name := "singleHere", desc := "()I" } : Jvm.MethodName) ∈ GW := gwt6 120 (by decide +kernel) rfl
theorem wd1711 : Cond.code ({ cls := "BakeryNightModel", name := "singleHere", desc := "()I" } : Jvm.MethodName) prog_15_method_35_code (1 : Nat) (Option.some Jvm.ClassFile.FieldType.int) ∈ GW := gwt6 121 (by decide +kernel) rfl
theorem wd1713 : Cond.methodLink "BakeryNightModel" (164 : Nat) ({ cls := "BakeryNightModel", name := "isWord", desc := "(Ljava/lang/String;)Z" } : Jvm.MethodName) ∈ GW := gwt6 123 (by decide +kernel) rfl
theorem wd1715 : Cond.instanceMethod ({ cls := "BakeryNightModel", name := "isWord", desc := "(Ljava/lang/String;)Z" } : Jvm.MethodName) ∈ GW := gwt6 125 (by decide +kernel) rfl
theorem wd1716 : Cond.code ({ cls := "BakeryNightModel", name := "isWord", desc := "(Ljava/lang/String;)Z" } : Jvm.MethodName) prog_15_method_25_code (3 : Nat) (Option.some Jvm.ClassFile.FieldType.boolean) ∈ GW := gwt6 126 (by decide +kernel) rfl
theorem wd1717 : Cond.methodLink "BakeryNightModel" (153 : Nat) ({ cls := "BakeryNightModel", name := "wordLength", desc := "()I" } : Jvm.MethodName) ∈ GW := gwt6 127 (by decide +kernel) rfl
theorem wd1719 : Cond.instanceMethod ({ cls := "BakeryNightModel", name := "wordLength", desc := "()I" } : Jvm.MethodName) ∈ GW := gwt6 129 (by decide +kernel) rfl
theorem wd1720 : Cond.code ({ cls := "BakeryNightModel", name := "wordLength", desc := "()I" } : Jvm.MethodName) prog_15_method_24_code (2 : Nat) (Option.some Jvm.ClassFile.FieldType.int) ∈ GW := gwt6 130 (by decide +kernel) rfl
theorem wd1721 : Cond.methodLink "BakeryNightModel" (145 : Nat) ({ cls := "BakeryNightModel", name := "isLetter", desc := "(I)Z" } : Jvm.MethodName) ∈ GW := gwt6 131 (by decide +kernel) rfl
theorem wd1723 : Cond.instanceMethod ({ cls := "BakeryNightModel", name := "isLetter", desc := "(I)Z" } : Jvm.MethodName) ∈ GW := gwt6 133 (by decide +kernel) rfl
theorem wd1724 : Cond.code ({ cls := "BakeryNightModel", name := "isLetter", desc := "(I)Z" } : Jvm.MethodName) prog_15_method_20_code (2 : Nat) (Option.some Jvm.ClassFile.FieldType.boolean) ∈ GW := gwt6 134 (by decide +kernel) rfl
theorem wd1725 : Cond.constantLong "BakeryNightModel" (134 : Nat) (97 : Int64) ∈ GW := gwt6 135 (by decide +kernel) rfl
theorem wd1726 : Cond.constantLong "BakeryNightModel" (136 : Nat) (122 : Int64) ∈ GW := gwt6 136 (by decide +kernel) rfl
theorem wd1727 : Cond.methodLink "BakeryNightModel" (156 : Nat) ({ cls := "java/lang/String", name := "length", desc := "()I" } : Jvm.MethodName) ∈ GW := gwt6 137 (by decide +kernel) rfl
theorem wd1728 : Cond.methodLink "BakeryNightModel" (160 : Nat) ({ cls := "java/lang/String", name := "charAt", desc := "(I)C" } : Jvm.MethodName) ∈ GW := gwt6 138 (by decide +kernel) rfl
theorem wd1732 : Cond.methodLink "BakeryNightModel" (298 : Nat) ({ cls := "BakeryNightModel", name := "manyHere", desc := "()I" } : Jvm.MethodName) ∈ GW := gwt6 142 (by decide +kernel) rfl
theorem wd1734 : Cond.instanceMethod ({ cls := "BakeryNightModel", name := "manyHere", desc := "()I" } : Jvm.MethodName) ∈ GW := gwt6 144 (by decide +kernel) rfl
theorem wd1735 : Cond.code ({ cls := "BakeryNightModel", name := "manyHere", desc := "()I" } : Jvm.MethodName) prog_15_method_36_code (1 : Nat) (Option.some Jvm.ClassFile.FieldType.int) ∈ GW := gwt6 145 (by decide +kernel) rfl
theorem wd1742 : Cond.methodLink "BakeryNightModel" (301 : Nat) ({ cls := "BakeryNightModel", name := "single", desc := "(I)V" } : Jvm.MethodName) ∈ GW := gwt6 152 (by decide +kernel) rfl
theorem wd1744 : Cond.instanceMethod ({ cls := "BakeryNightModel", name := "single", desc := "(I)V" } : Jvm.MethodName) ∈ GW := gwt6 154 (by decide +kernel) rfl
theorem wd1745 : Cond.code ({ cls := "BakeryNightModel", name := "single", desc := "(I)V" } : Jvm.MethodName) prog_15_method_39_code (2 : Nat) (Option.none : Option Jvm.ClassFile.FieldType) ∈ GW := gwt6 155 (by decide +kernel) rfl
theorem wd1746 : Cond.methodLink "BakeryNightModel" (251 : Nat) ({ cls := "BakeryNightModel", name := "has", desc := "(II)Z" } : Jvm.MethodName) ∈ GW := gwt6 156 (by decide +kernel) rfl
theorem wd1748 : Cond.instanceMethod ({ cls := "BakeryNightModel", name := "has", desc := "(II)Z" } : Jvm.MethodName) ∈ GW := gwt6 158 (by decide +kernel) rfl
theorem wd1749 : Cond.code ({ cls := "BakeryNightModel", name := "has", desc := "(II)Z" } : Jvm.MethodName) prog_15_method_5_code (3 : Nat) (Option.some Jvm.ClassFile.FieldType.boolean) ∈ GW := gwt6 159 (by decide +kernel) rfl
theorem wd1750 : Cond.methodLink "BakeryNightModel" (174 : Nat) ({ cls := "BakeryNightModel", name := "faulty", desc := "(II)V" } : Jvm.MethodName) ∈ GW := gwt6 160 (by decide +kernel) rfl
theorem wd1752 : Cond.instanceMethod ({ cls := "BakeryNightModel", name := "faulty", desc := "(II)V" } : Jvm.MethodName) ∈ GW := gwt6 162 (by decide +kernel) rfl
theorem wd1753 : Cond.code ({ cls := "BakeryNightModel", name := "faulty", desc := "(II)V" } : Jvm.MethodName) prog_15_method_23_code (3 : Nat) (Option.none : Option Jvm.ClassFile.FieldType) ∈ GW := gwt6 163 (by decide +kernel) rfl
theorem wd1754 : Cond.methodLink "BakeryNightModel" (255 : Nat) ({ cls := "BakeryNightModel", name := "skipsWord", desc := "()V" } : Jvm.MethodName) ∈ GW := gwt6 164 (by decide +kernel) rfl
theorem wd1756 : Cond.instanceMethod ({ cls := "BakeryNightModel", name := "skipsWord", desc := "()V" } : Jvm.MethodName) ∈ GW := gwt6 166 (by decide +kernel) rfl
theorem wd1757 : Cond.code ({ cls := "BakeryNightModel", name := "skipsWord", desc := "()V" } : Jvm.MethodName) prog_15_method_38_code (1 : Nat) (Option.none : Option Jvm.ClassFile.FieldType) ∈ GW := gwt6 167 (by decide +kernel) rfl
theorem wd1758 : Cond.methodLink "BakeryNightModel" (258 : Nat) ({ cls := "BakeryNightModel", name := "number", desc := "(II)I" } : Jvm.MethodName) ∈ GW := gwt6 168 (by decide +kernel) rfl
theorem wd1760 : Cond.instanceMethod ({ cls := "BakeryNightModel", name := "number", desc := "(II)I" } : Jvm.MethodName) ∈ GW := gwt6 170 (by decide +kernel) rfl
theorem wd1761 : Cond.code ({ cls := "BakeryNightModel", name := "number", desc := "(II)I" } : Jvm.MethodName) prog_15_method_28_code (5 : Nat) (Option.some Jvm.ClassFile.FieldType.int) ∈ GW := gwt6 171 (by decide +kernel) rfl
theorem wd1762 : Cond.constantLong "BakeryNightModel" (178 : Nat) (48 : Int64) ∈ GW := gwt6 172 (by decide +kernel) rfl
theorem wd1763 : Cond.constantLong "BakeryNightModel" (180 : Nat) (57 : Int64) ∈ GW := gwt6 173 (by decide +kernel) rfl
theorem wd1764 : Cond.methodLink "BakeryNightModel" (305 : Nat) ({ cls := "BakeryNightModel", name := "many", desc := "(I)V" } : Jvm.MethodName) ∈ GW := gwt6 174 (by decide +kernel) rfl
theorem wd1766 : Cond.instanceMethod ({ cls := "BakeryNightModel", name := "many", desc := "(I)V" } : Jvm.MethodName) ∈ GW := gwt6 176 (by decide +kernel) rfl
theorem wd1767 : Cond.code ({ cls := "BakeryNightModel", name := "many", desc := "(I)V" } : Jvm.MethodName) prog_15_method_46_code (2 : Nat) (Option.none : Option Jvm.ClassFile.FieldType) ∈ GW := gwt6 177 (by decide +kernel) rfl
theorem wd1768 : Cond.methodLink "BakeryNightModel" (280 : Nat) ({ cls := "BakeryNightModel", name := "mostOf", desc := "(I)I" } : Jvm.MethodName) ∈ GW := gwt6 178 (by decide +kernel) rfl
theorem wd1770 : Cond.instanceMethod ({ cls := "BakeryNightModel", name := "mostOf", desc := "(I)I" } : Jvm.MethodName) ∈ GW := gwt6 180 (by decide +kernel) rfl
theorem wd1771 : Cond.code ({ cls := "BakeryNightModel", name := "mostOf", desc := "(I)I" } : Jvm.MethodName) prog_15_method_37_code (2 : Nat) (Option.some Jvm.ClassFile.FieldType.int) ∈ GW := gwt6 181 (by decide +kernel) rfl
theorem wd1772 : Cond.methodLink "BakeryNightModel" (283 : Nat) ({ cls := "BakeryNightModel", name := "doughStatement", desc := "()V" } : Jvm.MethodName) ∈ GW := gwt6 182 (by decide +kernel) rfl
theorem wd1774 : Cond.instanceMethod ({ cls := "BakeryNightModel", name := "doughStatement", desc := "()V" } : Jvm.MethodName) ∈ GW := gwt6 184 (by decide +kernel) rfl
theorem wd1775 : Cond.code ({ cls := "BakeryNightModel", name := "doughStatement", desc := "()V" } : Jvm.MethodName) prog_15_method_41_code (5 : Nat) (Option.none : Option Jvm.ClassFile.FieldType) ∈ GW := gwt6 185 (by decide +kernel) rfl
theorem wd1776 : Cond.methodLink "BakeryNightModel" (265 : Nat) ({ cls := "BakeryNightModel", name := "fresh", desc := "([JI)J" } : Jvm.MethodName) ∈ GW := gwt6 186 (by decide +kernel) rfl
theorem wd1778 : Cond.instanceMethod ({ cls := "BakeryNightModel", name := "fresh", desc := "([JI)J" } : Jvm.MethodName) ∈ GW := gwt6 188 (by decide +kernel) rfl
theorem wd1779 : Cond.code ({ cls := "BakeryNightModel", name := "fresh", desc := "([JI)J" } : Jvm.MethodName) prog_15_method_32_code (5 : Nat) (Option.some Jvm.ClassFile.FieldType.long) ∈ GW := gwt6 189 (by decide +kernel) rfl
theorem wd1780 : Cond.methodLink "BakeryNightModel" (236 : Nat) ({ cls := "BakeryNightModel", name := "name", desc := "()J" } : Jvm.MethodName) ∈ GW := gwt6 190 (by decide +kernel) rfl
theorem wd1782 : Cond.instanceMethod ({ cls := "BakeryNightModel", name := "name", desc := "()J" } : Jvm.MethodName) ∈ GW := gwt6 192 (by decide +kernel) rfl
theorem wd1783 : Cond.code ({ cls := "BakeryNightModel", name := "name", desc := "()J" } : Jvm.MethodName) prog_15_method_30_code (5 : Nat) (Option.some Jvm.ClassFile.FieldType.long) ∈ GW := gwt6 193 (by decide +kernel) rfl
theorem wd1784 : Cond.methodLink "BakeryNightModel" (231 : Nat) ({ cls := "BakeryNightModel", name := "isKeyword", desc := "()Z" } : Jvm.MethodName) ∈ GW := gwt6 194 (by decide +kernel) rfl
theorem wd1786 : Cond.instanceMethod ({ cls := "BakeryNightModel", name := "isKeyword", desc := "()Z" } : Jvm.MethodName) ∈ GW := gwt6 196 (by decide +kernel) rfl
theorem wd1787 : Cond.code ({ cls := "BakeryNightModel", name := "isKeyword", desc := "()Z" } : Jvm.MethodName) prog_15_method_29_code (1 : Nat) (Option.some Jvm.ClassFile.FieldType.boolean) ∈ GW := gwt6 197 (by decide +kernel) rfl
theorem wd1802 : Cond.constantLong "BakeryNightModel" (234 : Nat) (27 : Int64) ∈ GW := gwt6 212 (by decide +kernel) rfl
theorem wd1803 : Cond.methodLink "BakeryNightModel" (240 : Nat) ({ cls := "BakeryNightModel", name := "placeOf", desc := "([JIJ)I" } : Jvm.MethodName) ∈ GW := gwt6 213 (by decide +kernel) rfl
theorem wd1805 : Cond.instanceMethod ({ cls := "BakeryNightModel", name := "placeOf", desc := "([JIJ)I" } : Jvm.MethodName) ∈ GW := gwt6 215 (by decide +kernel) rfl
theorem wd1806 : Cond.code ({ cls := "BakeryNightModel", name := "placeOf", desc := "([JIJ)I" } : Jvm.MethodName) prog_15_method_31_code (6 : Nat) (Option.some Jvm.ClassFile.FieldType.int) ∈ GW := gwt6 216 (by decide +kernel) rfl
theorem wd1807 : Cond.methodLink "BakeryNightModel" (269 : Nat) ({ cls := "BakeryNightModel", name := "part", desc := "(ILjava/lang/String;II)V" } : Jvm.MethodName) ∈ GW := gwt6 217 (by decide +kernel) rfl
theorem wd1809 : Cond.instanceMethod ({ cls := "BakeryNightModel", name := "part", desc := "(ILjava/lang/String;II)V" } : Jvm.MethodName) ∈ GW := gwt6 219 (by decide +kernel) rfl
theorem wd1810 : Cond.code ({ cls := "BakeryNightModel", name := "part", desc := "(ILjava/lang/String;II)V" } : Jvm.MethodName) prog_15_method_40_code (5 : Nat) (Option.none : Option Jvm.ClassFile.FieldType) ∈ GW := gwt6 220 (by decide +kernel) rfl
theorem wd1811 : Cond.methodLink "BakeryNightModel" (261 : Nat) ({ cls := "BakeryNightModel", name := "needs", desc := "(Ljava/lang/String;)V" } : Jvm.MethodName) ∈ GW := gwt6 221 (by decide +kernel) rfl
theorem wd1813 : Cond.instanceMethod ({ cls := "BakeryNightModel", name := "needs", desc := "(Ljava/lang/String;)V" } : Jvm.MethodName) ∈ GW := gwt6 223 (by decide +kernel) rfl
theorem wd1814 : Cond.code ({ cls := "BakeryNightModel", name := "needs", desc := "(Ljava/lang/String;)V" } : Jvm.MethodName) prog_15_method_27_code (2 : Nat) (Option.none : Option Jvm.ClassFile.FieldType) ∈ GW := gwt6 224 (by decide +kernel) rfl
theorem wd1815 : Cond.methodLink "BakeryNightModel" (171 : Nat) ({ cls := "BakeryNightModel", name := "takes", desc := "(Ljava/lang/String;)Z" } : Jvm.MethodName) ∈ GW := gwt6 225 (by decide +kernel) rfl
theorem wd1817 : Cond.instanceMethod ({ cls := "BakeryNightModel", name := "takes", desc := "(Ljava/lang/String;)Z" } : Jvm.MethodName) ∈ GW := gwt6 227 (by decide +kernel) rfl
theorem wd1818 : Cond.code ({ cls := "BakeryNightModel", name := "takes", desc := "(Ljava/lang/String;)Z" } : Jvm.MethodName) prog_15_method_26_code (2 : Nat) (Option.some Jvm.ClassFile.FieldType.boolean) ∈ GW := gwt6 228 (by decide +kernel) rfl
theorem wd1819 : Cond.methodLink "BakeryNightModel" (286 : Nat) ({ cls := "BakeryNightModel", name := "ovenStatement", desc := "()V" } : Jvm.MethodName) ∈ GW := gwt6 229 (by decide +kernel) rfl
theorem wd1821 : Cond.instanceMethod ({ cls := "BakeryNightModel", name := "ovenStatement", desc := "()V" } : Jvm.MethodName) ∈ GW := gwt6 231 (by decide +kernel) rfl
theorem wd1822 : Cond.code ({ cls := "BakeryNightModel", name := "ovenStatement", desc := "()V" } : Jvm.MethodName) prog_15_method_42_code (2 : Nat) (Option.none : Option Jvm.ClassFile.FieldType) ∈ GW := gwt6 232 (by decide +kernel) rfl
theorem wd1823 : Cond.methodLink "BakeryNightModel" (289 : Nat) ({ cls := "BakeryNightModel", name := "streetStatement", desc := "()V" } : Jvm.MethodName) ∈ GW := gwt6 233 (by decide +kernel) rfl
theorem wd1825 : Cond.instanceMethod ({ cls := "BakeryNightModel", name := "streetStatement", desc := "()V" } : Jvm.MethodName) ∈ GW := gwt6 235 (by decide +kernel) rfl
theorem wd1826 : Cond.code ({ cls := "BakeryNightModel", name := "streetStatement", desc := "()V" } : Jvm.MethodName) prog_15_method_44_code (3 : Nat) (Option.none : Option Jvm.ClassFile.FieldType) ∈ GW := gwt6 236 (by decide +kernel) rfl
theorem wd1827 : Cond.methodLink "BakeryNightModel" (277 : Nat) ({ cls := "BakeryNightModel", name := "place", desc := "()I" } : Jvm.MethodName) ∈ GW := gwt6 237 (by decide +kernel) rfl
theorem wd1829 : Cond.instanceMethod ({ cls := "BakeryNightModel", name := "place", desc := "()I" } : Jvm.MethodName) ∈ GW := gwt6 239 (by decide +kernel) rfl
theorem wd1830 : Cond.code ({ cls := "BakeryNightModel", name := "place", desc := "()I" } : Jvm.MethodName) prog_15_method_43_code (1 : Nat) (Option.some Jvm.ClassFile.FieldType.int) ∈ GW := gwt7 0 (by decide +kernel) rfl
theorem wd1831 : Cond.methodLink "BakeryNightModel" (273 : Nat) ({ cls := "BakeryNightModel", name := "known", desc := "([JI)I" } : Jvm.MethodName) ∈ GW := gwt7 1 (by decide +kernel) rfl
theorem wd1833 : Cond.instanceMethod ({ cls := "BakeryNightModel", name := "known", desc := "([JI)I" } : Jvm.MethodName) ∈ GW := gwt7 3 (by decide +kernel) rfl
theorem wd1834 : Cond.code ({ cls := "BakeryNightModel", name := "known", desc := "([JI)I" } : Jvm.MethodName) prog_15_method_33_code (6 : Nat) (Option.some Jvm.ClassFile.FieldType.int) ∈ GW := gwt7 4 (by decide +kernel) rfl
theorem wd1835 : Cond.methodLink "BakeryNightModel" (244 : Nat) ({ cls := "BakeryNightModel", name := "greater", desc := "(II)I" } : Jvm.MethodName) ∈ GW := gwt7 5 (by decide +kernel) rfl
theorem wd1837 : Cond.instanceMethod ({ cls := "BakeryNightModel", name := "greater", desc := "(II)I" } : Jvm.MethodName) ∈ GW := gwt7 7 (by decide +kernel) rfl
theorem wd1838 : Cond.code ({ cls := "BakeryNightModel", name := "greater", desc := "(II)I" } : Jvm.MethodName) prog_15_method_6_code (3 : Nat) (Option.some Jvm.ClassFile.FieldType.int) ∈ GW := gwt7 8 (by decide +kernel) rfl
theorem wd1839 : Cond.methodLink "BakeryNightModel" (292 : Nat) ({ cls := "BakeryNightModel", name := "orderStatement", desc := "()V" } : Jvm.MethodName) ∈ GW := gwt7 9 (by decide +kernel) rfl
theorem wd1841 : Cond.instanceMethod ({ cls := "BakeryNightModel", name := "orderStatement", desc := "()V" } : Jvm.MethodName) ∈ GW := gwt7 11 (by decide +kernel) rfl
theorem wd1842 : Cond.code ({ cls := "BakeryNightModel", name := "orderStatement", desc := "()V" } : Jvm.MethodName) prog_15_method_45_code (2 : Nat) (Option.none : Option Jvm.ClassFile.FieldType) ∈ GW := gwt7 12 (by decide +kernel) rfl
theorem wd1843 : Cond.methodLink "BakeryNightModel" (308 : Nat) ({ cls := "BakeryNightModel", name := "semicolon", desc := "()V" } : Jvm.MethodName) ∈ GW := gwt7 13 (by decide +kernel) rfl
theorem wd1845 : Cond.instanceMethod ({ cls := "BakeryNightModel", name := "semicolon", desc := "()V" } : Jvm.MethodName) ∈ GW := gwt7 15 (by decide +kernel) rfl
theorem wd1846 : Cond.code ({ cls := "BakeryNightModel", name := "semicolon", desc := "()V" } : Jvm.MethodName) prog_15_method_34_code (1 : Nat) (Option.none : Option Jvm.ClassFile.FieldType) ∈ GW := gwt7 16 (by decide +kernel) rfl
theorem wd1847 : Cond.methodLink "BakeryNightModel" (314 : Nat) ({ cls := "BakeryNightModel", name := "copies", desc := "([I[I)V" } : Jvm.MethodName) ∈ GW := gwt7 17 (by decide +kernel) rfl
theorem wd1849 : Cond.instanceMethod ({ cls := "BakeryNightModel", name := "copies", desc := "([I[I)V" } : Jvm.MethodName) ∈ GW := gwt7 19 (by decide +kernel) rfl
theorem wd1850 : Cond.code ({ cls := "BakeryNightModel", name := "copies", desc := "([I[I)V" } : Jvm.MethodName) prog_15_method_10_code (4 : Nat) (Option.none : Option Jvm.ClassFile.FieldType) ∈ GW := gwt7 20 (by decide +kernel) rfl
theorem wd1851 : Cond.methodLink "BakeryNightLaw" (46 : Nat) ({ cls := "BakeryNightModel", name := "errorCode", desc := "()I" } : Jvm.MethodName) ∈ GW := gwt7 21 (by decide +kernel) rfl
theorem wd1852 : Cond.instanceMethod ({ cls := "BakeryNightModel", name := "errorCode", desc := "()I" } : Jvm.MethodName) ∈ GW := gwt7 22 (by decide +kernel) rfl
theorem wd1853 : Cond.selects "BakeryNightModel" ({ cls := "BakeryNightModel", name := "errorCode", desc := "()I" } : Jvm.MethodName) ({ cls := "BakeryNightModel", name := "errorCode", desc := "()I" } : Jvm.MethodName) ∈ GW := gwt7 23 (by decide +kernel) rfl
theorem wd1854 : Cond.code ({ cls := "BakeryNightModel", name := "errorCode", desc := "()I" } : Jvm.MethodName) prog_15_method_49_code (1 : Nat) (Option.some Jvm.ClassFile.FieldType.int) ∈ GW := gwt7 24 (by decide +kernel) rfl
theorem wd1855 : Cond.methodLink "BakeryNightLaw" (50 : Nat) ({ cls := "BakeryNightModel", name := "errorOffset", desc := "()I" } : Jvm.MethodName) ∈ GW := gwt7 25 (by decide +kernel) rfl
theorem wd1856 : Cond.instanceMethod ({ cls := "BakeryNightModel", name := "errorOffset", desc := "()I" } : Jvm.MethodName) ∈ GW := gwt7 26 (by decide +kernel) rfl
theorem wd1857 : Cond.selects "BakeryNightModel" ({ cls := "BakeryNightModel", name := "errorOffset", desc := "()I" } : Jvm.MethodName) ({ cls := "BakeryNightModel", name := "errorOffset", desc := "()I" } : Jvm.MethodName) ∈ GW := gwt7 27 (by decide +kernel) rfl
theorem wd1858 : Cond.code ({ cls := "BakeryNightModel", name := "errorOffset", desc := "()I" } : Jvm.MethodName) prog_15_method_50_code (1 : Nat) (Option.some Jvm.ClassFile.FieldType.int) ∈ GW := gwt7 28 (by decide +kernel) rfl
theorem wd1859 : Cond.methodLink "BakeryNightLaw" (54 : Nat) ({ cls := "BakeryNightModel", name := "orderCount", desc := "()I" } : Jvm.MethodName) ∈ GW := gwt7 29 (by decide +kernel) rfl
theorem wd1860 : Cond.instanceMethod ({ cls := "BakeryNightModel", name := "orderCount", desc := "()I" } : Jvm.MethodName) ∈ GW := gwt7 30 (by decide +kernel) rfl
theorem wd1861 : Cond.selects "BakeryNightModel" ({ cls := "BakeryNightModel", name := "orderCount", desc := "()I" } : Jvm.MethodName) ({ cls := "BakeryNightModel", name := "orderCount", desc := "()I" } : Jvm.MethodName) ∈ GW := gwt7 31 (by decide +kernel) rfl
theorem wd1862 : Cond.code ({ cls := "BakeryNightModel", name := "orderCount", desc := "()I" } : Jvm.MethodName) prog_15_method_59_code (1 : Nat) (Option.some Jvm.ClassFile.FieldType.int) ∈ GW := gwt7 32 (by decide +kernel) rfl
theorem wd1863 : Cond.methodLink "BakeryNightLaw" (58 : Nat) ({ cls := "BakeryNightModel", name := "orderedLoaves", desc := "(I)I" } : Jvm.MethodName) ∈ GW := gwt7 33 (by decide +kernel) rfl
theorem wd1864 : Cond.instanceMethod ({ cls := "BakeryNightModel", name := "orderedLoaves", desc := "(I)I" } : Jvm.MethodName) ∈ GW := gwt7 34 (by decide +kernel) rfl
theorem wd1865 : Cond.selects "BakeryNightModel" ({ cls := "BakeryNightModel", name := "orderedLoaves", desc := "(I)I" } : Jvm.MethodName) ({ cls := "BakeryNightModel", name := "orderedLoaves", desc := "(I)I" } : Jvm.MethodName) ∈ GW := gwt7 35 (by decide +kernel) rfl
theorem wd1866 : Cond.code ({ cls := "BakeryNightModel", name := "orderedLoaves", desc := "(I)I" } : Jvm.MethodName) prog_15_method_60_code (2 : Nat) (Option.some Jvm.ClassFile.FieldType.int) ∈ GW := gwt7 36 (by decide +kernel) rfl
theorem wd1867 : Cond.methodLink "BakeryNightModel" (351 : Nat) ({ cls := "BakeryNightModel", name := "isDough", desc := "(I)Z" } : Jvm.MethodName) ∈ GW := gwt7 37 (by decide +kernel) rfl
theorem wd1869 : Cond.instanceMethod ({ cls := "BakeryNightModel", name := "isDough", desc := "(I)Z" } : Jvm.MethodName) ∈ GW := gwt7 39 (by decide +kernel) rfl
theorem wd1870 : Cond.code ({ cls := "BakeryNightModel", name := "isDough", desc := "(I)Z" } : Jvm.MethodName) prog_15_method_56_code (2 : Nat) (Option.some Jvm.ClassFile.FieldType.boolean) ∈ GW := gwt7 40 (by decide +kernel) rfl
theorem wd1871 : Cond.methodLink "BakeryNightModel" (329 : Nat) ({ cls := "BakeryNightModel", name := "loavesOf", desc := "([II)I" } : Jvm.MethodName) ∈ GW := gwt7 41 (by decide +kernel) rfl
theorem wd1873 : Cond.instanceMethod ({ cls := "BakeryNightModel", name := "loavesOf", desc := "([II)I" } : Jvm.MethodName) ∈ GW := gwt7 43 (by decide +kernel) rfl
theorem wd1874 : Cond.code ({ cls := "BakeryNightModel", name := "loavesOf", desc := "([II)I" } : Jvm.MethodName) prog_15_method_51_code (5 : Nat) (Option.some Jvm.ClassFile.FieldType.int) ∈ GW := gwt7 44 (by decide +kernel) rfl
theorem wd1875 : Cond.methodLink "BakeryNightModel" (325 : Nat) ({ cls := "BakeryNightModel", name := "isMeant", desc := "([II)Z" } : Jvm.MethodName) ∈ GW := gwt7 45 (by decide +kernel) rfl
theorem wd1877 : Cond.instanceMethod ({ cls := "BakeryNightModel", name := "isMeant", desc := "([II)Z" } : Jvm.MethodName) ∈ GW := gwt7 47 (by decide +kernel) rfl
theorem wd1878 : Cond.code ({ cls := "BakeryNightModel", name := "isMeant", desc := "([II)Z" } : Jvm.MethodName) prog_15_method_15_code (3 : Nat) (Option.some Jvm.ClassFile.FieldType.boolean) ∈ GW := gwt7 48 (by decide +kernel) rfl
theorem wd1879 : Cond.methodLink "BakeryNightModel" (113 : Nat) ({ cls := "BakeryNightModel", name := "order", desc := "([III)I" } : Jvm.MethodName) ∈ GW := gwt7 49 (by decide +kernel) rfl
theorem wd1881 : Cond.instanceMethod ({ cls := "BakeryNightModel", name := "order", desc := "([III)I" } : Jvm.MethodName) ∈ GW := gwt7 51 (by decide +kernel) rfl
theorem wd1882 : Cond.code ({ cls := "BakeryNightModel", name := "order", desc := "([III)I" } : Jvm.MethodName) prog_15_method_14_code (4 : Nat) (Option.some Jvm.ClassFile.FieldType.int) ∈ GW := gwt7 52 (by decide +kernel) rfl
theorem wd1883 : Cond.methodLink "BakeryNightLaw" (62 : Nat) ({ cls := "BakeryNightModel", name := "batchCount", desc := "()I" } : Jvm.MethodName) ∈ GW := gwt7 53 (by decide +kernel) rfl
theorem wd1884 : Cond.instanceMethod ({ cls := "BakeryNightModel", name := "batchCount", desc := "()I" } : Jvm.MethodName) ∈ GW := gwt7 54 (by decide +kernel) rfl
theorem wd1885 : Cond.selects "BakeryNightModel" ({ cls := "BakeryNightModel", name := "batchCount", desc := "()I" } : Jvm.MethodName) ({ cls := "BakeryNightModel", name := "batchCount", desc := "()I" } : Jvm.MethodName) ∈ GW := gwt7 55 (by decide +kernel) rfl
theorem wd1886 : Cond.code ({ cls := "BakeryNightModel", name := "batchCount", desc := "()I" } : Jvm.MethodName) prog_15_method_61_code (2 : Nat) (Option.some Jvm.ClassFile.FieldType.int) ∈ GW := gwt7 56 (by decide +kernel) rfl
theorem wd1887 : Cond.methodLink "BakeryNightModel" (354 : Nat) ({ cls := "BakeryNightModel", name := "allBatches", desc := "([I)I" } : Jvm.MethodName) ∈ GW := gwt7 57 (by decide +kernel) rfl
theorem wd1889 : Cond.instanceMethod ({ cls := "BakeryNightModel", name := "allBatches", desc := "([I)I" } : Jvm.MethodName) ∈ GW := gwt7 59 (by decide +kernel) rfl
theorem wd1890 : Cond.code ({ cls := "BakeryNightModel", name := "allBatches", desc := "([I)I" } : Jvm.MethodName) prog_15_method_53_code (4 : Nat) (Option.some Jvm.ClassFile.FieldType.int) ∈ GW := gwt7 60 (by decide +kernel) rfl
theorem wd1891 : Cond.methodLink "BakeryNightModel" (338 : Nat) ({ cls := "BakeryNightModel", name := "batchesOf", desc := "([II)I" } : Jvm.MethodName) ∈ GW := gwt7 61 (by decide +kernel) rfl
theorem wd1893 : Cond.instanceMethod ({ cls := "BakeryNightModel", name := "batchesOf", desc := "([II)I" } : Jvm.MethodName) ∈ GW := gwt7 63 (by decide +kernel) rfl
theorem wd1894 : Cond.code ({ cls := "BakeryNightModel", name := "batchesOf", desc := "([II)I" } : Jvm.MethodName) prog_15_method_52_code (3 : Nat) (Option.some Jvm.ClassFile.FieldType.int) ∈ GW := gwt7 64 (by decide +kernel) rfl
theorem wd1895 : Cond.methodLink "BakeryNightModel" (333 : Nat) ({ cls := "BakeryNightModel", name := "dough", desc := "([III)I" } : Jvm.MethodName) ∈ GW := gwt7 65 (by decide +kernel) rfl
theorem wd1897 : Cond.instanceMethod ({ cls := "BakeryNightModel", name := "dough", desc := "([III)I" } : Jvm.MethodName) ∈ GW := gwt7 67 (by decide +kernel) rfl
theorem wd1898 : Cond.code ({ cls := "BakeryNightModel", name := "dough", desc := "([III)I" } : Jvm.MethodName) prog_15_method_11_code (4 : Nat) (Option.some Jvm.ClassFile.FieldType.int) ∈ GW := gwt7 68 (by decide +kernel) rfl
theorem wd1899 : Cond.methodLink "BakeryNightModel" (335 : Nat) ({ cls := "BakeryNightModel", name := "up", desc := "(II)I" } : Jvm.MethodName) ∈ GW := gwt7 69 (by decide +kernel) rfl
theorem wd1901 : Cond.instanceMethod ({ cls := "BakeryNightModel", name := "up", desc := "(II)I" } : Jvm.MethodName) ∈ GW := gwt7 71 (by decide +kernel) rfl
theorem wd1902 : Cond.code ({ cls := "BakeryNightModel", name := "up", desc := "(II)I" } : Jvm.MethodName) prog_15_method_8_code (3 : Nat) (Option.some Jvm.ClassFile.FieldType.int) ∈ GW := gwt7 72 (by decide +kernel) rfl
theorem wd1903 : Cond.methodLink "BakeryNightLaw" (67 : Nat) ({ cls := "BakeryNightModel", name := "risingMinutes", desc := "(IZ)I" } : Jvm.MethodName) ∈ GW := gwt7 73 (by decide +kernel) rfl
theorem wd1904 : Cond.instanceMethod ({ cls := "BakeryNightModel", name := "risingMinutes", desc := "(IZ)I" } : Jvm.MethodName) ∈ GW := gwt7 74 (by decide +kernel) rfl
theorem wd1905 : Cond.selects "BakeryNightModel" ({ cls := "BakeryNightModel", name := "risingMinutes", desc := "(IZ)I" } : Jvm.MethodName) ({ cls := "BakeryNightModel", name := "risingMinutes", desc := "(IZ)I" } : Jvm.MethodName) ∈ GW := gwt7 75 (by decide +kernel) rfl
theorem wd1906 : Cond.code ({ cls := "BakeryNightModel", name := "risingMinutes", desc := "(IZ)I" } : Jvm.MethodName) prog_15_method_63_code (3 : Nat) (Option.some Jvm.ClassFile.FieldType.int) ∈ GW := gwt7 76 (by decide +kernel) rfl
theorem wd1907 : Cond.methodLink "BakeryNightModel" (358 : Nat) ({ cls := "BakeryNightModel", name := "slowed", desc := "([II)I" } : Jvm.MethodName) ∈ GW := gwt7 77 (by decide +kernel) rfl
theorem wd1909 : Cond.instanceMethod ({ cls := "BakeryNightModel", name := "slowed", desc := "([II)I" } : Jvm.MethodName) ∈ GW := gwt7 79 (by decide +kernel) rfl
theorem wd1910 : Cond.code ({ cls := "BakeryNightModel", name := "slowed", desc := "([II)I" } : Jvm.MethodName) prog_15_method_62_code (3 : Nat) (Option.some Jvm.ClassFile.FieldType.int) ∈ GW := gwt7 80 (by decide +kernel) rfl
theorem wd1911 : Cond.methodLink "BakeryNightLaw" (83 : Nat) ({ cls := "BakeryNightModel", name := "simulate", desc := "(I)I" } : Jvm.MethodName) ∈ GW := gwt7 81 (by decide +kernel) rfl
theorem wd1912 : Cond.instanceMethod ({ cls := "BakeryNightModel", name := "simulate", desc := "(I)I" } : Jvm.MethodName) ∈ GW := gwt7 82 (by decide +kernel) rfl
theorem wd1913 : Cond.selects "BakeryNightModel" ({ cls := "BakeryNightModel", name := "simulate", desc := "(I)I" } : Jvm.MethodName) ({ cls := "BakeryNightModel", name := "simulate", desc := "(I)I" } : Jvm.MethodName) ∈ GW := gwt7 83 (by decide +kernel) rfl
theorem wd1914 : Cond.code ({ cls := "BakeryNightModel", name := "simulate", desc := "(I)I" } : Jvm.MethodName) prog_15_method_81_code (2 : Nat) (Option.some Jvm.ClassFile.FieldType.int) ∈ GW := gwt7 84 (by decide +kernel) rfl
theorem wd1915 : Cond.constantLong "BakeryNightModel" (433 : Nat) (1439 : Int64) ∈ GW := gwt7 85 (by decide +kernel) rfl
theorem wd1916 : Cond.methodLink "BakeryNightModel" (438 : Nat) ({ cls := "BakeryNightModel", name := "simulates", desc := "([I)V" } : Jvm.MethodName) ∈ GW := gwt7 86 (by decide +kernel) rfl
theorem wd1918 : Cond.instanceMethod ({ cls := "BakeryNightModel", name := "simulates", desc := "([I)V" } : Jvm.MethodName) ∈ GW := gwt7 88 (by decide +kernel) rfl
theorem wd1919 : Cond.code ({ cls := "BakeryNightModel", name := "simulates", desc := "([I)V" } : Jvm.MethodName) prog_15_method_80_code (2 : Nat) (Option.none : Option Jvm.ClassFile.FieldType) ∈ GW := gwt7 89 (by decide +kernel) rfl
theorem wd1920 : Cond.methodLink "BakeryNightModel" (415 : Nat) ({ cls := "BakeryNightModel", name := "clears", desc := "([I)V" } : Jvm.MethodName) ∈ GW := gwt7 90 (by decide +kernel) rfl
theorem wd1922 : Cond.instanceMethod ({ cls := "BakeryNightModel", name := "clears", desc := "([I)V" } : Jvm.MethodName) ∈ GW := gwt7 92 (by decide +kernel) rfl
theorem wd1923 : Cond.code ({ cls := "BakeryNightModel", name := "clears", desc := "([I)V" } : Jvm.MethodName) prog_15_method_66_code (4 : Nat) (Option.none : Option Jvm.ClassFile.FieldType) ∈ GW := gwt7 93 (by decide +kernel) rfl
theorem wd1924 : Cond.methodLink "BakeryNightModel" (364 : Nat) ({ cls := "BakeryNightModel", name := "findsBatches", desc := "([I)V" } : Jvm.MethodName) ∈ GW := gwt7 94 (by decide +kernel) rfl
theorem wd1926 : Cond.instanceMethod ({ cls := "BakeryNightModel", name := "findsBatches", desc := "([I)V" } : Jvm.MethodName) ∈ GW := gwt7 96 (by decide +kernel) rfl
theorem wd1927 : Cond.code ({ cls := "BakeryNightModel", name := "findsBatches", desc := "([I)V" } : Jvm.MethodName) prog_15_method_55_code (6 : Nat) (Option.none : Option Jvm.ClassFile.FieldType) ∈ GW := gwt7 97 (by decide +kernel) rfl
theorem wd1928 : Cond.methodLink "BakeryNightModel" (348 : Nat) ({ cls := "BakeryNightModel", name := "dueOf", desc := "([II)I" } : Jvm.MethodName) ∈ GW := gwt7 98 (by decide +kernel) rfl
theorem wd1930 : Cond.instanceMethod ({ cls := "BakeryNightModel", name := "dueOf", desc := "([II)I" } : Jvm.MethodName) ∈ GW := gwt7 100 (by decide +kernel) rfl
theorem wd1931 : Cond.code ({ cls := "BakeryNightModel", name := "dueOf", desc := "([II)I" } : Jvm.MethodName) prog_15_method_54_code (5 : Nat) (Option.some Jvm.ClassFile.FieldType.int) ∈ GW := gwt7 101 (by decide +kernel) rfl
theorem wd1932 : Cond.constant "BakeryNightModel" (341 : Nat) (1000000 : Int32) ∈ GW := gwt7 102 (by decide +kernel) rfl
theorem wd1933 : Cond.methodLink "BakeryNightModel" (342 : Nat) ({ cls := "BakeryNightModel", name := "lesser", desc := "(II)I" } : Jvm.MethodName) ∈ GW := gwt7 103 (by decide +kernel) rfl
theorem wd1935 : Cond.instanceMethod ({ cls := "BakeryNightModel", name := "lesser", desc := "(II)I" } : Jvm.MethodName) ∈ GW := gwt7 105 (by decide +kernel) rfl
theorem wd1936 : Cond.code ({ cls := "BakeryNightModel", name := "lesser", desc := "(II)I" } : Jvm.MethodName) prog_15_method_7_code (3 : Nat) (Option.some Jvm.ClassFile.FieldType.int) ∈ GW := gwt7 106 (by decide +kernel) rfl
theorem wd1937 : Cond.methodLink "BakeryNightModel" (367 : Nat) ({ cls := "BakeryNightModel", name := "oven", desc := "([III)I" } : Jvm.MethodName) ∈ GW := gwt7 107 (by decide +kernel) rfl
theorem wd1939 : Cond.instanceMethod ({ cls := "BakeryNightModel", name := "oven", desc := "([III)I" } : Jvm.MethodName) ∈ GW := gwt7 109 (by decide +kernel) rfl
theorem wd1940 : Cond.code ({ cls := "BakeryNightModel", name := "oven", desc := "([III)I" } : Jvm.MethodName) prog_15_method_12_code (4 : Nat) (Option.some Jvm.ClassFile.FieldType.int) ∈ GW := gwt7 110 (by decide +kernel) rfl
theorem wd1941 : Cond.methodLink "BakeryNightModel" (412 : Nat) ({ cls := "BakeryNightModel", name := "stateMany", desc := "(I)I" } : Jvm.MethodName) ∈ GW := gwt7 111 (by decide +kernel) rfl
theorem wd1943 : Cond.instanceMethod ({ cls := "BakeryNightModel", name := "stateMany", desc := "(I)I" } : Jvm.MethodName) ∈ GW := gwt7 113 (by decide +kernel) rfl
theorem wd1944 : Cond.code ({ cls := "BakeryNightModel", name := "stateMany", desc := "(I)I" } : Jvm.MethodName) prog_15_method_67_code (4 : Nat) (Option.some Jvm.ClassFile.FieldType.int) ∈ GW := gwt7 114 (by decide +kernel) rfl
theorem wd1945 : Cond.methodLink "BakeryNightModel" (418 : Nat) ({ cls := "BakeryNightModel", name := "endsAll", desc := "([I)V" } : Jvm.MethodName) ∈ GW := gwt7 115 (by decide +kernel) rfl
theorem wd1947 : Cond.instanceMethod ({ cls := "BakeryNightModel", name := "endsAll", desc := "([I)V" } : Jvm.MethodName) ∈ GW := gwt7 117 (by decide +kernel) rfl
theorem wd1948 : Cond.code ({ cls := "BakeryNightModel", name := "endsAll", desc := "([I)V" } : Jvm.MethodName) prog_15_method_69_code (3 : Nat) (Option.none : Option Jvm.ClassFile.FieldType) ∈ GW := gwt7 118 (by decide +kernel) rfl
theorem wd1949 : Cond.methodLink "BakeryNightModel" (390 : Nat) ({ cls := "BakeryNightModel", name := "goesOn", desc := "([II)V" } : Jvm.MethodName) ∈ GW := gwt7 119 (by decide +kernel) rfl
theorem wd1951 : Cond.instanceMethod ({ cls := "BakeryNightModel", name := "goesOn", desc := "([II)V" } : Jvm.MethodName) ∈ GW := gwt7 121 (by decide +kernel) rfl
theorem wd1952 : Cond.code ({ cls := "BakeryNightModel", name := "goesOn", desc := "([II)V" } : Jvm.MethodName) prog_15_method_68_code (4 : Nat) (Option.none : Option Jvm.ClassFile.FieldType) ∈ GW := gwt7 122 (by decide +kernel) rfl
theorem wd1953 : Cond.methodLink "BakeryNightModel" (387 : Nat) ({ cls := "BakeryNightModel", name := "reaches", desc := "(II)V" } : Jvm.MethodName) ∈ GW := gwt7 123 (by decide +kernel) rfl
theorem wd1955 : Cond.instanceMethod ({ cls := "BakeryNightModel", name := "reaches", desc := "(II)V" } : Jvm.MethodName) ∈ GW := gwt7 125 (by decide +kernel) rfl
theorem wd1956 : Cond.code ({ cls := "BakeryNightModel", name := "reaches", desc := "(II)V" } : Jvm.MethodName) prog_15_method_65_code (3 : Nat) (Option.none : Option Jvm.ClassFile.FieldType) ∈ GW := gwt7 126 (by decide +kernel) rfl
theorem wd1957 : Cond.methodLink "BakeryNightModel" (421 : Nat) ({ cls := "BakeryNightModel", name := "spoils", desc := "([I)V" } : Jvm.MethodName) ∈ GW := gwt7 127 (by decide +kernel) rfl
theorem wd1959 : Cond.instanceMethod ({ cls := "BakeryNightModel", name := "spoils", desc := "([I)V" } : Jvm.MethodName) ∈ GW := gwt7 129 (by decide +kernel) rfl
theorem wd1960 : Cond.code ({ cls := "BakeryNightModel", name := "spoils", desc := "([I)V" } : Jvm.MethodName) prog_15_method_70_code (5 : Nat) (Option.none : Option Jvm.ClassFile.FieldType) ∈ GW := gwt7 130 (by decide +kernel) rfl
theorem wd1961 : Cond.methodLink "BakeryNightModel" (424 : Nat) ({ cls := "BakeryNightModel", name := "bakes", desc := "([I)V" } : Jvm.MethodName) ∈ GW := gwt7 131 (by decide +kernel) rfl
theorem wd1963 : Cond.instanceMethod ({ cls := "BakeryNightModel", name := "bakes", desc := "([I)V" } : Jvm.MethodName) ∈ GW := gwt7 133 (by decide +kernel) rfl
theorem wd1964 : Cond.code ({ cls := "BakeryNightModel", name := "bakes", desc := "([I)V" } : Jvm.MethodName) prog_15_method_77_code (7 : Nat) (Option.none : Option Jvm.ClassFile.FieldType) ∈ GW := gwt7 134 (by decide +kernel) rfl
theorem wd1965 : Cond.methodLink "BakeryNightModel" (403 : Nat) ({ cls := "BakeryNightModel", name := "ovenFor", desc := "([II)I" } : Jvm.MethodName) ∈ GW := gwt7 135 (by decide +kernel) rfl
theorem wd1967 : Cond.instanceMethod ({ cls := "BakeryNightModel", name := "ovenFor", desc := "([II)I" } : Jvm.MethodName) ∈ GW := gwt7 137 (by decide +kernel) rfl
theorem wd1968 : Cond.code ({ cls := "BakeryNightModel", name := "ovenFor", desc := "([II)I" } : Jvm.MethodName) prog_15_method_73_code (4 : Nat) (Option.some Jvm.ClassFile.FieldType.int) ∈ GW := gwt7 138 (by decide +kernel) rfl
theorem wd1969 : Cond.methodLink "BakeryNightModel" (394 : Nat) ({ cls := "BakeryNightModel", name := "isUsable", desc := "([II)Z" } : Jvm.MethodName) ∈ GW := gwt7 139 (by decide +kernel) rfl
theorem wd1971 : Cond.instanceMethod ({ cls := "BakeryNightModel", name := "isUsable", desc := "([II)Z" } : Jvm.MethodName) ∈ GW := gwt7 141 (by decide +kernel) rfl
theorem wd1972 : Cond.code ({ cls := "BakeryNightModel", name := "isUsable", desc := "([II)Z" } : Jvm.MethodName) prog_15_method_72_code (3 : Nat) (Option.some Jvm.ClassFile.FieldType.boolean) ∈ GW := gwt7 142 (by decide +kernel) rfl
theorem wd1973 : Cond.methodLink "BakeryNightModel" (397 : Nat) ({ cls := "BakeryNightModel", name := "onShelves", desc := "(I)I" } : Jvm.MethodName) ∈ GW := gwt7 143 (by decide +kernel) rfl
theorem wd1975 : Cond.instanceMethod ({ cls := "BakeryNightModel", name := "onShelves", desc := "(I)I" } : Jvm.MethodName) ∈ GW := gwt7 145 (by decide +kernel) rfl
theorem wd1976 : Cond.code ({ cls := "BakeryNightModel", name := "onShelves", desc := "(I)I" } : Jvm.MethodName) prog_15_method_71_code (4 : Nat) (Option.some Jvm.ClassFile.FieldType.int) ∈ GW := gwt7 146 (by decide +kernel) rfl
theorem wd1977 : Cond.methodLink "BakeryNightModel" (406 : Nat) ({ cls := "BakeryNightModel", name := "isOneChanging", desc := "([II)Z" } : Jvm.MethodName) ∈ GW := gwt7 147 (by decide +kernel) rfl
theorem wd1979 : Cond.instanceMethod ({ cls := "BakeryNightModel", name := "isOneChanging", desc := "([II)Z" } : Jvm.MethodName) ∈ GW := gwt7 149 (by decide +kernel) rfl
theorem wd1980 : Cond.code ({ cls := "BakeryNightModel", name := "isOneChanging", desc := "([II)Z" } : Jvm.MethodName) prog_15_method_74_code (4 : Nat) (Option.some Jvm.ClassFile.FieldType.boolean) ∈ GW := gwt7 150 (by decide +kernel) rfl
theorem wd1981 : Cond.methodLink "BakeryNightModel" (409 : Nat) ({ cls := "BakeryNightModel", name := "heats", desc := "([II)V" } : Jvm.MethodName) ∈ GW := gwt7 151 (by decide +kernel) rfl
theorem wd1983 : Cond.instanceMethod ({ cls := "BakeryNightModel", name := "heats", desc := "([II)V" } : Jvm.MethodName) ∈ GW := gwt7 153 (by decide +kernel) rfl
theorem wd1984 : Cond.code ({ cls := "BakeryNightModel", name := "heats", desc := "([II)V" } : Jvm.MethodName) prog_15_method_76_code (5 : Nat) (Option.none : Option Jvm.ClassFile.FieldType) ∈ GW := gwt7 154 (by decide +kernel) rfl
theorem wd1985 : Cond.methodLink "BakeryNightModel" (400 : Nat) ({ cls := "BakeryNightModel", name := "changeMinutes", desc := "([III)I" } : Jvm.MethodName) ∈ GW := gwt7 155 (by decide +kernel) rfl
theorem wd1987 : Cond.instanceMethod ({ cls := "BakeryNightModel", name := "changeMinutes", desc := "([III)I" } : Jvm.MethodName) ∈ GW := gwt7 157 (by decide +kernel) rfl
theorem wd1988 : Cond.code ({ cls := "BakeryNightModel", name := "changeMinutes", desc := "([III)I" } : Jvm.MethodName) prog_15_method_75_code (4 : Nat) (Option.some Jvm.ClassFile.FieldType.int) ∈ GW := gwt7 158 (by decide +kernel) rfl
theorem wd1989 : Cond.methodLink "BakeryNightModel" (427 : Nat) ({ cls := "BakeryNightModel", name := "shapes", desc := "([I)V" } : Jvm.MethodName) ∈ GW := gwt7 159 (by decide +kernel) rfl
theorem wd1991 : Cond.instanceMethod ({ cls := "BakeryNightModel", name := "shapes", desc := "([I)V" } : Jvm.MethodName) ∈ GW := gwt7 161 (by decide +kernel) rfl
theorem wd1992 : Cond.code ({ cls := "BakeryNightModel", name := "shapes", desc := "([I)V" } : Jvm.MethodName) prog_15_method_78_code (6 : Nat) (Option.none : Option Jvm.ClassFile.FieldType) ∈ GW := gwt7 162 (by decide +kernel) rfl
theorem wd1993 : Cond.methodLink "BakeryNightModel" (430 : Nat) ({ cls := "BakeryNightModel", name := "mixes", desc := "([I)V" } : Jvm.MethodName) ∈ GW := gwt7 163 (by decide +kernel) rfl
theorem wd1995 : Cond.instanceMethod ({ cls := "BakeryNightModel", name := "mixes", desc := "([I)V" } : Jvm.MethodName) ∈ GW := gwt7 165 (by decide +kernel) rfl
theorem wd1996 : Cond.code ({ cls := "BakeryNightModel", name := "mixes", desc := "([I)V" } : Jvm.MethodName) prog_15_method_79_code (4 : Nat) (Option.none : Option Jvm.ClassFile.FieldType) ∈ GW := gwt7 166 (by decide +kernel) rfl
theorem wd1997 : Cond.methodLink "BakeryNightLaw" (89 : Nat) ({ cls := "BakeryNightModel", name := "batchDough", desc := "(I)I" } : Jvm.MethodName) ∈ GW := gwt7 167 (by decide +kernel) rfl
theorem wd1998 : Cond.instanceMethod ({ cls := "BakeryNightModel", name := "batchDough", desc := "(I)I" } : Jvm.MethodName) ∈ GW := gwt7 168 (by decide +kernel) rfl
theorem wd1999 : Cond.selects "BakeryNightModel" ({ cls := "BakeryNightModel", name := "batchDough", desc := "(I)I" } : Jvm.MethodName) ({ cls := "BakeryNightModel", name := "batchDough", desc := "(I)I" } : Jvm.MethodName) ∈ GW := gwt7 169 (by decide +kernel) rfl
theorem wd2000 : Cond.code ({ cls := "BakeryNightModel", name := "batchDough", desc := "(I)I" } : Jvm.MethodName) prog_15_method_84_code (2 : Nat) (Option.some Jvm.ClassFile.FieldType.int) ∈ GW := gwt7 170 (by decide +kernel) rfl
theorem wd2001 : Cond.methodLink "BakeryNightModel" (444 : Nat) ({ cls := "BakeryNightModel", name := "isBatch", desc := "(I)Z" } : Jvm.MethodName) ∈ GW := gwt7 171 (by decide +kernel) rfl
theorem wd2003 : Cond.instanceMethod ({ cls := "BakeryNightModel", name := "isBatch", desc := "(I)Z" } : Jvm.MethodName) ∈ GW := gwt7 173 (by decide +kernel) rfl
theorem wd2004 : Cond.code ({ cls := "BakeryNightModel", name := "isBatch", desc := "(I)Z" } : Jvm.MethodName) prog_15_method_83_code (2 : Nat) (Option.some Jvm.ClassFile.FieldType.boolean) ∈ GW := gwt7 174 (by decide +kernel) rfl
theorem wd2005 : Cond.methodLink "BakeryNightModel" (441 : Nat) ({ cls := "BakeryNightModel", name := "isNight", desc := "()Z" } : Jvm.MethodName) ∈ GW := gwt7 175 (by decide +kernel) rfl
theorem wd2007 : Cond.instanceMethod ({ cls := "BakeryNightModel", name := "isNight", desc := "()Z" } : Jvm.MethodName) ∈ GW := gwt7 177 (by decide +kernel) rfl
theorem wd2008 : Cond.code ({ cls := "BakeryNightModel", name := "isNight", desc := "()Z" } : Jvm.MethodName) prog_15_method_82_code (1 : Nat) (Option.some Jvm.ClassFile.FieldType.boolean) ∈ GW := gwt7 178 (by decide +kernel) rfl
theorem wd2009 : Cond.methodLink "BakeryNightLaw" (96 : Nat) ({ cls := "BakeryNightModel", name := "stageMinute", desc := "(II)I" } : Jvm.MethodName) ∈ GW := gwt7 179 (by decide +kernel) rfl
theorem wd2010 : Cond.instanceMethod ({ cls := "BakeryNightModel", name := "stageMinute", desc := "(II)I" } : Jvm.MethodName) ∈ GW := gwt7 180 (by decide +kernel) rfl
theorem wd2011 : Cond.selects "BakeryNightModel" ({ cls := "BakeryNightModel", name := "stageMinute", desc := "(II)I" } : Jvm.MethodName) ({ cls := "BakeryNightModel", name := "stageMinute", desc := "(II)I" } : Jvm.MethodName) ∈ GW := gwt7 181 (by decide +kernel) rfl
theorem wd2012 : Cond.code ({ cls := "BakeryNightModel", name := "stageMinute", desc := "(II)I" } : Jvm.MethodName) prog_15_method_85_code (4 : Nat) (Option.some Jvm.ClassFile.FieldType.int) ∈ GW := gwt7 182 (by decide +kernel) rfl
theorem wd2013 : Cond.constantLong "BakeryNightModel" (447 : Nat) (5 : Int64) ∈ GW := gwt7 183 (by decide +kernel) rfl
theorem wd2014 : Cond.methodLink "BakeryNightModel" (449 : Nat) ({ cls := "BakeryNightModel", name := "fails", desc := "(I)I" } : Jvm.MethodName) ∈ GW := gwt7 184 (by decide +kernel) rfl
theorem wd2016 : Cond.instanceMethod ({ cls := "BakeryNightModel", name := "fails", desc := "(I)I" } : Jvm.MethodName) ∈ GW := gwt7 186 (by decide +kernel) rfl
theorem wd2017 : Cond.code ({ cls := "BakeryNightModel", name := "fails", desc := "(I)I" } : Jvm.MethodName) prog_15_method_3_code (2 : Nat) (Option.some Jvm.ClassFile.FieldType.int) ∈ GW := gwt7 187 (by decide +kernel) rfl
theorem wd2018 : Cond.methodLink "BakeryNightModel" (452 : Nat) ({ cls := "BakeryNightModel", name := "stageOf", desc := "(II)I" } : Jvm.MethodName) ∈ GW := gwt7 188 (by decide +kernel) rfl
theorem wd2020 : Cond.instanceMethod ({ cls := "BakeryNightModel", name := "stageOf", desc := "(II)I" } : Jvm.MethodName) ∈ GW := gwt7 190 (by decide +kernel) rfl
theorem wd2021 : Cond.code ({ cls := "BakeryNightModel", name := "stageOf", desc := "(II)I" } : Jvm.MethodName) prog_15_method_64_code (3 : Nat) (Option.some Jvm.ClassFile.FieldType.int) ∈ GW := gwt7 191 (by decide +kernel) rfl
theorem wd2022 : Cond.methodLink "BakeryNightLaw" (99 : Nat) ({ cls := "BakeryNightModel", name := "ovenOf", desc := "(I)I" } : Jvm.MethodName) ∈ GW := gwt7 192 (by decide +kernel) rfl
theorem wd2023 : Cond.instanceMethod ({ cls := "BakeryNightModel", name := "ovenOf", desc := "(I)I" } : Jvm.MethodName) ∈ GW := gwt7 193 (by decide +kernel) rfl
theorem wd2024 : Cond.selects "BakeryNightModel" ({ cls := "BakeryNightModel", name := "ovenOf", desc := "(I)I" } : Jvm.MethodName) ({ cls := "BakeryNightModel", name := "ovenOf", desc := "(I)I" } : Jvm.MethodName) ∈ GW := gwt7 194 (by decide +kernel) rfl
theorem wd2025 : Cond.code ({ cls := "BakeryNightModel", name := "ovenOf", desc := "(I)I" } : Jvm.MethodName) prog_15_method_86_code (2 : Nat) (Option.some Jvm.ClassFile.FieldType.int) ∈ GW := gwt7 195 (by decide +kernel) rfl
theorem wd2026 : Cond.methodLink "BakeryNightLaw" (103 : Nat) ({ cls := "BakeryNightModel", name := "spoiledCount", desc := "()I" } : Jvm.MethodName) ∈ GW := gwt7 196 (by decide +kernel) rfl
theorem wd2027 : Cond.instanceMethod ({ cls := "BakeryNightModel", name := "spoiledCount", desc := "()I" } : Jvm.MethodName) ∈ GW := gwt7 197 (by decide +kernel) rfl
theorem wd2028 : Cond.selects "BakeryNightModel" ({ cls := "BakeryNightModel", name := "spoiledCount", desc := "()I" } : Jvm.MethodName) ({ cls := "BakeryNightModel", name := "spoiledCount", desc := "()I" } : Jvm.MethodName) ∈ GW := gwt7 198 (by decide +kernel) rfl
theorem wd2029 : Cond.code ({ cls := "BakeryNightModel", name := "spoiledCount", desc := "()I" } : Jvm.MethodName) prog_15_method_87_code (1 : Nat) (Option.some Jvm.ClassFile.FieldType.int) ∈ GW := gwt7 199 (by decide +kernel) rfl
theorem wd2030 : Cond.methodLink "BakeryNightLaw" (107 : Nat) ({ cls := "BakeryNightModel", name := "changingMinutes", desc := "(I)I" } : Jvm.MethodName) ∈ GW := gwt7 200 (by decide +kernel) rfl
theorem wd2031 : Cond.instanceMethod ({ cls := "BakeryNightModel", name := "changingMinutes", desc := "(I)I" } : Jvm.MethodName) ∈ GW := gwt7 201 (by decide +kernel) rfl
theorem wd2032 : Cond.selects "BakeryNightModel" ({ cls := "BakeryNightModel", name := "changingMinutes", desc := "(I)I" } : Jvm.MethodName) ({ cls := "BakeryNightModel", name := "changingMinutes", desc := "(I)I" } : Jvm.MethodName) ∈ GW := gwt7 202 (by decide +kernel) rfl
theorem wd2033 : Cond.code ({ cls := "BakeryNightModel", name := "changingMinutes", desc := "(I)I" } : Jvm.MethodName) prog_15_method_88_code (2 : Nat) (Option.some Jvm.ClassFile.FieldType.int) ∈ GW := gwt7 203 (by decide +kernel) rfl
theorem wd2034 : Cond.methodLink "BakeryNightModel" (455 : Nat) ({ cls := "BakeryNightModel", name := "isOven", desc := "(I)Z" } : Jvm.MethodName) ∈ GW := gwt7 204 (by decide +kernel) rfl
theorem wd2036 : Cond.instanceMethod ({ cls := "BakeryNightModel", name := "isOven", desc := "(I)Z" } : Jvm.MethodName) ∈ GW := gwt7 206 (by decide +kernel) rfl
theorem wd2037 : Cond.code ({ cls := "BakeryNightModel", name := "isOven", desc := "(I)Z" } : Jvm.MethodName) prog_15_method_57_code (2 : Nat) (Option.some Jvm.ClassFile.FieldType.boolean) ∈ GW := gwt7 207 (by decide +kernel) rfl
theorem wd2038 : Cond.methodLink "BakeryNightLaw" (111 : Nat) ({ cls := "BakeryNightModel", name := "bakingMinutes", desc := "(I)I" } : Jvm.MethodName) ∈ GW := gwt7 208 (by decide +kernel) rfl
theorem wd2039 : Cond.instanceMethod ({ cls := "BakeryNightModel", name := "bakingMinutes", desc := "(I)I" } : Jvm.MethodName) ∈ GW := gwt7 209 (by decide +kernel) rfl
theorem wd2040 : Cond.selects "BakeryNightModel" ({ cls := "BakeryNightModel", name := "bakingMinutes", desc := "(I)I" } : Jvm.MethodName) ({ cls := "BakeryNightModel", name := "bakingMinutes", desc := "(I)I" } : Jvm.MethodName) ∈ GW := gwt7 210 (by decide +kernel) rfl
theorem wd2041 : Cond.code ({ cls := "BakeryNightModel", name := "bakingMinutes", desc := "(I)I" } : Jvm.MethodName) prog_15_method_89_code (4 : Nat) (Option.some Jvm.ClassFile.FieldType.int) ∈ GW := gwt7 211 (by decide +kernel) rfl
theorem wd2042 : Cond.methodLink "BakeryNightLaw" (115 : Nat) ({ cls := "BakeryNightModel", name := "waitingMinutes", desc := "(I)I" } : Jvm.MethodName) ∈ GW := gwt7 212 (by decide +kernel) rfl
theorem wd2043 : Cond.instanceMethod ({ cls := "BakeryNightModel", name := "waitingMinutes", desc := "(I)I" } : Jvm.MethodName) ∈ GW := gwt7 213 (by decide +kernel) rfl
theorem wd2044 : Cond.selects "BakeryNightModel" ({ cls := "BakeryNightModel", name := "waitingMinutes", desc := "(I)I" } : Jvm.MethodName) ({ cls := "BakeryNightModel", name := "waitingMinutes", desc := "(I)I" } : Jvm.MethodName) ∈ GW := gwt7 214 (by decide +kernel) rfl
theorem wd2045 : Cond.code ({ cls := "BakeryNightModel", name := "waitingMinutes", desc := "(I)I" } : Jvm.MethodName) prog_15_method_90_code (2 : Nat) (Option.some Jvm.ClassFile.FieldType.int) ∈ GW := gwt7 215 (by decide +kernel) rfl
theorem wd2046 : Cond.methodLink "BakeryNightLaw" (119 : Nat) ({ cls := "BakeryNightModel", name := "shelvesUsed", desc := "(II)I" } : Jvm.MethodName) ∈ GW := gwt7 216 (by decide +kernel) rfl
theorem wd2047 : Cond.instanceMethod ({ cls := "BakeryNightModel", name := "shelvesUsed", desc := "(II)I" } : Jvm.MethodName) ∈ GW := gwt7 217 (by decide +kernel) rfl
theorem wd2048 : Cond.selects "BakeryNightModel" ({ cls := "BakeryNightModel", name := "shelvesUsed", desc := "(II)I" } : Jvm.MethodName) ({ cls := "BakeryNightModel", name := "shelvesUsed", desc := "(II)I" } : Jvm.MethodName) ∈ GW := gwt7 218 (by decide +kernel) rfl
theorem wd2049 : Cond.code ({ cls := "BakeryNightModel", name := "shelvesUsed", desc := "(II)I" } : Jvm.MethodName) prog_15_method_93_code (5 : Nat) (Option.some Jvm.ClassFile.FieldType.int) ∈ GW := gwt7 219 (by decide +kernel) rfl
theorem wd2050 : Cond.methodLink "BakeryNightModel" (458 : Nat) ({ cls := "BakeryNightModel", name := "uses", desc := "(III)Z" } : Jvm.MethodName) ∈ GW := gwt7 220 (by decide +kernel) rfl
theorem wd2052 : Cond.instanceMethod ({ cls := "BakeryNightModel", name := "uses", desc := "(III)Z" } : Jvm.MethodName) ∈ GW := gwt7 222 (by decide +kernel) rfl
theorem wd2053 : Cond.code ({ cls := "BakeryNightModel", name := "uses", desc := "(III)Z" } : Jvm.MethodName) prog_15_method_91_code (5 : Nat) (Option.some Jvm.ClassFile.FieldType.boolean) ∈ GW := gwt7 223 (by decide +kernel) rfl
theorem wd2054 : Cond.methodLink "BakeryNightLaw" (123 : Nat) ({ cls := "BakeryNightModel", name := "busy", desc := "(II)I" } : Jvm.MethodName) ∈ GW := gwt7 224 (by decide +kernel) rfl
theorem wd2055 : Cond.instanceMethod ({ cls := "BakeryNightModel", name := "busy", desc := "(II)I" } : Jvm.MethodName) ∈ GW := gwt7 225 (by decide +kernel) rfl
theorem wd2056 : Cond.selects "BakeryNightModel" ({ cls := "BakeryNightModel", name := "busy", desc := "(II)I" } : Jvm.MethodName) ({ cls := "BakeryNightModel", name := "busy", desc := "(II)I" } : Jvm.MethodName) ∈ GW := gwt7 226 (by decide +kernel) rfl
theorem wd2057 : Cond.code ({ cls := "BakeryNightModel", name := "busy", desc := "(II)I" } : Jvm.MethodName) prog_15_method_94_code (3 : Nat) (Option.some Jvm.ClassFile.FieldType.int) ∈ GW := gwt7 227 (by decide +kernel) rfl
theorem wd2058 : Cond.constantLong "BakeryNightModel" (462 : Nat) (2 : Int64) ∈ GW := gwt7 228 (by decide +kernel) rfl
theorem wd2059 : Cond.methodLink "BakeryNightModel" (464 : Nat) ({ cls := "BakeryNightModel", name := "inUse", desc := "(II)I" } : Jvm.MethodName) ∈ GW := gwt7 229 (by decide +kernel) rfl
theorem wd2061 : Cond.instanceMethod ({ cls := "BakeryNightModel", name := "inUse", desc := "(II)I" } : Jvm.MethodName) ∈ GW := gwt7 231 (by decide +kernel) rfl
theorem wd2062 : Cond.code ({ cls := "BakeryNightModel", name := "inUse", desc := "(II)I" } : Jvm.MethodName) prog_15_method_92_code (5 : Nat) (Option.some Jvm.ClassFile.FieldType.int) ∈ GW := gwt7 232 (by decide +kernel) rfl
theorem wd2063 : Cond.methodLink "BakeryNightLaw" (127 : Nat) ({ cls := "BakeryNightModel", name := "busiestMinute", desc := "(I)I" } : Jvm.MethodName) ∈ GW := gwt7 233 (by decide +kernel) rfl
theorem wd2064 : Cond.instanceMethod ({ cls := "BakeryNightModel", name := "busiestMinute", desc := "(I)I" } : Jvm.MethodName) ∈ GW := gwt7 234 (by decide +kernel) rfl
theorem wd2065 : Cond.selects "BakeryNightModel" ({ cls := "BakeryNightModel", name := "busiestMinute", desc := "(I)I" } : Jvm.MethodName) ({ cls := "BakeryNightModel", name := "busiestMinute", desc := "(I)I" } : Jvm.MethodName) ∈ GW := gwt7 235 (by decide +kernel) rfl
theorem wd2066 : Cond.code ({ cls := "BakeryNightModel", name := "busiestMinute", desc := "(I)I" } : Jvm.MethodName) prog_15_method_95_code (6 : Nat) (Option.some Jvm.ClassFile.FieldType.int) ∈ GW := gwt7 236 (by decide +kernel) rfl
theorem wd2067 : Cond.methodLink "BakeryNightLaw" (131 : Nat) ({ cls := "BakeryNightModel", name := "readyMinute", desc := "(I)I" } : Jvm.MethodName) ∈ GW := gwt7 237 (by decide +kernel) rfl
theorem wd2068 : Cond.instanceMethod ({ cls := "BakeryNightModel", name := "readyMinute", desc := "(I)I" } : Jvm.MethodName) ∈ GW := gwt7 238 (by decide +kernel) rfl
theorem wd2069 : Cond.selects "BakeryNightModel" ({ cls := "BakeryNightModel", name := "readyMinute", desc := "(I)I" } : Jvm.MethodName) ({ cls := "BakeryNightModel", name := "readyMinute", desc := "(I)I" } : Jvm.MethodName) ∈ GW := gwt7 239 (by decide +kernel) rfl
theorem wd2070 : Cond.code ({ cls := "BakeryNightModel", name := "readyMinute", desc := "(I)I" } : Jvm.MethodName) prog_15_method_102_code (3 : Nat) (Option.some Jvm.ClassFile.FieldType.int) ∈ GW := gwt8 0 (by decide +kernel) rfl
theorem wd2071 : Cond.methodLink "BakeryNightModel" (483 : Nat) ({ cls := "BakeryNightModel", name := "readyAt", desc := "([II)I" } : Jvm.MethodName) ∈ GW := gwt8 1 (by decide +kernel) rfl
theorem wd2073 : Cond.instanceMethod ({ cls := "BakeryNightModel", name := "readyAt", desc := "([II)I" } : Jvm.MethodName) ∈ GW := gwt8 3 (by decide +kernel) rfl
theorem wd2074 : Cond.code ({ cls := "BakeryNightModel", name := "readyAt", desc := "([II)I" } : Jvm.MethodName) prog_15_method_101_code (3 : Nat) (Option.some Jvm.ClassFile.FieldType.int) ∈ GW := gwt8 4 (by decide +kernel) rfl
theorem wd2075 : Cond.methodLink "BakeryNightModel" (477 : Nat) ({ cls := "BakeryNightModel", name := "isReady", desc := "([II)Z" } : Jvm.MethodName) ∈ GW := gwt8 5 (by decide +kernel) rfl
theorem wd2077 : Cond.instanceMethod ({ cls := "BakeryNightModel", name := "isReady", desc := "([II)Z" } : Jvm.MethodName) ∈ GW := gwt8 7 (by decide +kernel) rfl
theorem wd2078 : Cond.code ({ cls := "BakeryNightModel", name := "isReady", desc := "([II)Z" } : Jvm.MethodName) prog_15_method_100_code (3 : Nat) (Option.some Jvm.ClassFile.FieldType.boolean) ∈ GW := gwt8 8 (by decide +kernel) rfl
theorem wd2079 : Cond.methodLink "BakeryNightModel" (471 : Nat) ({ cls := "BakeryNightModel", name := "givenAhead", desc := "([II)I" } : Jvm.MethodName) ∈ GW := gwt8 9 (by decide +kernel) rfl
theorem wd2081 : Cond.instanceMethod ({ cls := "BakeryNightModel", name := "givenAhead", desc := "([II)I" } : Jvm.MethodName) ∈ GW := gwt8 11 (by decide +kernel) rfl
theorem wd2082 : Cond.code ({ cls := "BakeryNightModel", name := "givenAhead", desc := "([II)I" } : Jvm.MethodName) prog_15_method_98_code (5 : Nat) (Option.some Jvm.ClassFile.FieldType.int) ∈ GW := gwt8 12 (by decide +kernel) rfl
theorem wd2083 : Cond.methodLink "BakeryNightModel" (467 : Nat) ({ cls := "BakeryNightModel", name := "isBefore", desc := "([III)Z" } : Jvm.MethodName) ∈ GW := gwt8 13 (by decide +kernel) rfl
theorem wd2085 : Cond.instanceMethod ({ cls := "BakeryNightModel", name := "isBefore", desc := "([III)Z" } : Jvm.MethodName) ∈ GW := gwt8 15 (by decide +kernel) rfl
theorem wd2086 : Cond.code ({ cls := "BakeryNightModel", name := "isBefore", desc := "([III)Z" } : Jvm.MethodName) prog_15_method_97_code (4 : Nat) (Option.some Jvm.ClassFile.FieldType.boolean) ∈ GW := gwt8 16 (by decide +kernel) rfl
theorem wd2087 : Cond.methodLink "BakeryNightModel" (474 : Nat) ({ cls := "BakeryNightModel", name := "bakedLoaves", desc := "([II)I" } : Jvm.MethodName) ∈ GW := gwt8 17 (by decide +kernel) rfl
theorem wd2089 : Cond.instanceMethod ({ cls := "BakeryNightModel", name := "bakedLoaves", desc := "([II)I" } : Jvm.MethodName) ∈ GW := gwt8 19 (by decide +kernel) rfl
theorem wd2090 : Cond.code ({ cls := "BakeryNightModel", name := "bakedLoaves", desc := "([II)I" } : Jvm.MethodName) prog_15_method_96_code (5 : Nat) (Option.some Jvm.ClassFile.FieldType.int) ∈ GW := gwt8 20 (by decide +kernel) rfl
theorem wd2091 : Cond.methodLink "BakeryNightModel" (480 : Nat) ({ cls := "BakeryNightModel", name := "outAt", desc := "([III)I" } : Jvm.MethodName) ∈ GW := gwt8 21 (by decide +kernel) rfl
theorem wd2093 : Cond.instanceMethod ({ cls := "BakeryNightModel", name := "outAt", desc := "([III)I" } : Jvm.MethodName) ∈ GW := gwt8 23 (by decide +kernel) rfl
theorem wd2094 : Cond.code ({ cls := "BakeryNightModel", name := "outAt", desc := "([III)I" } : Jvm.MethodName) prog_15_method_99_code (9 : Nat) (Option.some Jvm.ClassFile.FieldType.int) ∈ GW := gwt8 24 (by decide +kernel) rfl
theorem wd2095 : Cond.methodLink "BakeryNightLaw" (135 : Nat) ({ cls := "BakeryNightModel", name := "surplusLoaves", desc := "(I)I" } : Jvm.MethodName) ∈ GW := gwt8 25 (by decide +kernel) rfl
theorem wd2096 : Cond.instanceMethod ({ cls := "BakeryNightModel", name := "surplusLoaves", desc := "(I)I" } : Jvm.MethodName) ∈ GW := gwt8 26 (by decide +kernel) rfl
theorem wd2097 : Cond.selects "BakeryNightModel" ({ cls := "BakeryNightModel", name := "surplusLoaves", desc := "(I)I" } : Jvm.MethodName) ({ cls := "BakeryNightModel", name := "surplusLoaves", desc := "(I)I" } : Jvm.MethodName) ∈ GW := gwt8 27 (by decide +kernel) rfl
theorem wd2098 : Cond.code ({ cls := "BakeryNightModel", name := "surplusLoaves", desc := "(I)I" } : Jvm.MethodName) prog_15_method_103_code (2 : Nat) (Option.some Jvm.ClassFile.FieldType.int) ∈ GW := gwt8 28 (by decide +kernel) rfl
theorem wd2099 : Cond.methodLink "BakeryNightLaw" (139 : Nat) ({ cls := "BakeryNightModel", name := "surplusValue", desc := "(I)I" } : Jvm.MethodName) ∈ GW := gwt8 29 (by decide +kernel) rfl
theorem wd2100 : Cond.instanceMethod ({ cls := "BakeryNightModel", name := "surplusValue", desc := "(I)I" } : Jvm.MethodName) ∈ GW := gwt8 30 (by decide +kernel) rfl
theorem wd2101 : Cond.selects "BakeryNightModel" ({ cls := "BakeryNightModel", name := "surplusValue", desc := "(I)I" } : Jvm.MethodName) ({ cls := "BakeryNightModel", name := "surplusValue", desc := "(I)I" } : Jvm.MethodName) ∈ GW := gwt8 31 (by decide +kernel) rfl
theorem wd2102 : Cond.code ({ cls := "BakeryNightModel", name := "surplusValue", desc := "(I)I" } : Jvm.MethodName) prog_15_method_105_code (5 : Nat) (Option.some Jvm.ClassFile.FieldType.int) ∈ GW := gwt8 32 (by decide +kernel) rfl
theorem wd2103 : Cond.constantLong "BakeryNightModel" (486 : Nat) (9999 : Int64) ∈ GW := gwt8 33 (by decide +kernel) rfl
theorem wd2104 : Cond.methodLink "BakeryNightModel" (488 : Nat) ({ cls := "BakeryNightModel", name := "valueOf", desc := "(II)I" } : Jvm.MethodName) ∈ GW := gwt8 34 (by decide +kernel) rfl
theorem wd2106 : Cond.instanceMethod ({ cls := "BakeryNightModel", name := "valueOf", desc := "(II)I" } : Jvm.MethodName) ∈ GW := gwt8 36 (by decide +kernel) rfl
theorem wd2107 : Cond.code ({ cls := "BakeryNightModel", name := "valueOf", desc := "(II)I" } : Jvm.MethodName) prog_15_method_104_code (4 : Nat) (Option.some Jvm.ClassFile.FieldType.int) ∈ GW := gwt8 37 (by decide +kernel) rfl
theorem wd2108 : Cond.methodLink "BakeryNightLaw" (71 : Nat) ({ cls := "BakeryNightModel", name := "distance", desc := "(II)I" } : Jvm.MethodName) ∈ GW := gwt8 38 (by decide +kernel) rfl
theorem wd2109 : Cond.instanceMethod ({ cls := "BakeryNightModel", name := "distance", desc := "(II)I" } : Jvm.MethodName) ∈ GW := gwt8 39 (by decide +kernel) rfl
theorem wd2110 : Cond.selects "BakeryNightModel" ({ cls := "BakeryNightModel", name := "distance", desc := "(II)I" } : Jvm.MethodName) ({ cls := "BakeryNightModel", name := "distance", desc := "(II)I" } : Jvm.MethodName) ∈ GW := gwt8 40 (by decide +kernel) rfl
theorem wd2111 : Cond.code ({ cls := "BakeryNightModel", name := "distance", desc := "(II)I" } : Jvm.MethodName) prog_15_method_107_code (4 : Nat) (Option.some Jvm.ClassFile.FieldType.int) ∈ GW := gwt8 41 (by decide +kernel) rfl
theorem wd2112 : Cond.methodLink "BakeryNightModel" (493 : Nat) ({ cls := "BakeryNightModel", name := "isShop", desc := "(I)Z" } : Jvm.MethodName) ∈ GW := gwt8 42 (by decide +kernel) rfl
theorem wd2114 : Cond.instanceMethod ({ cls := "BakeryNightModel", name := "isShop", desc := "(I)Z" } : Jvm.MethodName) ∈ GW := gwt8 44 (by decide +kernel) rfl
theorem wd2115 : Cond.code ({ cls := "BakeryNightModel", name := "isShop", desc := "(I)Z" } : Jvm.MethodName) prog_15_method_58_code (2 : Nat) (Option.some Jvm.ClassFile.FieldType.boolean) ∈ GW := gwt8 45 (by decide +kernel) rfl
theorem wd2116 : Cond.methodLink "BakeryNightModel" (496 : Nat) ({ cls := "BakeryNightModel", name := "findsWays", desc := "([I)V" } : Jvm.MethodName) ∈ GW := gwt8 46 (by decide +kernel) rfl
theorem wd2118 : Cond.instanceMethod ({ cls := "BakeryNightModel", name := "findsWays", desc := "([I)V" } : Jvm.MethodName) ∈ GW := gwt8 48 (by decide +kernel) rfl
theorem wd2119 : Cond.code ({ cls := "BakeryNightModel", name := "findsWays", desc := "([I)V" } : Jvm.MethodName) prog_15_method_106_code (6 : Nat) (Option.none : Option Jvm.ClassFile.FieldType) ∈ GW := gwt8 49 (by decide +kernel) rfl
theorem wd2120 : Cond.methodLink "BakeryNightModel" (491 : Nat) ({ cls := "BakeryNightModel", name := "street", desc := "([III)I" } : Jvm.MethodName) ∈ GW := gwt8 50 (by decide +kernel) rfl
theorem wd2122 : Cond.instanceMethod ({ cls := "BakeryNightModel", name := "street", desc := "([III)I" } : Jvm.MethodName) ∈ GW := gwt8 52 (by decide +kernel) rfl
theorem wd2123 : Cond.code ({ cls := "BakeryNightModel", name := "street", desc := "([III)I" } : Jvm.MethodName) prog_15_method_13_code (4 : Nat) (Option.some Jvm.ClassFile.FieldType.int) ∈ GW := gwt8 53 (by decide +kernel) rfl
theorem wd2124 : Cond.methodLink "BakeryNightLaw" (75 : Nat) ({ cls := "BakeryNightModel", name := "routeMinutes", desc := "(I)I" } : Jvm.MethodName) ∈ GW := gwt8 54 (by decide +kernel) rfl
theorem wd2125 : Cond.instanceMethod ({ cls := "BakeryNightModel", name := "routeMinutes", desc := "(I)I" } : Jvm.MethodName) ∈ GW := gwt8 55 (by decide +kernel) rfl
theorem wd2126 : Cond.selects "BakeryNightModel" ({ cls := "BakeryNightModel", name := "routeMinutes", desc := "(I)I" } : Jvm.MethodName) ({ cls := "BakeryNightModel", name := "routeMinutes", desc := "(I)I" } : Jvm.MethodName) ∈ GW := gwt8 56 (by decide +kernel) rfl
theorem wd2127 : Cond.code ({ cls := "BakeryNightModel", name := "routeMinutes", desc := "(I)I" } : Jvm.MethodName) prog_15_method_110_code (2 : Nat) (Option.some Jvm.ClassFile.FieldType.int) ∈ GW := gwt8 57 (by decide +kernel) rfl
theorem wd2128 : Cond.methodLink "BakeryNightModel" (502 : Nat) ({ cls := "BakeryNightModel", name := "findsRoutes", desc := "([I)V" } : Jvm.MethodName) ∈ GW := gwt8 58 (by decide +kernel) rfl
theorem wd2130 : Cond.instanceMethod ({ cls := "BakeryNightModel", name := "findsRoutes", desc := "([I)V" } : Jvm.MethodName) ∈ GW := gwt8 60 (by decide +kernel) rfl
theorem wd2131 : Cond.code ({ cls := "BakeryNightModel", name := "findsRoutes", desc := "([I)V" } : Jvm.MethodName) prog_15_method_108_code (6 : Nat) (Option.none : Option Jvm.ClassFile.FieldType) ∈ GW := gwt8 61 (by decide +kernel) rfl
theorem wd2132 : Cond.methodLink "BakeryNightLaw" (79 : Nat) ({ cls := "BakeryNightModel", name := "routeStop", desc := "(II)I" } : Jvm.MethodName) ∈ GW := gwt8 62 (by decide +kernel) rfl
theorem wd2133 : Cond.instanceMethod ({ cls := "BakeryNightModel", name := "routeStop", desc := "(II)I" } : Jvm.MethodName) ∈ GW := gwt8 63 (by decide +kernel) rfl
theorem wd2134 : Cond.selects "BakeryNightModel" ({ cls := "BakeryNightModel", name := "routeStop", desc := "(II)I" } : Jvm.MethodName) ({ cls := "BakeryNightModel", name := "routeStop", desc := "(II)I" } : Jvm.MethodName) ∈ GW := gwt8 64 (by decide +kernel) rfl
theorem wd2135 : Cond.code ({ cls := "BakeryNightModel", name := "routeStop", desc := "(II)I" } : Jvm.MethodName) prog_15_method_111_code (3 : Nat) (Option.some Jvm.ClassFile.FieldType.int) ∈ GW := gwt8 65 (by decide +kernel) rfl
theorem wd2136 : Cond.methodLink "BakeryNightModel" (505 : Nat) ({ cls := "BakeryNightModel", name := "routeMinutes", desc := "(I)I" } : Jvm.MethodName) ∈ GW := gwt8 66 (by decide +kernel) rfl
theorem wd2137 : Cond.methodLink "BakeryNightModel" (508 : Nat) ({ cls := "BakeryNightModel", name := "routes", desc := "([II)V" } : Jvm.MethodName) ∈ GW := gwt8 67 (by decide +kernel) rfl
theorem wd2139 : Cond.instanceMethod ({ cls := "BakeryNightModel", name := "routes", desc := "([II)V" } : Jvm.MethodName) ∈ GW := gwt8 69 (by decide +kernel) rfl
theorem wd2140 : Cond.code ({ cls := "BakeryNightModel", name := "routes", desc := "([II)V" } : Jvm.MethodName) prog_15_method_109_code (6 : Nat) (Option.none : Option Jvm.ClassFile.FieldType) ∈ GW := gwt8 70 (by decide +kernel) rfl
theorem wd2141 : Cond.methodLink "BakeryNightLaw" (143 : Nat) ({ cls := "BakeryNightModel", name := "failedShops", desc := "()I" } : Jvm.MethodName) ∈ GW := gwt8 71 (by decide +kernel) rfl
theorem wd2142 : Cond.instanceMethod ({ cls := "BakeryNightModel", name := "failedShops", desc := "()I" } : Jvm.MethodName) ∈ GW := gwt8 72 (by decide +kernel) rfl
theorem wd2143 : Cond.selects "BakeryNightModel" ({ cls := "BakeryNightModel", name := "failedShops", desc := "()I" } : Jvm.MethodName) ({ cls := "BakeryNightModel", name := "failedShops", desc := "()I" } : Jvm.MethodName) ∈ GW := gwt8 73 (by decide +kernel) rfl
theorem wd2144 : Cond.code ({ cls := "BakeryNightModel", name := "failedShops", desc := "()I" } : Jvm.MethodName) prog_15_method_124_code (1 : Nat) (Option.some Jvm.ClassFile.FieldType.int) ∈ GW := gwt8 74 (by decide +kernel) rfl
theorem wd2145 : Cond.methodLink "BakeryNightModel" (557 : Nat) ({ cls := "BakeryNightModel", name := "hasPlan", desc := "()Z" } : Jvm.MethodName) ∈ GW := gwt8 75 (by decide +kernel) rfl
theorem wd2147 : Cond.instanceMethod ({ cls := "BakeryNightModel", name := "hasPlan", desc := "()Z" } : Jvm.MethodName) ∈ GW := gwt8 77 (by decide +kernel) rfl
theorem wd2148 : Cond.code ({ cls := "BakeryNightModel", name := "hasPlan", desc := "()Z" } : Jvm.MethodName) prog_15_method_122_code (1 : Nat) (Option.some Jvm.ClassFile.FieldType.boolean) ∈ GW := gwt8 78 (by decide +kernel) rfl
theorem wd2149 : Cond.methodLink "BakeryNightModel" (551 : Nat) ({ cls := "BakeryNightModel", name := "plans", desc := "([II)Z" } : Jvm.MethodName) ∈ GW := gwt8 79 (by decide +kernel) rfl
theorem wd2151 : Cond.instanceMethod ({ cls := "BakeryNightModel", name := "plans", desc := "([II)Z" } : Jvm.MethodName) ∈ GW := gwt8 81 (by decide +kernel) rfl
theorem wd2152 : Cond.code ({ cls := "BakeryNightModel", name := "plans", desc := "([II)Z" } : Jvm.MethodName) prog_15_method_120_code (7 : Nat) (Option.some Jvm.ClassFile.FieldType.boolean) ∈ GW := gwt8 82 (by decide +kernel) rfl
theorem wd2153 : Cond.methodLink "BakeryNightModel" (529 : Nat) ({ cls := "BakeryNightModel", name := "findsShops", desc := "([I)V" } : Jvm.MethodName) ∈ GW := gwt8 83 (by decide +kernel) rfl
theorem wd2155 : Cond.instanceMethod ({ cls := "BakeryNightModel", name := "findsShops", desc := "([I)V" } : Jvm.MethodName) ∈ GW := gwt8 85 (by decide +kernel) rfl
theorem wd2156 : Cond.code ({ cls := "BakeryNightModel", name := "findsShops", desc := "([I)V" } : Jvm.MethodName) prog_15_method_112_code (4 : Nat) (Option.none : Option Jvm.ClassFile.FieldType) ∈ GW := gwt8 86 (by decide +kernel) rfl
theorem wd2157 : Cond.methodLink "BakeryNightModel" (535 : Nat) ({ cls := "BakeryNightModel", name := "firstAssignment", desc := "([I)V" } : Jvm.MethodName) ∈ GW := gwt8 87 (by decide +kernel) rfl
theorem wd2159 : Cond.instanceMethod ({ cls := "BakeryNightModel", name := "firstAssignment", desc := "([I)V" } : Jvm.MethodName) ∈ GW := gwt8 89 (by decide +kernel) rfl
theorem wd2160 : Cond.code ({ cls := "BakeryNightModel", name := "firstAssignment", desc := "([I)V" } : Jvm.MethodName) prog_15_method_117_code (3 : Nat) (Option.none : Option Jvm.ClassFile.FieldType) ∈ GW := gwt8 90 (by decide +kernel) rfl
theorem wd2161 : Cond.methodLink "BakeryNightModel" (538 : Nat) ({ cls := "BakeryNightModel", name := "drives", desc := "([I)I" } : Jvm.MethodName) ∈ GW := gwt8 91 (by decide +kernel) rfl
theorem wd2163 : Cond.instanceMethod ({ cls := "BakeryNightModel", name := "drives", desc := "([I)I" } : Jvm.MethodName) ∈ GW := gwt8 93 (by decide +kernel) rfl
theorem wd2164 : Cond.code ({ cls := "BakeryNightModel", name := "drives", desc := "([I)I" } : Jvm.MethodName) prog_15_method_116_code (7 : Nat) (Option.some Jvm.ClassFile.FieldType.int) ∈ GW := gwt8 94 (by decide +kernel) rfl
theorem wd2165 : Cond.methodLink "BakeryNightModel" (523 : Nat) ({ cls := "BakeryNightModel", name := "carries", desc := "([II)Z" } : Jvm.MethodName) ∈ GW := gwt8 95 (by decide +kernel) rfl
theorem wd2167 : Cond.instanceMethod ({ cls := "BakeryNightModel", name := "carries", desc := "([II)Z" } : Jvm.MethodName) ∈ GW := gwt8 97 (by decide +kernel) rfl
theorem wd2168 : Cond.code ({ cls := "BakeryNightModel", name := "carries", desc := "([II)Z" } : Jvm.MethodName) prog_15_method_114_code (3 : Nat) (Option.some Jvm.ClassFile.FieldType.boolean) ∈ GW := gwt8 98 (by decide +kernel) rfl
theorem wd2169 : Cond.methodLink "BakeryNightModel" (520 : Nat) ({ cls := "BakeryNightModel", name := "loadOf", desc := "(I)I" } : Jvm.MethodName) ∈ GW := gwt8 99 (by decide +kernel) rfl
theorem wd2171 : Cond.instanceMethod ({ cls := "BakeryNightModel", name := "loadOf", desc := "(I)I" } : Jvm.MethodName) ∈ GW := gwt8 101 (by decide +kernel) rfl
theorem wd2172 : Cond.code ({ cls := "BakeryNightModel", name := "loadOf", desc := "(I)I" } : Jvm.MethodName) prog_15_method_113_code (4 : Nat) (Option.some Jvm.ClassFile.FieldType.int) ∈ GW := gwt8 102 (by decide +kernel) rfl
theorem wd2173 : Cond.methodLink "BakeryNightModel" (526 : Nat) ({ cls := "BakeryNightModel", name := "leaves", desc := "(I)I" } : Jvm.MethodName) ∈ GW := gwt8 103 (by decide +kernel) rfl
theorem wd2175 : Cond.instanceMethod ({ cls := "BakeryNightModel", name := "leaves", desc := "(I)I" } : Jvm.MethodName) ∈ GW := gwt8 105 (by decide +kernel) rfl
theorem wd2176 : Cond.code ({ cls := "BakeryNightModel", name := "leaves", desc := "(I)I" } : Jvm.MethodName) prog_15_method_115_code (4 : Nat) (Option.some Jvm.ClassFile.FieldType.int) ∈ GW := gwt8 106 (by decide +kernel) rfl
theorem wd2177 : Cond.methodLink "BakeryNightModel" (541 : Nat) ({ cls := "BakeryNightModel", name := "lateShops", desc := "(I)I" } : Jvm.MethodName) ∈ GW := gwt8 107 (by decide +kernel) rfl
theorem wd2179 : Cond.instanceMethod ({ cls := "BakeryNightModel", name := "lateShops", desc := "(I)I" } : Jvm.MethodName) ∈ GW := gwt8 109 (by decide +kernel) rfl
theorem wd2180 : Cond.code ({ cls := "BakeryNightModel", name := "lateShops", desc := "(I)I" } : Jvm.MethodName) prog_15_method_119_code (4 : Nat) (Option.some Jvm.ClassFile.FieldType.int) ∈ GW := gwt8 110 (by decide +kernel) rfl
theorem wd2181 : Cond.methodLink "BakeryNightModel" (547 : Nat) ({ cls := "BakeryNightModel", name := "nextAssignment", desc := "([I)Z" } : Jvm.MethodName) ∈ GW := gwt8 111 (by decide +kernel) rfl
theorem wd2183 : Cond.instanceMethod ({ cls := "BakeryNightModel", name := "nextAssignment", desc := "([I)Z" } : Jvm.MethodName) ∈ GW := gwt8 113 (by decide +kernel) rfl
theorem wd2184 : Cond.code ({ cls := "BakeryNightModel", name := "nextAssignment", desc := "([I)Z" } : Jvm.MethodName) prog_15_method_118_code (3 : Nat) (Option.some Jvm.ClassFile.FieldType.boolean) ∈ GW := gwt8 114 (by decide +kernel) rfl
theorem wd2185 : Cond.methodLink "BakeryNightModel" (554 : Nat) ({ cls := "BakeryNightModel", name := "takesBest", desc := "()V" } : Jvm.MethodName) ∈ GW := gwt8 115 (by decide +kernel) rfl
theorem wd2187 : Cond.instanceMethod ({ cls := "BakeryNightModel", name := "takesBest", desc := "()V" } : Jvm.MethodName) ∈ GW := gwt8 117 (by decide +kernel) rfl
theorem wd2188 : Cond.code ({ cls := "BakeryNightModel", name := "takesBest", desc := "()V" } : Jvm.MethodName) prog_15_method_121_code (2 : Nat) (Option.none : Option Jvm.ClassFile.FieldType) ∈ GW := gwt8 118 (by decide +kernel) rfl
theorem wd2189 : Cond.methodLink "BakeryNightModel" (560 : Nat) ({ cls := "BakeryNightModel", name := "bits", desc := "(I)I" } : Jvm.MethodName) ∈ GW := gwt8 119 (by decide +kernel) rfl
theorem wd2191 : Cond.instanceMethod ({ cls := "BakeryNightModel", name := "bits", desc := "(I)I" } : Jvm.MethodName) ∈ GW := gwt8 121 (by decide +kernel) rfl
theorem wd2192 : Cond.code ({ cls := "BakeryNightModel", name := "bits", desc := "(I)I" } : Jvm.MethodName) prog_15_method_123_code (4 : Nat) (Option.some Jvm.ClassFile.FieldType.int) ∈ GW := gwt8 122 (by decide +kernel) rfl
theorem wd2193 : Cond.methodLink "BakeryNightLaw" (147 : Nat) ({ cls := "BakeryNightModel", name := "vanOf", desc := "(I)I" } : Jvm.MethodName) ∈ GW := gwt8 123 (by decide +kernel) rfl
theorem wd2194 : Cond.instanceMethod ({ cls := "BakeryNightModel", name := "vanOf", desc := "(I)I" } : Jvm.MethodName) ∈ GW := gwt8 124 (by decide +kernel) rfl
theorem wd2195 : Cond.selects "BakeryNightModel" ({ cls := "BakeryNightModel", name := "vanOf", desc := "(I)I" } : Jvm.MethodName) ({ cls := "BakeryNightModel", name := "vanOf", desc := "(I)I" } : Jvm.MethodName) ∈ GW := gwt8 125 (by decide +kernel) rfl
theorem wd2196 : Cond.code ({ cls := "BakeryNightModel", name := "vanOf", desc := "(I)I" } : Jvm.MethodName) prog_15_method_125_code (2 : Nat) (Option.some Jvm.ClassFile.FieldType.int) ∈ GW := gwt8 126 (by decide +kernel) rfl
theorem wd2197 : Cond.methodLink "BakeryNightLaw" (151 : Nat) ({ cls := "BakeryNightModel", name := "arrivalMinute", desc := "(I)I" } : Jvm.MethodName) ∈ GW := gwt8 127 (by decide +kernel) rfl
theorem wd2198 : Cond.instanceMethod ({ cls := "BakeryNightModel", name := "arrivalMinute", desc := "(I)I" } : Jvm.MethodName) ∈ GW := gwt8 128 (by decide +kernel) rfl
theorem wd2199 : Cond.selects "BakeryNightModel" ({ cls := "BakeryNightModel", name := "arrivalMinute", desc := "(I)I" } : Jvm.MethodName) ({ cls := "BakeryNightModel", name := "arrivalMinute", desc := "(I)I" } : Jvm.MethodName) ∈ GW := gwt8 129 (by decide +kernel) rfl
theorem wd2200 : Cond.code ({ cls := "BakeryNightModel", name := "arrivalMinute", desc := "(I)I" } : Jvm.MethodName) prog_15_method_126_code (2 : Nat) (Option.some Jvm.ClassFile.FieldType.int) ∈ GW := gwt8 130 (by decide +kernel) rfl
theorem wd2201 : Cond.methodLink "BakeryNightLaw" (155 : Nat) ({ cls := "BakeryNightModel", name := "departureMinute", desc := "(I)I" } : Jvm.MethodName) ∈ GW := gwt8 131 (by decide +kernel) rfl
theorem wd2202 : Cond.instanceMethod ({ cls := "BakeryNightModel", name := "departureMinute", desc := "(I)I" } : Jvm.MethodName) ∈ GW := gwt8 132 (by decide +kernel) rfl
theorem wd2203 : Cond.selects "BakeryNightModel" ({ cls := "BakeryNightModel", name := "departureMinute", desc := "(I)I" } : Jvm.MethodName) ({ cls := "BakeryNightModel", name := "departureMinute", desc := "(I)I" } : Jvm.MethodName) ∈ GW := gwt8 133 (by decide +kernel) rfl
theorem wd2204 : Cond.code ({ cls := "BakeryNightModel", name := "departureMinute", desc := "(I)I" } : Jvm.MethodName) prog_15_method_127_code (2 : Nat) (Option.some Jvm.ClassFile.FieldType.int) ∈ GW := gwt8 134 (by decide +kernel) rfl
theorem wd2205 : Cond.methodLink "BakeryNightLaw" (159 : Nat) ({ cls := "BakeryNightModel", name := "staleOrders", desc := "()I" } : Jvm.MethodName) ∈ GW := gwt8 135 (by decide +kernel) rfl
theorem wd2206 : Cond.instanceMethod ({ cls := "BakeryNightModel", name := "staleOrders", desc := "()I" } : Jvm.MethodName) ∈ GW := gwt8 136 (by decide +kernel) rfl
theorem wd2207 : Cond.selects "BakeryNightModel" ({ cls := "BakeryNightModel", name := "staleOrders", desc := "()I" } : Jvm.MethodName) ({ cls := "BakeryNightModel", name := "staleOrders", desc := "()I" } : Jvm.MethodName) ∈ GW := gwt8 137 (by decide +kernel) rfl
theorem wd2208 : Cond.code ({ cls := "BakeryNightModel", name := "staleOrders", desc := "()I" } : Jvm.MethodName) prog_15_method_128_code (4 : Nat) (Option.some Jvm.ClassFile.FieldType.int) ∈ GW := gwt8 138 (by decide +kernel) rfl
theorem wd2209 : Cond.methodLink "BakeryNightLaw" (163 : Nat) ({ cls := "BakeryNightModel", name := "latestStart", desc := "()I" } : Jvm.MethodName) ∈ GW := gwt8 139 (by decide +kernel) rfl
theorem wd2210 : Cond.instanceMethod ({ cls := "BakeryNightModel", name := "latestStart", desc := "()I" } : Jvm.MethodName) ∈ GW := gwt8 140 (by decide +kernel) rfl
theorem wd2211 : Cond.selects "BakeryNightModel" ({ cls := "BakeryNightModel", name := "latestStart", desc := "()I" } : Jvm.MethodName) ({ cls := "BakeryNightModel", name := "latestStart", desc := "()I" } : Jvm.MethodName) ∈ GW := gwt8 141 (by decide +kernel) rfl
theorem wd2212 : Cond.code ({ cls := "BakeryNightModel", name := "latestStart", desc := "()I" } : Jvm.MethodName) prog_15_method_132_code (1 : Nat) (Option.some Jvm.ClassFile.FieldType.int) ∈ GW := gwt8 142 (by decide +kernel) rfl
theorem wd2213 : Cond.methodLink "BakeryNightModel" (566 : Nat) ({ cls := "BakeryNightModel", name := "isMuch", desc := "()Z" } : Jvm.MethodName) ∈ GW := gwt8 143 (by decide +kernel) rfl
theorem wd2215 : Cond.instanceMethod ({ cls := "BakeryNightModel", name := "isMuch", desc := "()Z" } : Jvm.MethodName) ∈ GW := gwt8 145 (by decide +kernel) rfl
theorem wd2216 : Cond.code ({ cls := "BakeryNightModel", name := "isMuch", desc := "()Z" } : Jvm.MethodName) prog_15_method_131_code (1 : Nat) (Option.some Jvm.ClassFile.FieldType.boolean) ∈ GW := gwt8 146 (by decide +kernel) rfl
theorem wd2217 : Cond.methodLink "BakeryNightModel" (569 : Nat) ({ cls := "BakeryNightModel", name := "latest", desc := "([I)I" } : Jvm.MethodName) ∈ GW := gwt8 147 (by decide +kernel) rfl
theorem wd2219 : Cond.instanceMethod ({ cls := "BakeryNightModel", name := "latest", desc := "([I)I" } : Jvm.MethodName) ∈ GW := gwt8 149 (by decide +kernel) rfl
theorem wd2220 : Cond.code ({ cls := "BakeryNightModel", name := "latest", desc := "([I)I" } : Jvm.MethodName) prog_15_method_130_code (4 : Nat) (Option.some Jvm.ClassFile.FieldType.int) ∈ GW := gwt8 150 (by decide +kernel) rfl
theorem wd2221 : Cond.methodLink "BakeryNightModel" (563 : Nat) ({ cls := "BakeryNightModel", name := "slack", desc := "()I" } : Jvm.MethodName) ∈ GW := gwt8 151 (by decide +kernel) rfl
theorem wd2223 : Cond.instanceMethod ({ cls := "BakeryNightModel", name := "slack", desc := "()I" } : Jvm.MethodName) ∈ GW := gwt8 153 (by decide +kernel) rfl
theorem wd2224 : Cond.code ({ cls := "BakeryNightModel", name := "slack", desc := "()I" } : Jvm.MethodName) prog_15_method_129_code (3 : Nat) (Option.some Jvm.ClassFile.FieldType.int) ∈ GW := gwt8 154 (by decide +kernel) rfl
theorem wd2225 : Cond.methodLink "BakeryNightLaw" (167 : Nat) ({ cls := "BakeryNightModel", name := "latestStartWith", desc := "(I)I" } : Jvm.MethodName) ∈ GW := gwt8 155 (by decide +kernel) rfl
theorem wd2226 : Cond.instanceMethod ({ cls := "BakeryNightModel", name := "latestStartWith", desc := "(I)I" } : Jvm.MethodName) ∈ GW := gwt8 156 (by decide +kernel) rfl
theorem wd2227 : Cond.selects "BakeryNightModel" ({ cls := "BakeryNightModel", name := "latestStartWith", desc := "(I)I" } : Jvm.MethodName) ({ cls := "BakeryNightModel", name := "latestStartWith", desc := "(I)I" } : Jvm.MethodName) ∈ GW := gwt8 157 (by decide +kernel) rfl
theorem wd2228 : Cond.code ({ cls := "BakeryNightModel", name := "latestStartWith", desc := "(I)I" } : Jvm.MethodName) prog_15_method_133_code (3 : Nat) (Option.some Jvm.ClassFile.FieldType.int) ∈ GW := gwt8 158 (by decide +kernel) rfl
theorem wd2229 : Cond.constantLong "BakeryNightModel" (572 : Nat) (4 : Int64) ∈ GW := gwt8 159 (by decide +kernel) rfl
theorem wd2230 : Cond.methodLink "BakeryNightLaw" (171 : Nat) ({ cls := "BakeryNightModel", name := "vitalStreet", desc := "()I" } : Jvm.MethodName) ∈ GW := gwt8 160 (by decide +kernel) rfl
theorem wd2231 : Cond.instanceMethod ({ cls := "BakeryNightModel", name := "vitalStreet", desc := "()I" } : Jvm.MethodName) ∈ GW := gwt8 161 (by decide +kernel) rfl
theorem wd2232 : Cond.selects "BakeryNightModel" ({ cls := "BakeryNightModel", name := "vitalStreet", desc := "()I" } : Jvm.MethodName) ({ cls := "BakeryNightModel", name := "vitalStreet", desc := "()I" } : Jvm.MethodName) ∈ GW := gwt8 162 (by decide +kernel) rfl
theorem wd2233 : Cond.code ({ cls := "BakeryNightModel", name := "vitalStreet", desc := "()I" } : Jvm.MethodName) prog_15_method_134_code (5 : Nat) (Option.some Jvm.ClassFile.FieldType.int) ∈ GW := gwt8 163 (by decide +kernel) rfl
theorem wd2234 : Cond.methodLink "BakeryNightLaw" (175 : Nat) ({ cls := "BakeryNightModel", name := "setRoom", desc := "(I)I" } : Jvm.MethodName) ∈ GW := gwt8 164 (by decide +kernel) rfl
theorem wd2235 : Cond.instanceMethod ({ cls := "BakeryNightModel", name := "setRoom", desc := "(I)I" } : Jvm.MethodName) ∈ GW := gwt8 165 (by decide +kernel) rfl
theorem wd2236 : Cond.selects "BakeryNightModel" ({ cls := "BakeryNightModel", name := "setRoom", desc := "(I)I" } : Jvm.MethodName) ({ cls := "BakeryNightModel", name := "setRoom", desc := "(I)I" } : Jvm.MethodName) ∈ GW := gwt8 166 (by decide +kernel) rfl
theorem wd2237 : Cond.code ({ cls := "BakeryNightModel", name := "setRoom", desc := "(I)I" } : Jvm.MethodName) prog_15_method_137_code (2 : Nat) (Option.some Jvm.ClassFile.FieldType.int) ∈ GW := gwt8 167 (by decide +kernel) rfl
theorem wd2238 : Cond.constantLong "BakeryNightModel" (577 : Nat) (10 : Int64) ∈ GW := gwt8 168 (by decide +kernel) rfl
theorem wd2239 : Cond.constantLong "BakeryNightModel" (579 : Nat) (40 : Int64) ∈ GW := gwt8 169 (by decide +kernel) rfl
theorem wd2240 : Cond.methodLink "BakeryNightModel" (581 : Nat) ({ cls := "BakeryNightModel", name := "sets", desc := "(II)I" } : Jvm.MethodName) ∈ GW := gwt8 170 (by decide +kernel) rfl
theorem wd2242 : Cond.instanceMethod ({ cls := "BakeryNightModel", name := "sets", desc := "(II)I" } : Jvm.MethodName) ∈ GW := gwt8 172 (by decide +kernel) rfl
theorem wd2243 : Cond.code ({ cls := "BakeryNightModel", name := "sets", desc := "(II)I" } : Jvm.MethodName) prog_15_method_136_code (4 : Nat) (Option.some Jvm.ClassFile.FieldType.int) ∈ GW := gwt8 173 (by decide +kernel) rfl
theorem wd2244 : Cond.methodLink "BakeryNightModel" (574 : Nat) ({ cls := "BakeryNightModel", name := "records", desc := "()V" } : Jvm.MethodName) ∈ GW := gwt8 174 (by decide +kernel) rfl
theorem wd2246 : Cond.instanceMethod ({ cls := "BakeryNightModel", name := "records", desc := "()V" } : Jvm.MethodName) ∈ GW := gwt8 176 (by decide +kernel) rfl
theorem wd2247 : Cond.code ({ cls := "BakeryNightModel", name := "records", desc := "()V" } : Jvm.MethodName) prog_15_method_135_code (2 : Nat) (Option.none : Option Jvm.ClassFile.FieldType) ∈ GW := gwt8 177 (by decide +kernel) rfl
theorem wd2248 : Cond.methodLink "BakeryNightLaw" (180 : Nat) ({ cls := "BakeryNightModel", name := "breakOven", desc := "(IZ)Z" } : Jvm.MethodName) ∈ GW := gwt8 178 (by decide +kernel) rfl
theorem wd2249 : Cond.instanceMethod ({ cls := "BakeryNightModel", name := "breakOven", desc := "(IZ)Z" } : Jvm.MethodName) ∈ GW := gwt8 179 (by decide +kernel) rfl
theorem wd2250 : Cond.selects "BakeryNightModel" ({ cls := "BakeryNightModel", name := "breakOven", desc := "(IZ)Z" } : Jvm.MethodName) ({ cls := "BakeryNightModel", name := "breakOven", desc := "(IZ)Z" } : Jvm.MethodName) ∈ GW := gwt8 180 (by decide +kernel) rfl
theorem wd2251 : Cond.code ({ cls := "BakeryNightModel", name := "breakOven", desc := "(IZ)Z" } : Jvm.MethodName) prog_15_method_138_code (4 : Nat) (Option.some Jvm.ClassFile.FieldType.boolean) ∈ GW := gwt8 181 (by decide +kernel) rfl
theorem wd2252 : Cond.methodLink "BakeryNightLaw" (184 : Nat) ({ cls := "BakeryNightModel", name := "closeStreet", desc := "(IZ)Z" } : Jvm.MethodName) ∈ GW := gwt8 182 (by decide +kernel) rfl
theorem wd2253 : Cond.instanceMethod ({ cls := "BakeryNightModel", name := "closeStreet", desc := "(IZ)Z" } : Jvm.MethodName) ∈ GW := gwt8 183 (by decide +kernel) rfl
theorem wd2254 : Cond.selects "BakeryNightModel" ({ cls := "BakeryNightModel", name := "closeStreet", desc := "(IZ)Z" } : Jvm.MethodName) ({ cls := "BakeryNightModel", name := "closeStreet", desc := "(IZ)Z" } : Jvm.MethodName) ∈ GW := gwt8 184 (by decide +kernel) rfl
theorem wd2255 : Cond.code ({ cls := "BakeryNightModel", name := "closeStreet", desc := "(IZ)Z" } : Jvm.MethodName) prog_15_method_139_code (4 : Nat) (Option.some Jvm.ClassFile.FieldType.boolean) ∈ GW := gwt8 185 (by decide +kernel) rfl
theorem wd2256 : Cond.methodLink "BakeryNightLaw" (189 : Nat) ({ cls := "BakeryNightModel", name := "addOrder", desc := "(IIII)I" } : Jvm.MethodName) ∈ GW := gwt8 186 (by decide +kernel) rfl
theorem wd2257 : Cond.instanceMethod ({ cls := "BakeryNightModel", name := "addOrder", desc := "(IIII)I" } : Jvm.MethodName) ∈ GW := gwt8 187 (by decide +kernel) rfl
theorem wd2258 : Cond.selects "BakeryNightModel" ({ cls := "BakeryNightModel", name := "addOrder", desc := "(IIII)I" } : Jvm.MethodName) ({ cls := "BakeryNightModel", name := "addOrder", desc := "(IIII)I" } : Jvm.MethodName) ∈ GW := gwt8 188 (by decide +kernel) rfl
theorem wd2259 : Cond.code ({ cls := "BakeryNightModel", name := "addOrder", desc := "(IIII)I" } : Jvm.MethodName) prog_15_method_140_code (7 : Nat) (Option.some Jvm.ClassFile.FieldType.int) ∈ GW := gwt8 189 (by decide +kernel) rfl
theorem wd2260 : Cond.constantLong "BakeryNightModel" (584 : Nat) (200 : Int64) ∈ GW := gwt8 190 (by decide +kernel) rfl
theorem wd2261 : Cond.methodLink "BakeryNightLaw" (193 : Nat) ({ cls := "BakeryNightModel", name := "cancelOrder", desc := "(I)Z" } : Jvm.MethodName) ∈ GW := gwt8 191 (by decide +kernel) rfl
theorem wd2262 : Cond.instanceMethod ({ cls := "BakeryNightModel", name := "cancelOrder", desc := "(I)Z" } : Jvm.MethodName) ∈ GW := gwt8 192 (by decide +kernel) rfl
theorem wd2263 : Cond.selects "BakeryNightModel" ({ cls := "BakeryNightModel", name := "cancelOrder", desc := "(I)Z" } : Jvm.MethodName) ({ cls := "BakeryNightModel", name := "cancelOrder", desc := "(I)Z" } : Jvm.MethodName) ∈ GW := gwt8 193 (by decide +kernel) rfl
theorem wd2264 : Cond.code ({ cls := "BakeryNightModel", name := "cancelOrder", desc := "(I)Z" } : Jvm.MethodName) prog_15_method_142_code (3 : Nat) (Option.some Jvm.ClassFile.FieldType.boolean) ∈ GW := gwt8 194 (by decide +kernel) rfl
theorem wd2265 : Cond.methodLink "BakeryNightModel" (586 : Nat) ({ cls := "BakeryNightModel", name := "isOrder", desc := "(I)Z" } : Jvm.MethodName) ∈ GW := gwt8 195 (by decide +kernel) rfl
theorem wd2267 : Cond.instanceMethod ({ cls := "BakeryNightModel", name := "isOrder", desc := "(I)Z" } : Jvm.MethodName) ∈ GW := gwt8 197 (by decide +kernel) rfl
theorem wd2268 : Cond.code ({ cls := "BakeryNightModel", name := "isOrder", desc := "(I)Z" } : Jvm.MethodName) prog_15_method_141_code (2 : Nat) (Option.some Jvm.ClassFile.FieldType.boolean) ∈ GW := gwt8 198 (by decide +kernel) rfl
theorem wd2269 : Cond.methodLink "BakeryNightLaw" (197 : Nat) ({ cls := "BakeryNightModel", name := "moveOrder", desc := "(II)I" } : Jvm.MethodName) ∈ GW := gwt8 199 (by decide +kernel) rfl
theorem wd2270 : Cond.instanceMethod ({ cls := "BakeryNightModel", name := "moveOrder", desc := "(II)I" } : Jvm.MethodName) ∈ GW := gwt8 200 (by decide +kernel) rfl
theorem wd2271 : Cond.selects "BakeryNightModel" ({ cls := "BakeryNightModel", name := "moveOrder", desc := "(II)I" } : Jvm.MethodName) ({ cls := "BakeryNightModel", name := "moveOrder", desc := "(II)I" } : Jvm.MethodName) ∈ GW := gwt8 201 (by decide +kernel) rfl
theorem wd2272 : Cond.code ({ cls := "BakeryNightModel", name := "moveOrder", desc := "(II)I" } : Jvm.MethodName) prog_15_method_143_code (3 : Nat) (Option.some Jvm.ClassFile.FieldType.int) ∈ GW := gwt8 202 (by decide +kernel) rfl
theorem wd2273 : Cond.methodLink "BakeryNightLaw" (201 : Nat) ({ cls := "BakeryNightModel", name := "undo", desc := "()I" } : Jvm.MethodName) ∈ GW := gwt8 203 (by decide +kernel) rfl
theorem wd2274 : Cond.instanceMethod ({ cls := "BakeryNightModel", name := "undo", desc := "()I" } : Jvm.MethodName) ∈ GW := gwt8 204 (by decide +kernel) rfl
theorem wd2275 : Cond.selects "BakeryNightModel" ({ cls := "BakeryNightModel", name := "undo", desc := "()I" } : Jvm.MethodName) ({ cls := "BakeryNightModel", name := "undo", desc := "()I" } : Jvm.MethodName) ∈ GW := gwt8 205 (by decide +kernel) rfl
theorem wd2276 : Cond.code ({ cls := "BakeryNightModel", name := "undo", desc := "()I" } : Jvm.MethodName) prog_15_method_144_code (2 : Nat) (Option.some Jvm.ClassFile.FieldType.int) ∈ GW := gwt8 206 (by decide +kernel) rfl
theorem wd2278 : Cond.fieldLink "BakeryNight$Scanner" (51 : Nat) "BakeryNight$Word" "text" "Ljava/lang/String;" ∈ GW := gwt8 208 (by decide +kernel) rfl
theorem wd2279 : Cond.fieldLink "java/lang/String" (9 : Nat) "java/lang/String" "value" "[B" ∈ GW := gwt8 209 (by decide +kernel) rfl
theorem wd2280 : Cond.fieldLink "java/lang/String" (15 : Nat) "java/lang/String" "coder" "B" ∈ GW := gwt8 210 (by decide +kernel) rfl
theorem wd2281 : Cond.fieldLink "java/lang/Enum" (7 : Nat) "java/lang/Enum" "ordinal" "I" ∈ GW := gwt8 211 (by decide +kernel) rfl
theorem lay_X1_ix : ∀ k, k < 14 → lw_tbl[([495, 497, 499, 501, 503, 505, 507, 509, 511, 513, 515, 517, 519, 521] : List Nat).getD k 0]? = some (u_lay RX1 TX1 k) ∧ goodWord (u_lay RX1 TX1 k) = true := by decide +kernel
theorem lay_X1 : ∀ w ∈ u_ws RX1 TX1 14, w ∈ GW := fun w hw => by
  obtain ⟨k, hk, rfl⟩ := List.mem_map.mp hw
  have h := lay_X1_ix k (List.mem_range.mp hk)
  exact gwi _ h.1 h.2
theorem lay_X2_ix : ∀ k, k < 10 → lw_tbl[([286, 288, 290, 292, 294, 296, 298, 300, 302, 304] : List Nat).getD k 0]? = some (u_lay RX2 TX2 k) ∧ goodWord (u_lay RX2 TX2 k) = true := by decide +kernel
theorem lay_X2 : ∀ w ∈ u_ws RX2 TX2 10, w ∈ GW := fun w hw => by
  obtain ⟨k, hk, rfl⟩ := List.mem_map.mp hw
  have h := lay_X2_ix k (List.mem_range.mp hk)
  exact gwi _ h.1 h.2
theorem lay_X3_ix : ∀ k, k < 4 → lw_tbl[([535, 537, 539, 541] : List Nat).getD k 0]? = some (u_lay RX3 TX3 k) ∧ goodWord (u_lay RX3 TX3 k) = true := by decide +kernel
theorem lay_X3 : ∀ w ∈ u_ws RX3 TX3 4, w ∈ GW := fun w hw => by
  obtain ⟨k, hk, rfl⟩ := List.mem_map.mp hw
  have h := lay_X3_ix k (List.mem_range.mp hk)
  exact gwi _ h.1 h.2
theorem lay_X4_ix : ∀ k, k < 20 → lw_tbl[([579, 581, 583, 585, 587, 589, 591, 593, 595, 597, 599, 601, 603, 605, 607, 609, 611, 613, 615, 617] : List Nat).getD k 0]? = some (u_lay RX4 TX4 k) ∧ goodWord (u_lay RX4 TX4 k) = true := by decide +kernel
theorem lay_X4 : ∀ w ∈ u_ws RX4 TX4 20, w ∈ GW := fun w hw => by
  obtain ⟨k, hk, rfl⟩ := List.mem_map.mp hw
  have h := lay_X4_ix k (List.mem_range.mp hk)
  exact gwi _ h.1 h.2
theorem lay_X5_ix : ∀ k, k < 5 → lw_tbl[([360, 362, 364, 366, 368] : List Nat).getD k 0]? = some (u_lay RX5 TX5 k) ∧ goodWord (u_lay RX5 TX5 k) = true := by decide +kernel
theorem lay_X5 : ∀ w ∈ u_ws RX5 TX5 5, w ∈ GW := fun w hw => by
  obtain ⟨k, hk, rfl⟩ := List.mem_map.mp hw
  have h := lay_X5_ix k (List.mem_range.mp hk)
  exact gwi _ h.1 h.2
theorem lay_X6_ix : ∀ k, k < 4 → lw_tbl[([325, 327, 329, 331] : List Nat).getD k 0]? = some (u_lay RX6 TX6 k) ∧ goodWord (u_lay RX6 TX6 k) = true := by decide +kernel
theorem lay_X6 : ∀ w ∈ u_ws RX6 TX6 4, w ∈ GW := fun w hw => by
  obtain ⟨k, hk, rfl⟩ := List.mem_map.mp hw
  have h := lay_X6_ix k (List.mem_range.mp hk)
  exact gwi _ h.1 h.2
theorem lay_X7_ix : ∀ k, k < 9 → lw_tbl[([229, 231, 233, 235, 237, 239, 241, 243, 245] : List Nat).getD k 0]? = some (u_lay RX7 TX7 k) ∧ goodWord (u_lay RX7 TX7 k) = true := by decide +kernel
theorem lay_X7 : ∀ w ∈ u_ws RX7 TX7 9, w ∈ GW := fun w hw => by
  obtain ⟨k, hk, rfl⟩ := List.mem_map.mp hw
  have h := lay_X7_ix k (List.mem_range.mp hk)
  exact gwi _ h.1 h.2
theorem lay_X8_ix : ∀ k, k < 15 → lw_tbl[([644, 646, 648, 650, 652, 654, 656, 658, 660, 662, 664, 666, 668, 670, 672] : List Nat).getD k 0]? = some (u_lay RX8 TX8 k) ∧ goodWord (u_lay RX8 TX8 k) = true := by decide +kernel
theorem lay_X8 : ∀ w ∈ u_ws RX8 TX8 15, w ∈ GW := fun w hw => by
  obtain ⟨k, hk, rfl⟩ := List.mem_map.mp hw
  have h := lay_X8_ix k (List.mem_range.mp hk)
  exact gwi _ h.1 h.2
theorem lay_X9_ix : ∀ k, k < 7 → lw_tbl[([395, 397, 399, 401, 403, 405, 407] : List Nat).getD k 0]? = some (u_lay RX9 TX9 k) ∧ goodWord (u_lay RX9 TX9 k) = true := by decide +kernel
theorem lay_X9 : ∀ w ∈ u_ws RX9 TX9 7, w ∈ GW := fun w hw => by
  obtain ⟨k, hk, rfl⟩ := List.mem_map.mp hw
  have h := lay_X9_ix k (List.mem_range.mp hk)
  exact gwi _ h.1 h.2
theorem lay_X10_ix : ∀ k, k < 5 → lw_tbl[([206, 208, 210, 212, 214] : List Nat).getD k 0]? = some (u_lay RX10 TX10 k) ∧ goodWord (u_lay RX10 TX10 k) = true := by decide +kernel
theorem lay_X10 : ∀ w ∈ u_ws RX10 TX10 5, w ∈ GW := fun w hw => by
  obtain ⟨k, hk, rfl⟩ := List.mem_map.mp hw
  have h := lay_X10_ix k (List.mem_range.mp hk)
  exact gwi _ h.1 h.2
theorem lay_X12_ix : ∀ k, k < 12 → lw_tbl[([687, 689, 691, 693, 695, 697, 699, 701, 703, 705, 707, 709] : List Nat).getD k 0]? = some (u_lay RX12 TX12 k) ∧ goodWord (u_lay RX12 TX12 k) = true := by decide +kernel
theorem lay_X12 : ∀ w ∈ u_ws RX12 TX12 12, w ∈ GW := fun w hw => by
  obtain ⟨k, hk, rfl⟩ := List.mem_map.mp hw
  have h := lay_X12_ix k (List.mem_range.mp hk)
  exact gwi _ h.1 h.2
theorem lay_X13_ix : ∀ k, k < 55 → lw_tbl[([1557, 1559, 1561, 1563, 1565, 1567, 1569, 1571, 1573, 1575, 1577, 1579, 1581, 1583, 1585, 1587, 1589, 1591, 1593, 1595, 1597, 1599, 1601, 1603, 1605, 1607, 1609, 1611, 1613, 1615, 1617, 1619, 1621, 1623, 1625, 1627, 1629, 1631, 1633, 1635, 1637, 1639, 1641, 1643, 1645, 1647, 1649, 1651, 1653, 1655, 1657, 1659, 1661, 1663, 1665] : List Nat).getD k 0]? = some (u_lay RX13 TX13 k) ∧ goodWord (u_lay RX13 TX13 k) = true := by decide +kernel
theorem lay_X13 : ∀ w ∈ u_ws RX13 TX13 55, w ∈ GW := fun w hw => by
  obtain ⟨k, hk, rfl⟩ := List.mem_map.mp hw
  have h := lay_X13_ix k (List.mem_range.mp hk)
  exact gwi _ h.1 h.2
