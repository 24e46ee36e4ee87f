def zYl : List (MethodName × ByteArray) := [(⟨"LaughLine$Laws", "<init>", "()V"⟩, prog_2_method_1_code),
  (⟨"LaughLine$Laws", "clear", "()V"⟩, prog_2_method_2_code),
  (⟨"LaughLine$Laws", "stands", "(I)Z"⟩, prog_2_method_3_code),
  (⟨"LaughLine$Laws", "begin", "(I)V"⟩, prog_2_method_4_code),
  (⟨"LaughLine$Laws", "end", "(I)V"⟩, prog_2_method_5_code),
  (⟨"LaughLine$Laws", "put", "(II)V"⟩, prog_2_method_6_code),
  (⟨"LaughLine$Laws", "setNames", "(IIIIIII)V"⟩, prog_2_method_7_code),
  (⟨"LaughLine$Laws", "work", "(I)J"⟩, prog_2_method_8_code),
  (⟨"LaughLine$Laws", "join", "(IJJ)J"⟩, prog_2_method_9_code),
  (⟨"LaughLine$Notes", "<init>", "()V"⟩, prog_3_method_1_code),
  (⟨"LaughLine$Notes", "clear", "()V"⟩, prog_3_method_2_code),
  (⟨"LaughLine$Notes", "knownCount", "()I"⟩, prog_3_method_3_code),
  (⟨"LaughLine$Notes", "add", "(IIZ)I"⟩, prog_3_method_4_code),
  (⟨"LaughLine$Notes", "addStrike", "(I)I"⟩, prog_3_method_5_code),
  (⟨"LaughLine$Notes", "findStruck", "()V"⟩, prog_3_method_6_code),
  (⟨"LaughLine$Notes", "agree", "(LLaughLine$Ride;)Z"⟩, prog_3_method_7_code),
  (⟨"LaughLine$Passenger", "<init>", "()V"⟩, prog_4_method_1_code),
  (⟨"LaughLine$Passenger", "begin", "(II)V"⟩, prog_4_method_2_code),
  (⟨"LaughLine$Passenger", "board", "()V"⟩, prog_4_method_3_code),
  (⟨"LaughLine$Passenger", "copy", "(LLaughLine$Passenger;)V"⟩, prog_4_method_4_code),
  (⟨"LaughLine$Plan", "<init>", "()V"⟩, prog_5_method_1_code),
  (⟨"LaughLine$Plan", "clear", "()V"⟩, prog_5_method_2_code),
  (⟨"LaughLine$Plan", "table", "(I)LLaughLine$Table;"⟩, prog_5_method_3_code),
  (⟨"LaughLine$Plan", "settle", "()V"⟩, prog_5_method_4_code),
  (⟨"LaughLine$Plan", "isDark", "(I)Z"⟩, prog_5_method_5_code),
  (⟨"LaughLine$Plan", "funInSight", "(I)I"⟩, prog_5_method_6_code),
  (⟨"LaughLine$Reader", "<init>", "()V"⟩, prog_6_method_1_code),
  (⟨"LaughLine$Reader", "read", "([IILLaughLine$Plan;)Z"⟩, prog_6_method_2_code),
  (⟨"LaughLine$Reader", "refuse", "(I)Z"⟩, prog_6_method_3_code),
  (⟨"LaughLine$Reader", "readLine", "(LLaughLine$Plan;)Z"⟩, prog_6_method_4_code),
  (⟨"LaughLine$Reader", "readEnd", "()Z"⟩, prog_6_method_5_code),
  (⟨"LaughLine$Reader", "readName", "(LLaughLine$Plan;I)Z"⟩, prog_6_method_6_code),
  (⟨"LaughLine$Reader", "readNumber", "(LLaughLine$Table;II)Z"⟩, prog_6_method_7_code),
  (⟨"LaughLine$Reader", "least", "(LLaughLine$Table;II)I"⟩, prog_6_method_8_code),
  (⟨"LaughLine$Reader", "mostOf", "(II)I"⟩, prog_6_method_9_code),
  (⟨"LaughLine$Reader", "isToldAlready", "(LLaughLine$Table;)Z"⟩, prog_6_method_10_code),
  (⟨"LaughLine$Reader", "readLaw", "(LLaughLine$Laws;)Z"⟩, prog_6_method_11_code),
  (⟨"LaughLine$Reader", "readExpression", "(LLaughLine$Laws;)Z"⟩, prog_6_method_12_code),
  (⟨"LaughLine$Reader", "isQuantity", "(I)Z"⟩, prog_6_method_13_code),
  (⟨"LaughLine$Reader", "readBegin", "(LLaughLine$Laws;)Z"⟩, prog_6_method_14_code),
  (⟨"LaughLine$Reader", "readBehind", "(LLaughLine$Laws;)Z"⟩, prog_6_method_15_code),
  (⟨"LaughLine$Reader", "countKnot", "()Z"⟩, prog_6_method_16_code),
  (⟨"LaughLine$Reader", "top", "()I"⟩, prog_6_method_17_code),
  (⟨"LaughLine$Reader", "hold", "(I)V"⟩, prog_6_method_18_code),
  (⟨"LaughLine$Reader", "release", "(LLaughLine$Laws;I)V"⟩, prog_6_method_19_code),
  (⟨"LaughLine$Reader", "strength", "(I)I"⟩, prog_6_method_20_code),
  (⟨"LaughLine$Ride", "<init>", "(LLaughLine$Plan;)V"⟩, prog_7_method_1_code),
  (⟨"LaughLine$Ride", "begin", "(LLaughLine$Plan;)V"⟩, prog_7_method_2_code),
  (⟨"LaughLine$Ride", "copy", "(LLaughLine$Ride;)V"⟩, prog_7_method_3_code),
  (⟨"LaughLine$Ride", "isTold", "(II)Z"⟩, prog_7_method_4_code),
  (⟨"LaughLine$Ride", "setTold", "(IIZ)V"⟩, prog_7_method_5_code),
  (⟨"LaughLine$Ride", "tellingCount", "()I"⟩, prog_7_method_6_code),
  (⟨"LaughLine$Ride", "aboardCount", "()I"⟩, prog_7_method_7_code),
  (⟨"LaughLine$Ride", "deafBits", "()I"⟩, prog_7_method_8_code),
  (⟨"LaughLine$Ride", "stopEars", "(I)V"⟩, prog_7_method_9_code),
  (⟨"LaughLine$Ride", "openEars", "()V"⟩, prog_7_method_10_code),
  (⟨"LaughLine$Ride", "advance", "(ILLaughLine$Twist;)V"⟩, prog_7_method_11_code),
  (⟨"LaughLine$Ride", "finishDay", "(LLaughLine$Twist;)V"⟩, prog_7_method_12_code),
  (⟨"LaughLine$Ride", "rideOut", "(LLaughLine$Twist;)V"⟩, prog_7_method_13_code),
  (⟨"LaughLine$Ride", "oneMile", "(LLaughLine$Twist;)V"⟩, prog_7_method_14_code),
  (⟨"LaughLine$Ride", "cheer", "(IILLaughLine$Twist;)V"⟩, prog_7_method_15_code),
  (⟨"LaughLine$Ride", "mirth", "(IIILLaughLine$Twist;)I"⟩, prog_7_method_16_code),
  (⟨"LaughLine$Ride", "cut", "(J)I"⟩, prog_7_method_17_code),
  (⟨"LaughLine$Ride", "nameMirth", "(IIILLaughLine$Twist;)V"⟩, prog_7_method_18_code),
  (⟨"LaughLine$Ride", "nameMood", "(I)V"⟩, prog_7_method_19_code),
  (⟨"LaughLine$Ride", "laughter", "(LLaughLine$Twist;)Z"⟩, prog_7_method_20_code),
  (⟨"LaughLine$Ride", "isAmused", "(ILLaughLine$Passenger;)Z"⟩, prog_7_method_21_code),
  (⟨"LaughLine$Ride", "spread", "(I)V"⟩, prog_7_method_22_code),
  (⟨"LaughLine$Ride", "letOut", "()V"⟩, prog_7_method_23_code),
  (⟨"LaughLine$Ride", "calmDown", "()V"⟩, prog_7_method_24_code),
  (⟨"LaughLine$Ride", "calmness", "(I)I"⟩, prog_7_method_25_code),
  (⟨"LaughLine$Ride", "newDay", "(LLaughLine$Twist;)V"⟩, prog_7_method_26_code),
  (⟨"LaughLine$Scanner", "<init>", "()V"⟩, prog_8_method_1_code),
  (⟨"LaughLine$Scanner", "start", "([II)V"⟩, prog_8_method_2_code),
  (⟨"LaughLine$Scanner", "peek", "()I"⟩, prog_8_method_3_code),
  (⟨"LaughLine$Scanner", "isLetter", "(I)Z"⟩, prog_8_method_4_code),
  (⟨"LaughLine$Scanner", "isDigit", "(I)Z"⟩, prog_8_method_5_code),
  (⟨"LaughLine$Scanner", "advance", "()V"⟩, prog_8_method_6_code),
  (⟨"LaughLine$Scanner", "scanWord", "()V"⟩, prog_8_method_7_code),
  (⟨"LaughLine$Scanner", "scanNumber", "()V"⟩, prog_8_method_8_code),
  (⟨"LaughLine$Scanner", "signKind", "(I)I"⟩, prog_8_method_9_code),
  (⟨"LaughLine$Scanner", "takes", "(I)Z"⟩, prog_8_method_10_code),
  (⟨"LaughLine$Table", "<init>", "(II)V"⟩, prog_9_method_1_code),
  (⟨"LaughLine$Table", "at", "(II)I"⟩, prog_9_method_2_code),
  (⟨"LaughLine$Table", "put", "(II)V"⟩, prog_9_method_3_code),
  (⟨"LaughLine$Table", "endRow", "()V"⟩, prog_9_method_4_code),
  (⟨"LaughLine$Table", "isFull", "()Z"⟩, prog_9_method_5_code),
  (⟨"LaughLine$Table", "find", "(I)I"⟩, prog_9_method_6_code),
  (⟨"LaughLine$Twist", "<init>", "()V"⟩, prog_10_method_1_code),
  (⟨"LaughLine$Twist", "plain", "()LLaughLine$Twist;"⟩, prog_10_method_2_code),
  (⟨"LaughLine$Twist", "drawFrom", "(I)V"⟩, prog_10_method_3_code),
  (⟨"LaughLine$Twist", "moreFun", "()I"⟩, prog_10_method_4_code),
  (⟨"LaughLine$Undoes", "<init>", "()V"⟩, prog_11_method_1_code),
  (⟨"LaughLine$Undoes", "clear", "()V"⟩, prog_11_method_2_code),
  (⟨"LaughLine$Undoes", "push", "(III)V"⟩, prog_11_method_3_code),
  (⟨"LaughLine$Undoes", "dropOldest", "()V"⟩, prog_11_method_4_code),
  (⟨"LaughLine$Undoes", "pop", "()I"⟩, prog_11_method_5_code),
  (⟨"LaughLine", "<init>", "()V"⟩, prog_1_method_1_code),
  (⟨"LaughLine", "feed", "(IIIII)I"⟩, prog_1_method_2_code),
  (⟨"LaughLine", "putBytes", "(I)V"⟩, prog_1_method_3_code),
  (⟨"LaughLine", "text", "(I)I"⟩, prog_1_method_4_code),
  (⟨"LaughLine", "fault", "(I)I"⟩, prog_1_method_5_code),
  (⟨"LaughLine", "named", "(II)I"⟩, prog_1_method_6_code),
  (⟨"LaughLine", "isRider", "(I)Z"⟩, prog_1_method_7_code),
  (⟨"LaughLine", "isJoke", "(I)Z"⟩, prog_1_method_8_code),
  (⟨"LaughLine", "isMile", "(I)Z"⟩, prog_1_method_9_code),
  (⟨"LaughLine", "rider", "(II)I"⟩, prog_1_method_10_code),
  (⟨"LaughLine", "has", "(II)I"⟩, prog_1_method_11_code),
  (⟨"LaughLine", "joke", "(II)I"⟩, prog_1_method_12_code),
  (⟨"LaughLine", "heard", "(II)I"⟩, prog_1_method_13_code),
  (⟨"LaughLine", "told", "(II)I"⟩, prog_1_method_14_code),
  (⟨"LaughLine", "seen", "(I)I"⟩, prog_1_method_15_code),
  (⟨"LaughLine", "law", "(III)J"⟩, prog_1_method_16_code),
  (⟨"LaughLine", "count", "(I)I"⟩, prog_1_method_17_code),
  (⟨"LaughLine", "ears", "(IZ)Z"⟩, prog_1_method_18_code),
  (⟨"LaughLine", "seat", "(II)Z"⟩, prog_1_method_19_code),
  (⟨"LaughLine", "tell", "(IIZ)Z"⟩, prog_1_method_20_code),
  (⟨"LaughLine", "undo", "()I"⟩, prog_1_method_21_code),
  (⟨"LaughLine", "keep", "()I"⟩, prog_1_method_22_code),
  (⟨"LaughLine", "back", "()I"⟩, prog_1_method_23_code),
  (⟨"LaughLine", "go", "(I)I"⟩, prog_1_method_24_code),
  (⟨"LaughLine", "tryMiles", "(ILLaughLine$Twist;)V"⟩, prog_1_method_25_code),
  (⟨"LaughLine", "ahead", "(II)I"⟩, prog_1_method_26_code),
  (⟨"LaughLine", "getsOut", "(I)I"⟩, prog_1_method_27_code),
  (⟨"LaughLine", "nextHalt", "()I"⟩, prog_1_method_28_code),
  (⟨"LaughLine", "tried", "(III)I"⟩, prog_1_method_29_code),
  (⟨"LaughLine", "chance", "(IIII)I"⟩, prog_1_method_30_code),
  (⟨"LaughLine", "findDawn", "()V"⟩, prog_1_method_31_code),
  (⟨"LaughLine", "when", "(II)I"⟩, prog_1_method_32_code),
  (⟨"LaughLine", "both", "(III)I"⟩, prog_1_method_33_code),
  (⟨"LaughLine", "seating", "(I)I"⟩, prog_1_method_34_code),
  (⟨"LaughLine", "whoseSeat", "(II)I"⟩, prog_1_method_35_code),
  (⟨"LaughLine", "isOrder", "(II)Z"⟩, prog_1_method_36_code),
  (⟨"LaughLine", "laughsSeated", "(II)I"⟩, prog_1_method_37_code),
  (⟨"LaughLine", "stopped", "(I)I"⟩, prog_1_method_38_code),
  (⟨"LaughLine", "alightsBeside", "(II)Z"⟩, prog_1_method_39_code),
  (⟨"LaughLine", "likely", "(II)I"⟩, prog_1_method_40_code),
  (⟨"LaughLine", "solemn", "()I"⟩, prog_1_method_41_code),
  (⟨"LaughLine", "late", "(I)I"⟩, prog_1_method_42_code),
  (⟨"LaughLine", "areClowns", "(II)Z"⟩, prog_1_method_43_code),
  (⟨"LaughLine", "rests", "(II)I"⟩, prog_1_method_44_code),
  (⟨"LaughLine", "rest", "(III)I"⟩, prog_1_method_45_code),
  (⟨"LaughLine", "playClowns", "(II)V"⟩, prog_1_method_46_code),
  (⟨"LaughLine", "laughsOfMile", "()I"⟩, prog_1_method_47_code),
  (⟨"LaughLine", "isRest", "(I)Z"⟩, prog_1_method_48_code),
  (⟨"LaughLine", "note", "(IIZ)I"⟩, prog_1_method_49_code),
  (⟨"LaughLine", "out", "(I)I"⟩, prog_1_method_50_code),
  (⟨"LaughLine", "known", "(I)Z"⟩, prog_1_method_51_code),
  (⟨"LaughLine", "dulls", "(I)I"⟩, prog_1_method_52_code),
  (⟨"LaughLineModel", "<init>", "()V"⟩, prog_13_method_1_code),
  (⟨"LaughLineModel", "feed", "(IIIII)I"⟩, prog_13_method_3_code),
  (⟨"LaughLineModel", "here", "()I"⟩, prog_13_method_4_code),
  (⟨"LaughLineModel", "isSmall", "(I)Z"⟩, prog_13_method_5_code),
  (⟨"LaughLineModel", "isDigit", "(I)Z"⟩, prog_13_method_6_code),
  (⟨"LaughLineModel", "token", "()V"⟩, prog_13_method_7_code),
  (⟨"LaughLineModel", "sign", "(I)V"⟩, prog_13_method_8_code),
  (⟨"LaughLineModel", "word", "()I"⟩, prog_13_method_9_code),
  (⟨"LaughLineModel", "name", "()V"⟩, prog_13_method_10_code),
  (⟨"LaughLineModel", "wrong", "(I)V"⟩, prog_13_method_11_code),
  (⟨"LaughLineModel", "isWord", "(I)Z"⟩, prog_13_method_12_code),
  (⟨"LaughLineModel", "isSign", "(I)Z"⟩, prog_13_method_13_code),
  (⟨"LaughLineModel", "goOn", "()V"⟩, prog_13_method_14_code),
  (⟨"LaughLineModel", "numeral", "(II)I"⟩, prog_13_method_15_code),
  (⟨"LaughLineModel", "found", "([IIII)I"⟩, prog_13_method_16_code),
  (⟨"LaughLineModel", "fresh", "([III)I"⟩, prog_13_method_17_code),
  (⟨"LaughLineModel", "fresher", "(I)I"⟩, prog_13_method_18_code),
  (⟨"LaughLineModel", "reads", "(II)V"⟩, prog_13_method_19_code),
  (⟨"LaughLineModel", "isFull", "(I)Z"⟩, prog_13_method_20_code),
  (⟨"LaughLineModel", "isOnce", "(I)Z"⟩, prog_13_method_21_code),
  (⟨"LaughLineModel", "line", "()V"⟩, prog_13_method_22_code),
  (⟨"LaughLineModel", "tellLine", "()V"⟩, prog_13_method_23_code),
  (⟨"LaughLineModel", "lawLine", "()V"⟩, prog_13_method_24_code),
  (⟨"LaughLineModel", "puts", "(II)V"⟩, prog_13_method_25_code),
  (⟨"LaughLineModel", "knot", "()V"⟩, prog_13_method_26_code),
  (⟨"LaughLineModel", "expression", "()V"⟩, prog_13_method_27_code),
  (⟨"LaughLineModel", "conjunction", "()V"⟩, prog_13_method_28_code),
  (⟨"LaughLineModel", "negation", "()V"⟩, prog_13_method_29_code),
  (⟨"LaughLineModel", "sum", "()V"⟩, prog_13_method_30_code),
  (⟨"LaughLineModel", "product", "()V"⟩, prog_13_method_31_code),
  (⟨"LaughLineModel", "primary", "()V"⟩, prog_13_method_32_code),
  (⟨"LaughLineModel", "half", "([I)V"⟩, prog_13_method_33_code),
  (⟨"LaughLineModel", "text", "(I)I"⟩, prog_13_method_34_code),
  (⟨"LaughLineModel", "fault", "(I)I"⟩, prog_13_method_35_code),
  (⟨"LaughLineModel", "named", "(II)I"⟩, prog_13_method_36_code),
  (⟨"LaughLineModel", "is", "(Z)J"⟩, prog_13_method_37_code),
  (⟨"LaughLineModel", "works", "(I)Z"⟩, prog_13_method_38_code),
  (⟨"LaughLineModel", "goes", "(I)Z"⟩, prog_13_method_39_code),
  (⟨"LaughLineModel", "hasLaw", "(I)Z"⟩, prog_13_method_40_code),
  (⟨"LaughLineModel", "starts", "(I)V"⟩, prog_13_method_41_code),
  (⟨"LaughLineModel", "begins", "()V"⟩, prog_13_method_42_code),
  (⟨"LaughLineModel", "copies", "(II)V"⟩, prog_13_method_43_code),
  (⟨"LaughLineModel", "isRider", "(I)Z"⟩, prog_13_method_44_code),
  (⟨"LaughLineModel", "isJoke", "(I)Z"⟩, prog_13_method_45_code),
  (⟨"LaughLineModel", "isMile", "(I)Z"⟩, prog_13_method_46_code),
  (⟨"LaughLineModel", "dullIn", "(I)I"⟩, prog_13_method_47_code),
  (⟨"LaughLineModel", "more", "()I"⟩, prog_13_method_48_code),
  (⟨"LaughLineModel", "isIn", "(II)Z"⟩, prog_13_method_49_code),
  (⟨"LaughLineModel", "isStopped", "(II)Z"⟩, prog_13_method_50_code),
  (⟨"LaughLineModel", "isDark", "(I)Z"⟩, prog_13_method_51_code),
  (⟨"LaughLineModel", "heardIn", "(III)I"⟩, prog_13_method_52_code),
  (⟨"LaughLineModel", "calls", "(IIIII)V"⟩, prog_13_method_53_code),
  (⟨"LaughLineModel", "within", "(III)I"⟩, prog_13_method_54_code),
  (⟨"LaughLineModel", "cheers", "(III)V"⟩, prog_13_method_55_code),
  (⟨"LaughLineModel", "sees", "(II)V"⟩, prog_13_method_56_code),
  (⟨"LaughLineModel", "callsJoke", "(IIII)V"⟩, prog_13_method_57_code),
  (⟨"LaughLineModel", "hears", "(III)V"⟩, prog_13_method_58_code),
  (⟨"LaughLineModel", "doesLaugh", "(II)Z"⟩, prog_13_method_59_code),
  (⟨"LaughLineModel", "laughs", "(II)V"⟩, prog_13_method_60_code),
  (⟨"LaughLineModel", "stops", "(I)V"⟩, prog_13_method_61_code),
  (⟨"LaughLineModel", "tellsAll", "(I)V"⟩, prog_13_method_62_code),
  (⟨"LaughLineModel", "passes", "(I)V"⟩, prog_13_method_63_code),
  (⟨"LaughLineModel", "arrives", "(I)V"⟩, prog_13_method_64_code),
  (⟨"LaughLineModel", "goesOn", "(I)V"⟩, prog_13_method_65_code),
  (⟨"LaughLineModel", "layNext", "()V"⟩, prog_13_method_66_code),
  (⟨"LaughLineModel", "rides", "()V"⟩, prog_13_method_67_code),
  (⟨"LaughLineModel", "sumOf", "([II)I"⟩, prog_13_method_68_code),
  (⟨"LaughLineModel", "rider", "(II)I"⟩, prog_13_method_69_code),
  (⟨"LaughLineModel", "has", "(II)I"⟩, prog_13_method_70_code),
  (⟨"LaughLineModel", "bitsOf", "(J)I"⟩, prog_13_method_71_code),
  (⟨"LaughLineModel", "joke", "(II)I"⟩, prog_13_method_72_code),
  (⟨"LaughLineModel", "heard", "(II)I"⟩, prog_13_method_73_code),
  (⟨"LaughLineModel", "told", "(II)I"⟩, prog_13_method_74_code),
  (⟨"LaughLineModel", "seen", "(I)I"⟩, prog_13_method_75_code),
  (⟨"LaughLineModel", "law", "(III)J"⟩, prog_13_method_76_code),
  (⟨"LaughLineModel", "keepNow", "()V"⟩, prog_13_method_77_code),
  (⟨"LaughLineModel", "ears", "(IZ)Z"⟩, prog_13_method_78_code),
  (⟨"LaughLineModel", "seat", "(II)Z"⟩, prog_13_method_79_code),
  (⟨"LaughLineModel", "tell", "(IIZ)Z"⟩, prog_13_method_80_code),
  (⟨"LaughLineModel", "go", "(I)I"⟩, prog_13_method_81_code),
  (⟨"LaughLineModel", "ahead", "(II)I"⟩, prog_13_method_82_code),
  (⟨"LaughLineModel", "getsOut", "(I)I"⟩, prog_13_method_83_code),
  (⟨"LaughLineModel", "nextHalt", "()I"⟩, prog_13_method_84_code),
  (⟨"LaughLineModel", "tellsToo", "(II)V"⟩, prog_13_method_85_code),
  (⟨"LaughLineModel", "ridesOut", "()I"⟩, prog_13_method_86_code),
  (⟨"LaughLineModel", "when", "(II)I"⟩, prog_13_method_87_code),
  (⟨"LaughLineModel", "both", "(III)I"⟩, prog_13_method_88_code),
  (⟨"LaughLineModel", "seats", "(III)V"⟩, prog_13_method_89_code),
  (⟨"LaughLineModel", "seating", "(I)I"⟩, prog_13_method_90_code),
  (⟨"LaughLineModel", "stopped", "(I)I"⟩, prog_13_method_91_code),
  (⟨"LaughLineModel", "layClowns", "(II)V"⟩, prog_13_method_92_code),
  (⟨"LaughLineModel", "isRest", "(I)Z"⟩, prog_13_method_93_code),
  (⟨"LaughLineModel", "restOf", "(I)I"⟩, prog_13_method_94_code),
  (⟨"LaughLineModel", "areTwo", "(II)Z"⟩, prog_13_method_95_code),
  (⟨"LaughLineModel", "rests", "(II)I"⟩, prog_13_method_96_code),
  (⟨"LaughLineModel", "rest", "(III)I"⟩, prog_13_method_97_code),
  (⟨"LaughLineModel", "common", "(II)I"⟩, prog_13_method_98_code),
  (⟨"LaughLineModel", "likely", "(II)I"⟩, prog_13_method_99_code),
  (⟨"LaughLineModel", "solemn", "()I"⟩, prog_13_method_100_code),
  (⟨"LaughLineModel", "late", "(I)I"⟩, prog_13_method_101_code),
  (⟨"LaughLineModel", "note", "(IIZ)I"⟩, prog_13_method_102_code),
  (⟨"LaughLineModel", "out", "(I)I"⟩, prog_13_method_103_code),
  (⟨"LaughLineModel", "known", "(I)Z"⟩, prog_13_method_104_code),
  (⟨"LaughLineModel", "knownMany", "()I"⟩, prog_13_method_105_code),
  (⟨"LaughLineModel", "fitsDull", "()Z"⟩, prog_13_method_106_code),
  (⟨"LaughLineModel", "dulls", "(I)I"⟩, prog_13_method_107_code),
  (⟨"LaughLineModel", "chance", "(IIII)I"⟩, prog_13_method_108_code),
  (⟨"LaughLineModel", "tried", "(III)I"⟩, prog_13_method_109_code),
  (⟨"LaughLineModel", "undo", "()I"⟩, prog_13_method_110_code),
  (⟨"LaughLineModel", "keep", "()I"⟩, prog_13_method_111_code),
  (⟨"LaughLineModel", "back", "()I"⟩, prog_13_method_112_code),
  (⟨"LaughLineModel", "tellingsNow", "()I"⟩, prog_13_method_113_code),
  (⟨"LaughLineModel", "count", "(I)I"⟩, prog_13_method_114_code),
  (⟨"java/lang/Integer", "bitCount", "(I)I"⟩, prog_19_method_49_code),
  (⟨"java/lang/Long", "bitCount", "(J)I"⟩, prog_20_method_50_code),
  (⟨"java/lang/String", "length", "()I"⟩, prog_23_method_54_code),
  (⟨"java/lang/String", "charAt", "(I)C"⟩, prog_23_method_56_code),
  (⟨"java/lang/String", "coder", "()B"⟩, prog_23_method_152_code),
  (⟨"java/lang/String", "isLatin1", "()Z"⟩, prog_23_method_154_code),
  (⟨"java/lang/String", "checkIndex", "(II)V"⟩, prog_23_method_155_code),
  (⟨"java/lang/StringLatin1", "charAt", "([BI)C"⟩, prog_24_method_2_code),
  (⟨"java/lang/StringUTF16", "getChar", "([BI)C"⟩, prog_25_method_5_code),
  (⟨"java/lang/StringUTF16", "length", "([B)I"⟩, prog_25_method_6_code),
  (⟨"java/lang/StringUTF16", "charAt", "([BI)C"⟩, prog_25_method_83_code),
  (⟨"java/lang/StringUTF16", "checkIndex", "(I[B)V"⟩, prog_25_method_91_code),
  (⟨"jdk/internal/util/Preconditions", "checkIndex", "(IILjava/util/function/BiFunction;)I"⟩, prog_30_method_11_code)]
def zY (mi : Nat) : MethodName × ByteArray := zYl.getD mi (⟨"", "", ""⟩, ⟨#[]⟩)
def zMl0 : List (Nat × Bool × Nat × Option FieldType × (Nat → Option (Instr × Nat))) := [(0, true, 1, none, zt0),
  (0, false, 2, none, zt1),
  (0, false, 2, some .boolean, zt2),
  (0, false, 2, none, zt3),
  (0, false, 2, none, zt4),
  (0, false, 3, none, zt5),
  (0, false, 8, none, zt6),
  (0, false, 6, some .long, zt7),
  (0, false, 10, some .long, zt8),
  (1, true, 1, none, zt9),
  (1, false, 1, none, zt10),
  (1, false, 1, some .int, zt11),
  (1, false, 4, some .int, zt12),
  (1, false, 2, some .int, zt13),
  (1, false, 3, none, zt14),
  (1, false, 6, some .boolean, zt15),
  (2, true, 1, none, zt16),
  (2, false, 4, none, zt17),
  (2, false, 1, none, zt18),
  (2, false, 3, none, zt19),
  (3, true, 1, none, zt20),
  (3, false, 2, none, zt21),
  (3, false, 2, some (.object "LaughLine$Table"), zt22),
  (3, false, 1, none, zt23),
  (3, false, 3, some .boolean, zt24),
  (3, false, 4, some .int, zt25),
  (4, true, 1, none, zt26),
  (4, false, 5, some .boolean, zt27),
  (4, false, 2, some .boolean, zt28),
  (4, false, 6, some .boolean, zt29)]
def zMl1 : List (Nat × Bool × Nat × Option FieldType × (Nat → Option (Instr × Nat))) := [(4, false, 1, some .boolean, zt30),
  (4, false, 6, some .boolean, zt31),
  (4, false, 5, some .boolean, zt32),
  (4, false, 4, some .int, zt33),
  (4, false, 3, some .int, zt34),
  (4, false, 4, some .boolean, zt35),
  (4, false, 3, some .boolean, zt36),
  (4, false, 5, some .boolean, zt37),
  (4, false, 1, some .boolean, zt38),
  (4, false, 3, some .boolean, zt39),
  (4, false, 4, some .boolean, zt40),
  (4, false, 1, some .boolean, zt41),
  (4, false, 1, some .int, zt42),
  (4, false, 2, none, zt43),
  (4, false, 4, none, zt44),
  (4, false, 1, some .int, zt45),
  (5, true, 3, none, zt46),
  (5, false, 3, none, zt47),
  (5, false, 3, none, zt48),
  (5, false, 3, some .boolean, zt49),
  (5, false, 4, none, zt50),
  (5, false, 3, some .int, zt51),
  (5, false, 3, some .int, zt52),
  (5, false, 3, some .int, zt53),
  (5, false, 3, none, zt54),
  (5, false, 2, none, zt55),
  (5, false, 4, none, zt56),
  (5, false, 4, none, zt57),
  (5, false, 4, none, zt58),
  (5, false, 4, none, zt59)]
def zMl2 : List (Nat × Bool × Nat × Option FieldType × (Nat → Option (Instr × Nat))) := [(5, false, 7, none, zt60),
  (5, false, 8, some .int, zt61),
  (5, false, 2, some .int, zt62),
  (5, false, 8, none, zt63),
  (5, false, 2, none, zt64),
  (5, false, 5, some .boolean, zt65),
  (5, false, 5, some .boolean, zt66),
  (5, false, 4, none, zt67),
  (5, false, 4, none, zt68),
  (5, false, 3, none, zt69),
  (5, false, 4, some .int, zt70),
  (5, false, 4, none, zt71),
  (6, true, 6, none, zt72),
  (6, false, 3, none, zt73),
  (6, false, 1, some .int, zt74),
  (6, false, 1, some .boolean, zt75),
  (6, false, 1, some .boolean, zt76),
  (6, false, 2, none, zt77),
  (6, false, 4, none, zt78),
  (6, false, 1, none, zt79),
  (6, false, 2, some .int, zt80),
  (6, false, 3, some .boolean, zt81),
  (7, true, 3, none, zt82),
  (7, false, 3, some .int, zt83),
  (7, false, 3, none, zt84),
  (7, false, 1, none, zt85),
  (7, false, 1, some .boolean, zt86),
  (7, false, 3, some .int, zt87),
  (8, true, 1, none, zt88),
  (8, false, 1, some (.object "LaughLine$Twist"), zt89)]
def zMl3 : List (Nat × Bool × Nat × Option FieldType × (Nat → Option (Instr × Nat))) := [(8, false, 2, none, zt90),
  (8, false, 1, some .int, zt91),
  (9, true, 1, none, zt92),
  (9, false, 1, none, zt93),
  (9, false, 4, none, zt94),
  (9, false, 2, none, zt95),
  (9, false, 1, some .int, zt96),
  (10, true, 1, none, zt97),
  (10, false, 6, some .int, zt98),
  (10, false, 3, none, zt99),
  (10, false, 4, some .int, zt100),
  (10, false, 2, some .int, zt101),
  (10, false, 3, some .int, zt102),
  (10, false, 2, some .boolean, zt103),
  (10, false, 2, some .boolean, zt104),
  (10, false, 1, some .boolean, zt105),
  (10, false, 4, some .int, zt106),
  (10, false, 4, some .int, zt107),
  (10, false, 3, some .int, zt108),
  (10, false, 3, some .int, zt109),
  (10, false, 3, some .int, zt110),
  (10, false, 2, some .int, zt111),
  (10, false, 6, some .long, zt112),
  (10, false, 2, some .int, zt113),
  (10, false, 3, some .boolean, zt114),
  (10, false, 4, some .boolean, zt115),
  (10, false, 4, some .boolean, zt116),
  (10, false, 4, some .int, zt117),
  (10, false, 1, some .int, zt118),
  (10, false, 1, some .int, zt119)]
def zMl4 : List (Nat × Bool × Nat × Option FieldType × (Nat → Option (Instr × Nat))) := [(10, false, 2, some .int, zt120),
  (10, false, 3, none, zt121),
  (10, false, 3, some .int, zt122),
  (10, false, 3, some .int, zt123),
  (10, false, 2, some .int, zt124),
  (10, false, 5, some .int, zt125),
  (10, false, 7, some .int, zt126),
  (10, false, 1, none, zt127),
  (10, false, 7, some .int, zt128),
  (10, false, 10, some .int, zt129),
  (10, false, 7, some .int, zt130),
  (10, false, 2, some .int, zt131),
  (10, false, 5, some .boolean, zt132),
  (10, false, 4, some .int, zt133),
  (10, false, 6, some .int, zt134),
  (10, false, 3, some .boolean, zt135),
  (10, false, 5, some .int, zt136),
  (10, false, 3, some .int, zt137),
  (10, false, 4, some .int, zt138),
  (10, false, 3, some .boolean, zt139),
  (10, false, 5, some .int, zt140),
  (10, false, 6, some .int, zt141),
  (10, false, 10, none, zt142),
  (10, false, 2, some .int, zt143),
  (10, false, 7, some .boolean, zt144),
  (10, false, 4, some .int, zt145),
  (10, false, 2, some .int, zt146),
  (10, false, 2, some .boolean, zt147),
  (10, false, 4, some .int, zt148),
  (11, true, 1, none, zt149)]
def zMl5 : List (Nat × Bool × Nat × Option FieldType × (Nat → Option (Instr × Nat))) := [(11, false, 8, some .int, zt150),
  (11, false, 1, some .int, zt151),
  (11, false, 1, some .boolean, zt152),
  (11, false, 1, some .boolean, zt153),
  (11, false, 2, none, zt154),
  (11, false, 2, none, zt155),
  (11, false, 4, some .int, zt156),
  (11, false, 2, none, zt157),
  (11, false, 2, none, zt158),
  (11, false, 2, some .boolean, zt159),
  (11, false, 2, some .boolean, zt160),
  (11, false, 1, none, zt161),
  (11, false, 4, some .int, zt162),
  (11, false, 5, some .int, zt163),
  (11, false, 5, some .int, zt164),
  (11, false, 2, some .int, zt165),
  (11, false, 3, none, zt166),
  (11, false, 2, some .boolean, zt167),
  (11, false, 1, some .boolean, zt168),
  (11, false, 6, none, zt169),
  (11, false, 3, none, zt170),
  (11, false, 2, none, zt171),
  (11, false, 3, none, zt172),
  (11, false, 1, none, zt173),
  (11, false, 1, none, zt174),
  (11, false, 1, none, zt175),
  (11, false, 2, none, zt176),
  (11, false, 2, none, zt177),
  (11, false, 2, none, zt178),
  (11, false, 2, none, zt179)]
def zMl6 : List (Nat × Bool × Nat × Option FieldType × (Nat → Option (Instr × Nat))) := [(11, false, 3, none, zt180),
  (11, false, 3, some .int, zt181),
  (11, false, 2, some .int, zt182),
  (11, false, 3, some .int, zt183),
  (11, false, 1, some .long, zt184),
  (11, false, 8, some .boolean, zt185),
  (11, false, 3, some .boolean, zt186),
  (11, false, 2, some .boolean, zt187),
  (11, false, 5, none, zt188),
  (11, false, 1, none, zt189),
  (11, false, 6, none, zt190),
  (11, false, 2, some .boolean, zt191),
  (11, false, 2, some .boolean, zt192),
  (11, false, 1, some .boolean, zt193),
  (11, false, 2, some .int, zt194),
  (11, false, 1, some .int, zt195),
  (11, false, 3, some .boolean, zt196),
  (11, false, 3, some .boolean, zt197),
  (11, false, 3, some .boolean, zt198),
  (11, false, 4, some .int, zt199),
  (11, false, 6, none, zt200),
  (11, false, 4, some .int, zt201),
  (11, false, 5, none, zt202),
  (11, false, 4, none, zt203),
  (11, false, 5, none, zt204),
  (11, false, 6, none, zt205),
  (11, false, 4, some .boolean, zt206),
  (11, false, 5, none, zt207),
  (11, false, 4, none, zt208),
  (11, false, 3, none, zt209)]
def zMl7 : List (Nat × Bool × Nat × Option FieldType × (Nat → Option (Instr × Nat))) := [(11, false, 4, none, zt210),
  (11, false, 4, none, zt211),
  (11, false, 3, none, zt212),
  (11, false, 1, none, zt213),
  (11, false, 1, none, zt214),
  (11, false, 5, some .int, zt215),
  (11, false, 3, some .int, zt216),
  (11, false, 3, some .int, zt217),
  (11, false, 4, some .int, zt218),
  (11, false, 3, some .int, zt219),
  (11, false, 3, some .int, zt220),
  (11, false, 3, some .int, zt221),
  (11, false, 4, some .int, zt222),
  (11, false, 4, some .long, zt223),
  (11, false, 2, none, zt224),
  (11, false, 3, some .boolean, zt225),
  (11, false, 3, some .boolean, zt226),
  (11, false, 4, some .boolean, zt227),
  (11, false, 3, some .int, zt228),
  (11, false, 3, some .int, zt229),
  (11, false, 2, some .int, zt230),
  (11, false, 2, some .int, zt231),
  (11, false, 3, none, zt232),
  (11, false, 1, some .int, zt233),
  (11, false, 7, some .int, zt234),
  (11, false, 10, some .int, zt235),
  (11, false, 6, none, zt236),
  (11, false, 3, some .int, zt237),
  (11, false, 4, some .int, zt238),
  (11, false, 7, none, zt239)]
def zMl8 : List (Nat × Bool × Nat × Option FieldType × (Nat → Option (Instr × Nat))) := [(11, false, 3, some .boolean, zt240),
  (11, false, 4, some .int, zt241),
  (11, false, 3, some .boolean, zt242),
  (11, false, 3, some .int, zt243),
  (11, false, 4, some .int, zt244),
  (11, false, 5, some .int, zt245),
  (11, false, 5, some .int, zt246),
  (11, false, 3, some .int, zt247),
  (11, false, 4, some .int, zt248),
  (11, false, 4, some .int, zt249),
  (11, false, 2, some .int, zt250),
  (11, false, 2, some .boolean, zt251),
  (11, false, 1, some .int, zt252),
  (11, false, 2, some .boolean, zt253),
  (11, false, 4, some .int, zt254),
  (11, false, 7, some .int, zt255),
  (11, false, 5, some .int, zt256),
  (11, false, 1, some .int, zt257),
  (11, false, 1, some .int, zt258),
  (11, false, 1, some .int, zt259),
  (11, false, 3, some .int, zt260),
  (11, false, 2, some .int, zt261),
  (13, false, 1, some .int, zt262),
  (14, false, 2, some .int, zt263),
  (15, false, 1, some .int, zt264),
  (15, false, 2, some .char, zt265),
  (15, false, 1, some .byte, zt266),
  (15, false, 1, some .boolean, zt267),
  (15, false, 2, none, zt268),
  (16, false, 2, some .char, zt269)]
def zMl9 : List (Nat × Bool × Nat × Option FieldType × (Nat → Option (Instr × Nat))) := [(17, false, 2, some .char, zt270),
  (17, false, 1, some .int, zt271),
  (17, false, 2, some .char, zt272),
  (17, false, 2, none, zt273),
  (18, false, 3, some .int, zt274)]
def zMl : List (Nat × Bool × Nat × Option FieldType × (Nat → Option (Instr × Nat))) := zMl0 ++ (zMl1 ++ (zMl2 ++ (zMl3 ++ (zMl4 ++ (zMl5 ++ (zMl6 ++ (zMl7 ++ (zMl8 ++ (zMl9)))))))))
def zMt (mi : Nat) : Option (Nat × Bool × Nat × Option FieldType × (Nat → Option (Instr × Nat))) := zMl[mi]?
def zclL : List Nat := [0, 0, 0, 0, 0, 0, 0, 0, 0, 1, 1, 1, 1, 1, 1, 1, 2, 2, 2, 2, 3, 3, 3, 3, 3, 3, 4, 4, 4, 4, 4, 4, 4, 4, 4, 4, 4, 4, 4, 4, 4, 4, 4, 4, 4, 4, 5, 5, 5, 5, 5, 5, 5, 5, 5, 5, 5, 5, 5, 5, 5, 5, 5, 5, 5, 5, 5, 5, 5, 5, 5, 5, 6, 6, 6, 6, 6, 6, 6, 6, 6, 6, 7, 7, 7, 7, 7, 7, 8, 8, 8, 8, 9, 9, 9, 9, 9, 10, 10, 10, 10, 10, 10, 10, 10, 10, 10, 10, 10, 10, 10, 10, 10, 10, 10, 10, 10, 10, 10, 10, 10, 10, 10, 10, 10, 10, 10, 10, 10, 10, 10, 10, 10, 10, 10, 10, 10, 10, 10, 10, 10, 10, 10, 10, 10, 10, 10, 10, 10, 11, 11, 11, 11, 11, 11, 11, 11, 11, 11, 11, 11, 11, 11, 11, 11, 11, 11, 11, 11, 11, 11, 11, 11, 11, 11, 11, 11, 11, 11, 11, 11, 11, 11, 11, 11, 11, 11, 11, 11, 11, 11, 11, 11, 11, 11, 11, 11, 11, 11, 11, 11, 11, 11, 11, 11, 11, 11, 11, 11, 11, 11, 11, 11, 11, 11, 11, 11, 11, 11, 11, 11, 11, 11, 11, 11, 11, 11, 11, 11, 11, 11, 11, 11, 11, 11, 11, 11, 11, 11, 11, 11, 11, 11, 11, 11, 11, 11, 11, 11, 11, 11, 11, 11, 11, 11, 11, 11, 11, 11, 11, 11, 11, 13, 14, 15, 15, 15, 15, 15, 16, 17, 17, 17, 17, 18]
def zmcl (mi : Nat) : Nat := zclL.getD mi 0
abbrev nX0_init : Nat := 0
abbrev nX0_clear : Nat := 1
abbrev nX0_stands : Nat := 2
abbrev nX0_begin : Nat := 3
abbrev nX0_end : Nat := 4
abbrev nX0_put : Nat := 5
abbrev nX0_setNames : Nat := 6
abbrev nX0_work : Nat := 7
abbrev nX0_join : Nat := 8
abbrev nX1_init : Nat := 9
abbrev nX1_clear : Nat := 10
abbrev nX1_knownCount : Nat := 11
abbrev nX1_add : Nat := 12
abbrev nX1_addStrike : Nat := 13
abbrev nX1_findStruck : Nat := 14
abbrev nX1_agree : Nat := 15
abbrev nX2_init : Nat := 16
abbrev nX2_begin : Nat := 17
abbrev nX2_board : Nat := 18
abbrev nX2_copy : Nat := 19
abbrev nX3_init : Nat := 20
abbrev nX3_clear : Nat := 21
abbrev nX3_table : Nat := 22
abbrev nX3_settle : Nat := 23
abbrev nX3_isDark : Nat := 24
abbrev nX3_funInSight : Nat := 25
abbrev nX4_init : Nat := 26
abbrev nX4_read : Nat := 27
abbrev nX4_refuse : Nat := 28
abbrev nX4_readLine : Nat := 29
abbrev nX4_readEnd : Nat := 30
abbrev nX4_readName : Nat := 31
abbrev nX4_readNumber : Nat := 32
abbrev nX4_least : Nat := 33
abbrev nX4_mostOf : Nat := 34
abbrev nX4_isToldAlready : Nat := 35
abbrev nX4_readLaw : Nat := 36
abbrev nX4_readExpression : Nat := 37
abbrev nX4_isQuantity : Nat := 38
abbrev nX4_readBegin : Nat := 39
abbrev nX4_readBehind : Nat := 40
abbrev nX4_countKnot : Nat := 41
abbrev nX4_top : Nat := 42
abbrev nX4_hold : Nat := 43
abbrev nX4_release : Nat := 44
abbrev nX4_strength : Nat := 45
abbrev nX5_init : Nat := 46
abbrev nX5_begin : Nat := 47
abbrev nX5_copy : Nat := 48
abbrev nX5_isTold : Nat := 49
abbrev nX5_setTold : Nat := 50
abbrev nX5_tellingCount : Nat := 51
abbrev nX5_aboardCount : Nat := 52
abbrev nX5_deafBits : Nat := 53
abbrev nX5_stopEars : Nat := 54
abbrev nX5_openEars : Nat := 55
abbrev nX5_advance : Nat := 56
abbrev nX5_finishDay : Nat := 57
abbrev nX5_rideOut : Nat := 58
abbrev nX5_oneMile : Nat := 59
abbrev nX5_cheer : Nat := 60
abbrev nX5_mirth : Nat := 61
abbrev nX5_cut : Nat := 62
abbrev nX5_nameMirth : Nat := 63
abbrev nX5_nameMood : Nat := 64
abbrev nX5_laughter : Nat := 65
abbrev nX5_isAmused : Nat := 66
abbrev nX5_spread : Nat := 67
abbrev nX5_letOut : Nat := 68
abbrev nX5_calmDown : Nat := 69
abbrev nX5_calmness : Nat := 70
abbrev nX5_newDay : Nat := 71
abbrev nX6_init : Nat := 72
abbrev nX6_start : Nat := 73
abbrev nX6_peek : Nat := 74
abbrev nX6_isLetter : Nat := 75
abbrev nX6_isDigit : Nat := 76
abbrev nX6_advance : Nat := 77
abbrev nX6_scanWord : Nat := 78
abbrev nX6_scanNumber : Nat := 79
abbrev nX6_signKind : Nat := 80
abbrev nX6_takes : Nat := 81
abbrev nX7_init : Nat := 82
abbrev nX7_at : Nat := 83
abbrev nX7_put : Nat := 84
abbrev nX7_endRow : Nat := 85
abbrev nX7_isFull : Nat := 86
abbrev nX7_find : Nat := 87
abbrev nX8_init : Nat := 88
abbrev nX8_plain : Nat := 89
abbrev nX8_drawFrom : Nat := 90
abbrev nX8_moreFun : Nat := 91
abbrev nX9_init : Nat := 92
abbrev nX9_clear : Nat := 93
abbrev nX9_push : Nat := 94
abbrev nX9_dropOldest : Nat := 95
abbrev nX9_pop : Nat := 96
abbrev nX10_init : Nat := 97
abbrev nX10_feed : Nat := 98
abbrev nX10_putBytes : Nat := 99
abbrev nX10_text : Nat := 100
abbrev nX10_fault : Nat := 101
abbrev nX10_named : Nat := 102
abbrev nX10_isRider : Nat := 103
abbrev nX10_isJoke : Nat := 104
abbrev nX10_isMile : Nat := 105
abbrev nX10_rider : Nat := 106
abbrev nX10_has : Nat := 107
abbrev nX10_joke : Nat := 108
abbrev nX10_heard : Nat := 109
abbrev nX10_told : Nat := 110
abbrev nX10_seen : Nat := 111
abbrev nX10_law : Nat := 112
abbrev nX10_count : Nat := 113
abbrev nX10_ears : Nat := 114
abbrev nX10_seat : Nat := 115
abbrev nX10_tell : Nat := 116
abbrev nX10_undo : Nat := 117
abbrev nX10_keep : Nat := 118
abbrev nX10_back : Nat := 119
abbrev nX10_go : Nat := 120
abbrev nX10_tryMiles : Nat := 121
abbrev nX10_ahead : Nat := 122
abbrev nX10_getsOut : Nat := 123
abbrev nX10_nextHalt : Nat := 124
abbrev nX10_tried : Nat := 125
abbrev nX10_chance : Nat := 126
abbrev nX10_findDawn : Nat := 127
abbrev nX10_when : Nat := 128
abbrev nX10_both : Nat := 129
abbrev nX10_seating : Nat := 130
abbrev nX10_whoseSeat : Nat := 131
abbrev nX10_isOrder : Nat := 132
abbrev nX10_laughsSeated : Nat := 133
abbrev nX10_stopped : Nat := 134
abbrev nX10_alightsBeside : Nat := 135
abbrev nX10_likely : Nat := 136
abbrev nX10_solemn : Nat := 137
abbrev nX10_late : Nat := 138
abbrev nX10_areClowns : Nat := 139
abbrev nX10_rests : Nat := 140
abbrev nX10_rest : Nat := 141
abbrev nX10_playClowns : Nat := 142
abbrev nX10_laughsOfMile : Nat := 143
abbrev nX10_isRest : Nat := 144
abbrev nX10_note : Nat := 145
abbrev nX10_out : Nat := 146
abbrev nX10_known : Nat := 147
abbrev nX10_dulls : Nat := 148
abbrev nX11_init : Nat := 149
abbrev nX11_feed : Nat := 150
abbrev nX11_here : Nat := 151
abbrev nX11_isSmall : Nat := 152
abbrev nX11_isDigit : Nat := 153
abbrev nX11_token : Nat := 154
abbrev nX11_sign : Nat := 155
abbrev nX11_word : Nat := 156
abbrev nX11_name : Nat := 157
abbrev nX11_wrong : Nat := 158
abbrev nX11_isWord : Nat := 159
abbrev nX11_isSign : Nat := 160
abbrev nX11_goOn : Nat := 161
abbrev nX11_numeral : Nat := 162
abbrev nX11_found : Nat := 163
abbrev nX11_fresh : Nat := 164
abbrev nX11_fresher : Nat := 165
abbrev nX11_reads : Nat := 166
abbrev nX11_isFull : Nat := 167
abbrev nX11_isOnce : Nat := 168
abbrev nX11_line : Nat := 169
abbrev nX11_tellLine : Nat := 170
abbrev nX11_lawLine : Nat := 171
abbrev nX11_puts : Nat := 172
abbrev nX11_knot : Nat := 173
abbrev nX11_expression : Nat := 174
abbrev nX11_conjunction : Nat := 175
abbrev nX11_negation : Nat := 176
abbrev nX11_sum : Nat := 177
abbrev nX11_product : Nat := 178
abbrev nX11_primary : Nat := 179
abbrev nX11_half : Nat := 180
abbrev nX11_text : Nat := 181
abbrev nX11_fault : Nat := 182
abbrev nX11_named : Nat := 183
abbrev nX11_is : Nat := 184
abbrev nX11_works : Nat := 185
abbrev nX11_goes : Nat := 186
abbrev nX11_hasLaw : Nat := 187
abbrev nX11_starts : Nat := 188
abbrev nX11_begins : Nat := 189
abbrev nX11_copies : Nat := 190
abbrev nX11_isRider : Nat := 191
abbrev nX11_isJoke : Nat := 192
abbrev nX11_isMile : Nat := 193
abbrev nX11_dullIn : Nat := 194
abbrev nX11_more : Nat := 195
abbrev nX11_isIn : Nat := 196
abbrev nX11_isStopped : Nat := 197
abbrev nX11_isDark : Nat := 198
abbrev nX11_heardIn : Nat := 199
abbrev nX11_calls : Nat := 200
abbrev nX11_within : Nat := 201
abbrev nX11_cheers : Nat := 202
abbrev nX11_sees : Nat := 203
abbrev nX11_callsJoke : Nat := 204
abbrev nX11_hears : Nat := 205
abbrev nX11_doesLaugh : Nat := 206
abbrev nX11_laughs : Nat := 207
abbrev nX11_stops : Nat := 208
abbrev nX11_tellsAll : Nat := 209
abbrev nX11_passes : Nat := 210
abbrev nX11_arrives : Nat := 211
abbrev nX11_goesOn : Nat := 212
abbrev nX11_layNext : Nat := 213
abbrev nX11_rides : Nat := 214
abbrev nX11_sumOf : Nat := 215
abbrev nX11_rider : Nat := 216
abbrev nX11_has : Nat := 217
abbrev nX11_bitsOf : Nat := 218
abbrev nX11_joke : Nat := 219
abbrev nX11_heard : Nat := 220
abbrev nX11_told : Nat := 221
abbrev nX11_seen : Nat := 222
abbrev nX11_law : Nat := 223
abbrev nX11_keepNow : Nat := 224
abbrev nX11_ears : Nat := 225
abbrev nX11_seat : Nat := 226
abbrev nX11_tell : Nat := 227
abbrev nX11_go : Nat := 228
abbrev nX11_ahead : Nat := 229
abbrev nX11_getsOut : Nat := 230
abbrev nX11_nextHalt : Nat := 231
abbrev nX11_tellsToo : Nat := 232
abbrev nX11_ridesOut : Nat := 233
abbrev nX11_when : Nat := 234
abbrev nX11_both : Nat := 235
abbrev nX11_seats : Nat := 236
abbrev nX11_seating : Nat := 237
abbrev nX11_stopped : Nat := 238
abbrev nX11_layClowns : Nat := 239
abbrev nX11_isRest : Nat := 240
abbrev nX11_restOf : Nat := 241
abbrev nX11_areTwo : Nat := 242
abbrev nX11_rests : Nat := 243
abbrev nX11_rest : Nat := 244
abbrev nX11_common : Nat := 245
abbrev nX11_likely : Nat := 246
abbrev nX11_solemn : Nat := 247
abbrev nX11_late : Nat := 248
abbrev nX11_note : Nat := 249
abbrev nX11_out : Nat := 250
abbrev nX11_known : Nat := 251
abbrev nX11_knownMany : Nat := 252
abbrev nX11_fitsDull : Nat := 253
abbrev nX11_dulls : Nat := 254
abbrev nX11_chance : Nat := 255
abbrev nX11_tried : Nat := 256
abbrev nX11_undo : Nat := 257
abbrev nX11_keep : Nat := 258
abbrev nX11_back : Nat := 259
abbrev nX11_tellingsNow : Nat := 260
abbrev nX11_count : Nat := 261
abbrev nJ6_bitCount_0f7a4 : Nat := 262
abbrev nJ13_bitCount_95d88 : Nat := 263
abbrev nJ0_length_8abf5 : Nat := 264
abbrev nJ0_charAt_5068e : Nat := 265
abbrev nJ0_coder_7d493 : Nat := 266
abbrev nJ0_isLatin1_aae02 : Nat := 267
abbrev nJ0_checkIndex_df160 : Nat := 268
abbrev nJ1_charAt_3b067 : Nat := 269
abbrev nJ2_getChar_3b067 : Nat := 270
abbrev nJ2_length_9d52b : Nat := 271
abbrev nJ2_charAt_3b067 : Nat := 272
abbrev nJ2_checkIndex_2214a : Nat := 273
abbrev nJ3_checkIndex_8e157 : Nat := 274
