/-! links, by tables; every row of them is held against the Statement's words -/
abbrev z0 : zX := (0, 0, 0, .null, [])
abbrev zv (v : Value) : zX := (0, 0, 0, v, [])
abbrev zt (t : Nat) : zX := (t, 0, 0, .null, [])
abbrev zf (kd ci k : Nat) : zX := (kd, ci, k, .null, [])
abbrev zb (b : Nat) : zX := (0, b, 0, .null, [])
abbrev zc (y k ci : Nat) : zX := (y, k, ci, .null, [])
def zNr : List (MethodName × Option FieldType) := [(⟨RX0, "<init>", "()V"⟩, none), (⟨RX0, "shortestRing", "(LInnRegister$Told;LInnRegister$Row;)I"⟩, some .int), (⟨RX0, "tell", "([IILInnRegister$Row;)V"⟩, none), (⟨RX0, "turnIsLess", "(I)Z"⟩, some .boolean), (⟨RX0, "isRing", "(LInnRegister$Told;II)Z"⟩, some .boolean), (⟨RX0, "walkRound", "(LInnRegister$Told;II)Z"⟩, some .boolean), (⟨RX0, "farThrees", "(LInnRegister$Told;LInnRegister$Row;)I"⟩, some .int), (⟨RX0, "areFar", "(LInnRegister$Told;III)Z"⟩, some .boolean), (⟨RX0, "isWay", "(LInnRegister$Told;III)Z"⟩, some .boolean), (⟨RX0, "metByAny", "(LInnRegister$Told;I)I"⟩, some .int), (⟨RX0, "fewestRooms", "(LInnRegister$Told;LInnRegister$Row;)I"⟩, some .int), (⟨RX0, "canLodge", "(LInnRegister$Told;[IIII)Z"⟩, some .boolean), (⟨RX0, "isFree", "(LInnRegister$Told;[III)Z"⟩, some .boolean), (⟨RX0, "greatestCircle", "(LInnRegister$Told;LInnRegister$Row;)I"⟩, some .int), (⟨RX0, "isCircle", "(LInnRegister$Told;I)Z"⟩, some .boolean), (⟨RX0, "shortestWay", "(LInnRegister$Told;IILInnRegister$Row;)I"⟩, some .int), (⟨RX0, "reachBack", "(LInnRegister$Told;II)I"⟩, some .int), (⟨RX1, "<init>", "()V"⟩, none), (⟨RX1, "makeRoom", "(LInnRegister$Orders;)V"⟩, none), (⟨RX1, "leastWorth", "(LInnRegister$Orders;LInnRegister$Told;LInnRegister$Rule;)I"⟩, some .int), (⟨RX1, "fewestLies", "(LInnRegister$Orders;LInnRegister$Told;)I"⟩, some .int), (⟨RX1, "findWorths", "(LInnRegister$Told;LInnRegister$Rule;)V"⟩, none), (⟨RX1, "worthOf", "(LInnRegister$Rule;III)I"⟩, some .int), (⟨RX1, "worthAt", "(IIII)I"⟩, some .int), (⟨RX1, "eventsAt", "(LInnRegister$Orders;I)I"⟩, some .int), (⟨RX1, "price", "(LInnRegister$Orders;II)I"⟩, some .int), (⟨RX1, "findLeast", "(LInnRegister$Orders;)V"⟩, none), (⟨RX1, "tellOrder", "(LInnRegister$Orders;LInnRegister$Row;)V"⟩, none), (⟨RX1, "cheapestGuest", "(LInnRegister$Orders;I)I"⟩, some .int), (⟨RX1, "greatestWorth", "(LInnRegister$Orders;LInnRegister$Told;LInnRegister$Rule;)I"⟩, some .int), (⟨RX1, "findGreatest", "(LInnRegister$Orders;I)V"⟩, none), (⟨RX1, "longestStay", "(LInnRegister$Orders;I)I"⟩, some .int), (⟨RX1, "shortestStay", "(LInnRegister$Orders;I)I"⟩, some .int), (⟨RX1, "leastStay", "(LInnRegister$Orders;II)I"⟩, some .int), (⟨RX1, "leastRest", "(LInnRegister$Orders;III)I"⟩, some .int), (⟨RX2, "<init>", "()V"⟩, none), (⟨RX2, "among", "(LInnRegister$Told;I)Z"⟩, some .boolean), (⟨RX2, "without", "(LInnRegister$Told;I)Z"⟩, some .boolean), (⟨RX2, "allCanCome", "(I)Z"⟩, some .boolean), (⟨RX2, "stillIn", "(I)I"⟩, some .int), (⟨RX2, "comeNext", "(III)V"⟩, none), (⟨RX3, "<init>", "()V"⟩, none), (⟨RX3, "winningAsk", "(II)I"⟩, some .int), (⟨RX3, "bargainsAtRest", "(ILInnRegister$Row;)I"⟩, some .int), (⟨RX3, "isBestAgainst", "(III)Z"⟩, some .boolean), (⟨RX3, "gain", "(III)I"⟩, some .int), (⟨RX3, "power", "(II)J"⟩, some .long), (⟨RX3, "chance", "(JII)J"⟩, some .long), (⟨RX3, "sow", "(I)V"⟩, none), (⟨RX3, "draw", "(I)I"⟩, some .int), (⟨RX4, "<init>", "()V"⟩, none), (⟨RX4, "total", "(LInnRegister$Told;)J"⟩, some .long), (⟨RX4, "makeRoom", "()V"⟩, none), (⟨RX4, "readTold", "(LInnRegister$Told;)V"⟩, none), (⟨RX4, "lookBehind", "()V"⟩, none), (⟨RX4, "tally", "()V"⟩, none), (⟨RX4, "tallyState", "(I)V"⟩, none), (⟨RX4, "eventOf", "(II)I"⟩, some .int), (⟨RX4, "leastRow", "(LInnRegister$Row;)I"⟩, some .int), (⟨RX4, "waysAhead", "(II)J"⟩, some .long), (⟨RX4, "waysMeeting", "(II)J"⟩, some .long), (⟨RX4, "waysBehind", "(II)J"⟩, some .long), (⟨RX4, "waysWithin", "(II)J"⟩, some .long), (⟨RX4, "sumOfNext", "(I)J"⟩, some .long), (⟨RX4, "fullestSet", "()I"⟩, some .int), (⟨RX4, "openOutcomes", "(LInnRegister$Told;)J"⟩, some .long), (⟨RX4, "numberOpenPairs", "(LInnRegister$Told;)V"⟩, none), (⟨RX4, "outcomesThen", "(II)J"⟩, some .long), (⟨RX5, "<init>", "()V"⟩, none), (⟨RX5, "stage", "(LInnRegister$Told;)V"⟩, none), (⟨RX5, "push", "()V"⟩, none), (⟨RX5, "pop", "(LInnRegister$Told;)I"⟩, some .int), (⟨RX5, "pairsChanged", "(LInnRegister$Told;)I"⟩, some .int), (⟨RX5, "forgetSteps", "()V"⟩, none), (⟨RX5, "forgetKept", "()V"⟩, none), (⟨RX5, "hold", "(LInnRegister$Told;I)Z"⟩, some .boolean), (⟨RX5, "bringBack", "(LInnRegister$Told;I)Z"⟩, some .boolean), (⟨RX6, "<init>", "()V"⟩, none), (⟨RX6, "clear", "()V"⟩, none), (⟨RX6, "add", "(J)V"⟩, none), (⟨RX6, "addFraction", "(JJ)V"⟩, none), (⟨RX6, "commonDivisor", "(JJ)J"⟩, some .long), (⟨RX7, "<init>", "()V"⟩, none), (⟨RX7, "read", "(LInnRegister$Text;)I"⟩, some .int), (⟨RX7, "emit", "(I)V"⟩, none), (⟨RX7, "here", "()I"⟩, some .int), (⟨RX7, "readLevel", "(II)Z"⟩, some .boolean), (⟨RX7, "levelOf", "(I)I"⟩, some .int), (⟨RX7, "readWithin", "(II)Z"⟩, some .boolean), (⟨RX7, "readThing", "(I)Z"⟩, some .boolean), (⟨RX7, "readNumber", "()V"⟩, none), (⟨RX7, "worth", "([I)I"⟩, some .int), (⟨RX7, "done", "(III)I"⟩, some .int), (⟨RX8, "<init>", "()V"⟩, none), (⟨RX8, "add", "(I)I"⟩, some .int), (⟨RX8, "cut", "(I)Z"⟩, some .boolean), (⟨RX8, "clear", "()V"⟩, none), (⟨RX8, "at", "(I)I"⟩, some .int), (⟨RX8, "digit", "(I)I"⟩, some .int), (⟨RX8, "toldBy", "(I)I"⟩, some .int), (⟨RX8, "faultInGuests", "(I)I"⟩, some .int), (⟨RX8, "faultInMeetings", "(I)I"⟩, some .int), (⟨RX8, "goodInMeetings", "(II)Z"⟩, some .boolean), (⟨RX8, "faultInStory", "()I"⟩, some .int), (⟨RX8, "goodInStory", "(II)Z"⟩, some .boolean), (⟨RX8, "actLength", "(I)I"⟩, some .int), (⟨RX9, "<init>", "()V"⟩, none), (⟨RX9, "has", "(I)Z"⟩, some .boolean), (⟨RX9, "areTwo", "(II)Z"⟩, some .boolean), (⟨RX9, "all", "()I"⟩, some .int), (⟨RX9, "add", "(I)V"⟩, none), (⟨RX9, "openOf", "(I)I"⟩, some .int), (⟨RX9, "about", "(II)I"⟩, some .int), (⟨RX9, "put", "(III)V"⟩, none), (⟨RX9, "putHalf", "(III)V"⟩, none), (⟨RX9, "tell", "(III)I"⟩, some .int), (⟨RX9, "hide", "(I)I"⟩, some .int), (⟨RX9, "copy", "(II)I"⟩, some .int), (⟨RX9, "move", "(II)I"⟩, some .int), (⟨RX9, "makeFirm", "(I)I"⟩, some .int), (⟨RX9, "readSheet", "(IIII)V"⟩, none), (⟨RX9, "roomsTogether", "()I"⟩, some .int), (⟨RX9, "pairsTold", "(I)I"⟩, some .int), (⟨RX9, "mates", "(I)I"⟩, some .int), (⟨RX9, "likeThat", "(LInnRegister$Told;)V"⟩, none), (⟨RX9, "packed", "([I)J"⟩, some .long), (⟨RX9, "unpack", "(J[I)V"⟩, none), (⟨RX9, "save", "([JI)V"⟩, none), (⟨RX9, "load", "([JI)V"⟩, none), (⟨RX10, "<init>", "()V"⟩, none), (⟨RX10, "sign", "(I)I"⟩, some .int), (⟨RX10, "end", "(I)Z"⟩, some .boolean), (⟨RX10, "guests", "()I"⟩, some .int), (⟨RX10, "meetings", "()I"⟩, some .int), (⟨RX10, "rule", "()I"⟩, some .int), (⟨RX10, "guest", "(II)I"⟩, some .int), (⟨RX10, "pair", "(II)I"⟩, some .int), (⟨RX10, "sheet", "(IIII)I"⟩, some .int), (⟨RX10, "tells", "(III)I"⟩, some .int), (⟨RX10, "hides", "(I)I"⟩, some .int), (⟨RX10, "copies", "(II)I"⟩, some .int), (⟨RX10, "moves", "(II)I"⟩, some .int), (⟨RX10, "strict", "(I)I"⟩, some .int), (⟨RX10, "story", "()I"⟩, some .int), (⟨RX10, "undo", "()I"⟩, some .int), (⟨RX10, "orders", "()J"⟩, some .long), (⟨RX10, "first", "()I"⟩, some .int), (⟨RX10, "before", "(II)I"⟩, some .int), (⟨RX10, "met", "(II)I"⟩, some .int), (⟨RX10, "sure", "()I"⟩, some .int), (⟨RX10, "known", "()I"⟩, some .int), (⟨RX10, "place", "(II)I"⟩, some .int), (⟨RX10, "beds", "()I"⟩, some .int), (⟨RX10, "most", "()I"⟩, some .int), (⟨RX10, "evening", "(I)I"⟩, some .int), (⟨RX10, "longest", "(I)I"⟩, some .int), (⟨RX10, "cheapest", "()I"⟩, some .int), (⟨RX10, "dearest", "()I"⟩, some .int), (⟨RX10, "lies", "()I"⟩, some .int), (⟨RX10, "alone", "()I"⟩, some .int), (⟨RX10, "clash", "()I"⟩, some .int), (⟨RX10, "ring", "()I"⟩, some .int), (⟨RX10, "threes", "()I"⟩, some .int), (⟨RX10, "rooms", "()I"⟩, some .int), (⟨RX10, "circle", "()I"⟩, some .int), (⟨RX10, "hears", "(II)I"⟩, some .int), (⟨RX10, "asks", "()J"⟩, some .long), (⟨RX10, "likely", "(I)I"⟩, some .int), (⟨RX10, "game", "(II)I"⟩, some .int), (⟨RX10, "law", "()I"⟩, some .int), (⟨RX10, "rests", "(I)I"⟩, some .int), (⟨RX10, "years", "(II)I"⟩, some .int), (⟨RX10, "keep", "(I)Z"⟩, some .boolean), (⟨RX10, "again", "(I)Z"⟩, some .boolean), (⟨RX10, "count", "(I)I"⟩, some .int), (⟨RX10, "row", "(I)J"⟩, some .long), (⟨RX10, "settled", "(I)I"⟩, some .int), (⟨RX10, "leastOf", "(I)I"⟩, some .int), (⟨RX10, "share", "(J)I"⟩, some .int), (⟨RX10, "act", "(I)I"⟩, some .int), (⟨RX11, "thrown", "()I"⟩, some .int), (⟨RX11, "refuse", "()I"⟩, some .int), (⟨RX11, "in", "(JJJ)Z"⟩, some .boolean), (⟨RX11, "has", "(II)Z"⟩, some .boolean), (⟨RX11, "flag", "(Z)I"⟩, some .int), (⟨RX11, "common", "(JJ)J"⟩, some .long), (⟨RX11, "enters", "(J)V"⟩, none), (⟨RX11, "entersFraction", "(JJ)V"⟩, none), (⟨RX11, "at", "(II)I"⟩, some .int), (⟨RX11, "isGuest", "(I)Z"⟩, some .boolean), (⟨RX11, "areTwo", "(II)Z"⟩, some .boolean), (⟨RX11, "lays", "([IIII)V"⟩, none), (⟨RX11, "those", "(II)I"⟩, some .int), (⟨RX11, "pairsThat", "(I)I"⟩, some .int), (⟨RX11, "all", "()I"⟩, some .int), (⟨RX11, "sign", "(I)I"⟩, some .int), (⟨RX11, "end", "(I)Z"⟩, some .boolean), (⟨RX11, "begins", "(I)I"⟩, some .int), (⟨RX11, "takes", "(I)Z"⟩, some .boolean), (⟨RX11, "isDigit", "()Z"⟩, some .boolean), (⟨RX11, "takesOf", "(Ljava/lang/String;)I"⟩, some .int), (⟨RX11, "number", "(I)I"⟩, some .int), (⟨RX11, "digitIn", "(III)I"⟩, some .int), (⟨RX11, "faultOf", "(IIZ)I"⟩, some .int), (⟨RX11, "guests", "()I"⟩, some .int), (⟨RX11, "meetings", "()I"⟩, some .int), (⟨RX11, "codes", "(I)V"⟩, none), (⟨RX11, "readsThing", "()Z"⟩, some .boolean), (⟨RX11, "readsRank", "(I)Z"⟩, some .boolean), (⟨RX11, "readsRule", "()I"⟩, some .int), (⟨RX11, "laysCode", "([II)V"⟩, none), (⟨RX11, "rule", "()I"⟩, some .int), (⟨RX11, "worked", "(III)I"⟩, some .int), (⟨RX11, "ruled", "()I"⟩, some .int), (⟨RX11, "guest", "(II)I"⟩, some .int), (⟨RX11, "pair", "(II)I"⟩, some .int), (⟨RX11, "sumOfRooms", "()I"⟩, some .int), (⟨RX11, "sheet", "(IIII)I"⟩, some .int), (⟨RX11, "putsBy", "()V"⟩, none), (⟨RX11, "adds", "(I)I"⟩, some .int), (⟨RX11, "counted", "(I)I"⟩, some .int), (⟨RX11, "undo", "()I"⟩, some .int), (⟨RX11, "tellsOf", "(III)I"⟩, some .int), (⟨RX11, "hidesOne", "(I)I"⟩, some .int), (⟨RX11, "copiesTo", "(II)I"⟩, some .int), (⟨RX11, "movesTo", "(II)I"⟩, some .int), (⟨RX11, "makesStrict", "(I)I"⟩, some .int), (⟨RX11, "tells", "(III)I"⟩, some .int), (⟨RX11, "hides", "(I)I"⟩, some .int), (⟨RX11, "copies", "(II)I"⟩, some .int), (⟨RX11, "moves", "(II)I"⟩, some .int), (⟨RX11, "strict", "(I)I"⟩, some .int), (⟨RX11, "readsAct", "()Z"⟩, some .boolean), (⟨RX11, "does", "(I)Z"⟩, some .boolean), (⟨RX11, "story", "()I"⟩, some .int), (⟨RX11, "<init>", "()V"⟩, none), (⟨RX11, "last", "()I"⟩, some .int), (⟨RX11, "eventsTo", "(I)I"⟩, some .int), (⟨RX11, "laysRules", "()V"⟩, none), (⟨RX11, "mayCome", "(II)Z"⟩, some .boolean), (⟨RX11, "leads", "(II)I"⟩, some .int), (⟨RX11, "laysWays", "(II)J"⟩, some .long), (⟨RX11, "laysAll", "()J"⟩, some .long), (⟨RX11, "laysAhead", "()V"⟩, none), (⟨RX11, "orders", "()J"⟩, some .long), (⟨RX11, "first", "()I"⟩, some .int), (⟨RX11, "comesWhen", "(III)J"⟩, some .long), (⟨RX11, "metWays", "(II)J"⟩, some .long), (⟨RX11, "before", "(II)I"⟩, some .int), (⟨RX11, "met", "(II)I"⟩, some .int), (⟨RX11, "sure", "()I"⟩, some .int), (⟨RX11, "known", "()I"⟩, some .int), (⟨RX11, "place", "(II)I"⟩, some .int), (⟨RX11, "beds", "()I"⟩, some .int), (⟨RX11, "most", "()I"⟩, some .int), (⟨RX11, "evening", "(I)I"⟩, some .int), (⟨RX11, "longest", "(I)I"⟩, some .int), (⟨RX11, "worth", "(II)I"⟩, some .int), (⟨RX11, "laysLeast", "()I"⟩, some .int), (⟨RX11, "cheapest", "()I"⟩, some .int), (⟨RX11, "dearest", "()I"⟩, some .int), (⟨RX11, "wrongly", "(II)I"⟩, some .int), (⟨RX11, "lies", "()I"⟩, some .int), (⟨RX11, "alone", "()I"⟩, some .int), (⟨RX11, "isFewer", "(II)Z"⟩, some .boolean), (⟨RX11, "canBe", "(I)Z"⟩, some .boolean), (⟨RX11, "clash", "()I"⟩, some .int), (⟨RX11, "isMet", "(II)Z"⟩, some .boolean), (⟨RX11, "isNot", "(II)Z"⟩, some .boolean), (⟨RX11, "fitsRing", "(III)Z"⟩, some .boolean), (⟨RX11, "ringsFrom", "(II)Z"⟩, some .boolean), (⟨RX11, "ring", "()I"⟩, some .int), (⟨RX11, "hanging", "(II)I"⟩, some .int), (⟨RX11, "hangTogether", "(III)Z"⟩, some .boolean), (⟨RX11, "threes", "()I"⟩, some .int), (⟨RX11, "roomsFrom", "(II)Z"⟩, some .boolean), (⟨RX11, "rooms", "()I"⟩, some .int), (⟨RX11, "circle", "()I"⟩, some .int), (⟨RX11, "hears", "(II)I"⟩, some .int), (⟨RX11, "asks", "()J"⟩, some .long), (⟨RX11, "likely", "(I)I"⟩, some .int), (⟨RX11, "game", "(II)I"⟩, some .int), (⟨RX11, "law", "()I"⟩, some .int), (⟨RX11, "gets", "(III)I"⟩, some .int), (⟨RX11, "isRest", "(III)Z"⟩, some .boolean), (⟨RX11, "rests", "(I)I"⟩, some .int), (⟨RX11, "draws", "(I)I"⟩, some .int), (⟨RX11, "years", "(II)I"⟩, some .int), (⟨RX11, "keep", "(I)Z"⟩, some .boolean), (⟨RX11, "again", "(I)Z"⟩, some .boolean), (⟨RX11, "count", "(I)I"⟩, some .int), (⟨RX11, "row", "(I)J"⟩, some .long), (⟨"java/lang/Integer", "bitCount", "(I)I"⟩, some .int), (⟨"java/lang/Long", "bitCount", "(J)I"⟩, some .int), (⟨"java/lang/String", "length", "()I"⟩, some .int), (⟨"java/lang/String", "charAt", "(I)C"⟩, some .char), (⟨"java/lang/String", "indexOf", "(I)I"⟩, some .int), (⟨"java/lang/String", "indexOf", "(II)I"⟩, some .int), (⟨"java/lang/String", "coder", "()B"⟩, some .byte), (⟨"java/lang/String", "isLatin1", "()Z"⟩, some .boolean), (⟨"java/lang/StringLatin1", "charAt", "([BI)C"⟩, some .char), (⟨"java/lang/StringLatin1", "canEncode", "(I)Z"⟩, some .boolean), (⟨"java/lang/StringLatin1", "indexOf", "([BIII)I"⟩, some .int), (⟨"java/lang/StringLatin1", "indexOfChar", "([BIII)I"⟩, some .int), (⟨"java/util/Arrays", "fill", "([JJ)V"⟩, none), (⟨"java/util/Arrays", "fill", "([BB)V"⟩, none)]
def zFlT : List (Nat × Nat × Nat × Nat × Nat) := [(0, 9, 0, 0, 340), (0, 15, 0, 1, 341), (1, 9, 1, 0, 312), (1, 15, 1, 1, 313), (1, 18, 1, 2, 314), (1, 21, 1, 3, 315), (1, 24, 1, 4, 316), (1, 27, 1, 5, 317), (1, 36, 1, 6, 318), (2, 9, 2, 0, 235), (2, 15, 2, 1, 236), (2, 18, 2, 2, 237), (3, 7, 3, 0, 353), (3, 45, 3, 1, 354), (4, 9, 4, 0, 252), (4, 15, 4, 1, 254), (4, 18, 4, 2, 256), (4, 21, 4, 3, 258), (4, 25, 4, 4, 260), (4, 28, 4, 5, 261), (4, 31, 4, 6, 264), (4, 34, 4, 7, 265), (4, 37, 4, 8, 266), (4, 40, 4, 9, 267), (4, 43, 4, 10, 268), (4, 46, 4, 11, 269), (4, 58, 4, 13, 271), (4, 62, 4, 14, 274), (4, 65, 4, 12, 270), (5, 11, 5, 0, 196), (5, 15, 5, 1, 197), (5, 18, 5, 2, 198), (5, 27, 5, 4, 200), (5, 57, 5, 3, 199), (6, 9, 6, 0, 220), (6, 15, 6, 1, 222), (7, 11, 7, 0, 366), (7, 15, 7, 1, 367), (7, 18, 7, 2, 368), (7, 21, 7, 3, 369), (7, 36, 7, 4, 370), (7, 46, 7, 5, 371), (8, 9, 8, 0, 134), (8, 15, 8, 1, 135), (9, 9, 9, 0, 150), (9, 15, 9, 1, 153), (9, 18, 9, 2, 160), (9, 21, 9, 3, 168), (9, 29, 9, 5, 175), (9, 57, 9, 4, 172), (10, 10, 10, 0, 385), (10, 19, 10, 1, 386), (10, 23, 10, 2, 387), (10, 29, 10, 3, 388), (10, 36, 10, 4, 389), (10, 43, 10, 5, 390), (10, 50, 10, 6, 391), (10, 57, 10, 7, 392), (10, 64, 10, 8, 393), (10, 71, 10, 9, 394), (10, 78, 10, 10, 395), (10, 82, 10, 11, 396), (11, 3, 11, 0, 1544), (11, 11, 11, 2, 1546), (11, 15, 11, 1, 1545), (11, 22, 11, 3, 1547), (11, 37, 11, 5, 1549), (11, 50, 11, 7, 1551), (11, 53, 11, 6, 1550), (11, 56, 11, 8, 1552), (11, 58, 11, 10, 1554), (11, 66, 11, 9, 1553), (11, 94, 11, 12, 1556), (11, 97, 11, 11, 1555), (11, 114, 11, 19, 1563), (11, 117, 11, 4, 1548), (11, 134, 11, 20, 1564), (11, 140, 11, 14, 1558), (11, 143, 11, 16, 1560), (11, 164, 11, 15, 1559), (11, 167, 11, 13, 1557), (11, 177, 11, 17, 1561), (11, 183, 11, 18, 1562), (11, 223, 11, 25, 1569), (11, 226, 11, 21, 1565), (11, 231, 11, 22, 1566), (11, 234, 11, 23, 1567), (11, 237, 11, 24, 1568), (11, 254, 11, 26, 1570), (11, 257, 11, 27, 1571), (11, 260, 11, 28, 1572), (11, 263, 11, 29, 1573), (11, 266, 11, 30, 1574), (11, 269, 11, 31, 1575), (11, 272, 11, 32, 1576), (11, 275, 11, 33, 1577), (11, 278, 11, 34, 1578), (11, 281, 11, 35, 1579), (11, 284, 11, 36, 1580), (11, 287, 11, 37, 1581), (11, 290, 11, 38, 1582), (11, 293, 11, 39, 1583), (11, 296, 11, 40, 1584), (11, 299, 11, 41, 1585), (11, 302, 11, 42, 1586), (11, 305, 11, 43, 1587), (11, 308, 11, 45, 1589), (11, 311, 11, 46, 1590), (11, 315, 11, 47, 1591), (11, 318, 11, 48, 1592), (11, 423, 11, 44, 1588)]
def zFnT : List (Nat × Nat × Nat × Nat × Nat) := [(0, 18, 9, 3, 167), (0, 61, 9, 1, 158), (1, 30, 4, 14, 273), (1, 51, 9, 3, 171), (1, 59, 9, 2, 163), (1, 62, 9, 1, 156), (1, 65, 9, 0, 151), (1, 86, 4, 2, 257), (1, 89, 4, 0, 253), (1, 92, 4, 13, 272), (1, 93, 4, 1, 255), (1, 120, 4, 5, 262), (1, 134, 4, 3, 259), (2, 22, 9, 3, 166), (2, 28, 9, 1, 154), (2, 31, 9, 2, 161), (4, 50, 9, 5, 174), (4, 55, 9, 3, 169), (4, 83, 9, 2, 162), (4, 90, 9, 1, 155), (5, 40, 9, 1, 157), (5, 48, 9, 2, 164), (7, 25, 8, 1, 136), (10, 93, 9, 3, 170), (10, 100, 8, 1, 137), (10, 149, 9, 0, 152), (10, 153, 9, 1, 159), (10, 156, 9, 2, 165), (10, 269, 4, 5, 263), (10, 346, 9, 4, 173), (10, 350, 5, 4, 201), (10, 353, 6, 1, 223), (10, 354, 6, 0, 221)]
def zFsT : List (Nat × Nat × Nat × Nat) := [(16, 9, 0, 1960), (16, 15, 1, 1961)]
def zMlT : List (Nat × Nat × Nat × Nat) := [(0, 24, 109, 1049), (0, 28, 292, 1050), (0, 34, 4, 1051), (0, 38, 3, 1061), (0, 48, 2, 1066), (0, 52, 78, 1069), (0, 57, 79, 1070), (0, 64, 111, 1055), (0, 67, 5, 1056), (0, 70, 177, 1060), (0, 73, 7, 1079), (0, 77, 112, 1082), (0, 81, 8, 1083), (0, 84, 9, 1086), (0, 88, 11, 1097), (0, 92, 12, 1100), (0, 101, 14, 1112), (0, 105, 16, 1123), (1, 40, 18, 924), (1, 44, 21, 945), (1, 48, 26, 965), (1, 56, 123, 1007), (1, 68, 292, 949), (1, 73, 23, 950), (1, 77, 22, 953), (1, 81, 91, 957), (1, 96, 24, 969), (1, 100, 25, 973), (1, 107, 28, 981), (1, 110, 57, 985), (1, 114, 79, 986), (1, 124, 30, 995), (1, 128, 33, 919), (1, 131, 55, 928), (1, 137, 34, 929), (2, 34, 123, 1017), (2, 38, 38, 1018), (2, 42, 109, 1016), (2, 46, 305, 1022), (2, 52, 39, 1025), (2, 55, 40, 1029), (3, 13, 177, 1168), (3, 19, 78, 1181), (3, 24, 44, 1182), (3, 28, 79, 1188), (3, 32, 45, 1185), (3, 36, 292, 1155), (3, 41, 46, 1156), (4, 69, 52, 793), (4, 72, 53, 797), (4, 76, 54, 806), (4, 79, 109, 801), (4, 86, 123, 802), (4, 93, 304, 840), (4, 99, 56, 843), (4, 103, 177, 818), (4, 106, 57, 822), (4, 110, 79, 826), (4, 116, 55, 836), (4, 119, 292, 885), (4, 124, 63, 894), (4, 128, 66, 1143), (4, 131, 67, 1148), (4, 135, 112, 1147), (5, 21, 127, 494), (5, 37, 128, 776), (5, 44, 125, 530), (5, 51, 293, 531), (5, 60, 73, 1222), (6, 19, 81, 855), (6, 23, 79, 858), (7, 39, 97, 553), (7, 43, 96, 554), (7, 48, 84, 555), (7, 52, 86, 559), (7, 56, 88, 563), (7, 59, 85, 567), (7, 63, 87, 664), (7, 66, 89, 571), (7, 70, 90, 575), (7, 75, 296, 580), (7, 80, 92, 961), (8, 19, 97, 449), (8, 29, 98, 453), (8, 32, 102, 482), (8, 36, 99, 486), (8, 39, 104, 735), (8, 42, 105, 739), (9, 25, 107, 510), (9, 32, 109, 764), (9, 36, 114, 522), (9, 40, 108, 506), (9, 44, 112, 514), (9, 48, 113, 518), (9, 51, 292, 697), (9, 69, 111, 760), (9, 72, 125, 498), (9, 76, 126, 780), (10, 9, 93, 130), (10, 18, 106, 146), (10, 28, 68, 192), (10, 35, 77, 216), (10, 42, 35, 231), (10, 49, 50, 248), (10, 56, 17, 308), (10, 63, 0, 336), (10, 70, 41, 349), (10, 77, 82, 362), (10, 85, 94, 426), (10, 89, 95, 434), (10, 97, 100, 442), (10, 103, 98, 457), (10, 106, 110, 458), (10, 109, 73, 462), (10, 112, 74, 466), (10, 115, 96, 470), (10, 118, 101, 478), (10, 121, 69, 490), (10, 125, 99, 501), (10, 128, 115, 502), (10, 132, 72, 526), (10, 136, 70, 537), (10, 139, 83, 548), (10, 143, 107, 880), (10, 159, 111, 1296), (10, 162, 108, 831), (10, 166, 112, 875), (10, 170, 120, 671), (10, 174, 121, 677), (10, 178, 176, 685), (10, 181, 116, 693), (10, 184, 117, 707), (10, 187, 118, 715), (10, 190, 119, 723), (10, 193, 103, 731), (10, 196, 179, 742), (10, 199, 97, 746), (10, 202, 105, 747), (10, 205, 78, 748), (10, 206, 79, 752), (10, 209, 122, 756), (10, 212, 71, 772), (10, 215, 51, 787), (10, 219, 58, 814), (10, 223, 59, 832), (10, 227, 178, 847), (10, 231, 60, 863), (10, 234, 61, 881), (10, 237, 62, 890), (10, 240, 64, 902), (10, 243, 292, 821), (10, 248, 109, 910), (10, 251, 32, 915), (10, 255, 31, 933), (10, 258, 19, 941), (10, 262, 27, 977), (10, 266, 29, 991), (10, 273, 20, 1003), (10, 277, 37, 1012), (10, 281, 36, 1037), (10, 284, 1, 1045), (10, 288, 6, 1075), (10, 291, 10, 1093), (10, 294, 13, 1108), (10, 297, 15, 1119), (10, 309, 65, 1139), (10, 312, 47, 1152), (10, 316, 46, 1159), (10, 319, 80, 851), (10, 323, 42, 1164), (10, 327, 43, 1178), (10, 331, 124, 1193), (10, 334, 48, 1197), (10, 337, 49, 1201), (10, 340, 75, 1210), (10, 343, 76, 1218), (11, 7, 185, 1744), (11, 18, 186, 1531), (11, 25, 182, 1323), (11, 29, 189, 1437), (11, 33, 188, 1360), (11, 41, 192, 1446), (11, 44, 292, 1492), (11, 69, 184, 1346), (11, 77, 294, 1376), (11, 83, 295, 1377), (11, 87, 199, 1340), (11, 91, 197, 1330), (11, 100, 201, 1336), (11, 103, 198, 1349), (11, 106, 203, 1353), (11, 110, 191, 1357), (11, 120, 202, 1367), (11, 126, 200, 1372), (11, 130, 218, 1397), (11, 137, 219, 1401), (11, 146, 207, 1417), (11, 149, 206, 1421), (11, 155, 208, 1413), (11, 170, 209, 1409), (11, 173, 210, 1429), (11, 180, 212, 1809), (11, 188, 181, 1442), (11, 191, 190, 1454), (11, 198, 216, 1463), (11, 205, 222, 1475), (11, 208, 220, 1480), (11, 211, 223, 1488), (11, 214, 224, 1497), (11, 217, 225, 1505), (11, 220, 226, 1514), (11, 240, 232, 1522), (11, 243, 233, 1527), (11, 246, 193, 1535), (11, 321, 183, 1717), (11, 324, 239, 1720), (11, 327, 236, 1709), (11, 330, 240, 1713), (11, 333, 238, 1701), (11, 336, 241, 1705), (11, 340, 242, 1697), (11, 344, 246, 1736), (11, 348, 243, 1732), (11, 351, 187, 1740), (11, 355, 247, 1751), (11, 358, 194, 1779), (11, 363, 237, 1789), (11, 366, 213, 1805), (11, 369, 257, 1801), (11, 372, 258, 1797), (11, 375, 261, 1820), (11, 378, 264, 1832), (11, 381, 265, 1835), (11, 384, 267, 1851), (11, 387, 268, 1855), (11, 390, 269, 1847), (11, 394, 270, 1843), (11, 397, 272, 1867), (11, 400, 273, 1863), (11, 403, 275, 1875), (11, 415, 283, 1916), (11, 420, 284, 1913), (11, 427, 286, 1923), (16, 335, 298, 598), (16, 492, 299, 588), (16, 495, 300, 1381), (16, 505, 294, 594), (16, 633, 297, 584), (16, 637, 302, 602), (17, 88, 301, 605), (17, 95, 303, 612)]
def zStT : List (Nat × Nat × Nat) := [(2, 3, 1067), (7, 4, 1080), (8, 4, 1084), (9, 2, 1087), (11, 5, 1098), (12, 4, 1101), (14, 2, 1113), (23, 4, 951), (43, 2, 1179), (44, 3, 1183), (45, 3, 1186), (46, 2, 1157), (47, 3, 1153), (81, 2, 856), (87, 1, 665), (92, 3, 962), (105, 1, 740), (125, 1, 499), (126, 2, 781), (177, 1, 819), (182, 3, 1324), (183, 2, 1718), (184, 1, 1347), (185, 2, 1745), (188, 2, 1361), (191, 4, 1358), (212, 3, 1810), (264, 2, 1833), (283, 3, 1917), (284, 3, 1914), (292, 1, 698), (293, 1, 532), (300, 2, 1382), (301, 1, 606), (302, 4, 603), (303, 4, 613), (304, 2, 841), (305, 2, 1023)]
def zInT : List (Nat × Nat × Nat) := [(0, 0, 337), (17, 0, 309), (35, 0, 232), (41, 0, 350), (50, 0, 249), (68, 0, 193), (77, 0, 217), (82, 0, 363), (93, 0, 131), (106, 0, 147)]
def zViT : List (Nat × Nat × Nat × Nat × Nat) := [(1, 2, 0, 1046, 1047), (3, 1, 0, 1063, 34), (4, 3, 0, 1053, 32), (5, 3, 0, 1058, 33), (6, 2, 0, 1076, 1077), (10, 2, 0, 1094, 1095), (13, 2, 0, 1109, 1110), (15, 4, 0, 1120, 1121), (16, 3, 0, 1125, 35), (18, 1, 1, 926, 20), (19, 3, 1, 942, 943), (20, 2, 1, 1004, 1005), (21, 2, 1, 947, 22), (22, 4, 1, 955, 23), (24, 2, 1, 971, 25), (25, 3, 1, 975, 26), (26, 1, 1, 967, 24), (27, 2, 1, 978, 979), (28, 2, 1, 983, 27), (29, 3, 1, 992, 993), (30, 2, 1, 997, 28), (31, 2, 1, 934, 935), (32, 2, 1, 916, 917), (33, 3, 1, 921, 19), (34, 4, 1, 931, 21), (36, 2, 2, 1038, 1039), (37, 2, 2, 1013, 1014), (38, 1, 2, 1020, 29), (39, 1, 2, 1027, 30), (40, 3, 2, 1031, 31), (42, 2, 3, 1165, 1166), (48, 1, 3, 1198, 1199), (49, 1, 3, 1202, 1203), (51, 1, 4, 788, 789), (52, 0, 4, 795, 12), (53, 1, 4, 799, 13), (54, 0, 4, 808, 14), (55, 0, 4, 838, 15), (56, 1, 4, 845, 16), (57, 2, 4, 823, 824), (58, 1, 4, 815, 816), (59, 2, 4, 833, 834), (60, 2, 4, 864, 865), (61, 2, 4, 882, 883), (62, 2, 4, 891, 892), (63, 1, 4, 896, 18), (64, 0, 4, 903, 904), (65, 1, 4, 1140, 1141), (66, 1, 4, 1145, 36), (67, 2, 4, 1150, 37), (69, 1, 5, 491, 492), (70, 0, 5, 538, 539), (71, 1, 5, 773, 774), (72, 1, 5, 527, 528), (73, 0, 5, 463, 464), (74, 0, 5, 467, 468), (75, 2, 5, 1211, 1212), (76, 2, 5, 1219, 1220), (78, 0, 6, 749, 750), (79, 1, 6, 753, 754), (80, 2, 6, 852, 853), (83, 1, 7, 549, 550), (84, 1, 7, 557, 3), (85, 0, 7, 569, 6), (86, 2, 7, 561, 4), (88, 2, 7, 565, 5), (89, 1, 7, 573, 7), (90, 0, 7, 577, 8), (91, 1, 7, 958, 959), (94, 1, 8, 427, 428), (95, 1, 8, 435, 436), (96, 0, 8, 471, 472), (97, 1, 8, 450, 451), (98, 1, 8, 454, 455), (99, 1, 8, 487, 488), (100, 1, 8, 443, 444), (101, 1, 8, 479, 480), (102, 2, 8, 484, 0), (103, 0, 8, 732, 733), (104, 2, 8, 737, 10), (107, 1, 9, 511, 512), (108, 2, 9, 507, 508), (109, 0, 9, 765, 766), (110, 1, 9, 459, 460), (111, 1, 9, 761, 762), (112, 2, 9, 515, 516), (113, 3, 9, 520, 1), (114, 3, 9, 524, 2), (115, 3, 9, 503, 504), (116, 1, 9, 694, 695), (117, 2, 9, 708, 709), (118, 2, 9, 716, 717), (119, 1, 9, 724, 725), (120, 4, 9, 672, 673), (121, 0, 9, 678, 679), (122, 1, 9, 757, 758), (123, 1, 9, 803, 804), (124, 1, 9, 1194, 1195), (127, 2, 9, 495, 496), (128, 2, 9, 777, 778), (176, 1, 10, 687, 9), (178, 1, 10, 849, 17), (179, 1, 10, 744, 11), (181, 0, 11, 1444, 54), (186, 1, 11, 1533, 66), (187, 2, 11, 1742, 76), (189, 1, 11, 1439, 53), (190, 2, 11, 1456, 56), (192, 2, 11, 1448, 55), (193, 1, 11, 1537, 67), (194, 0, 11, 1781, 78), (197, 1, 11, 1332, 39), (198, 1, 11, 1351, 42), (199, 0, 11, 1342, 41), (200, 1, 11, 1374, 45), (201, 1, 11, 1338, 40), (202, 3, 11, 1369, 44), (203, 3, 11, 1355, 43), (206, 1, 11, 1423, 51), (207, 0, 11, 1419, 50), (208, 1, 11, 1415, 49), (209, 0, 11, 1411, 48), (210, 2, 11, 1431, 52), (213, 0, 11, 1807, 82), (216, 0, 11, 1465, 57), (218, 0, 11, 1399, 46), (219, 1, 11, 1403, 47), (220, 1, 11, 1482, 59), (222, 3, 11, 1477, 58), (223, 1, 11, 1490, 60), (224, 2, 11, 1499, 61), (225, 2, 11, 1507, 62), (226, 1, 11, 1516, 63), (232, 0, 11, 1524, 64), (233, 1, 11, 1529, 65), (236, 0, 11, 1711, 71), (237, 1, 11, 1791, 79), (238, 0, 11, 1703, 69), (239, 2, 11, 1722, 73), (240, 2, 11, 1715, 72), (241, 2, 11, 1707, 70), (242, 0, 11, 1699, 68), (243, 0, 11, 1734, 74), (246, 3, 11, 1738, 75), (247, 2, 11, 1753, 77), (257, 2, 11, 1803, 81), (258, 0, 11, 1799, 80), (261, 2, 11, 1822, 83), (265, 1, 11, 1837, 84), (267, 2, 11, 1853, 87), (268, 2, 11, 1857, 88), (269, 3, 11, 1849, 86), (270, 2, 11, 1845, 85), (272, 2, 11, 1869, 90), (273, 3, 11, 1865, 89), (275, 2, 11, 1877, 91), (286, 1, 11, 1925, 92), (294, 0, 200, 595, 596), (295, 1, 200, 1378, 1379), (296, 1, 200, 581, 582), (297, 2, 200, 585, 586), (298, 0, 200, 599, 600), (299, 0, 200, 589, 590)]
def zCpT : List (Nat × Nat × Nat) := [(0, 42, 1065), (5, 31, 541)]
def zChT : List (Nat × Nat × Nat) := [(17, 9, 1384)]
def zMxT994 : List (Nat × Nat × Nat) := [(0, 96, 1103), (7, 84, 964), (9, 66, 676), (11, 195, 1462), (17, 92, 608)]
def zMxT995 : List (Nat × Nat × Nat) := [(7, 30, 552), (8, 23, 446), (9, 61, 675), (11, 61, 1335), (17, 38, 611)]
def zMxT996 : List (Nat × Nat × Nat) := [(10, 303, 1132), (11, 408, 1892)]
def zObT : List (Nat × Nat × Nat) := [(0, 3, 339), (1, 3, 311), (2, 3, 234), (3, 1, 352), (4, 3, 251), (5, 3, 195), (6, 3, 219), (7, 5, 365), (8, 3, 133), (9, 3, 149), (10, 1, 125), (11, 249, 1543)]
def zNwT : List (Nat × Nat × Nat × Nat × Nat × Nat) := [(10, 7, 8, 128, 129, 95), (10, 16, 9, 144, 145, 96), (10, 26, 5, 190, 191, 97), (10, 33, 6, 214, 215, 98), (10, 40, 2, 229, 230, 99), (10, 47, 4, 246, 247, 100), (10, 54, 1, 306, 307, 101), (10, 61, 0, 334, 335, 102), (10, 68, 3, 347, 348, 103), (10, 75, 7, 360, 361, 104)]
def zKiT : List (Nat × Nat × Int32 × Nat) := [(3, 49, 1103515245, 1205), (10, 326, (-100000), 1173), (11, 361, 1000000, 1787), (11, 362, (-1000000), 1788), (11, 414, 100000, 1907), (11, 426, 1103515245, 1927), (14, 265, 1431655765, 700), (14, 266, 858993459, 701), (14, 267, 252645135, 702)]
def zKlT : List (Nat × Nat × Int64 × Nat) := [(10, 301, (-2), 1131), (11, 73, 48, 1344), (11, 75, 57, 1345), (11, 186, 3, 1441), (11, 201, 2, 1479), (11, 203, 9, 1509), (11, 406, (-2), 1891), (11, 410, 10, 1897), (11, 412, 60, 1902), (11, 418, 20, 1912), (15, 314, 6148914691236517205, 534), (15, 316, 3689348814741910323, 535), (15, 318, 1085102592571150095, 536)]
def zGsT : List (Nat × Nat × Nat × Nat) := [(1, 104, 1000, 923), (4, 59, 1000, 791), (16, 38, 1, 592)]
def zFlb (e : Nat × Nat × Nat × Nat × Nat) : Bool := match vwCl[e.2.2.1]?, lw_tbl[e.2.2.2.2]? with
  | some q, some (.fieldLink o i r n d) => decide (e.2.2.2.1 < q.2.2 ∧ o = zCn e.1 ∧ i = e.2.1 ∧ r = (q.2.1 e.2.2.2.1).1 ∧ n = (q.2.1 e.2.2.2.1).2.1 ∧ d = (q.2.1 e.2.2.2.1).2.2.1)
  | _, _ => false
def zFnb (e : Nat × Nat × Nat × Nat × Nat) : Bool := match vwCl[e.2.2.1]?, lw_tbl[e.2.2.2.2]? with
  | some q, some (.fieldLinkNest o i r n d _) => decide (e.2.2.2.1 < q.2.2 ∧ o = zCn e.1 ∧ i = e.2.1 ∧ r = (q.2.1 e.2.2.2.1).1 ∧ n = (q.2.1 e.2.2.2.1).2.1 ∧ d = (q.2.1 e.2.2.2.1).2.2.1)
  | _, _ => false
def zFsb (e : Nat × Nat × Nat × Nat) : Bool := match lw_tbl[e.2.2.2]? with
  | some (.fieldLink o i r n d) => decide (o = zCn e.1 ∧ i = e.2.1 ∧ r = "java/lang/String" ∧ ((e.2.2.1 = 0 ∧ n = "value" ∧ d = "[B") ∨ (e.2.2.1 = 1 ∧ n = "coder" ∧ d = "B")))
  | _ => false
def zMlb (e : Nat × Nat × Nat × Nat) : Bool := match zNr[e.2.2.1]?, lw_tbl[e.2.2.2]? with
  | some q, some (.methodLink o i y) => decide (o = zCn e.1 ∧ i = e.2.1 ∧ y = q.1)
  | some q, some (.methodLinkNest o i y _) => decide (o = zCn e.1 ∧ i = e.2.1 ∧ y = q.1)
  | _, _ => false
def zStb (e : Nat × Nat × Nat) : Bool := match zNr[e.1]?, lw_tbl[e.2.2]? with
  | some q, some (.static y) => decide (y = q.1 ∧ zPn q.1 = some e.2.1)
  | _, _ => false
def zInb (e : Nat × Nat × Nat) : Bool := match zNr[e.1]?, lw_tbl[e.2.2]? with
  | some q, some (.instanceMethod y) => decide (y = q.1 ∧ q.1.name = "<init>" ∧ q.2 = none ∧ zPn q.1 = some e.2.1)
  | _, _ => false
def zVib (e : Nat × Nat × Nat × Nat × Nat) : Bool := match zNr[e.1]?, lw_tbl[e.2.2.2.1]?, lw_tbl[e.2.2.2.2]? with
  | some q, some (.instanceMethod y), some (.selects c a b) => decide (y = q.1 ∧ c = zCls e.2.2.1 ∧ a = q.1 ∧ b = q.1 ∧ q.1.cls = zCls e.2.2.1 ∧ (e.2.2.1 < 12 ∨ e.2.2.1 = 200) ∧ zPn q.1 = some e.2.1)
  | _, _, _ => false
def zLkb (y : MethodName) (e : Nat × Nat × Nat) : Bool := match lw_tbl[e.2.2]? with
  | some (.methodLink o i z) => decide (o = zCn e.1 ∧ i = e.2.1 ∧ z = y)
  | _ => false
def zNwb (e : Nat × Nat × Nat × Nat × Nat × Nat) : Bool := match vwCl[e.2.2.1]?, lw_tbl[e.2.2.2.1]?, lw_tbl[e.2.2.2.2.1]?, lw_tbl[e.2.2.2.2.2]? with
  | some q, some (.classLink o i r), some (.instantiable a n), some (.initialized b) => decide (o = zCn e.1 ∧ i = e.2.1 ∧ r = q.1 ∧ a = q.1 ∧ n = q.2.2 ∧ b = q.1)
  | _, _, _, _ => false
def zKib (e : Nat × Nat × Int32 × Nat) : Bool := match lw_tbl[e.2.2.2]? with
  | some (.constant o i v) => decide (o = zCn e.1 ∧ i = e.2.1 ∧ v = e.2.2.1)
  | _ => false
def zKlb (e : Nat × Nat × Int64 × Nat) : Bool := match lw_tbl[e.2.2.2]? with
  | some (.constantLong o i v) => decide (o = zCn e.1 ∧ i = e.2.1 ∧ v = e.2.2.1)
  | _ => false
def zGsb (e : Nat × Nat × Nat × Nat) : Bool := match lw_tbl[e.2.2.2]? with
  | some (.fieldLink o i r n d) => decide (o = zCn e.1 ∧ i = e.2.1 ∧ ((e.2.2.1 = 1000 ∧ r = "InnRegister" ∧ n = "POWER" ∧ d = "[I") ∨ (e.2.2.1 = 1 ∧ r = "java/lang/String" ∧ n = "COMPACT_STRINGS" ∧ d = "Z")))
  | some (.fieldLinkNest o i r n d _) => decide (o = zCn e.1 ∧ i = e.2.1 ∧ ((e.2.2.1 = 1000 ∧ r = "InnRegister" ∧ n = "POWER" ∧ d = "[I") ∨ (e.2.2.1 = 1 ∧ r = "java/lang/String" ∧ n = "COMPACT_STRINGS" ∧ d = "Z")))
  | _ => false
theorem zFlT_ok : zFlT.all zFlb = true := by decide +kernel
theorem zFnT_ok : zFnT.all zFnb = true := by decide +kernel
theorem zFsT_ok : zFsT.all zFsb = true := by decide +kernel
theorem zMlT_ok : zMlT.all zMlb = true := by decide +kernel
theorem zStT_ok : zStT.all zStb = true := by decide +kernel
theorem zInT_ok : zInT.all zInb = true := by decide +kernel
theorem zViT_ok : zViT.all zVib = true := by decide +kernel
theorem zCpT_ok : zCpT.all (zLkb arraycopyName) = true := by decide +kernel
theorem zChT_ok : zChT.all (zLkb y_ci) = true := by decide +kernel
theorem zMxT994_ok : zMxT994.all (zLkb Lib.Math.max.name) = true := by decide +kernel
theorem zMxT995_ok : zMxT995.all (zLkb Lib.Math.min.name) = true := by decide +kernel
theorem zMxT996_ok : zMxT996.all (zLkb Lib.MathLoose.max_long.x) = true := by decide +kernel
theorem z_m1 : Cond.static Lib.Math.max.name ∈ zT := by decide +kernel
theorem z_m2 : Cond.static Lib.Math.min.name ∈ zT := by decide +kernel
theorem z_m3 : Cond.static Lib.MathLoose.max_long.x ∈ zT := by decide +kernel
theorem z_m4 : Cond.initialized "java/lang/Math" ∈ zT := by decide +kernel
theorem z_m5 : Cond.code Lib.Math.max.name Lib.Math.max.code 2 (some .int) ∈ zT := by decide +kernel
theorem z_m6 : Cond.code Lib.Math.min.name Lib.Math.min.code 2 (some .int) ∈ zT := by decide +kernel
theorem z_m7 : Cond.code Lib.MathLoose.max_long.x Lib.MathLoose.max_long.code 4 (some .long) ∈ zT := by decide +kernel
theorem zObT_ok : zObT.all (zLkb Lib.objectInit) = true := by decide +kernel
theorem zNwT_ok : zNwT.all zNwb = true := by decide +kernel
theorem zKiT_ok : zKiT.all zKib = true := by decide +kernel
theorem zKlT_ok : zKlT.all zKlb = true := by decide +kernel
theorem zGsT_ok : zGsT.all zGsb = true := by decide +kernel
theorem z_ac1 : Cond.native arraycopyName ∈ zT := by decide +kernel
theorem z_ac2 : Cond.static arraycopyName ∈ zT := by decide +kernel
theorem z_ac3 : Cond.initialized "java/lang/System" ∈ zT := by decide +kernel
theorem z_ob1 : Cond.instanceMethod Lib.objectInit ∈ zT := by decide +kernel
theorem z_ob2 : Cond.code Lib.objectInit ⟨#[0xb1]⟩ 1 none ∈ zT := by decide +kernel
theorem z_arr : ∀ t, t ≤ 4 → Cond.arrayClass (z_ty t) ∈ zT := by
  intro t ht
  rcases (show t = 0 ∨ t = 1 ∨ t = 2 ∨ t = 3 ∨ t = 4 by omega) with rfl | rfl | rfl | rfl | rfl <;> decide +kernel
/-! what the tables give -/
theorem zFl_use {own i ci k : Nat} (h : zFlT.any (fun e => e.1 == own && (e.2.1 == i && (e.2.2.1 == ci && e.2.2.2.1 == k))) = true) : ∃ C T N, vwCl[ci]? = some (C, T, N) ∧ k < N ∧ Cond.fieldLink (zCn own) i (T k).1 (T k).2.1 (T k).2.2.1 ∈ zT := by
  obtain ⟨e, he, h⟩ := List.any_eq_true.mp h
  simp only [Bool.and_eq_true, beq_iff_eq] at h
  obtain ⟨rfl, rfl, rfl, rfl⟩ := h
  have h2 := List.all_eq_true.mp zFlT_ok e he
  unfold zFlb at h2
  split at h2
  · rename_i q o i r n d h3 h4
    obtain ⟨h5, rfl, rfl, rfl, rfl, rfl⟩ := of_decide_eq_true h2
    exact ⟨q.1, q.2.1, q.2.2, h3, h5, z_T_in h4 rfl⟩
  · cases h2
theorem zFn_use {own i ci k : Nat} (h : zFnT.any (fun e => e.1 == own && (e.2.1 == i && (e.2.2.1 == ci && e.2.2.2.1 == k))) = true) : ∃ C T N host, vwCl[ci]? = some (C, T, N) ∧ k < N ∧ Cond.fieldLinkNest (zCn own) i (T k).1 (T k).2.1 (T k).2.2.1 host ∈ zN := by
  obtain ⟨e, he, h⟩ := List.any_eq_true.mp h
  simp only [Bool.and_eq_true, beq_iff_eq] at h
  obtain ⟨rfl, rfl, rfl, rfl⟩ := h
  have h2 := List.all_eq_true.mp zFnT_ok e he
  unfold zFnb at h2
  split at h2
  · rename_i q o i r n d host h3 h4
    obtain ⟨h5, rfl, rfl, rfl, rfl, rfl⟩ := of_decide_eq_true h2
    exact ⟨q.1, q.2.1, q.2.2, host, h3, h5, z_N_in h4 rfl⟩
  · cases h2
theorem zFs_use {own i k : Nat} (h : zFsT.any (fun e => e.1 == own && (e.2.1 == i && e.2.2.1 == k)) = true) : (k = 0 ∧ Cond.fieldLink (zCn own) i "java/lang/String" "value" "[B" ∈ zT) ∨ (k = 1 ∧ Cond.fieldLink (zCn own) i "java/lang/String" "coder" "B" ∈ zT) := by
  obtain ⟨e, he, h⟩ := List.any_eq_true.mp h
  simp only [Bool.and_eq_true, beq_iff_eq] at h
  obtain ⟨rfl, rfl, rfl⟩ := h
  have h2 := List.all_eq_true.mp zFsT_ok e he
  unfold zFsb at h2
  split at h2
  · rename_i o i r n d h4
    obtain ⟨rfl, rfl, rfl, ⟨h5, rfl, rfl⟩ | ⟨h5, rfl, rfl⟩⟩ := of_decide_eq_true h2
    · exact Or.inl ⟨h5, z_T_in h4 rfl⟩
    · exact Or.inr ⟨h5, z_T_in h4 rfl⟩
  · cases h2
theorem zMl_use {own i y : Nat} (h : zMlT.any (fun e => e.1 == own && (e.2.1 == i && e.2.2.1 == y)) = true) : ∃ q, zNr[y]? = some q ∧ zMl own i q.1 := by
  obtain ⟨e, he, h⟩ := List.any_eq_true.mp h
  simp only [Bool.and_eq_true, beq_iff_eq] at h
  obtain ⟨rfl, rfl, rfl⟩ := h
  have h2 := List.all_eq_true.mp zMlT_ok e he
  unfold zMlb at h2
  split at h2
  · rename_i q o i y h3 h4
    obtain ⟨rfl, rfl, rfl⟩ := of_decide_eq_true h2
    exact ⟨q, h3, Or.inl (z_T_in h4 rfl)⟩
  · rename_i q o i y host h3 h4
    obtain ⟨rfl, rfl, rfl⟩ := of_decide_eq_true h2
    exact ⟨q, h3, Or.inr ⟨host, z_N_in h4 rfl⟩⟩
  · cases h2
theorem zSt_use {y k : Nat} (h : zStT.any (fun e => e.1 == y && e.2.1 == k) = true) : ∃ q, zNr[y]? = some q ∧ Cond.static q.1 ∈ zT ∧ zPn q.1 = some k := by
  obtain ⟨e, he, h⟩ := List.any_eq_true.mp h
  simp only [Bool.and_eq_true, beq_iff_eq] at h
  obtain ⟨rfl, rfl⟩ := h
  have h2 := List.all_eq_true.mp zStT_ok e he
  unfold zStb at h2
  split at h2
  · rename_i q y h3 h4
    obtain ⟨rfl, h5⟩ := of_decide_eq_true h2
    exact ⟨q, h3, z_T_in h4 rfl, h5⟩
  · cases h2
theorem zIn_use {y k : Nat} (h : zInT.any (fun e => e.1 == y && e.2.1 == k) = true) : ∃ q, zNr[y]? = some q ∧ Cond.instanceMethod q.1 ∈ zT ∧ q.1.name = "<init>" ∧ q.2 = none ∧ zPn q.1 = some k := by
  obtain ⟨e, he, h⟩ := List.any_eq_true.mp h
  simp only [Bool.and_eq_true, beq_iff_eq] at h
  obtain ⟨rfl, rfl⟩ := h
  have h2 := List.all_eq_true.mp zInT_ok e he
  unfold zInb at h2
  split at h2
  · rename_i q y h3 h4
    obtain ⟨rfl, h5⟩ := of_decide_eq_true h2
    exact ⟨q, h3, z_T_in h4 rfl, h5⟩
  · cases h2
theorem zVi_use {y k ci : Nat} (h : zViT.any (fun e => e.1 == y && (e.2.1 == k && e.2.2.1 == ci)) = true) : ∃ q, zNr[y]? = some q ∧ Cond.instanceMethod q.1 ∈ zT ∧ Cond.selects (zCls ci) q.1 q.1 ∈ zT ∧ q.1.cls = zCls ci ∧ (ci < 12 ∨ ci = 200) ∧ zPn q.1 = some k := by
  obtain ⟨e, he, h⟩ := List.any_eq_true.mp h
  simp only [Bool.and_eq_true, beq_iff_eq] at h
  obtain ⟨rfl, rfl, rfl⟩ := h
  have h2 := List.all_eq_true.mp zViT_ok e he
  unfold zVib at h2
  split at h2
  · rename_i q y c a b h3 h4 h6
    obtain ⟨e1, e2, e3, e4, h7, h8, h9⟩ := of_decide_eq_true h2
    rw [e1] at h4
    rw [e2, e3, e4] at h6
    exact ⟨q, h3, z_T_in h4 rfl, z_T_in h6 rfl, h7, h8, h9⟩
  · cases h2
theorem zLk_use {T : List (Nat × Nat × Nat)} {y : MethodName} (hT : T.all (zLkb y) = true) {own i : Nat} (h : T.any (fun e => e.1 == own && e.2.1 == i) = true) : Cond.methodLink (zCn own) i y ∈ zT := by
  obtain ⟨e, he, h⟩ := List.any_eq_true.mp h
  simp only [Bool.and_eq_true, beq_iff_eq] at h
  obtain ⟨rfl, rfl⟩ := h
  have h2 := List.all_eq_true.mp hT e he
  unfold zLkb at h2
  split at h2
  · rename_i o i z h4
    obtain ⟨rfl, rfl, rfl⟩ := of_decide_eq_true h2
    exact z_T_in h4 rfl
  · cases h2
theorem zNw_use {own i ci : Nat} (h : zNwT.any (fun e => e.1 == own && (e.2.1 == i && e.2.2.1 == ci)) = true) : ∃ C T N, vwCl[ci]? = some (C, T, N) ∧ Cond.classLink (zCn own) i C ∈ zT ∧ Cond.instantiable C N ∈ zT ∧ Cond.initialized C ∈ zT := by
  obtain ⟨e, he, h⟩ := List.any_eq_true.mp h
  simp only [Bool.and_eq_true, beq_iff_eq] at h
  obtain ⟨rfl, rfl, rfl⟩ := h
  have h2 := List.all_eq_true.mp zNwT_ok e he
  unfold zNwb at h2
  split at h2
  · rename_i q o i r a n b h3 h4 h5 h6
    obtain ⟨e1, e2, e3, e4, e5, e6⟩ := of_decide_eq_true h2
    rw [e1, e2, e3] at h4
    rw [e4, e5] at h5
    rw [e6] at h6
    exact ⟨q.1, q.2.1, q.2.2, h3, z_T_in h4 rfl, z_T_in h5 rfl, z_T_in h6 rfl⟩
  · cases h2
theorem zKi_use {own i : Nat} {v : Int32} (h : zKiT.any (fun e => e.1 == own && (e.2.1 == i && decide (e.2.2.1 = v))) = true) : Cond.constant (zCn own) i v ∈ zT := by
  obtain ⟨e, he, h⟩ := List.any_eq_true.mp h
  simp only [Bool.and_eq_true, beq_iff_eq, decide_eq_true_eq] at h
  obtain ⟨rfl, rfl, rfl⟩ := h
  have h2 := List.all_eq_true.mp zKiT_ok e he
  unfold zKib at h2
  split at h2
  · rename_i o i v h4
    obtain ⟨rfl, rfl, rfl⟩ := of_decide_eq_true h2
    exact z_T_in h4 rfl
  · cases h2
theorem zKl_use {own i : Nat} {v : Int64} (h : zKlT.any (fun e => e.1 == own && (e.2.1 == i && decide (e.2.2.1 = v))) = true) : Cond.constantLong (zCn own) i v ∈ zT := by
  obtain ⟨e, he, h⟩ := List.any_eq_true.mp h
  simp only [Bool.and_eq_true, beq_iff_eq, decide_eq_true_eq] at h
  obtain ⟨rfl, rfl, rfl⟩ := h
  have h2 := List.all_eq_true.mp zKlT_ok e he
  unfold zKlb at h2
  split at h2
  · rename_i o i v h4
    obtain ⟨rfl, rfl, rfl⟩ := of_decide_eq_true h2
    exact z_T_in h4 rfl
  · cases h2
theorem zGs_use {own i v : Nat} (h : zGsT.any (fun e => e.1 == own && (e.2.1 == i && e.2.2.1 == v)) = true) : ∃ C n d, ((v = 1000 ∧ C = "InnRegister" ∧ n = "POWER" ∧ d = "[I") ∨ (v = 1 ∧ C = "java/lang/String" ∧ n = "COMPACT_STRINGS" ∧ d = "Z")) ∧ (Cond.fieldLink (zCn own) i C n d ∈ zT ∨ ∃ host, Cond.fieldLinkNest (zCn own) i C n d host ∈ zN) := by
  obtain ⟨e, he, h⟩ := List.any_eq_true.mp h
  simp only [Bool.and_eq_true, beq_iff_eq] at h
  obtain ⟨rfl, rfl, rfl⟩ := h
  have h2 := List.all_eq_true.mp zGsT_ok e he
  unfold zGsb at h2
  split at h2
  · rename_i o i r n d h4
    obtain ⟨rfl, rfl, h5⟩ := of_decide_eq_true h2
    exact ⟨r, n, d, h5, Or.inl (z_T_in h4 rfl)⟩
  · rename_i o i r n d host h4
    obtain ⟨rfl, rfl, h5⟩ := of_decide_eq_true h2
    exact ⟨r, n, d, h5, Or.inr ⟨host, z_N_in h4 rfl⟩⟩
  · cases h2
