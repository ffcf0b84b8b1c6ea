/-! links, by tables; every row of them is held against the Statement's words -/
abbrev z0 : zX := (0, 0, 0, .null, [])
abbrev zv (v : Value) : zX := (0, 0, 0, v, [])
abbrev zt (t : Nat) : zX := (t, 0, 0, .null, [])
abbrev zf (kd ci k : Nat) : zX := (kd, ci, k, .null, [])
abbrev zb (b : Nat) : zX := (0, b, 0, .null, [])
abbrev zc (y k ci : Nat) : zX := (y, k, ci, .null, [])
def zNr : List (MethodName × Option FieldType) := [(⟨RX0, "<init>", "()V"⟩, none), (⟨RX0, "shortestRing", "(LInnRegister$Told;LInnRegister$Row;)I"⟩, some .int), (⟨RX0, "tell", "([IILInnRegister$Row;)V"⟩, none), (⟨RX0, "turnIsLess", "(I)Z"⟩, some .boolean), (⟨RX0, "isRing", "(LInnRegister$Told;II)Z"⟩, some .boolean), (⟨RX0, "walkRound", "(LInnRegister$Told;II)Z"⟩, some .boolean), (⟨RX0, "farThrees", "(LInnRegister$Told;LInnRegister$Row;)I"⟩, some .int), (⟨RX0, "areFar", "(LInnRegister$Told;III)Z"⟩, some .boolean), (⟨RX0, "isWay", "(LInnRegister$Told;III)Z"⟩, some .boolean), (⟨RX0, "metByAny", "(LInnRegister$Told;I)I"⟩, some .int), (⟨RX0, "fewestRooms", "(LInnRegister$Told;LInnRegister$Row;)I"⟩, some .int), (⟨RX0, "canLodge", "(LInnRegister$Told;III)Z"⟩, some .boolean), (⟨RX0, "isFree", "(LInnRegister$Told;II)Z"⟩, some .boolean), (⟨RX0, "greatestCircle", "(LInnRegister$Told;LInnRegister$Row;)I"⟩, some .int), (⟨RX0, "isCircle", "(LInnRegister$Told;I)Z"⟩, some .boolean), (⟨RX0, "shortestWay", "(LInnRegister$Told;IILInnRegister$Row;)I"⟩, some .int), (⟨RX0, "reachBack", "(LInnRegister$Told;II)I"⟩, some .int), (⟨RX1, "<init>", "()V"⟩, none), (⟨RX1, "makeRoom", "(LInnRegister$Orders;)V"⟩, none), (⟨RX1, "leastWorth", "(LInnRegister$Orders;LInnRegister$Told;LInnRegister$Rule;)I"⟩, some .int), (⟨RX1, "fewestLies", "(LInnRegister$Orders;LInnRegister$Told;)I"⟩, some .int), (⟨RX1, "findWorths", "(LInnRegister$Told;LInnRegister$Rule;)V"⟩, none), (⟨RX1, "worthOf", "(LInnRegister$Rule;III)I"⟩, some .int), (⟨RX1, "worthAt", "(IIII)I"⟩, some .int), (⟨RX1, "eventsAt", "(LInnRegister$Orders;I)I"⟩, some .int), (⟨RX1, "price", "(LInnRegister$Orders;II)I"⟩, some .int), (⟨RX1, "findLeast", "(LInnRegister$Orders;)V"⟩, none), (⟨RX1, "tellOrder", "(LInnRegister$Orders;LInnRegister$Row;)V"⟩, none), (⟨RX1, "cheapestGuest", "(LInnRegister$Orders;I)I"⟩, some .int), (⟨RX1, "greatestWorth", "(LInnRegister$Orders;LInnRegister$Told;LInnRegister$Rule;)I"⟩, some .int), (⟨RX1, "findGreatest", "(LInnRegister$Orders;I)V"⟩, none), (⟨RX1, "longestStay", "(LInnRegister$Orders;I)I"⟩, some .int), (⟨RX1, "shortestStay", "(LInnRegister$Orders;I)I"⟩, some .int), (⟨RX1, "leastStay", "(LInnRegister$Orders;II)I"⟩, some .int), (⟨RX1, "leastRest", "(LInnRegister$Orders;III)I"⟩, some .int), (⟨RX2, "<init>", "()V"⟩, none), (⟨RX2, "among", "(LInnRegister$Told;I)Z"⟩, some .boolean), (⟨RX2, "without", "(LInnRegister$Told;I)Z"⟩, some .boolean), (⟨RX2, "allCanCome", "(I)Z"⟩, some .boolean), (⟨RX2, "stillIn", "(I)I"⟩, some .int), (⟨RX2, "comeNext", "(III)V"⟩, none), (⟨RX3, "<init>", "()V"⟩, none), (⟨RX3, "winningAsk", "(II)I"⟩, some .int), (⟨RX3, "bargainsAtRest", "(ILInnRegister$Row;)I"⟩, some .int), (⟨RX3, "isBestAgainst", "(III)Z"⟩, some .boolean), (⟨RX3, "gain", "(III)I"⟩, some .int), (⟨RX3, "power", "(II)J"⟩, some .long), (⟨RX3, "chance", "(JII)J"⟩, some .long), (⟨RX3, "sow", "(I)V"⟩, none), (⟨RX3, "draw", "(I)I"⟩, some .int), (⟨RX4, "<init>", "()V"⟩, none), (⟨RX4, "total", "(LInnRegister$Told;)J"⟩, some .long), (⟨RX4, "makeRoom", "()V"⟩, none), (⟨RX4, "readTold", "(LInnRegister$Told;)V"⟩, none), (⟨RX4, "lookBehind", "()V"⟩, none), (⟨RX4, "tally", "()V"⟩, none), (⟨RX4, "tallyState", "(I)V"⟩, none), (⟨RX4, "eventOf", "(II)I"⟩, some .int), (⟨RX4, "leastRow", "(LInnRegister$Row;)I"⟩, some .int), (⟨RX4, "waysAhead", "(II)J"⟩, some .long), (⟨RX4, "waysMeeting", "(II)J"⟩, some .long), (⟨RX4, "waysBehind", "(II)J"⟩, some .long), (⟨RX4, "waysWithin", "(II)J"⟩, some .long), (⟨RX4, "sumOfNext", "(I)J"⟩, some .long), (⟨RX4, "fullestSet", "()I"⟩, some .int), (⟨RX4, "openOutcomes", "(LInnRegister$Told;)J"⟩, some .long), (⟨RX4, "numberOpenPairs", "(LInnRegister$Told;)V"⟩, none), (⟨RX4, "outcomesThen", "(II)J"⟩, some .long), (⟨RX5, "<init>", "()V"⟩, none), (⟨RX5, "stage", "(LInnRegister$Told;)V"⟩, none), (⟨RX5, "push", "()V"⟩, none), (⟨RX5, "pop", "(LInnRegister$Told;)I"⟩, some .int), (⟨RX5, "pairsChanged", "(LInnRegister$Told;)I"⟩, some .int), (⟨RX5, "forgetSteps", "()V"⟩, none), (⟨RX5, "forgetKept", "()V"⟩, none), (⟨RX5, "hold", "(LInnRegister$Told;I)Z"⟩, some .boolean), (⟨RX5, "bringBack", "(LInnRegister$Told;I)Z"⟩, some .boolean), (⟨RX6, "<init>", "()V"⟩, none), (⟨RX6, "clear", "()V"⟩, none), (⟨RX6, "add", "(J)V"⟩, none), (⟨RX6, "addFraction", "(JJ)V"⟩, none), (⟨RX6, "commonDivisor", "(JJ)J"⟩, some .long), (⟨RX7, "<init>", "()V"⟩, none), (⟨RX7, "read", "(LInnRegister$Text;)I"⟩, some .int), (⟨RX7, "emit", "(I)V"⟩, none), (⟨RX7, "here", "()I"⟩, some .int), (⟨RX7, "readLevel", "(II)Z"⟩, some .boolean), (⟨RX7, "levelOf", "(I)I"⟩, some .int), (⟨RX7, "readSigned", "(I)Z"⟩, some .boolean), (⟨RX7, "readThing", "(I)Z"⟩, some .boolean), (⟨RX7, "readNumber", "()V"⟩, none), (⟨RX7, "worth", "([I)I"⟩, some .int), (⟨RX7, "done", "(III)I"⟩, some .int), (⟨RX8, "<init>", "()V"⟩, none), (⟨RX8, "add", "(I)I"⟩, some .int), (⟨RX8, "cut", "(I)Z"⟩, some .boolean), (⟨RX8, "clear", "()V"⟩, none), (⟨RX8, "at", "(I)I"⟩, some .int), (⟨RX8, "digit", "(I)I"⟩, some .int), (⟨RX8, "toldBy", "(I)I"⟩, some .int), (⟨RX8, "faultInGuests", "(I)I"⟩, some .int), (⟨RX8, "faultInMeetings", "(I)I"⟩, some .int), (⟨RX8, "goodInMeetings", "(II)Z"⟩, some .boolean), (⟨RX8, "faultInStory", "()I"⟩, some .int), (⟨RX8, "goodInStory", "(II)Z"⟩, some .boolean), (⟨RX8, "actLength", "(I)I"⟩, some .int), (⟨RX9, "<init>", "()V"⟩, none), (⟨RX9, "has", "(I)Z"⟩, some .boolean), (⟨RX9, "areTwo", "(II)Z"⟩, some .boolean), (⟨RX9, "all", "()I"⟩, some .int), (⟨RX9, "add", "(I)V"⟩, none), (⟨RX9, "openOf", "(I)I"⟩, some .int), (⟨RX9, "about", "(II)I"⟩, some .int), (⟨RX9, "put", "(III)V"⟩, none), (⟨RX9, "putHalf", "(III)V"⟩, none), (⟨RX9, "tell", "(III)I"⟩, some .int), (⟨RX9, "hide", "(I)I"⟩, some .int), (⟨RX9, "copy", "(II)I"⟩, some .int), (⟨RX9, "move", "(II)I"⟩, some .int), (⟨RX9, "makeFirm", "(I)I"⟩, some .int), (⟨RX9, "readSheet", "(IIII)V"⟩, none), (⟨RX9, "roomsTogether", "()I"⟩, some .int), (⟨RX9, "pairsTold", "(I)I"⟩, some .int), (⟨RX9, "mates", "(I)I"⟩, some .int), (⟨RX9, "likeThat", "(LInnRegister$Told;)V"⟩, none), (⟨RX9, "packed", "([I)J"⟩, some .long), (⟨RX9, "unpack", "(J[I)V"⟩, none), (⟨RX9, "save", "([JI)V"⟩, none), (⟨RX9, "load", "([JI)V"⟩, none), (⟨RX10, "<init>", "()V"⟩, none), (⟨RX10, "sign", "(I)I"⟩, some .int), (⟨RX10, "end", "(I)Z"⟩, some .boolean), (⟨RX10, "guests", "()I"⟩, some .int), (⟨RX10, "meetings", "()I"⟩, some .int), (⟨RX10, "rule", "()I"⟩, some .int), (⟨RX10, "guest", "(II)I"⟩, some .int), (⟨RX10, "pair", "(II)I"⟩, some .int), (⟨RX10, "sheet", "(IIII)I"⟩, some .int), (⟨RX10, "tells", "(III)I"⟩, some .int), (⟨RX10, "hides", "(I)I"⟩, some .int), (⟨RX10, "copies", "(II)I"⟩, some .int), (⟨RX10, "moves", "(II)I"⟩, some .int), (⟨RX10, "strict", "(I)I"⟩, some .int), (⟨RX10, "story", "()I"⟩, some .int), (⟨RX10, "undo", "()I"⟩, some .int), (⟨RX10, "orders", "()J"⟩, some .long), (⟨RX10, "first", "()I"⟩, some .int), (⟨RX10, "before", "(II)I"⟩, some .int), (⟨RX10, "met", "(II)I"⟩, some .int), (⟨RX10, "sure", "()I"⟩, some .int), (⟨RX10, "known", "()I"⟩, some .int), (⟨RX10, "place", "(II)I"⟩, some .int), (⟨RX10, "beds", "()I"⟩, some .int), (⟨RX10, "most", "()I"⟩, some .int), (⟨RX10, "evening", "(I)I"⟩, some .int), (⟨RX10, "longest", "(I)I"⟩, some .int), (⟨RX10, "cheapest", "()I"⟩, some .int), (⟨RX10, "dearest", "()I"⟩, some .int), (⟨RX10, "lies", "()I"⟩, some .int), (⟨RX10, "alone", "()I"⟩, some .int), (⟨RX10, "clash", "()I"⟩, some .int), (⟨RX10, "ring", "()I"⟩, some .int), (⟨RX10, "threes", "()I"⟩, some .int), (⟨RX10, "rooms", "()I"⟩, some .int), (⟨RX10, "circle", "()I"⟩, some .int), (⟨RX10, "hears", "(II)I"⟩, some .int), (⟨RX10, "asks", "()J"⟩, some .long), (⟨RX10, "likely", "(I)I"⟩, some .int), (⟨RX10, "game", "(II)I"⟩, some .int), (⟨RX10, "law", "()I"⟩, some .int), (⟨RX10, "rests", "(I)I"⟩, some .int), (⟨RX10, "years", "(II)I"⟩, some .int), (⟨RX10, "keep", "(I)Z"⟩, some .boolean), (⟨RX10, "again", "(I)Z"⟩, some .boolean), (⟨RX10, "count", "(I)I"⟩, some .int), (⟨RX10, "row", "(I)J"⟩, some .long), (⟨RX10, "settled", "(I)I"⟩, some .int), (⟨RX10, "leastOf", "(I)I"⟩, some .int), (⟨RX10, "share", "(J)I"⟩, some .int), (⟨RX10, "act", "(I)I"⟩, some .int), (⟨RX11, "thrown", "()I"⟩, some .int), (⟨RX11, "refuse", "()I"⟩, some .int), (⟨RX11, "in", "(JJJ)Z"⟩, some .boolean), (⟨RX11, "has", "(II)Z"⟩, some .boolean), (⟨RX11, "flag", "(Z)I"⟩, some .int), (⟨RX11, "common", "(JJ)J"⟩, some .long), (⟨RX11, "enters", "(J)V"⟩, none), (⟨RX11, "entersFraction", "(JJ)V"⟩, none), (⟨RX11, "at", "(II)I"⟩, some .int), (⟨RX11, "isGuest", "(I)Z"⟩, some .boolean), (⟨RX11, "areTwo", "(II)Z"⟩, some .boolean), (⟨RX11, "lays", "([IIII)V"⟩, none), (⟨RX11, "those", "(II)I"⟩, some .int), (⟨RX11, "pairsThat", "(I)I"⟩, some .int), (⟨RX11, "all", "()I"⟩, some .int), (⟨RX11, "sign", "(I)I"⟩, some .int), (⟨RX11, "end", "(I)Z"⟩, some .boolean), (⟨RX11, "begins", "(I)I"⟩, some .int), (⟨RX11, "takes", "(I)Z"⟩, some .boolean), (⟨RX11, "isDigit", "()Z"⟩, some .boolean), (⟨RX11, "takesOf", "(Ljava/lang/String;)I"⟩, some .int), (⟨RX11, "number", "(I)I"⟩, some .int), (⟨RX11, "digitIn", "(III)I"⟩, some .int), (⟨RX11, "faultOf", "(IIZ)I"⟩, some .int), (⟨RX11, "guests", "()I"⟩, some .int), (⟨RX11, "meetings", "()I"⟩, some .int), (⟨RX11, "codes", "(I)V"⟩, none), (⟨RX11, "readsThing", "()Z"⟩, some .boolean), (⟨RX11, "readsRank", "(I)Z"⟩, some .boolean), (⟨RX11, "readsRule", "()I"⟩, some .int), (⟨RX11, "laysCode", "([II)V"⟩, none), (⟨RX11, "rule", "()I"⟩, some .int), (⟨RX11, "worked", "(III)I"⟩, some .int), (⟨RX11, "ruled", "()I"⟩, some .int), (⟨RX11, "guest", "(II)I"⟩, some .int), (⟨RX11, "pair", "(II)I"⟩, some .int), (⟨RX11, "sumOfRooms", "()I"⟩, some .int), (⟨RX11, "sheet", "(IIII)I"⟩, some .int), (⟨RX11, "putsBy", "()V"⟩, none), (⟨RX11, "adds", "(I)I"⟩, some .int), (⟨RX11, "counted", "(I)I"⟩, some .int), (⟨RX11, "undo", "()I"⟩, some .int), (⟨RX11, "tellsOf", "(III)I"⟩, some .int), (⟨RX11, "hidesOne", "(I)I"⟩, some .int), (⟨RX11, "copiesTo", "(II)I"⟩, some .int), (⟨RX11, "movesTo", "(II)I"⟩, some .int), (⟨RX11, "makesStrict", "(I)I"⟩, some .int), (⟨RX11, "tells", "(III)I"⟩, some .int), (⟨RX11, "hides", "(I)I"⟩, some .int), (⟨RX11, "copies", "(II)I"⟩, some .int), (⟨RX11, "moves", "(II)I"⟩, some .int), (⟨RX11, "strict", "(I)I"⟩, some .int), (⟨RX11, "readsAct", "()Z"⟩, some .boolean), (⟨RX11, "does", "(I)Z"⟩, some .boolean), (⟨RX11, "story", "()I"⟩, some .int), (⟨RX11, "<init>", "()V"⟩, none), (⟨RX11, "last", "()I"⟩, some .int), (⟨RX11, "eventsTo", "(I)I"⟩, some .int), (⟨RX11, "laysRules", "()V"⟩, none), (⟨RX11, "mayCome", "(II)Z"⟩, some .boolean), (⟨RX11, "leads", "(II)I"⟩, some .int), (⟨RX11, "laysWays", "(II)J"⟩, some .long), (⟨RX11, "laysAll", "()J"⟩, some .long), (⟨RX11, "laysAhead", "()V"⟩, none), (⟨RX11, "orders", "()J"⟩, some .long), (⟨RX11, "first", "()I"⟩, some .int), (⟨RX11, "comesWhen", "(III)J"⟩, some .long), (⟨RX11, "metWays", "(II)J"⟩, some .long), (⟨RX11, "before", "(II)I"⟩, some .int), (⟨RX11, "met", "(II)I"⟩, some .int), (⟨RX11, "sure", "()I"⟩, some .int), (⟨RX11, "known", "()I"⟩, some .int), (⟨RX11, "place", "(II)I"⟩, some .int), (⟨RX11, "beds", "()I"⟩, some .int), (⟨RX11, "most", "()I"⟩, some .int), (⟨RX11, "evening", "(I)I"⟩, some .int), (⟨RX11, "longest", "(I)I"⟩, some .int), (⟨RX11, "worth", "(II)I"⟩, some .int), (⟨RX11, "laysLeast", "()I"⟩, some .int), (⟨RX11, "cheapest", "()I"⟩, some .int), (⟨RX11, "dearest", "()I"⟩, some .int), (⟨RX11, "wrongly", "(II)I"⟩, some .int), (⟨RX11, "lies", "()I"⟩, some .int), (⟨RX11, "alone", "()I"⟩, some .int), (⟨RX11, "isFewer", "(II)Z"⟩, some .boolean), (⟨RX11, "canBe", "(I)Z"⟩, some .boolean), (⟨RX11, "clash", "()I"⟩, some .int), (⟨RX11, "isMet", "(II)Z"⟩, some .boolean), (⟨RX11, "isNot", "(II)Z"⟩, some .boolean), (⟨RX11, "fitsRing", "(III)Z"⟩, some .boolean), (⟨RX11, "ringsFrom", "(II)Z"⟩, some .boolean), (⟨RX11, "ring", "()I"⟩, some .int), (⟨RX11, "hanging", "(II)I"⟩, some .int), (⟨RX11, "hangTogether", "(III)Z"⟩, some .boolean), (⟨RX11, "threes", "()I"⟩, some .int), (⟨RX11, "roomsFrom", "(II)Z"⟩, some .boolean), (⟨RX11, "rooms", "()I"⟩, some .int), (⟨RX11, "circle", "()I"⟩, some .int), (⟨RX11, "hears", "(II)I"⟩, some .int), (⟨RX11, "asks", "()J"⟩, some .long), (⟨RX11, "likely", "(I)I"⟩, some .int), (⟨RX11, "game", "(II)I"⟩, some .int), (⟨RX11, "law", "()I"⟩, some .int), (⟨RX11, "gets", "(III)I"⟩, some .int), (⟨RX11, "isRest", "(III)Z"⟩, some .boolean), (⟨RX11, "rests", "(I)I"⟩, some .int), (⟨RX11, "draws", "(I)I"⟩, some .int), (⟨RX11, "years", "(II)I"⟩, some .int), (⟨RX11, "keep", "(I)Z"⟩, some .boolean), (⟨RX11, "again", "(I)Z"⟩, some .boolean), (⟨RX11, "count", "(I)I"⟩, some .int), (⟨RX11, "row", "(I)J"⟩, some .long), (⟨"java/lang/Integer", "bitCount", "(I)I"⟩, some .int), (⟨"java/lang/Long", "bitCount", "(J)I"⟩, some .int), (⟨"java/lang/String", "length", "()I"⟩, some .int), (⟨"java/lang/String", "charAt", "(I)C"⟩, some .char), (⟨"java/lang/String", "indexOf", "(I)I"⟩, some .int), (⟨"java/lang/String", "indexOf", "(II)I"⟩, some .int), (⟨"java/lang/String", "coder", "()B"⟩, some .byte), (⟨"java/lang/String", "isLatin1", "()Z"⟩, some .boolean), (⟨"java/lang/StringLatin1", "charAt", "([BI)C"⟩, some .char), (⟨"java/lang/StringLatin1", "canEncode", "(I)Z"⟩, some .boolean), (⟨"java/lang/StringLatin1", "indexOf", "([BIII)I"⟩, some .int), (⟨"java/lang/StringLatin1", "indexOfChar", "([BIII)I"⟩, some .int), (⟨"java/util/Arrays", "fill", "([JJ)V"⟩, none), (⟨"java/util/Arrays", "fill", "([BB)V"⟩, none)]
def zFlT : List (Nat × Nat × Nat × Nat × Nat) := [(0, 9, 0, 0, 342), (0, 15, 0, 1, 343), (1, 9, 1, 0, 314), (1, 15, 1, 1, 315), (1, 18, 1, 2, 316), (1, 21, 1, 3, 317), (1, 24, 1, 4, 318), (1, 27, 1, 5, 319), (1, 36, 1, 6, 320), (2, 9, 2, 0, 237), (2, 15, 2, 1, 238), (2, 18, 2, 2, 239), (3, 7, 3, 0, 355), (3, 45, 3, 1, 356), (4, 9, 4, 0, 254), (4, 15, 4, 1, 256), (4, 18, 4, 2, 258), (4, 21, 4, 3, 260), (4, 25, 4, 4, 262), (4, 28, 4, 5, 263), (4, 31, 4, 6, 266), (4, 34, 4, 7, 267), (4, 37, 4, 8, 268), (4, 40, 4, 9, 269), (4, 43, 4, 10, 270), (4, 46, 4, 11, 271), (4, 58, 4, 13, 273), (4, 62, 4, 14, 276), (4, 65, 4, 12, 272), (5, 11, 5, 0, 198), (5, 15, 5, 1, 199), (5, 18, 5, 2, 200), (5, 27, 5, 4, 202), (5, 57, 5, 3, 201), (6, 9, 6, 0, 222), (6, 15, 6, 1, 224), (7, 11, 7, 0, 368), (7, 15, 7, 1, 369), (7, 18, 7, 2, 370), (7, 21, 7, 3, 371), (7, 36, 7, 4, 372), (7, 46, 7, 5, 373), (8, 9, 8, 0, 136), (8, 15, 8, 1, 137), (9, 9, 9, 0, 152), (9, 15, 9, 1, 155), (9, 18, 9, 2, 162), (9, 21, 9, 3, 170), (9, 29, 9, 5, 177), (9, 57, 9, 4, 174), (10, 10, 10, 0, 387), (10, 19, 10, 1, 388), (10, 23, 10, 2, 389), (10, 29, 10, 3, 390), (10, 36, 10, 4, 391), (10, 43, 10, 5, 392), (10, 50, 10, 6, 393), (10, 57, 10, 7, 394), (10, 64, 10, 8, 395), (10, 71, 10, 9, 396), (10, 78, 10, 10, 397), (10, 82, 10, 11, 398), (11, 3, 11, 0, 1548), (11, 11, 11, 2, 1550), (11, 15, 11, 1, 1549), (11, 22, 11, 3, 1551), (11, 37, 11, 5, 1553), (11, 50, 11, 7, 1555), (11, 53, 11, 6, 1554), (11, 56, 11, 8, 1556), (11, 58, 11, 10, 1558), (11, 66, 11, 9, 1557), (11, 94, 11, 12, 1560), (11, 97, 11, 11, 1559), (11, 114, 11, 19, 1567), (11, 117, 11, 4, 1552), (11, 134, 11, 20, 1568), (11, 140, 11, 14, 1562), (11, 143, 11, 16, 1564), (11, 164, 11, 15, 1563), (11, 167, 11, 13, 1561), (11, 177, 11, 17, 1565), (11, 183, 11, 18, 1566), (11, 223, 11, 25, 1573), (11, 226, 11, 21, 1569), (11, 231, 11, 22, 1570), (11, 234, 11, 23, 1571), (11, 237, 11, 24, 1572), (11, 254, 11, 26, 1574), (11, 257, 11, 27, 1575), (11, 260, 11, 28, 1576), (11, 263, 11, 29, 1577), (11, 266, 11, 30, 1578), (11, 269, 11, 31, 1579), (11, 272, 11, 32, 1580), (11, 275, 11, 33, 1581), (11, 278, 11, 34, 1582), (11, 281, 11, 35, 1583), (11, 284, 11, 36, 1584), (11, 287, 11, 37, 1585), (11, 290, 11, 38, 1586), (11, 293, 11, 39, 1587), (11, 296, 11, 40, 1588), (11, 299, 11, 41, 1589), (11, 302, 11, 42, 1590), (11, 305, 11, 43, 1591), (11, 308, 11, 45, 1593), (11, 311, 11, 46, 1594), (11, 315, 11, 47, 1595), (11, 318, 11, 48, 1596), (11, 423, 11, 44, 1592)]
def zFnT : List (Nat × Nat × Nat × Nat × Nat) := [(0, 18, 9, 3, 169), (0, 61, 9, 1, 160), (1, 30, 4, 14, 275), (1, 51, 9, 3, 173), (1, 59, 9, 2, 165), (1, 62, 9, 1, 158), (1, 65, 9, 0, 153), (1, 86, 4, 2, 259), (1, 89, 4, 0, 255), (1, 92, 4, 13, 274), (1, 93, 4, 1, 257), (1, 120, 4, 5, 264), (1, 134, 4, 3, 261), (2, 22, 9, 3, 168), (2, 28, 9, 1, 156), (2, 31, 9, 2, 163), (4, 50, 9, 5, 176), (4, 55, 9, 3, 171), (4, 83, 9, 2, 164), (4, 90, 9, 1, 157), (5, 40, 9, 1, 159), (5, 48, 9, 2, 166), (7, 25, 8, 1, 138), (10, 93, 9, 3, 172), (10, 100, 8, 1, 139), (10, 149, 9, 0, 154), (10, 153, 9, 1, 161), (10, 156, 9, 2, 167), (10, 269, 4, 5, 265), (10, 346, 9, 4, 175), (10, 350, 5, 4, 203), (10, 353, 6, 1, 225), (10, 354, 6, 0, 223)]
def zFsT : List (Nat × Nat × Nat × Nat) := [(16, 9, 0, 1964), (16, 15, 1, 1965)]
def zMlT : List (Nat × Nat × Nat × Nat) := [(0, 24, 109, 1051), (0, 28, 292, 1052), (0, 34, 4, 1053), (0, 38, 3, 1063), (0, 48, 2, 1068), (0, 52, 78, 1071), (0, 57, 79, 1072), (0, 64, 111, 1057), (0, 67, 5, 1058), (0, 70, 177, 1062), (0, 73, 7, 1081), (0, 77, 112, 1084), (0, 81, 8, 1085), (0, 84, 9, 1088), (0, 88, 11, 1099), (0, 91, 12, 1103), (0, 99, 14, 1116), (0, 103, 16, 1127), (1, 40, 18, 926), (1, 44, 21, 947), (1, 48, 26, 967), (1, 56, 123, 1009), (1, 68, 292, 951), (1, 73, 23, 952), (1, 77, 22, 955), (1, 81, 91, 959), (1, 96, 24, 971), (1, 100, 25, 975), (1, 107, 28, 983), (1, 110, 57, 987), (1, 114, 79, 988), (1, 124, 30, 997), (1, 128, 33, 921), (1, 131, 55, 930), (1, 137, 34, 931), (2, 34, 123, 1019), (2, 38, 38, 1020), (2, 42, 109, 1018), (2, 46, 305, 1024), (2, 52, 39, 1027), (2, 55, 40, 1031), (3, 13, 177, 1172), (3, 19, 78, 1185), (3, 24, 44, 1186), (3, 28, 79, 1192), (3, 32, 45, 1189), (3, 36, 292, 1159), (3, 41, 46, 1160), (4, 69, 52, 795), (4, 72, 53, 799), (4, 76, 54, 808), (4, 79, 109, 803), (4, 86, 123, 804), (4, 93, 304, 842), (4, 99, 56, 845), (4, 103, 177, 820), (4, 106, 57, 824), (4, 110, 79, 828), (4, 116, 55, 838), (4, 119, 292, 887), (4, 124, 63, 896), (4, 128, 66, 1147), (4, 131, 67, 1152), (4, 135, 112, 1151), (5, 21, 127, 496), (5, 37, 128, 778), (5, 44, 125, 532), (5, 51, 293, 533), (5, 60, 73, 1226), (6, 19, 81, 857), (6, 23, 79, 860), (7, 39, 97, 555), (7, 43, 96, 556), (7, 48, 84, 557), (7, 52, 86, 561), (7, 56, 88, 565), (7, 60, 85, 569), (7, 64, 87, 666), (7, 67, 89, 573), (7, 70, 90, 577), (7, 75, 296, 582), (7, 80, 92, 963), (8, 19, 97, 451), (8, 29, 98, 455), (8, 32, 102, 484), (8, 36, 99, 488), (8, 39, 104, 737), (8, 42, 105, 741), (9, 25, 107, 512), (9, 32, 109, 766), (9, 36, 114, 524), (9, 40, 108, 508), (9, 44, 112, 516), (9, 48, 113, 520), (9, 51, 292, 699), (9, 69, 111, 762), (9, 72, 125, 500), (9, 76, 126, 782), (10, 9, 93, 132), (10, 18, 106, 148), (10, 28, 68, 194), (10, 35, 77, 218), (10, 42, 35, 233), (10, 49, 50, 250), (10, 56, 17, 310), (10, 63, 0, 338), (10, 70, 41, 351), (10, 77, 82, 364), (10, 85, 94, 428), (10, 89, 95, 436), (10, 97, 100, 444), (10, 103, 98, 459), (10, 106, 110, 460), (10, 109, 73, 464), (10, 112, 74, 468), (10, 115, 96, 472), (10, 118, 101, 480), (10, 121, 69, 492), (10, 125, 99, 503), (10, 128, 115, 504), (10, 132, 72, 528), (10, 136, 70, 539), (10, 139, 83, 550), (10, 143, 107, 882), (10, 159, 111, 1300), (10, 162, 108, 833), (10, 166, 112, 877), (10, 170, 120, 673), (10, 174, 121, 679), (10, 178, 176, 687), (10, 181, 116, 695), (10, 184, 117, 709), (10, 187, 118, 717), (10, 190, 119, 725), (10, 193, 103, 733), (10, 196, 179, 744), (10, 199, 97, 748), (10, 202, 105, 749), (10, 205, 78, 750), (10, 206, 79, 754), (10, 209, 122, 758), (10, 212, 71, 774), (10, 215, 51, 789), (10, 219, 58, 816), (10, 223, 59, 834), (10, 227, 178, 849), (10, 231, 60, 865), (10, 234, 61, 883), (10, 237, 62, 892), (10, 240, 64, 904), (10, 243, 292, 823), (10, 248, 109, 912), (10, 251, 32, 917), (10, 255, 31, 935), (10, 258, 19, 943), (10, 262, 27, 979), (10, 266, 29, 993), (10, 273, 20, 1005), (10, 277, 37, 1014), (10, 281, 36, 1039), (10, 284, 1, 1047), (10, 288, 6, 1077), (10, 291, 10, 1095), (10, 294, 13, 1112), (10, 297, 15, 1123), (10, 309, 65, 1143), (10, 312, 47, 1156), (10, 316, 46, 1163), (10, 319, 80, 853), (10, 323, 42, 1168), (10, 327, 43, 1182), (10, 331, 124, 1197), (10, 334, 48, 1201), (10, 337, 49, 1205), (10, 340, 75, 1214), (10, 343, 76, 1222), (11, 7, 185, 1748), (11, 18, 186, 1535), (11, 25, 182, 1327), (11, 29, 189, 1441), (11, 33, 188, 1364), (11, 41, 192, 1450), (11, 44, 292, 1496), (11, 69, 184, 1350), (11, 77, 294, 1380), (11, 83, 295, 1381), (11, 87, 199, 1344), (11, 91, 197, 1334), (11, 100, 201, 1340), (11, 103, 198, 1353), (11, 106, 203, 1357), (11, 110, 191, 1361), (11, 120, 202, 1371), (11, 126, 200, 1376), (11, 130, 218, 1401), (11, 137, 219, 1405), (11, 146, 207, 1421), (11, 149, 206, 1425), (11, 155, 208, 1417), (11, 170, 209, 1413), (11, 173, 210, 1433), (11, 180, 212, 1813), (11, 188, 181, 1446), (11, 191, 190, 1458), (11, 198, 216, 1467), (11, 205, 222, 1479), (11, 208, 220, 1484), (11, 211, 223, 1492), (11, 214, 224, 1501), (11, 217, 225, 1509), (11, 220, 226, 1518), (11, 240, 232, 1526), (11, 243, 233, 1531), (11, 246, 193, 1539), (11, 321, 183, 1721), (11, 324, 239, 1724), (11, 327, 236, 1713), (11, 330, 240, 1717), (11, 333, 238, 1705), (11, 336, 241, 1709), (11, 340, 242, 1701), (11, 344, 246, 1740), (11, 348, 243, 1736), (11, 351, 187, 1744), (11, 355, 247, 1755), (11, 358, 194, 1783), (11, 363, 237, 1793), (11, 366, 213, 1809), (11, 369, 257, 1805), (11, 372, 258, 1801), (11, 375, 261, 1824), (11, 378, 264, 1836), (11, 381, 265, 1839), (11, 384, 267, 1855), (11, 387, 268, 1859), (11, 390, 269, 1851), (11, 394, 270, 1847), (11, 397, 272, 1871), (11, 400, 273, 1867), (11, 403, 275, 1879), (11, 415, 283, 1920), (11, 420, 284, 1917), (11, 427, 286, 1927), (16, 335, 298, 600), (16, 492, 299, 590), (16, 495, 300, 1385), (16, 505, 294, 596), (16, 633, 297, 586), (16, 637, 302, 604), (17, 88, 301, 607), (17, 95, 303, 614)]
def zStT : List (Nat × Nat × Nat) := [(2, 3, 1069), (7, 4, 1082), (8, 4, 1086), (9, 2, 1089), (14, 2, 1117), (23, 4, 953), (43, 2, 1183), (44, 3, 1187), (45, 3, 1190), (46, 2, 1161), (47, 3, 1157), (81, 2, 858), (87, 1, 667), (92, 3, 964), (105, 1, 742), (125, 1, 501), (126, 2, 783), (177, 1, 821), (182, 3, 1328), (183, 2, 1722), (184, 1, 1351), (185, 2, 1749), (188, 2, 1365), (191, 4, 1362), (212, 3, 1814), (264, 2, 1837), (283, 3, 1921), (284, 3, 1918), (292, 1, 700), (293, 1, 534), (300, 2, 1386), (301, 1, 608), (302, 4, 605), (303, 4, 615), (304, 2, 843), (305, 2, 1025)]
def zInT : List (Nat × Nat × Nat) := [(0, 0, 339), (17, 0, 311), (35, 0, 234), (41, 0, 352), (50, 0, 251), (68, 0, 195), (77, 0, 219), (82, 0, 365), (93, 0, 133), (106, 0, 149)]
def zViT : List (Nat × Nat × Nat × Nat × Nat) := [(1, 2, 0, 1048, 1049), (3, 1, 0, 1065, 34), (4, 3, 0, 1055, 32), (5, 3, 0, 1060, 33), (6, 2, 0, 1078, 1079), (10, 2, 0, 1096, 1097), (11, 4, 0, 1101, 35), (12, 3, 0, 1105, 36), (13, 2, 0, 1113, 1114), (15, 4, 0, 1124, 1125), (16, 3, 0, 1129, 37), (18, 1, 1, 928, 20), (19, 3, 1, 944, 945), (20, 2, 1, 1006, 1007), (21, 2, 1, 949, 22), (22, 4, 1, 957, 23), (24, 2, 1, 973, 25), (25, 3, 1, 977, 26), (26, 1, 1, 969, 24), (27, 2, 1, 980, 981), (28, 2, 1, 985, 27), (29, 3, 1, 994, 995), (30, 2, 1, 999, 28), (31, 2, 1, 936, 937), (32, 2, 1, 918, 919), (33, 3, 1, 923, 19), (34, 4, 1, 933, 21), (36, 2, 2, 1040, 1041), (37, 2, 2, 1015, 1016), (38, 1, 2, 1022, 29), (39, 1, 2, 1029, 30), (40, 3, 2, 1033, 31), (42, 2, 3, 1169, 1170), (48, 1, 3, 1202, 1203), (49, 1, 3, 1206, 1207), (51, 1, 4, 790, 791), (52, 0, 4, 797, 12), (53, 1, 4, 801, 13), (54, 0, 4, 810, 14), (55, 0, 4, 840, 15), (56, 1, 4, 847, 16), (57, 2, 4, 825, 826), (58, 1, 4, 817, 818), (59, 2, 4, 835, 836), (60, 2, 4, 866, 867), (61, 2, 4, 884, 885), (62, 2, 4, 893, 894), (63, 1, 4, 898, 18), (64, 0, 4, 905, 906), (65, 1, 4, 1144, 1145), (66, 1, 4, 1149, 38), (67, 2, 4, 1154, 39), (69, 1, 5, 493, 494), (70, 0, 5, 540, 541), (71, 1, 5, 775, 776), (72, 1, 5, 529, 530), (73, 0, 5, 465, 466), (74, 0, 5, 469, 470), (75, 2, 5, 1215, 1216), (76, 2, 5, 1223, 1224), (78, 0, 6, 751, 752), (79, 1, 6, 755, 756), (80, 2, 6, 854, 855), (83, 1, 7, 551, 552), (84, 1, 7, 559, 3), (85, 0, 7, 571, 6), (86, 2, 7, 563, 4), (88, 1, 7, 567, 5), (89, 1, 7, 575, 7), (90, 0, 7, 579, 8), (91, 1, 7, 960, 961), (94, 1, 8, 429, 430), (95, 1, 8, 437, 438), (96, 0, 8, 473, 474), (97, 1, 8, 452, 453), (98, 1, 8, 456, 457), (99, 1, 8, 489, 490), (100, 1, 8, 445, 446), (101, 1, 8, 481, 482), (102, 2, 8, 486, 0), (103, 0, 8, 734, 735), (104, 2, 8, 739, 10), (107, 1, 9, 513, 514), (108, 2, 9, 509, 510), (109, 0, 9, 767, 768), (110, 1, 9, 461, 462), (111, 1, 9, 763, 764), (112, 2, 9, 517, 518), (113, 3, 9, 522, 1), (114, 3, 9, 526, 2), (115, 3, 9, 505, 506), (116, 1, 9, 696, 697), (117, 2, 9, 710, 711), (118, 2, 9, 718, 719), (119, 1, 9, 726, 727), (120, 4, 9, 674, 675), (121, 0, 9, 680, 681), (122, 1, 9, 759, 760), (123, 1, 9, 805, 806), (124, 1, 9, 1198, 1199), (127, 2, 9, 497, 498), (128, 2, 9, 779, 780), (176, 1, 10, 689, 9), (178, 1, 10, 851, 17), (179, 1, 10, 746, 11), (181, 0, 11, 1448, 56), (186, 1, 11, 1537, 68), (187, 2, 11, 1746, 78), (189, 1, 11, 1443, 55), (190, 2, 11, 1460, 58), (192, 2, 11, 1452, 57), (193, 1, 11, 1541, 69), (194, 0, 11, 1785, 80), (197, 1, 11, 1336, 41), (198, 1, 11, 1355, 44), (199, 0, 11, 1346, 43), (200, 1, 11, 1378, 47), (201, 1, 11, 1342, 42), (202, 3, 11, 1373, 46), (203, 3, 11, 1359, 45), (206, 1, 11, 1427, 53), (207, 0, 11, 1423, 52), (208, 1, 11, 1419, 51), (209, 0, 11, 1415, 50), (210, 2, 11, 1435, 54), (213, 0, 11, 1811, 84), (216, 0, 11, 1469, 59), (218, 0, 11, 1403, 48), (219, 1, 11, 1407, 49), (220, 1, 11, 1486, 61), (222, 3, 11, 1481, 60), (223, 1, 11, 1494, 62), (224, 2, 11, 1503, 63), (225, 2, 11, 1511, 64), (226, 1, 11, 1520, 65), (232, 0, 11, 1528, 66), (233, 1, 11, 1533, 67), (236, 0, 11, 1715, 73), (237, 1, 11, 1795, 81), (238, 0, 11, 1707, 71), (239, 2, 11, 1726, 75), (240, 2, 11, 1719, 74), (241, 2, 11, 1711, 72), (242, 0, 11, 1703, 70), (243, 0, 11, 1738, 76), (246, 3, 11, 1742, 77), (247, 2, 11, 1757, 79), (257, 2, 11, 1807, 83), (258, 0, 11, 1803, 82), (261, 2, 11, 1826, 85), (265, 1, 11, 1841, 86), (267, 2, 11, 1857, 89), (268, 2, 11, 1861, 90), (269, 3, 11, 1853, 88), (270, 2, 11, 1849, 87), (272, 2, 11, 1873, 92), (273, 3, 11, 1869, 91), (275, 2, 11, 1881, 93), (286, 1, 11, 1929, 94), (294, 0, 200, 597, 598), (295, 1, 200, 1382, 1383), (296, 1, 200, 583, 584), (297, 2, 200, 587, 588), (298, 0, 200, 601, 602), (299, 0, 200, 591, 592)]
def zCpT : List (Nat × Nat × Nat) := [(0, 42, 1067), (5, 31, 543)]
def zChT : List (Nat × Nat × Nat) := [(17, 9, 1388)]
def zMxT994 : List (Nat × Nat × Nat) := [(0, 94, 1107), (7, 84, 966), (9, 66, 678), (11, 195, 1466), (17, 92, 610)]
def zMxT995 : List (Nat × Nat × Nat) := [(7, 30, 554), (8, 23, 448), (9, 61, 677), (11, 61, 1339), (17, 38, 613)]
def zMxT996 : List (Nat × Nat × Nat) := [(10, 303, 1136), (11, 408, 1896)]
def zObT : List (Nat × Nat × Nat) := [(0, 3, 341), (1, 3, 313), (2, 3, 236), (3, 1, 354), (4, 3, 253), (5, 3, 197), (6, 3, 221), (7, 5, 367), (8, 3, 135), (9, 3, 151), (10, 1, 127), (11, 249, 1547)]
def zNwT : List (Nat × Nat × Nat × Nat × Nat × Nat) := [(10, 7, 8, 130, 131, 97), (10, 16, 9, 146, 147, 98), (10, 26, 5, 192, 193, 99), (10, 33, 6, 216, 217, 100), (10, 40, 2, 231, 232, 101), (10, 47, 4, 248, 249, 102), (10, 54, 1, 308, 309, 103), (10, 61, 0, 336, 337, 104), (10, 68, 3, 349, 350, 105), (10, 75, 7, 362, 363, 106)]
def zKiT : List (Nat × Nat × Int32 × Nat) := [(3, 49, 1103515245, 1209), (10, 326, (-100000), 1177), (11, 361, 1000000, 1791), (11, 362, (-1000000), 1792), (11, 414, 100000, 1911), (11, 426, 1103515245, 1931), (14, 265, 1431655765, 702), (14, 266, 858993459, 703), (14, 267, 252645135, 704)]
def zKlT : List (Nat × Nat × Int64 × Nat) := [(10, 301, (-2), 1135), (11, 73, 48, 1348), (11, 75, 57, 1349), (11, 186, 3, 1445), (11, 201, 2, 1483), (11, 203, 9, 1513), (11, 406, (-2), 1895), (11, 410, 10, 1901), (11, 412, 60, 1906), (11, 418, 20, 1916), (15, 314, 6148914691236517205, 536), (15, 316, 3689348814741910323, 537), (15, 318, 1085102592571150095, 538)]
def zGsT : List (Nat × Nat × Nat × Nat) := [(1, 104, 1000, 925), (4, 59, 1000, 793), (16, 38, 1, 594)]
def zFlb (e : Nat × Nat × Nat × Nat × Nat) : Bool := match vwCl[e.2.2.1]?, lw_tbl[e.2.2.2.2]? with
  | some q, some (.fieldLink o i r n d) => decide (e.2.2.2.1 < q.2.2 ∧ o = zCn e.1 ∧ i = e.2.1 ∧ r = (q.2.1 e.2.2.2.1).1 ∧ n = (q.2.1 e.2.2.2.1).2.1 ∧ d = (q.2.1 e.2.2.2.1).2.2.1)
  | _, _ => false
def zFnb (e : Nat × Nat × Nat × Nat × Nat) : Bool := match vwCl[e.2.2.1]?, lw_tbl[e.2.2.2.2]? with
  | some q, some (.fieldLinkNest o i r n d _) => decide (e.2.2.2.1 < q.2.2 ∧ o = zCn e.1 ∧ i = e.2.1 ∧ r = (q.2.1 e.2.2.2.1).1 ∧ n = (q.2.1 e.2.2.2.1).2.1 ∧ d = (q.2.1 e.2.2.2.1).2.2.1)
  | _, _ => false
def zFsb (e : Nat × Nat × Nat × Nat) : Bool := match lw_tbl[e.2.2.2]? with
  | some (.fieldLink o i r n d) => decide (o = zCn e.1 ∧ i = e.2.1 ∧ r = "java/lang/String" ∧ ((e.2.2.1 = 0 ∧ n = "value" ∧ d = "[B") ∨ (e.2.2.1 = 1 ∧ n = "coder" ∧ d = "B")))
  | _ => false
def zMlb (e : Nat × Nat × Nat × Nat) : Bool := match zNr[e.2.2.1]?, lw_tbl[e.2.2.2]? with
  | some q, some (.methodLink o i y) => decide (o = zCn e.1 ∧ i = e.2.1 ∧ y = q.1)
  | some q, some (.methodLinkNest o i y _) => decide (o = zCn e.1 ∧ i = e.2.1 ∧ y = q.1)
  | _, _ => false
def zStb (e : Nat × Nat × Nat) : Bool := match zNr[e.1]?, lw_tbl[e.2.2]? with
  | some q, some (.static y) => decide (y = q.1 ∧ zPn q.1 = some e.2.1)
  | _, _ => false
def zInb (e : Nat × Nat × Nat) : Bool := match zNr[e.1]?, lw_tbl[e.2.2]? with
  | some q, some (.instanceMethod y) => decide (y = q.1 ∧ q.1.name = "<init>" ∧ q.2 = none ∧ zPn q.1 = some e.2.1)
  | _, _ => false
def zVib (e : Nat × Nat × Nat × Nat × Nat) : Bool := match zNr[e.1]?, lw_tbl[e.2.2.2.1]?, lw_tbl[e.2.2.2.2]? with
  | some q, some (.instanceMethod y), some (.selects c a b) => decide (y = q.1 ∧ c = zCls e.2.2.1 ∧ a = q.1 ∧ b = q.1 ∧ q.1.cls = zCls e.2.2.1 ∧ (e.2.2.1 < 12 ∨ e.2.2.1 = 200) ∧ zPn q.1 = some e.2.1)
  | _, _, _ => false
def zLkb (y : MethodName) (e : Nat × Nat × Nat) : Bool := match lw_tbl[e.2.2]? with
  | some (.methodLink o i z) => decide (o = zCn e.1 ∧ i = e.2.1 ∧ z = y)
  | _ => false
def zNwb (e : Nat × Nat × Nat × Nat × Nat × Nat) : Bool := match vwCl[e.2.2.1]?, lw_tbl[e.2.2.2.1]?, lw_tbl[e.2.2.2.2.1]?, lw_tbl[e.2.2.2.2.2]? with
  | some q, some (.classLink o i r), some (.instantiable a n), some (.initialized b) => decide (o = zCn e.1 ∧ i = e.2.1 ∧ r = q.1 ∧ a = q.1 ∧ n = q.2.2 ∧ b = q.1)
  | _, _, _, _ => false
def zKib (e : Nat × Nat × Int32 × Nat) : Bool := match lw_tbl[e.2.2.2]? with
  | some (.constant o i v) => decide (o = zCn e.1 ∧ i = e.2.1 ∧ v = e.2.2.1)
  | _ => false
def zKlb (e : Nat × Nat × Int64 × Nat) : Bool := match lw_tbl[e.2.2.2]? with
  | some (.constantLong o i v) => decide (o = zCn e.1 ∧ i = e.2.1 ∧ v = e.2.2.1)
  | _ => false
def zGsb (e : Nat × Nat × Nat × Nat) : Bool := match lw_tbl[e.2.2.2]? with
  | some (.fieldLink o i r n d) => decide (o = zCn e.1 ∧ i = e.2.1 ∧ ((e.2.2.1 = 1000 ∧ r = "InnRegister" ∧ n = "POWER" ∧ d = "[I") ∨ (e.2.2.1 = 1 ∧ r = "java/lang/String" ∧ n = "COMPACT_STRINGS" ∧ d = "Z")))
  | some (.fieldLinkNest o i r n d _) => decide (o = zCn e.1 ∧ i = e.2.1 ∧ ((e.2.2.1 = 1000 ∧ r = "InnRegister" ∧ n = "POWER" ∧ d = "[I") ∨ (e.2.2.1 = 1 ∧ r = "java/lang/String" ∧ n = "COMPACT_STRINGS" ∧ d = "Z")))
  | _ => false
theorem zFlT_ok : zFlT.all zFlb = true := by decide +kernel
theorem zFnT_ok : zFnT.all zFnb = true := by decide +kernel
theorem zFsT_ok : zFsT.all zFsb = true := by decide +kernel
theorem zMlT_ok : zMlT.all zMlb = true := by decide +kernel
theorem zStT_ok : zStT.all zStb = true := by decide +kernel
theorem zInT_ok : zInT.all zInb = true := by decide +kernel
theorem zViT_ok : zViT.all zVib = true := by decide +kernel
theorem zCpT_ok : zCpT.all (zLkb arraycopyName) = true := by decide +kernel
theorem zChT_ok : zChT.all (zLkb y_ci) = true := by decide +kernel
theorem zMxT994_ok : zMxT994.all (zLkb Lib.Math.max.name) = true := by decide +kernel
theorem zMxT995_ok : zMxT995.all (zLkb Lib.Math.min.name) = true := by decide +kernel
theorem zMxT996_ok : zMxT996.all (zLkb Lib.MathLoose.max_long.x) = true := by decide +kernel
theorem z_m1 : Cond.static Lib.Math.max.name ∈ zT := by decide +kernel
theorem z_m2 : Cond.static Lib.Math.min.name ∈ zT := by decide +kernel
theorem z_m3 : Cond.static Lib.MathLoose.max_long.x ∈ zT := by decide +kernel
theorem z_m4 : Cond.initialized "java/lang/Math" ∈ zT := by decide +kernel
theorem z_m5 : Cond.code Lib.Math.max.name Lib.Math.max.code 2 (some .int) ∈ zT := by decide +kernel
theorem z_m6 : Cond.code Lib.Math.min.name Lib.Math.min.code 2 (some .int) ∈ zT := by decide +kernel
theorem z_m7 : Cond.code Lib.MathLoose.max_long.x Lib.MathLoose.max_long.code 4 (some .long) ∈ zT := by decide +kernel
theorem zObT_ok : zObT.all (zLkb Lib.objectInit) = true := by decide +kernel
theorem zNwT_ok : zNwT.all zNwb = true := by decide +kernel
theorem zKiT_ok : zKiT.all zKib = true := by decide +kernel
theorem zKlT_ok : zKlT.all zKlb = true := by decide +kernel
theorem zGsT_ok : zGsT.all zGsb = true := by decide +kernel
theorem z_ac1 : Cond.native arraycopyName ∈ zT := by decide +kernel
theorem z_ac2 : Cond.static arraycopyName ∈ zT := by decide +kernel
theorem z_ac3 : Cond.initialized "java/lang/System" ∈ zT := by decide +kernel
theorem z_ob1 : Cond.instanceMethod Lib.objectInit ∈ zT := by decide +kernel
theorem z_ob2 : Cond.code Lib.objectInit ⟨#[0xb1]⟩ 1 none ∈ zT := by decide +kernel
theorem z_arr : ∀ t, t ≤ 4 → Cond.arrayClass (z_ty t) ∈ zT := by
  intro t ht
  rcases (show t = 0 ∨ t = 1 ∨ t = 2 ∨ t = 3 ∨ t = 4 by omega) with rfl | rfl | rfl | rfl | rfl <;> decide +kernel
/-! what the tables give -/
theorem zFl_use {own i ci k : Nat} (h : zFlT.any (fun e => e.1 == own && (e.2.1 == i && (e.2.2.1 == ci && e.2.2.2.1 == k))) = true) : ∃ C T N, vwCl[ci]? = some (C, T, N) ∧ k < N ∧ Cond.fieldLink (zCn own) i (T k).1 (T k).2.1 (T k).2.2.1 ∈ zT := by
  obtain ⟨e, he, h⟩ := List.any_eq_true.mp h
  simp only [Bool.and_eq_true, beq_iff_eq] at h
  obtain ⟨rfl, rfl, rfl, rfl⟩ := h
  have h2 := List.all_eq_true.mp zFlT_ok e he
  unfold zFlb at h2
  split at h2
  · rename_i q o i r n d h3 h4
    obtain ⟨h5, rfl, rfl, rfl, rfl, rfl⟩ := of_decide_eq_true h2
    exact ⟨q.1, q.2.1, q.2.2, h3, h5, z_T_in h4 rfl⟩
  · cases h2
theorem zFn_use {own i ci k : Nat} (h : zFnT.any (fun e => e.1 == own && (e.2.1 == i && (e.2.2.1 == ci && e.2.2.2.1 == k))) = true) : ∃ C T N host, vwCl[ci]? = some (C, T, N) ∧ k < N ∧ Cond.fieldLinkNest (zCn own) i (T k).1 (T k).2.1 (T k).2.2.1 host ∈ zN := by
  obtain ⟨e, he, h⟩ := List.any_eq_true.mp h
  simp only [Bool.and_eq_true, beq_iff_eq] at h
  obtain ⟨rfl, rfl, rfl, rfl⟩ := h
  have h2 := List.all_eq_true.mp zFnT_ok e he
  unfold zFnb at h2
  split at h2
  · rename_i q o i r n d host h3 h4
    obtain ⟨h5, rfl, rfl, rfl, rfl, rfl⟩ := of_decide_eq_true h2
    exact ⟨q.1, q.2.1, q.2.2, host, h3, h5, z_N_in h4 rfl⟩
  · cases h2
theorem zFs_use {own i k : Nat} (h : zFsT.any (fun e => e.1 == own && (e.2.1 == i && e.2.2.1 == k)) = true) : (k = 0 ∧ Cond.fieldLink (zCn own) i "java/lang/String" "value" "[B" ∈ zT) ∨ (k = 1 ∧ Cond.fieldLink (zCn own) i "java/lang/String" "coder" "B" ∈ zT) := by
  obtain ⟨e, he, h⟩ := List.any_eq_true.mp h
  simp only [Bool.and_eq_true, beq_iff_eq] at h
  obtain ⟨rfl, rfl, rfl⟩ := h
  have h2 := List.all_eq_true.mp zFsT_ok e he
  unfold zFsb at h2
  split at h2
  · rename_i o i r n d h4
    obtain ⟨rfl, rfl, rfl, ⟨h5, rfl, rfl⟩ | ⟨h5, rfl, rfl⟩⟩ := of_decide_eq_true h2
    · exact Or.inl ⟨h5, z_T_in h4 rfl⟩
    · exact Or.inr ⟨h5, z_T_in h4 rfl⟩
  · cases h2
theorem zMl_use {own i y : Nat} (h : zMlT.any (fun e => e.1 == own && (e.2.1 == i && e.2.2.1 == y)) = true) : ∃ q, zNr[y]? = some q ∧ zMl own i q.1 := by
  obtain ⟨e, he, h⟩ := List.any_eq_true.mp h
  simp only [Bool.and_eq_true, beq_iff_eq] at h
  obtain ⟨rfl, rfl, rfl⟩ := h
  have h2 := List.all_eq_true.mp zMlT_ok e he
  unfold zMlb at h2
  split at h2
  · rename_i q o i y h3 h4
    obtain ⟨rfl, rfl, rfl⟩ := of_decide_eq_true h2
    exact ⟨q, h3, Or.inl (z_T_in h4 rfl)⟩
  · rename_i q o i y host h3 h4
    obtain ⟨rfl, rfl, rfl⟩ := of_decide_eq_true h2
    exact ⟨q, h3, Or.inr ⟨host, z_N_in h4 rfl⟩⟩
  · cases h2
theorem zSt_use {y k : Nat} (h : zStT.any (fun e => e.1 == y && e.2.1 == k) = true) : ∃ q, zNr[y]? = some q ∧ Cond.static q.1 ∈ zT ∧ zPn q.1 = some k := by
  obtain ⟨e, he, h⟩ := List.any_eq_true.mp h
  simp only [Bool.and_eq_true, beq_iff_eq] at h
  obtain ⟨rfl, rfl⟩ := h
  have h2 := List.all_eq_true.mp zStT_ok e he
  unfold zStb at h2
  split at h2
  · rename_i q y h3 h4
    obtain ⟨rfl, h5⟩ := of_decide_eq_true h2
    exact ⟨q, h3, z_T_in h4 rfl, h5⟩
  · cases h2
theorem zIn_use {y k : Nat} (h : zInT.any (fun e => e.1 == y && e.2.1 == k) = true) : ∃ q, zNr[y]? = some q ∧ Cond.instanceMethod q.1 ∈ zT ∧ q.1.name = "<init>" ∧ q.2 = none ∧ zPn q.1 = some k := by
  obtain ⟨e, he, h⟩ := List.any_eq_true.mp h
  simp only [Bool.and_eq_true, beq_iff_eq] at h
  obtain ⟨rfl, rfl⟩ := h
  have h2 := List.all_eq_true.mp zInT_ok e he
  unfold zInb at h2
  split at h2
  · rename_i q y h3 h4
    obtain ⟨rfl, h5⟩ := of_decide_eq_true h2
    exact ⟨q, h3, z_T_in h4 rfl, h5⟩
  · cases h2
theorem zVi_use {y k ci : Nat} (h : zViT.any (fun e => e.1 == y && (e.2.1 == k && e.2.2.1 == ci)) = true) : ∃ q, zNr[y]? = some q ∧ Cond.instanceMethod q.1 ∈ zT ∧ Cond.selects (zCls ci) q.1 q.1 ∈ zT ∧ q.1.cls = zCls ci ∧ (ci < 12 ∨ ci = 200) ∧ zPn q.1 = some k := by
  obtain ⟨e, he, h⟩ := List.any_eq_true.mp h
  simp only [Bool.and_eq_true, beq_iff_eq] at h
  obtain ⟨rfl, rfl, rfl⟩ := h
  have h2 := List.all_eq_true.mp zViT_ok e he
  unfold zVib at h2
  split at h2
  · rename_i q y c a b h3 h4 h6
    obtain ⟨e1, e2, e3, e4, h7, h8, h9⟩ := of_decide_eq_true h2
    rw [e1] at h4
    rw [e2, e3, e4] at h6
    exact ⟨q, h3, z_T_in h4 rfl, z_T_in h6 rfl, h7, h8, h9⟩
  · cases h2
theorem zLk_use {T : List (Nat × Nat × Nat)} {y : MethodName} (hT : T.all (zLkb y) = true) {own i : Nat} (h : T.any (fun e => e.1 == own && e.2.1 == i) = true) : Cond.methodLink (zCn own) i y ∈ zT := by
  obtain ⟨e, he, h⟩ := List.any_eq_true.mp h
  simp only [Bool.and_eq_true, beq_iff_eq] at h
  obtain ⟨rfl, rfl⟩ := h
  have h2 := List.all_eq_true.mp hT e he
  unfold zLkb at h2
  split at h2
  · rename_i o i z h4
    obtain ⟨rfl, rfl, rfl⟩ := of_decide_eq_true h2
    exact z_T_in h4 rfl
  · cases h2
theorem zNw_use {own i ci : Nat} (h : zNwT.any (fun e => e.1 == own && (e.2.1 == i && e.2.2.1 == ci)) = true) : ∃ C T N, vwCl[ci]? = some (C, T, N) ∧ Cond.classLink (zCn own) i C ∈ zT ∧ Cond.instantiable C N ∈ zT ∧ Cond.initialized C ∈ zT := by
  obtain ⟨e, he, h⟩ := List.any_eq_true.mp h
  simp only [Bool.and_eq_true, beq_iff_eq] at h
  obtain ⟨rfl, rfl, rfl⟩ := h
  have h2 := List.all_eq_true.mp zNwT_ok e he
  unfold zNwb at h2
  split at h2
  · rename_i q o i r a n b h3 h4 h5 h6
    obtain ⟨e1, e2, e3, e4, e5, e6⟩ := of_decide_eq_true h2
    rw [e1, e2, e3] at h4
    rw [e4, e5] at h5
    rw [e6] at h6
    exact ⟨q.1, q.2.1, q.2.2, h3, z_T_in h4 rfl, z_T_in h5 rfl, z_T_in h6 rfl⟩
  · cases h2
theorem zKi_use {own i : Nat} {v : Int32} (h : zKiT.any (fun e => e.1 == own && (e.2.1 == i && decide (e.2.2.1 = v))) = true) : Cond.constant (zCn own) i v ∈ zT := by
  obtain ⟨e, he, h⟩ := List.any_eq_true.mp h
  simp only [Bool.and_eq_true, beq_iff_eq, decide_eq_true_eq] at h
  obtain ⟨rfl, rfl, rfl⟩ := h
  have h2 := List.all_eq_true.mp zKiT_ok e he
  unfold zKib at h2
  split at h2
  · rename_i o i v h4
    obtain ⟨rfl, rfl, rfl⟩ := of_decide_eq_true h2
    exact z_T_in h4 rfl
  · cases h2
theorem zKl_use {own i : Nat} {v : Int64} (h : zKlT.any (fun e => e.1 == own && (e.2.1 == i && decide (e.2.2.1 = v))) = true) : Cond.constantLong (zCn own) i v ∈ zT := by
  obtain ⟨e, he, h⟩ := List.any_eq_true.mp h
  simp only [Bool.and_eq_true, beq_iff_eq, decide_eq_true_eq] at h
  obtain ⟨rfl, rfl, rfl⟩ := h
  have h2 := List.all_eq_true.mp zKlT_ok e he
  unfold zKlb at h2
  split at h2
  · rename_i o i v h4
    obtain ⟨rfl, rfl, rfl⟩ := of_decide_eq_true h2
    exact z_T_in h4 rfl
  · cases h2
theorem zGs_use {own i v : Nat} (h : zGsT.any (fun e => e.1 == own && (e.2.1 == i && e.2.2.1 == v)) = true) : ∃ C n d, ((v = 1000 ∧ C = "InnRegister" ∧ n = "POWER" ∧ d = "[I") ∨ (v = 1 ∧ C = "java/lang/String" ∧ n = "COMPACT_STRINGS" ∧ d = "Z")) ∧ (Cond.fieldLink (zCn own) i C n d ∈ zT ∨ ∃ host, Cond.fieldLinkNest (zCn own) i C n d host ∈ zN) := by
  obtain ⟨e, he, h⟩ := List.any_eq_true.mp h
  simp only [Bool.and_eq_true, beq_iff_eq] at h
  obtain ⟨rfl, rfl, rfl⟩ := h
  have h2 := List.all_eq_true.mp zGsT_ok e he
  unfold zGsb at h2
  split at h2
  · rename_i o i r n d h4
    obtain ⟨rfl, rfl, h5⟩ := of_decide_eq_true h2
    exact ⟨r, n, d, h5, Or.inl (z_T_in h4 rfl)⟩
  · rename_i o i r n d host h4
    obtain ⟨rfl, rfl, h5⟩ := of_decide_eq_true h2
    exact ⟨r, n, d, h5, Or.inr ⟨host, z_N_in h4 rfl⟩⟩
  · cases h2
