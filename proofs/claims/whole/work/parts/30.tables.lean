def cd_T0 : u_T := fun k => match k with
  | 0 => ("ChainDesk", "buffer", "LChainDesk$Buffer;", true)
  | 1 => ("ChainDesk", "catalog", "LChainDesk$Catalog;", true)
  | 2 => ("ChainDesk", "scope", "LChainDesk$Scope;", true)
  | 3 => ("ChainDesk", "declarations", "LChainDesk$DeclarationReader;", true)
  | 4 => ("ChainDesk", "expressions", "LChainDesk$ExpressionReader;", true)
  | 5 => ("ChainDesk", "completer", "LChainDesk$Completer;", true)
  | _ => ("ChainDesk", "latestCost", "I", false)
def cd_T1 : u_T := fun k => match k with
  | 0 => ("ChainDesk$Buffer", "letters", "[C", true)
  | 1 => ("ChainDesk$Buffer", "length", "I", false)
  | _ => ("ChainDesk$Buffer", "position", "I", false)
def cd_T2 : u_T := fun k => match k with
  | 0 => ("ChainDesk$Catalog", "declarations", "[LChainDesk$Declaration;", true)
  | 1 => ("ChainDesk$Catalog", "fitted", "[I", true)
  | _ => ("ChainDesk$Catalog", "place", "I", false)
def cd_T3 : u_T := fun k => match k with
  | 0 => ("ChainDesk$Completer", "catalog", "LChainDesk$Catalog;", true)
  | 1 => ("ChainDesk$Completer", "scope", "LChainDesk$Scope;", true)
  | 2 => ("ChainDesk$Completer", "shelves", "[LChainDesk$Shelf;", true)
  | 3 => ("ChainDesk$Completer", "proposals", "[LChainDesk$Phrase;", true)
  | 4 => ("ChainDesk$Completer", "draft", "LChainDesk$Phrase;", true)
  | 5 => ("ChainDesk$Completer", "target", "LChainDesk$Shelf;", false)
  | _ => ("ChainDesk$Completer", "proposalCount", "I", false)
def cd_T4 : u_T := fun k => match k with
  | 0 => ("ChainDesk$Declaration", "number", "I", true)
  | 1 => ("ChainDesk$Declaration", "parent", "LChainDesk$Declaration;", true)
  | 2 => ("ChainDesk$Declaration", "rows", "[LChainDesk$Member;", true)
  | _ => ("ChainDesk$Declaration", "count", "I", false)
def cd_T5 : u_T := fun k => match k with
  | 0 => ("ChainDesk$DeclarationReader", "text", "LChainDesk$Buffer;", true)
  | _ => ("ChainDesk$DeclarationReader", "catalog", "LChainDesk$Catalog;", true)
def cd_T6 : u_T := fun k => match k with
  | 0 => ("ChainDesk$ExpressionReader", "text", "LChainDesk$Buffer;", true)
  | 1 => ("ChainDesk$ExpressionReader", "catalog", "LChainDesk$Catalog;", true)
  | 2 => ("ChainDesk$ExpressionReader", "scope", "LChainDesk$Scope;", true)
  | _ => ("ChainDesk$ExpressionReader", "cost", "I", false)
def cd_T7 : u_T := fun k => match k with
  | 0 => ("ChainDesk$Member", "kind", "LChainDesk$Kind;", true)
  | 1 => ("ChainDesk$Member", "isPrivate", "Z", true)
  | 2 => ("ChainDesk$Member", "isStatic", "Z", true)
  | 3 => ("ChainDesk$Member", "name", "I", true)
  | 4 => ("ChainDesk$Member", "parameters", "[I", true)
  | 5 => ("ChainDesk$Member", "count", "I", false)
  | _ => ("ChainDesk$Member", "type", "I", false)
def cd_T8 : u_T := fun k => match k with
  | 0 => ("ChainDesk$Phrase", "letters", "[C", true)
  | 1 => ("ChainDesk$Phrase", "length", "I", false)
  | 2 => ("ChainDesk$Phrase", "type", "I", false)
  | _ => ("ChainDesk$Phrase", "cost", "I", false)
def cd_T9 : u_T := fun k => match k with
  | 0 => ("ChainDesk$Scope", "names", "[I", true)
  | 1 => ("ChainDesk$Scope", "types", "[I", true)
  | _ => ("ChainDesk$Scope", "count", "I", false)
def cd_T10 : u_T := fun k => match k with
  | 0 => ("ChainDesk$Shelf", "rows", "[LChainDesk$Phrase;", true)
  | _ => ("ChainDesk$Shelf", "count", "I", false)
def cd_T11 : u_T := fun k => match k with
  | 0 => ("ChainDeskModel", "thrown", "I", false)
  | 1 => ("ChainDeskModel", "buffer", "[C", true)
  | 2 => ("ChainDeskModel", "filled", "I", false)
  | 3 => ("ChainDeskModel", "at", "I", false)
  | 4 => ("ChainDeskModel", "good", "Z", false)
  | 5 => ("ChainDeskModel", "there", "[Z", true)
  | 6 => ("ChainDeskModel", "above", "[I", true)
  | 7 => ("ChainDeskModel", "many", "[I", true)
  | 8 => ("ChainDeskModel", "kind", "[I", true)
  | 9 => ("ChainDeskModel", "common", "[Z", true)
  | 10 => ("ChainDeskModel", "secret", "[Z", true)
  | 11 => ("ChainDeskModel", "name", "[I", true)
  | 12 => ("ChainDeskModel", "type", "[I", true)
  | 13 => ("ChainDeskModel", "wants", "[I", true)
  | 14 => ("ChainDeskModel", "want", "[I", true)
  | 15 => ("ChainDeskModel", "scope", "I", false)
  | 16 => ("ChainDeskModel", "varName", "[I", true)
  | 17 => ("ChainDeskModel", "varType", "[I", true)
  | 18 => ("ChainDeskModel", "place", "I", false)
  | 19 => ("ChainDeskModel", "kept", "I", false)
  | 20 => ("ChainDeskModel", "cost", "[I", true)
  | 21 => ("ChainDeskModel", "typeOf", "[I", true)
  | 22 => ("ChainDeskModel", "size", "[I", true)
  | 23 => ("ChainDeskModel", "text", "[C", true)
  | 24 => ("ChainDeskModel", "firstOfCost", "I", false)
  | 25 => ("ChainDeskModel", "made", "I", false)
  | 26 => ("ChainDeskModel", "making", "[C", true)
  | 27 => ("ChainDeskModel", "proposals", "I", false)
  | 28 => ("ChainDeskModel", "proposalCost", "[I", true)
  | 29 => ("ChainDeskModel", "proposalType", "[I", true)
  | 30 => ("ChainDeskModel", "proposalSize", "[I", true)
  | 31 => ("ChainDeskModel", "proposalText", "[C", true)
  | 32 => ("ChainDeskModel", "checked", "I", false)
  | 33 => ("ChainDeskModel", "open", "I", false)
  | 34 => ("ChainDeskModel", "calling", "[I", true)
  | 35 => ("ChainDeskModel", "argument", "[I", true)
  | 36 => ("ChainDeskModel", "counted", "I", false)
  | 37 => ("ChainDeskModel", "superclass", "I", false)
  | _ => ("ChainDeskModel", "members", "I", false)
def cd_cl : List vw_C := [("ChainDesk", cd_T0, 7), ("ChainDesk$Buffer", cd_T1, 3), ("ChainDesk$Catalog", cd_T2, 3), ("ChainDesk$Completer", cd_T3, 7), ("ChainDesk$Declaration", cd_T4, 4), ("ChainDesk$DeclarationReader", cd_T5, 2), ("ChainDesk$ExpressionReader", cd_T6, 4), ("ChainDesk$Member", cd_T7, 7), ("ChainDesk$Phrase", cd_T8, 4), ("ChainDesk$Scope", cd_T9, 3), ("ChainDesk$Shelf", cd_T10, 2), ("ChainDeskModel", cd_T11, 39), ("java/lang/IllegalArgumentException", cd_T0, 0), ("java/lang/IllegalStateException", cd_T0, 0)]
def cd_ftL : List (List FieldType) := [[.object "ChainDesk$Buffer", .object "ChainDesk$Catalog", .object "ChainDesk$Scope", .object "ChainDesk$DeclarationReader", .object "ChainDesk$ExpressionReader", .object "ChainDesk$Completer", .int], [.array .char, .int, .int], [.array (.object "ChainDesk$Declaration"), .array .int, .int], [.object "ChainDesk$Catalog", .object "ChainDesk$Scope", .array (.object "ChainDesk$Shelf"), .array (.object "ChainDesk$Phrase"), .object "ChainDesk$Phrase", .object "ChainDesk$Shelf", .int], [.int, .object "ChainDesk$Declaration", .array (.object "ChainDesk$Member"), .int], [.object "ChainDesk$Buffer", .object "ChainDesk$Catalog"], [.object "ChainDesk$Buffer", .object "ChainDesk$Catalog", .object "ChainDesk$Scope", .int], [.object "ChainDesk$Kind", .boolean, .boolean, .int, .array .int, .int, .int], [.array .char, .int, .int, .int], [.array .int, .array .int, .int], [.array (.object "ChainDesk$Phrase"), .int], [.int, .array .char, .int, .int, .boolean, .array .boolean, .array .int, .array .int, .array .int, .array .boolean, .array .boolean, .array .int, .array .int, .array .int, .array .int, .int, .array .int, .array .int, .int, .int, .array .int, .array .int, .array .int, .array .char, .int, .int, .array .char, .int, .array .int, .array .int, .array .int, .array .char, .int, .int, .array .int, .array .int, .int, .int, .int], [], []]
def cd_ft (c k : Nat) : FieldType := (cd_ftL.getD c []).getD k .int
def cd_dfL : List (List Value) := [[.null, .null, .null, .null, .null, .null, .int 0], [.null, .int 0, .int 0], [.null, .null, .int 0], [.null, .null, .null, .null, .null, .null, .int 0], [.int 0, .null, .null, .int 0], [.null, .null], [.null, .null, .null, .int 0], [.null, .int 0, .int 0, .int 0, .null, .int 0, .int 0], [.null, .int 0, .int 0, .int 0], [.null, .null, .int 0], [.null, .int 0], [.int 0, .null, .int 0, .int 0, .int 0, .null, .null, .null, .null, .null, .null, .null, .null, .null, .null, .int 0, .null, .null, .int 0, .int 0, .null, .null, .null, .null, .int 0, .int 0, .null, .int 0, .null, .null, .null, .null, .int 0, .int 0, .null, .null, .int 0, .int 0, .int 0], [], []]
def cd_df (c : Nat) : List Value := cd_dfL.getD c []
def cd_nsL : List Nat := [7, 3, 3, 7, 4, 2, 4, 7, 4, 3, 2, 39, 6, 6]
def cd_ns (c : Nat) : Nat := cd_nsL.getD c 0
def cd_nmL : List String := ["ChainDesk", "ChainDesk$Buffer", "ChainDesk$Catalog", "ChainDesk$Completer", "ChainDesk$Declaration", "ChainDesk$DeclarationReader", "ChainDesk$ExpressionReader", "ChainDesk$Member", "ChainDesk$Phrase", "ChainDesk$Scope", "ChainDesk$Shelf", "ChainDeskModel", "java/lang/IllegalArgumentException", "java/lang/IllegalStateException"]
def cd_nm (c : Nat) : String := if c = 50 then "java/lang/String" else cd_nmL.getD c ""
/-- where a class's words on its fields stand -/
def cd_lpL : List (List Nat) := [[262, 264, 266, 268, 270, 272, 274], [102, 104, 106], [122, 124, 126], [240, 242, 244, 246, 248, 250, 252], [414, 416, 418, 420], [158, 160], [174, 176, 178, 180], [522, 524, 526, 528, 530, 532, 534], [208, 210, 212, 214], [143, 145, 147], [228, 230], [907, 909, 911, 913, 915, 917, 919, 921, 923, 925, 927, 929, 931, 933, 935, 937, 939, 941, 943, 945, 947, 949, 951, 953, 955, 957, 959, 961, 963, 965, 967, 969, 971, 973, 975, 977, 979, 981, 983], [], []]
def cd_ynL : List MethodName := [⟨"ChainDeskLaw", "law", "([I)Z"⟩,
  ⟨"ChainDesk", "<init>", "()V"⟩,
  ⟨"ChainDesk$Buffer", "<init>", "()V"⟩,
  ⟨"ChainDesk$Catalog", "<init>", "()V"⟩,
  ⟨"ChainDesk$Scope", "<init>", "()V"⟩,
  ⟨"ChainDesk$DeclarationReader", "<init>", "(LChainDesk$Buffer;LChainDesk$Catalog;)V"⟩,
  ⟨"ChainDesk$ExpressionReader", "<init>", "(LChainDesk$Buffer;LChainDesk$Catalog;LChainDesk$Scope;)V"⟩,
  ⟨"ChainDesk$Completer", "<init>", "(LChainDesk$Catalog;LChainDesk$Scope;)V"⟩,
  ⟨"ChainDesk$Phrase", "<init>", "()V"⟩,
  ⟨"ChainDesk$Shelf", "<init>", "()V"⟩,
  ⟨"ChainDesk", "put", "(II)Z"⟩,
  ⟨"ChainDesk$Buffer", "append", "(II)Z"⟩,
  ⟨"ChainDesk", "forget", "()V"⟩,
  ⟨"ChainDesk", "checkedCost", "()I"⟩,
  ⟨"ChainDesk", "fits", "(II)Z"⟩,
  ⟨"ChainDesk", "isType", "(I)Z"⟩,
  ⟨"ChainDesk$Catalog", "isFitting", "(II)Z"⟩,
  ⟨"ChainDesk", "proposal", "(II)I"⟩,
  ⟨"ChainDesk$Completer", "proposed", "(I)LChainDesk$Phrase;"⟩,
  ⟨"ChainDesk", "letter", "(II)I"⟩,
  ⟨"ChainDesk$Phrase", "letterAt", "(I)I"⟩,
  ⟨"ChainDesk", "members", "(I)I"⟩,
  ⟨"ChainDesk$Catalog", "declared", "(I)LChainDesk$Declaration;"⟩,
  ⟨"ChainDesk", "seen", "(II)I"⟩,
  ⟨"ChainDesk", "isClass", "(I)Z"⟩,
  ⟨"ChainDesk$Catalog", "countSeen", "(ILChainDesk$Kind;)I"⟩,
  ⟨"ChainDesk$Catalog", "isSeen", "(ILChainDesk$Member;)Z"⟩,
  ⟨"ChainDesk$Catalog", "findSeen", "(ILChainDesk$Kind;I)LChainDesk$Member;"⟩,
  ⟨"ChainDesk$Declaration", "find", "(LChainDesk$Kind;I)LChainDesk$Member;"⟩,
  ⟨"ChainDesk$Member", "isNamed", "(LChainDesk$Kind;I)Z"⟩,
  ⟨"ChainDesk$Catalog", "isUsable", "(LChainDesk$Declaration;LChainDesk$Member;)Z"⟩,
  ⟨"ChainDesk", "declare", "()I"⟩,
  ⟨"ChainDesk$DeclarationReader", "readHead", "()LChainDesk$Declaration;"⟩,
  ⟨"ChainDesk$Buffer", "takeClass", "()I"⟩,
  ⟨"ChainDesk$Buffer", "take", "(C)Z"⟩,
  ⟨"ChainDesk$Buffer", "isAt", "(C)Z"⟩,
  ⟨"ChainDesk$Declaration", "<init>", "(ILChainDesk$Declaration;)V"⟩,
  ⟨"ChainDesk$DeclarationReader", "readMembers", "(LChainDesk$Declaration;)Z"⟩,
  ⟨"ChainDesk$DeclarationReader", "readMember", "(LChainDesk$Declaration;)Z"⟩,
  ⟨"ChainDesk$Buffer", "takeText", "(Ljava/lang/String;)Z"⟩,
  ⟨"java/lang/String", "length", "()I"⟩,
  ⟨"java/lang/String", "coder", "()B"⟩,
  ⟨"java/lang/String", "charAt", "(I)C"⟩,
  ⟨"java/lang/String", "isLatin1", "()Z"⟩,
  ⟨"java/lang/StringLatin1", "charAt", "([BI)C"⟩,
  ⟨"java/lang/String", "checkIndex", "(II)V"⟩,
  ⟨"jdk/internal/util/Preconditions", "checkIndex", "(IILjava/util/function/BiFunction;)I"⟩,
  ⟨"ChainDesk$DeclarationReader", "readMaker", "(ZI)LChainDesk$Member;"⟩,
  ⟨"ChainDesk$Member", "<init>", "(LChainDesk$Kind;ZZI)V"⟩,
  ⟨"ChainDesk$DeclarationReader", "readParameters", "(LChainDesk$Member;)Z"⟩,
  ⟨"ChainDesk$Buffer", "takeType", "()I"⟩,
  ⟨"ChainDesk$Buffer", "takeWord", "()I"⟩,
  ⟨"ChainDesk$Member", "addParameter", "(I)V"⟩,
  ⟨"ChainDesk$DeclarationReader", "readNamed", "(Z)LChainDesk$Member;"⟩,
  ⟨"ChainDesk$Buffer", "takeName", "()I"⟩,
  ⟨"ChainDesk$Declaration", "allows", "(LChainDesk$Member;)Z"⟩,
  ⟨"ChainDesk$Declaration", "allowsOverride", "(LChainDesk$Member;)Z"⟩,
  ⟨"ChainDesk$Member", "hasTypesOf", "(LChainDesk$Member;)Z"⟩,
  ⟨"ChainDesk$Declaration", "add", "(LChainDesk$Member;)Z"⟩,
  ⟨"ChainDesk$Buffer", "isAtEnd", "()Z"⟩,
  ⟨"ChainDesk$Buffer", "clear", "()V"⟩,
  ⟨"ChainDesk$Catalog", "add", "(LChainDesk$Declaration;)Z"⟩,
  ⟨"ChainDesk", "variable", "()I"⟩,
  ⟨"ChainDesk$Scope", "isFull", "()Z"⟩,
  ⟨"ChainDesk", "readVariable", "()Z"⟩,
  ⟨"ChainDesk$Scope", "add", "(II)Z"⟩,
  ⟨"ChainDesk$Scope", "typeOf", "(I)I"⟩,
  ⟨"ChainDesk", "enter", "(I)V"⟩,
  ⟨"ChainDesk", "complete", "(II)I"⟩,
  ⟨"ChainDesk$Completer", "keepVariables", "()V"⟩,
  ⟨"ChainDesk$Completer", "startShelf", "(I)V"⟩,
  ⟨"ChainDesk$Phrase", "addName", "(I)V"⟩,
  ⟨"ChainDesk$Phrase", "add", "(C)V"⟩,
  ⟨"ChainDesk$Shelf", "keep", "(LChainDesk$Phrase;)V"⟩,
  ⟨"ChainDesk$Shelf", "hasRoomFrom", "(LChainDesk$Phrase;)Z"⟩,
  ⟨"ChainDesk$Phrase", "isTooLong", "()Z"⟩,
  ⟨"ChainDesk$Phrase", "isBefore", "(LChainDesk$Phrase;)Z"⟩,
  ⟨"ChainDesk$Phrase", "copyFrom", "(LChainDesk$Phrase;)V"⟩,
  ⟨"ChainDesk$Completer", "keepOfCost", "(I)V"⟩,
  ⟨"ChainDesk$Completer", "keepOfClass", "(II)V"⟩,
  ⟨"ChainDesk$Phrase", "addText", "(Ljava/lang/String;)V"⟩,
  ⟨"ChainDesk$Phrase", "addClass", "(I)V"⟩,
  ⟨"ChainDesk$Completer", "keepUses", "(LChainDesk$Member;I)V"⟩,
  ⟨"ChainDesk$Completer", "keepCalls", "(LChainDesk$Member;II)V"⟩,
  ⟨"ChainDesk$Phrase", "addPhrase", "(LChainDesk$Phrase;)V"⟩,
  ⟨"ChainDesk$Completer", "keepSelections", "(LChainDesk$Phrase;I)V"⟩,
  ⟨"ChainDesk$Completer", "propose", "(II)I"⟩,
  ⟨"ChainDesk", "check", "()I"⟩,
  ⟨"ChainDesk$ExpressionReader", "read", "()I"⟩,
  ⟨"ChainDesk$ExpressionReader", "readExpression", "(I)I"⟩,
  ⟨"ChainDesk$ExpressionReader", "readHead", "(I)I"⟩,
  ⟨"ChainDesk$Catalog", "findMaker", "(I)LChainDesk$Member;"⟩,
  ⟨"ChainDesk$Catalog", "findOwn", "(ILChainDesk$Kind;I)LChainDesk$Member;"⟩,
  ⟨"ChainDesk$ExpressionReader", "readUse", "(LChainDesk$Member;I)I"⟩,
  ⟨"ChainDesk$ExpressionReader", "readArguments", "(LChainDesk$Member;I)Z"⟩,
  ⟨"ChainDesk$ExpressionReader", "kindAhead", "()LChainDesk$Kind;"⟩,
  ⟨"ChainDesk$Catalog", "findStatic", "(ILChainDesk$Kind;I)LChainDesk$Member;"⟩,
  ⟨"ChainDesk$ExpressionReader", "readSelection", "(II)I"⟩,
  ⟨"ChainDeskModel", "<init>", "()V"⟩,
  ⟨"ChainDeskModel", "thrown", "()I"⟩,
  ⟨"ChainDeskModel", "put", "(II)Z"⟩,
  ⟨"ChainDeskModel", "outside", "(III)Z"⟩,
  ⟨"ChainDeskModel", "declare", "()I"⟩,
  ⟨"ChainDeskModel", "readDeclaration", "()I"⟩,
  ⟨"ChainDeskModel", "readClass", "()I"⟩,
  ⟨"ChainDeskModel", "look", "(I)C"⟩,
  ⟨"ChainDeskModel", "large", "(C)Z"⟩,
  ⟨"ChainDeskModel", "must", "(Z)V"⟩,
  ⟨"ChainDeskModel", "pass", "(C)Z"⟩,
  ⟨"ChainDeskModel", "expect", "(C)V"⟩,
  ⟨"ChainDeskModel", "readMember", "(II)V"⟩,
  ⟨"ChainDeskModel", "word", "(ICCCCCC)Z"⟩,
  ⟨"ChainDeskModel", "readList", "(I)V"⟩,
  ⟨"ChainDeskModel", "readType", "()I"⟩,
  ⟨"ChainDeskModel", "letters", "()I"⟩,
  ⟨"ChainDeskModel", "small", "(C)Z"⟩,
  ⟨"ChainDeskModel", "spell", "(IIII)I"⟩,
  ⟨"ChainDeskModel", "readName", "()I"⟩,
  ⟨"ChainDeskModel", "isWord", "(I)Z"⟩,
  ⟨"ChainDeskModel", "allowed", "(II)Z"⟩,
  ⟨"ChainDeskModel", "sameTypes", "(II)Z"⟩,
  ⟨"ChainDeskModel", "refuse", "(I)I"⟩,
  ⟨"ChainDeskModel", "copyMember", "(II)V"⟩,
  ⟨"ChainDeskModel", "variable", "()I"⟩,
  ⟨"ChainDeskModel", "variableOf", "(I)I"⟩,
  ⟨"ChainDeskModel", "forget", "()V"⟩,
  ⟨"ChainDeskModel", "enter", "(I)V"⟩,
  ⟨"ChainDeskModel", "fits", "(II)Z"⟩,
  ⟨"ChainDeskModel", "fit", "(II)Z"⟩,
  ⟨"ChainDeskModel", "aboveOf", "(I)I"⟩,
  ⟨"ChainDeskModel", "complete", "(II)I"⟩,
  ⟨"ChainDeskModel", "keepVariables", "()V"⟩,
  ⟨"ChainDeskModel", "writeName", "(I)V"⟩,
  ⟨"ChainDeskModel", "write", "(C)V"⟩,
  ⟨"ChainDeskModel", "keep", "(II)V"⟩,
  ⟨"ChainDeskModel", "before", "(I)Z"⟩,
  ⟨"ChainDeskModel", "copyKept", "(II)V"⟩,
  ⟨"ChainDeskModel", "keepCost", "(I)V"⟩,
  ⟨"ChainDeskModel", "usable", "(I)Z"⟩,
  ⟨"ChainDeskModel", "offer", "(IIII)V"⟩,
  ⟨"ChainDeskModel", "costOf", "(I)I"⟩,
  ⟨"ChainDeskModel", "make", "(IIII)V"⟩,
  ⟨"ChainDeskModel", "writeKept", "(I)V"⟩,
  ⟨"ChainDeskModel", "sees", "(II)Z"⟩,
  ⟨"ChainDeskModel", "behind", "(I)Z"⟩,
  ⟨"ChainDeskModel", "propose", "(I)V"⟩,
  ⟨"ChainDeskModel", "check", "()I"⟩,
  ⟨"ChainDeskModel", "primary", "()I"⟩,
  ⟨"ChainDeskModel", "makerOf", "(I)I"⟩,
  ⟨"ChainDeskModel", "use", "(I)I"⟩,
  ⟨"ChainDeskModel", "memberOf", "(IIZ)I"⟩,
  ⟨"ChainDeskModel", "further", "(I)I"⟩,
  ⟨"ChainDeskModel", "checkedCost", "()I"⟩,
  ⟨"ChainDeskModel", "proposal", "(II)I"⟩,
  ⟨"ChainDeskModel", "letter", "(II)I"⟩,
  ⟨"ChainDeskModel", "members", "(I)I"⟩,
  ⟨"ChainDeskModel", "seen", "(II)I"⟩,
  ⟨"ChainDeskLaw", "declare", "(LChainDesk;[J)I"⟩,
  ⟨"ChainDeskLaw", "variable", "(LChainDesk;[J)I"⟩,
  ⟨"ChainDeskLaw", "enter", "(LChainDesk;I)I"⟩,
  ⟨"ChainDeskLaw", "complete", "(LChainDesk;II[J)I"⟩,
  ⟨"ChainDeskLaw", "check", "(LChainDesk;[J)I"⟩]
def cd_yn (y : Nat) : MethodName := cd_ynL.getD y ⟨"", "", ""⟩
def cd_btL : List ByteArray := [code, prog_1_method_1_code, prog_2_method_1_code, prog_3_method_1_code, prog_11_method_1_code, prog_6_method_1_code, prog_7_method_1_code, prog_4_method_1_code, prog_10_method_1_code, prog_12_method_1_code, prog_1_method_2_code, prog_2_method_2_code, prog_1_method_5_code, prog_1_method_9_code, prog_1_method_10_code, prog_1_method_17_code, prog_3_method_4_code, prog_1_method_11_code, prog_4_method_5_code, prog_1_method_12_code, prog_10_method_10_code, prog_1_method_13_code, prog_3_method_3_code, prog_1_method_14_code, prog_1_method_16_code, prog_3_method_8_code, prog_3_method_7_code, prog_3_method_6_code, prog_5_method_3_code, prog_9_method_3_code, prog_3_method_5_code, prog_1_method_3_code, prog_6_method_2_code, prog_2_method_8_code, prog_2_method_6_code, prog_2_method_5_code, prog_5_method_1_code, prog_6_method_3_code, prog_6_method_4_code, prog_2_method_7_code, prog_21_method_54_code, prog_21_method_152_code, prog_21_method_56_code, prog_21_method_154_code, prog_22_method_2_code, prog_21_method_155_code, prog_26_method_11_code, prog_6_method_5_code, prog_9_method_1_code, prog_6_method_7_code, prog_2_method_9_code, prog_2_method_11_code, prog_9_method_2_code, prog_6_method_6_code, prog_2_method_10_code, prog_5_method_4_code, prog_5_method_5_code, prog_9_method_4_code, prog_5_method_2_code, prog_2_method_4_code, prog_2_method_3_code, prog_3_method_2_code, prog_1_method_4_code, prog_11_method_2_code, prog_1_method_15_code, prog_11_method_3_code, prog_11_method_4_code, prog_1_method_6_code, prog_1_method_7_code, prog_4_method_2_code, prog_4_method_6_code, prog_10_method_4_code, prog_10_method_2_code, prog_12_method_3_code, prog_12_method_2_code, prog_10_method_8_code, prog_10_method_9_code, prog_10_method_7_code, prog_4_method_3_code, prog_4_method_7_code, prog_10_method_3_code, prog_10_method_5_code, prog_4_method_9_code, prog_4_method_10_code, prog_10_method_6_code, prog_4_method_8_code, prog_4_method_4_code, prog_1_method_8_code, prog_7_method_2_code, prog_7_method_3_code, prog_7_method_4_code, prog_3_method_10_code, prog_3_method_11_code, prog_7_method_7_code, prog_7_method_8_code, prog_7_method_6_code, prog_3_method_9_code, prog_7_method_5_code, prog_14_method_1_code, prog_14_method_2_code, prog_14_method_5_code, prog_14_method_4_code, prog_14_method_24_code, prog_14_method_23_code, prog_14_method_16_code, prog_14_method_6_code, prog_14_method_15_code, prog_14_method_7_code, prog_14_method_8_code, prog_14_method_9_code, prog_14_method_20_code, prog_14_method_18_code, prog_14_method_19_code, prog_14_method_17_code, prog_14_method_12_code, prog_14_method_10_code, prog_14_method_11_code, prog_14_method_14_code, prog_14_method_13_code, prog_14_method_22_code, prog_14_method_21_code, prog_14_method_3_code, prog_14_method_25_code, prog_14_method_27_code, prog_14_method_26_code, prog_14_method_28_code, prog_14_method_29_code, prog_14_method_32_code, prog_14_method_31_code, prog_14_method_30_code, prog_14_method_47_code, prog_14_method_46_code, prog_14_method_37_code, prog_14_method_36_code, prog_14_method_41_code, prog_14_method_39_code, prog_14_method_40_code, prog_14_method_45_code, prog_14_method_33_code, prog_14_method_44_code, prog_14_method_43_code, prog_14_method_42_code, prog_14_method_38_code, prog_14_method_35_code, prog_14_method_34_code, prog_14_method_48_code, prog_14_method_54_code, prog_14_method_52_code, prog_14_method_50_code, prog_14_method_51_code, prog_14_method_49_code, prog_14_method_53_code, prog_14_method_55_code, prog_14_method_56_code, prog_14_method_57_code, prog_14_method_58_code, prog_14_method_59_code, method_3_code, method_4_code, method_5_code, method_6_code, method_7_code]
def cd_bt (y : Nat) : ByteArray := cd_btL.getD y ByteArray.empty
def cd_mlL : List Nat := [7, 1, 1, 2, 1, 3, 4, 4, 1, 2, 3, 5, 1, 1, 3, 1, 3, 4, 2, 4, 2, 3, 2, 3, 1, 6, 3, 6, 4, 3, 3, 3, 4, 1, 2, 2, 3, 3, 4, 3, 1, 1, 2, 1, 2, 2, 3, 4, 5, 4, 2, 4, 2, 7, 2, 2, 4, 3, 2, 1, 1, 3, 3, 1, 3, 3, 3, 2, 4, 2, 2, 4, 2, 4, 2, 1, 3, 2, 5, 7, 3, 2, 3, 11, 3, 8, 6, 2, 2, 4, 4, 2, 6, 3, 5, 1, 5, 4, 1, 1, 4, 3, 3, 4, 1, 2, 1, 2, 3, 2, 3, 9, 3, 3, 3, 1, 5, 2, 1, 6, 5, 2, 3, 3, 4, 1, 2, 3, 5, 2, 4, 2, 4, 2, 5, 3, 4, 6, 2, 13, 2, 5, 3, 5, 2, 3, 2, 3, 4, 2, 7, 4, 1, 3, 3, 2, 5, 3, 3, 3, 5, 3]
def cd_ml (y : Nat) : Nat := cd_mlL.getD y 0
def cd_rttL : List (Option FieldType) := [(some .boolean), none, none, none, none, none, none, none, none, none, (some .boolean), (some .boolean), none, (some .int), (some .boolean), (some .boolean), (some .boolean), (some .int), (some (.object "ChainDesk$Phrase")), (some .int), (some .int), (some .int), (some (.object "ChainDesk$Declaration")), (some .int), (some .boolean), (some .int), (some .boolean), (some (.object "ChainDesk$Member")), (some (.object "ChainDesk$Member")), (some .boolean), (some .boolean), (some .int), (some (.object "ChainDesk$Declaration")), (some .int), (some .boolean), (some .boolean), none, (some .boolean), (some .boolean), (some .boolean), (some .int), (some .byte), (some .char), (some .boolean), (some .char), none, (some .int), (some (.object "ChainDesk$Member")), none, (some .boolean), (some .int), (some .int), none, (some (.object "ChainDesk$Member")), (some .int), (some .boolean), (some .boolean), (some .boolean), (some .boolean), (some .boolean), none, (some .boolean), (some .int), (some .boolean), (some .boolean), (some .boolean), (some .int), none, (some .int), none, none, none, none, none, (some .boolean), (some .boolean), (some .boolean), none, none, none, none, none, none, none, none, none, (some .int), (some .int), (some .int), (some .int), (some .int), (some (.object "ChainDesk$Member")), (some (.object "ChainDesk$Member")), (some .int), (some .boolean), (some (.object "ChainDesk$Kind")), (some (.object "ChainDesk$Member")), (some .int), none, (some .int), (some .boolean), (some .boolean), (some .int), (some .int), (some .int), (some .char), (some .boolean), none, (some .boolean), none, none, (some .boolean), none, (some .int), (some .int), (some .boolean), (some .int), (some .int), (some .boolean), (some .boolean), (some .boolean), (some .int), none, (some .int), (some .int), none, none, (some .boolean), (some .boolean), (some .int), (some .int), none, none, none, none, (some .boolean), none, none, (some .boolean), none, (some .int), none, none, (some .boolean), (some .boolean), none, (some .int), (some .int), (some .int), (some .int), (some .int), (some .int), (some .int), (some .int), (some .int), (some .int), (some .int), (some .int), (some .int), (some .int), (some .int), (some .int)]
def cd_rtt (y : Nat) : Option FieldType := cd_rttL.getD y none
def cd_rt (y : Nat) : FieldType := (cd_rtt y).getD .int
def cd_mcL : List Nat := [54, 0, 1, 2, 9, 5, 6, 3, 8, 10, 0, 1, 0, 0, 0, 0, 2, 0, 3, 0, 8, 0, 2, 0, 0, 2, 2, 2, 4, 7, 2, 0, 5, 1, 1, 1, 4, 5, 5, 1, 50, 50, 50, 50, 51, 50, 52, 5, 7, 5, 1, 1, 7, 5, 1, 4, 4, 7, 4, 1, 1, 2, 0, 9, 0, 9, 9, 0, 0, 3, 3, 8, 8, 10, 10, 8, 8, 8, 3, 3, 8, 8, 3, 3, 8, 3, 3, 0, 6, 6, 6, 2, 2, 6, 6, 6, 2, 6, 11, 11, 11, 11, 11, 11, 11, 11, 11, 11, 11, 11, 11, 11, 11, 11, 11, 11, 11, 11, 11, 11, 11, 11, 11, 11, 11, 11, 11, 11, 11, 11, 11, 11, 11, 11, 11, 11, 11, 11, 11, 11, 11, 11, 11, 11, 11, 11, 11, 11, 11, 11, 11, 11, 11, 11, 11, 11, 11, 54, 54, 54, 54, 54]
def cd_mc (y : Nat) : Nat := cd_mcL.getD y 99
/-- handlers: from, to, handler, entry; class -/
def cd_hsL : List (List ((Nat × Nat × Nat × Nat) × Nat)) := [[], [], [], [], [], [], [], [], [], [], [], [], [], [], [], [], [], [], [], [], [], [], [], [], [], [], [], [], [], [], [], [], [], [], [], [], [], [], [], [], [], [], [], [], [], [], [], [], [], [], [], [], [], [], [], [], [], [], [], [], [], [], [], [], [], [], [], [], [], [], [], [], [], [], [], [], [], [], [], [], [], [], [], [], [], [], [], [], [], [], [], [], [], [], [], [], [], [], [], [], [], [], [], [], [], [], [], [], [], [], [], [], [], [], [], [], [], [], [], [], [], [], [], [], [], [], [], [], [], [], [], [], [], [], [], [], [], [], [], [], [], [], [], [], [], [], [], [], [], [], [], [], [], [], [], [], [], [((0, 8, 11, 13), 12), ((0, 8, 14, 15), 13)], [((0, 8, 11, 13), 12), ((0, 8, 14, 15), 13)], [((0, 5, 8, 13), 12)], [((0, 10, 13, 13), 12)], [((0, 8, 11, 13), 12)]]
def cd_hs (y : Nat) : List ((Nat × Nat × Nat × Nat) × Nat) := cd_hsL.getD y []
