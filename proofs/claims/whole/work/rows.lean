section
-- ===== PART A: goes FIRST, ahead of the names: the tables' words, and 'selects' of the private methods out of them =====
/-- a private method of a class that the tables say can be made, by its rows of tables_1 -/
def lw_okq (q : MethodName × Nat) : Prop := (q.1.cls ≠ "java/lang/invoke/MethodHandle" ∧ q.1.cls ≠ "java/lang/invoke/VarHandle") ∧ Cond.instantiable q.1.cls q.2 ∈ tables_1 ∧ Cond.privateMethod q.1 ∈ tables_1 ∧ Cond.instanceMethod q.1 ∈ tables_1
theorem lw_p0 : lw_okq (⟨"ChainDesk$DeclarationReader", "readMember", "(LChainDesk$Declaration;)Z"⟩, 2) := ⟨⟨by decide +kernel, by decide +kernel⟩, List.mem_of_getElem? (i := 92) (by decide +kernel), List.mem_of_getElem? (i := 369) (by decide +kernel), List.mem_of_getElem? (i := 370) (by decide +kernel)⟩
theorem lw_p1 : lw_okq (⟨"ChainDesk$DeclarationReader", "readMaker", "(ZI)LChainDesk$Member;"⟩, 2) := ⟨⟨by decide +kernel, by decide +kernel⟩, List.mem_of_getElem? (i := 92) (by decide +kernel), List.mem_of_getElem? (i := 427) (by decide +kernel), List.mem_of_getElem? (i := 428) (by decide +kernel)⟩
theorem lw_p2 : lw_okq (⟨"ChainDesk$DeclarationReader", "readParameters", "(LChainDesk$Member;)Z"⟩, 2) := ⟨⟨by decide +kernel, by decide +kernel⟩, List.mem_of_getElem? (i := 92) (by decide +kernel), List.mem_of_getElem? (i := 480) (by decide +kernel), List.mem_of_getElem? (i := 481) (by decide +kernel)⟩
theorem lw_p3 : lw_okq (⟨"ChainDesk$Buffer", "takeWord", "()I"⟩, 3) := ⟨⟨by decide +kernel, by decide +kernel⟩, List.mem_of_getElem? (i := 35) (by decide +kernel), List.mem_of_getElem? (i := 489) (by decide +kernel), List.mem_of_getElem? (i := 490) (by decide +kernel)⟩
theorem lw_p4 : lw_okq (⟨"ChainDesk$DeclarationReader", "readNamed", "(Z)LChainDesk$Member;"⟩, 2) := ⟨⟨by decide +kernel, by decide +kernel⟩, List.mem_of_getElem? (i := 92) (by decide +kernel), List.mem_of_getElem? (i := 497) (by decide +kernel), List.mem_of_getElem? (i := 498) (by decide +kernel)⟩
theorem lw_p5 : lw_okq (⟨"ChainDesk$Declaration", "allowsOverride", "(LChainDesk$Member;)Z"⟩, 4) := ⟨⟨by decide +kernel, by decide +kernel⟩, List.mem_of_getElem? (i := 335) (by decide +kernel), List.mem_of_getElem? (i := 514) (by decide +kernel), List.mem_of_getElem? (i := 515) (by decide +kernel)⟩
theorem lw_p6 : lw_okq (⟨"java/lang/Throwable", "fillInStackTrace", "(I)Ljava/lang/Throwable;"⟩, 6) := ⟨⟨by decide +kernel, by decide +kernel⟩, List.mem_of_getElem? (i := 571) (by decide +kernel), List.mem_of_getElem? (i := 569) (by decide +kernel), List.mem_of_getElem? (i := 570) (by decide +kernel)⟩
theorem lw_p7 : lw_okq (⟨"ChainDesk", "readVariable", "()Z"⟩, 7) := ⟨⟨by decide +kernel, by decide +kernel⟩, List.mem_of_getElem? (i := 27) (by decide +kernel), List.mem_of_getElem? (i := 626) (by decide +kernel), List.mem_of_getElem? (i := 627) (by decide +kernel)⟩
theorem lw_p8 : lw_okq (⟨"ChainDesk$Completer", "startShelf", "(I)V"⟩, 7) := ⟨⟨by decide +kernel, by decide +kernel⟩, List.mem_of_getElem? (i := 125) (by decide +kernel), List.mem_of_getElem? (i := 660) (by decide +kernel), List.mem_of_getElem? (i := 661) (by decide +kernel)⟩
theorem lw_p9 : lw_okq (⟨"ChainDesk$Completer", "keepOfClass", "(II)V"⟩, 7) := ⟨⟨by decide +kernel, by decide +kernel⟩, List.mem_of_getElem? (i := 125) (by decide +kernel), List.mem_of_getElem? (i := 699) (by decide +kernel), List.mem_of_getElem? (i := 700) (by decide +kernel)⟩
theorem lw_p10 : lw_okq (⟨"ChainDesk$Completer", "keepUses", "(LChainDesk$Member;I)V"⟩, 7) := ⟨⟨by decide +kernel, by decide +kernel⟩, List.mem_of_getElem? (i := 125) (by decide +kernel), List.mem_of_getElem? (i := 718) (by decide +kernel), List.mem_of_getElem? (i := 719) (by decide +kernel)⟩
theorem lw_p11 : lw_okq (⟨"ChainDesk$Completer", "keepCalls", "(LChainDesk$Member;II)V"⟩, 7) := ⟨⟨by decide +kernel, by decide +kernel⟩, List.mem_of_getElem? (i := 125) (by decide +kernel), List.mem_of_getElem? (i := 723) (by decide +kernel), List.mem_of_getElem? (i := 724) (by decide +kernel)⟩
theorem lw_p12 : lw_okq (⟨"ChainDesk$Completer", "keepSelections", "(LChainDesk$Phrase;I)V"⟩, 7) := ⟨⟨by decide +kernel, by decide +kernel⟩, List.mem_of_getElem? (i := 125) (by decide +kernel), List.mem_of_getElem? (i := 736) (by decide +kernel), List.mem_of_getElem? (i := 737) (by decide +kernel)⟩
theorem lw_p13 : lw_okq (⟨"ChainDesk$ExpressionReader", "readExpression", "(I)I"⟩, 4) := ⟨⟨by decide +kernel, by decide +kernel⟩, List.mem_of_getElem? (i := 105) (by decide +kernel), List.mem_of_getElem? (i := 756) (by decide +kernel), List.mem_of_getElem? (i := 757) (by decide +kernel)⟩
theorem lw_p14 : lw_okq (⟨"ChainDesk$ExpressionReader", "readHead", "(I)I"⟩, 4) := ⟨⟨by decide +kernel, by decide +kernel⟩, List.mem_of_getElem? (i := 105) (by decide +kernel), List.mem_of_getElem? (i := 760) (by decide +kernel), List.mem_of_getElem? (i := 761) (by decide +kernel)⟩
theorem lw_p15 : lw_okq (⟨"ChainDesk$Catalog", "findOwn", "(ILChainDesk$Kind;I)LChainDesk$Member;"⟩, 3) := ⟨⟨by decide +kernel, by decide +kernel⟩, List.mem_of_getElem? (i := 52) (by decide +kernel), List.mem_of_getElem? (i := 771) (by decide +kernel), List.mem_of_getElem? (i := 772) (by decide +kernel)⟩
def lw_privs_1 : List (MethodName × Nat) := [(⟨"ChainDesk$DeclarationReader", "readMember", "(LChainDesk$Declaration;)Z"⟩, 2), (⟨"ChainDesk$DeclarationReader", "readMaker", "(ZI)LChainDesk$Member;"⟩, 2), (⟨"ChainDesk$DeclarationReader", "readParameters", "(LChainDesk$Member;)Z"⟩, 2), (⟨"ChainDesk$Buffer", "takeWord", "()I"⟩, 3), (⟨"ChainDesk$DeclarationReader", "readNamed", "(Z)LChainDesk$Member;"⟩, 2), (⟨"ChainDesk$Declaration", "allowsOverride", "(LChainDesk$Member;)Z"⟩, 4), (⟨"java/lang/Throwable", "fillInStackTrace", "(I)Ljava/lang/Throwable;"⟩, 6), (⟨"ChainDesk", "readVariable", "()Z"⟩, 7), (⟨"ChainDesk$Completer", "startShelf", "(I)V"⟩, 7), (⟨"ChainDesk$Completer", "keepOfClass", "(II)V"⟩, 7), (⟨"ChainDesk$Completer", "keepUses", "(LChainDesk$Member;I)V"⟩, 7), (⟨"ChainDesk$Completer", "keepCalls", "(LChainDesk$Member;II)V"⟩, 7), (⟨"ChainDesk$Completer", "keepSelections", "(LChainDesk$Phrase;I)V"⟩, 7), (⟨"ChainDesk$ExpressionReader", "readExpression", "(I)I"⟩, 4), (⟨"ChainDesk$ExpressionReader", "readHead", "(I)I"⟩, 4), (⟨"ChainDesk$Catalog", "findOwn", "(ILChainDesk$Kind;I)LChainDesk$Member;"⟩, 3)]
theorem lw_r1 : ∀ q ∈ lw_privs_1, lw_okq q := List.forall_mem_cons.mpr ⟨lw_p0, List.forall_mem_cons.mpr ⟨lw_p1, List.forall_mem_cons.mpr ⟨lw_p2, List.forall_mem_cons.mpr ⟨lw_p3, List.forall_mem_cons.mpr ⟨lw_p4, List.forall_mem_cons.mpr ⟨lw_p5, List.forall_mem_cons.mpr ⟨lw_p6, List.forall_mem_cons.mpr ⟨lw_p7, List.forall_mem_cons.mpr ⟨lw_p8, List.forall_mem_cons.mpr ⟨lw_p9, List.forall_mem_cons.mpr ⟨lw_p10, List.forall_mem_cons.mpr ⟨lw_p11, List.forall_mem_cons.mpr ⟨lw_p12, List.forall_mem_cons.mpr ⟨lw_p13, List.forall_mem_cons.mpr ⟨lw_p14, List.forall_mem_cons.mpr ⟨lw_p15, fun _ h => absurd h List.not_mem_nil⟩⟩⟩⟩⟩⟩⟩⟩⟩⟩⟩⟩⟩⟩⟩⟩
theorem lw_p16 : lw_okq (⟨"ChainDesk$ExpressionReader", "readUse", "(LChainDesk$Member;I)I"⟩, 4) := ⟨⟨by decide +kernel, by decide +kernel⟩, List.mem_of_getElem? (i := 105) (by decide +kernel), List.mem_of_getElem? (i := 775) (by decide +kernel), List.mem_of_getElem? (i := 776) (by decide +kernel)⟩
theorem lw_p17 : lw_okq (⟨"ChainDesk$ExpressionReader", "readArguments", "(LChainDesk$Member;I)Z"⟩, 4) := ⟨⟨by decide +kernel, by decide +kernel⟩, List.mem_of_getElem? (i := 105) (by decide +kernel), List.mem_of_getElem? (i := 780) (by decide +kernel), List.mem_of_getElem? (i := 781) (by decide +kernel)⟩
theorem lw_p18 : lw_okq (⟨"ChainDesk$ExpressionReader", "kindAhead", "()LChainDesk$Kind;"⟩, 4) := ⟨⟨by decide +kernel, by decide +kernel⟩, List.mem_of_getElem? (i := 105) (by decide +kernel), List.mem_of_getElem? (i := 788) (by decide +kernel), List.mem_of_getElem? (i := 789) (by decide +kernel)⟩
theorem lw_p19 : lw_okq (⟨"ChainDesk$ExpressionReader", "readSelection", "(II)I"⟩, 4) := ⟨⟨by decide +kernel, by decide +kernel⟩, List.mem_of_getElem? (i := 105) (by decide +kernel), List.mem_of_getElem? (i := 798) (by decide +kernel), List.mem_of_getElem? (i := 799) (by decide +kernel)⟩
theorem lw_p20 : lw_okq (⟨"ChainDeskModel", "readDeclaration", "()I"⟩, 39) := ⟨⟨by decide +kernel, by decide +kernel⟩, List.mem_of_getElem? (i := 804) (by decide +kernel), List.mem_of_getElem? (i := 944) (by decide +kernel), List.mem_of_getElem? (i := 945) (by decide +kernel)⟩
theorem lw_p21 : lw_okq (⟨"ChainDeskModel", "readClass", "()I"⟩, 39) := ⟨⟨by decide +kernel, by decide +kernel⟩, List.mem_of_getElem? (i := 804) (by decide +kernel), List.mem_of_getElem? (i := 948) (by decide +kernel), List.mem_of_getElem? (i := 949) (by decide +kernel)⟩
theorem lw_p22 : lw_okq (⟨"ChainDeskModel", "look", "(I)C"⟩, 39) := ⟨⟨by decide +kernel, by decide +kernel⟩, List.mem_of_getElem? (i := 804) (by decide +kernel), List.mem_of_getElem? (i := 952) (by decide +kernel), List.mem_of_getElem? (i := 953) (by decide +kernel)⟩
theorem lw_p23 : lw_okq (⟨"ChainDeskModel", "must", "(Z)V"⟩, 39) := ⟨⟨by decide +kernel, by decide +kernel⟩, List.mem_of_getElem? (i := 804) (by decide +kernel), List.mem_of_getElem? (i := 959) (by decide +kernel), List.mem_of_getElem? (i := 960) (by decide +kernel)⟩
theorem lw_p24 : lw_okq (⟨"ChainDeskModel", "pass", "(C)Z"⟩, 39) := ⟨⟨by decide +kernel, by decide +kernel⟩, List.mem_of_getElem? (i := 804) (by decide +kernel), List.mem_of_getElem? (i := 963) (by decide +kernel), List.mem_of_getElem? (i := 964) (by decide +kernel)⟩
theorem lw_p25 : lw_okq (⟨"ChainDeskModel", "expect", "(C)V"⟩, 39) := ⟨⟨by decide +kernel, by decide +kernel⟩, List.mem_of_getElem? (i := 804) (by decide +kernel), List.mem_of_getElem? (i := 967) (by decide +kernel), List.mem_of_getElem? (i := 968) (by decide +kernel)⟩
theorem lw_p26 : lw_okq (⟨"ChainDeskModel", "readMember", "(II)V"⟩, 39) := ⟨⟨by decide +kernel, by decide +kernel⟩, List.mem_of_getElem? (i := 804) (by decide +kernel), List.mem_of_getElem? (i := 971) (by decide +kernel), List.mem_of_getElem? (i := 972) (by decide +kernel)⟩
theorem lw_p27 : lw_okq (⟨"ChainDeskModel", "word", "(ICCCCCC)Z"⟩, 39) := ⟨⟨by decide +kernel, by decide +kernel⟩, List.mem_of_getElem? (i := 804) (by decide +kernel), List.mem_of_getElem? (i := 975) (by decide +kernel), List.mem_of_getElem? (i := 976) (by decide +kernel)⟩
theorem lw_p28 : lw_okq (⟨"ChainDeskModel", "readList", "(I)V"⟩, 39) := ⟨⟨by decide +kernel, by decide +kernel⟩, List.mem_of_getElem? (i := 804) (by decide +kernel), List.mem_of_getElem? (i := 979) (by decide +kernel), List.mem_of_getElem? (i := 980) (by decide +kernel)⟩
theorem lw_p29 : lw_okq (⟨"ChainDeskModel", "readType", "()I"⟩, 39) := ⟨⟨by decide +kernel, by decide +kernel⟩, List.mem_of_getElem? (i := 804) (by decide +kernel), List.mem_of_getElem? (i := 983) (by decide +kernel), List.mem_of_getElem? (i := 984) (by decide +kernel)⟩
theorem lw_p30 : lw_okq (⟨"ChainDeskModel", "letters", "()I"⟩, 39) := ⟨⟨by decide +kernel, by decide +kernel⟩, List.mem_of_getElem? (i := 804) (by decide +kernel), List.mem_of_getElem? (i := 987) (by decide +kernel), List.mem_of_getElem? (i := 988) (by decide +kernel)⟩
theorem lw_p31 : lw_okq (⟨"ChainDeskModel", "readName", "()I"⟩, 39) := ⟨⟨by decide +kernel, by decide +kernel⟩, List.mem_of_getElem? (i := 804) (by decide +kernel), List.mem_of_getElem? (i := 997) (by decide +kernel), List.mem_of_getElem? (i := 998) (by decide +kernel)⟩
def lw_privs_2 : List (MethodName × Nat) := [(⟨"ChainDesk$ExpressionReader", "readUse", "(LChainDesk$Member;I)I"⟩, 4), (⟨"ChainDesk$ExpressionReader", "readArguments", "(LChainDesk$Member;I)Z"⟩, 4), (⟨"ChainDesk$ExpressionReader", "kindAhead", "()LChainDesk$Kind;"⟩, 4), (⟨"ChainDesk$ExpressionReader", "readSelection", "(II)I"⟩, 4), (⟨"ChainDeskModel", "readDeclaration", "()I"⟩, 39), (⟨"ChainDeskModel", "readClass", "()I"⟩, 39), (⟨"ChainDeskModel", "look", "(I)C"⟩, 39), (⟨"ChainDeskModel", "must", "(Z)V"⟩, 39), (⟨"ChainDeskModel", "pass", "(C)Z"⟩, 39), (⟨"ChainDeskModel", "expect", "(C)V"⟩, 39), (⟨"ChainDeskModel", "readMember", "(II)V"⟩, 39), (⟨"ChainDeskModel", "word", "(ICCCCCC)Z"⟩, 39), (⟨"ChainDeskModel", "readList", "(I)V"⟩, 39), (⟨"ChainDeskModel", "readType", "()I"⟩, 39), (⟨"ChainDeskModel", "letters", "()I"⟩, 39), (⟨"ChainDeskModel", "readName", "()I"⟩, 39)]
theorem lw_r2 : ∀ q ∈ lw_privs_2, lw_okq q := List.forall_mem_cons.mpr ⟨lw_p16, List.forall_mem_cons.mpr ⟨lw_p17, List.forall_mem_cons.mpr ⟨lw_p18, List.forall_mem_cons.mpr ⟨lw_p19, List.forall_mem_cons.mpr ⟨lw_p20, List.forall_mem_cons.mpr ⟨lw_p21, List.forall_mem_cons.mpr ⟨lw_p22, List.forall_mem_cons.mpr ⟨lw_p23, List.forall_mem_cons.mpr ⟨lw_p24, List.forall_mem_cons.mpr ⟨lw_p25, List.forall_mem_cons.mpr ⟨lw_p26, List.forall_mem_cons.mpr ⟨lw_p27, List.forall_mem_cons.mpr ⟨lw_p28, List.forall_mem_cons.mpr ⟨lw_p29, List.forall_mem_cons.mpr ⟨lw_p30, List.forall_mem_cons.mpr ⟨lw_p31, fun _ h => absurd h List.not_mem_nil⟩⟩⟩⟩⟩⟩⟩⟩⟩⟩⟩⟩⟩⟩⟩⟩
theorem lw_p32 : lw_okq (⟨"ChainDeskModel", "allowed", "(II)Z"⟩, 39) := ⟨⟨by decide +kernel, by decide +kernel⟩, List.mem_of_getElem? (i := 804) (by decide +kernel), List.mem_of_getElem? (i := 1004) (by decide +kernel), List.mem_of_getElem? (i := 1005) (by decide +kernel)⟩
theorem lw_p33 : lw_okq (⟨"ChainDeskModel", "sameTypes", "(II)Z"⟩, 39) := ⟨⟨by decide +kernel, by decide +kernel⟩, List.mem_of_getElem? (i := 804) (by decide +kernel), List.mem_of_getElem? (i := 1008) (by decide +kernel), List.mem_of_getElem? (i := 1009) (by decide +kernel)⟩
theorem lw_p34 : lw_okq (⟨"ChainDeskModel", "refuse", "(I)I"⟩, 39) := ⟨⟨by decide +kernel, by decide +kernel⟩, List.mem_of_getElem? (i := 804) (by decide +kernel), List.mem_of_getElem? (i := 1012) (by decide +kernel), List.mem_of_getElem? (i := 1013) (by decide +kernel)⟩
theorem lw_p35 : lw_okq (⟨"ChainDeskModel", "copyMember", "(II)V"⟩, 39) := ⟨⟨by decide +kernel, by decide +kernel⟩, List.mem_of_getElem? (i := 804) (by decide +kernel), List.mem_of_getElem? (i := 1016) (by decide +kernel), List.mem_of_getElem? (i := 1017) (by decide +kernel)⟩
theorem lw_p36 : lw_okq (⟨"ChainDeskModel", "variableOf", "(I)I"⟩, 39) := ⟨⟨by decide +kernel, by decide +kernel⟩, List.mem_of_getElem? (i := 804) (by decide +kernel), List.mem_of_getElem? (i := 1024) (by decide +kernel), List.mem_of_getElem? (i := 1025) (by decide +kernel)⟩
theorem lw_p37 : lw_okq (⟨"ChainDeskModel", "fit", "(II)Z"⟩, 39) := ⟨⟨by decide +kernel, by decide +kernel⟩, List.mem_of_getElem? (i := 804) (by decide +kernel), List.mem_of_getElem? (i := 1040) (by decide +kernel), List.mem_of_getElem? (i := 1041) (by decide +kernel)⟩
theorem lw_p38 : lw_okq (⟨"ChainDeskModel", "aboveOf", "(I)I"⟩, 39) := ⟨⟨by decide +kernel, by decide +kernel⟩, List.mem_of_getElem? (i := 804) (by decide +kernel), List.mem_of_getElem? (i := 1044) (by decide +kernel), List.mem_of_getElem? (i := 1045) (by decide +kernel)⟩
theorem lw_p39 : lw_okq (⟨"ChainDeskModel", "keepVariables", "()V"⟩, 39) := ⟨⟨by decide +kernel, by decide +kernel⟩, List.mem_of_getElem? (i := 804) (by decide +kernel), List.mem_of_getElem? (i := 1052) (by decide +kernel), List.mem_of_getElem? (i := 1053) (by decide +kernel)⟩
theorem lw_p40 : lw_okq (⟨"ChainDeskModel", "writeName", "(I)V"⟩, 39) := ⟨⟨by decide +kernel, by decide +kernel⟩, List.mem_of_getElem? (i := 804) (by decide +kernel), List.mem_of_getElem? (i := 1056) (by decide +kernel), List.mem_of_getElem? (i := 1057) (by decide +kernel)⟩
theorem lw_p41 : lw_okq (⟨"ChainDeskModel", "write", "(C)V"⟩, 39) := ⟨⟨by decide +kernel, by decide +kernel⟩, List.mem_of_getElem? (i := 804) (by decide +kernel), List.mem_of_getElem? (i := 1060) (by decide +kernel), List.mem_of_getElem? (i := 1061) (by decide +kernel)⟩
theorem lw_p42 : lw_okq (⟨"ChainDeskModel", "keep", "(II)V"⟩, 39) := ⟨⟨by decide +kernel, by decide +kernel⟩, List.mem_of_getElem? (i := 804) (by decide +kernel), List.mem_of_getElem? (i := 1064) (by decide +kernel), List.mem_of_getElem? (i := 1065) (by decide +kernel)⟩
theorem lw_p43 : lw_okq (⟨"ChainDeskModel", "before", "(I)Z"⟩, 39) := ⟨⟨by decide +kernel, by decide +kernel⟩, List.mem_of_getElem? (i := 804) (by decide +kernel), List.mem_of_getElem? (i := 1068) (by decide +kernel), List.mem_of_getElem? (i := 1069) (by decide +kernel)⟩
theorem lw_p44 : lw_okq (⟨"ChainDeskModel", "copyKept", "(II)V"⟩, 39) := ⟨⟨by decide +kernel, by decide +kernel⟩, List.mem_of_getElem? (i := 804) (by decide +kernel), List.mem_of_getElem? (i := 1072) (by decide +kernel), List.mem_of_getElem? (i := 1073) (by decide +kernel)⟩
theorem lw_p45 : lw_okq (⟨"ChainDeskModel", "keepCost", "(I)V"⟩, 39) := ⟨⟨by decide +kernel, by decide +kernel⟩, List.mem_of_getElem? (i := 804) (by decide +kernel), List.mem_of_getElem? (i := 1076) (by decide +kernel), List.mem_of_getElem? (i := 1077) (by decide +kernel)⟩
theorem lw_p46 : lw_okq (⟨"ChainDeskModel", "usable", "(I)Z"⟩, 39) := ⟨⟨by decide +kernel, by decide +kernel⟩, List.mem_of_getElem? (i := 804) (by decide +kernel), List.mem_of_getElem? (i := 1080) (by decide +kernel), List.mem_of_getElem? (i := 1081) (by decide +kernel)⟩
theorem lw_p47 : lw_okq (⟨"ChainDeskModel", "offer", "(IIII)V"⟩, 39) := ⟨⟨by decide +kernel, by decide +kernel⟩, List.mem_of_getElem? (i := 804) (by decide +kernel), List.mem_of_getElem? (i := 1084) (by decide +kernel), List.mem_of_getElem? (i := 1085) (by decide +kernel)⟩
def lw_privs_3 : List (MethodName × Nat) := [(⟨"ChainDeskModel", "allowed", "(II)Z"⟩, 39), (⟨"ChainDeskModel", "sameTypes", "(II)Z"⟩, 39), (⟨"ChainDeskModel", "refuse", "(I)I"⟩, 39), (⟨"ChainDeskModel", "copyMember", "(II)V"⟩, 39), (⟨"ChainDeskModel", "variableOf", "(I)I"⟩, 39), (⟨"ChainDeskModel", "fit", "(II)Z"⟩, 39), (⟨"ChainDeskModel", "aboveOf", "(I)I"⟩, 39), (⟨"ChainDeskModel", "keepVariables", "()V"⟩, 39), (⟨"ChainDeskModel", "writeName", "(I)V"⟩, 39), (⟨"ChainDeskModel", "write", "(C)V"⟩, 39), (⟨"ChainDeskModel", "keep", "(II)V"⟩, 39), (⟨"ChainDeskModel", "before", "(I)Z"⟩, 39), (⟨"ChainDeskModel", "copyKept", "(II)V"⟩, 39), (⟨"ChainDeskModel", "keepCost", "(I)V"⟩, 39), (⟨"ChainDeskModel", "usable", "(I)Z"⟩, 39), (⟨"ChainDeskModel", "offer", "(IIII)V"⟩, 39)]
theorem lw_r3 : ∀ q ∈ lw_privs_3, lw_okq q := List.forall_mem_cons.mpr ⟨lw_p32, List.forall_mem_cons.mpr ⟨lw_p33, List.forall_mem_cons.mpr ⟨lw_p34, List.forall_mem_cons.mpr ⟨lw_p35, List.forall_mem_cons.mpr ⟨lw_p36, List.forall_mem_cons.mpr ⟨lw_p37, List.forall_mem_cons.mpr ⟨lw_p38, List.forall_mem_cons.mpr ⟨lw_p39, List.forall_mem_cons.mpr ⟨lw_p40, List.forall_mem_cons.mpr ⟨lw_p41, List.forall_mem_cons.mpr ⟨lw_p42, List.forall_mem_cons.mpr ⟨lw_p43, List.forall_mem_cons.mpr ⟨lw_p44, List.forall_mem_cons.mpr ⟨lw_p45, List.forall_mem_cons.mpr ⟨lw_p46, List.forall_mem_cons.mpr ⟨lw_p47, fun _ h => absurd h List.not_mem_nil⟩⟩⟩⟩⟩⟩⟩⟩⟩⟩⟩⟩⟩⟩⟩⟩
theorem lw_p48 : lw_okq (⟨"ChainDeskModel", "costOf", "(I)I"⟩, 39) := ⟨⟨by decide +kernel, by decide +kernel⟩, List.mem_of_getElem? (i := 804) (by decide +kernel), List.mem_of_getElem? (i := 1088) (by decide +kernel), List.mem_of_getElem? (i := 1089) (by decide +kernel)⟩
theorem lw_p49 : lw_okq (⟨"ChainDeskModel", "make", "(IIII)V"⟩, 39) := ⟨⟨by decide +kernel, by decide +kernel⟩, List.mem_of_getElem? (i := 804) (by decide +kernel), List.mem_of_getElem? (i := 1092) (by decide +kernel), List.mem_of_getElem? (i := 1093) (by decide +kernel)⟩
theorem lw_p50 : lw_okq (⟨"ChainDeskModel", "writeKept", "(I)V"⟩, 39) := ⟨⟨by decide +kernel, by decide +kernel⟩, List.mem_of_getElem? (i := 804) (by decide +kernel), List.mem_of_getElem? (i := 1096) (by decide +kernel), List.mem_of_getElem? (i := 1097) (by decide +kernel)⟩
theorem lw_p51 : lw_okq (⟨"ChainDeskModel", "sees", "(II)Z"⟩, 39) := ⟨⟨by decide +kernel, by decide +kernel⟩, List.mem_of_getElem? (i := 804) (by decide +kernel), List.mem_of_getElem? (i := 1100) (by decide +kernel), List.mem_of_getElem? (i := 1101) (by decide +kernel)⟩
theorem lw_p52 : lw_okq (⟨"ChainDeskModel", "behind", "(I)Z"⟩, 39) := ⟨⟨by decide +kernel, by decide +kernel⟩, List.mem_of_getElem? (i := 804) (by decide +kernel), List.mem_of_getElem? (i := 1104) (by decide +kernel), List.mem_of_getElem? (i := 1105) (by decide +kernel)⟩
theorem lw_p53 : lw_okq (⟨"ChainDeskModel", "propose", "(I)V"⟩, 39) := ⟨⟨by decide +kernel, by decide +kernel⟩, List.mem_of_getElem? (i := 804) (by decide +kernel), List.mem_of_getElem? (i := 1108) (by decide +kernel), List.mem_of_getElem? (i := 1109) (by decide +kernel)⟩
theorem lw_p54 : lw_okq (⟨"ChainDeskModel", "primary", "()I"⟩, 39) := ⟨⟨by decide +kernel, by decide +kernel⟩, List.mem_of_getElem? (i := 804) (by decide +kernel), List.mem_of_getElem? (i := 1116) (by decide +kernel), List.mem_of_getElem? (i := 1117) (by decide +kernel)⟩
theorem lw_p55 : lw_okq (⟨"ChainDeskModel", "makerOf", "(I)I"⟩, 39) := ⟨⟨by decide +kernel, by decide +kernel⟩, List.mem_of_getElem? (i := 804) (by decide +kernel), List.mem_of_getElem? (i := 1120) (by decide +kernel), List.mem_of_getElem? (i := 1121) (by decide +kernel)⟩
theorem lw_p56 : lw_okq (⟨"ChainDeskModel", "use", "(I)I"⟩, 39) := ⟨⟨by decide +kernel, by decide +kernel⟩, List.mem_of_getElem? (i := 804) (by decide +kernel), List.mem_of_getElem? (i := 1124) (by decide +kernel), List.mem_of_getElem? (i := 1125) (by decide +kernel)⟩
theorem lw_p57 : lw_okq (⟨"ChainDeskModel", "memberOf", "(IIZ)I"⟩, 39) := ⟨⟨by decide +kernel, by decide +kernel⟩, List.mem_of_getElem? (i := 804) (by decide +kernel), List.mem_of_getElem? (i := 1128) (by decide +kernel), List.mem_of_getElem? (i := 1129) (by decide +kernel)⟩
theorem lw_p58 : lw_okq (⟨"ChainDeskModel", "further", "(I)I"⟩, 39) := ⟨⟨by decide +kernel, by decide +kernel⟩, List.mem_of_getElem? (i := 804) (by decide +kernel), List.mem_of_getElem? (i := 1132) (by decide +kernel), List.mem_of_getElem? (i := 1133) (by decide +kernel)⟩
def lw_privs_4 : List (MethodName × Nat) := [(⟨"ChainDeskModel", "costOf", "(I)I"⟩, 39), (⟨"ChainDeskModel", "make", "(IIII)V"⟩, 39), (⟨"ChainDeskModel", "writeKept", "(I)V"⟩, 39), (⟨"ChainDeskModel", "sees", "(II)Z"⟩, 39), (⟨"ChainDeskModel", "behind", "(I)Z"⟩, 39), (⟨"ChainDeskModel", "propose", "(I)V"⟩, 39), (⟨"ChainDeskModel", "primary", "()I"⟩, 39), (⟨"ChainDeskModel", "makerOf", "(I)I"⟩, 39), (⟨"ChainDeskModel", "use", "(I)I"⟩, 39), (⟨"ChainDeskModel", "memberOf", "(IIZ)I"⟩, 39), (⟨"ChainDeskModel", "further", "(I)I"⟩, 39)]
theorem lw_r4 : ∀ q ∈ lw_privs_4, lw_okq q := List.forall_mem_cons.mpr ⟨lw_p48, List.forall_mem_cons.mpr ⟨lw_p49, List.forall_mem_cons.mpr ⟨lw_p50, List.forall_mem_cons.mpr ⟨lw_p51, List.forall_mem_cons.mpr ⟨lw_p52, List.forall_mem_cons.mpr ⟨lw_p53, List.forall_mem_cons.mpr ⟨lw_p54, List.forall_mem_cons.mpr ⟨lw_p55, List.forall_mem_cons.mpr ⟨lw_p56, List.forall_mem_cons.mpr ⟨lw_p57, List.forall_mem_cons.mpr ⟨lw_p58, fun _ h => absurd h List.not_mem_nil⟩⟩⟩⟩⟩⟩⟩⟩⟩⟩⟩
def lw_privs : List (MethodName × Nat) := lw_privs_1 ++ (lw_privs_2 ++ (lw_privs_3 ++ (lw_privs_4)))
def lw_tbl : List Cond := k2_sels lw_privs ++ tables_1
theorem lw_privs_ok : ∀ q ∈ lw_privs, lw_okq q := by
  show ∀ q ∈ lw_privs_1 ++ (lw_privs_2 ++ (lw_privs_3 ++ (lw_privs_4))), lw_okq q
  exact List.forall_mem_append.mpr ⟨lw_r1, List.forall_mem_append.mpr ⟨lw_r2, List.forall_mem_append.mpr ⟨lw_r3, lw_r4⟩⟩⟩
end
section
/-! an abstract machine over the decoded instructions: cells are arrays, objects, or constants; a frame's variables are a list -/
abbrev am_C : Type := (FieldType × vp_A) ⊕ ((Nat × List Value) ⊕ (Nat × Nat × (Nat → Int32)))
abbrev am_H : Type := Nat → Option am_C
abbrev am_V : Type := List (Option Value)
/-- pc, variables, stack, heap, next address, slots used -/
abbrev am_X : Type := Nat × am_V × List Value × am_H × Nat × Nat
abbrev am_O : Type := Option am_X
abbrev am_R : Type := (Option Value ⊕ Nat) × am_H × Nat × Nat
def am_n (pc : Nat) (lv : am_V) (st : List Value) (σ : am_H) (top sl : Nat) : am_O := some (pc, lv, st, σ, top, sl)
def am_get (lv : am_V) (i : Nat) : Option Value := match lv[i]? with
  | some (some v) => some v
  | _ => none
def am_up (σ : am_H) (a : Nat) (e : am_C) : am_H := fun q => if q = a then some e else σ q
def am_rv (v : Value) : Option (Option Nat) := match v with
  | .null => some none
  | .ref a => some (some a)
  | _ => none
def am_c1 (v : Value) : Bool := match v with
  | .long _ => false
  | .double _ => false
  | _ => true
def am_i1 (st : List Value) (k : Int32 → List Value → am_O) : am_O := match st with
  | .int x :: r => k x r
  | _ => none
def am_i2 (st : List Value) (k : Int32 → Int32 → List Value → am_O) : am_O := match st with
  | .int y :: .int x :: r => k x y r
  | _ => none
def am_l2 (st : List Value) (k : Int64 → Int64 → List Value → am_O) : am_O := match st with
  | .long y :: .long x :: r => k x y r
  | _ => none
def am_a1 (st : List Value) (k : Nat → List Value → am_O) : am_O := match st with
  | .ref a :: r => k a r
  | _ => none
def am_q1 (st : List Value) (k : Option Nat → List Value → am_O) : am_O := match st with
  | .ref a :: r => k (some a) r
  | .null :: r => k none r
  | _ => none
def am_q2 (st : List Value) (k : Option Nat → Option Nat → List Value → am_O) : am_O := match st with
  | .ref b :: .ref a :: r => k (some a) (some b) r
  | .ref b :: .null :: r => k none (some b) r
  | .null :: .ref a :: r => k (some a) none r
  | .null :: .null :: r => k none none r
  | _ => none
def am_v1 (st : List Value) (k : Value → List Value → am_O) : am_O := match st with
  | v :: r => if am_c1 v = true then k v r else none
  | _ => none
def am_v2 (st : List Value) (k : Value → Value → List Value → am_O) : am_O := match st with
  | v :: w :: r => if am_c1 v = true ∧ am_c1 w = true then k v w r else none
  | _ => none
def am_ia (st : List Value) (k : Int32 → Nat → List Value → am_O) : am_O := match st with
  | .int i :: .ref a :: r => k i a r
  | _ => none
def am_iia (st : List Value) (k : Int32 → Int32 → Nat → List Value → am_O) : am_O := match st with
  | .int x :: .int i :: .ref a :: r => k x i a r
  | _ => none
def am_lia (st : List Value) (k : Int64 → Int32 → Nat → List Value → am_O) : am_O := match st with
  | .long x :: .int i :: .ref a :: r => k x i a r
  | _ => none
def am_qia (st : List Value) (k : Option Nat → Int32 → Nat → List Value → am_O) : am_O := match st with
  | .ref x :: .int i :: .ref a :: r => k (some x) i a r
  | .null :: .int i :: .ref a :: r => k none i a r
  | _ => none
def am_va (st : List Value) (k : Value → Nat → List Value → am_O) : am_O := match st with
  | v :: .ref a :: r => k v a r
  | _ => none
theorem am_i1_inv {st : List Value} {k : Int32 → List Value → am_O} {o : am_X} (h : am_i1 st k = some o) : ∃ x r, st = .int x :: r ∧ k x r = some o := by
  unfold am_i1 at h
  split at h
  · exact ⟨_, _, rfl, h⟩
  · cases h
theorem am_i2_inv {st : List Value} {k : Int32 → Int32 → List Value → am_O} {o : am_X} (h : am_i2 st k = some o) : ∃ x y r, st = .int y :: .int x :: r ∧ k x y r = some o := by
  unfold am_i2 at h
  split at h
  · exact ⟨_, _, _, rfl, h⟩
  · cases h
theorem am_l2_inv {st : List Value} {k : Int64 → Int64 → List Value → am_O} {o : am_X} (h : am_l2 st k = some o) : ∃ x y r, st = .long y :: .long x :: r ∧ k x y r = some o := by
  unfold am_l2 at h
  split at h
  · exact ⟨_, _, _, rfl, h⟩
  · cases h
theorem am_a1_inv {st : List Value} {k : Nat → List Value → am_O} {o : am_X} (h : am_a1 st k = some o) : ∃ a r, st = .ref a :: r ∧ k a r = some o := by
  unfold am_a1 at h
  split at h
  · exact ⟨_, _, rfl, h⟩
  · cases h
theorem am_q1_inv {st : List Value} {k : Option Nat → List Value → am_O} {o : am_X} (h : am_q1 st k = some o) : ∃ a r, st = va_rf a :: r ∧ k a r = some o := by
  unfold am_q1 at h
  split at h
  · exact ⟨some _, _, rfl, h⟩
  · exact ⟨none, _, rfl, h⟩
  · cases h
theorem am_q2_inv {st : List Value} {k : Option Nat → Option Nat → List Value → am_O} {o : am_X} (h : am_q2 st k = some o) : ∃ x y r, st = va_rf y :: va_rf x :: r ∧ k x y r = some o := by
  unfold am_q2 at h
  split at h
  · exact ⟨some _, some _, _, rfl, h⟩
  · exact ⟨none, some _, _, rfl, h⟩
  · exact ⟨some _, none, _, rfl, h⟩
  · exact ⟨none, none, _, rfl, h⟩
  · cases h
theorem am_c1_cat {v : Value} (h : am_c1 v = true) : v.category = 1 := by
  cases v <;> first | rfl | cases h
theorem am_v1_inv {st : List Value} {k : Value → List Value → am_O} {o : am_X} (h : am_v1 st k = some o) : ∃ v r, st = v :: r ∧ v.category = 1 ∧ k v r = some o := by
  unfold am_v1 at h
  split at h
  · split at h
    · next hc => exact ⟨_, _, rfl, am_c1_cat hc, h⟩
    · cases h
  · cases h
theorem am_v2_inv {st : List Value} {k : Value → Value → List Value → am_O} {o : am_X} (h : am_v2 st k = some o) : ∃ v w r, st = v :: w :: r ∧ v.category = 1 ∧ w.category = 1 ∧ k v w r = some o := by
  unfold am_v2 at h
  split at h
  · split at h
    · next hc => exact ⟨_, _, _, rfl, am_c1_cat hc.1, am_c1_cat hc.2, h⟩
    · cases h
  · cases h
theorem am_ia_inv {st : List Value} {k : Int32 → Nat → List Value → am_O} {o : am_X} (h : am_ia st k = some o) : ∃ i a r, st = .int i :: .ref a :: r ∧ k i a r = some o := by
  unfold am_ia at h
  split at h
  · exact ⟨_, _, _, rfl, h⟩
  · cases h
theorem am_iia_inv {st : List Value} {k : Int32 → Int32 → Nat → List Value → am_O} {o : am_X} (h : am_iia st k = some o) : ∃ x i a r, st = .int x :: .int i :: .ref a :: r ∧ k x i a r = some o := by
  unfold am_iia at h
  split at h
  · exact ⟨_, _, _, _, rfl, h⟩
  · cases h
theorem am_lia_inv {st : List Value} {k : Int64 → Int32 → Nat → List Value → am_O} {o : am_X} (h : am_lia st k = some o) : ∃ x i a r, st = .long x :: .int i :: .ref a :: r ∧ k x i a r = some o := by
  unfold am_lia at h
  split at h
  · exact ⟨_, _, _, _, rfl, h⟩
  · cases h
theorem am_qia_inv {st : List Value} {k : Option Nat → Int32 → Nat → List Value → am_O} {o : am_X} (h : am_qia st k = some o) : ∃ x i a r, st = va_rf x :: .int i :: .ref a :: r ∧ k x i a r = some o := by
  unfold am_qia at h
  split at h
  · exact ⟨some _, _, _, _, rfl, h⟩
  · exact ⟨none, _, _, _, rfl, h⟩
  · cases h
theorem am_va_inv {st : List Value} {k : Value → Nat → List Value → am_O} {o : am_X} (h : am_va st k = some o) : ∃ v a r, st = v :: .ref a :: r ∧ k v a r = some o := by
  unfold am_va at h
  split at h
  · exact ⟨_, _, _, rfl, h⟩
  · cases h
def am_cb (cd : ClassFile.Cond) (x y : Int32) : Bool := match cd with
  | .eq => decide (x = y)
  | .ne => decide (¬ x = y)
  | .lt => decide (x < y)
  | .ge => decide (y ≤ x)
  | .gt => decide (y < x)
  | .le => decide (x ≤ y)
/-- what a field or an answer of that type takes as it is -/
def am_fv (ty : FieldType) (v : Value) : Bool := match ty, v with
  | .int, .int _ => true
  | .boolean, .int x => x == 0 || x == 1
  | .object _, .ref _ => true
  | .object _, .null => true
  | .array _, .ref _ => true
  | .array _, .null => true
  | _, _ => false
def am_fr (ty : FieldType) (v : Value) : Bool := match ty, v with
  | .char, .int x => decide (vp_nar .char x = x)
  | .byte, .int x => decide (vp_nar .byte x = x)
  | _, _ => am_fv ty v
/-- what an instruction that is no call of ours does; u, v: what its pool entry names -/
def am_step (cs : Nat → Value) (ft : Nat → Nat → FieldType) (df : Nat → List Value) (ns : Nat → Nat) (nm : Nat → String) (d pc : Nat) (lv : am_V) (st : List Value) (σ : am_H) (top sl : Nat) (i : Instr) (u v : Nat) : am_O := match i with
  | .aconst_null => am_n (pc + 1) lv (.null :: st) σ top sl
  | .iconst n => am_n (pc + 1) lv (.int (Int32.ofInt n) :: st) σ top sl
  | .bipush n => am_n (pc + 2) lv (.int (Int8.ofInt n).toInt32 :: st) σ top sl
  | .sipush n => am_n (pc + 3) lv (.int (Int16.ofInt n).toInt32 :: st) σ top sl
  | .ldc _ => am_n (pc + 2) lv (cs u :: st) σ top sl
  | .getstatic _ => am_n (pc + 3) lv (cs u :: st) σ top sl
  | .iload k => match am_get lv k with
    | some (.int x) => am_n (pc + 2) lv (.int x :: st) σ top sl
    | _ => none
  | .iload_n k => match am_get lv k with
    | some (.int x) => am_n (pc + 1) lv (.int x :: st) σ top sl
    | _ => none
  | .aload k => match am_get lv k with
    | some (.ref x) => am_n (pc + 2) lv (.ref x :: st) σ top sl
    | some .null => am_n (pc + 2) lv (.null :: st) σ top sl
    | _ => none
  | .aload_n k => match am_get lv k with
    | some (.ref x) => am_n (pc + 1) lv (.ref x :: st) σ top sl
    | some .null => am_n (pc + 1) lv (.null :: st) σ top sl
    | _ => none
  | .istore k => am_i1 st fun x r => if k < lv.length then am_n (pc + 2) (lv.set k (some (.int x))) r σ top sl else none
  | .istore_n k => am_i1 st fun x r => if (k : Nat) < lv.length then am_n (pc + 1) (lv.set k (some (.int x))) r σ top sl else none
  | .astore k => am_q1 st fun x r => if k < lv.length then am_n (pc + 2) (lv.set k (some (va_rf x))) r σ top sl else none
  | .astore_n k => am_q1 st fun x r => if (k : Nat) < lv.length then am_n (pc + 1) (lv.set k (some (va_rf x))) r σ top sl else none
  | .iinc k n => match am_get lv k with
    | some (.int x) => if k < lv.length then am_n (pc + 3) (lv.set k (some (.int (x + Int32.ofInt n)))) st σ top sl else none
    | _ => none
  | .iadd => am_i2 st fun x y r => am_n (pc + 1) lv (.int (x + y) :: r) σ top sl
  | .isub => am_i2 st fun x y r => am_n (pc + 1) lv (.int (x - y) :: r) σ top sl
  | .imul => am_i2 st fun x y r => am_n (pc + 1) lv (.int (x * y) :: r) σ top sl
  | .idiv => am_i2 st fun x y r => if y = 0 then none else am_n (pc + 1) lv (.int (x / y) :: r) σ top sl
  | .irem => am_i2 st fun x y r => if y = 0 then none else am_n (pc + 1) lv (.int (x - x / y * y) :: r) σ top sl
  | .iand => am_i2 st fun x y r => am_n (pc + 1) lv (.int (x &&& y) :: r) σ top sl
  | .ior => am_i2 st fun x y r => am_n (pc + 1) lv (.int (x ||| y) :: r) σ top sl
  | .ishl => am_i2 st fun x y r => am_n (pc + 1) lv (.int (x <<< (y &&& 31)) :: r) σ top sl
  | .ishr => am_i2 st fun x y r => am_n (pc + 1) lv (.int (x >>> (y &&& 31)) :: r) σ top sl
  | .i2c => am_i1 st fun x r => am_n (pc + 1) lv (.int (x.toUInt32 % 65536).toInt32 :: r) σ top sl
  | .i2l => am_i1 st fun x r => am_n (pc + 1) lv (.long x.toInt64 :: r) σ top sl
  | .lcmp => am_l2 st fun x y r => am_n (pc + 1) lv (.int (lg_cmp x y) :: r) σ top sl
  | .dup => am_v1 st fun x r => am_n (pc + 1) lv (x :: x :: r) σ top sl
  | .pop => am_v1 st fun _ r => am_n (pc + 1) lv r σ top sl
  | .dup_x1 => am_v2 st fun x y r => am_n (pc + 1) lv (x :: y :: x :: r) σ top sl
  | .dup2 => am_v2 st fun x y r => am_n (pc + 1) lv (x :: y :: x :: y :: r) σ top sl
  | .goto _ => am_n u lv st σ top sl
  | .ifCond cd _ => am_i1 st fun x r => if am_cb cd x 0 = true then am_n u lv r σ top sl else am_n (pc + 3) lv r σ top sl
  | .if_icmp cd _ => am_i2 st fun x y r => if am_cb cd x y = true then am_n u lv r σ top sl else am_n (pc + 3) lv r σ top sl
  | .if_acmp .eq _ => am_q2 st fun x y r => if x = y then am_n u lv r σ top sl else am_n (pc + 3) lv r σ top sl
  | .if_acmp .ne _ => am_q2 st fun x y r => if x = y then am_n (pc + 3) lv r σ top sl else am_n u lv r σ top sl
  | .ifnull _ => am_q1 st fun x r => match x with
    | none => am_n u lv r σ top sl
    | some _ => am_n (pc + 3) lv r σ top sl
  | .ifnonnull _ => am_q1 st fun x r => match x with
    | none => am_n (pc + 3) lv r σ top sl
    | some _ => am_n u lv r σ top sl
  | .tableswitch dflt lo hi offs => am_i1 st fun x r =>
    if x.toInt < lo ∨ hi < x.toInt then (if 0 ≤ (pc : Int) + dflt then am_n ((pc : Int) + dflt).toNat lv r σ top sl else none)
    else match offs[(x.toInt - lo).toNat]? with
      | some off => if 0 ≤ (pc : Int) + off then am_n ((pc : Int) + off).toNat lv r σ top sl else none
      | none => none
  | .lookupswitch dflt ps => am_i1 st fun x r =>
    if (ps.toList.zip (ps.toList.drop 1)).all (fun (a, next) => a.1 < next.1) = true ∧ 0 ≤ (pc : Int) + Op.lookupswitch.offset ps.toList dflt x.toInt then am_n ((pc : Int) + Op.lookupswitch.offset ps.toList dflt x.toInt).toNat lv r σ top sl else none
  | .getfield _ => am_a1 st fun a r => match σ a with
    | some (.inr (.inl (c, fs))) => if c = u ∧ ¬ u = 50 then (match fs[v]? with
      | some w => am_n (pc + 3) lv (w :: r) σ top sl
      | none => none) else none
    | some (.inr (.inr (1, av, _))) => if u = 50 then (if v = 0 then am_n (pc + 3) lv (.ref av :: r) σ top sl else am_n (pc + 3) lv (.int 0 :: r) σ top sl) else none
    | _ => none
  | .putfield _ => am_va st fun w a r => match σ a with
    | some (.inr (.inl (c, fs))) => if c = u ∧ v < fs.length ∧ am_fv (ft u v) w = true then am_n (pc + 3) lv r (am_up σ a (.inr (.inl (c, fs.set v w)))) top sl else none
    | _ => none
  | .new _ => am_n (pc + 3) lv (.ref top :: st) (am_up σ top (.inr (.inl (u, df u)))) (top + 1) (sl + ns u)
  | .newarray at_ => am_i1 st fun n r => if n < 0 ∨ 100000 < n.toNatClampNeg then none else match at_ with
    | .int => am_n (pc + 2) lv (.ref top :: r) (am_up σ top (.inl (.int, n.toNatClampNeg, .inl fun _ => 0))) (top + 1) (sl + n.toNatClampNeg)
    | .char => am_n (pc + 2) lv (.ref top :: r) (am_up σ top (.inl (.char, n.toNatClampNeg, .inl fun _ => 0))) (top + 1) (sl + n.toNatClampNeg)
    | .boolean => am_n (pc + 2) lv (.ref top :: r) (am_up σ top (.inl (.boolean, n.toNatClampNeg, .inl fun _ => 0))) (top + 1) (sl + n.toNatClampNeg)
    | .long => am_n (pc + 2) lv (.ref top :: r) (am_up σ top (.inl (.long, n.toNatClampNeg, .inr (.inl fun _ => 0)))) (top + 1) (sl + n.toNatClampNeg)
    | _ => none
  | .anewarray _ => am_i1 st fun n r => if n < 0 ∨ 100000 < n.toNatClampNeg then none else
    am_n (pc + 3) lv (.ref top :: r) (am_up σ top (.inl (.object (nm u), n.toNatClampNeg, .inr (.inr (.inr (.inr fun _ => none)))))) (top + 1) (sl + n.toNatClampNeg)
  | .arraylength => am_a1 st fun a r => match σ a with
    | some (.inl (_, n, _)) => am_n (pc + 1) lv (.int (Int32.ofNat n) :: r) σ top sl
    | some (.inr (.inr (0, n, _))) => am_n (pc + 1) lv (.int (Int32.ofNat n) :: r) σ top sl
    | some (.inr (.inr (2, n, _))) => am_n (pc + 1) lv (.int (Int32.ofNat n) :: r) σ top sl
    | _ => none
  | .iaload => am_ia st fun i a r => match σ a with
    | some (.inl (.int, n, .inl f)) => if i < 0 ∨ n ≤ i.toNatClampNeg then none else am_n (pc + 1) lv (.int (f i.toNatClampNeg) :: r) σ top sl
    | some (.inr (.inr (0, n, f))) => if i < 0 ∨ n ≤ i.toNatClampNeg then none else am_n (pc + 1) lv (.int (f i.toNatClampNeg) :: r) σ top sl
    | _ => none
  | .baload => am_ia st fun i a r => match σ a with
    | some (.inl (.boolean, n, .inl f)) => if i < 0 ∨ n ≤ i.toNatClampNeg then none else am_n (pc + 1) lv (.int (f i.toNatClampNeg) :: r) σ top sl
    | some (.inr (.inr (2, n, f))) => if i < 0 ∨ n ≤ i.toNatClampNeg then none else am_n (pc + 1) lv (.int (f i.toNatClampNeg) :: r) σ top sl
    | _ => none
  | .caload => am_ia st fun i a r => match σ a with
    | some (.inl (.char, n, .inl f)) => if i < 0 ∨ n ≤ i.toNatClampNeg then none else am_n (pc + 1) lv (.int (f i.toNatClampNeg) :: r) σ top sl
    | _ => none
  | .laload => am_ia st fun i a r => match σ a with
    | some (.inl (.long, n, .inr (.inl f))) => if i < 0 ∨ n ≤ i.toNatClampNeg then none else am_n (pc + 1) lv (.long (f i.toNatClampNeg) :: r) σ top sl
    | _ => none
  | .aaload => am_ia st fun i a r => match σ a with
    | some (.inl (.object _, n, .inr (.inr (.inr (.inr f))))) => if i < 0 ∨ n ≤ i.toNatClampNeg then none else am_n (pc + 1) lv (va_rf (f i.toNatClampNeg) :: r) σ top sl
    | _ => none
  | .iastore => am_iia st fun x i a r => match σ a with
    | some (.inl (.int, n, .inl f)) => if i < 0 ∨ n ≤ i.toNatClampNeg then none else am_n (pc + 1) lv r (am_up σ a (.inl (.int, n, .inl (upd f i.toNatClampNeg x)))) top sl
    | _ => none
  | .bastore => am_iia st fun x i a r => match σ a with
    | some (.inl (.boolean, n, .inl f)) => if i < 0 ∨ n ≤ i.toNatClampNeg then none else am_n (pc + 1) lv r (am_up σ a (.inl (.boolean, n, .inl (upd f i.toNatClampNeg (vp_nar .boolean x))))) top sl
    | _ => none
  | .castore => am_iia st fun x i a r => match σ a with
    | some (.inl (.char, n, .inl f)) => if i < 0 ∨ n ≤ i.toNatClampNeg then none else am_n (pc + 1) lv r (am_up σ a (.inl (.char, n, .inl (upd f i.toNatClampNeg (vp_nar .char x))))) top sl
    | _ => none
  | .lastore => am_lia st fun x i a r => match σ a with
    | some (.inl (.long, n, .inr (.inl f))) => if i < 0 ∨ n ≤ i.toNatClampNeg then none else am_n (pc + 1) lv r (am_up σ a (.inl (.long, n, .inr (.inl (vp_updL f i.toNatClampNeg x))))) top sl
    | _ => none
  | .aastore => am_qia st fun x i a r => match σ a with
    | some (.inl (.object C, n, .inr (.inr (.inr (.inr f))))) => if i < 0 ∨ n ≤ i.toNatClampNeg then none else (match x with
      | none => am_n (pc + 1) lv r (am_up σ a (.inl (.object C, n, .inr (.inr (.inr (.inr (va_up f i.toNatClampNeg none))))))) top sl
      | some b => match σ b with
        | some (.inr (.inl (c, _))) => if nm c = C then am_n (pc + 1) lv r (am_up σ a (.inl (.object C, n, .inr (.inr (.inr (.inr (va_up f i.toNatClampNeg (some b)))))))) top sl else none
        | _ => none)
    | _ => none
  | .invokespecial _ => if d = 0 ∨ ¬ u = 1000 then none else am_a1 st fun _ r => if (r.map fun w => w.category).sum ≤ 8 then am_n (pc + 3) lv r σ top sl else none
  | _ => none
/-- 0: an instruction that goes on, 1: a call, 2: an end, 3: an exception is made and thrown -/
def am_kind (i : Instr) (u : Nat) : Nat := match i with
  | .invokestatic _ => 1
  | .invokevirtual _ => 1
  | .invokespecial _ => if u = 1000 then 0 else 1
  | .new _ => if 12 ≤ u then 3 else 0
  | .ireturn => 2
  | .areturn => 2
  | .return_ => 2
  | .athrow => 2
  | _ => 0
/-- a call's arguments, and the rest of the stack -/
def am_call (mc : Nat → Nat) (d : Nat) (st : List Value) (σ : am_H) (i : Instr) (u v : Nat) : Option (List Value × List Value) := match i with
  | .invokestatic _ => if d = 0 ∨ st.length < v then none else some ((st.take v).reverse, st.drop v)
  | .invokespecial _ => if d = 0 then none else match st.drop v with
    | .ref b :: r => some (.ref b :: (st.take v).reverse, r)
    | _ => none
  | .invokevirtual _ => if d = 0 then none else match st.drop v with
    | .ref b :: r => match σ b with
      | some (.inr (.inl (c, _))) => if c = mc u then some (.ref b :: (st.take v).reverse, r) else none
      | some (.inr (.inr (1, _, _))) => if mc u = 50 then some (.ref b :: (st.take v).reverse, r) else none
      | _ => none
    | _ => none
  | _ => none
/-- a method's end: its answer, or the address of what it throws -/
def am_end (rt : FieldType) (st : List Value) (i : Instr) : Option (Option Value ⊕ Nat) := match i with
  | .ireturn => match st with
    | [.int x] => if am_fr rt (.int x) = true then some (.inl (some (.int x))) else none
    | _ => none
  | .areturn => match st with
    | [.ref a] => if am_fr rt (.ref a) = true then some (.inl (some (.ref a))) else none
    | [.null] => if am_fr rt .null = true then some (.inl (some .null)) else none
    | _ => none
  | .return_ => match st with
    | [] => some (.inl none)
    | _ => none
  | _ => none
/-- the library's members that are reached: the smaller of two, the copying of letters, an exception's start -/
def am_bi (u : Nat) (as : List Value) (σ : am_H) : Option (Option Value × am_H) := match u, as with
  | 1003, [.int x, .int y] => some (some (.int (if y < x then y else x)), σ)
  | 1004, [.ref a, .int sp, .ref b, .int dp, .int n] => match σ a, σ b with
    | some (.inl (.char, n0, .inl f)), some (.inl (.char, n1, .inl g)) =>
      if sp < 0 ∨ dp < 0 ∨ n < 0 ∨ n0 < sp.toNatClampNeg + n.toNatClampNeg ∨ n1 < dp.toNatClampNeg + n.toNatClampNeg then none
      else some (none, am_up σ b (.inl (.char, n1, .inl (va_cpy f g sp.toNatClampNeg dp.toNatClampNeg n.toNatClampNeg))))
    | _, _ => none
  | _, _ => none
/-- tables: instructions, variables of a method, what it answers, a field's type, an object's fields at first, its slots, a class's name, a method's class, handlers -/
abbrev am_T : Type := (Nat → Nat → Option (Instr × Nat × Nat)) × (Nat → Nat) × (Nat → FieldType) × (Nat → Nat → FieldType) × (Nat → List Value) × (Nat → Nat) × (Nat → String) × (Nat → Nat) × (Nat → List ((Nat × Nat × Nat × Nat) × Nat))
def am_ent (ml : Nat) (as : List Value) : am_V := as.map some ++ List.replicate (ml - as.length) none
/-- a method's handlers: (from, to, handler, entry), class -/
def am_hs (t : am_T) (y : Nat) : List ((Nat × Nat × Nat × Nat) × Nat) := t.2.2.2.2.2.2.2.2 y
def am_hw (c pc : Nat) : List ((Nat × Nat × Nat × Nat) × Nat) → Option Nat
  | [] => none
  | x :: r => if x.1.1 ≤ pc ∧ pc < x.1.2.1 then (if c = x.2 then some x.1.2.2.1 else am_hw c pc r) else am_hw c pc r
/-- where what the callee u threw is caught -/
def am_hd (t : am_T) (y u pc : Nat) (σ : am_H) (a : Nat) : Option Nat := match am_hs t u, σ a with
  | [], some (.inr (.inl (c, _))) => if 12 ≤ c then am_hw c pc (am_hs t y) else none
  | _, _ => none
/-- n: fuel; d: frames that may be laid on this one -/
def am_run (t : am_T) (cs : Nat → Value) : Nat → Nat → Nat → Nat → am_V → List Value → am_H → Nat → Nat → Option am_R
  | 0, _, _, _, _, _, _, _, _ => none
  | n + 1, d, y, pc, lv, st, σ, top, sl =>
    match t.1 y pc with
    | none => none
    | some (i, u, v) =>
      match am_kind i u with
      | 0 => match am_step cs t.2.2.2.1 t.2.2.2.2.1 t.2.2.2.2.2.1 t.2.2.2.2.2.2.1 d pc lv st σ top sl i u v with
        | none => none
        | some (pc', lv', st', σ', top', sl') => am_run t cs n d y pc' lv' st' σ' top' sl'
      | 1 => match am_call t.2.2.2.2.2.2.2.1 d st σ i u v with
        | none => none
        | some (as, rest) =>
          if (rest.map fun w => w.category).sum ≤ 8 then
            if 1000 < u then
              match am_bi u as σ with
              | none => none
              | some (r, σ1) => am_run t cs n d y (pc + 3) lv (r.toList ++ rest) σ1 top sl
            else if as.length ≤ t.2.1 u ∧ as.all am_c1 = true then
              match am_run t cs n (d - 1) u 0 (am_ent (t.2.1 u) as) [] σ top sl with
              | none => none
              | some (.inl r, σ1, top1, sl1) => am_run t cs n d y (pc + 3) lv (r.toList ++ rest) σ1 top1 sl1
              | some (.inr a, σ1, top1, sl1) => match am_hd t y u pc σ1 a with
                | some h => am_run t cs n d y h lv [.ref a] σ1 top1 sl1
                | none => none
            else none
          else none
      | 3 => if 6 ≤ d ∧ (st.map fun w => w.category).sum ≤ 8 then some (.inr top, am_up σ top (.inr (.inl (u, []))), top + 1, sl + t.2.2.2.2.2.1 u) else none
      | _ => match am_end (t.2.2.1 y) st i with
        | none => none
        | some r => some (r, σ, top, sl)
end
section
theorem am_fv_ok {ty : FieldType} {v : Value} (h : am_fv ty v = true) : narrow ty v = v ∧ fits ty v = true := by
  unfold am_fv at h
  split at h
  · exact ⟨rfl, rfl⟩
  · next x =>
    rw [Bool.or_eq_true, beq_iff_eq, beq_iff_eq] at h
    rcases h with h | h <;> subst h <;> decide
  · exact ⟨rfl, rfl⟩
  · exact ⟨rfl, rfl⟩
  · exact ⟨rfl, rfl⟩
  · exact ⟨rfl, rfl⟩
  · cases h
theorem am_fr_ok {ty : FieldType} {x : Int32} (h : am_fr ty (.int x) = true) : narrow ty (.int x) = .int x := by
  unfold am_fr at h
  split at h
  · next y e =>
    cases e
    have h1 := of_decide_eq_true h
    show Value.int _ = _
    rw [vp_nar_char] at h1
    exact congrArg Value.int h1
  · next y e =>
    cases e
    have h1 := of_decide_eq_true h
    show Value.int _ = _
    rw [vp_nar_byte] at h1
    exact congrArg Value.int h1
  · exact (am_fv_ok h).1
def am_as (lv : am_V) : List (Nat × Value) := (List.range lv.length).filterMap (fun i => (am_get lv i).map (fun v => (i, v)))
theorem am_get_lt {lv : am_V} {j : Nat} {w : Value} (h : am_get lv j = some w) : j < lv.length := by
  unfold am_get at h
  split at h
  · next v e => exact (List.getElem?_eq_some_iff.mp e).1
  · cases h
theorem am_as_mem {lv : am_V} {j : Nat} {w : Value} : (j, w) ∈ am_as lv ↔ am_get lv j = some w := by
  unfold am_as
  rw [List.mem_filterMap]
  constructor
  · rintro ⟨a, -, h⟩
    cases h1 : am_get lv a with
    | none => rw [h1] at h; cases h
    | some v => rw [h1] at h; cases h; exact h1
  · intro h
    exact ⟨j, List.mem_range.mpr (am_get_lt h), by rw [h]; rfl⟩
theorem am_get_set {lv : am_V} {i j : Nat} {v : Value} (hi : i < lv.length) : am_get (lv.set i (some v)) j = if i = j then some v else am_get lv j := by
  unfold am_get
  rw [List.getElem?_set]
  by_cases h : i = j
  · rw [if_pos h, if_pos h, if_pos hi]
  · rw [if_neg h, if_neg h]
/-- the frame's variables are the list's, all of one word -/
def am_ls (ls : Array Slot) (nL : Nat) (lv : am_V) : Prop := lv_has ls nL (am_as lv) ∧ lv.length = nL ∧ ∀ i v, am_get lv i = some v → v.category = 1
theorem am_ls.at {ls : Array Slot} {nL : Nat} {lv : am_V} (h : am_ls ls nL lv) {i : Nat} {v : Value} (hg : am_get lv i = some v) : ls[i]? = some (.val v) := h.1.2.2 (i, v) (am_as_mem.mpr hg)
theorem am_ls.st {ls ls' : Array Slot} {nL : Nat} {lv : am_V} (h : am_ls ls nL lv) {i : Nat} {v : Value} (hi : i < lv.length) (hv : v.category = 1)
    (h' : lv_has ls' nL ((i, v) :: (am_as lv).filter (fun q => !(q.1 == i) && !(q.1 + 1 == i && q.2.category == 2)))) : am_ls ls' nL (lv.set i (some v)) := by
  refine ⟨⟨h'.1, h'.2.1, ?_⟩, by rw [List.length_set]; exact h.2.1, ?_⟩
  · rintro ⟨j, w⟩ hq
    have hq := am_as_mem.mp hq
    rw [am_get_set hi] at hq
    by_cases hj : i = j
    · rw [if_pos hj] at hq
      cases hq
      subst hj
      exact h'.2.2 (i, v) List.mem_cons_self
    · rw [if_neg hj] at hq
      refine h'.2.2 (j, w) (List.mem_cons_of_mem _ (List.mem_filter.mpr ⟨am_as_mem.mpr hq, ?_⟩))
      have hc := h.2.2 j w hq
      simp [hc, Ne.symm hj]
  · intro j w hq
    rw [am_get_set hi] at hq
    by_cases hj : i = j
    · rw [if_pos hj] at hq
      cases hq
      exact hv
    · rw [if_neg hj] at hq
      exact h.2.2 j w hq
theorem am_rf_cat (r : Option Nat) : (va_rf r).category = 1 := by cases r <;> rfl
def am_fitA (ty : FieldType) (ar : vp_A) : Prop := match ar.2 with
  | .inl f => ∀ j, fits ty (.int (f j)) = true
  | _ => True
/-- a text that is a constant; its bytes lie at av -/
def am_str (b0 av a : Nat) (U : State) (H : Heap) : Prop := va_O "java/lang/String" a (fun q => b0 ≤ q) U H ∧ va_OF "java/lang/String" "coder" "B" (.int 0) a (fun q => b0 ≤ q) U H ∧ va_OF "java/lang/String" "value" "[B" (.ref av) a (fun q => b0 ≤ q) U H
theorem am_str.kept {b0 av a : Nat} {U : State} {H H1 : Heap} (h : am_str b0 av a U H) (hq : ∀ q : Nat, q < H.size → ¬ b0 ≤ q → H1[q]? = H[q]?) : am_str b0 av a U H1 := by
  obtain ⟨h1, h2, h3⟩ := h
  exact ⟨h1.kept hq, h2.kept hq, h3.kept hq⟩
theorem am_str.moved {b0 av a : Nat} {u U : State} {H : Heap} (hvm : u.vm.Alike U.vm) (h : am_str b0 av a u H) : am_str b0 av a U H := by
  obtain ⟨h1, h2, h3⟩ := h
  exact ⟨h1.moved hvm, h2.moved hvm, h3.moved hvm⟩
/-- what a cell of ours is on the machine's heap -/
def am_at (D : va_G) (cl : List vw_C) (b0 : Nat) (tys : List (ClassId × FieldType)) (U : State) (a : Nat) (e : am_C) (H : Heap) : Prop := match e with
  | .inl (ty, ar) => b0 ≤ a ∧ am_fitA ty ar ∧ ∃ cA, (cA, ty) ∈ tys ∧ H[a]? = some (vp_cell cA ar)
  | .inr (.inl (c, fs)) => b0 ≤ a ∧ ∃ r : vw_C, cl[c]? = some r ∧ fs.length = r.2.2 ∧ t_OB a (D.1 c) r.2.2 (D.2 c) H (vp_V fs)
  | .inr (.inr (0, n, f)) => a < b0 ∧ va_X a n f U H
  | .inr (.inr (1, av, _)) => a < b0 ∧ am_str b0 av a U H
  | .inr (.inr (_ + 2, n, f)) => a < b0 ∧ va_T .byte a n (fun j => .int (f j)) (fun q => b0 ≤ q) U H
theorem am_at.kept {D : va_G} {cl : List vw_C} {b0 : Nat} {tys : List (ClassId × FieldType)} {U : State} {a : Nat} {e : am_C} {H H1 : Heap} (h : am_at D cl b0 tys U a e H) (hq : H1[a]? = H[a]?) (hl : ∀ q : Nat, q < H.size → ¬ b0 ≤ q → H1[q]? = H[q]?) : am_at D cl b0 tys U a e H1 := by
  match e, h with
  | .inl (ty, ar), ⟨h1, h2, cA, h3, h4⟩ => exact ⟨h1, h2, cA, h3, by rw [hq]; exact h4⟩
  | .inr (.inl (c, fs)), ⟨h1, r, h2, h3, h4⟩ => exact ⟨h1, r, h2, h3, h4.kept hq⟩
  | .inr (.inr (0, n, f)), ⟨h1, h2⟩ => exact ⟨h1, h2.kept hq⟩
  | .inr (.inr (1, av, _)), ⟨h1, h2⟩ => exact ⟨h1, h2.kept hl⟩
  | .inr (.inr (_ + 2, n, f)), ⟨h1, h2⟩ => exact ⟨h1, h2.kept hl⟩
theorem am_at.moved {D : va_G} {cl : List vw_C} {b0 : Nat} {tys : List (ClassId × FieldType)} {u U : State} {a : Nat} {e : am_C} {H : Heap} (hvm : u.vm.Alike U.vm) (h : am_at D cl b0 tys u a e H) : am_at D cl b0 tys U a e H := by
  match e, h with
  | .inl (ty, ar), h => exact h
  | .inr (.inl (c, fs)), h => exact h
  | .inr (.inr (0, n, f)), ⟨h1, h2⟩ => exact ⟨h1, h2.moved hvm⟩
  | .inr (.inr (1, av, _)), ⟨h1, h2⟩ => exact ⟨h1, h2.moved hvm⟩
  | .inr (.inr (_ + 2, n, f)), ⟨h1, h2⟩ => exact ⟨h1, h2.moved hvm⟩
theorem am_at.more {D : va_G} {cl : List vw_C} {b0 : Nat} {tys tys' : List (ClassId × FieldType)} {U : State} {a : Nat} {e : am_C} {H : Heap} (h : am_at D cl b0 tys U a e H) (hq : ∀ x ∈ tys, x ∈ tys') : am_at D cl b0 tys' U a e H := by
  match e, h with
  | .inl (ty, ar), ⟨h1, h2, cA, h3, h4⟩ => exact ⟨h1, h2, cA, hq _ h3, h4⟩
  | .inr (.inl (c, fs)), h => exact h
  | .inr (.inr (0, n, f)), h => exact h
  | .inr (.inr (1, av, _)), h => exact h
  | .inr (.inr (_ + 2, n, f)), h => exact h
/-- the moving cells: the heap's size is 'top', every cell of σ is there -/
def am_dy (D : va_G) (cl : List vw_C) (b0 : Nat) (U : State) (σ : am_H) (top : Nat) (H : Heap) : Prop := H.size = top ∧ b0 ≤ top ∧ ∃ tys : List (ClassId × FieldType), va_K D cl tys U ∧ ∀ a e, σ a = some e → a < top ∧ am_at D cl b0 tys U a e H
theorem am_dy.moved {D : va_G} {cl : List vw_C} {b0 : Nat} {u U : State} {σ : am_H} {top : Nat} {H : Heap} (hvm : u.vm.Alike U.vm) (h : am_dy D cl b0 u σ top H) : am_dy D cl b0 U σ top H := by
  obtain ⟨h1, h0, tys, h2, h3⟩ := h
  exact ⟨h1, h0, tys, va_K.moved hvm h2, fun a e q => ⟨(h3 a e q).1, (h3 a e q).2.moved hvm⟩⟩
theorem am_dy_upd {D : va_G} {cl : List vw_C} {b0 : Nat} {U : State} {σ : am_H} {top : Nat} {H H1 : Heap} {tys : List (ClassId × FieldType)} (hsz : H.size = top) (hbt : b0 ≤ top) (hK : va_K D cl tys U) (hc : ∀ a e, σ a = some e → a < top ∧ am_at D cl b0 tys U a e H)
    {a : Nat} {e : am_C} (z : H1.size = H.size) (oq : ∀ q : Nat, q ≠ a → H1[q]? = H[q]?) (ha : a < top) (hba : b0 ≤ a) (he : am_at D cl b0 tys U a e H1) : am_dy D cl b0 U (am_up σ a e) top H1 := by
  refine ⟨z.trans hsz, hbt, tys, hK, fun q x hq => ?_⟩
  unfold am_up at hq
  by_cases h : q = a
  · rw [if_pos h] at hq
    cases hq
    subst h
    exact ⟨ha, he⟩
  · rw [if_neg h] at hq
    exact ⟨(hc q x hq).1, (hc q x hq).2.kept (oq q h) (fun y _ hy => oq y (fun z => hy (by rw [z]; exact hba)))⟩
theorem am_dy_push {D : va_G} {cl : List vw_C} {b0 : Nat} {U : State} {σ : am_H} {top : Nat} {H H1 : Heap} {tys tys' : List (ClassId × FieldType)} (hsz : H.size = top) (hbt : b0 ≤ top) (hK : va_K D cl tys' U) (hty : ∀ x ∈ tys, x ∈ tys') (hc : ∀ a e, σ a = some e → a < top ∧ am_at D cl b0 tys U a e H)
    {e : am_C} (z : H1.size = top + 1) (oq : ∀ q : Nat, q < top → H1[q]? = H[q]?) (he : am_at D cl b0 tys' U top e H1) : am_dy D cl b0 U (am_up σ top e) (top + 1) H1 := by
  refine ⟨z, Nat.le_succ_of_le hbt, tys', hK, fun q x hq => ?_⟩
  unfold am_up at hq
  by_cases h : q = top
  · rw [if_pos h] at hq
    cases hq
    subst h
    exact ⟨Nat.lt_succ_self _, he⟩
  · rw [if_neg h] at hq
    have := (hc q x hq).1
    exact ⟨Nat.lt_succ_of_lt this, ((hc q x hq).2.kept (oq q this) (fun y h1 _ => oq y (by rw [← hsz]; exact h1))).more hty⟩
theorem am_P1 {D : va_G} {cl : List vw_C} {q : Nat × va_E} {H : Heap} (h : va_at D cl q H) : va_P D cl [q] H := by
  intro k x hx
  have hz : k < 1 := (List.getElem?_eq_some_iff.mp hx).1
  rw [show k = 0 by omega] at hx
  cases hx
  exact h
theorem am_S_put {b0 : Nat} {H0 H H1 : Heap} {locs : List Loc} {a k : Nat} (h : va_S (fun q => b0 ≤ q) H0 H locs) (z : H1.size = H.size) (oq : ∀ q : Nat, q ≠ a → H1[q]? = H[q]?) (ha : b0 ≤ a) : va_S (fun q => b0 ≤ q) H0 H1 (locs ++ [⟨a, k⟩]) := h.put z oq ha
theorem am_S_push {b0 : Nat} {H0 H H1 : Heap} {locs : List Loc} (h : va_S (fun q => b0 ≤ q) H0 H locs) (z : H1.size = H.size + 1) (oq : ∀ q : Nat, q < H.size → H1[q]? = H[q]?) : va_S (fun q => b0 ≤ q) H0 H1 locs :=
  ⟨Nat.le_trans h.1 (by omega), fun q h1 h2 => (oq q (Nat.lt_of_lt_of_le h1 h.1)).trans (h.2.1 q h1 h2), h.2.2⟩
end
section
/-- the frame's state stands for the abstract one -/
def am_inv (D : va_G) (cl : List vw_C) (b0 : Nat) (s : State) (nL c0 s0 : Nat) (lv : am_V) (σ : am_H) (top sl : Nat) (ls : Array Slot) (H : Heap) (locs : List Loc) (cells slots : Nat) : Prop :=
  am_ls ls nL lv ∧ am_dy D cl b0 s σ top H ∧ va_S (fun q => b0 ≤ q) s.heap H locs ∧ cells + c0 = top ∧ slots + s0 = sl
/-- from every state that stands for this abstract one the machine comes to Q -/
def am_W (p : Program) (l : Launch) (e : Env) (R : Room) (s : State) (m : MethodId) (args : Array Value) (below : List Frame) (meth : Method) (c : Code) (Q : State → Prop) (D : va_G) (cl : List vw_C) (b0 nL c0 s0 pc : Nat) (lv : am_V) (st : List Value) (σ : am_H) (top sl : Nat) : Prop :=
  ∀ (ls : Array Slot) (H : Heap) (locs : List Loc) (cells slots : Nat), am_inv D cl b0 s nL c0 s0 lv σ top sl ls H locs cells slots → W p l e R s m args below meth c H locs cells slots Q (F0 m pc ls st)
section AMS
variable {p : Program} {l : Launch} {e : Env} {R : Room} {s : State} {m : MethodId} {args : Array Value} {below : List Frame} {meth : Method} {c : Code} {Q : State → Prop}
variable {cc : ByteArray} {D : va_G} {cl : List vw_C} {b0 nL c0 s0 : Nat} {pc top sl : Nat} {lv : am_V} {st rest : List Value} {σ : am_H}
theorem am_w_null (hx : p.tables.exec = Jvm.exec) (hb : c.code = cc) (hd : decode cc pc = .ok (.aconst_null, 1)) (k : am_W p l e R s m args below meth c Q D cl b0 nL c0 s0 (pc + 1) lv (.null :: st) σ top sl) : am_W p l e R s m args below meth c Q D cl b0 nL c0 s0 pc lv st σ top sl :=
  fun ls H locs cells slots h => lv_null hx hb hd (k ls H locs cells slots h)
theorem am_w_iconst (hx : p.tables.exec = Jvm.exec) (hb : c.code = cc) {n : Int} (hd : decode cc pc = .ok (.iconst n, 1)) (k : am_W p l e R s m args below meth c Q D cl b0 nL c0 s0 (pc + 1) lv (.int (Int32.ofInt n) :: st) σ top sl) : am_W p l e R s m args below meth c Q D cl b0 nL c0 s0 pc lv st σ top sl :=
  fun ls H locs cells slots h => lv_iconst hx hb hd rfl (k ls H locs cells slots h)
theorem am_w_bipush (hx : p.tables.exec = Jvm.exec) (hb : c.code = cc) {n : Int} (hd : decode cc pc = .ok (.bipush n, 2)) (k : am_W p l e R s m args below meth c Q D cl b0 nL c0 s0 (pc + 2) lv (.int (Int8.ofInt n).toInt32 :: st) σ top sl) : am_W p l e R s m args below meth c Q D cl b0 nL c0 s0 pc lv st σ top sl :=
  fun ls H locs cells slots h => lv_bipush hx hb hd rfl (k ls H locs cells slots h)
theorem am_w_sipush (hx : p.tables.exec = Jvm.exec) (hb : c.code = cc) {n : Int} (hd : decode cc pc = .ok (.sipush n, 3)) (k : am_W p l e R s m args below meth c Q D cl b0 nL c0 s0 (pc + 3) lv (.int (Int16.ofInt n).toInt32 :: st) σ top sl) : am_W p l e R s m args below meth c Q D cl b0 nL c0 s0 pc lv st σ top sl :=
  fun ls H locs cells slots h => lv_sipush hx hb hd rfl (k ls H locs cells slots h)
theorem am_w_iload (hx : p.tables.exec = Jvm.exec) (hb : c.code = cc) {i : Nat} {x : Int32} (hd : decode cc pc = .ok (.iload i, 2)) (hg : am_get lv i = some (.int x)) (k : am_W p l e R s m args below meth c Q D cl b0 nL c0 s0 (pc + 2) lv (.int x :: st) σ top sl) : am_W p l e R s m args below meth c Q D cl b0 nL c0 s0 pc lv st σ top sl :=
  fun ls H locs cells slots h => lv_iload hx hb hd (h.1.at hg) (k ls H locs cells slots h)
theorem am_w_iload_n (hx : p.tables.exec = Jvm.exec) (hb : c.code = cc) {i : Fin 4} {x : Int32} (hd : decode cc pc = .ok (.iload_n i, 1)) (hg : am_get lv i = some (.int x)) (k : am_W p l e R s m args below meth c Q D cl b0 nL c0 s0 (pc + 1) lv (.int x :: st) σ top sl) : am_W p l e R s m args below meth c Q D cl b0 nL c0 s0 pc lv st σ top sl :=
  fun ls H locs cells slots h => lv_iload_n hx hb hd rfl (h.1.at hg) (k ls H locs cells slots h)
theorem am_w_aload (hx : p.tables.exec = Jvm.exec) (hb : c.code = cc) {i : Nat} {x : Option Nat} (hd : decode cc pc = .ok (.aload i, 2)) (hg : am_get lv i = some (va_rf x)) (k : am_W p l e R s m args below meth c Q D cl b0 nL c0 s0 (pc + 2) lv (va_rf x :: st) σ top sl) : am_W p l e R s m args below meth c Q D cl b0 nL c0 s0 pc lv st σ top sl := by
  intro ls H locs cells slots h
  cases x with
  | none => exact lv_aloadN hx hb hd (h.1.at hg) (k ls H locs cells slots h)
  | some a => exact lv_aload hx hb hd (h.1.at hg) (k ls H locs cells slots h)
theorem am_w_aload_n (hx : p.tables.exec = Jvm.exec) (hb : c.code = cc) {i : Fin 4} {x : Option Nat} (hd : decode cc pc = .ok (.aload_n i, 1)) (hg : am_get lv i = some (va_rf x)) (k : am_W p l e R s m args below meth c Q D cl b0 nL c0 s0 (pc + 1) lv (va_rf x :: st) σ top sl) : am_W p l e R s m args below meth c Q D cl b0 nL c0 s0 pc lv st σ top sl := by
  intro ls H locs cells slots h
  cases x with
  | none => exact lv_aload_nN hx hb hd rfl (h.1.at hg) (k ls H locs cells slots h)
  | some a => exact lv_aload_n hx hb hd rfl (h.1.at hg) (k ls H locs cells slots h)
theorem am_w_istore (hx : p.tables.exec = Jvm.exec) (hb : c.code = cc) {i : Nat} {x : Int32} (hd : decode cc pc = .ok (.istore i, 2)) (hi : i < lv.length) (k : am_W p l e R s m args below meth c Q D cl b0 nL c0 s0 (pc + 2) (lv.set i (some (.int x))) rest σ top sl) : am_W p l e R s m args below meth c Q D cl b0 nL c0 s0 pc lv (.int x :: rest) σ top sl :=
  fun ls H locs cells slots h => lv_istore hx hb hd h.1.1 (by rw [← h.1.2.1]; exact hi) rfl (fun ls' h' => k ls' H locs cells slots ⟨h.1.st hi rfl h', h.2⟩)
theorem am_w_istore_n (hx : p.tables.exec = Jvm.exec) (hb : c.code = cc) {i : Fin 4} {x : Int32} (hd : decode cc pc = .ok (.istore_n i, 1)) (hi : (i : Nat) < lv.length) (k : am_W p l e R s m args below meth c Q D cl b0 nL c0 s0 (pc + 1) (lv.set i (some (.int x))) rest σ top sl) : am_W p l e R s m args below meth c Q D cl b0 nL c0 s0 pc lv (.int x :: rest) σ top sl :=
  fun ls H locs cells slots h => lv_istore_n hx hb hd rfl h.1.1 (by rw [← h.1.2.1]; exact hi) rfl (fun ls' h' => k ls' H locs cells slots ⟨h.1.st hi rfl h', h.2⟩)
theorem am_w_astore (hx : p.tables.exec = Jvm.exec) (hb : c.code = cc) {i : Nat} {x : Option Nat} (hd : decode cc pc = .ok (.astore i, 2)) (hi : i < lv.length) (k : am_W p l e R s m args below meth c Q D cl b0 nL c0 s0 (pc + 2) (lv.set i (some (va_rf x))) rest σ top sl) : am_W p l e R s m args below meth c Q D cl b0 nL c0 s0 pc lv (va_rf x :: rest) σ top sl := by
  intro ls H locs cells slots h
  cases x with
  | none => exact lv_astoreN hx hb hd h.1.1 (by rw [← h.1.2.1]; exact hi) rfl (fun ls' h' => k ls' H locs cells slots ⟨h.1.st hi rfl h', h.2⟩)
  | some a => exact lv_astore hx hb hd h.1.1 (by rw [← h.1.2.1]; exact hi) rfl (fun ls' h' => k ls' H locs cells slots ⟨h.1.st hi rfl h', h.2⟩)
theorem am_w_astore_n (hx : p.tables.exec = Jvm.exec) (hb : c.code = cc) {i : Fin 4} {x : Option Nat} (hd : decode cc pc = .ok (.astore_n i, 1)) (hi : (i : Nat) < lv.length) (k : am_W p l e R s m args below meth c Q D cl b0 nL c0 s0 (pc + 1) (lv.set i (some (va_rf x))) rest σ top sl) : am_W p l e R s m args below meth c Q D cl b0 nL c0 s0 pc lv (va_rf x :: rest) σ top sl := by
  intro ls H locs cells slots h
  cases x with
  | none => exact lv_astore_nN hx hb hd rfl h.1.1 (by rw [← h.1.2.1]; exact hi) rfl (fun ls' h' => k ls' H locs cells slots ⟨h.1.st hi rfl h', h.2⟩)
  | some a => exact lv_astore_n hx hb hd rfl h.1.1 (by rw [← h.1.2.1]; exact hi) rfl (fun ls' h' => k ls' H locs cells slots ⟨h.1.st hi rfl h', h.2⟩)
theorem am_w_iinc (hx : p.tables.exec = Jvm.exec) (hb : c.code = cc) {i : Nat} {n : Int} {x : Int32} (hd : decode cc pc = .ok (.iinc i n, 3)) (hg : am_get lv i = some (.int x)) (k : am_W p l e R s m args below meth c Q D cl b0 nL c0 s0 (pc + 3) (lv.set i (some (.int (x + Int32.ofInt n)))) st σ top sl) : am_W p l e R s m args below meth c Q D cl b0 nL c0 s0 pc lv st σ top sl := by
  intro ls H locs cells slots h
  have hi := am_get_lt hg
  obtain ⟨kk, hk⟩ := List.getElem?_of_mem (am_as_mem.mpr hg)
  exact lv_iinc hx hb hd h.1.1 hk rfl (by rw [← h.1.2.1]; exact hi) rfl (fun ls' h' => k ls' H locs cells slots ⟨h.1.st hi rfl h', h.2⟩)
theorem am_w_iadd (hx : p.tables.exec = Jvm.exec) (hb : c.code = cc) {x y : Int32} (hd : decode cc pc = .ok (.iadd, 1)) (k : am_W p l e R s m args below meth c Q D cl b0 nL c0 s0 (pc + 1) lv (.int (x + y) :: rest) σ top sl) : am_W p l e R s m args below meth c Q D cl b0 nL c0 s0 pc lv (.int y :: .int x :: rest) σ top sl :=
  fun ls H locs cells slots h => lv_iadd hx hb hd (k ls H locs cells slots h)
theorem am_w_isub (hx : p.tables.exec = Jvm.exec) (hb : c.code = cc) {x y : Int32} (hd : decode cc pc = .ok (.isub, 1)) (k : am_W p l e R s m args below meth c Q D cl b0 nL c0 s0 (pc + 1) lv (.int (x - y) :: rest) σ top sl) : am_W p l e R s m args below meth c Q D cl b0 nL c0 s0 pc lv (.int y :: .int x :: rest) σ top sl :=
  fun ls H locs cells slots h => lv_isub hx hb hd (k ls H locs cells slots h)
theorem am_w_imul (hx : p.tables.exec = Jvm.exec) (hb : c.code = cc) {x y : Int32} (hd : decode cc pc = .ok (.imul, 1)) (k : am_W p l e R s m args below meth c Q D cl b0 nL c0 s0 (pc + 1) lv (.int (x * y) :: rest) σ top sl) : am_W p l e R s m args below meth c Q D cl b0 nL c0 s0 pc lv (.int y :: .int x :: rest) σ top sl :=
  fun ls H locs cells slots h => lv_imul hx hb hd (k ls H locs cells slots h)
theorem am_w_iand (hx : p.tables.exec = Jvm.exec) (hb : c.code = cc) {x y : Int32} (hd : decode cc pc = .ok (.iand, 1)) (k : am_W p l e R s m args below meth c Q D cl b0 nL c0 s0 (pc + 1) lv (.int (x &&& y) :: rest) σ top sl) : am_W p l e R s m args below meth c Q D cl b0 nL c0 s0 pc lv (.int y :: .int x :: rest) σ top sl :=
  fun ls H locs cells slots h => lv_iand hx hb hd (k ls H locs cells slots h)
theorem am_w_ior (hx : p.tables.exec = Jvm.exec) (hb : c.code = cc) {x y : Int32} (hd : decode cc pc = .ok (.ior, 1)) (k : am_W p l e R s m args below meth c Q D cl b0 nL c0 s0 (pc + 1) lv (.int (x ||| y) :: rest) σ top sl) : am_W p l e R s m args below meth c Q D cl b0 nL c0 s0 pc lv (.int y :: .int x :: rest) σ top sl :=
  fun ls H locs cells slots h => lv_ior hx hb hd (k ls H locs cells slots h)
theorem am_w_ishl (hx : p.tables.exec = Jvm.exec) (hb : c.code = cc) {x y : Int32} (hd : decode cc pc = .ok (.ishl, 1)) (k : am_W p l e R s m args below meth c Q D cl b0 nL c0 s0 (pc + 1) lv (.int (x <<< (y &&& 31)) :: rest) σ top sl) : am_W p l e R s m args below meth c Q D cl b0 nL c0 s0 pc lv (.int y :: .int x :: rest) σ top sl :=
  fun ls H locs cells slots h => lv_ishl hx hb hd (k ls H locs cells slots h)
theorem am_w_ishr (hx : p.tables.exec = Jvm.exec) (hb : c.code = cc) {x y : Int32} (hd : decode cc pc = .ok (.ishr, 1)) (k : am_W p l e R s m args below meth c Q D cl b0 nL c0 s0 (pc + 1) lv (.int (x >>> (y &&& 31)) :: rest) σ top sl) : am_W p l e R s m args below meth c Q D cl b0 nL c0 s0 pc lv (.int y :: .int x :: rest) σ top sl :=
  fun ls H locs cells slots h => lv_ishr hx hb hd (k ls H locs cells slots h)
theorem am_w_idiv (hx : p.tables.exec = Jvm.exec) (hb : c.code = cc) {x y : Int32} (hd : decode cc pc = .ok (.idiv, 1)) (hy : ¬ y = 0) (k : am_W p l e R s m args below meth c Q D cl b0 nL c0 s0 (pc + 1) lv (.int (x / y) :: rest) σ top sl) : am_W p l e R s m args below meth c Q D cl b0 nL c0 s0 pc lv (.int y :: .int x :: rest) σ top sl :=
  fun ls H locs cells slots h => lv_idiv hx hb hd hy (k ls H locs cells slots h)
theorem am_w_irem (hx : p.tables.exec = Jvm.exec) (hb : c.code = cc) {x y : Int32} (hd : decode cc pc = .ok (.irem, 1)) (hy : ¬ y = 0) (k : am_W p l e R s m args below meth c Q D cl b0 nL c0 s0 (pc + 1) lv (.int (x - x / y * y) :: rest) σ top sl) : am_W p l e R s m args below meth c Q D cl b0 nL c0 s0 pc lv (.int y :: .int x :: rest) σ top sl :=
  fun ls H locs cells slots h => lv_irem hx hb hd hy (k ls H locs cells slots h)
theorem am_w_i2c (hx : p.tables.exec = Jvm.exec) (hb : c.code = cc) {x : Int32} (hd : decode cc pc = .ok (.i2c, 1)) (k : am_W p l e R s m args below meth c Q D cl b0 nL c0 s0 (pc + 1) lv (.int (x.toUInt32 % 65536).toInt32 :: rest) σ top sl) : am_W p l e R s m args below meth c Q D cl b0 nL c0 s0 pc lv (.int x :: rest) σ top sl :=
  fun ls H locs cells slots h => lv_i2c hx hb hd rfl (k ls H locs cells slots h)
theorem am_w_i2l (hx : p.tables.exec = Jvm.exec) (hb : c.code = cc) {x : Int32} (hd : decode cc pc = .ok (.i2l, 1)) (k : am_W p l e R s m args below meth c Q D cl b0 nL c0 s0 (pc + 1) lv (.long x.toInt64 :: rest) σ top sl) : am_W p l e R s m args below meth c Q D cl b0 nL c0 s0 pc lv (.int x :: rest) σ top sl :=
  fun ls H locs cells slots h => lv_i2l hx hb hd rfl (k ls H locs cells slots h)
theorem am_w_lcmp (hx : p.tables.exec = Jvm.exec) (hb : c.code = cc) {x y : Int64} (hd : decode cc pc = .ok (.lcmp, 1)) (k : am_W p l e R s m args below meth c Q D cl b0 nL c0 s0 (pc + 1) lv (.int (lg_cmp x y) :: rest) σ top sl) : am_W p l e R s m args below meth c Q D cl b0 nL c0 s0 pc lv (.long y :: .long x :: rest) σ top sl :=
  fun ls H locs cells slots h => W.lcmp hx hb hd (k ls H locs cells slots h)
theorem am_w_dup (hx : p.tables.exec = Jvm.exec) (hb : c.code = cc) {x : Value} (hd : decode cc pc = .ok (.dup, 1)) (hc : x.category = 1) (k : am_W p l e R s m args below meth c Q D cl b0 nL c0 s0 (pc + 1) lv (x :: x :: rest) σ top sl) : am_W p l e R s m args below meth c Q D cl b0 nL c0 s0 pc lv (x :: rest) σ top sl :=
  fun ls H locs cells slots h => lv_dup hx hb hd hc (k ls H locs cells slots h)
theorem am_w_pop (hx : p.tables.exec = Jvm.exec) (hb : c.code = cc) {x : Value} (hd : decode cc pc = .ok (.pop, 1)) (hc : x.category = 1) (k : am_W p l e R s m args below meth c Q D cl b0 nL c0 s0 (pc + 1) lv rest σ top sl) : am_W p l e R s m args below meth c Q D cl b0 nL c0 s0 pc lv (x :: rest) σ top sl :=
  fun ls H locs cells slots h => lv_pop hx hb hd hc (k ls H locs cells slots h)
theorem am_w_dup_x1 (hx : p.tables.exec = Jvm.exec) (hb : c.code = cc) {x y : Value} (hd : decode cc pc = .ok (.dup_x1, 1)) (hc : x.category = 1) (hc2 : y.category = 1) (k : am_W p l e R s m args below meth c Q D cl b0 nL c0 s0 (pc + 1) lv (x :: y :: x :: rest) σ top sl) : am_W p l e R s m args below meth c Q D cl b0 nL c0 s0 pc lv (x :: y :: rest) σ top sl :=
  fun ls H locs cells slots h => lv_dup_x1 hx hb hd hc hc2 (k ls H locs cells slots h)
theorem am_w_dup2 (hx : p.tables.exec = Jvm.exec) (hb : c.code = cc) {x y : Value} (hd : decode cc pc = .ok (.dup2, 1)) (hc : x.category = 1) (hc2 : y.category = 1) (k : am_W p l e R s m args below meth c Q D cl b0 nL c0 s0 (pc + 1) lv (x :: y :: x :: y :: rest) σ top sl) : am_W p l e R s m args below meth c Q D cl b0 nL c0 s0 pc lv (x :: y :: rest) σ top sl :=
  fun ls H locs cells slots h => lv_dup2_11 hx hb hd hc hc2 (k ls H locs cells slots h)
theorem am_w_goto (hx : p.tables.exec = Jvm.exec) (hb : c.code = cc) {off : Int} {u : Nat} (hd : decode cc pc = .ok (.goto off, 3)) (ht : (pc : Int) + off = (u : Int)) (k : am_W p l e R s m args below meth c Q D cl b0 nL c0 s0 u lv st σ top sl) : am_W p l e R s m args below meth c Q D cl b0 nL c0 s0 pc lv st σ top sl :=
  fun ls H locs cells slots h => lv_goto hx hb hd ht (k ls H locs cells slots h)
theorem am_w_if (hx : p.tables.exec = Jvm.exec) (hb : c.code = cc) {cd : ClassFile.Cond} {off : Int} {u : Nat} {x : Int32} (hd : decode cc pc = .ok (.ifCond cd off, 3)) (ht : (pc : Int) + off = (u : Int)) (kt : am_cb cd x 0 = true → am_W p l e R s m args below meth c Q D cl b0 nL c0 s0 u lv rest σ top sl) (kf : ¬ am_cb cd x 0 = true → am_W p l e R s m args below meth c Q D cl b0 nL c0 s0 (pc + 3) lv rest σ top sl) : am_W p l e R s m args below meth c Q D cl b0 nL c0 s0 pc lv (.int x :: rest) σ top sl := by
  intro ls H locs cells slots h
  cases cd with
  | eq => exact lv_if_eq hx hb hd ht (fun q => kt (decide_eq_true q) ls H locs cells slots h) (fun q => kf (fun z => q (of_decide_eq_true z)) ls H locs cells slots h)
  | ne => exact lv_if_ne hx hb hd ht (fun q => kt (decide_eq_true q) ls H locs cells slots h) (fun q => kf (fun z => of_decide_eq_true z q) ls H locs cells slots h)
  | lt => exact lv_if_lt hx hb hd ht (fun q => kt (decide_eq_true q) ls H locs cells slots h) (fun q => kf (fun z => q (of_decide_eq_true z)) ls H locs cells slots h)
  | ge => exact lv_if_ge hx hb hd ht (fun q => kt (decide_eq_true q) ls H locs cells slots h) (fun q => kf (fun z => q (of_decide_eq_true z)) ls H locs cells slots h)
  | gt => exact lv_if_gt hx hb hd ht (fun q => kt (decide_eq_true q) ls H locs cells slots h) (fun q => kf (fun z => q (of_decide_eq_true z)) ls H locs cells slots h)
  | le => exact lv_if_le hx hb hd ht (fun q => kt (decide_eq_true q) ls H locs cells slots h) (fun q => kf (fun z => q (of_decide_eq_true z)) ls H locs cells slots h)
theorem am_w_icmp (hx : p.tables.exec = Jvm.exec) (hb : c.code = cc) {cd : ClassFile.Cond} {off : Int} {u : Nat} {x y : Int32} (hd : decode cc pc = .ok (.if_icmp cd off, 3)) (ht : (pc : Int) + off = (u : Int)) (kt : am_cb cd x y = true → am_W p l e R s m args below meth c Q D cl b0 nL c0 s0 u lv rest σ top sl) (kf : ¬ am_cb cd x y = true → am_W p l e R s m args below meth c Q D cl b0 nL c0 s0 (pc + 3) lv rest σ top sl) : am_W p l e R s m args below meth c Q D cl b0 nL c0 s0 pc lv (.int y :: .int x :: rest) σ top sl := by
  intro ls H locs cells slots h
  cases cd with
  | eq => exact lv_icmp_eq hx hb hd ht (fun q => kt (decide_eq_true q) ls H locs cells slots h) (fun q => kf (fun z => q (of_decide_eq_true z)) ls H locs cells slots h)
  | ne => exact lv_icmp_ne hx hb hd ht (fun q => kt (decide_eq_true q) ls H locs cells slots h) (fun q => kf (fun z => of_decide_eq_true z q) ls H locs cells slots h)
  | lt => exact lv_icmp_lt hx hb hd ht (fun q => kt (decide_eq_true q) ls H locs cells slots h) (fun q => kf (fun z => q (of_decide_eq_true z)) ls H locs cells slots h)
  | ge => exact lv_icmp_ge hx hb hd ht (fun q => kt (decide_eq_true q) ls H locs cells slots h) (fun q => kf (fun z => q (of_decide_eq_true z)) ls H locs cells slots h)
  | gt => exact lv_icmp_gt hx hb hd ht (fun q => kt (decide_eq_true q) ls H locs cells slots h) (fun q => kf (fun z => q (of_decide_eq_true z)) ls H locs cells slots h)
  | le => exact lv_icmp_le hx hb hd ht (fun q => kt (decide_eq_true q) ls H locs cells slots h) (fun q => kf (fun z => q (of_decide_eq_true z)) ls H locs cells slots h)
theorem am_w_acmp_eq (hx : p.tables.exec = Jvm.exec) (hb : c.code = cc) {off : Int} {u : Nat} {x y : Option Nat} (hd : decode cc pc = .ok (.if_acmp .eq off, 3)) (ht : (pc : Int) + off = (u : Int)) (kt : x = y → am_W p l e R s m args below meth c Q D cl b0 nL c0 s0 u lv rest σ top sl) (kf : ¬ x = y → am_W p l e R s m args below meth c Q D cl b0 nL c0 s0 (pc + 3) lv rest σ top sl) : am_W p l e R s m args below meth c Q D cl b0 nL c0 s0 pc lv (va_rf y :: va_rf x :: rest) σ top sl :=
  fun ls H locs cells slots h => lv_acmp_eq hx hb hd ht (fun q => kt q ls H locs cells slots h) (fun q => kf q ls H locs cells slots h)
theorem am_w_acmp_ne (hx : p.tables.exec = Jvm.exec) (hb : c.code = cc) {off : Int} {u : Nat} {x y : Option Nat} (hd : decode cc pc = .ok (.if_acmp .ne off, 3)) (ht : (pc : Int) + off = (u : Int)) (kt : ¬ x = y → am_W p l e R s m args below meth c Q D cl b0 nL c0 s0 u lv rest σ top sl) (kf : x = y → am_W p l e R s m args below meth c Q D cl b0 nL c0 s0 (pc + 3) lv rest σ top sl) : am_W p l e R s m args below meth c Q D cl b0 nL c0 s0 pc lv (va_rf y :: va_rf x :: rest) σ top sl :=
  fun ls H locs cells slots h => lv_acmp_ne hx hb hd ht (fun q => kt q ls H locs cells slots h) (fun q => kf q ls H locs cells slots h)
theorem am_w_ifnull (hx : p.tables.exec = Jvm.exec) (hb : c.code = cc) {off : Int} {u : Nat} {x : Option Nat} (hd : decode cc pc = .ok (.ifnull off, 3)) (ht : (pc : Int) + off = (u : Int)) (kt : x = none → am_W p l e R s m args below meth c Q D cl b0 nL c0 s0 u lv rest σ top sl) (kf : ∀ a, x = some a → am_W p l e R s m args below meth c Q D cl b0 nL c0 s0 (pc + 3) lv rest σ top sl) : am_W p l e R s m args below meth c Q D cl b0 nL c0 s0 pc lv (va_rf x :: rest) σ top sl := by
  intro ls H locs cells slots h
  cases x with
  | none => exact lv_ifnullN hx hb hd ht (kt rfl ls H locs cells slots h)
  | some a => exact lv_ifnull hx hb hd (kf a rfl ls H locs cells slots h)
theorem am_w_ifnonnull (hx : p.tables.exec = Jvm.exec) (hb : c.code = cc) {off : Int} {u : Nat} {x : Option Nat} (hd : decode cc pc = .ok (.ifnonnull off, 3)) (ht : (pc : Int) + off = (u : Int)) (kt : ∀ a, x = some a → am_W p l e R s m args below meth c Q D cl b0 nL c0 s0 u lv rest σ top sl) (kf : x = none → am_W p l e R s m args below meth c Q D cl b0 nL c0 s0 (pc + 3) lv rest σ top sl) : am_W p l e R s m args below meth c Q D cl b0 nL c0 s0 pc lv (va_rf x :: rest) σ top sl := by
  intro ls H locs cells slots h
  cases x with
  | none => exact lv_ifnonnullN hx hb hd (kf rfl ls H locs cells slots h)
  | some a => exact lv_ifnonnull hx hb hd ht (kt a rfl ls H locs cells slots h)
theorem am_w_tsw (hx : p.tables.exec = Jvm.exec) (hb : c.code = cc) {dflt lo hi : Int} {offs : Array Int} {len : Nat} {x : Int32} (hd : decode cc pc = .ok (.tableswitch dflt lo hi offs, len)) (h0 : x.toInt < lo ∨ hi < x.toInt) (ht : 0 ≤ (pc : Int) + dflt) (k : am_W p l e R s m args below meth c Q D cl b0 nL c0 s0 (((pc : Int) + dflt).toNat) lv rest σ top sl) : am_W p l e R s m args below meth c Q D cl b0 nL c0 s0 pc lv (.int x :: rest) σ top sl :=
  fun ls H locs cells slots h => lv_tableOut hx hb hd h0 (Int.toNat_of_nonneg ht).symm (k ls H locs cells slots h)
theorem am_w_tsw2 (hx : p.tables.exec = Jvm.exec) (hb : c.code = cc) {dflt lo hi off : Int} {offs : Array Int} {len : Nat} {x : Int32} (hd : decode cc pc = .ok (.tableswitch dflt lo hi offs, len)) (h0 : ¬ (x.toInt < lo ∨ hi < x.toInt)) (ho : offs[(x.toInt - lo).toNat]? = some off) (ht : 0 ≤ (pc : Int) + off) (k : am_W p l e R s m args below meth c Q D cl b0 nL c0 s0 (((pc : Int) + off).toNat) lv rest σ top sl) : am_W p l e R s m args below meth c Q D cl b0 nL c0 s0 pc lv (.int x :: rest) σ top sl :=
  fun ls H locs cells slots h => lv_tableIn hx hb hd (fun q => h0 (Or.inl q)) (fun q => h0 (Or.inr q)) ho (Int.toNat_of_nonneg ht).symm (k ls H locs cells slots h)
theorem am_w_lsw (hx : p.tables.exec = Jvm.exec) (hb : c.code = cc) {dflt : Int} {ps : Array (Int × Int)} {len : Nat} {x : Int32} (hd : decode cc pc = .ok (.lookupswitch dflt ps, len)) (hp : (ps.toList.zip (ps.toList.drop 1)).all (fun (a, next) => a.1 < next.1) = true) (ht : 0 ≤ (pc : Int) + Op.lookupswitch.offset ps.toList dflt x.toInt) (k : am_W p l e R s m args below meth c Q D cl b0 nL c0 s0 (((pc : Int) + Op.lookupswitch.offset ps.toList dflt x.toInt).toNat) lv rest σ top sl) : am_W p l e R s m args below meth c Q D cl b0 nL c0 s0 pc lv (.int x :: rest) σ top sl :=
  fun ls H locs cells slots h => lv_lookup hx hb hd hp rfl (Int.toNat_of_nonneg ht).symm (k ls H locs cells slots h)
theorem am_w_ldc (hx : p.tables.exec = Jvm.exec) (hb : c.code = cc) {own tx : String} {index q : Nat} (hown : s.vm.findClass own = some m.cls) (hZ : vk_R own index tx q s) (hd : decode cc pc = .ok (.ldc index, 2)) (k : am_W p l e R s m args below meth c Q D cl b0 nL c0 s0 (pc + 2) lv (.ref q :: st) σ top sl) : am_W p l e R s m args below meth c Q D cl b0 nL c0 s0 pc lv st σ top sl :=
  fun ls H locs cells slots h => va_ldcS hx hb hown hZ hd (k ls H locs cells slots h)
theorem am_w_gets (hx : p.tables.exec = Jvm.exec) (hb : c.code = cc) {C n d own : String} {index : Nat} {v : Value} (hown : s.vm.findClass own = some m.cls) (hZ : va_Z C n d v (fun q => b0 ≤ q) s s.heap) (hl : (Cond.fieldLink own index C n d).before args s = true) (hd : decode cc pc = .ok (.getstatic index, 3)) (k : am_W p l e R s m args below meth c Q D cl b0 nL c0 s0 (pc + 3) lv (v :: st) σ top sl) : am_W p l e R s m args below meth c Q D cl b0 nL c0 s0 pc lv st σ top sl :=
  fun ls H locs cells slots h => va_gets hx hb hZ h.2.2.1 hown hl (fun _ q => q) hd (k ls H locs cells slots h)
theorem am_w_getf (hx : p.tables.exec = Jvm.exec) (hb : c.code = cc) {own C : String} {T : u_T} {N u index : Nat} (hown : s.vm.findClass own = some m.cls) (hts : ∀ w ∈ u_ws C T N, w.before args s = true) (hc : cl[u]? = some (C, T, N)) (hdecl : ∀ k, k < N → (T k).1 = C) {v : Nat} (hv : v < N)
    (hl : (Cond.fieldLink own index C (T v).2.1 (T v).2.2.1).before args s = true ∨ ∃ host, (Cond.fieldLinkNest own index C (T v).2.1 (T v).2.2.1 host).before args s = true) (hd : decode cc pc = .ok (.getfield index, 3)) {a : Nat} {fs : List Value} {w : Value} (ha : σ a = some (.inr (.inl (u, fs)))) (hw : fs[v]? = some w)
    (k : am_W p l e R s m args below meth c Q D cl b0 nL c0 s0 (pc + 3) lv (w :: rest) σ top sl) : am_W p l e R s m args below meth c Q D cl b0 nL c0 s0 pc lv (.ref a :: rest) σ top sl := by
  intro ls H locs cells slots h
  obtain ⟨hsz, hbt, tys, hK, hcl⟩ := h.2.1
  obtain ⟨-, -, r, hr, -, hob⟩ := hcl a _ ha
  have hP : va_P D cl [(a, .inr (u, fs))] H := am_P1 ⟨r, hr, hob⟩
  rcases hl with hl | ⟨host, hl⟩
  · exact va_get hx hb hts (fun _ z => z) hown hK hP 0 rfl hc v hv hl (fun x q => by rw [hdecl v hv] at q; exact q) hw hd (k ls H locs cells slots h)
  · exact va_getN hx hb hts (fun _ z => z) hown hK hP 0 rfl hc v hv hl (fun x q => by rw [hdecl v hv] at q; exact q) hw hd (k ls H locs cells slots h)
theorem am_w_putf (hx : p.tables.exec = Jvm.exec) (hb : c.code = cc) {own C : String} {T : u_T} {N u index : Nat} (hown : s.vm.findClass own = some m.cls) (hts : ∀ w ∈ u_ws C T N, w.before args s = true) (hc : cl[u]? = some (C, T, N)) (hdecl : ∀ k, k < N → (T k).1 = C) (ty : Nat → FieldType) (hty : ∀ k, k < N → parseFieldDescriptor (T k).2.2.1 = some (ty k)) (hnm : ∀ a, a < N → ∀ b, b < N → a ≠ b → (T a).2.1 ≠ (T b).2.1) {v : Nat} (hv : v < N)
    (hl : (Cond.fieldLink own index C (T v).2.1 (T v).2.2.1).before args s = true ∧ ((T v).2.2.2 = false ∨ ((T v).2.2.2 = true ∧ meth.name = "<init>" ∧ own = C)) ∨ (T v).2.2.2 = false ∧ ∃ host, (Cond.fieldLinkNest own index C (T v).2.1 (T v).2.2.1 host).before args s = true) (hd : decode cc pc = .ok (.putfield index, 3)) {a : Nat} {fs : List Value} {w : Value} (ha : σ a = some (.inr (.inl (u, fs)))) (hw : am_fv (ty v) w = true)
    (k : am_W p l e R s m args below meth c Q D cl b0 nL c0 s0 (pc + 3) lv rest (am_up σ a (.inr (.inl (u, fs.set v w)))) top sl) : am_W p l e R s m args below meth c Q D cl b0 nL c0 s0 pc lv (w :: .ref a :: rest) σ top sl := by
  intro ls H locs cells slots h
  obtain ⟨hsz, hbt, tys, hK, hcl⟩ := h.2.1
  obtain ⟨hlt, hb0, r, hr, hfl, cell, q1, q2, q3, q4⟩ := hcl a _ ha
  have hap := va_apart (own := own) hts (fun _ z => z) ty hty hnm hK hc
  have hr2 : r = (C, T, N) := Option.some.inj (hr.symm.trans hc)
  subst hr2
  obtain ⟨hSl, hfc, kC, hkC, hkind⟩ := hK.1 u _ hc
  obtain ⟨cf, kf, fi, f, hi, hsl⟩ := hSl v hv
  have hi2 : s.fieldFound? C (T v).2.1 (T v).2.2.1 = some (cf, kf, fi, f) := by rw [hdecl v hv] at hi; exact hi
  have hst := (u_facts hfc hkC (u_lays hts (fun _ z => z) hv) hi).1
  have hok := am_fv_ok hw
  have hfin : ∀ (H' : Heap), H'[a]? = some (cell.setSlot f.slot w) → H'.size = H.size → (∀ q, q ≠ a → H'[q]? = H[q]?) → W p l e R s m args below meth c H' (locs ++ [⟨a, f.slot⟩]) cells slots Q (F0 m (pc + 3) ls rest) := by
    intro H' e1 e2 e3
    refine k ls H' _ cells slots ⟨h.1, am_dy_upd hsz hbt hK hcl e2 e3 hlt hb0 ⟨hb0, (C, T, N), hc, by rw [List.length_set]; exact hfl, ?_⟩, am_S_put h.2.2.1 e2 e3 hb0, h.2.2.2⟩
    rw [hsl] at e1
    exact t_OB.to (V := updV (vp_V fs) v w) ⟨_, e1, q2, q3, t_set q4 hap hv w⟩ (fun j _ => vp_updV_set (by rw [hfl]; exact hv) w j)
  rcases hl with ⟨hl, hf | ⟨hf, hm, ho⟩⟩ | ⟨hf, host, hl⟩
  · have hlay := hts _ (u_in_lay hv)
    unfold u_lay at hlay
    rw [if_neg (by rw [hf]; decide)] at hlay
    have h6 := u_store hfc hkC hkind hlay hi (hty v hv) hok.1 hok.2
    exact W.putK hx hb (f := f) ⟨hown, hl, ⟨_, _, _, hi2⟩, hst⟩ (by rw [q2]; exact h6) q1 q3 (by rw [hsl]; exact k2_hasslot (q4 v hv)) rfl rfl hd hfin
  · have hlay := hts _ (u_in_lay hv)
    unfold u_lay at hlay
    rw [if_pos hf] at hlay
    have hcf : m.cls = cf := by
      obtain ⟨_, _, c', _, _, _, -, -, hf', -, -, -, hown2, -⟩ := Cond.laysFinal_spec hlay
      have e1 : c' = cf := by have := hi.symm.trans hf'; simp at this; exact this.1.symm
      rw [hdecl v hv, ← ho] at hown2
      rw [← e1]; exact Option.some.inj (hown.symm.trans hown2)
    have h6 := u_fits hfc hkC hkind (Or.inr hlay) hi (hty v hv) hok.1 hok.2
    exact W.putFinK hx hb hown hl hi2 hst hcf hm (by rw [q2]; exact h6) q1 q3 (by rw [hsl]; exact k2_hasslot (q4 v hv)) rfl rfl hd hfin
  · have hlay := hts _ (u_in_lay hv)
    unfold u_lay at hlay
    rw [if_neg (by rw [hf]; decide)] at hlay
    have h6 := u_store hfc hkC hkind hlay hi (hty v hv) hok.1 hok.2
    exact va_WputK hx hb (f := f) hown hl hi2 hst (by rw [q2]; exact h6) q1 q3 (by rw [hsl]; exact k2_hasslot (q4 v hv)) rfl rfl hd hfin
end AMS
end
section
theorem am_set_i (cA : ClassId) (n : Nat) (f : Nat → Int32) (k : Nat) (x : Int32) : (vp_cell cA (n, .inl f)).setSlot k (.int x) = vp_cell cA (n, .inl (upd f k x)) := by
  rw [vp_cell_i, vp_cell_i, arrV_store]
  congr 1
  funext q
  by_cases hq : q = k
  · subst hq
    simp [updV, upd]
  · simp [updV, upd, hq]
theorem am_set_l (cA : ClassId) (n : Nat) (f : Nat → Int64) (k : Nat) (x : Int64) : (vp_cell cA (n, .inr (.inl f))).setSlot k (.long x) = vp_cell cA (n, .inr (.inl (vp_updL f k x))) := by
  rw [vp_cell_l, vp_cell_l, arrV_store]
  congr 1
  funext q
  by_cases hq : q = k
  · subst hq
    simp [updV, vp_updL]
  · simp [updV, vp_updL, hq]
theorem am_set_q (cA : ClassId) (n : Nat) (f : Nat → Option Nat) (k : Nat) (x : Option Nat) : (vp_cell cA (n, .inr (.inr (.inr (.inr f))))).setSlot k (va_rf x) = vp_cell cA (n, .inr (.inr (.inr (.inr (va_up f k x))))) := by
  rw [vp_cell_q, vp_cell_q, arrV_store]
  congr 1
  funext q
  by_cases hq : q = k
  · subst hq
    simp [updV, va_up]
  · simp [updV, va_up, hq]
theorem am_fitU {ty : FieldType} {n : Nat} {f : Nat → Int32} {k : Nat} {x : Int32} (h : am_fitA ty (n, .inl f)) (hx : fits ty (.int x) = true) : am_fitA ty (n, .inl (upd f k x)) := by
  intro j
  show fits ty (.int (if j = k then x else f j)) = true
  by_cases hj : j = k
  · rw [if_pos hj]; exact hx
  · rw [if_neg hj]; exact h j
theorem am_narC (x : Int32) : fits .char (.int (vp_nar .char x)) = true := by
  have e : vp_nar .char x = nI (x.toBitVec.toNat % 65536) := by
    rw [vp_nar_char]
    apply Int32.toBitVec_inj.mp
    apply BitVec.eq_of_toNat_eq
    rw [pk_tn (by omega)]
    show x.toUInt32.toUInt16.toUInt32.toNat = _
    rw [UInt16.toNat_toUInt32, UInt32.toNat_toUInt16]
    rfl
  rw [e]
  exact (pk_charN (Nat.mod_lt _ (by decide))).2
theorem am_narZ (x : Int32) : fits .boolean (.int (vp_nar .boolean x)) = true := by
  have e : vp_nar .boolean x = x &&& 1 := rfl
  have h : x &&& 1 = nI (x.toBitVec.toNat % 2 ^ 1) := pk_and x 1 (by decide)
  have h2 : x.toBitVec.toNat % 2 ^ 1 < 2 := Nat.mod_lt _ (by decide)
  rw [e, h]
  generalize x.toBitVec.toNat % 2 ^ 1 = j at h2
  rcases (show j = 0 ∨ j = 1 by omega) with rfl | rfl <;> decide
theorem am_kapp {D : va_G} {cl : List vw_C} {tys : List (ClassId × FieldType)} {U : State} {cA : ClassId} {ty : FieldType} (hK : va_K D cl tys U) (h1 : ArrOfT U cA ty) (h2 : va_RA U cA ty) : va_K D cl (tys ++ [(cA, ty)]) U := by
  refine ⟨hK.1, fun k x hx => ?_⟩
  by_cases hl : k < tys.length
  · rw [List.getElem?_append_left hl] at hx
    exact hK.2 k x hx
  · rw [List.getElem?_append_right (by omega)] at hx
    have hz : k - tys.length < 1 := (List.getElem?_eq_some_iff.mp hx).1
    rw [show k - tys.length = 0 by omega] at hx
    cases hx
    exact ⟨h1, h2⟩
section AMA
variable {p : Program} {l : Launch} {e : Env} {R : Room} {s : State} {m : MethodId} {args : Array Value} {below : List Frame} {meth : Method} {c : Code} {Q : State → Prop}
variable {cc : ByteArray} {D : va_G} {cl : List vw_C} {b0 nL c0 s0 : Nat} {pc top sl : Nat} {lv : am_V} {st rest : List Value} {σ : am_H}
theorem am_w_alen (hx : p.tables.exec = Jvm.exec) (hb : c.code = cc) (hd : decode cc pc = .ok (.arraylength, 1)) {a : Nat} {ty : FieldType} {ar : vp_A} (ha : σ a = some (.inl (ty, ar))) (k : am_W p l e R s m args below meth c Q D cl b0 nL c0 s0 (pc + 1) lv (.int (Int32.ofNat ar.1) :: rest) σ top sl) : am_W p l e R s m args below meth c Q D cl b0 nL c0 s0 pc lv (.ref a :: rest) σ top sl := by
  intro ls H locs cells slots h
  obtain ⟨hsz, hbt, tys, hK, hcl⟩ := h.2.1
  obtain ⟨hlt, hb0, hft, cA, hin, hH⟩ := hcl a _ ha
  obtain ⟨t0, ht0⟩ := List.getElem?_of_mem hin
  have hP : va_P D cl [(a, .inl (cA, ar))] H := am_P1 hH
  exact va_alen hx hb hK hP 0 t0 rfl ht0 rfl hd (k ls H locs cells slots h)
theorem am_w_slen (hx : p.tables.exec = Jvm.exec) (hb : c.code = cc) (hd : decode cc pc = .ok (.arraylength, 1)) {a n : Nat} {f : Nat → Int32} (ha : σ a = some (.inr (.inr (0, n, f)))) (k : am_W p l e R s m args below meth c Q D cl b0 nL c0 s0 (pc + 1) lv (.int (Int32.ofNat n) :: rest) σ top sl) : am_W p l e R s m args below meth c Q D cl b0 nL c0 s0 pc lv (.ref a :: rest) σ top sl := by
  intro ls H locs cells slots h
  obtain ⟨hsz, hbt, tys, hK, hcl⟩ := h.2.1
  obtain ⟨hlt, hb0, hX⟩ := hcl a _ ha
  exact va_slen (A := fun q => b0 ≤ q) (H0 := H) hx hb hX (by rw [hsz]; exact hlt) (Nat.not_le.mpr hb0) ⟨Nat.le_refl _, fun _ _ _ => rfl, h.2.2.1.2.2⟩ hd (k ls H locs cells slots h)
theorem am_w_sald (hx : p.tables.exec = Jvm.exec) (hb : c.code = cc) (hd : decode cc pc = .ok (.iaload, 1)) {a n : Nat} {f : Nat → Int32} {i : Int32} (ha : σ a = some (.inr (.inr (0, n, f)))) (hi : ¬ (i < 0 ∨ n ≤ i.toNatClampNeg)) (k : am_W p l e R s m args below meth c Q D cl b0 nL c0 s0 (pc + 1) lv (.int (f i.toNatClampNeg) :: rest) σ top sl) : am_W p l e R s m args below meth c Q D cl b0 nL c0 s0 pc lv (.int i :: .ref a :: rest) σ top sl := by
  intro ls H locs cells slots h
  obtain ⟨hsz, hbt, tys, hK, hcl⟩ := h.2.1
  obtain ⟨hlt, hb0, hX⟩ := hcl a _ ha
  exact va_sld (A := fun q => b0 ≤ q) (H0 := H) hx hb hX (by rw [hsz]; exact hlt) (Nat.not_le.mpr hb0) ⟨Nat.le_refl _, fun _ _ _ => rfl, h.2.2.1.2.2⟩ hi hd (k ls H locs cells slots h)
theorem am_w_iald (hx : p.tables.exec = Jvm.exec) (hb : c.code = cc) (hd : decode cc pc = .ok (.iaload, 1)) {a n : Nat} {f : Nat → Int32} {i : Int32} (ha : σ a = some (.inl (.int, n, .inl f))) (hi : ¬ (i < 0 ∨ n ≤ i.toNatClampNeg)) (k : am_W p l e R s m args below meth c Q D cl b0 nL c0 s0 (pc + 1) lv (.int (f i.toNatClampNeg) :: rest) σ top sl) : am_W p l e R s m args below meth c Q D cl b0 nL c0 s0 pc lv (.int i :: .ref a :: rest) σ top sl := by
  intro ls H locs cells slots h
  obtain ⟨hsz, hbt, tys, hK, hcl⟩ := h.2.1
  obtain ⟨hlt, hb0, hft, cA, hin, hH⟩ := hcl a _ ha
  obtain ⟨t0, ht0⟩ := List.getElem?_of_mem hin
  have hP : va_P D cl [(a, .inl (cA, n, .inl f))] H := am_P1 hH
  exact va_iald hx hb hK hP 0 t0 rfl ht0 hi hd (k ls H locs cells slots h)
theorem am_w_cald (hx : p.tables.exec = Jvm.exec) (hb : c.code = cc) (hd : decode cc pc = .ok (.caload, 1)) {a n : Nat} {f : Nat → Int32} {i : Int32} (ha : σ a = some (.inl (.char, n, .inl f))) (hi : ¬ (i < 0 ∨ n ≤ i.toNatClampNeg)) (k : am_W p l e R s m args below meth c Q D cl b0 nL c0 s0 (pc + 1) lv (.int (f i.toNatClampNeg) :: rest) σ top sl) : am_W p l e R s m args below meth c Q D cl b0 nL c0 s0 pc lv (.int i :: .ref a :: rest) σ top sl := by
  intro ls H locs cells slots h
  obtain ⟨hsz, hbt, tys, hK, hcl⟩ := h.2.1
  obtain ⟨hlt, hb0, hft, cA, hin, hH⟩ := hcl a _ ha
  obtain ⟨t0, ht0⟩ := List.getElem?_of_mem hin
  have hP : va_P D cl [(a, .inl (cA, n, .inl f))] H := am_P1 hH
  exact va_cald hx hb hK hP 0 t0 rfl ht0 hi hd (k ls H locs cells slots h)
theorem am_w_zald (hx : p.tables.exec = Jvm.exec) (hb : c.code = cc) (hd : decode cc pc = .ok (.baload, 1)) {a n : Nat} {f : Nat → Int32} {i : Int32} (ha : σ a = some (.inl (.boolean, n, .inl f))) (hi : ¬ (i < 0 ∨ n ≤ i.toNatClampNeg)) (k : am_W p l e R s m args below meth c Q D cl b0 nL c0 s0 (pc + 1) lv (.int (f i.toNatClampNeg) :: rest) σ top sl) : am_W p l e R s m args below meth c Q D cl b0 nL c0 s0 pc lv (.int i :: .ref a :: rest) σ top sl := by
  intro ls H locs cells slots h
  obtain ⟨hsz, hbt, tys, hK, hcl⟩ := h.2.1
  obtain ⟨hlt, hb0, hft, cA, hin, hH⟩ := hcl a _ ha
  obtain ⟨t0, ht0⟩ := List.getElem?_of_mem hin
  have hP : va_P D cl [(a, .inl (cA, n, .inl f))] H := am_P1 hH
  exact va_zald hx hb hK hP 0 t0 rfl ht0 hi hd (k ls H locs cells slots h)
theorem am_w_getS (hx : p.tables.exec = Jvm.exec) (hb : c.code = cc) {own : String} {index : Nat} (hd : decode cc pc = .ok (.getfield index, 3)) (hown : s.vm.findClass own = some m.cls) {n d : String} {w : Value} {a av : Nat} {f : Nat → Int32} (hl : (Cond.fieldLink own index "java/lang/String" n d).before args s = true) (ha : σ a = some (.inr (.inr (1, av, f))))
    (hw : (n = "value" ∧ d = "[B" ∧ w = .ref av) ∨ (n = "coder" ∧ d = "B" ∧ w = .int 0)) (k : am_W p l e R s m args below meth c Q D cl b0 nL c0 s0 (pc + 3) lv (w :: rest) σ top sl) : am_W p l e R s m args below meth c Q D cl b0 nL c0 s0 pc lv (.ref a :: rest) σ top sl := by
  intro ls H locs cells slots h
  obtain ⟨hsz, hbt, tys, hK, hcl⟩ := h.2.1
  obtain ⟨hlt, hb0, h1, h2, h3⟩ := hcl a _ ha
  rcases hw with ⟨rfl, rfl, rfl⟩ | ⟨rfl, rfl, rfl⟩
  · obtain ⟨cf, kk, i, f1, cell, g1, g2, g3, g4, g5, -⟩ := h3
    exact W.getf hx hb hown hl g1 g2 g3 g4 g5 rfl rfl hd (k ls H locs cells slots h)
  · obtain ⟨cf, kk, i, f1, cell, g1, g2, g3, g4, g5, -⟩ := h2
    exact W.getf hx hb hown hl g1 g2 g3 g4 g5 rfl rfl hd (k ls H locs cells slots h)
theorem am_w_tlen (hx : p.tables.exec = Jvm.exec) (hb : c.code = cc) (hd : decode cc pc = .ok (.arraylength, 1)) {a n : Nat} {f : Nat → Int32} (ha : σ a = some (.inr (.inr (2, n, f)))) (k : am_W p l e R s m args below meth c Q D cl b0 nL c0 s0 (pc + 1) lv (.int (Int32.ofNat n) :: rest) σ top sl) : am_W p l e R s m args below meth c Q D cl b0 nL c0 s0 pc lv (.ref a :: rest) σ top sl := by
  intro ls H locs cells slots h
  obtain ⟨hsz, hbt, tys, hK, hcl⟩ := h.2.1
  obtain ⟨hlt, hb0, cell, g1, g2, g3, g4, g5, g6, -⟩ := hcl a _ ha
  exact W.alen hx hb g1 g2 g5 rfl rfl hd (k ls H locs cells slots h)
theorem am_w_tb (hx : p.tables.exec = Jvm.exec) (hb : c.code = cc) (hd : decode cc pc = .ok (.baload, 1)) {a n : Nat} {f : Nat → Int32} {i : Int32} (ha : σ a = some (.inr (.inr (2, n, f)))) (hi : ¬ (i < 0 ∨ n ≤ i.toNatClampNeg)) (k : am_W p l e R s m args below meth c Q D cl b0 nL c0 s0 (pc + 1) lv (.int (f i.toNatClampNeg) :: rest) σ top sl) : am_W p l e R s m args below meth c Q D cl b0 nL c0 s0 pc lv (.int i :: .ref a :: rest) σ top sl := by
  intro ls H locs cells slots h
  obtain ⟨hsz, hbt, tys, hK, hcl⟩ := h.2.1
  obtain ⟨hlt, hb0, cell, g1, g2, g3, g4, g5, g6, -⟩ := hcl a _ ha
  exact W.bald hx hb g1 g2 g3 (fun z => hi (z.imp id (fun y => Nat.le_trans g4 y))) (g6 _ (Nat.not_le.mp fun z => hi (Or.inr z))) rfl rfl hd (k ls H locs cells slots h)
theorem am_w_lald (hx : p.tables.exec = Jvm.exec) (hb : c.code = cc) (hd : decode cc pc = .ok (.laload, 1)) {a n : Nat} {f : Nat → Int64} {i : Int32} (ha : σ a = some (.inl (.long, n, .inr (.inl f)))) (hi : ¬ (i < 0 ∨ n ≤ i.toNatClampNeg)) (k : am_W p l e R s m args below meth c Q D cl b0 nL c0 s0 (pc + 1) lv (.long (f i.toNatClampNeg) :: rest) σ top sl) : am_W p l e R s m args below meth c Q D cl b0 nL c0 s0 pc lv (.int i :: .ref a :: rest) σ top sl := by
  intro ls H locs cells slots h
  obtain ⟨hsz, hbt, tys, hK, hcl⟩ := h.2.1
  obtain ⟨hlt, hb0, hft, cA, hin, hH⟩ := hcl a _ ha
  obtain ⟨t0, ht0⟩ := List.getElem?_of_mem hin
  have hP : va_P D cl [(a, .inl (cA, n, .inr (.inl f)))] H := am_P1 hH
  exact va_lald hx hb hK hP 0 t0 rfl ht0 hi hd (k ls H locs cells slots h)
theorem am_w_aald (hx : p.tables.exec = Jvm.exec) (hb : c.code = cc) (hd : decode cc pc = .ok (.aaload, 1)) {a n : Nat} {C : String} {f : Nat → Option Nat} {i : Int32} (ha : σ a = some (.inl (.object C, n, .inr (.inr (.inr (.inr f)))))) (hi : ¬ (i < 0 ∨ n ≤ i.toNatClampNeg)) (k : am_W p l e R s m args below meth c Q D cl b0 nL c0 s0 (pc + 1) lv (va_rf (f i.toNatClampNeg) :: rest) σ top sl) : am_W p l e R s m args below meth c Q D cl b0 nL c0 s0 pc lv (.int i :: .ref a :: rest) σ top sl := by
  intro ls H locs cells slots h
  obtain ⟨hsz, hbt, tys, hK, hcl⟩ := h.2.1
  obtain ⟨hlt, hb0, hft, cA, hin, hH⟩ := hcl a _ ha
  obtain ⟨t0, ht0⟩ := List.getElem?_of_mem hin
  have hP : va_P D cl [(a, .inl (cA, n, .inr (.inr (.inr (.inr f)))))] H := am_P1 hH
  exact va_aldq hx hb hK hP 0 t0 rfl ht0 hi hd (k ls H locs cells slots h)
theorem am_w_iast (hx : p.tables.exec = Jvm.exec) (hb : c.code = cc) (hd : decode cc pc = .ok (.iastore, 1)) {a n : Nat} {f : Nat → Int32} {i x : Int32} (ha : σ a = some (.inl (.int, n, .inl f))) (hi : ¬ (i < 0 ∨ n ≤ i.toNatClampNeg)) (k : am_W p l e R s m args below meth c Q D cl b0 nL c0 s0 (pc + 1) lv rest (am_up σ a (.inl (.int, n, .inl (upd f i.toNatClampNeg x)))) top sl) : am_W p l e R s m args below meth c Q D cl b0 nL c0 s0 pc lv (.int x :: .int i :: .ref a :: rest) σ top sl := by
  intro ls H locs cells slots h
  obtain ⟨hsz, hbt, tys, hK, hcl⟩ := h.2.1
  obtain ⟨hlt, hb0, hft, cA, hin, hH⟩ := hcl a _ ha
  obtain ⟨t0, ht0⟩ := List.getElem?_of_mem hin
  refine W.iast hx hb hH ((hK.2 t0 _ ht0).1 n (fun j => .int (f j))) (fun q => by cases q) (by show ¬ (i < 0 ∨ (arrV _ _ _).slots.size ≤ _); rw [arrV_size]; exact hi) rfl rfl hd fun H1 e1 z oq => ?_
  exact k ls H1 _ cells slots ⟨h.1, am_dy_upd hsz hbt hK hcl z oq hlt hb0 ⟨hb0, am_fitU hft rfl, cA, hin, e1.trans (congrArg some (am_set_i cA n f i.toNatClampNeg x))⟩, am_S_put h.2.2.1 z oq hb0, h.2.2.2⟩
theorem am_w_cast (hx : p.tables.exec = Jvm.exec) (hb : c.code = cc) (hd : decode cc pc = .ok (.castore, 1)) {a n : Nat} {f : Nat → Int32} {i x : Int32} (ha : σ a = some (.inl (.char, n, .inl f))) (hi : ¬ (i < 0 ∨ n ≤ i.toNatClampNeg)) (k : am_W p l e R s m args below meth c Q D cl b0 nL c0 s0 (pc + 1) lv rest (am_up σ a (.inl (.char, n, .inl (upd f i.toNatClampNeg (vp_nar .char x))))) top sl) : am_W p l e R s m args below meth c Q D cl b0 nL c0 s0 pc lv (.int x :: .int i :: .ref a :: rest) σ top sl := by
  intro ls H locs cells slots h
  obtain ⟨hsz, hbt, tys, hK, hcl⟩ := h.2.1
  obtain ⟨hlt, hb0, hft, cA, hin, hH⟩ := hcl a _ ha
  obtain ⟨t0, ht0⟩ := List.getElem?_of_mem hin
  refine W.cast hx hb hH ((hK.2 t0 _ ht0).1 n (fun j => .int (f j))) (fun q => by cases q) (by show ¬ (i < 0 ∨ (arrV _ _ _).slots.size ≤ _); rw [arrV_size]; exact hi) rfl rfl hd fun H1 e1 z oq => ?_
  exact k ls H1 _ cells slots ⟨h.1, am_dy_upd hsz hbt hK hcl z oq hlt hb0 ⟨hb0, am_fitU hft (am_narC x), cA, hin, e1.trans (congrArg some (am_set_i cA n f i.toNatClampNeg (vp_nar .char x)))⟩, am_S_put h.2.2.1 z oq hb0, h.2.2.2⟩
theorem am_w_zast (hx : p.tables.exec = Jvm.exec) (hb : c.code = cc) (hd : decode cc pc = .ok (.bastore, 1)) {a n : Nat} {f : Nat → Int32} {i x : Int32} (ha : σ a = some (.inl (.boolean, n, .inl f))) (hi : ¬ (i < 0 ∨ n ≤ i.toNatClampNeg)) (k : am_W p l e R s m args below meth c Q D cl b0 nL c0 s0 (pc + 1) lv rest (am_up σ a (.inl (.boolean, n, .inl (upd f i.toNatClampNeg (vp_nar .boolean x))))) top sl) : am_W p l e R s m args below meth c Q D cl b0 nL c0 s0 pc lv (.int x :: .int i :: .ref a :: rest) σ top sl := by
  intro ls H locs cells slots h
  obtain ⟨hsz, hbt, tys, hK, hcl⟩ := h.2.1
  obtain ⟨hlt, hb0, hft, cA, hin, hH⟩ := hcl a _ ha
  obtain ⟨t0, ht0⟩ := List.getElem?_of_mem hin
  refine W.zast hx hb hH ((hK.2 t0 _ ht0).1 n (fun j => .int (f j))) (fun q => by cases q) (by show ¬ (i < 0 ∨ (arrV _ _ _).slots.size ≤ _); rw [arrV_size]; exact hi) rfl rfl hd fun H1 e1 z oq => ?_
  exact k ls H1 _ cells slots ⟨h.1, am_dy_upd hsz hbt hK hcl z oq hlt hb0 ⟨hb0, am_fitU hft (am_narZ x), cA, hin, e1.trans (congrArg some (am_set_i cA n f i.toNatClampNeg (vp_nar .boolean x)))⟩, am_S_put h.2.2.1 z oq hb0, h.2.2.2⟩
theorem am_w_last (hx : p.tables.exec = Jvm.exec) (hb : c.code = cc) (hd : decode cc pc = .ok (.lastore, 1)) {a n : Nat} {f : Nat → Int64} {i : Int32} {x : Int64} (ha : σ a = some (.inl (.long, n, .inr (.inl f)))) (hi : ¬ (i < 0 ∨ n ≤ i.toNatClampNeg)) (k : am_W p l e R s m args below meth c Q D cl b0 nL c0 s0 (pc + 1) lv rest (am_up σ a (.inl (.long, n, .inr (.inl (vp_updL f i.toNatClampNeg x))))) top sl) : am_W p l e R s m args below meth c Q D cl b0 nL c0 s0 pc lv (.long x :: .int i :: .ref a :: rest) σ top sl := by
  intro ls H locs cells slots h
  obtain ⟨hsz, hbt, tys, hK, hcl⟩ := h.2.1
  obtain ⟨hlt, hb0, hft, cA, hin, hH⟩ := hcl a _ ha
  obtain ⟨t0, ht0⟩ := List.getElem?_of_mem hin
  refine W.last hx hb hH ((hK.2 t0 _ ht0).1 n (fun j => .long (f j))) (fun q => by cases q) (by show ¬ (i < 0 ∨ (arrV _ _ _).slots.size ≤ _); rw [arrV_size]; exact hi) rfl rfl hd fun H1 e1 z oq => ?_
  exact k ls H1 _ cells slots ⟨h.1, am_dy_upd hsz hbt hK hcl z oq hlt hb0 ⟨hb0, trivial, cA, hin, e1.trans (congrArg some (am_set_l cA n f i.toNatClampNeg x))⟩, am_S_put h.2.2.1 z oq hb0, h.2.2.2⟩
theorem am_w_aastN (hx : p.tables.exec = Jvm.exec) (hb : c.code = cc) (hd : decode cc pc = .ok (.aastore, 1)) {a n : Nat} {C : String} {f : Nat → Option Nat} {i : Int32} (ha : σ a = some (.inl (.object C, n, .inr (.inr (.inr (.inr f)))))) (hi : ¬ (i < 0 ∨ n ≤ i.toNatClampNeg)) (k : am_W p l e R s m args below meth c Q D cl b0 nL c0 s0 (pc + 1) lv rest (am_up σ a (.inl (.object C, n, .inr (.inr (.inr (.inr (va_up f i.toNatClampNeg none))))))) top sl) : am_W p l e R s m args below meth c Q D cl b0 nL c0 s0 pc lv (.null :: .int i :: .ref a :: rest) σ top sl := by
  intro ls H locs cells slots h
  obtain ⟨hsz, hbt, tys, hK, hcl⟩ := h.2.1
  obtain ⟨hlt, hb0, hft, cA, hin, hH⟩ := hcl a _ ha
  obtain ⟨t0, ht0⟩ := List.getElem?_of_mem hin
  refine va_WaastN hx hb hH ((hK.2 t0 _ ht0).1 n (fun j => va_rf (f j))) (fun q => by cases q) (by show ¬ (i < 0 ∨ (arrV _ _ _).slots.size ≤ _); rw [arrV_size]; exact hi) rfl rfl hd fun H1 e1 z oq => ?_
  exact k ls H1 _ cells slots ⟨h.1, am_dy_upd hsz hbt hK hcl z oq hlt hb0 ⟨hb0, trivial, cA, hin, e1.trans (congrArg some (am_set_q cA n f i.toNatClampNeg none))⟩, am_S_put h.2.2.1 z oq hb0, h.2.2.2⟩
theorem am_w_aast (hx : p.tables.exec = Jvm.exec) (hb : c.code = cc) (hd : decode cc pc = .ok (.aastore, 1)) {a b n u : Nat} {C : String} {f : Nat → Option Nat} {fs : List Value} {i : Int32} (hnm : ∀ r, cl[u]? = some r → r.1 = C) (ha : σ a = some (.inl (.object C, n, .inr (.inr (.inr (.inr f)))))) (hbv : σ b = some (.inr (.inl (u, fs)))) (hi : ¬ (i < 0 ∨ n ≤ i.toNatClampNeg)) (k : am_W p l e R s m args below meth c Q D cl b0 nL c0 s0 (pc + 1) lv rest (am_up σ a (.inl (.object C, n, .inr (.inr (.inr (.inr (va_up f i.toNatClampNeg (some b)))))))) top sl) : am_W p l e R s m args below meth c Q D cl b0 nL c0 s0 pc lv (.ref b :: .int i :: .ref a :: rest) σ top sl := by
  intro ls H locs cells slots h
  obtain ⟨hsz, hbt, tys, hK, hcl⟩ := h.2.1
  obtain ⟨hlt, hb0, hft, cA, hin, hH⟩ := hcl a _ ha
  obtain ⟨-, -, r, hr, -, cellV, g1, g2, g3, -⟩ := hcl b _ hbv
  obtain ⟨t0, ht0⟩ := List.getElem?_of_mem hin
  have hcls := (hK.1 u r hr).2
  rw [hnm r hr] at hcls
  obtain ⟨kA, comp, k1, k2, k3, -⟩ := (hK.2 t0 _ ht0).2
  have hcomp : comp = D.1 u := Option.some.inj (k3.symm.trans hcls.1)
  subst hcomp
  obtain ⟨kC, hkC, -⟩ := hcls.2
  have hlt2 : i.toNatClampNeg < n := Nat.not_le.mp fun q => hi (Or.inr q)
  refine W.aast hx hb hH (fun q h => by cases h) (fun h => by cases h) k1 k2 rfl hkC ⟨fun q => hi (Or.inl q), by show _ < (arrV _ _ _).slots.size; rw [arrV_size]; exact hlt2⟩ g1 (fun q h => by rw [g3] at h; cases h) (by rw [g2]; exact hkC) (by rw [g2]; exact va_assign hcls) rfl rfl hd fun H1 e1 z oq => ?_
  exact k ls H1 _ cells slots ⟨h.1, am_dy_upd hsz hbt hK hcl z oq hlt hb0 ⟨hb0, trivial, cA, hin, e1.trans (congrArg some (am_set_q cA n f i.toNatClampNeg (some b)))⟩, am_S_put h.2.2.1 z oq hb0, h.2.2.2⟩
theorem am_w_newarr (hx : p.tables.exec = Jvm.exec) (hb : c.code = cc) {at_ : ArrayType} (hd : decode cc pc = .ok (.newarray at_, 2)) (harr : (Cond.arrayClass (newarray.typeOf at_)).before args s = true) {n : Int32} {ar : vp_A} (ha : ∀ cA : ClassId, vp_cell cA ar = arrV cA n.toNatClampNeg (fun _ => defaultValue (newarray.typeOf at_))) (hft : am_fitA (newarray.typeOf at_) ar)
    (hn : ¬ n < 0) (hby : n.toNatClampNeg * componentBytes (newarray.typeOf at_) ≤ 536870912) (hr1 : top + 1 ≤ R.cells + c0) (hr2 : sl + n.toNatClampNeg ≤ R.slots + s0) (k : am_W p l e R s m args below meth c Q D cl b0 nL c0 s0 (pc + 2) lv (.ref top :: rest) (am_up σ top (.inl (newarray.typeOf at_, ar))) (top + 1) (sl + n.toNatClampNeg)) : am_W p l e R s m args below meth c Q D cl b0 nL c0 s0 pc lv (.int n :: rest) σ top sl := by
  intro ls H locs cells slots h
  obtain ⟨hsz, hbt, tys, hK, hcl⟩ := h.2.1
  obtain ⟨hc, hs⟩ := h.2.2.2
  refine va_newaK hx hb harr rfl hd rfl hn rfl hby (by omega) (by omega) hsz fun H1 cA e1 z1 o1 hAr hNm => ?_
  refine k ls H1 locs (cells + 1) (slots + n.toNatClampNeg) ⟨h.1, am_dy_push hsz hbt (am_kapp hK hAr (by cases at_ <;> exact hNm)) (fun x hx => List.mem_append_left _ hx) hcl z1 o1 ⟨hbt, hft, cA, List.mem_append_right _ List.mem_cons_self, by rw [ha]; exact e1⟩, am_S_push h.2.2.1 (by rw [hsz]; exact z1) (fun q hq => o1 q (by rw [← hsz]; exact hq)), by omega, by omega⟩
theorem am_w_anew (hx : p.tables.exec = Jvm.exec) (hb : c.code = cc) {own C : String} {index : Nat} (hd : decode cc pc = .ok (.anewarray index, 3)) (hown : s.vm.findClass own = some m.cls) (hl : (Cond.classLink own index C).before args s = true) (hover : va_AO C s) {n : Int32}
    (hn : ¬ n < 0) (hby : n.toNatClampNeg * 4 ≤ 536870912) (hr1 : top + 1 ≤ R.cells + c0) (hr2 : sl + n.toNatClampNeg ≤ R.slots + s0) (k : am_W p l e R s m args below meth c Q D cl b0 nL c0 s0 (pc + 3) lv (.ref top :: rest) (am_up σ top (.inl (.object C, n.toNatClampNeg, .inr (.inr (.inr (.inr fun _ => none)))))) (top + 1) (sl + n.toNatClampNeg)) : am_W p l e R s m args below meth c Q D cl b0 nL c0 s0 pc lv (.int n :: rest) σ top sl := by
  intro ls H locs cells slots h
  obtain ⟨hsz, hbt, tys, hK, hcl⟩ := h.2.1
  obtain ⟨hc, hs⟩ := h.2.2.2
  refine W.anew hx hb hown hl (va_AO.use hover) rfl hd rfl hn hby (by omega) (by omega) fun cA kA comp f1 f2 f3 f4 => ?_
  rw [hsz]
  generalize hH1 : H.push ({ cls := cA, slots := Array.replicate n.toNatClampNeg .null, vm := .none } : Cell) = H1
  have z1 : H1.size = top + 1 := by rw [← hH1, Array.size_push, hsz]
  have e1 : H1[top]? = some (arrV cA n.toNatClampNeg (fun _ => .null)) := by rw [← hH1, ← hsz, Array.getElem?_push_size, ← arrV_new]
  have o1 : ∀ q : Nat, q < top → H1[q]? = H[q]? := fun q hq => by rw [← hH1, Array.getElem?_push, if_neg (by rw [hsz]; exact Nat.ne_of_lt hq)]
  have hAr : ArrOfT s cA (.object C) := fun N z => ⟨(fun k h => by cases h), kA, f2, comp, f3⟩
  refine k ls H1 locs (cells + 1) (slots + n.toNatClampNeg) ⟨h.1, am_dy_push hsz hbt (am_kapp hK hAr ⟨kA, comp, f2, f3, f4, f1⟩) (fun x hx => List.mem_append_left _ hx) hcl z1 o1 ⟨hbt, trivial, cA, List.mem_append_right _ List.mem_cons_self, ?_⟩, am_S_push h.2.2.1 (by rw [hsz]; exact z1) (fun q hq => o1 q (by rw [← hsz]; exact hq)), by omega, by omega⟩
  rw [vp_cell_q]
  exact e1
theorem am_w_new (hx : p.tables.exec = Jvm.exec) (hb : c.code = cc) {own C : String} {T : u_T} {N u index n : Nat} (hd : decode cc pc = .ok (.new index, 3)) (hown : s.vm.findClass own = some m.cls) (hts : ∀ w ∈ u_ws C T N, w.before args s = true) (hc : cl[u]? = some (C, T, N)) (ty : Nat → FieldType) (hty : ∀ k, k < N → parseFieldDescriptor (T k).2.2.1 = some (ty k))
    (hl : (Cond.classLink own index C).before args s = true) (hins : (Cond.instantiable C n).before args s = true) (hini : (Cond.initialized C).before args s = true) {fs : List Value} (hfs : ∀ j, j < N → defaultValue (ty j) = vp_V fs j) (hfl : fs.length = N) (hr1 : top + 1 ≤ R.cells + c0) (hr2 : sl + n ≤ R.slots + s0)
    (k : am_W p l e R s m args below meth c Q D cl b0 nL c0 s0 (pc + 3) lv (.ref top :: st) (am_up σ top (.inr (.inl (u, fs)))) (top + 1) (sl + n)) : am_W p l e R s m args below meth c Q D cl b0 nL c0 s0 pc lv st σ top sl := by
  intro ls H locs cells slots h
  obtain ⟨hsz, hbt, tys, hK, hcl⟩ := h.2.1
  obtain ⟨hcc, hs⟩ := h.2.2.2
  have hKn := hK.1 u _ hc
  refine W.newcK hx hb hown hl hins hini rfl hd (by omega) (by omega) hKn.2.1 hsz fun H1 kC hkC e1 z1 o1 => ?_
  exact k ls H1 locs (cells + 1) (slots + n) ⟨h.1, am_dy_push hsz hbt hK (fun x hx => hx) hcl z1 o1 ⟨hbt, (C, T, N), hc, hfl, (u_born ty hts (fun _ z => z) hKn hkC e1 hty).to hfs⟩, am_S_push h.2.2.1 (by rw [hsz]; exact z1) (fun q hq => o1 q (by rw [← hsz]; exact hq)), by omega, by omega⟩
theorem am_w_objinit (hx : p.tables.exec = Jvm.exec) (hb : c.code = cc) (hml : c.maxLocals = nL) {own : String} {index : Nat} (hd : decode cc pc = .ok (.invokespecial index, 3)) (hown : s.vm.findClass own = some m.cls) (hl : (Cond.methodLink own index objectInit).before args s = true) (hin : (Cond.instanceMethod objectInit).before args s = true) (hco : (Cond.code objectInit ⟨#[0xb1]⟩ 1 none).before args s = true)
    {a : Nat} (hfr : 1 ≤ R.frames) (hw : (rest.map fun v => v.category).sum ≤ 8) (hlo : 20 ≤ R.locals) (k : am_W p l e R s m args below meth c Q D cl b0 nL c0 s0 (pc + 3) lv rest σ top sl) : am_W p l e R s m args below meth c Q D cl b0 nL c0 s0 pc lv (.ref a :: rest) σ top sl := by
  intro ls H locs cells slots h
  refine W.objInit hx hb hown hl hin hco rfl (by rw [hml]; exact h.1.1.1) rfl hd hfr ?_ (k ls H locs cells slots h)
  show 2 * 0 + _ + 12 ≤ _
  omega
end AMA
end
section
def am_len (i : Instr) : Nat := match i with
  | .aload _ => 2
  | .iload _ => 2
  | .istore _ => 2
  | .astore _ => 2
  | .bipush _ => 2
  | .ldc _ => 2
  | .newarray _ => 2
  | .sipush _ => 3
  | .iinc _ _ => 3
  | .goto _ => 3
  | .ifCond _ _ => 3
  | .if_icmp _ _ => 3
  | .if_acmp _ _ => 3
  | .ifnull _ => 3
  | .ifnonnull _ => 3
  | .getfield _ => 3
  | .putfield _ => 3
  | .getstatic _ => 3
  | .new _ => 3
  | .anewarray _ => 3
  | .invokespecial _ => 3
  | .invokestatic _ => 3
  | .invokevirtual _ => 3
  | _ => 1
def am_sw (i : Instr) : Bool := match i with
  | .tableswitch _ _ _ _ => true
  | .lookupswitch _ _ => true
  | _ => false
def am_dec (cc : ByteArray) (pc : Nat) (i : Instr) : Prop := (am_sw i = true ∧ ∃ len, decode cc pc = .ok (i, len)) ∨ (am_sw i = false ∧ decode cc pc = .ok (i, am_len i))
theorem am_dec1 {cc : ByteArray} {pc : Nat} {i : Instr} (h : am_dec cc pc i) (hs : am_sw i = false) : decode cc pc = .ok (i, am_len i) := by
  rcases h with ⟨h, -⟩ | ⟨-, h⟩
  · rw [hs] at h
    cases h
  · exact h
theorem am_dec2 {cc : ByteArray} {pc : Nat} {i : Instr} (h : am_dec cc pc i) (hs : am_sw i = true) : ∃ len, decode cc pc = .ok (i, len) := by
  rcases h with ⟨-, h⟩ | ⟨h, -⟩
  · exact h
  · rw [hs] at h
    cases h
theorem am_n_inv {pc : Nat} {lv : am_V} {st : List Value} {σ : am_H} {top sl : Nat} {x : am_X} (h : am_n pc lv st σ top sl = some x) : x = (pc, lv, st, σ, top, sl) := (Option.some.inj h).symm
/-- what the tables say of the instruction at pc, whose pool entry u, v name -/
def am_fact (cs : Nat → Value) (ft : Nat → Nat → FieldType) (df : Nat → List Value) (ns : Nat → Nat) (nm : Nat → String) (cl : List vw_C) (b0 : Nat) (s : State) (args : Array Value) (meth : Method) (own : String) (pc : Nat) (i : Instr) (u v : Nat) : Prop := match i with
  | .ldc idx => ∃ tx a, cs u = .ref a ∧ vk_R own idx tx a s
  | .getstatic idx => ∃ C n d, va_Z C n d (cs u) (fun q => b0 ≤ q) s s.heap ∧ (Cond.fieldLink own idx C n d).before args s = true
  | .goto off => (pc : Int) + off = (u : Int)
  | .ifCond _ off => (pc : Int) + off = (u : Int)
  | .if_icmp _ off => (pc : Int) + off = (u : Int)
  | .if_acmp _ off => (pc : Int) + off = (u : Int)
  | .ifnull off => (pc : Int) + off = (u : Int)
  | .ifnonnull off => (pc : Int) + off = (u : Int)
  | .getfield idx => if u = 50 then (if v = 0 then (Cond.fieldLink own idx "java/lang/String" "value" "[B").before args s = true else (Cond.fieldLink own idx "java/lang/String" "coder" "B").before args s = true) else ∃ C T N, cl[u]? = some (C, T, N) ∧ (∀ w ∈ u_ws C T N, w.before args s = true) ∧ (∀ k, k < N → (T k).1 = C) ∧ v < N ∧ ((Cond.fieldLink own idx C (T v).2.1 (T v).2.2.1).before args s = true ∨ ∃ host, (Cond.fieldLinkNest own idx C (T v).2.1 (T v).2.2.1 host).before args s = true)
  | .putfield idx => ∃ C T N, cl[u]? = some (C, T, N) ∧ (∀ w ∈ u_ws C T N, w.before args s = true) ∧ (∀ k, k < N → (T k).1 = C) ∧ v < N ∧ (∀ k, k < N → parseFieldDescriptor (T k).2.2.1 = some (ft u k)) ∧ (∀ a, a < N → ∀ b, b < N → a ≠ b → (T a).2.1 ≠ (T b).2.1) ∧
      ((Cond.fieldLink own idx C (T v).2.1 (T v).2.2.1).before args s = true ∧ ((T v).2.2.2 = false ∨ ((T v).2.2.2 = true ∧ meth.name = "<init>" ∧ own = C)) ∨ (T v).2.2.2 = false ∧ ∃ host, (Cond.fieldLinkNest own idx C (T v).2.1 (T v).2.2.1 host).before args s = true)
  | .new idx => ∃ C T N, cl[u]? = some (C, T, N) ∧ (∀ w ∈ u_ws C T N, w.before args s = true) ∧ (∀ k, k < N → parseFieldDescriptor (T k).2.2.1 = some (ft u k)) ∧ (Cond.classLink own idx C).before args s = true ∧ (Cond.instantiable C (ns u)).before args s = true ∧ (Cond.initialized C).before args s = true ∧ (∀ j, j < N → defaultValue (ft u j) = vp_V (df u) j) ∧ (df u).length = N
  | .newarray at_ => (Cond.arrayClass (newarray.typeOf at_)).before args s = true
  | .anewarray idx => (Cond.classLink own idx (nm u)).before args s = true ∧ va_AO (nm u) s
  | .invokespecial idx => u = 1000 → (Cond.methodLink own idx objectInit).before args s = true ∧ (Cond.instanceMethod objectInit).before args s = true ∧ (Cond.code objectInit ⟨#[0xb1]⟩ 1 none).before args s = true
  | _ => True
section AMT
variable {p : Program} {l : Launch} {e : Env} {R : Room} {s : State} {m : MethodId} {args : Array Value} {below : List Frame} {meth : Method} {c : Code} {Q : State → Prop}
variable {cc : ByteArray} {D : va_G} {cl : List vw_C} {b0 nL c0 s0 : Nat} {pc top sl : Nat} {lv : am_V} {st rest : List Value} {σ : am_H}
set_option maxHeartbeats 4000000 in
theorem am_step_W {cs : Nat → Value} {ft : Nat → Nat → FieldType} {df : Nat → List Value} {ns : Nat → Nat} {nm : Nat → String} {d : Nat} {own : String} {i : Instr} {u v : Nat} {x : am_X}
    (hx : p.tables.exec = Jvm.exec) (hb : c.code = cc) (hml : c.maxLocals = nL) (hown : s.vm.findClass own = some m.cls) (hnm : ∀ k r, cl[k]? = some r → r.1 = nm k) (hfr : d ≤ R.frames) (hlo : 64 * d ≤ R.locals)
    (hd : am_dec cc pc i) (hf : am_fact cs ft df ns nm cl b0 s args meth own pc i u v) (h : am_step cs ft df ns nm d pc lv st σ top sl i u v = some x) (hr1 : x.2.2.2.2.1 ≤ R.cells + c0) (hr2 : x.2.2.2.2.2 ≤ R.slots + s0)
    (k : am_W p l e R s m args below meth c Q D cl b0 nL c0 s0 (x.1) (x.2.1) (x.2.2.1) (x.2.2.2.1) (x.2.2.2.2.1) (x.2.2.2.2.2)) : am_W p l e R s m args below meth c Q D cl b0 nL c0 s0 pc lv st σ top sl := by
  cases i with
  | aconst_null => obtain rfl := am_n_inv h; exact am_w_null hx hb (am_dec1 hd rfl) k
  | iconst n => obtain rfl := am_n_inv h; exact am_w_iconst hx hb (am_dec1 hd rfl) k
  | bipush n => obtain rfl := am_n_inv h; exact am_w_bipush hx hb (am_dec1 hd rfl) k
  | sipush n => obtain rfl := am_n_inv h; exact am_w_sipush hx hb (am_dec1 hd rfl) k
  | ldc idx =>
    obtain rfl := am_n_inv h
    obtain ⟨tx, a, h1, h2⟩ := hf
    dsimp only at k
    rw [h1] at k
    exact am_w_ldc hx hb hown h2 (am_dec1 hd rfl) k
  | getstatic idx =>
    obtain rfl := am_n_inv h
    obtain ⟨C, n, d, h1, h2⟩ := hf
    exact am_w_gets hx hb hown h1 h2 (am_dec1 hd rfl) k
  | iload j =>
    have h : (match am_get lv j with | some (.int x) => am_n (pc + 2) lv (.int x :: st) σ top sl | _ => none) = some x := h
    split at h
    · next y hg => obtain rfl := am_n_inv h; exact am_w_iload hx hb (am_dec1 hd rfl) hg k
    · cases h
  | iload_n j =>
    have h : (match am_get lv j with | some (.int x) => am_n (pc + 1) lv (.int x :: st) σ top sl | _ => none) = some x := h
    split at h
    · next y hg => obtain rfl := am_n_inv h; exact am_w_iload_n hx hb (am_dec1 hd rfl) hg k
    · cases h
  | aload j =>
    have h : (match am_get lv j with | some (.ref x) => am_n (pc + 2) lv (.ref x :: st) σ top sl | some .null => am_n (pc + 2) lv (.null :: st) σ top sl | _ => none) = some x := h
    split at h
    · next y hg => obtain rfl := am_n_inv h; exact am_w_aload (x := some y) hx hb (am_dec1 hd rfl) hg k
    · next hg => obtain rfl := am_n_inv h; exact am_w_aload (x := none) hx hb (am_dec1 hd rfl) hg k
    · cases h
  | aload_n j =>
    have h : (match am_get lv j with | some (.ref x) => am_n (pc + 1) lv (.ref x :: st) σ top sl | some .null => am_n (pc + 1) lv (.null :: st) σ top sl | _ => none) = some x := h
    split at h
    · next y hg => obtain rfl := am_n_inv h; exact am_w_aload_n (x := some y) hx hb (am_dec1 hd rfl) hg k
    · next hg => obtain rfl := am_n_inv h; exact am_w_aload_n (x := none) hx hb (am_dec1 hd rfl) hg k
    · cases h
  | istore j =>
    (try dsimp only [am_step] at h); have h9 := am_i1_inv h; clear h; obtain ⟨y, r, rfl, h⟩ := h9
    split at h
    · next hj => obtain rfl := am_n_inv h; exact am_w_istore hx hb (am_dec1 hd rfl) hj k
    · cases h
  | istore_n j =>
    (try dsimp only [am_step] at h); have h9 := am_i1_inv h; clear h; obtain ⟨y, r, rfl, h⟩ := h9
    split at h
    · next hj => obtain rfl := am_n_inv h; exact am_w_istore_n hx hb (am_dec1 hd rfl) hj k
    · cases h
  | astore j =>
    (try dsimp only [am_step] at h); have h9 := am_q1_inv h; clear h; obtain ⟨y, r, rfl, h⟩ := h9
    split at h
    · next hj => obtain rfl := am_n_inv h; exact am_w_astore hx hb (am_dec1 hd rfl) hj k
    · cases h
  | astore_n j =>
    (try dsimp only [am_step] at h); have h9 := am_q1_inv h; clear h; obtain ⟨y, r, rfl, h⟩ := h9
    split at h
    · next hj => obtain rfl := am_n_inv h; exact am_w_astore_n hx hb (am_dec1 hd rfl) hj k
    · cases h
  | iinc j n =>
    have h : (match am_get lv j with | some (.int x) => if j < lv.length then am_n (pc + 3) (lv.set j (some (.int (x + Int32.ofInt n)))) st σ top sl else none | _ => none) = some x := h
    split at h
    · next y hg =>
      rw [if_pos (am_get_lt hg)] at h
      obtain rfl := am_n_inv h
      exact am_w_iinc hx hb (am_dec1 hd rfl) hg k
    · cases h
  | iadd => (try dsimp only [am_step] at h); have h9 := am_i2_inv h; clear h; obtain ⟨y, z, r, rfl, h⟩ := h9; obtain rfl := am_n_inv h; exact am_w_iadd hx hb (am_dec1 hd rfl) k
  | isub => (try dsimp only [am_step] at h); have h9 := am_i2_inv h; clear h; obtain ⟨y, z, r, rfl, h⟩ := h9; obtain rfl := am_n_inv h; exact am_w_isub hx hb (am_dec1 hd rfl) k
  | imul => (try dsimp only [am_step] at h); have h9 := am_i2_inv h; clear h; obtain ⟨y, z, r, rfl, h⟩ := h9; obtain rfl := am_n_inv h; exact am_w_imul hx hb (am_dec1 hd rfl) k
  | iand => (try dsimp only [am_step] at h); have h9 := am_i2_inv h; clear h; obtain ⟨y, z, r, rfl, h⟩ := h9; obtain rfl := am_n_inv h; exact am_w_iand hx hb (am_dec1 hd rfl) k
  | ior => (try dsimp only [am_step] at h); have h9 := am_i2_inv h; clear h; obtain ⟨y, z, r, rfl, h⟩ := h9; obtain rfl := am_n_inv h; exact am_w_ior hx hb (am_dec1 hd rfl) k
  | ishl => (try dsimp only [am_step] at h); have h9 := am_i2_inv h; clear h; obtain ⟨y, z, r, rfl, h⟩ := h9; obtain rfl := am_n_inv h; exact am_w_ishl hx hb (am_dec1 hd rfl) k
  | ishr => (try dsimp only [am_step] at h); have h9 := am_i2_inv h; clear h; obtain ⟨y, z, r, rfl, h⟩ := h9; obtain rfl := am_n_inv h; exact am_w_ishr hx hb (am_dec1 hd rfl) k
  | idiv =>
    (try dsimp only [am_step] at h); have h9 := am_i2_inv h; clear h; obtain ⟨y, z, r, rfl, h⟩ := h9
    split at h
    · cases h
    · next hz => obtain rfl := am_n_inv h; exact am_w_idiv hx hb (am_dec1 hd rfl) hz k
  | irem =>
    (try dsimp only [am_step] at h); have h9 := am_i2_inv h; clear h; obtain ⟨y, z, r, rfl, h⟩ := h9
    split at h
    · cases h
    · next hz => obtain rfl := am_n_inv h; exact am_w_irem hx hb (am_dec1 hd rfl) hz k
  | i2c => (try dsimp only [am_step] at h); have h9 := am_i1_inv h; clear h; obtain ⟨y, r, rfl, h⟩ := h9; obtain rfl := am_n_inv h; exact am_w_i2c hx hb (am_dec1 hd rfl) k
  | i2l => (try dsimp only [am_step] at h); have h9 := am_i1_inv h; clear h; obtain ⟨y, r, rfl, h⟩ := h9; obtain rfl := am_n_inv h; exact am_w_i2l hx hb (am_dec1 hd rfl) k
  | lcmp => (try dsimp only [am_step] at h); have h9 := am_l2_inv h; clear h; obtain ⟨y, z, r, rfl, h⟩ := h9; obtain rfl := am_n_inv h; exact am_w_lcmp hx hb (am_dec1 hd rfl) k
  | dup => (try dsimp only [am_step] at h); have h9 := am_v1_inv h; clear h; obtain ⟨y, r, rfl, hc, h⟩ := h9; obtain rfl := am_n_inv h; exact am_w_dup hx hb (am_dec1 hd rfl) hc k
  | pop => (try dsimp only [am_step] at h); have h9 := am_v1_inv h; clear h; obtain ⟨y, r, rfl, hc, h⟩ := h9; obtain rfl := am_n_inv h; exact am_w_pop hx hb (am_dec1 hd rfl) hc k
  | dup_x1 => (try dsimp only [am_step] at h); have h9 := am_v2_inv h; clear h; obtain ⟨y, z, r, rfl, hc, hc2, h⟩ := h9; obtain rfl := am_n_inv h; exact am_w_dup_x1 hx hb (am_dec1 hd rfl) hc hc2 k
  | dup2 => (try dsimp only [am_step] at h); have h9 := am_v2_inv h; clear h; obtain ⟨y, z, r, rfl, hc, hc2, h⟩ := h9; obtain rfl := am_n_inv h; exact am_w_dup2 hx hb (am_dec1 hd rfl) hc hc2 k
  | goto off => obtain rfl := am_n_inv h; exact am_w_goto hx hb (am_dec1 hd rfl) hf k
  | ifCond cd off =>
    (try dsimp only [am_step] at h); have h9 := am_i1_inv h; clear h; obtain ⟨y, r, rfl, h⟩ := h9
    split at h
    · next hc => obtain rfl := am_n_inv h; exact am_w_if hx hb (am_dec1 hd rfl) hf (fun _ => k) (fun z => absurd hc z)
    · next hc => obtain rfl := am_n_inv h; exact am_w_if hx hb (am_dec1 hd rfl) hf (fun z => absurd z hc) (fun _ => k)
  | if_icmp cd off =>
    (try dsimp only [am_step] at h); have h9 := am_i2_inv h; clear h; obtain ⟨y, z, r, rfl, h⟩ := h9
    split at h
    · next hc => obtain rfl := am_n_inv h; exact am_w_icmp hx hb (am_dec1 hd rfl) hf (fun _ => k) (fun z => absurd hc z)
    · next hc => obtain rfl := am_n_inv h; exact am_w_icmp hx hb (am_dec1 hd rfl) hf (fun z => absurd z hc) (fun _ => k)
  | if_acmp cd off =>
    cases cd with
    | eq =>
      (try dsimp only [am_step] at h); have h9 := am_q2_inv h; clear h; obtain ⟨y, z, r, rfl, h⟩ := h9
      split at h
      · next hc => obtain rfl := am_n_inv h; exact am_w_acmp_eq hx hb (am_dec1 hd rfl) hf (fun _ => k) (fun z => absurd hc z)
      · next hc => obtain rfl := am_n_inv h; exact am_w_acmp_eq hx hb (am_dec1 hd rfl) hf (fun z => absurd z hc) (fun _ => k)
    | ne =>
      (try dsimp only [am_step] at h); have h9 := am_q2_inv h; clear h; obtain ⟨y, z, r, rfl, h⟩ := h9
      split at h
      · next hc => obtain rfl := am_n_inv h; exact am_w_acmp_ne hx hb (am_dec1 hd rfl) hf (fun z => absurd hc z) (fun _ => k)
      · next hc => obtain rfl := am_n_inv h; exact am_w_acmp_ne hx hb (am_dec1 hd rfl) hf (fun _ => k) (fun z => absurd z hc)
  | ifnull off =>
    (try dsimp only [am_step] at h); have h9 := am_q1_inv h; clear h; obtain ⟨y, r, rfl, h⟩ := h9
    cases y with
    | none => obtain rfl := am_n_inv h; exact am_w_ifnull hx hb (am_dec1 hd rfl) hf (fun _ => k) (fun a z => by cases z)
    | some a => obtain rfl := am_n_inv h; exact am_w_ifnull hx hb (am_dec1 hd rfl) hf (fun z => by cases z) (fun _ _ => k)
  | ifnonnull off =>
    (try dsimp only [am_step] at h); have h9 := am_q1_inv h; clear h; obtain ⟨y, r, rfl, h⟩ := h9
    cases y with
    | none => obtain rfl := am_n_inv h; exact am_w_ifnonnull hx hb (am_dec1 hd rfl) hf (fun a z => by cases z) (fun _ => k)
    | some a => obtain rfl := am_n_inv h; exact am_w_ifnonnull hx hb (am_dec1 hd rfl) hf (fun _ _ => k) (fun z => by cases z)
  | tableswitch dflt lo hi offs =>
    (try dsimp only [am_step] at h); have h9 := am_i1_inv h; clear h; obtain ⟨y, r, rfl, h⟩ := h9
    obtain ⟨len, hd⟩ := am_dec2 hd rfl
    split at h
    · next h0 =>
      split at h
      · next h1 => obtain rfl := am_n_inv h; exact am_w_tsw hx hb hd h0 h1 k
      · cases h
    · next h0 =>
      split at h
      · next off ho =>
        split at h
        · next h1 => obtain rfl := am_n_inv h; exact am_w_tsw2 hx hb hd h0 ho h1 k
        · cases h
      · cases h
  | lookupswitch dflt ps =>
    (try dsimp only [am_step] at h); have h9 := am_i1_inv h; clear h; obtain ⟨y, r, rfl, h⟩ := h9
    obtain ⟨len, hd⟩ := am_dec2 hd rfl
    split at h
    · next h0 => obtain rfl := am_n_inv h; exact am_w_lsw hx hb hd h0.1 h0.2 k
    · cases h
  | getfield idx =>
    (try dsimp only [am_step] at h); have h9 := am_a1_inv h; clear h; obtain ⟨a, r, rfl, h⟩ := h9
    split at h
    · next c1 fs ha =>
      split at h
      · next hc =>
        obtain ⟨hc, h50⟩ := hc
        subst hc
        split at h
        · next w hw =>
          obtain rfl := am_n_inv h
          have hf : if c1 = 50 then _ else _ := hf
          rw [if_neg h50] at hf
          obtain ⟨C, T, N, h1, h2, h3, h4, h5⟩ := hf
          exact am_w_getf hx hb hown h2 h1 h3 h4 h5 (am_dec1 hd rfl) ha hw k
        · cases h
      · cases h
    · next av f1 ha =>
      split at h
      · next hu =>
        have hf : if u = 50 then (if v = 0 then _ else _) else _ := hf
        rw [if_pos hu] at hf
        split at h
        · next hv =>
          rw [if_pos hv] at hf
          obtain rfl := am_n_inv h
          exact am_w_getS hx hb (am_dec1 hd rfl) hown hf ha (Or.inl ⟨rfl, rfl, rfl⟩) k
        · next hv =>
          rw [if_neg hv] at hf
          obtain rfl := am_n_inv h
          exact am_w_getS hx hb (am_dec1 hd rfl) hown hf ha (Or.inr ⟨rfl, rfl, rfl⟩) k
      · cases h
    · cases h
  | putfield idx =>
    (try dsimp only [am_step] at h); have h9 := am_va_inv h; clear h; obtain ⟨w, a, r, rfl, h⟩ := h9
    split at h
    · next c1 fs ha =>
      split at h
      · next hc =>
        obtain ⟨hc, -, hw⟩ := hc
        subst hc
        obtain rfl := am_n_inv h
        obtain ⟨C, T, N, h1, h2, h3, h4, h5, h6, h7⟩ := hf
        exact am_w_putf hx hb hown h2 h1 h3 (ft c1) h5 h6 h4 h7 (am_dec1 hd rfl) ha hw k
      · cases h
    · cases h
  | new idx =>
    obtain rfl := am_n_inv h
    obtain ⟨C, T, N, h1, h2, h3, h4, h5, h6, h7, h8⟩ := hf
    exact am_w_new hx hb (am_dec1 hd rfl) hown h2 h1 (ft u) h3 h4 h5 h6 h7 h8 hr1 hr2 k
  | newarray at_ =>
    (try dsimp only [am_step] at h); have h9 := am_i1_inv h; clear h; obtain ⟨n, r, rfl, h⟩ := h9
    split at h
    · cases h
    · next hn =>
      have hn1 : ¬ n < 0 := fun z => hn (Or.inl z)
      have hn2 : n.toNatClampNeg ≤ 100000 := Nat.not_lt.mp fun z => hn (Or.inr z)
      cases at_ with
      | int => obtain rfl := am_n_inv h; exact am_w_newarr (ar := (n.toNatClampNeg, .inl fun _ => 0)) hx hb (am_dec1 hd rfl) hf (fun _ => rfl) (fun _ => rfl) hn1 (by show n.toNatClampNeg * 4 ≤ _; omega) hr1 hr2 k
      | char => obtain rfl := am_n_inv h; exact am_w_newarr (ar := (n.toNatClampNeg, .inl fun _ => 0)) hx hb (am_dec1 hd rfl) hf (fun _ => rfl) (fun _ => show fits .char (.int 0) = true by decide) hn1 (by show n.toNatClampNeg * 2 ≤ _; omega) hr1 hr2 k
      | boolean => obtain rfl := am_n_inv h; exact am_w_newarr (ar := (n.toNatClampNeg, .inl fun _ => 0)) hx hb (am_dec1 hd rfl) hf (fun _ => rfl) (fun _ => show fits .boolean (.int 0) = true by decide) hn1 (by show n.toNatClampNeg * 1 ≤ _; omega) hr1 hr2 k
      | long => obtain rfl := am_n_inv h; exact am_w_newarr (ar := (n.toNatClampNeg, .inr (.inl fun _ => 0))) hx hb (am_dec1 hd rfl) hf (fun _ => rfl) trivial hn1 (by show n.toNatClampNeg * 8 ≤ _; omega) hr1 hr2 k
      | _ => cases h
  | anewarray idx =>
    (try dsimp only [am_step] at h); have h9 := am_i1_inv h; clear h; obtain ⟨n, r, rfl, h⟩ := h9
    split at h
    · cases h
    · next hn =>
      obtain rfl := am_n_inv h
      exact am_w_anew hx hb (am_dec1 hd rfl) hown hf.1 hf.2 (fun z => hn (Or.inl z)) (by have := Nat.not_lt.mp fun z => hn (Or.inr z); omega) hr1 hr2 k
  | arraylength =>
    (try dsimp only [am_step] at h); have h9 := am_a1_inv h; clear h; obtain ⟨a, r, rfl, h⟩ := h9
    split at h
    · next ha => obtain rfl := am_n_inv h; exact am_w_alen hx hb (am_dec1 hd rfl) ha k
    · next ha => obtain rfl := am_n_inv h; exact am_w_slen hx hb (am_dec1 hd rfl) ha k
    · next ha => obtain rfl := am_n_inv h; exact am_w_tlen hx hb (am_dec1 hd rfl) ha k
    · cases h
  | iaload =>
    (try dsimp only [am_step] at h); have h9 := am_ia_inv h; clear h; obtain ⟨j, a, r, rfl, h⟩ := h9
    split at h
    · next ha =>
      split at h
      · cases h
      · next hi => obtain rfl := am_n_inv h; exact am_w_iald hx hb (am_dec1 hd rfl) ha hi k
    · next ha =>
      split at h
      · cases h
      · next hi => obtain rfl := am_n_inv h; exact am_w_sald hx hb (am_dec1 hd rfl) ha hi k
    · cases h
  | baload =>
    (try dsimp only [am_step] at h); have h9 := am_ia_inv h; clear h; obtain ⟨j, a, r, rfl, h⟩ := h9
    split at h
    · next ha =>
      split at h
      · cases h
      · next hi => obtain rfl := am_n_inv h; exact am_w_zald hx hb (am_dec1 hd rfl) ha hi k
    · next ha =>
      split at h
      · cases h
      · next hi => obtain rfl := am_n_inv h; exact am_w_tb hx hb (am_dec1 hd rfl) ha hi k
    · cases h
  | caload =>
    (try dsimp only [am_step] at h); have h9 := am_ia_inv h; clear h; obtain ⟨j, a, r, rfl, h⟩ := h9
    split at h
    · next ha =>
      split at h
      · cases h
      · next hi => obtain rfl := am_n_inv h; exact am_w_cald hx hb (am_dec1 hd rfl) ha hi k
    · cases h
  | laload =>
    (try dsimp only [am_step] at h); have h9 := am_ia_inv h; clear h; obtain ⟨j, a, r, rfl, h⟩ := h9
    split at h
    · next ha =>
      split at h
      · cases h
      · next hi => obtain rfl := am_n_inv h; exact am_w_lald hx hb (am_dec1 hd rfl) ha hi k
    · cases h
  | aaload =>
    (try dsimp only [am_step] at h); have h9 := am_ia_inv h; clear h; obtain ⟨j, a, r, rfl, h⟩ := h9
    split at h
    · next ha =>
      split at h
      · cases h
      · next hi => obtain rfl := am_n_inv h; exact am_w_aald hx hb (am_dec1 hd rfl) ha hi k
    · cases h
  | iastore =>
    (try dsimp only [am_step] at h); have h9 := am_iia_inv h; clear h; obtain ⟨y, j, a, r, rfl, h⟩ := h9
    split at h
    · next ha =>
      split at h
      · cases h
      · next hi => obtain rfl := am_n_inv h; exact am_w_iast hx hb (am_dec1 hd rfl) ha hi k
    · cases h
  | bastore =>
    (try dsimp only [am_step] at h); have h9 := am_iia_inv h; clear h; obtain ⟨y, j, a, r, rfl, h⟩ := h9
    split at h
    · next ha =>
      split at h
      · cases h
      · next hi => obtain rfl := am_n_inv h; exact am_w_zast hx hb (am_dec1 hd rfl) ha hi k
    · cases h
  | castore =>
    (try dsimp only [am_step] at h); have h9 := am_iia_inv h; clear h; obtain ⟨y, j, a, r, rfl, h⟩ := h9
    split at h
    · next ha =>
      split at h
      · cases h
      · next hi => obtain rfl := am_n_inv h; exact am_w_cast hx hb (am_dec1 hd rfl) ha hi k
    · cases h
  | lastore =>
    (try dsimp only [am_step] at h); have h9 := am_lia_inv h; clear h; obtain ⟨y, j, a, r, rfl, h⟩ := h9
    split at h
    · next ha =>
      split at h
      · cases h
      · next hi => obtain rfl := am_n_inv h; exact am_w_last hx hb (am_dec1 hd rfl) ha hi k
    · cases h
  | aastore =>
    (try dsimp only [am_step] at h); have h9 := am_qia_inv h; clear h; obtain ⟨y, j, a, r, rfl, h⟩ := h9
    split at h
    · next ha =>
      split at h
      · cases h
      · next hi =>
        cases y with
        | none => obtain rfl := am_n_inv h; exact am_w_aastN hx hb (am_dec1 hd rfl) ha hi k
        | some b =>
          dsimp only at h
          split at h
          · next c1 fs hbv =>
            split at h
            · next hC => obtain rfl := am_n_inv h; exact am_w_aast hx hb (am_dec1 hd rfl) (fun r hr => (hnm c1 r hr).trans hC) ha hbv hi k
            · cases h
          · cases h
    · cases h
  | invokespecial idx =>
    replace h : (if d = 0 ∨ ¬ u = 1000 then none else am_a1 st fun _ r => if (r.map fun w => w.category).sum ≤ 8 then am_n (pc + 3) lv r σ top sl else none) = some x := h
    split at h
    · cases h
    · next hd0 =>
      (try dsimp only [am_step] at h); have h9 := am_a1_inv h; clear h; obtain ⟨a, r, rfl, h⟩ := h9
      split at h
      · next hw =>
        obtain rfl := am_n_inv h
        obtain ⟨h1, h2, h3⟩ := hf (Decidable.not_not.mp fun z => hd0 (Or.inr z))
        have hd1 : ¬ d = 0 := fun z => hd0 (Or.inl z)
        exact am_w_objinit hx hb hml (am_dec1 hd rfl) hown h1 h2 h3 (by omega) hw (by omega) k
      · cases h
  | _ => exact absurd (show (none : am_O) = some x from h) (fun z => by cases z)
end AMT
end
section
set_option maxHeartbeats 4000000 in
theorem am_step_mono {cs : Nat → Value} {ft : Nat → Nat → FieldType} {df : Nat → List Value} {ns : Nat → Nat} {nm : Nat → String} {d pc : Nat} {lv : am_V} {st : List Value} {σ : am_H} {top sl : Nat} {i : Instr} {u v : Nat} {x : am_X}
    (h : am_step cs ft df ns nm d pc lv st σ top sl i u v = some x) : top ≤ x.2.2.2.2.1 ∧ sl ≤ x.2.2.2.2.2 := by
  have key : ∀ (pc' : Nat) (lv' : am_V) (st' : List Value) (σ' : am_H), am_n pc' lv' st' σ' top sl = some x → top ≤ x.2.2.2.2.1 ∧ sl ≤ x.2.2.2.2.2 := by
    intro pc' lv' st' σ' h
    obtain rfl := am_n_inv h
    exact ⟨Nat.le_refl _, Nat.le_refl _⟩
  have key2 : ∀ (pc' : Nat) (lv' : am_V) (st' : List Value) (σ' : am_H) (n : Nat), am_n pc' lv' st' σ' (top + 1) (sl + n) = some x → top ≤ x.2.2.2.2.1 ∧ sl ≤ x.2.2.2.2.2 := by
    intro pc' lv' st' σ' n h
    obtain rfl := am_n_inv h
    exact ⟨Nat.le_succ _, Nat.le_add_right _ _⟩
  cases i <;> (dsimp only [am_step, am_i1, am_i2, am_l2, am_a1, am_q1, am_q2, am_v1, am_v2, am_ia, am_iia, am_lia, am_qia, am_va] at h; (repeat' (split at h)) <;> first | exact key _ _ _ _ h | exact key2 _ _ _ _ _ h | cases h)
theorem am_run_mono {t : am_T} {cs : Nat → Value} : ∀ (n d y pc : Nat) (lv : am_V) (st : List Value) (σ : am_H) (top sl : Nat) (res : am_R), am_run t cs n d y pc lv st σ top sl = some res → top ≤ res.2.2.1 ∧ sl ≤ res.2.2.2
  | 0, d, y, pc, lv, st, σ, top, sl, res, h => by cases h
  | n + 1, d, y, pc, lv, st, σ, top, sl, res, h => by
    unfold am_run at h
    split at h
    · cases h
    · next i u v hI =>
      split at h
      · split at h
        · cases h
        · next pc' lv' st' σ' top' sl' hs =>
          have h1 := am_step_mono hs
          have h2 := am_run_mono n _ _ _ _ _ _ _ _ _ h
          dsimp only at h1
          exact ⟨Nat.le_trans h1.1 h2.1, Nat.le_trans h1.2 h2.2⟩
      · split at h
        · cases h
        · split at h
          · split at h
            · split at h
              · cases h
              · exact am_run_mono n _ _ _ _ _ _ _ _ _ h
            · split at h
              · split at h
                · cases h
                · next hs =>
                  have h1 := am_run_mono n _ _ _ _ _ _ _ _ _ hs
                  have h2 := am_run_mono n _ _ _ _ _ _ _ _ _ h
                  dsimp only at h1
                  exact ⟨Nat.le_trans h1.1 h2.1, Nat.le_trans h1.2 h2.2⟩
                · next hs =>
                  split at h
                  · have h1 := am_run_mono n _ _ _ _ _ _ _ _ _ hs
                    have h2 := am_run_mono n _ _ _ _ _ _ _ _ _ h
                    dsimp only at h1
                    exact ⟨Nat.le_trans h1.1 h2.1, Nat.le_trans h1.2 h2.2⟩
                  · cases h
              · cases h
          · cases h
      · split at h
        · cases h
          exact ⟨Nat.le_succ _, Nat.le_add_right _ _⟩
        · cases h
      · split at h
        · cases h
        · cases h
          exact ⟨Nat.le_refl _, Nat.le_refl _⟩
end
section
theorem am_args_mem : ∀ (as : List Value) (k j : Nat) (w : Value), as.all am_c1 = true → as[j]? = some w → (k + j, w) ∈ lv_args k as
  | [], k, j, w, _, h => by simp at h
  | v :: vs, k, j, w, hc, h => by
    simp only [List.all_cons, Bool.and_eq_true] at hc
    have hv : ¬ v.category = 2 := by rw [am_c1_cat hc.1]; decide
    show _ ∈ (k, v) :: lv_args (if v.category = 2 then k + 2 else k + 1) vs
    rw [if_neg hv]
    cases j with
    | zero =>
      rw [List.getElem?_cons_zero] at h
      cases h
      exact List.mem_cons_self
    | succ j =>
      rw [List.getElem?_cons_succ] at h
      have := am_args_mem vs (k + 1) j w hc.2 h
      rw [show k + (j + 1) = k + 1 + j by omega]
      exact List.mem_cons_of_mem _ this
theorem am_sl_len : ∀ (as : List Value), as.all am_c1 = true → (lg_sl as).length = as.length
  | [], _ => rfl
  | v :: vs, hc => by
    simp only [List.all_cons, Bool.and_eq_true] at hc
    have hv : ¬ v.category = 2 := by rw [am_c1_cat hc.1]; decide
    have ih := am_sl_len vs hc.2
    unfold lg_sl at ih ⊢
    rw [List.flatMap_cons, if_neg hv, List.length_append, ih]
    simp
    omega
theorem am_ent_get {ml : Nat} {as : List Value} {j : Nat} {w : Value} (h : am_get (am_ent ml as) j = some w) : as[j]? = some w := by
  unfold am_get at h
  split at h
  · next v e =>
    cases h
    unfold am_ent at e
    by_cases hj : j < as.length
    · rw [List.getElem?_append_left (by rw [List.length_map]; exact hj), List.getElem?_map] at e
      cases h2 : as[j]? with
      | none => rw [h2] at e; cases e
      | some z => rw [h2] at e; cases e; rfl
    · rw [List.getElem?_append_right (by rw [List.length_map]; omega), List.getElem?_replicate] at e
      split at e
      · cases e
      · cases e
  · cases h
theorem am_ent_ls {ls : Array Slot} {n : Nat} {as : List Value} (h : as.length ≤ n) (hc : as.all am_c1 = true) (hl : lv_has ls n (lv_args 0 as)) : am_ls ls n (am_ent n as) := by
  refine ⟨⟨hl.1, hl.2.1, ?_⟩, ?_, ?_⟩
  · rintro ⟨j, w⟩ hq
    have := am_args_mem as 0 j w hc (am_ent_get (am_as_mem.mp hq))
    rw [Nat.zero_add] at this
    exact hl.2.2 (j, w) this
  · unfold am_ent
    rw [List.length_append, List.length_map, List.length_replicate]
    omega
  · intro i v hv
    exact am_c1_cat (List.all_eq_true.mp hc v (List.mem_of_getElem? (am_ent_get hv)))
/-- a method's start and end, by the abstract heap -/
def am_Pc (D : va_G) (cl : List vw_C) (b0 : Nat) (GL : State → Prop) (as : List Value) (σ : am_H) (top : Nat) : Array Value → State → Prop := va_Pc as (fun U => am_dy D cl b0 U σ top U.heap ∧ GL U)
def am_Qc (D : va_G) (cl : List vw_C) (b0 : Nat) (res : am_R) : Array Value → State → Outcome → State → Prop := fun _ st oc t => (∃ v, res.1 = .inl v ∧ oc = .returned v) ∧ am_dy D cl b0 t res.2.1 res.2.2.1 t.heap ∧ va_F (fun q => b0 ≤ q) st t
/-- the facts that move with the tables, as long as the cells below b0 stay -/
def am_mv (b0 : Nat) (GL : State → Prop) : Prop := ∀ s U : State, s.WarmedH U.vm → s.heap.size ≤ U.heap.size → (∀ q : Nat, q < s.heap.size → ¬ b0 ≤ q → U.heap[q]? = s.heap[q]?) → GL s → GL U
theorem am_blind {D : va_G} {cl : List vw_C} {b0 : Nat} {GL : State → Prop} (hmv : am_mv b0 GL) (as : List Value) (σ : am_H) (top : Nat) : FrameBlind (am_Pc D cl b0 GL as σ top) := by
  intro a U g mk h
  obtain ⟨h1, h2, h3⟩ := h
  exact ⟨h1, h2.moved (U := U.calling g mk a) (Vm.Alike.refl U.vm), hmv U (U.calling g mk a) (State.WarmedH.refl U) (Nat.le_refl _) (fun _ _ _ => rfl) h3⟩
section AMR
variable {p : Program} {l : Launch} {e : Env} {R : Room} {s : State} {m : MethodId} {args : Array Value} {below : List Frame} {meth : Method} {c : Code} {Q : State → Prop}
variable {cc : ByteArray} {D : va_G} {cl : List vw_C} {b0 nL c0 s0 : Nat} {pc top sl : Nat} {lv : am_V} {st rest : List Value} {σ : am_H}
theorem am_w_run {mc ms : Nat} {res : am_R} {r : Option Value} {ar : Array Value} (hres : res.1 = .inl r) (htop : res.2.2.1 = top + mc) (hsl : res.2.2.2 = sl + ms)
    (hr : ∀ (ls : Array Slot) (H : Heap) (locs : List Loc) (cells slots : Nat), am_inv D cl b0 s nL c0 s0 lv σ top sl ls H locs cells slots → va_Run p l e R s m args below meth c H locs cells slots mc ms (F0 m pc ls st) rest (am_Qc D cl b0 res ar) (fun q => b0 ≤ q))
    (k : am_W p l e R s m args below meth c Q D cl b0 nL c0 s0 (pc + 3) lv (r.toList ++ rest) (res.2.1) (res.2.2.1) (res.2.2.2)) : am_W p l e R s m args below meth c Q D cl b0 nL c0 s0 pc lv st σ top sl := by
  intro ls H locs cells slots h T hT X
  obtain ⟨v, st₀, t, T', L, h0, X', hL, e1, e2, ⟨⟨v2, hv, hv2⟩, hdy, hz, hk⟩, stp⟩ := hr ls H locs cells slots h T hT X
  rw [hres] at hv
  cases hv
  cases hv2
  have hal : s.vm.Alike t.vm := by rw [← e2]; exact X'.warmed.alike
  have hS := h.2.2.1
  obtain ⟨hc, hs⟩ := h.2.2.2
  rw [h0] at hz hk
  obtain ⟨t2, a1, b1⟩ := k ls T'.heap (locs ++ L) (cells + mc) (slots + ms) ⟨h.1, by rw [e1]; exact hdy.moved hal.symm, ⟨Nat.le_trans hS.1 (by rw [e1]; exact hz), fun q h1 h2 => by
      rw [e1, hk q (Nat.lt_of_lt_of_le h1 hS.1) h2]
      exact hS.2.1 q h1 h2, fun q hq => by
      rcases List.mem_append.mp hq with z | z
      · exact hS.2.2 q z
      · exact hL q z⟩, by omega, by omega⟩ T' rfl X'
  exact ⟨t2, stp t2 a1, b1⟩
/-- what the tables say of a call -/
def am_cc (t : am_T) (yn : Nat → MethodName) (ws : Nat → List Cond) (s : State) (args : Array Value) (y u v : Nat) : Prop :=
  (∀ w ∈ ws u, ∀ (a' : Array Value) (U : State), s.WarmedH U.vm → w.before a' U = true) ∧ (Cond.initialized (yn u).cls).before args s = true ∧ ((yn u).cls ≠ "java/lang/invoke/MethodHandle" ∧ (yn u).cls ≠ "java/lang/invoke/VarHandle") ∧ (parseMethodDescriptor (yn u).desc).map (fun d => d.parameters.length) = some v ∧ t.2.1 u ≤ 45
def am_lk (yn : Nat → MethodName) (s : State) (args : Array Value) (own : String) (idx u : Nat) : Prop := (Cond.methodLink own idx (yn u)).before args s = true ∨ ∃ host, (Cond.methodLinkNest own idx (yn u) host).before args s = true
def am_cf (t : am_T) (yn : Nat → MethodName) (rtt : Nat → Option FieldType) (ws : Nat → List Cond) (s : State) (args : Array Value) (y : Nat) (i : Instr) (u v : Nat) : Prop := match i with
  | .invokevirtual idx => u < 1000 → am_cc t yn ws s args y u v ∧ am_lk yn s args (yn y).cls idx u ∧ (Cond.instanceMethod (yn u)).before args s = true ∧ (Cond.selects (yn u).cls (yn u) (yn u)).before args s = true ∧ t.2.2.2.2.2.2.1 (t.2.2.2.2.2.2.2.1 u) = (yn u).cls ∧ am_hs t u = [] ∧ (am_hs t y = [] ∨ (Cond.methodLink (yn y).cls idx (yn u)).before args s = true)
  | .invokespecial idx => u < 1000 → am_cc t yn ws s args y u v ∧ am_lk yn s args (yn y).cls idx u ∧ (Cond.instanceMethod (yn u)).before args s = true ∧ (yn u).name = "<init>" ∧ rtt u = none ∧ am_hs t u = [] ∧ am_hs t y = []
  | .invokestatic idx => u < 1000 → am_cc t yn ws s args y u v ∧ am_lk yn s args (yn y).cls idx u ∧ (Cond.static (yn u)).before args s = true ∧ am_hs t y = [] ∧ (am_hs t u = [] ∨ (Cond.methodLink (yn y).cls idx (yn u)).before args s = true)
  | _ => True
theorem am_callB {t : am_T} {yn : Nat → MethodName} {bt : Nat → ByteArray} {rtt : Nat → Option FieldType} {ws : Nat → List Cond} {y u v d mc ms : Nat} {ws' : List Cond} (hws : ws u = .code (yn u) (bt u) (t.2.1 u) (rtt u) :: ws') (h : am_cc t yn ws s args y u v) (hfr : d + 1 ≤ R.frames) (hlo : 64 * (d + 1) ≤ R.locals) {own : String} {idx : Nat}
    (hl : (Cond.methodLink own idx (yn u)).before args s = true) : CallB R s args own idx (yn u) (bt u) (t.2.1 u) (rtt u) (ws u) { frames := d, cells := mc, slots := ms, locals := 64 * d } mc ms v := by
  obtain ⟨h1, h2, h3, h4, h5⟩ := h
  have hc : Cond.code (yn u) (bt u) (t.2.1 u) (rtt u) ∈ ws u := by rw [hws]; exact List.mem_cons_self
  refine ⟨rfl, rfl, hfr, by show 8 + (t.2.1 u + 11) + 64 * d ≤ _; omega, h1, hc, h1 _ hc args s (State.WarmedH.refl s), h2, h3, fun sig hs => ?_, hl⟩
  rw [hs] at h4
  exact (Option.some.inj h4).symm
theorem am_callN {t : am_T} {yn : Nat → MethodName} {bt : Nat → ByteArray} {rtt : Nat → Option FieldType} {ws : Nat → List Cond} {y u v d mc ms : Nat} {ws' : List Cond} (hws : ws u = .code (yn u) (bt u) (t.2.1 u) (rtt u) :: ws') (h : am_cc t yn ws s args y u v) (hfr : d + 1 ≤ R.frames) (hlo : 64 * (d + 1) ≤ R.locals) {own host : String} {idx : Nat}
    (hl : (Cond.methodLinkNest own idx (yn u) host).before args s = true) : va_CN R s args own idx (yn u) host (bt u) (t.2.1 u) (rtt u) (ws u) { frames := d, cells := mc, slots := ms, locals := 64 * d } mc ms v := by
  obtain ⟨h1, h2, h3, h4, h5⟩ := h
  have hc : Cond.code (yn u) (bt u) (t.2.1 u) (rtt u) ∈ ws u := by rw [hws]; exact List.mem_cons_self
  refine ⟨⟨rfl, rfl, hfr, by show 8 + (t.2.1 u + 11) + 64 * d ≤ _; omega, h1, hc⟩, h1 _ hc args s (State.WarmedH.refl s), h2, h3, fun sig hs => ?_, hl⟩
  rw [hs] at h4
  exact (Option.some.inj h4).symm
end AMR
end
section
/-- the same place of a walk, seen as if the method had been entered with the heap as it is now -/
theorem am_rebase {p : Program} {l : Launch} {e : Env} {R : Room} {s : State} {m : MethodId} {args : Array Value} {below : List Frame} {meth : Method} {c : Code} {T : State} {locs : List Loc} {cells slots : Nat} (X : Stand p l e R s m args below meth c T locs cells slots) (hc : cells ≤ R.cells) (hs : slots ≤ R.slots) :
    Stand p l e { frames := R.frames, cells := R.cells - cells, slots := R.slots - slots, locals := R.locals } (T.setFrames (.invoking m args :: below)) m args below meth c T [] 0 0 := by
  have hcurT : T.cur < T.threads.size := by
    obtain ⟨g₀, hr⟩ := X.frames_eq
    obtain ⟨th, hth, -⟩ := State.frames_cons hr
    exact (Array.getElem?_eq_some_iff.mp hth).1
  have hfr : (T.setFrames (.invoking m args :: below)).frames = .invoking m args :: below := State.frames_setFrames _ hcurT
  obtain ⟨g₀, hr⟩ := X.frames_eq
  obtain ⟨th, hth, -⟩ := State.frames_cons hr
  have hmeth : T.vm.method? m = some meth := X.method'
  have hroom := X.room
  have hb := X.bytes
  have hl := X.limits
  have hsz := X.heapSize
  have hus := X.used
  have hbk := X.book
  refine ⟨X.admits, X.cas, X.clock, hfr, ?_, ?_, hmeth, X.code, X.here, X.tail, State.WarmedH.refl _, by rw [State.stackLimits_setFrames], by rw [State.stackBytes_setFrames], ?_⟩
  · have e1 : s.localsInUse = _ := State.localsInUse_invoking X.frames X.method X.code
    have e2 : (T.setFrames (.invoking m args :: below)).localsInUse = _ := State.localsInUse_invoking hfr hmeth X.code
    simp only [State.hasRoom, Bool.and_eq_true, decide_eq_true_eq] at hroom ⊢
    rw [e1, X.frames] at hroom
    rw [e2, hfr, State.stackLimits_setFrames, State.stackBytes_setFrames, hb, hl]
    refine ⟨⟨⟨⟨hroom.1.1.1.1, hroom.1.1.1.2⟩, ?_⟩, ?_⟩, hbk⟩
    · show T.heap.size + (R.cells - cells) ≤ _
      have := hroom.1.1.2
      omega
    · show T.slotsUsed + (R.slots - slots) ≤ _
      have := hroom.1.2
      omega
  · have hh := X.hears
    cases below with
    | nil =>
      simp only [State.hears, X.method] at hh
      simp only [State.hears]
      rw [show (T.setFrames (.invoking m args :: [])).vm.method? m = some meth from hmeth]
      exact hh
    | cons f r =>
      cases f with
      | java g =>
        simp only [State.hears] at hh ⊢
        rw [State.code?_eq] at hh ⊢
        cases hmg : s.vm.method? g.method with
        | none => rw [hmg] at hh; cases hh
        | some mg =>
          rw [hmg] at hh
          rw [show (T.setFrames (.invoking m args :: .java g :: r)).vm.method? g.method = some mg from X.warmed.methodAt hmg]
          exact hh
      | native _ => rfl
      | proc _ => rfl
      | _ =>
        simp only [State.hears, X.method] at hh
        simp only [State.hears]
        first
          | (rw [show (T.setFrames _).vm.method? m = some meth from hmeth]; exact hh)
          | (simp only [hmeth]; exact hh)
  · have h := (State.sameButNew.refl T hth)
    have h2 : (T.setFrames (.invoking m args :: below)).threads[(T.setFrames (.invoking m args :: below)).cur]? = _ := (State.frames_cons hfr).choose_spec.1
    have h3 := (State.sameButNew.refl (T.setFrames (.invoking m args :: below)) h2).setFrames T.frames (State.cur_lt_of_frames hfr)
    rw [State.setFrames_setFrames, State.setFrames_self hth] at h3
    exact h3
end
section
def am_QcT (D : va_G) (cl : List vw_C) (b0 : Nat) (res : am_R) : Array Value → State → Outcome → State → Prop := fun _ st oc t => (∃ a, res.1 = .inr a ∧ oc = .threw a) ∧ am_dy D cl b0 t res.2.1 res.2.2.1 t.heap ∧ va_F (fun q => b0 ≤ q) st t
/-- the end of a method that throws -/
def am_MQT (below : List Frame) (Qc : Array Value → State → Outcome → State → Prop) (a : Array Value) (s : State) (mc ms : Nat) (free : Addr → Prop) : State → Prop := fun t =>
  ∃ o, t.status = .running ∧ Ended t below o ∧ Qc a s o t ∧ (∃ x, o = .threw x) ∧ s.WarmedH t.vm ∧ ∃ L, s.sameButNew ({ t with vm := s.vm } : State) L mc ms ∧ ∀ q ∈ L, free q.base
def am_sup : List String := ["java/lang/RuntimeException", "java/lang/Exception"]
/-- what the tables say where an exception is made and thrown -/
def am_tf (s : State) (args : Array Value) (cc : ByteArray) (own C : String) (pc idx ic : Nat) : Prop :=
  decode cc pc = .ok (.new idx, 3) ∧ decode cc (pc + 3) = .ok (.dup, 1) ∧ decode cc (pc + 4) = .ok (.invokespecial ic, 3) ∧ decode cc (pc + 7) = .ok (.athrow, 1) ∧ (Cond.classLink own idx C).before args s = true ∧ (Cond.initialized C).before args s = true ∧
  Bundle.fit C = true ∧ (∀ w ∈ Bundle.ownAtoms0 own ic C am_sup, w.before args s = true)
theorem am_w_throw {p : Program} {l : Launch} {e : Env} {R : Room} {s : State} {m : MethodId} {args : Array Value} {below : List Frame} {meth : Method} {c : Code} {cc : ByteArray} {D : va_G} {cl : List vw_C} {b0 nL c0 s0 pc top sl : Nat} {lv : am_V} {st : List Value} {σ : am_H} {GL : State → Prop} {own C : String} {T0 : u_T} {u idx ic : Nat} {res : am_R}
    (hx : p.tables.exec = Jvm.exec) (hb : c.code = cc) (hml : c.maxLocals = nL) (hfl : l.flags = pinnedFlags ++ [noTraceFlag]) (hlocks : meth.locks = false) (hmt : c.exceptionTable.isEmpty = true) (hown : s.vm.findClass own = some m.cls) (hmv : am_mv b0 GL) (hgl : GL s) (htf : ∀ s' : State, GL s' → am_tf s' args cc own C pc idx ic)
    (hc : cl[u]? = some (C, T0, 0)) (hfr : 6 ≤ R.frames) (hlo : 200 ≤ R.locals) (hw : (st.map fun w => w.category).sum ≤ 8) (hr1 : top + 1 ≤ R.cells + c0) (hr2 : sl + 6 ≤ R.slots + s0) (hres : res = (.inr top, am_up σ top (.inr (.inl (u, []))), top + 1, sl + 6)) :
    am_W p l e R s m args below meth c (am_MQT below (am_QcT D cl b0 res) args s (res.2.2.1 - c0) (res.2.2.2 - s0) (fun q => b0 ≤ q)) D cl b0 nL c0 s0 pc lv st σ top sl := by
  intro ls H locs cells slots h T hT X
  obtain ⟨hcc, hss⟩ := h.2.2.2
  have X0 := am_rebase X (by omega) (by omega)
  have hS := h.2.2.1
  generalize hs' : T.setFrames (.invoking m args :: below) = s' at X0
  have hh : s'.heap = H := by rw [← hs']; exact hT
  have hvm : s'.vm = T.vm := by rw [← hs']; rfl
  have hW' : s.WarmedH s'.vm := by rw [hvm]; exact X.warmed
  have hgl' : GL s' := hmv s s' hW' (by rw [hh]; exact hS.1) (fun q h1 h2 => by rw [hh]; exact hS.2.1 q h1 h2) hgl
  obtain ⟨d0, d3, d4, d7, hcl, hini, hfit, hat⟩ := htf s' hgl'
  have hins : (Cond.instantiable C 6).before args s' = true := hat _ (by simp [Bundle.ownAtoms0])
  have hown' : s'.vm.findClass own = some m.cls := by rw [hW'.alike.findClass]; exact hown
  obtain ⟨hsz, hbt, tys, hK, hcells⟩ := h.2.1
  have hfc : s'.vm.findClass C = some (D.1 u) := by rw [hW'.alike.findClass]; exact (hK.1 u _ hc).2.1
  have hsame1 : s.sameButNew (s'.setVm s.vm) locs cells slots := by
    have h1 := X.same.setFrames (.invoking m args :: below) X.cur
    rw [← hs']
    exact h1
  have key : W p l e { frames := R.frames, cells := R.cells - cells, slots := R.slots - slots, locals := R.locals } s' m args below meth c H [] 0 0 (am_MQT below (am_QcT D cl b0 res) args s (res.2.2.1 - c0) (res.2.2.2 - s0) (fun q => b0 ≤ q)) (F0 m pc ls st) := by
    refine W.newcK hx hb hown' hcl hins hini rfl d0 (by show 0 + 1 ≤ R.cells - cells; omega) (by show 0 + 6 ≤ R.slots - slots; omega) hfc hsz fun H1 kC hkC e1 z1 o1 => ?_
    refine lv_dup hx hb d3 rfl ?_
    intro T2 hT2 X2
    obtain ⟨U, st1, hrun, hend, hWU, hsame, ce, hce, hoc⟩ := X2.ctorThrow0 hx (Launch.traces_off hfl X.admits) hown' hfit (names := am_sup) (by decide +kernel) hat (fun x hx => by cases hx) hfc hkC (by rw [hT2]; exact e1) (by rw [hh, hsz]; exact Nat.le_refl _)
      (g := F0 m (pc + 3 + 1) ls (.ref top :: .ref top :: st)) rfl (by rw [hml]; exact h.1.1.1) rfl rfl (rest := st) rfl (by rw [hb]; exact d4) (by rw [hb]; exact d7) (fun x hx => by
        have : c.exceptionTable.toList = [] := by
          have := Array.isEmpty_iff.mp hmt
          rw [this]
        rw [this] at hx
        cases hx) (by show 2 + 3 < R.frames; omega) (by
        show 2 * 0 + ((Value.ref top :: st).map fun v => v.category).sum + (13 * (2 + 1) + 41) ≤ R.locals
        rw [List.map_cons, List.sum_cons]
        show 2 * 0 + (1 + _) + _ ≤ _
        omega) hlocks
    have hlt : top < U.heap.size := (Array.getElem?_eq_some_iff.mp hce).1
    have hle : U.heap.size ≤ s'.heap.size + (0 + 1) := hsame.2.2.1
    rw [hh, hsz] at hle
    have hsize : U.heap.size = top + 1 := by omega
    have oq : ∀ q : Nat, q < top → U.heap[q]? = H[q]? := by
      intro q hq
      have hq2 : q < H.size := by rw [hsz]; exact hq
      have h3 : H[q]? = some H[q] := Array.getElem?_eq_getElem hq2
      have h4 : s'.heap[q]? = some H[q] := by rw [hh]; exact h3
      rw [h3]
      exact State.sameButNew.old_cell hsame h4
    have hWs : s.WarmedH U.vm := State.WarmedH.trans hW' hWU
    obtain ⟨a1, a2, tys', a3, a4⟩ := h.2.1.moved (U := U) hWs.alike
    refine ⟨U, st1, .threw top, hrun, hend, ⟨⟨top, by rw [hres], rfl⟩, ?_, ?_, ?_⟩, ⟨top, rfl⟩, hWs, locs ++ [], ?_, ?_⟩
    · rw [hres]
      refine am_dy_push a1 a2 a3 (fun _ z => z) a4 hsize oq ⟨hbt, (C, T0, 0), hc, rfl, ce, hce, ?_, hoc.vm, fun k hk => absurd hk (Nat.not_lt_zero k)⟩
      exact Option.some.inj (hoc.cls.symm.trans hfc)
    · rw [hsize]
      have := hS.1
      omega
    · intro q h1 h2
      have h3 : q < top := by rw [← hsz]; exact Nat.lt_of_lt_of_le h1 hS.1
      rw [oq q h3]
      exact hS.2.1 q h1 h2
    · have h5 := hsame1.trans (hsame.setVm s.vm)
      rw [hres]
      rw [show top + 1 - c0 = cells + (0 + 1) by omega, show sl + 6 - s0 = slots + (0 + 6) by omega]
      exact h5
    · intro q hq
      rw [List.append_nil] at hq
      exact hS.2.2 q hq
  exact key T hT X0
end
section
/-! a handler is sought: the class of an entry may be linked only now -/
section AMF
variable {Q : Handler → Pre} {E : CtlPost} {e : Env} {d : Bool} {acts : List Action} {s : State} {f : JFrame} {a : Addr}
theorem am_seek {x : ExceptionTableEntry} {t : List ExceptionTableEntry} {k : ClassId} {cell : Cell} (hx : covers x f.pc = true) (h0 : x.catchType ≠ 0) (hl : s.vm.ClassLinks e.platform f.method.cls x.catchType k) (hcell : s.heap[a]? = some cell) (hobj : ∀ z, cell.vm ≠ .statics z)
    (h1 : ∃ z, s.vm.classes[cell.cls]? = some z) (h2 : ∃ z, s.vm.classes[k]? = some z) : wp (findHandler.go f a (x :: t)) Q E e d acts s ↔ (if s.vm.assignable cell.cls k = true then Q (.found x.handlerPc) d acts (s.setVm (s.vm.noted f.method.cls x.catchType (.cls k))) else wp (findHandler.go f a t) Q E e d acts (s.setVm (s.vm.noted f.method.cls x.catchType (.cls k)))) := by
  simp only [covers] at hx
  obtain ⟨g1, g2⟩ := (resolveClass_links e.toSetting hl).op (op := VmOp.resolveClass f.method.cls x.catchType) rfl
  have hal : s.vm.Alike (s.vm.noted f.method.cls x.catchType (.cls k)) := (Vm.Alike.refl s.vm).noted _ _ _
  obtain ⟨z1, hz1⟩ := h1
  obtain ⟨z2, hz2⟩ := h2
  obtain ⟨w1, hw1, -⟩ := hal.2.2 _ _ hz1
  obtain ⟨w2, hw2, -⟩ := hal.2.2 _ _ hz2
  have hasg : (s.vm.noted f.method.cls x.catchType (.cls k)).assignable cell.cls k = s.vm.assignable cell.cls k := hal.assignable _ _
  by_cases hy : s.vm.assignable cell.cls k = true
  · rw [if_pos hy]
    rw [hy] at hasg
    simp [findHandler.go, hx, h0, g1, g2, hcell, hobj, hw1, hw2, hasg, VmOp.dirties, VmOp.acts]
  · rw [if_neg hy]
    have hy2 : s.vm.assignable cell.cls k = false := by simpa using hy
    rw [hy2] at hasg
    simp [findHandler.go, hx, h0, g1, g2, hcell, hobj, hw1, hw2, hasg, VmOp.dirties, VmOp.acts]
end AMF
/-- the search ends at a handler; the tables may be warmer behind it -/
theorem am_caught {tb : Tables} {e : Env} {s target : State} {g : JFrame} {c : Code} {below : List Frame} {a : Addr} (h : At s g.method c below) {pc : Nat} {vm' : Vm}
    (hfind : ∀ (Q : Handler → Pre) (E : CtlPost) (d : Bool) (acts : List Action), wp (findHandler g a) Q E e d acts ((s.setTop g).pushFrame (.throwing a)) ↔ Q (.found pc) d acts (((s.setTop g).pushFrame (.throwing a)).setVm vm'))
    (hrest : Steps tb e below ((s.setVm vm').setTop { g with pc := pc, stack := [.ref a] }) target) : Steps tb e below ((s.setTop g).pushFrame (.throwing a)) target := by
  obtain ⟨hgo, hw⟩ := h.throwing a
  refine Steps.head hgo hw ?_
  rw [stepThread_throwing (frames_entered h.top _)]
  have hst : ∀ r, (stepThrowing e ((s.setTop g).pushFrame (.throwing a)) a (.java g :: r)).Is ((((s.setTop g).pushFrame (.throwing a)).setVm vm').setFrames (.java { g with pc := pc, stack := [.ref a] } :: r)) [] := by
    intro r
    simp only [stepThrowing, searchFrame, vmDo]
    generalize hr : Sem.go _ e false [] _ = res
    obtain ⟨as, rfl, ha⟩ := Sem.eq_ok_of hr (a := Handler.found pc) (s' := ((s.setTop g).pushFrame (.throwing a)).setVm vm') (acts' := []) (by simp [hfind _ _ _ _])
    exact ⟨rfl, ha⟩
  rw [(hst _).1]
  obtain ⟨g₀, hg⟩ := Option.isSome_iff_exists.mp h.top
  obtain ⟨r, hr⟩ := State.topJava?_eq_some.mp hg
  have hr' : (s.setVm vm').frames = .java g₀ :: r := hr
  rw [State.setTop_of_frames _ hr'] at hrest
  rw [hr, List.tail_cons, State.pushFrame, State.setTop_of_frames _ hr]
  have key : ∀ (u : State) (F G K : List Frame), (((u.setFrames F).setFrames G).setVm vm').setFrames K = (u.setVm vm').setFrames K := by
    intro u F G K
    rw [State.setFrames_setFrames]
    have h1 : (u.setFrames G).setVm vm' = (u.setVm vm').setFrames G := rfl
    rw [h1, State.setFrames_setFrames]
  rw [key]
  exact hrest
end
section
section AMX
variable {p : Program} {l : Launch} {e : Env} {R : Room} {s : State} {m : MethodId} {args : Array Value} {below : List Frame} {meth : Method} {c : Code} {T : State} {locs : List Loc} {cells slots : Nat}
/-- an entry's class, as it is linked -/
theorem am_ent_link (X : Stand p l e R s m args below meth c T locs cells slots) {own N : String} {i : Nat} (hown : s.vm.findClass own = some m.cls) (hl : (Cond.classLink own i N).before args s = true) {kN : ClassId} (hN : s.vm.findClass N = some kN) {vm1 : Vm} (hW : s.WarmedH vm1) :
    vm1.ClassLinks e.platform m.cls i kN ∧ s.WarmedH (vm1.noted m.cls i (.cls kN)) ∧ ∃ z, vm1.classes[kN]? = some z := by
  have hpl : e.platform.magicAccessors = ({} : Platform).magicAccessors := by rw [X.admits.platform]
  obtain ⟨c', hc', hcl⟩ := Cond.classLink_spec hown hl e.platform hpl
  cases hN.symm.trans hc'
  obtain ⟨dk, _, _, kt, hd, _, _, _, _, hkt, _, hopen⟩ := hcl.here
  obtain ⟨kt', hkt', -⟩ := hW.alike.2.2 _ _ hkt
  exact ⟨hW.classLinks hcl, hW.noted hd hopen (State.rightAt_cls hcl), kt', hkt'⟩
theorem am_find1 (X : Stand p l e R s m args below meth c T locs cells slots) {g : JFrame} (hg : g.method = m) {a : Addr} {cell : Cell} {own N : String} {kN : ClassId} {x : ExceptionTableEntry} {tl : List ExceptionTableEntry} (hown : s.vm.findClass own = some m.cls) (htab : c.exceptionTable.toList = x :: tl)
    (hx : covers x g.pc = true) (h0 : x.catchType ≠ 0) (hl : (Cond.classLink own x.catchType N).before args s = true) (hN : s.vm.findClass N = some kN) (hcell : T.heap[a]? = some cell) (hobj : ∀ z, cell.vm ≠ .statics z) (hcc : ∃ z, s.vm.classes[cell.cls]? = some z) (hasg : s.vm.assignable cell.cls kN = true) :
    ∃ vm', s.WarmedH vm' ∧ ∀ (Q : Handler → Pre) (E : CtlPost) (d : Bool) (acts : List Action), wp (findHandler g a) Q E e d acts ((T.setTop g).pushFrame (.throwing a)) ↔ Q (.found x.handlerPc) d acts (((T.setTop g).pushFrame (.throwing a)).setVm vm') := by
  subst hg
  obtain ⟨k1, k2, k3⟩ := am_ent_link X hown hl hN X.warmed
  obtain ⟨z, hz⟩ := hcc
  obtain ⟨z', hz', -⟩ := X.warmed.alike.2.2 _ _ hz
  refine ⟨_, k2, fun Q E d acts => ?_⟩
  rw [W.findHandler_eq (s := (T.setTop g).pushFrame (.throwing a)) (f := g) X.method' X.code, htab]
  rw [am_seek (s := (T.setTop g).pushFrame (.throwing a)) (f := g) (k := kN) (cell := cell) hx h0 k1 hcell hobj ⟨z', hz'⟩ k3]
  rw [if_pos (show ((T.setTop g).pushFrame (.throwing a)).vm.assignable cell.cls kN = true from (X.warmed.alike.assignable _ _).trans hasg)]
  exact Iff.rfl
theorem am_find2 (X : Stand p l e R s m args below meth c T locs cells slots) {g : JFrame} (hg : g.method = m) {a : Addr} {cell : Cell} {own N N1 : String} {kN k1N : ClassId} {x x1 : ExceptionTableEntry} {tl : List ExceptionTableEntry} (hown : s.vm.findClass own = some m.cls) (htab : c.exceptionTable.toList = x1 :: x :: tl)
    (hx1 : covers x1 g.pc = true) (h01 : x1.catchType ≠ 0) (hl1 : (Cond.classLink own x1.catchType N1).before args s = true) (hN1 : s.vm.findClass N1 = some k1N) (hno : s.vm.assignable cell.cls k1N = false)
    (hx : covers x g.pc = true) (h0 : x.catchType ≠ 0) (hl : (Cond.classLink own x.catchType N).before args s = true) (hN : s.vm.findClass N = some kN) (hcell : T.heap[a]? = some cell) (hobj : ∀ z, cell.vm ≠ .statics z) (hcc : ∃ z, s.vm.classes[cell.cls]? = some z) (hasg : s.vm.assignable cell.cls kN = true) :
    ∃ vm', s.WarmedH vm' ∧ ∀ (Q : Handler → Pre) (E : CtlPost) (d : Bool) (acts : List Action), wp (findHandler g a) Q E e d acts ((T.setTop g).pushFrame (.throwing a)) ↔ Q (.found x.handlerPc) d acts (((T.setTop g).pushFrame (.throwing a)).setVm vm') := by
  subst hg
  obtain ⟨k1, k2, k3⟩ := am_ent_link X hown hl1 hN1 X.warmed
  obtain ⟨j1, j2, j3⟩ := am_ent_link X hown hl hN k2
  obtain ⟨z, hz⟩ := hcc
  obtain ⟨z', hz', -⟩ := X.warmed.alike.2.2 _ _ hz
  obtain ⟨z2, hz2, -⟩ := k2.alike.2.2 _ _ hz
  refine ⟨_, j2, fun Q E d acts => ?_⟩
  rw [W.findHandler_eq (s := (T.setTop g).pushFrame (.throwing a)) (f := g) X.method' X.code, htab]
  rw [am_seek (s := (T.setTop g).pushFrame (.throwing a)) (f := g) (k := k1N) (cell := cell) hx1 h01 k1 hcell hobj ⟨z', hz'⟩ k3]
  rw [if_neg (show ¬ ((T.setTop g).pushFrame (.throwing a)).vm.assignable cell.cls k1N = true from fun hh => by
    have := (X.warmed.alike.assignable cell.cls k1N).symm.trans hh
    rw [hno] at this
    cases this)]
  erw [am_seek (s := ((T.setTop g).pushFrame (.throwing a)).setVm (T.vm.noted g.method.cls x1.catchType (.cls k1N))) (f := g) (k := kN) (cell := cell) hx h0 j1 hcell hobj ⟨z2, hz2⟩ j3]
  rw [if_pos (show (((T.setTop g).pushFrame (.throwing a)).setVm (T.vm.noted g.method.cls x1.catchType (.cls k1N))).vm.assignable cell.cls kN = true from (k2.alike.assignable _ _).trans hasg)]
  exact Iff.rfl
/-- the contract of a method that throws -/
def am_MT (l : Launch) (y : MethodName) (ws : List Cond) (rm : Room) (Pc : Array Value → State → Prop) (Qc : Array Value → State → Outcome → State → Prop) (mc ms : Nat) (free : Addr → Prop) : Prop :=
  MetFree l y (headSpec ws rm) Pc (fun _ _ _ _ _ => True) (fun a st o t => Qc a st o t ∧ (∃ x, o = .threw x) ∧ st.WarmedH t.vm ∧ ∃ L, st.sameButNew ({ t with vm := st.vm } : State) L mc ms ∧ ∀ q ∈ L, free q.base)
theorem am_MT_ofW {y : MethodName} {ws ws' : List Cond} {rm : Room} {Pc : Array Value → State → Prop} {Qc : Array Value → State → Outcome → State → Prop} {mc ms : Nat} {free : Addr → Prop} {cc : ByteArray} {maxL : Nat} {ret : Option FieldType} (hy : plainName y.cls = true) (hw : ws = Cond.code y cc maxL ret :: ws')
    (body : ∀ p e s m args below meth c s₁, BodyLoose p l y (headSpec ws rm) cc maxL ret e s m args below meth c s₁ → c.maxLocals = maxL → Pc args s →
      W p l e (headSpec ws rm).room s m args below meth c s.heap [] 0 0 (am_MQT below Qc args s mc ms free) (entryFrame m args maxL)) : am_MT l y ws rm Pc Qc mc ms free := by
  refine MetFree.of_bodyS (code := cc) (maxLocals := maxL) (ret := ret) hy ?_ ?_
  · intro args s m h hn
    obtain ⟨meth, c, h1, h2, h3, h4, h5, h6, -, -⟩ := Cond.code_spec hn (atoms_spec (ws := ws) h _ (by rw [hw]; exact List.mem_cons_self))
    exact ⟨meth, c, h1, h2, h3, h4, h5, h6⟩
  · intro p e s m args below meth c s₁ B hml hP _
    have hh0 : s₁.heap = s.heap := by rw [B.state]; rfl
    obtain ⟨t, a1, o, b1, b2, b3⟩ := body p e s m args below meth c s₁ B hml hP s₁ hh0 (Stand.of_body B)
    exact ⟨t, o, a1, b1, b2, b3⟩
/-- a call on an object, of a method that throws: the note lies over the caller's frame -/
theorem am_threw (X : Stand p l e R s m args below meth c T locs cells slots) (hx : p.tables.exec = Jvm.exec) {own C : String} {index mc ms n : Nat} {y : MethodName} {bytes : ByteArray} {maxL : Nat} {ret : Option FieldType} {ws : List Cond} {rm : Room} {Pc : Array Value → State → Prop} {Qc : Array Value → State → Outcome → State → Prop} {free : Addr → Prop}
    (hown : s.vm.findClass own = some m.cls) (hM : am_MT l y ws rm Pc Qc mc ms free) (cw : CallW R s args own C index y bytes maxL ret ws rm mc ms n) {H : Heap} (hT : T.heap = H) {b : Addr} {As rest : List Value} (hp : PreV s H C b Pc As)
    {g : JFrame} (hg : g.method = m) (hn : As.length = n) (hsize : g.locals.size = c.maxLocals) (hstack : g.stack = As.reverse ++ .ref b :: rest) (hW : 2 * g.monitorRoom + (rest.map fun v => v.category).sum ≤ 8) (hdg : decode c.code g.pc = .ok (.invokevirtual index, 3)) (hf : cells + mc ≤ R.cells ∧ slots + ms ≤ R.slots) :
    ∃ (x : Addr) (st₀ t T' : State) (L : List Loc), st₀.heap = H ∧ Stand p l e R s m args below meth c T' (locs ++ L) (cells + mc) (slots + ms) ∧ (∀ q ∈ L, free q.base) ∧ T'.heap = t.heap ∧ T'.vm = t.vm ∧ Qc (Value.ref b :: As).toArray st₀ (.threw x) t ∧
      ∀ tg, Steps p.tables e below ((T'.setTop { g with stack := rest }).pushFrame (.throwing x)) tg → Steps p.tables e below (T.setTop g) tg := by
  obtain ⟨⟨hrc, hrs, hfr, hlo, hws, hcw, hcode, hini, hy, hlen, hl⟩, hin, hsel⟩ := cw
  obtain ⟨hblind, ⟨cellB, hcB, hoB, hclB⟩, hPc⟩ := hp
  obtain ⟨mk, methM, hnamed, hmethM, hstM, habM⟩ := Cond.instanceMethod_spec hin
  obtain ⟨methM', cM, hmethM', hcM, -, hlM, -, -, -, hsigM⟩ := Cond.code_spec hnamed hcode
  cases hmethM.symm.trans hmethM'
  obtain ⟨c2, r2, m2, q1, q2, q3, q4, kP, hkP, hkPi⟩ := Cond.selects_spec hsel
  cases hclB.symm.trans q1
  cases (State.methodFound?_of_named hnamed hy).symm.trans q2
  cases hnamed.symm.trans q3
  have hselP : selectMethod e.platform s.vm cellB.cls mk = .method mk := by rw [Launch.admits_selectMethod X.admits]; exact q4
  obtain ⟨vm₁, X₁, hstep₁⟩ := X.invokevirtual hx hown hl hnamed hmethM hstM hkP hkPi hy (a := b) (cell := cellB) (by rw [hT]; exact hcB)
    (fun z h => by rw [h] at hoB; cases hoB) hselP hmethM habM hkP hkPi (g := g) hg (argsL := As) (rest := rest) (hn.trans (hlen _ hsigM)) hstack hdg
  have hnU : (T.setVm vm₁).methodNamed? y = some mk := X₁.named hnamed
  have hcodeU := hws _ hcw (Value.ref b :: As).toArray (T.setVm vm₁) X₁.warmed
  have hiniU : (Cond.initialized y.cls).before (Value.ref b :: As).toArray (T.setVm vm₁) = true := word_at X₁.warmed (Or.inl (by first | rfl | simp [Cond.onTables, Cond.keeps, Cond.steady])) hini
  obtain ⟨methY, cY, hmY, hcY, -, hlY, -, -, -, -⟩ := Cond.code_spec hnU hcodeU
  obtain ⟨kY, hkY, -⟩ := className_of_methodNamed hnU
  have hinitY : kY.init = .initialized := Cond.initialized_spec (findClass_of_methodNamed hnU) hkY hiniU
  have h : At (T.setVm vm₁) ({ g with stack := rest } : JFrame).method c below := by
    show At (T.setVm vm₁) g.method c below
    rw [hg]
    exact X₁.here
  have happ : (headSpec ws rm).appliesLoose y e.platform ((T.setVm vm₁).calling { g with stack := rest } mk (Value.ref b :: As).toArray) = true :=
    Spec.appliesLoose_calling (g := { g with stack := rest }) h hdg hnU hkY hinitY
      (X₁.room_calling (g := { g with stack := rest }) (R' := (headSpec ws rm).room) hsize hmY hcY hfr (by rw [hlY]; show 2 * g.monitorRoom + (rest.map fun v => v.category).sum + (maxL + 11) + rm.locals ≤ R.locals; omega) (by show cells + rm.cells ≤ _; rw [hrc]; exact hf.1) (by show slots + rm.slots ≤ _; rw [hrs]; exact hf.2))
      (atoms_intro fun w hw => hws w hw _ _ X₁.warmed)
  obtain ⟨mid, hmid⟩ := h.above
  have hfr2 : ((T.setVm vm₁).setTop { g with stack := rest }).frames = (.java { g with stack := rest } :: mid) ++ below := by rw [State.frames_setTop' _ h.top, hmid]; rfl
  obtain ⟨o, s₂, hsteps, -, hend, hq⟩ := Steps.callFree hM p X.admits X.cas X.clock (acts := []) hfr2 happ (hblind _ _ { g with stack := rest } mk (hPc (T.setVm vm₁) hT X₁.warmed)) trivial
  have hq' : _ ∧ _ := hq
  obtain ⟨hQ, ⟨x, rfl⟩, hWW, L, hsame, hL⟩ := hq'
  have hend' : Ended s₂ (.java { g with stack := rest } :: below) (.threw x) := by
    have e1 : ((T.setVm vm₁).setTop { g with stack := rest }).frames = .java { g with stack := rest } :: below := by
      obtain ⟨g₀, hr⟩ := X₁.frames_eq
      rw [State.frames_setTop' _ h.top, hr]
      rfl
    rw [e1] at hend
    exact hend
  obtain ⟨T', X', hW', -, ht⟩ := X₁.outOfThrown (g := { g with stack := rest }) hg (mk := mk) (a := (Value.ref b :: As).toArray) hend' hWW hsame
  refine ⟨x, (T.setVm vm₁).calling { g with stack := rest } mk (Value.ref b :: As).toArray, s₂, T', L, hT, X', hL, ?_, ?_, hQ, fun tg hs => ?_⟩
  · rw [ht]
    exact (Stand.throwing_heap T' _ x).symm
  · rw [ht]
    exact (Stand.throwing_vm T' _ x).symm
  · refine hstep₁ _ fun acts => ?_
    rw [doInvoke_state]
    rw [← ht] at hs
    exact hsteps.trans hs
end AMX
end
section
section AMY
variable {p : Program} {l : Launch} {e : Env} {R : Room} {s : State} {m : MethodId} {args : Array Value} {below : List Frame} {meth : Method} {c : Code} {T : State} {locs : List Loc} {cells slots : Nat}
def am_he (x : ExceptionTableEntry) : Nat × Nat × Nat × Nat := (x.startPc, x.endPc, x.handlerPc, x.catchType)
theorem am_skip {Q : Handler → Pre} {E : CtlPost} {d : Bool} {acts : List Action} {U : State} {f : JFrame} {a : Addr} {x : ExceptionTableEntry} {t : List ExceptionTableEntry} (hx : ¬ (x.startPc ≤ f.pc ∧ f.pc < x.endPc)) : wp (findHandler.go f a (x :: t)) Q E e d acts U ↔ wp (findHandler.go f a t) Q E e d acts U := by
  have h2 : (decide (x.startPc ≤ f.pc) && decide (f.pc < x.endPc)) = false := by
    rw [Bool.and_eq_false_iff, decide_eq_false_iff_not, decide_eq_false_iff_not]
    exact Decidable.not_and_iff_or_not.mp hx
  rw [findHandler.go]
  simp only [h2]
  rfl
/-- the handlers, one after another -/
theorem am_finds {g : JFrame} (X : Stand p l e R s g.method args below meth c T locs cells slots) {a : Addr} {cell : Cell} {own : String} {nm : Nat → String} {kN : Nat → ClassId} {cx r : Nat} (hown : s.vm.findClass own = some g.method.cls) (hcell : T.heap[a]? = some cell) (hobj : ∀ z, cell.vm ≠ .statics z) (hcc : ∃ z, s.vm.classes[cell.cls]? = some z) :
    ∀ (hs : List ((Nat × Nat × Nat × Nat) × Nat)) (xs : List ExceptionTableEntry) (vm1 : Vm), s.WarmedH vm1 → xs.map am_he = hs.map Prod.fst →
      (∀ h ∈ hs, h.1.2.2.2 ≠ 0 ∧ (Cond.classLink own h.1.2.2.2 (nm h.2)).before args s = true ∧ s.vm.findClass (nm h.2) = some (kN h.2) ∧ s.vm.assignable cell.cls (kN h.2) = decide (cx = h.2)) → am_hw cx g.pc hs = some r →
      ∃ vm', s.WarmedH vm' ∧ ∀ (Q : Handler → Pre) (E : CtlPost) (d : Bool) (acts : List Action), wp (findHandler.go g a xs) Q E e d acts (((T.setTop g).pushFrame (.throwing a)).setVm vm1) ↔ Q (.found r) d acts (((T.setTop g).pushFrame (.throwing a)).setVm vm')
  | [], xs, vm1, hW, hm, hf, h => by cases h
  | y :: hs, [], vm1, hW, hm, hf, h => by cases hm
  | y :: hs, x :: xs, vm1, hW, hm, hf, h => by
    rw [List.map_cons, List.map_cons] at hm
    have hx : am_he x = y.1 := (List.cons.inj hm).1
    have hm' := (List.cons.inj hm).2
    have e1 : x.startPc = y.1.1 := congrArg Prod.fst hx
    have e2 : x.endPc = y.1.2.1 := congrArg (fun z => z.2.1) hx
    have e3 : x.handlerPc = y.1.2.2.1 := congrArg (fun z => z.2.2.1) hx
    have e4 : x.catchType = y.1.2.2.2 := congrArg (fun z => z.2.2.2) hx
    obtain ⟨h0, hl, hN, hasg⟩ := hf y List.mem_cons_self
    unfold am_hw at h
    by_cases hc : y.1.1 ≤ g.pc ∧ g.pc < y.1.2.1
    · rw [if_pos hc] at h
      rw [← e4] at h0 hl
      obtain ⟨k1, k2, k3⟩ := am_ent_link X hown hl hN hW
      obtain ⟨z, hz⟩ := hcc
      obtain ⟨z', hz', -⟩ := hW.alike.2.2 _ _ hz
      have hcv : covers x g.pc = true := by
        show (decide (x.startPc ≤ g.pc) && decide (g.pc < x.endPc)) = true
        rw [e1, e2, Bool.and_eq_true, decide_eq_true_eq, decide_eq_true_eq]
        exact hc
      have hs := fun (Q : Handler → Pre) (E : CtlPost) (d : Bool) (acts : List Action) => am_seek (Q := Q) (E := E) (e := e) (d := d) (acts := acts) (s := ((T.setTop g).pushFrame (.throwing a)).setVm vm1) (f := g) (t := xs) (k := kN y.2) (cell := cell) hcv h0 k1 hcell hobj ⟨z', hz'⟩ k3
      have hasg1 : (((T.setTop g).pushFrame (.throwing a)).setVm vm1).vm.assignable cell.cls (kN y.2) = decide (cx = y.2) := (hW.alike.assignable _ _).trans hasg
      by_cases hcx : cx = y.2
      · rw [if_pos hcx] at h
        obtain rfl := Option.some.inj h
        refine ⟨_, k2, fun Q E d acts => ?_⟩
        rw [hs, if_pos (by rw [hasg1]; exact decide_eq_true hcx), ← e3]
        exact Iff.rfl
      · rw [if_neg hcx] at h
        obtain ⟨vm', q1, q2⟩ := am_finds X hown hcell hobj ⟨z, hz⟩ _ xs _ k2 hm' (fun h hh => hf h (List.mem_cons_of_mem _ hh)) h
        refine ⟨vm', q1, fun Q E d acts => ?_⟩
        rw [hs, if_neg (by rw [hasg1]; exact fun hh => hcx (of_decide_eq_true hh))]
        exact q2 Q E d acts
    · rw [if_neg hc] at h
      obtain ⟨vm', q1, q2⟩ := am_finds X hown hcell hobj hcc hs xs vm1 hW hm' (fun h hh => hf h (List.mem_cons_of_mem _ hh)) h
      refine ⟨vm', q1, fun Q E d acts => ?_⟩
      rw [am_skip (by rw [e1, e2]; exact hc)]
      exact q2 Q E d acts
end AMY
section AMZ
variable {p : Program} {l : Launch} {e : Env} {R : Room} {s : State} {m : MethodId} {args : Array Value} {below : List Frame} {meth : Method} {c : Code} {Q : State → Prop}
variable {cc : ByteArray} {D : va_G} {cl : List vw_C} {b0 nL c0 s0 : Nat} {pc top sl : Nat} {lv : am_V} {st rest : List Value} {σ : am_H}
theorem am_w_catch {mc ms n index : Nat} {res : am_R} {a b cx hp : Nat} {fs As : List Value} {own C : String} {y : MethodName} {bytes : ByteArray} {maxL : Nat} {ret : Option FieldType} {ws : List Cond} {rm : Room} {Pc : Array Value → State → Prop} {nm : Nat → String} {hs : List ((Nat × Nat × Nat × Nat) × Nat)}
    (hx : p.tables.exec = Jvm.exec) (hb : c.code = cc) (hml : c.maxLocals = nL) (hown : s.vm.findClass own = some m.cls) (htab : c.exceptionTable.toList.map am_he = hs.map Prod.fst) (hres : res.1 = .inr a) (htop : res.2.2.1 = top + mc) (hsl : res.2.2.2 = sl + ms) (hnm : ∀ k r, cl[k]? = some r → r.1 = nm k)
    (hM : am_MT l y ws rm Pc (am_QcT D cl b0 res) mc ms (fun q => b0 ≤ q)) (cw : CallW R s args own C index y bytes maxL ret ws rm mc ms n)
    (hpre : ∀ (ls : Array Slot) (H : Heap) (locs : List Loc) (cells slots : Nat), am_inv D cl b0 s nL c0 s0 lv σ top sl ls H locs cells slots → PreV s H C b Pc As ∧ cells + mc ≤ R.cells ∧ slots + ms ≤ R.slots) (hn : As.length = n) (hst : st = As.reverse ++ .ref b :: rest) (hsum : (rest.map fun w => w.category).sum ≤ 8) (hdg : decode cc pc = .ok (.invokevirtual index, 3))
    (hcell : res.2.1 a = some (.inr (.inl (cx, fs))))
    (hf : ∀ h ∈ hs, h.1.2.2.2 ≠ 0 ∧ (Cond.classLink own h.1.2.2.2 (nm h.2)).before args s = true ∧ (∃ r, cl[h.2]? = some r) ∧ ∀ r, cl[cx]? = some r → ∀ i j, s.vm.findClass (nm cx) = some i → s.vm.findClass (nm h.2) = some j → s.vm.assignable i j = decide (cx = h.2)) (hhw : am_hw cx pc hs = some hp)
    (k : am_W p l e R s m args below meth c Q D cl b0 nL c0 s0 hp lv ([.ref a]) (res.2.1) (res.2.2.1) (res.2.2.2)) : am_W p l e R s m args below meth c Q D cl b0 nL c0 s0 pc lv st σ top sl := by
  intro ls H locs cells slots h T hT X
  obtain ⟨hpv, hfc, hfs⟩ := hpre ls H locs cells slots h
  obtain ⟨x, st₀, t, T', L, h0, X', hL, e1, e2, ⟨⟨a', ha', hx'⟩, hdy, hz, hk⟩, stp⟩ := am_threw X hx hown hM cw hT hpv (rest := rest) (g := F0 m pc ls st) rfl hn (by rw [hml]; exact h.1.1.1) hst (by show 2 * 0 + _ ≤ 8; omega) (by rw [hb]; exact hdg) ⟨hfc, hfs⟩
  rw [hres] at ha'
  cases ha'
  cases hx'
  have hal : s.vm.Alike t.vm := by rw [← e2]; exact X'.warmed.alike
  have hdy2 := hdy
  obtain ⟨hsz, hbt, tys, hK, hcl⟩ := hdy2
  obtain ⟨-, -, r1, hr9, -, cell, q1, q2, q3, -⟩ := hcl a _ hcell
  have hKs := va_K.moved hal.symm hK
  have hfcx : s.vm.findClass (nm cx) = some (D.1 cx) := by
    have := (hKs.1 _ r1 hr9).2.1
    rw [hnm _ r1 hr9] at this
    exact this
  obtain ⟨zc, hzc⟩ : ∃ z, s.vm.classes[cell.cls]? = some z := by
    rw [q2]
    exact Vm.classAt_of_findClass hfcx
  obtain ⟨vm', hW', hfind⟩ := am_finds (g := F0 m pc ls rest) X' (a := a) (cell := cell) (nm := nm) (kN := D.1) (cx := cx) hown (by rw [e1]; exact q1) (fun z hh => by rw [q3] at hh; cases hh) ⟨zc, hzc⟩ hs c.exceptionTable.toList T'.vm X'.warmed htab
    (fun y hy => by
      obtain ⟨f1, f2, ⟨r2, f3⟩, f4⟩ := hf y hy
      have hfy : s.vm.findClass (nm y.2) = some (D.1 y.2) := by
        have := (hKs.1 _ r2 f3).2.1
        rw [hnm _ r2 f3] at this
        exact this
      exact ⟨f1, f2, hfy, by rw [q2]; exact f4 r1 hr9 _ _ hfcx hfy⟩) hhw
  have hS := h.2.2.1
  obtain ⟨hc, hs⟩ := h.2.2.2
  rw [h0] at hz hk
  obtain ⟨t2, a1, b1⟩ := k ls T'.heap (locs ++ L) (cells + mc) (slots + ms) ⟨h.1, by rw [e1]; exact hdy.moved hal.symm, ⟨Nat.le_trans hS.1 (by rw [e1]; exact hz), fun q h1 h2 => by
      rw [e1, hk q (Nat.lt_of_lt_of_le h1 hS.1) h2]
      exact hS.2.1 q h1 h2, fun q hq => by
      rcases List.mem_append.mp hq with z | z
      · exact hS.2.2 q z
      · exact hL q z⟩, by omega, by omega⟩ (T'.setVm vm') rfl (X'.noted hW')
  refine ⟨t2, stp t2 (am_caught (c := c) (g := F0 m pc ls rest) (vm' := vm') X'.here (fun Q E d acts => ?_) a1), b1⟩
  rw [W.findHandler_eq (s := (T'.setTop (F0 m pc ls rest)).pushFrame (.throwing a)) (f := F0 m pc ls rest) X'.method' X'.code]
  exact hfind Q E d acts
/-- a call of a method that has handlers of its own -/
theorem am_runSW {y : MethodName} {bytes : ByteArray} {maxL mc ms n index : Nat} {ret : Option FieldType} {hh : List (Nat × Nat × Nat × Nat)} {ws : List Cond} {rm : Room} {Pc : Array Value → State → Prop} {Qc : Array Value → State → Outcome → State → Prop} {free : Addr → Prop} {own : String} {As : List Value} {g : JFrame} {H : Heap} {locs : List Loc} {cells slots : Nat}
    (hx : p.tables.exec = Jvm.exec) (hb : c.code = cc) (hml : c.maxLocals = nL) (hown : s.vm.findClass own = some m.cls) (hM : Met l y ws rm Pc Qc mc ms free) (hrc : rm.cells = mc) (hrs : rm.slots = ms) (hfr : rm.frames + 1 ≤ R.frames) (hlo : 8 + (maxL + 11) + rm.locals ≤ R.locals)
    (hws : ∀ w ∈ ws, ∀ (a' : Array Value) (U : State), s.WarmedH U.vm → w.before a' U = true) (hcw : Cond.codeWith y bytes maxL ret hh ∈ ws) (hini : (Cond.initialized y.cls).before args s = true) (hy : y.cls ≠ "java/lang/invoke/MethodHandle" ∧ y.cls ≠ "java/lang/invoke/VarHandle") (hlen : ∀ sig, parseMethodDescriptor y.desc = some sig → n = sig.parameters.length)
    (hl : (Cond.methodLink own index y).before args s = true) (hstt : (Cond.static y).before args s = true) (hp : PreS s H Pc As)
    (hg : g.method = m) (hn : As.length = n) (hsize : g.locals.size = nL) (hstack : g.stack = As.reverse ++ rest) (hW : 2 * g.monitorRoom + (rest.map fun v => v.category).sum ≤ 8) (hdg : decode cc g.pc = .ok (.invokestatic index, 3)) (hf : cells + mc ≤ R.cells ∧ slots + ms ≤ R.slots) :
    va_Run p l e R s m args below meth c H locs cells slots mc ms g rest (Qc As.toArray) free := by
  have hK : Back l R p e below s args y 3 8 (PreOf R mc ms Pc) (PostOf Qc mc ms free) := va_backW hM hp.1 hrc hrs hfr hlo hws hcw (fun a' U hU => word_at hU (Or.inl (by first | rfl | simp [Cond.onTables, Cond.keeps, Cond.steady])) hini)
  intro T hT X
  obtain ⟨mk, methM, cM, hnamed, hmethM, -, -, -, -, -, -, hsigM⟩ := Cond.codeWith_spec (hws _ hcw args s (State.WarmedH.refl s))
  have hstatic : methM.isStatic = true := Cond.static_spec hnamed hmethM hstt
  obtain ⟨kP, hkP, -⟩ := className_of_methodNamed hnamed
  have hinitP : kP.init = .initialized := Cond.initialized_spec (findClass_of_methodNamed hnamed) hkP hini
  obtain ⟨vm₁, X₁, hstep₁⟩ := X.invokestatic hx hown hl hnamed hmethM hstatic hkP hinitP hy (g := g) hg (argsL := As) (rest := rest) (hn.trans (hlen _ hsigM)) hstack (by rw [hb]; exact hdg)
  obtain ⟨v, ⟨U', l2, c2, s2⟩, X', ⟨g', mk', t, L, e1, e2, hq, h1, hL, h2, h3⟩, hsteps⟩ := hK m meth c ⟨T.setVm vm₁, locs, cells, slots⟩ { g with stack := rest } (.invokestatic index) mk As.toArray X₁ hg (hsize.trans hml.symm) (by rw [hb]; exact hdg) hW (X₁.named hnamed) ⟨hf.1, hf.2, hp.2 (T.setVm vm₁) hT X₁.warmed⟩
  dsimp only [Pt.U, Pt.locs, Pt.cells, Pt.slots] at X' e1 e2 h1 h2 h3 hsteps
  subst h1; subst h2; subst h3
  exact ⟨v, (T.setVm vm₁).calling g' mk' As.toArray, t, U', L, hT, X', hL, e1, e2, hq, fun target h => hstep₁ _ fun acts => by rw [doInvoke_state]; exact hsteps.trans h⟩
end AMZ
end
section
/-- a call, told by its instruction -/
theorem am_call_inv {mc : Nat → Nat} {d : Nat} {st : List Value} {σ : am_H} {i : Instr} {u v : Nat} {as rest : List Value} (h : am_call mc d st σ i u v = some (as, rest)) :
    ¬ d = 0 ∧ st = as.reverse ++ rest ∧ ((∃ idx, i = .invokestatic idx ∧ as.length = v) ∨ (∃ idx b as', i = .invokespecial idx ∧ as = .ref b :: as' ∧ as'.length = v) ∨
      (∃ idx b as', i = .invokevirtual idx ∧ as = .ref b :: as' ∧ as'.length = v ∧ ((∃ fs, σ b = some (.inr (.inl (mc u, fs)))) ∨ ((∃ av f, σ b = some (.inr (.inr (1, av, f)))) ∧ mc u = 50)))) := by
  have hlen : ∀ (b : Nat) (r : List Value), st.drop v = .ref b :: r → st = (.ref b :: (st.take v).reverse).reverse ++ r ∧ ((st.take v).reverse).length = v := by
    intro b r hd
    constructor
    · rw [List.reverse_cons, List.reverse_reverse, List.append_assoc]
      show st = st.take v ++ (.ref b :: r)
      rw [← hd, List.take_append_drop]
    · rw [List.length_reverse, List.length_take]
      have : v < st.length := by
        have h2 : (st.drop v).length = r.length + 1 := by rw [hd]; rfl
        rw [List.length_drop] at h2
        omega
      omega
  cases i with
  | invokestatic idx =>
    dsimp only [am_call] at h
    split at h
    · cases h
    · next hd =>
      cases h
      refine ⟨fun z => hd (Or.inl z), by rw [List.reverse_reverse, List.take_append_drop], Or.inl ⟨idx, rfl, ?_⟩⟩
      rw [List.length_reverse, List.length_take]
      have : ¬ st.length < v := fun z => hd (Or.inr z)
      omega
  | invokespecial idx =>
    dsimp only [am_call] at h
    split at h
    · cases h
    · next hd =>
      split at h
      · next b r hdr =>
        cases h
        exact ⟨hd, (hlen _ _ hdr).1, Or.inr (Or.inl ⟨idx, b, _, rfl, rfl, (hlen _ _ hdr).2⟩)⟩
      · cases h
  | invokevirtual idx =>
    dsimp only [am_call] at h
    split at h
    · cases h
    · next hd =>
      split at h
      · next b r hdr =>
        split at h
        · next c1 fs hb =>
          split at h
          · next hc =>
            cases h
            subst hc
            exact ⟨hd, (hlen _ _ hdr).1, Or.inr (Or.inr ⟨idx, b, _, rfl, rfl, (hlen _ _ hdr).2, Or.inl ⟨fs, hb⟩⟩)⟩
          · cases h
        · next av f1 hb =>
          split at h
          · next hc =>
            cases h
            exact ⟨hd, (hlen _ _ hdr).1, Or.inr (Or.inr ⟨idx, b, _, rfl, rfl, (hlen _ _ hdr).2, Or.inr ⟨⟨av, f1, hb⟩, hc⟩⟩)⟩
          · cases h
        · cases h
      · cases h
  | _ => exact absurd (show (none : Option (List Value × List Value)) = some (as, rest) from h) (fun z => by cases z)
/-- what an end's instruction answers -/
def am_ro (i : Instr) (ro : Option FieldType) : Prop := match i with
  | .ireturn => ro ≠ none
  | .areturn => ro ≠ none
  | .return_ => ro = none
  | _ => True
/-- what a walk of method y needs of its frame -/
def am_cx (t : am_T) (yn : Nat → MethodName) (bt : Nat → ByteArray) (ws : Nat → List Cond) (GL : State → Prop) (p : Program) (R : Room) (s : State) (m : MethodId) (args : Array Value) (meth : Method) (c : Code) (y d : Nat) (res : am_R) (c0 s0 : Nat) : Prop :=
  p.tables.exec = Jvm.exec ∧ c.code = bt y ∧ c.maxLocals = t.2.1 y ∧ s.vm.findClass (yn y).cls = some m.cls ∧ (∀ w ∈ ws y, w.before args s = true) ∧ GL s ∧ meth.name = (yn y).name ∧ d ≤ R.frames ∧ 64 * d ≤ R.locals ∧ res.2.2.1 ≤ R.cells + c0 ∧ res.2.2.2 ≤ R.slots + s0 ∧ c.exceptionTable.toList.map am_he = (am_hs t y).map Prod.fst ∧ meth.locks = false
/-- a run of n steps that ends is the machine's -/
def am_Wp (t : am_T) (cs : Nat → Value) (D : va_G) (cl : List vw_C) (b0 : Nat) (yn : Nat → MethodName) (bt : Nat → ByteArray) (ws : Nat → List Cond) (GL : State → Prop) (l : Launch) (n : Nat) : Prop :=
  ∀ (d y pc : Nat) (lv : am_V) (st : List Value) (σ : am_H) (top sl : Nat) (res : am_R), am_run t cs n d y pc lv st σ top sl = some res → ∀ (p : Program) (e : Env) (R : Room) (s : State) (m : MethodId) (args : Array Value) (below : List Frame) (meth : Method) (c : Code) (Q : State → Prop) (c0 s0 : Nat), am_cx t yn bt ws GL p R s m args meth c y d res c0 s0 →
    (∀ (pc' : Nat) (lv' : am_V) (st' : List Value) (i : Instr) (u v : Nat), t.1 y pc' = some (i, u, v) → am_end (t.2.2.1 y) st' i = some res.1 → am_W p l e R s m args below meth c Q D cl b0 (t.2.1 y) c0 s0 pc' lv' st' res.2.1 res.2.2.1 res.2.2.2) →
    (∀ (pc' : Nat) (lv' : am_V) (st' : List Value) (σ' : am_H) (top' sl' : Nat) (i : Instr) (u v : Nat), t.1 y pc' = some (i, u, v) → am_kind i u = 3 → 6 ≤ d → (st'.map fun w => w.category).sum ≤ 8 → res = (.inr top', am_up σ' top' (.inr (.inl (u, []))), top' + 1, sl' + t.2.2.2.2.2.1 u) → am_W p l e R s m args below meth c Q D cl b0 (t.2.1 y) c0 s0 pc' lv' st' σ' top' sl') →
    am_W p l e R s m args below meth c Q D cl b0 (t.2.1 y) c0 s0 pc lv st σ top sl
/-- the word on a method's code -/
def am_hc (t : am_T) (yn : Nat → MethodName) (bt : Nat → ByteArray) (rtt : Nat → Option FieldType) (y : Nat) : Cond := match am_hs t y with
  | [] => .code (yn y) (bt y) (t.2.1 y) (rtt y)
  | h :: r => .codeWith (yn y) (bt y) (t.2.1 y) (rtt y) ((h :: r).map Prod.fst)
/-- what is known of the tables -/
def am_good (t : am_T) (cs : Nat → Value) (cl : List vw_C) (b0 : Nat) (yn : Nat → MethodName) (bt : Nat → ByteArray) (rtt : Nat → Option FieldType) (ws : Nat → List Cond) (GL : State → Prop) : Prop :=
  (∀ k r, cl[k]? = some r → r.1 = t.2.2.2.2.2.2.1 k) ∧ am_mv b0 GL ∧
  (∀ y pc x, t.1 y pc = some x → y < 1000 ∧ (y ≠ 0 → ∃ ws', ws y = am_hc t yn bt rtt y :: ws') ∧ plainName (yn y).cls = true ∧ (∀ ty, rtt y = some ty → t.2.2.1 y = ty)) ∧
  (∀ y pc i u v, t.1 y pc = some (i, u, v) → ∀ (s : State) (args : Array Value) (meth : Method), GL s → (∀ w ∈ ws y, w.before args s = true) → meth.name = (yn y).name →
    am_dec (bt y) pc i ∧ am_fact cs t.2.2.2.1 t.2.2.2.2.1 t.2.2.2.2.2.1 t.2.2.2.2.2.2.1 cl b0 s args meth (yn y).cls pc i u v ∧ am_cf t yn rtt ws s args y i u v ∧ am_ro i (rtt y)) ∧
  (∀ y pc i u v, t.1 y pc = some (i, u, v) → am_kind i u = 1 → u ≠ 0) ∧
  (∀ y pc i u v, t.1 y pc = some (i, u, v) → am_kind i u = 3 → ∃ idx T0, i = .new idx ∧ am_hs t y = [] ∧ t.2.2.2.2.2.1 u = 6 ∧ cl[u]? = some (t.2.2.2.2.2.2.1 u, T0, 0) ∧ ∀ (s : State) (args : Array Value), GL s → am_tf s args (bt y) (yn y).cls (t.2.2.2.2.2.2.1 u) pc idx v) ∧
  (∀ y h, h ∈ am_hs t y → h.1.2.2.2 ≠ 0 ∧ (∃ r, cl[h.2]? = some r) ∧ ∀ (s : State) (args : Array Value), GL s → (Cond.classLink (yn y).cls h.1.2.2.2 (t.2.2.2.2.2.2.1 h.2)).before args s = true ∧ ∀ (c : Nat) (r : vw_C), 12 ≤ c → cl[c]? = some r → ∀ i j, s.vm.findClass (t.2.2.2.2.2.2.1 c) = some i → s.vm.findClass (t.2.2.2.2.2.2.1 h.2) = some j → s.vm.assignable i j = decide (c = h.2))
/-- the library's members do what am_bi says -/
def am_bok (t : am_T) (cs : Nat → Value) (D : va_G) (cl : List vw_C) (b0 : Nat) (yn : Nat → MethodName) (bt : Nat → ByteArray) (ws : Nat → List Cond) (GL : State → Prop) (l : Launch) : Prop :=
  ∀ (d y pc : Nat) (lv : am_V) (σ σ1 : am_H) (top sl : Nat) (res : am_R) (i : Instr) (u v : Nat) (as rest : List Value) (r : Option Value), t.1 y pc = some (i, u, v) → 1000 < u → ¬ d = 0 → am_call t.2.2.2.2.2.2.2.1 d (as.reverse ++ rest) σ i u v = some (as, rest) → am_bi u as σ = some (r, σ1) → (rest.map fun w => w.category).sum ≤ 8 →
    ∀ (p : Program) (e : Env) (R : Room) (s : State) (m : MethodId) (args : Array Value) (below : List Frame) (meth : Method) (c : Code) (Q : State → Prop) (c0 s0 : Nat), am_cx t yn bt ws GL p R s m args meth c y d res c0 s0 → top ≤ res.2.2.1 → sl ≤ res.2.2.2 →
    am_W p l e R s m args below meth c Q D cl b0 (t.2.1 y) c0 s0 (pc + 3) lv (r.toList ++ rest) σ1 top sl → am_W p l e R s m args below meth c Q D cl b0 (t.2.1 y) c0 s0 pc lv (as.reverse ++ rest) σ top sl
section AMM
variable {t : am_T} {cs : Nat → Value} {D : va_G} {cl : List vw_C} {b0 : Nat} {yn : Nat → MethodName} {bt : Nat → ByteArray} {rtt : Nat → Option FieldType} {ws : Nat → List Cond} {GL : State → Prop} {l : Launch}
theorem am_w_ends {p : Program} {e : Env} {R : Room} {s : State} {m : MethodId} {args : Array Value} {below : List Frame} {meth : Method} {c : Code} {cc : ByteArray} {nL c0 s0 pc : Nat} {lv : am_V} {st : List Value} {res : am_R} {i : Instr} {ro : Option FieldType} {rt : FieldType} {vr : Option Value}
    (hx : p.tables.exec = Jvm.exec) (hb : c.code = cc) (hr : meth.sig.returnType = ro) (hrt : ∀ ty, ro = some ty → rt = ty) (hro : am_ro i ro) (hlocks : meth.locks = false) (hd : am_dec cc pc i) (he : am_end rt st i = some res.1) (hv : res.1 = .inl vr) :
    am_W p l e R s m args below meth c (MQ below (am_Qc D cl b0 res) args s (res.2.2.1 - c0) (res.2.2.2 - s0) (fun q => b0 ≤ q)) D cl b0 nL c0 s0 pc lv st res.2.1 res.2.2.1 res.2.2.2 := by
  intro ls H locs cells slots h
  obtain ⟨hc, hs⟩ := h.2.2.2
  have e1 : cells = res.2.2.1 - c0 := by omega
  have e2 : slots = res.2.2.2 - s0 := by omega
  rw [← e1, ← e2]
  have hq : ∀ t : State, t.heap = H → s.WarmedH t.vm → am_Qc D cl b0 res args s (.returned vr) t := fun t ht hW => ⟨⟨vr, hv, rfl⟩, by rw [ht]; exact h.2.1.moved hW.alike, h.2.2.1.F ht⟩
  rw [hv] at he
  cases i with
  | ireturn =>
    dsimp only [am_end] at he
    split at he
    · next x =>
      split at he
      · next hf =>
        cases he
        cases ro with
        | none => exact absurd rfl hro
        | some ty =>
          obtain rfl := hrt ty rfl
          exact W.zret hx hb hr (am_fr_ok hf) hq h.2.2.1.2.2 (am_dec1 hd rfl)
      · cases he
    · cases he
  | areturn =>
    dsimp only [am_end] at he
    have hrf : ∀ v : Value, (v = .null ∨ ∃ a, v = .ref a) → am_fr rt v = true → ((∃ n, rt = .object n) ∨ ∃ t, rt = .array t) := by
      intro v hv2 hf
      rcases hv2 with rfl | ⟨a, rfl⟩ <;> cases rt <;> first | exact Or.inl ⟨_, rfl⟩ | exact Or.inr ⟨_, rfl⟩ | cases hf
    split at he
    · next a =>
      split at he
      · next hf =>
        cases he
        cases ro with
        | none => exact absurd rfl hro
        | some ty =>
          obtain rfl := hrt ty rfl
          exact W.aret hx hb hr (hrf _ (Or.inr ⟨a, rfl⟩) hf) (Or.inr ⟨a, rfl⟩) hq h.2.2.1.2.2 (am_dec1 hd rfl)
      · cases he
    · split at he
      · next hf =>
        cases he
        cases ro with
        | none => exact absurd rfl hro
        | some ty =>
          obtain rfl := hrt ty rfl
          exact W.aret hx hb hr (hrf _ (Or.inl rfl) hf) (Or.inl rfl) hq h.2.2.1.2.2 (am_dec1 hd rfl)
      · cases he
    · cases he
  | return_ =>
    dsimp only [am_end] at he
    split at he
    · cases he
      exact W.vret hx hb (hr.trans hro) hq h.2.2.1.2.2 (am_dec1 hd rfl)
    · cases he
  | _ => exact absurd (show (none : Option (Option Value ⊕ Nat)) = some (.inl vr) from he) (fun z => by cases z)
theorem am_end_inl {rt : FieldType} {st : List Value} {i : Instr} {r : Option Value ⊕ Nat} (h : am_end rt st i = some r) : ∃ v, r = .inl v := by
  unfold am_end at h
  split at h
  · split at h
    · split at h
      · cases h; exact ⟨_, rfl⟩
      · cases h
    · cases h
  · split at h
    · split at h
      · cases h; exact ⟨_, rfl⟩
      · cases h
    · split at h
      · cases h; exact ⟨_, rfl⟩
      · cases h
    · cases h
  · split at h
    · cases h; exact ⟨_, rfl⟩
    · cases h
  · cases h
end AMM
end
section
section AMN
variable {t : am_T} {cs : Nat → Value} {D : va_G} {cl : List vw_C} {b0 : Nat} {yn : Nat → MethodName} {bt : Nat → ByteArray} {rtt : Nat → Option FieldType} {ws : Nat → List Cond} {GL : State → Prop} {l : Launch}
theorem am_run_has {n d y pc : Nat} {lv : am_V} {st : List Value} {σ : am_H} {top sl : Nat} {res : am_R} (h : am_run t cs n d y pc lv st σ top sl = some res) : ∃ x, t.1 y pc = some x := by
  cases n with
  | zero => exact absurd (show (none : Option am_R) = some res from h) (fun z => by cases z)
  | succ n =>
    unfold am_run at h
    split at h
    · cases h
    · next hI => exact ⟨_, hI⟩
/-- a run from a method's start, in its frame -/
theorem am_body (hG : am_good t cs cl b0 yn bt rtt ws GL) {n : Nat} (hW : am_Wp t cs D cl b0 yn bt ws GL l n) {d y : Nat} (hy0 : y ≠ 0) {as : List Value} {σ : am_H} {top sl : Nat} {res : am_R} (h : am_run t cs n d y 0 (am_ent (t.2.1 y) as) [] σ top sl = some res) (has : as.length ≤ t.2.1 y) (hc1 : as.all am_c1 = true)
    {p : Program} {e : Env} {s : State} {m : MethodId} {args : Array Value} {below : List Frame} {meth : Method} {c : Code} {s₁ : State} (B : BodyLoose p l (yn y) (headSpec (ws y) { frames := d, cells := res.2.2.1 - top, slots := res.2.2.2 - sl, locals := 64 * d }) (bt y) (t.2.1 y) (rtt y) e s m args below meth c s₁) (hml : c.maxLocals = t.2.1 y) (hP : am_Pc D cl b0 GL as σ top args s) {Q : State → Prop}
    (hend : ∀ (pc' : Nat) (lv' : am_V) (st' : List Value) (i : Instr) (u v : Nat), t.1 y pc' = some (i, u, v) → am_end (t.2.2.1 y) st' i = some res.1 → am_cx t yn bt ws GL p { frames := d, cells := res.2.2.1 - top, slots := res.2.2.2 - sl, locals := 64 * d } s m args meth c y d res top sl → am_W p l e { frames := d, cells := res.2.2.1 - top, slots := res.2.2.2 - sl, locals := 64 * d } s m args below meth c Q D cl b0 (t.2.1 y) top sl pc' lv' st' res.2.1 res.2.2.1 res.2.2.2)
    (hthr : ∀ (pc' : Nat) (lv' : am_V) (st' : List Value) (σ' : am_H) (top' sl' : Nat) (i : Instr) (u v : Nat), t.1 y pc' = some (i, u, v) → am_kind i u = 3 → 6 ≤ d → (st'.map fun w => w.category).sum ≤ 8 → res = (.inr top', am_up σ' top' (.inr (.inl (u, []))), top' + 1, sl' + t.2.2.2.2.2.1 u) → am_cx t yn bt ws GL p { frames := d, cells := res.2.2.1 - top, slots := res.2.2.2 - sl, locals := 64 * d } s m args meth c y d res top sl → am_W p l e { frames := d, cells := res.2.2.1 - top, slots := res.2.2.2 - sl, locals := 64 * d } s m args below meth c Q D cl b0 (t.2.1 y) top sl pc' lv' st' σ' top' sl') :
    W p l e (headSpec (ws y) { frames := d, cells := res.2.2.1 - top, slots := res.2.2.2 - sl, locals := 64 * d }).room s m args below meth c s.heap [] 0 0 Q (entryFrame m args (t.2.1 y)) := by
  obtain ⟨x, hx0⟩ := am_run_has h
  obtain ⟨hlt, hws, hpl, hrt⟩ := hG.2.2.1 y 0 x hx0
  obtain ⟨ws', hws⟩ := hws hy0
  have hm := am_run_mono _ _ _ _ _ _ _ _ _ _ h
  obtain ⟨rfl, hdy, hgl⟩ := hP
  have hts := atoms_spec (ws := ws y) B.pre
  have hl := lv_entry as (n := t.2.1 y) (by rw [am_sl_len as hc1]; exact has)
  have hmn : meth.name = (yn y).name := (name_of_methodNamed B.named B.method).1
  have hmc : meth.code = some c := (Stand.of_body B).code
  have htab : c.exceptionTable.toList.map am_he = (am_hs t y).map Prod.fst := by
    have h0 : (am_hc t yn bt rtt y).before as.toArray s = true := hts _ (by rw [hws]; exact List.mem_cons_self)
    unfold am_hc at h0
    cases he : am_hs t y with
    | nil =>
      rw [he] at h0
      obtain ⟨meth', c', h1, h2, -, -, -, -, h7, -⟩ := Cond.code_spec B.named h0
      cases h1.symm.trans B.method
      cases h2.symm.trans hmc
      have := Array.isEmpty_iff.mp h7
      rw [this]
      rfl
    | cons a r =>
      rw [he] at h0
      obtain ⟨m', meth', c', hn', h1, h2, -, -, h5, -⟩ := Cond.codeWith_spec h0
      cases hn'.symm.trans B.named
      cases h1.symm.trans B.method
      cases h2.symm.trans hmc
      exact h5
  have hcx : am_cx t yn bt ws GL p { frames := d, cells := res.2.2.1 - top, slots := res.2.2.2 - sl, locals := 64 * d } s m as.toArray meth c y d res top sl := ⟨B.exec, B.bytes, hml, findClass_of_methodNamed B.named, hts, hgl, hmn, Nat.le_refl d, Nat.le_refl (64 * d), by show res.2.2.1 ≤ (res.2.2.1 - top) + top; omega, by show res.2.2.2 ≤ (res.2.2.2 - sl) + sl; omega, htab, B.notSynchronized⟩
  rw [lg_entry_eq]
  exact hW d y 0 _ [] σ top sl res h p e _ s m as.toArray below meth c _ top sl hcx (fun pc' lv' st' i u v a1 a2 => hend pc' lv' st' i u v a1 a2 hcx) (fun pc' lv' st' σ' top' sl' i u v a1 a2 a3 a4 a5 => hthr pc' lv' st' σ' top' sl' i u v a1 a2 a3 a4 a5 hcx) _ s.heap [] 0 0 ⟨am_ent_ls has hc1 hl, hdy, va_S.rf, Nat.zero_add _, Nat.zero_add _⟩
/-- a run from a method's start is its contract -/
theorem am_met (hG : am_good t cs cl b0 yn bt rtt ws GL) {n : Nat} (hW : am_Wp t cs D cl b0 yn bt ws GL l n) {d y : Nat} (hy0 : y ≠ 0) {as : List Value} {σ : am_H} {top sl : Nat} {res : am_R} {vr : Option Value} (h : am_run t cs n d y 0 (am_ent (t.2.1 y) as) [] σ top sl = some res) (hv : res.1 = .inl vr) (has : as.length ≤ t.2.1 y) (hc1 : as.all am_c1 = true) :
    Met l (yn y) (ws y) { frames := d, cells := res.2.2.1 - top, slots := res.2.2.2 - sl, locals := 64 * d } (am_Pc D cl b0 GL as σ top) (am_Qc D cl b0 res) (res.2.2.1 - top) (res.2.2.2 - sl) (fun q => b0 ≤ q) := by
  obtain ⟨x, hx0⟩ := am_run_has h
  obtain ⟨hlt, hws, hpl, hrt⟩ := hG.2.2.1 y 0 x hx0
  obtain ⟨ws', hws⟩ := hws hy0
  have key : ∀ p e s m args below meth c s₁, BodyLoose p l (yn y) (headSpec (ws y) { frames := d, cells := res.2.2.1 - top, slots := res.2.2.2 - sl, locals := 64 * d }) (bt y) (t.2.1 y) (rtt y) e s m args below meth c s₁ → c.maxLocals = t.2.1 y → am_Pc D cl b0 GL as σ top args s →
      W p l e (headSpec (ws y) { frames := d, cells := res.2.2.1 - top, slots := res.2.2.2 - sl, locals := 64 * d }).room s m args below meth c s.heap [] 0 0 (MQ below (am_Qc D cl b0 res) args s (res.2.2.1 - top) (res.2.2.2 - sl) (fun q => b0 ≤ q)) (entryFrame m args (t.2.1 y)) := by
    intro p e s m args below meth c s₁ B hml hP
    refine am_body hG hW hy0 h has hc1 B hml hP ?_ ?_
    · intro pc' lv' st' i u v hI he hcx
      obtain ⟨hx, hb, hml, hown, hts, hgl, hmn, hfr, hlo, hr1, hr2, htab, hlk⟩ := hcx
      obtain ⟨hdec, -, -, hro⟩ := hG.2.2.2.1 y pc' i u v hI s args meth hgl hts hmn
      exact am_w_ends B.exec B.bytes B.returns hrt hro B.notSynchronized hdec he hv
    · intro pc' lv' st' σ' top' sl' i u v hI hk hd hs hres hcx
      rw [hres] at hv
      cases hv
  cases he : am_hs t y with
  | nil =>
    unfold am_hc at hws
    rw [he] at hws
    exact Met.ofW (cc := bt y) (maxL := t.2.1 y) (ret := rtt y) hpl hws key
  | cons a r =>
    unfold am_hc at hws
    rw [he] at hws
    exact va_MetW (cc := bt y) (maxL := t.2.1 y) (ret := rtt y) hpl hws key
/-- a run that ends in an exception -/
theorem am_metT (hG : am_good t cs cl b0 yn bt rtt ws GL) (hfl : l.flags = pinnedFlags ++ [noTraceFlag]) {n : Nat} (hW : am_Wp t cs D cl b0 yn bt ws GL l n) {d y : Nat} (hy0 : y ≠ 0) (hh : am_hs t y = []) {as : List Value} {σ : am_H} {top sl : Nat} {res : am_R} {a : Nat} (h : am_run t cs n d y 0 (am_ent (t.2.1 y) as) [] σ top sl = some res) (hv : res.1 = .inr a) (has : as.length ≤ t.2.1 y) (hc1 : as.all am_c1 = true) :
    am_MT l (yn y) (ws y) { frames := d, cells := res.2.2.1 - top, slots := res.2.2.2 - sl, locals := 64 * d } (am_Pc D cl b0 GL as σ top) (am_QcT D cl b0 res) (res.2.2.1 - top) (res.2.2.2 - sl) (fun q => b0 ≤ q) := by
  obtain ⟨x, hx0⟩ := am_run_has h
  obtain ⟨hlt, hws, hpl, hrt⟩ := hG.2.2.1 y 0 x hx0
  obtain ⟨ws', hws⟩ := hws hy0
  unfold am_hc at hws
  rw [hh] at hws
  refine am_MT_ofW (cc := bt y) (maxL := t.2.1 y) (ret := rtt y) hpl hws ?_
  intro p e s m args below meth c s₁ B hml hP
  refine am_body hG hW hy0 h has hc1 B hml hP ?_ ?_
  · intro pc' lv' st' i u v hI he hcx
    obtain ⟨w, hw⟩ := am_end_inl he
    rw [hv] at hw
    cases hw
  · intro pc' lv' st' σ' top' sl' i u v hI hk hd hs hres hcx
    obtain ⟨hx, hb, hml, hown, hts, hgl, hmn, hfr, hlo, hr1, hr2, htab, hlk⟩ := hcx
    obtain ⟨idx, T0, rfl, -, h6, hcu, htf⟩ := hG.2.2.2.2.2.1 y pc' i u v hI hk
    rw [h6] at hres
    rw [hh] at htab
    refine am_w_throw (GL := GL) (cc := bt y) (own := (yn y).cls) (C := t.2.2.2.2.2.2.1 u) (T0 := T0) (u := u) (idx := idx) (ic := v) hx hb hml hfl hlk ?_ hown hG.2.1 hgl (fun s' hs' => htf s' args hs') hcu (by omega) (by omega) hs ?_ ?_ hres
    · rw [Array.isEmpty_iff]
      have h2 := List.map_eq_nil_iff.mp htab
      exact Array.toList_eq_nil_iff.mp h2
    · have e1 : res.2.2.1 = top' + 1 := by rw [hres]
      rw [← e1]
      exact hr1
    · have e1 : res.2.2.2 = sl' + 6 := by rw [hres]
      rw [← e1]
      exact hr2
set_option maxHeartbeats 4000000 in
theorem am_sound (hG : am_good t cs cl b0 yn bt rtt ws GL) (hB : am_bok t cs D cl b0 yn bt ws GL l) (hfl : l.flags = pinnedFlags ++ [noTraceFlag]) (hG50 : t.2.2.2.2.2.2.1 50 = "java/lang/String") : ∀ n : Nat, am_Wp t cs D cl b0 yn bt ws GL l n
  | 0 => by
    intro d y pc lv st σ top sl res h
    exact absurd (show (none : Option am_R) = some res from h) (fun z => by cases z)
  | n + 1 => by
    have ih := am_sound hG hB hfl hG50 n
    intro d y pc lv st σ top sl res h p e R s m args below meth c Q c0 s0 hcx hend hthr
    have hcx' := hcx
    obtain ⟨hx, hb, hml, hown, hts, hgl, hmn, hfr, hlo, hr1, hr2, htab, hlocks⟩ := hcx'
    unfold am_run at h
    split at h
    · cases h
    · next i u v hI =>
      obtain ⟨hdec, hfact, hcf, hro⟩ := hG.2.2.2.1 y pc i u v hI s args meth hgl hts hmn
      split at h
      · split at h
        · cases h
        · next pc' lv' st' σ' top' sl' hs =>
          have hm := am_run_mono _ _ _ _ _ _ _ _ _ _ h
          exact am_step_W hx hb hml hown hG.1 hfr hlo hdec hfact hs (Nat.le_trans hm.1 hr1) (Nat.le_trans hm.2 hr2) (ih _ _ _ _ _ _ _ _ _ h p e R s m args below meth c Q c0 s0 hcx hend hthr)
      · next hk1 =>
        split at h
        · cases h
        · next as rest hcall =>
          obtain ⟨hd0, hst, hkind⟩ := am_call_inv hcall
          subst hst
          split at h
          · next hsum =>
            split at h
            · next hu =>
              split at h
              · cases h
              · next r σ1 hbi =>
                have hm := am_run_mono _ _ _ _ _ _ _ _ _ _ h
                exact hB d y pc lv σ σ1 top sl res i u v as rest r hI hu hd0 hcall hbi hsum p e R s m args below meth c Q c0 s0 hcx hm.1 hm.2 (ih _ _ _ _ _ _ _ _ _ h p e R s m args below meth c Q c0 s0 hcx hend hthr)
            · next hu =>
              split at h
              · next hlc =>
                split at h
                · cases h
                · next r σ1 top1 sl1 hrun =>
                  have hm := am_run_mono _ _ _ _ _ _ _ _ _ _ h
                  have hm1 := am_run_mono _ _ _ _ _ _ _ _ _ _ hrun
                  dsimp only at hm1
                  obtain ⟨x, hx0⟩ := am_run_has hrun
                  obtain ⟨hlt, hws, -, -⟩ := hG.2.2.1 u 0 x hx0
                  have hu0 : u ≠ 0 := hG.2.2.2.2.1 y pc i u v hI hk1
                  obtain ⟨ws', hws⟩ := hws hu0
                  have hM := am_met hG ih hu0 hrun rfl hlc.1 hlc.2
                  dsimp only at hM
                  have hk := ih _ _ _ _ _ _ _ _ _ h p e R s m args below meth c Q c0 s0 hcx hend hthr
                  refine am_w_run (res := (.inl r, σ1, top1, sl1)) (mc := top1 - top) (ms := sl1 - sl) (ar := as.toArray) rfl (by dsimp only; omega) (by dsimp only; omega) ?_ hk
                  intro ls H locs cells slots hinv
                  obtain ⟨hc, hs⟩ := hinv.2.2.2
                  have hS := hinv.2.2.1
                  have hpre : ∀ U : State, U.heap = H → s.WarmedH U.vm → am_Pc D cl b0 GL as σ top as.toArray U := fun U hU hW =>
                    ⟨rfl, by rw [hU]; exact hinv.2.1.moved hW.alike, hG.2.1 s U hW (by rw [hU]; exact hS.1) (fun q h1 h2 => by rw [hU]; exact hS.2.1 q h1 h2) hgl⟩
                  have hf : cells + (top1 - top) ≤ R.cells ∧ slots + (sl1 - sl) ≤ R.slots := by
                    constructor <;> omega
                  have hfr1 : d - 1 + 1 ≤ R.frames := by omega
                  have hlo1 : 64 * (d - 1 + 1) ≤ R.locals := by omega
                  have hmon : 2 * (F0 m pc ls (as.reverse ++ rest)).monitorRoom + (rest.map fun v => v.category).sum ≤ 8 := by
                    show 2 * 0 + _ ≤ 8
                    omega
                  rcases hkind with ⟨idx, rfl, hal⟩ | ⟨idx, b, as', rfl, rfl, hal⟩ | ⟨idx, b, as', rfl, rfl, hal, hbc⟩
                  · obtain ⟨hcc, hlk, hstc, -, hsw⟩ := hcf hlt
                    rcases List.eq_nil_or_concat (am_hs t u) with hnil | hcons
                    case inr =>
                      have hne : am_hs t u ≠ [] := by
                        obtain ⟨L, b, e⟩ := hcons
                        rw [e]
                        simp
                      obtain ⟨h1, h2, h3, h4, h5⟩ := hcc
                      have hl := hsw.resolve_left hne
                      have hwc : Cond.codeWith (yn u) (bt u) (t.2.1 u) (rtt u) ((am_hs t u).map Prod.fst) ∈ ws u := by
                        rw [hws]
                        unfold am_hc
                        cases he : am_hs t u with
                        | nil => exact absurd he hne
                        | cons a r => exact List.mem_cons_self
                      exact am_runSW (nL := t.2.1 y) (cc := bt y) hx hb hml hown hM rfl rfl hfr1 (by show 8 + (t.2.1 u + 11) + 64 * (d - 1) ≤ _; omega) h1 hwc h2 h3 (fun sig hs => by rw [hs] at h4; exact (Option.some.inj h4).symm) hl hstc ⟨am_blind hG.2.1 as σ top, hpre⟩ rfl hal hinv.1.1.1 rfl hmon (am_dec1 hdec rfl) hf
                    unfold am_hc at hws
                    rw [hnil] at hws
                    rcases hlk with hl | ⟨host, hl⟩
                    · exact va_runS ⟨hx, hb, hml, hown, hts⟩ hM ⟨am_callB hws hcc hfr1 hlo1 hl, hstc⟩ ⟨am_blind hG.2.1 as σ top, hpre⟩ rfl hal hinv.1.1.1 rfl hmon (am_dec1 hdec rfl) hf
                    · exact va_runSN ⟨hx, hb, hml, hown, hts⟩ hM ⟨am_callN hws hcc hfr1 hlo1 hl, hstc, trivial⟩ ⟨am_blind hG.2.1 as σ top, hpre⟩ rfl hal hinv.1.1.1 rfl hmon (am_dec1 hdec rfl) hf
                  · obtain ⟨hcc, hlk, hin, hnm, hrn, hnil, -⟩ := hcf hlt
                    unfold am_hc at hws
                    rw [hnil] at hws
                    rw [List.reverse_cons, List.append_assoc] at hmon ⊢
                    rcases hlk with hl | ⟨host, hl⟩
                    · have hcb := am_callB (mc := top1 - top) (ms := sl1 - sl) hws hcc hfr1 hlo1 hl
                      rw [hrn] at hcb
                      exact va_runI (As := as') ⟨hx, hb, hml, hown, hts⟩ hM ⟨hcb, hnm, hin⟩ ⟨am_blind hG.2.1 _ σ top, hpre⟩ rfl hal hinv.1.1.1 rfl hmon (am_dec1 hdec rfl) hf
                    · have hcb := am_callN (mc := top1 - top) (ms := sl1 - sl) hws hcc hfr1 hlo1 hl
                      rw [hrn] at hcb
                      exact va_runIN (As := as') ⟨hx, hb, hml, hown, hts⟩ hM ⟨hcb, hnm, hin⟩ ⟨am_blind hG.2.1 _ σ top, hpre⟩ rfl hal hinv.1.1.1 rfl hmon (am_dec1 hdec rfl) hf
                  · obtain ⟨hcc, hlk, hin, hsel, hcls, hnil, -⟩ := hcf hlt
                    unfold am_hc at hws
                    rw [hnil] at hws
                    rw [List.reverse_cons, List.append_assoc] at hmon ⊢
                    have hrec : ∃ cellB : Cell, H[b]? = some cellB ∧ cellB.vm.isStatics = false ∧ s.vm.findClass (yn u).cls = some cellB.cls := by
                      rcases hbc with ⟨fs, hb1⟩ | ⟨⟨av, f1, hb1⟩, h50⟩
                      · obtain ⟨hsz, hbt, tys, hK, hcl⟩ := hinv.2.1
                        obtain ⟨-, -, r1, hr9, -, cell, q1, q2, q3, -⟩ := hcl b _ hb1
                        refine ⟨cell, q1, by rw [q3]; rfl, ?_⟩
                        have := (hK.1 _ r1 hr9).2.1
                        rw [hG.1 _ r1 hr9, hcls] at this
                        rw [q2]
                        exact this
                      · obtain ⟨hsz, hbt, tys, hK, hcl⟩ := hinv.2.1
                        obtain ⟨-, -, ⟨cell, q1, q2, q3, -⟩, -⟩ := hcl b _ hb1
                        refine ⟨cell, q1, q2, ?_⟩
                        rw [← hcls, h50, hG50]
                        exact q3
                    rcases hlk with hl | ⟨host, hl⟩
                    · exact va_runV (As := as') ⟨hx, hb, hml, hown, hts⟩ hM ⟨am_callB hws hcc hfr1 hlo1 hl, hin, hsel⟩ ⟨am_blind hG.2.1 _ σ top, hrec, hpre⟩ rfl hal hinv.1.1.1 rfl hmon (am_dec1 hdec rfl) hf
                    · exact va_runVN (As := as') ⟨hx, hb, hml, hown, hts⟩ hM ⟨am_callN hws hcc hfr1 hlo1 hl, hin, hsel⟩ ⟨am_blind hG.2.1 _ σ top, hrec, hpre⟩ rfl hal hinv.1.1.1 rfl hmon (am_dec1 hdec rfl) hf
                · next a σ1 top1 sl1 hrun =>
                  split at h
                  · next hp hhd =>
                    have hm := am_run_mono _ _ _ _ _ _ _ _ _ _ h
                    have hm1 := am_run_mono _ _ _ _ _ _ _ _ _ _ hrun
                    dsimp only at hm1
                    obtain ⟨x, hx0⟩ := am_run_has hrun
                    obtain ⟨hlt, hws, -, -⟩ := hG.2.2.1 u 0 x hx0
                    have hu0 : u ≠ 0 := hG.2.2.2.2.1 y pc i u v hI hk1
                    obtain ⟨ws', hws⟩ := hws hu0
                    unfold am_hd at hhd
                    split at hhd
                    · next cx fs hnil hσ =>
                      split at hhd
                      · next h12 =>
                        unfold am_hc at hws
                        rw [hnil] at hws
                        have hne : am_hs t y ≠ [] := by
                          intro hn0
                          rw [hn0] at hhd
                          cases hhd
                        have hM := am_metT hG hfl ih hu0 hnil hrun rfl hlc.1 hlc.2
                        dsimp only at hM
                        have hk := ih _ _ _ _ _ _ _ _ _ h p e R s m args below meth c Q c0 s0 hcx hend hthr
                        have hfr1 : d - 1 + 1 ≤ R.frames := by omega
                        have hlo1 : 64 * (d - 1 + 1) ≤ R.locals := by omega
                        rcases hkind with ⟨idx, rfl, hal⟩ | ⟨idx, b, as', rfl, rfl, hal⟩ | ⟨idx, b, as', rfl, rfl, hal, hbc⟩
                        · obtain ⟨-, -, -, h9, -⟩ := hcf hlt
                          exact absurd h9 hne
                        · obtain ⟨-, -, -, -, -, -, h9⟩ := hcf hlt
                          exact absurd h9 hne
                        · obtain ⟨hcc, hlk, hin, hsel, hcls, -, h9⟩ := hcf hlt
                          have hl := h9.resolve_left hne
                          rw [List.reverse_cons, List.append_assoc]
                          refine am_w_catch (cc := bt y) (own := (yn y).cls) (C := (yn u).cls) (b := b) (As := as') (rest := rest) (nm := t.2.2.2.2.2.2.1) (res := (.inr a, σ1, top1, sl1)) (mc := top1 - top) (ms := sl1 - sl) (fs := fs) hx hb hml hown htab rfl (by dsimp only; omega) (by dsimp only; omega) hG.1 hM ⟨am_callB hws hcc hfr1 hlo1 hl, hin, hsel⟩ ?_ hal rfl hsum (am_dec1 hdec rfl) hσ ?_ hhd hk
                          · intro ls H locs cells slots hinv
                            obtain ⟨hc, hs⟩ := hinv.2.2.2
                            have hS := hinv.2.2.1
                            have hpre : ∀ U : State, U.heap = H → s.WarmedH U.vm → am_Pc D cl b0 GL (.ref b :: as') σ top (Value.ref b :: as').toArray U := fun U hU hW =>
                              ⟨rfl, by rw [hU]; exact hinv.2.1.moved hW.alike, hG.2.1 s U hW (by rw [hU]; exact hS.1) (fun q h1 h2 => by rw [hU]; exact hS.2.1 q h1 h2) hgl⟩
                            have hrec : ∃ cellB : Cell, H[b]? = some cellB ∧ cellB.vm.isStatics = false ∧ s.vm.findClass (yn u).cls = some cellB.cls := by
                              rcases hbc with ⟨fs, hb1⟩ | ⟨⟨av, f1, hb1⟩, h50⟩
                              · obtain ⟨hsz, hbt, tys, hK, hcl⟩ := hinv.2.1
                                obtain ⟨-, -, r1, hr9, -, cell, q1, q2, q3, -⟩ := hcl b _ hb1
                                refine ⟨cell, q1, by rw [q3]; rfl, ?_⟩
                                have := (hK.1 _ r1 hr9).2.1
                                rw [hG.1 _ r1 hr9, hcls] at this
                                rw [q2]
                                exact this
                              · obtain ⟨hsz, hbt, tys, hK, hcl⟩ := hinv.2.1
                                obtain ⟨-, -, ⟨cell, q1, q2, q3, -⟩, -⟩ := hcl b _ hb1
                                refine ⟨cell, q1, q2, ?_⟩
                                rw [← hcls, h50, hG50]
                                exact q3
                            exact ⟨⟨am_blind hG.2.1 _ σ top, hrec, hpre⟩, by omega, by omega⟩
                          · intro h' hh'
                            obtain ⟨g1, g2, g3⟩ := hG.2.2.2.2.2.2 y h' hh'
                            obtain ⟨g4, g5⟩ := g3 s args hgl
                            exact ⟨g1, g4, g2, fun r hr => g5 cx r h12 hr⟩
                      · cases hhd
                    · cases hhd
                  · cases h
              · cases h
          · cases h
      · next hk3 =>
        split at h
        · next hd6 =>
          cases h
          exact hthr pc lv st σ top sl i u v hI hk3 hd6.1 hd6.2 rfl
        · cases h
      · split at h
        · cases h
        · next r he =>
          cases h
          exact hend pc lv st i u v hI he
end AMN
end
section
section AMB
variable {p : Program} {l : Launch} {e : Env} {R : Room} {s : State} {m : MethodId} {args : Array Value} {below : List Frame} {meth : Method} {c : Code} {Q : State → Prop}
variable {cc : ByteArray} {D : va_G} {cl : List vw_C} {b0 nL c0 s0 : Nat} {pc top sl : Nat} {lv : am_V} {st rest : List Value} {σ : am_H}
theorem am_w_min (hx : p.tables.exec = Jvm.exec) (hb : c.code = cc) (hml : c.maxLocals = nL) {own : String} {index : Nat} (hown : s.vm.findClass own = some m.cls) (hl : (Cond.methodLink own index Lib.Math.min.name).before args s = true) (hst : (Cond.static Lib.Math.min.name).before args s = true) (hini : (Cond.initialized "java/lang/Math").before args s = true) (hco : (Cond.code Lib.Math.min.name Lib.Math.min.code 2 (some .int)).before args s = true)
    (hd : decode cc pc = .ok (.invokestatic index, 3)) (hfr : 1 ≤ R.frames) (hw : (rest.map fun v => v.category).sum ≤ 8) (hlo : 64 ≤ R.locals) (hr1 : top ≤ R.cells + c0) (hr2 : sl ≤ R.slots + s0) {x y : Int32} (k : am_W p l e R s m args below meth c Q D cl b0 nL c0 s0 (pc + 3) lv (.int (if y < x then y else x) :: rest) σ top sl) : am_W p l e R s m args below meth c Q D cl b0 nL c0 s0 pc lv (.int y :: .int x :: rest) σ top sl := by
  intro ls H locs cells slots h
  obtain ⟨hc, hs⟩ := h.2.2.2
  exact va_mmin hx hb (by rw [hml]; exact h.1.1.1.symm) hown hl hst hini hco hfr (by omega) (by omega) (by omega) hd (k ls H locs cells slots h)
theorem am_w_copy (hx : p.tables.exec = Jvm.exec) (hb : c.code = cc) (hml : c.maxLocals = nL) {own : String} {index : Nat} (hown : s.vm.findClass own = some m.cls) (hl : (Cond.methodLink own index arraycopyName).before args s = true) (hnat : (Cond.native arraycopyName).before args s = true) (hst : (Cond.static arraycopyName).before args s = true) (hini : (Cond.initialized "java/lang/System").before args s = true)
    (hd : decode cc pc = .ok (.invokestatic index, 3)) (hfr : 1 ≤ R.frames) (hw : (rest.map fun v => v.category).sum ≤ 8) (hlo : 8 + (nativeFrameWords "java/lang/System" "arraycopy" 5 + 11) ≤ R.locals) {a b n0 n1 : Nat} {f g : Nat → Int32} {sp dp n : Int32} (ha : σ a = some (.inl (.char, n0, .inl f))) (hbv : σ b = some (.inl (.char, n1, .inl g)))
    (h1 : ¬ sp < 0) (h2 : ¬ dp < 0) (h3 : ¬ n < 0) (h4 : sp.toNatClampNeg + n.toNatClampNeg ≤ n0) (h5 : dp.toNatClampNeg + n.toNatClampNeg ≤ n1)
    (k : am_W p l e R s m args below meth c Q D cl b0 nL c0 s0 (pc + 3) lv rest (am_up σ b (.inl (.char, n1, .inl (va_cpy f g sp.toNatClampNeg dp.toNatClampNeg n.toNatClampNeg)))) top sl) : am_W p l e R s m args below meth c Q D cl b0 nL c0 s0 pc lv (.int n :: .int dp :: .ref b :: .int sp :: .ref a :: rest) σ top sl := by
  have nn : ∀ z : Int32, ¬ z < 0 → z.toInt = (z.toNatClampNeg : Int) := by
    intro z hz
    have hz0 : (0 : Int) ≤ z.toInt := by
      have := Int32.not_lt.mp hz
      simpa using Int32.le_iff_toInt_le.mp this
    show z.toInt = ((z.toInt.toNat : Nat) : Int)
    omega
  intro ls H locs cells slots h T hT X
  obtain ⟨hsz, hbt, tys, hK, hcl⟩ := h.2.1
  obtain ⟨hlta, hb0a, hfta, cA, hina, hHa⟩ := hcl a _ ha
  obtain ⟨hltb, hb0b, hftb, cB, hinb, hHb⟩ := hcl b _ hbv
  obtain ⟨ta, hta⟩ := List.getElem?_of_mem hina
  obtain ⟨tb, htb⟩ := List.getElem?_of_mem hinb
  obtain ⟨-, k0, hk0, cm0, hkk0⟩ := (hK.2 ta _ hta).1 n0 (fun j => .int (f j))
  obtain ⟨-, k1, hk1, cm1, hkk1⟩ := (hK.2 tb _ htb).1 n1 (fun j => .int (g j))
  obtain ⟨vm', X', step⟩ := X.arraycopy hx hown hl hnat hst hini (src := a) (dst := b) (cs := vp_cell cA (n0, .inl f)) (cd := vp_cell cB (n1, .inl g)) (srcPos := sp) (destPos := dp) (n := n) (by rw [hT]; exact hHa) (by rw [hT]; exact hHb)
    (fun _ z => by cases z) (fun _ z => by cases z) (fun z => by cases z) (fun z => by cases z) hk0 hk1 hkk0 hkk1 (by simp [refKind]) h1 h2 h3
    (by rw [nn sp h1, nn n h3]; show ¬ _ > ((arrV cA n0 (fun j => .int (f j))).slots.size : Int); rw [arrV_size]; omega)
    (by rw [nn dp h2, nn n h3]; show ¬ _ > ((arrV cB n1 (fun j => .int (g j))).slots.size : Int); rw [arrV_size]; omega)
    (fun vm₁ _ i hi => by
      have e0 : (vp_cell cA (n0, .inl f)).slots.getD (sp.toNatClampNeg + i) .null = .int (f (sp.toNatClampNeg + i)) := by
        show (arrV cA n0 (fun j => .int (f j))).slots.getD _ _ = _
        rw [Array.getD_eq_getD_getElem?, arrV_read _ _ (by omega)]
        rfl
      refine ⟨?_, ?_⟩
      · rw [e0]
        exact hfta _
      · rw [e0]
        exact trivial)
    (g := F0 m pc ls (.int n :: .int dp :: .ref b :: .int sp :: .ref a :: rest)) rfl (by rw [hml]; exact h.1.1.1) (rest := rest) rfl (by rw [hb]; exact hd) hfr (by show 2 * 0 + _ + _ ≤ _; omega)
  have e1 : copied (vp_cell cA (n0, .inl f)) (vp_cell cB (n1, .inl g)) sp dp n = vp_cell cB (n1, .inl (va_cpy f g sp.toNatClampNeg dp.toNatClampNeg n.toNatClampNeg)) := va_copied (fun z => .int z) cA cB f g h4
  rw [e1] at X' step
  have hsl : b < H.size := by rw [hsz]; exact hltb
  have hheap : ((T.setVm vm').setCell b (vp_cell cB (n1, .inl (va_cpy f g sp.toNatClampNeg dp.toNatClampNeg n.toNatClampNeg)))).heap = H.setIfInBounds b (vp_cell cB (n1, .inl (va_cpy f g sp.toNatClampNeg dp.toNatClampNeg n.toNatClampNeg))) := by rw [← hT]; rfl
  have oq : ∀ q : Nat, q ≠ b → (H.setIfInBounds b (vp_cell cB (n1, .inl (va_cpy f g sp.toNatClampNeg dp.toNatClampNeg n.toNatClampNeg))))[q]? = H[q]? := fun q hq => by simp [Array.getElem?_setIfInBounds, Ne.symm hq]
  have hz : (H.setIfInBounds b (vp_cell cB (n1, .inl (va_cpy f g sp.toNatClampNeg dp.toNatClampNeg n.toNatClampNeg)))).size = H.size := by simp
  have hfit : am_fitA .char (n1, .inl (va_cpy f g sp.toNatClampNeg dp.toNatClampNeg n.toNatClampNeg)) := by
    intro j
    show fits .char (.int (va_cpy f g sp.toNatClampNeg dp.toNatClampNeg n.toNatClampNeg j)) = true
    unfold va_cpy
    split
    · exact hfta _
    · exact hftb _
  have hS := h.2.2.1
  obtain ⟨t2, a1, b1⟩ := k ls _ _ cells slots ⟨h.1, am_dy_upd hsz hbt hK hcl hz oq hltb hb0b ⟨hb0b, hfit, cB, hinb, by simp [Array.getElem?_setIfInBounds, hsl]⟩, ⟨by rw [hz]; exact hS.1, fun q g1 g2 => by
      rw [oq q (fun z => g2 (by rw [z]; exact hb0b))]
      exact hS.2.1 q g1 g2, fun q hq => by
      rcases List.mem_append.mp hq with z | z
      · exact hS.2.2 q z
      · obtain ⟨y, -, hy⟩ := List.mem_map.mp z
        rw [← hy]
        exact hb0b⟩, h.2.2.2⟩ _ hheap X'
  exact ⟨t2, step t2 a1, b1⟩
end AMB
end
section
/-- more fuel, the same end -/
theorem am_run_more {t : am_T} {cs : Nat → Value} : ∀ (n d y pc : Nat) (lv : am_V) (st : List Value) (σ : am_H) (top sl : Nat) (res : am_R), am_run t cs n d y pc lv st σ top sl = some res → ∀ k, am_run t cs (n + k) d y pc lv st σ top sl = some res
  | 0, d, y, pc, lv, st, σ, top, sl, res, h, k => absurd (show (none : Option am_R) = some res from h) (fun z => by cases z)
  | n + 1, d, y, pc, lv, st, σ, top, sl, res, h, k => by
    rw [show n + 1 + k = (n + k) + 1 by omega]
    unfold am_run at h ⊢
    cases hI : t.1 y pc with
    | none => rw [hI] at h; cases h
    | some x =>
      obtain ⟨i, u, v⟩ := x
      rw [hI] at h
      dsimp only at h ⊢
      split at h
      · next hk =>
        try rw [hk]
        try dsimp only
        split at h
        · cases h
        · next pc' lv' st' σ' top' sl' hs =>
          try rw [hs]
          exact am_run_more n _ _ _ _ _ _ _ _ _ h k
      · next hk =>
        try rw [hk]
        try dsimp only
        split at h
        · cases h
        · next as rest hc =>
          try rw [hc]
          try dsimp only
          split at h
          · next hsum =>
            try rw [if_pos hsum]
            split at h
            · next hu =>
              try rw [if_pos hu]
              split at h
              · cases h
              · next r σ1 hb =>
                try rw [hb]
                exact am_run_more n _ _ _ _ _ _ _ _ _ h k
            · next hu =>
              try rw [if_neg hu]
              split at h
              · next hl =>
                try rw [if_pos hl]
                split at h
                · cases h
                · next hr =>
                  rw [am_run_more n _ _ _ _ _ _ _ _ _ hr k]
                  exact am_run_more n _ _ _ _ _ _ _ _ _ h k
                · next hr =>
                  rw [am_run_more n _ _ _ _ _ _ _ _ _ hr k]
                  try dsimp only
                  split at h
                  · next hh =>
                    try rw [hh]
                    exact am_run_more n _ _ _ _ _ _ _ _ _ h k
                  · cases h
              · cases h
          · cases h
      · next hk =>
        try rw [hk]
        exact h
      · exact h
/-- the run from here ends so -/
def am_to (t : am_T) (cs : Nat → Value) (d y pc : Nat) (lv : am_V) (st : List Value) (σ : am_H) (top sl : Nat) (res : am_R) : Prop := ∃ n, am_run t cs n d y pc lv st σ top sl = some res
section AMTO
variable {t : am_T} {cs : Nat → Value} {d y pc : Nat} {lv : am_V} {st : List Value} {σ : am_H} {top sl : Nat} {res : am_R} {i : Instr} {u v : Nat}
theorem am_to_n {pc' : Nat} {lv' : am_V} {st' : List Value} {σ' : am_H} {top' sl' : Nat} (hI : t.1 y pc = some (i, u, v)) (hk : am_kind i u = 0) (hs : am_step cs t.2.2.2.1 t.2.2.2.2.1 t.2.2.2.2.2.1 t.2.2.2.2.2.2.1 d pc lv st σ top sl i u v = some (pc', lv', st', σ', top', sl')) (h : am_to t cs d y pc' lv' st' σ' top' sl' res) : am_to t cs d y pc lv st σ top sl res := by
  obtain ⟨n, h⟩ := h
  refine ⟨n + 1, ?_⟩
  unfold am_run
  rw [hI]
  try dsimp only
  rw [hk]
  try dsimp only
  rw [hs]
  exact h
theorem am_to_end {r : Option Value ⊕ Nat} (hI : t.1 y pc = some (i, u, v)) (hk : am_kind i u = 2) (he : am_end (t.2.2.1 y) st i = some r) : am_to t cs d y pc lv st σ top sl (r, σ, top, sl) := by
  refine ⟨1, ?_⟩
  unfold am_run
  rw [hI]
  try dsimp only
  rw [hk]
  try dsimp only
  rw [he]
  rfl
theorem am_to_call {as rest : List Value} {r : Option Value} {σ1 : am_H} {top1 sl1 : Nat} (hI : t.1 y pc = some (i, u, v)) (hk : am_kind i u = 1) (hc : am_call t.2.2.2.2.2.2.2.1 d st σ i u v = some (as, rest)) (hsum : (rest.map fun w => w.category).sum ≤ 8) (hu : ¬ 1000 < u) (hl : as.length ≤ t.2.1 u ∧ as.all am_c1 = true)
    (h1 : am_to t cs (d - 1) u 0 (am_ent (t.2.1 u) as) [] σ top sl (.inl r, σ1, top1, sl1)) (h2 : am_to t cs d y (pc + 3) lv (r.toList ++ rest) σ1 top1 sl1 res) : am_to t cs d y pc lv st σ top sl res := by
  obtain ⟨n1, h1⟩ := h1
  obtain ⟨n2, h2⟩ := h2
  refine ⟨(n1 + n2) + 1, ?_⟩
  unfold am_run
  rw [hI]
  try dsimp only
  rw [hk]
  try dsimp only
  rw [hc]
  try dsimp only
  rw [if_pos hsum, if_neg hu, if_pos hl, am_run_more _ _ _ _ _ _ _ _ _ _ h1 n2]
  try dsimp only
  rw [Nat.add_comm]
  exact am_run_more _ _ _ _ _ _ _ _ _ _ h2 n1
theorem am_to_bi {as rest : List Value} {r : Option Value} {σ1 : am_H} (hI : t.1 y pc = some (i, u, v)) (hk : am_kind i u = 1) (hc : am_call t.2.2.2.2.2.2.2.1 d st σ i u v = some (as, rest)) (hsum : (rest.map fun w => w.category).sum ≤ 8) (hu : 1000 < u)
    (h1 : am_bi u as σ = some (r, σ1)) (h2 : am_to t cs d y (pc + 3) lv (r.toList ++ rest) σ1 top sl res) : am_to t cs d y pc lv st σ top sl res := by
  obtain ⟨n2, h2⟩ := h2
  refine ⟨n2 + 1, ?_⟩
  unfold am_run
  rw [hI]
  try dsimp only
  rw [hk]
  try dsimp only
  rw [hc]
  try dsimp only
  rw [if_pos hsum, if_pos hu, h1]
  exact h2
theorem am_to_throw (hI : t.1 y pc = some (i, u, v)) (hk : am_kind i u = 3) (hd : 6 ≤ d) (hs : (st.map fun w => w.category).sum ≤ 8) : am_to t cs d y pc lv st σ top sl (.inr top, am_up σ top (.inr (.inl (u, []))), top + 1, sl + t.2.2.2.2.2.1 u) := by
  refine ⟨1, ?_⟩
  unfold am_run
  rw [hI]
  try dsimp only
  rw [hk]
  exact if_pos ⟨hd, hs⟩
theorem am_to_catch {as rest : List Value} {a h : Nat} {σ1 : am_H} {top1 sl1 : Nat} (hI : t.1 y pc = some (i, u, v)) (hk : am_kind i u = 1) (hc : am_call t.2.2.2.2.2.2.2.1 d st σ i u v = some (as, rest)) (hsum : (rest.map fun w => w.category).sum ≤ 8) (hu : ¬ 1000 < u) (hl : as.length ≤ t.2.1 u ∧ as.all am_c1 = true)
    (h1 : am_to t cs (d - 1) u 0 (am_ent (t.2.1 u) as) [] σ top sl (.inr a, σ1, top1, sl1)) (hh : am_hd t y u pc σ1 a = some h) (h2 : am_to t cs d y h lv [.ref a] σ1 top1 sl1 res) : am_to t cs d y pc lv st σ top sl res := by
  obtain ⟨n1, h1⟩ := h1
  obtain ⟨n2, h2⟩ := h2
  refine ⟨(n1 + n2) + 1, ?_⟩
  unfold am_run
  rw [hI]
  try dsimp only
  rw [hk]
  try dsimp only
  rw [hc]
  try dsimp only
  rw [if_pos hsum, if_neg hu, if_pos hl, am_run_more _ _ _ _ _ _ _ _ _ _ h1 n2]
  try dsimp only
  rw [hh]
  try dsimp only
  rw [Nat.add_comm]
  exact am_run_more _ _ _ _ _ _ _ _ _ _ h2 n1
end AMTO
/-- n instructions that go on, at once -/
def am_go (t : am_T) (cs : Nat → Value) (d y : Nat) : Nat → am_X → Option am_X
  | 0, x => some x
  | n + 1, x => match t.1 y x.1 with
    | none => none
    | some (i, u, v) => match am_kind i u with
      | 0 => match am_step cs t.2.2.2.1 t.2.2.2.2.1 t.2.2.2.2.2.1 t.2.2.2.2.2.2.1 d x.1 x.2.1 x.2.2.1 x.2.2.2.1 x.2.2.2.2.1 x.2.2.2.2.2 i u v with
        | none => none
        | some x' => am_go t cs d y n x'
      | _ => none
theorem am_to_go {t : am_T} {cs : Nat → Value} {d y : Nat} {res : am_R} : ∀ (n : Nat) (x x' : am_X), am_go t cs d y n x = some x' → am_to t cs d y x'.1 x'.2.1 x'.2.2.1 x'.2.2.2.1 x'.2.2.2.2.1 x'.2.2.2.2.2 res → am_to t cs d y x.1 x.2.1 x.2.2.1 x.2.2.2.1 x.2.2.2.2.1 x.2.2.2.2.2 res
  | 0, x, x', h, h2 => by
    obtain rfl := Option.some.inj (show some x = some x' from h)
    exact h2
  | n + 1, x, x', h, h2 => by
    unfold am_go at h
    split at h
    · cases h
    · next i u v hI =>
      split at h
      · next hk =>
        split at h
        · cases h
        · next x1 hs => exact am_to_n hI hk hs (am_to_go n x1 x' h h2)
      · cases h
theorem am_up_self (σ : am_H) (a : Nat) (e : am_C) : am_up σ a e a = some e := if_pos rfl
theorem am_up_ne (σ : am_H) {a q : Nat} (e : am_C) (h : ¬ q = a) : am_up σ a e q = σ q := if_neg h
end
section
def cd_T0 : u_T := fun k => match k with
  | 0 => ("ChainDesk", "buffer", "LChainDesk$Buffer;", true)
  | 1 => ("ChainDesk", "catalog", "LChainDesk$Catalog;", true)
  | 2 => ("ChainDesk", "scope", "LChainDesk$Scope;", true)
  | 3 => ("ChainDesk", "declarations", "LChainDesk$DeclarationReader;", true)
  | 4 => ("ChainDesk", "expressions", "LChainDesk$ExpressionReader;", true)
  | 5 => ("ChainDesk", "completer", "LChainDesk$Completer;", true)
  | _ => ("ChainDesk", "latestCost", "I", false)
def cd_T1 : u_T := fun k => match k with
  | 0 => ("ChainDesk$Buffer", "letters", "[C", true)
  | 1 => ("ChainDesk$Buffer", "length", "I", false)
  | _ => ("ChainDesk$Buffer", "position", "I", false)
def cd_T2 : u_T := fun k => match k with
  | 0 => ("ChainDesk$Catalog", "declarations", "[LChainDesk$Declaration;", true)
  | 1 => ("ChainDesk$Catalog", "fitted", "[I", true)
  | _ => ("ChainDesk$Catalog", "place", "I", false)
def cd_T3 : u_T := fun k => match k with
  | 0 => ("ChainDesk$Completer", "catalog", "LChainDesk$Catalog;", true)
  | 1 => ("ChainDesk$Completer", "scope", "LChainDesk$Scope;", true)
  | 2 => ("ChainDesk$Completer", "shelves", "[LChainDesk$Shelf;", true)
  | 3 => ("ChainDesk$Completer", "proposals", "[LChainDesk$Phrase;", true)
  | 4 => ("ChainDesk$Completer", "draft", "LChainDesk$Phrase;", true)
  | 5 => ("ChainDesk$Completer", "target", "LChainDesk$Shelf;", false)
  | _ => ("ChainDesk$Completer", "proposalCount", "I", false)
def cd_T4 : u_T := fun k => match k with
  | 0 => ("ChainDesk$Declaration", "number", "I", true)
  | 1 => ("ChainDesk$Declaration", "parent", "LChainDesk$Declaration;", true)
  | 2 => ("ChainDesk$Declaration", "rows", "[LChainDesk$Member;", true)
  | _ => ("ChainDesk$Declaration", "count", "I", false)
def cd_T5 : u_T := fun k => match k with
  | 0 => ("ChainDesk$DeclarationReader", "text", "LChainDesk$Buffer;", true)
  | _ => ("ChainDesk$DeclarationReader", "catalog", "LChainDesk$Catalog;", true)
def cd_T6 : u_T := fun k => match k with
  | 0 => ("ChainDesk$ExpressionReader", "text", "LChainDesk$Buffer;", true)
  | 1 => ("ChainDesk$ExpressionReader", "catalog", "LChainDesk$Catalog;", true)
  | 2 => ("ChainDesk$ExpressionReader", "scope", "LChainDesk$Scope;", true)
  | _ => ("ChainDesk$ExpressionReader", "cost", "I", false)
def cd_T7 : u_T := fun k => match k with
  | 0 => ("ChainDesk$Member", "kind", "LChainDesk$Kind;", true)
  | 1 => ("ChainDesk$Member", "isPrivate", "Z", true)
  | 2 => ("ChainDesk$Member", "isStatic", "Z", true)
  | 3 => ("ChainDesk$Member", "name", "I", true)
  | 4 => ("ChainDesk$Member", "parameters", "[I", true)
  | 5 => ("ChainDesk$Member", "count", "I", false)
  | _ => ("ChainDesk$Member", "type", "I", false)
def cd_T8 : u_T := fun k => match k with
  | 0 => ("ChainDesk$Phrase", "letters", "[C", true)
  | 1 => ("ChainDesk$Phrase", "length", "I", false)
  | 2 => ("ChainDesk$Phrase", "type", "I", false)
  | _ => ("ChainDesk$Phrase", "cost", "I", false)
def cd_T9 : u_T := fun k => match k with
  | 0 => ("ChainDesk$Scope", "names", "[I", true)
  | 1 => ("ChainDesk$Scope", "types", "[I", true)
  | _ => ("ChainDesk$Scope", "count", "I", false)
def cd_T10 : u_T := fun k => match k with
  | 0 => ("ChainDesk$Shelf", "rows", "[LChainDesk$Phrase;", true)
  | _ => ("ChainDesk$Shelf", "count", "I", false)
def cd_T11 : u_T := fun k => match k with
  | 0 => ("ChainDeskModel", "thrown", "I", false)
  | 1 => ("ChainDeskModel", "buffer", "[C", true)
  | 2 => ("ChainDeskModel", "filled", "I", false)
  | 3 => ("ChainDeskModel", "at", "I", false)
  | 4 => ("ChainDeskModel", "good", "Z", false)
  | 5 => ("ChainDeskModel", "there", "[Z", true)
  | 6 => ("ChainDeskModel", "above", "[I", true)
  | 7 => ("ChainDeskModel", "many", "[I", true)
  | 8 => ("ChainDeskModel", "kind", "[I", true)
  | 9 => ("ChainDeskModel", "common", "[Z", true)
  | 10 => ("ChainDeskModel", "secret", "[Z", true)
  | 11 => ("ChainDeskModel", "name", "[I", true)
  | 12 => ("ChainDeskModel", "type", "[I", true)
  | 13 => ("ChainDeskModel", "wants", "[I", true)
  | 14 => ("ChainDeskModel", "want", "[I", true)
  | 15 => ("ChainDeskModel", "scope", "I", false)
  | 16 => ("ChainDeskModel", "varName", "[I", true)
  | 17 => ("ChainDeskModel", "varType", "[I", true)
  | 18 => ("ChainDeskModel", "place", "I", false)
  | 19 => ("ChainDeskModel", "kept", "I", false)
  | 20 => ("ChainDeskModel", "cost", "[I", true)
  | 21 => ("ChainDeskModel", "typeOf", "[I", true)
  | 22 => ("ChainDeskModel", "size", "[I", true)
  | 23 => ("ChainDeskModel", "text", "[C", true)
  | 24 => ("ChainDeskModel", "firstOfCost", "I", false)
  | 25 => ("ChainDeskModel", "made", "I", false)
  | 26 => ("ChainDeskModel", "making", "[C", true)
  | 27 => ("ChainDeskModel", "proposals", "I", false)
  | 28 => ("ChainDeskModel", "proposalCost", "[I", true)
  | 29 => ("ChainDeskModel", "proposalType", "[I", true)
  | 30 => ("ChainDeskModel", "proposalSize", "[I", true)
  | 31 => ("ChainDeskModel", "proposalText", "[C", true)
  | 32 => ("ChainDeskModel", "checked", "I", false)
  | 33 => ("ChainDeskModel", "open", "I", false)
  | 34 => ("ChainDeskModel", "calling", "[I", true)
  | 35 => ("ChainDeskModel", "argument", "[I", true)
  | 36 => ("ChainDeskModel", "counted", "I", false)
  | 37 => ("ChainDeskModel", "superclass", "I", false)
  | _ => ("ChainDeskModel", "members", "I", false)
def cd_cl : List vw_C := [("ChainDesk", cd_T0, 7), ("ChainDesk$Buffer", cd_T1, 3), ("ChainDesk$Catalog", cd_T2, 3), ("ChainDesk$Completer", cd_T3, 7), ("ChainDesk$Declaration", cd_T4, 4), ("ChainDesk$DeclarationReader", cd_T5, 2), ("ChainDesk$ExpressionReader", cd_T6, 4), ("ChainDesk$Member", cd_T7, 7), ("ChainDesk$Phrase", cd_T8, 4), ("ChainDesk$Scope", cd_T9, 3), ("ChainDesk$Shelf", cd_T10, 2), ("ChainDeskModel", cd_T11, 39), ("java/lang/IllegalArgumentException", cd_T0, 0), ("java/lang/IllegalStateException", cd_T0, 0)]
def cd_ftL : List (List FieldType) := [[.object "ChainDesk$Buffer", .object "ChainDesk$Catalog", .object "ChainDesk$Scope", .object "ChainDesk$DeclarationReader", .object "ChainDesk$ExpressionReader", .object "ChainDesk$Completer", .int], [.array .char, .int, .int], [.array (.object "ChainDesk$Declaration"), .array .int, .int], [.object "ChainDesk$Catalog", .object "ChainDesk$Scope", .array (.object "ChainDesk$Shelf"), .array (.object "ChainDesk$Phrase"), .object "ChainDesk$Phrase", .object "ChainDesk$Shelf", .int], [.int, .object "ChainDesk$Declaration", .array (.object "ChainDesk$Member"), .int], [.object "ChainDesk$Buffer", .object "ChainDesk$Catalog"], [.object "ChainDesk$Buffer", .object "ChainDesk$Catalog", .object "ChainDesk$Scope", .int], [.object "ChainDesk$Kind", .boolean, .boolean, .int, .array .int, .int, .int], [.array .char, .int, .int, .int], [.array .int, .array .int, .int], [.array (.object "ChainDesk$Phrase"), .int], [.int, .array .char, .int, .int, .boolean, .array .boolean, .array .int, .array .int, .array .int, .array .boolean, .array .boolean, .array .int, .array .int, .array .int, .array .int, .int, .array .int, .array .int, .int, .int, .array .int, .array .int, .array .int, .array .char, .int, .int, .array .char, .int, .array .int, .array .int, .array .int, .array .char, .int, .int, .array .int, .array .int, .int, .int, .int], [], []]
def cd_ft (c k : Nat) : FieldType := (cd_ftL.getD c []).getD k .int
def cd_dfL : List (List Value) := [[.null, .null, .null, .null, .null, .null, .int 0], [.null, .int 0, .int 0], [.null, .null, .int 0], [.null, .null, .null, .null, .null, .null, .int 0], [.int 0, .null, .null, .int 0], [.null, .null], [.null, .null, .null, .int 0], [.null, .int 0, .int 0, .int 0, .null, .int 0, .int 0], [.null, .int 0, .int 0, .int 0], [.null, .null, .int 0], [.null, .int 0], [.int 0, .null, .int 0, .int 0, .int 0, .null, .null, .null, .null, .null, .null, .null, .null, .null, .null, .int 0, .null, .null, .int 0, .int 0, .null, .null, .null, .null, .int 0, .int 0, .null, .int 0, .null, .null, .null, .null, .int 0, .int 0, .null, .null, .int 0, .int 0, .int 0], [], []]
def cd_df (c : Nat) : List Value := cd_dfL.getD c []
def cd_nsL : List Nat := [7, 3, 3, 7, 4, 2, 4, 7, 4, 3, 2, 39, 6, 6]
def cd_ns (c : Nat) : Nat := cd_nsL.getD c 0
def cd_nmL : List String := ["ChainDesk", "ChainDesk$Buffer", "ChainDesk$Catalog", "ChainDesk$Completer", "ChainDesk$Declaration", "ChainDesk$DeclarationReader", "ChainDesk$ExpressionReader", "ChainDesk$Member", "ChainDesk$Phrase", "ChainDesk$Scope", "ChainDesk$Shelf", "ChainDeskModel", "java/lang/IllegalArgumentException", "java/lang/IllegalStateException"]
def cd_nm (c : Nat) : String := if c = 50 then "java/lang/String" else cd_nmL.getD c ""
/-- where a class's words on its fields stand -/
def cd_lpL : List (List Nat) := [[262, 264, 266, 268, 270, 272, 274], [102, 104, 106], [122, 124, 126], [240, 242, 244, 246, 248, 250, 252], [414, 416, 418, 420], [158, 160], [174, 176, 178, 180], [522, 524, 526, 528, 530, 532, 534], [208, 210, 212, 214], [143, 145, 147], [228, 230], [907, 909, 911, 913, 915, 917, 919, 921, 923, 925, 927, 929, 931, 933, 935, 937, 939, 941, 943, 945, 947, 949, 951, 953, 955, 957, 959, 961, 963, 965, 967, 969, 971, 973, 975, 977, 979, 981, 983], [], []]
def cd_ynL : List MethodName := [⟨"ChainDeskLaw", "law", "([I)Z"⟩,
  ⟨"ChainDesk", "<init>", "()V"⟩,
  ⟨"ChainDesk$Buffer", "<init>", "()V"⟩,
  ⟨"ChainDesk$Catalog", "<init>", "()V"⟩,
  ⟨"ChainDesk$Scope", "<init>", "()V"⟩,
  ⟨"ChainDesk$DeclarationReader", "<init>", "(LChainDesk$Buffer;LChainDesk$Catalog;)V"⟩,
  ⟨"ChainDesk$ExpressionReader", "<init>", "(LChainDesk$Buffer;LChainDesk$Catalog;LChainDesk$Scope;)V"⟩,
  ⟨"ChainDesk$Completer", "<init>", "(LChainDesk$Catalog;LChainDesk$Scope;)V"⟩,
  ⟨"ChainDesk$Phrase", "<init>", "()V"⟩,
  ⟨"ChainDesk$Shelf", "<init>", "()V"⟩,
  ⟨"ChainDesk", "put", "(II)Z"⟩,
  ⟨"ChainDesk$Buffer", "append", "(II)Z"⟩,
  ⟨"ChainDesk", "forget", "()V"⟩,
  ⟨"ChainDesk", "checkedCost", "()I"⟩,
  ⟨"ChainDesk", "fits", "(II)Z"⟩,
  ⟨"ChainDesk", "isType", "(I)Z"⟩,
  ⟨"ChainDesk$Catalog", "isFitting", "(II)Z"⟩,
  ⟨"ChainDesk", "proposal", "(II)I"⟩,
  ⟨"ChainDesk$Completer", "proposed", "(I)LChainDesk$Phrase;"⟩,
  ⟨"ChainDesk", "letter", "(II)I"⟩,
  ⟨"ChainDesk$Phrase", "letterAt", "(I)I"⟩,
  ⟨"ChainDesk", "members", "(I)I"⟩,
  ⟨"ChainDesk$Catalog", "declared", "(I)LChainDesk$Declaration;"⟩,
  ⟨"ChainDesk", "seen", "(II)I"⟩,
  ⟨"ChainDesk", "isClass", "(I)Z"⟩,
  ⟨"ChainDesk$Catalog", "countSeen", "(ILChainDesk$Kind;)I"⟩,
  ⟨"ChainDesk$Catalog", "isSeen", "(ILChainDesk$Member;)Z"⟩,
  ⟨"ChainDesk$Catalog", "findSeen", "(ILChainDesk$Kind;I)LChainDesk$Member;"⟩,
  ⟨"ChainDesk$Declaration", "find", "(LChainDesk$Kind;I)LChainDesk$Member;"⟩,
  ⟨"ChainDesk$Member", "isNamed", "(LChainDesk$Kind;I)Z"⟩,
  ⟨"ChainDesk$Catalog", "isUsable", "(LChainDesk$Declaration;LChainDesk$Member;)Z"⟩,
  ⟨"ChainDesk", "declare", "()I"⟩,
  ⟨"ChainDesk$DeclarationReader", "readHead", "()LChainDesk$Declaration;"⟩,
  ⟨"ChainDesk$Buffer", "takeClass", "()I"⟩,
  ⟨"ChainDesk$Buffer", "take", "(C)Z"⟩,
  ⟨"ChainDesk$Buffer", "isAt", "(C)Z"⟩,
  ⟨"ChainDesk$Declaration", "<init>", "(ILChainDesk$Declaration;)V"⟩,
  ⟨"ChainDesk$DeclarationReader", "readMembers", "(LChainDesk$Declaration;)Z"⟩,
  ⟨"ChainDesk$DeclarationReader", "readMember", "(LChainDesk$Declaration;)Z"⟩,
  ⟨"ChainDesk$Buffer", "takeText", "(Ljava/lang/String;)Z"⟩,
  ⟨"java/lang/String", "length", "()I"⟩,
  ⟨"java/lang/String", "coder", "()B"⟩,
  ⟨"java/lang/String", "charAt", "(I)C"⟩,
  ⟨"java/lang/String", "isLatin1", "()Z"⟩,
  ⟨"java/lang/StringLatin1", "charAt", "([BI)C"⟩,
  ⟨"java/lang/String", "checkIndex", "(II)V"⟩,
  ⟨"jdk/internal/util/Preconditions", "checkIndex", "(IILjava/util/function/BiFunction;)I"⟩,
  ⟨"ChainDesk$DeclarationReader", "readMaker", "(ZI)LChainDesk$Member;"⟩,
  ⟨"ChainDesk$Member", "<init>", "(LChainDesk$Kind;ZZI)V"⟩,
  ⟨"ChainDesk$DeclarationReader", "readParameters", "(LChainDesk$Member;)Z"⟩,
  ⟨"ChainDesk$Buffer", "takeType", "()I"⟩,
  ⟨"ChainDesk$Buffer", "takeWord", "()I"⟩,
  ⟨"ChainDesk$Member", "addParameter", "(I)V"⟩,
  ⟨"ChainDesk$DeclarationReader", "readNamed", "(Z)LChainDesk$Member;"⟩,
  ⟨"ChainDesk$Buffer", "takeName", "()I"⟩,
  ⟨"ChainDesk$Declaration", "allows", "(LChainDesk$Member;)Z"⟩,
  ⟨"ChainDesk$Declaration", "allowsOverride", "(LChainDesk$Member;)Z"⟩,
  ⟨"ChainDesk$Member", "hasTypesOf", "(LChainDesk$Member;)Z"⟩,
  ⟨"ChainDesk$Declaration", "add", "(LChainDesk$Member;)Z"⟩,
  ⟨"ChainDesk$Buffer", "isAtEnd", "()Z"⟩,
  ⟨"ChainDesk$Buffer", "clear", "()V"⟩,
  ⟨"ChainDesk$Catalog", "add", "(LChainDesk$Declaration;)Z"⟩,
  ⟨"ChainDesk", "variable", "()I"⟩,
  ⟨"ChainDesk$Scope", "isFull", "()Z"⟩,
  ⟨"ChainDesk", "readVariable", "()Z"⟩,
  ⟨"ChainDesk$Scope", "add", "(II)Z"⟩,
  ⟨"ChainDesk$Scope", "typeOf", "(I)I"⟩,
  ⟨"ChainDesk", "enter", "(I)V"⟩,
  ⟨"ChainDesk", "complete", "(II)I"⟩,
  ⟨"ChainDesk$Completer", "keepVariables", "()V"⟩,
  ⟨"ChainDesk$Completer", "startShelf", "(I)V"⟩,
  ⟨"ChainDesk$Phrase", "addName", "(I)V"⟩,
  ⟨"ChainDesk$Phrase", "add", "(C)V"⟩,
  ⟨"ChainDesk$Shelf", "keep", "(LChainDesk$Phrase;)V"⟩,
  ⟨"ChainDesk$Shelf", "hasRoomFrom", "(LChainDesk$Phrase;)Z"⟩,
  ⟨"ChainDesk$Phrase", "isTooLong", "()Z"⟩,
  ⟨"ChainDesk$Phrase", "isBefore", "(LChainDesk$Phrase;)Z"⟩,
  ⟨"ChainDesk$Phrase", "copyFrom", "(LChainDesk$Phrase;)V"⟩,
  ⟨"ChainDesk$Completer", "keepOfCost", "(I)V"⟩,
  ⟨"ChainDesk$Completer", "keepOfClass", "(II)V"⟩,
  ⟨"ChainDesk$Phrase", "addText", "(Ljava/lang/String;)V"⟩,
  ⟨"ChainDesk$Phrase", "addClass", "(I)V"⟩,
  ⟨"ChainDesk$Completer", "keepUses", "(LChainDesk$Member;I)V"⟩,
  ⟨"ChainDesk$Completer", "keepCalls", "(LChainDesk$Member;II)V"⟩,
  ⟨"ChainDesk$Phrase", "addPhrase", "(LChainDesk$Phrase;)V"⟩,
  ⟨"ChainDesk$Completer", "keepSelections", "(LChainDesk$Phrase;I)V"⟩,
  ⟨"ChainDesk$Completer", "propose", "(II)I"⟩,
  ⟨"ChainDesk", "check", "()I"⟩,
  ⟨"ChainDesk$ExpressionReader", "read", "()I"⟩,
  ⟨"ChainDesk$ExpressionReader", "readExpression", "(I)I"⟩,
  ⟨"ChainDesk$ExpressionReader", "readHead", "(I)I"⟩,
  ⟨"ChainDesk$Catalog", "findMaker", "(I)LChainDesk$Member;"⟩,
  ⟨"ChainDesk$Catalog", "findOwn", "(ILChainDesk$Kind;I)LChainDesk$Member;"⟩,
  ⟨"ChainDesk$ExpressionReader", "readUse", "(LChainDesk$Member;I)I"⟩,
  ⟨"ChainDesk$ExpressionReader", "readArguments", "(LChainDesk$Member;I)Z"⟩,
  ⟨"ChainDesk$ExpressionReader", "kindAhead", "()LChainDesk$Kind;"⟩,
  ⟨"ChainDesk$Catalog", "findStatic", "(ILChainDesk$Kind;I)LChainDesk$Member;"⟩,
  ⟨"ChainDesk$ExpressionReader", "readSelection", "(II)I"⟩,
  ⟨"ChainDeskModel", "<init>", "()V"⟩,
  ⟨"ChainDeskModel", "thrown", "()I"⟩,
  ⟨"ChainDeskModel", "put", "(II)Z"⟩,
  ⟨"ChainDeskModel", "outside", "(III)Z"⟩,
  ⟨"ChainDeskModel", "declare", "()I"⟩,
  ⟨"ChainDeskModel", "readDeclaration", "()I"⟩,
  ⟨"ChainDeskModel", "readClass", "()I"⟩,
  ⟨"ChainDeskModel", "look", "(I)C"⟩,
  ⟨"ChainDeskModel", "large", "(C)Z"⟩,
  ⟨"ChainDeskModel", "must", "(Z)V"⟩,
  ⟨"ChainDeskModel", "pass", "(C)Z"⟩,
  ⟨"ChainDeskModel", "expect", "(C)V"⟩,
  ⟨"ChainDeskModel", "readMember", "(II)V"⟩,
  ⟨"ChainDeskModel", "word", "(ICCCCCC)Z"⟩,
  ⟨"ChainDeskModel", "readList", "(I)V"⟩,
  ⟨"ChainDeskModel", "readType", "()I"⟩,
  ⟨"ChainDeskModel", "letters", "()I"⟩,
  ⟨"ChainDeskModel", "small", "(C)Z"⟩,
  ⟨"ChainDeskModel", "spell", "(IIII)I"⟩,
  ⟨"ChainDeskModel", "readName", "()I"⟩,
  ⟨"ChainDeskModel", "isWord", "(I)Z"⟩,
  ⟨"ChainDeskModel", "allowed", "(II)Z"⟩,
  ⟨"ChainDeskModel", "sameTypes", "(II)Z"⟩,
  ⟨"ChainDeskModel", "refuse", "(I)I"⟩,
  ⟨"ChainDeskModel", "copyMember", "(II)V"⟩,
  ⟨"ChainDeskModel", "variable", "()I"⟩,
  ⟨"ChainDeskModel", "variableOf", "(I)I"⟩,
  ⟨"ChainDeskModel", "forget", "()V"⟩,
  ⟨"ChainDeskModel", "enter", "(I)V"⟩,
  ⟨"ChainDeskModel", "fits", "(II)Z"⟩,
  ⟨"ChainDeskModel", "fit", "(II)Z"⟩,
  ⟨"ChainDeskModel", "aboveOf", "(I)I"⟩,
  ⟨"ChainDeskModel", "complete", "(II)I"⟩,
  ⟨"ChainDeskModel", "keepVariables", "()V"⟩,
  ⟨"ChainDeskModel", "writeName", "(I)V"⟩,
  ⟨"ChainDeskModel", "write", "(C)V"⟩,
  ⟨"ChainDeskModel", "keep", "(II)V"⟩,
  ⟨"ChainDeskModel", "before", "(I)Z"⟩,
  ⟨"ChainDeskModel", "copyKept", "(II)V"⟩,
  ⟨"ChainDeskModel", "keepCost", "(I)V"⟩,
  ⟨"ChainDeskModel", "usable", "(I)Z"⟩,
  ⟨"ChainDeskModel", "offer", "(IIII)V"⟩,
  ⟨"ChainDeskModel", "costOf", "(I)I"⟩,
  ⟨"ChainDeskModel", "make", "(IIII)V"⟩,
  ⟨"ChainDeskModel", "writeKept", "(I)V"⟩,
  ⟨"ChainDeskModel", "sees", "(II)Z"⟩,
  ⟨"ChainDeskModel", "behind", "(I)Z"⟩,
  ⟨"ChainDeskModel", "propose", "(I)V"⟩,
  ⟨"ChainDeskModel", "check", "()I"⟩,
  ⟨"ChainDeskModel", "primary", "()I"⟩,
  ⟨"ChainDeskModel", "makerOf", "(I)I"⟩,
  ⟨"ChainDeskModel", "use", "(I)I"⟩,
  ⟨"ChainDeskModel", "memberOf", "(IIZ)I"⟩,
  ⟨"ChainDeskModel", "further", "(I)I"⟩,
  ⟨"ChainDeskModel", "checkedCost", "()I"⟩,
  ⟨"ChainDeskModel", "proposal", "(II)I"⟩,
  ⟨"ChainDeskModel", "letter", "(II)I"⟩,
  ⟨"ChainDeskModel", "members", "(I)I"⟩,
  ⟨"ChainDeskModel", "seen", "(II)I"⟩,
  ⟨"ChainDeskLaw", "declare", "(LChainDesk;[J)I"⟩,
  ⟨"ChainDeskLaw", "variable", "(LChainDesk;[J)I"⟩,
  ⟨"ChainDeskLaw", "enter", "(LChainDesk;I)I"⟩,
  ⟨"ChainDeskLaw", "complete", "(LChainDesk;II[J)I"⟩,
  ⟨"ChainDeskLaw", "check", "(LChainDesk;[J)I"⟩]
def cd_yn (y : Nat) : MethodName := cd_ynL.getD y ⟨"", "", ""⟩
def cd_btL : List ByteArray := [code, prog_1_method_1_code, prog_2_method_1_code, prog_3_method_1_code, prog_11_method_1_code, prog_6_method_1_code, prog_7_method_1_code, prog_4_method_1_code, prog_10_method_1_code, prog_12_method_1_code, prog_1_method_2_code, prog_2_method_2_code, prog_1_method_5_code, prog_1_method_9_code, prog_1_method_10_code, prog_1_method_17_code, prog_3_method_4_code, prog_1_method_11_code, prog_4_method_5_code, prog_1_method_12_code, prog_10_method_10_code, prog_1_method_13_code, prog_3_method_3_code, prog_1_method_14_code, prog_1_method_16_code, prog_3_method_8_code, prog_3_method_7_code, prog_3_method_6_code, prog_5_method_3_code, prog_9_method_3_code, prog_3_method_5_code, prog_1_method_3_code, prog_6_method_2_code, prog_2_method_8_code, prog_2_method_6_code, prog_2_method_5_code, prog_5_method_1_code, prog_6_method_3_code, prog_6_method_4_code, prog_2_method_7_code, prog_21_method_54_code, prog_21_method_152_code, prog_21_method_56_code, prog_21_method_154_code, prog_22_method_2_code, prog_21_method_155_code, prog_26_method_11_code, prog_6_method_5_code, prog_9_method_1_code, prog_6_method_7_code, prog_2_method_9_code, prog_2_method_11_code, prog_9_method_2_code, prog_6_method_6_code, prog_2_method_10_code, prog_5_method_4_code, prog_5_method_5_code, prog_9_method_4_code, prog_5_method_2_code, prog_2_method_4_code, prog_2_method_3_code, prog_3_method_2_code, prog_1_method_4_code, prog_11_method_2_code, prog_1_method_15_code, prog_11_method_3_code, prog_11_method_4_code, prog_1_method_6_code, prog_1_method_7_code, prog_4_method_2_code, prog_4_method_6_code, prog_10_method_4_code, prog_10_method_2_code, prog_12_method_3_code, prog_12_method_2_code, prog_10_method_8_code, prog_10_method_9_code, prog_10_method_7_code, prog_4_method_3_code, prog_4_method_7_code, prog_10_method_3_code, prog_10_method_5_code, prog_4_method_9_code, prog_4_method_10_code, prog_10_method_6_code, prog_4_method_8_code, prog_4_method_4_code, prog_1_method_8_code, prog_7_method_2_code, prog_7_method_3_code, prog_7_method_4_code, prog_3_method_10_code, prog_3_method_11_code, prog_7_method_7_code, prog_7_method_8_code, prog_7_method_6_code, prog_3_method_9_code, prog_7_method_5_code, prog_14_method_1_code, prog_14_method_2_code, prog_14_method_5_code, prog_14_method_4_code, prog_14_method_24_code, prog_14_method_23_code, prog_14_method_16_code, prog_14_method_6_code, prog_14_method_15_code, prog_14_method_7_code, prog_14_method_8_code, prog_14_method_9_code, prog_14_method_20_code, prog_14_method_18_code, prog_14_method_19_code, prog_14_method_17_code, prog_14_method_12_code, prog_14_method_10_code, prog_14_method_11_code, prog_14_method_14_code, prog_14_method_13_code, prog_14_method_22_code, prog_14_method_21_code, prog_14_method_3_code, prog_14_method_25_code, prog_14_method_27_code, prog_14_method_26_code, prog_14_method_28_code, prog_14_method_29_code, prog_14_method_32_code, prog_14_method_31_code, prog_14_method_30_code, prog_14_method_47_code, prog_14_method_46_code, prog_14_method_37_code, prog_14_method_36_code, prog_14_method_41_code, prog_14_method_39_code, prog_14_method_40_code, prog_14_method_45_code, prog_14_method_33_code, prog_14_method_44_code, prog_14_method_43_code, prog_14_method_42_code, prog_14_method_38_code, prog_14_method_35_code, prog_14_method_34_code, prog_14_method_48_code, prog_14_method_54_code, prog_14_method_52_code, prog_14_method_50_code, prog_14_method_51_code, prog_14_method_49_code, prog_14_method_53_code, prog_14_method_55_code, prog_14_method_56_code, prog_14_method_57_code, prog_14_method_58_code, prog_14_method_59_code, method_3_code, method_4_code, method_5_code, method_6_code, method_7_code]
def cd_bt (y : Nat) : ByteArray := cd_btL.getD y ByteArray.empty
def cd_mlL : List Nat := [7, 1, 1, 2, 1, 3, 4, 4, 1, 2, 3, 5, 1, 1, 3, 1, 3, 4, 2, 4, 2, 3, 2, 3, 1, 6, 3, 6, 4, 3, 3, 3, 4, 1, 2, 2, 3, 3, 4, 3, 1, 1, 2, 1, 2, 2, 3, 4, 5, 4, 2, 4, 2, 7, 2, 2, 4, 3, 2, 1, 1, 3, 3, 1, 3, 3, 3, 2, 4, 2, 2, 4, 2, 4, 2, 1, 3, 2, 5, 7, 3, 2, 3, 11, 3, 8, 6, 2, 2, 4, 4, 2, 6, 3, 5, 1, 5, 4, 1, 1, 4, 3, 3, 4, 1, 2, 1, 2, 3, 2, 3, 9, 3, 3, 3, 1, 5, 2, 1, 6, 5, 2, 3, 3, 4, 1, 2, 3, 5, 2, 4, 2, 4, 2, 5, 3, 4, 6, 2, 13, 2, 5, 3, 5, 2, 3, 2, 3, 4, 2, 7, 4, 1, 3, 3, 2, 5, 3, 3, 3, 5, 3]
def cd_ml (y : Nat) : Nat := cd_mlL.getD y 0
def cd_rttL : List (Option FieldType) := [(some .boolean), none, none, none, none, none, none, none, none, none, (some .boolean), (some .boolean), none, (some .int), (some .boolean), (some .boolean), (some .boolean), (some .int), (some (.object "ChainDesk$Phrase")), (some .int), (some .int), (some .int), (some (.object "ChainDesk$Declaration")), (some .int), (some .boolean), (some .int), (some .boolean), (some (.object "ChainDesk$Member")), (some (.object "ChainDesk$Member")), (some .boolean), (some .boolean), (some .int), (some (.object "ChainDesk$Declaration")), (some .int), (some .boolean), (some .boolean), none, (some .boolean), (some .boolean), (some .boolean), (some .int), (some .byte), (some .char), (some .boolean), (some .char), none, (some .int), (some (.object "ChainDesk$Member")), none, (some .boolean), (some .int), (some .int), none, (some (.object "ChainDesk$Member")), (some .int), (some .boolean), (some .boolean), (some .boolean), (some .boolean), (some .boolean), none, (some .boolean), (some .int), (some .boolean), (some .boolean), (some .boolean), (some .int), none, (some .int), none, none, none, none, none, (some .boolean), (some .boolean), (some .boolean), none, none, none, none, none, none, none, none, none, (some .int), (some .int), (some .int), (some .int), (some .int), (some (.object "ChainDesk$Member")), (some (.object "ChainDesk$Member")), (some .int), (some .boolean), (some (.object "ChainDesk$Kind")), (some (.object "ChainDesk$Member")), (some .int), none, (some .int), (some .boolean), (some .boolean), (some .int), (some .int), (some .int), (some .char), (some .boolean), none, (some .boolean), none, none, (some .boolean), none, (some .int), (some .int), (some .boolean), (some .int), (some .int), (some .boolean), (some .boolean), (some .boolean), (some .int), none, (some .int), (some .int), none, none, (some .boolean), (some .boolean), (some .int), (some .int), none, none, none, none, (some .boolean), none, none, (some .boolean), none, (some .int), none, none, (some .boolean), (some .boolean), none, (some .int), (some .int), (some .int), (some .int), (some .int), (some .int), (some .int), (some .int), (some .int), (some .int), (some .int), (some .int), (some .int), (some .int), (some .int), (some .int)]
def cd_rtt (y : Nat) : Option FieldType := cd_rttL.getD y none
def cd_rt (y : Nat) : FieldType := (cd_rtt y).getD .int
def cd_mcL : List Nat := [54, 0, 1, 2, 9, 5, 6, 3, 8, 10, 0, 1, 0, 0, 0, 0, 2, 0, 3, 0, 8, 0, 2, 0, 0, 2, 2, 2, 4, 7, 2, 0, 5, 1, 1, 1, 4, 5, 5, 1, 50, 50, 50, 50, 51, 50, 52, 5, 7, 5, 1, 1, 7, 5, 1, 4, 4, 7, 4, 1, 1, 2, 0, 9, 0, 9, 9, 0, 0, 3, 3, 8, 8, 10, 10, 8, 8, 8, 3, 3, 8, 8, 3, 3, 8, 3, 3, 0, 6, 6, 6, 2, 2, 6, 6, 6, 2, 6, 11, 11, 11, 11, 11, 11, 11, 11, 11, 11, 11, 11, 11, 11, 11, 11, 11, 11, 11, 11, 11, 11, 11, 11, 11, 11, 11, 11, 11, 11, 11, 11, 11, 11, 11, 11, 11, 11, 11, 11, 11, 11, 11, 11, 11, 11, 11, 11, 11, 11, 11, 11, 11, 11, 11, 11, 11, 11, 11, 54, 54, 54, 54, 54]
def cd_mc (y : Nat) : Nat := cd_mcL.getD y 99
/-- handlers: from, to, handler, entry; class -/
def cd_hsL : List (List ((Nat × Nat × Nat × Nat) × Nat)) := [[], [], [], [], [], [], [], [], [], [], [], [], [], [], [], [], [], [], [], [], [], [], [], [], [], [], [], [], [], [], [], [], [], [], [], [], [], [], [], [], [], [], [], [], [], [], [], [], [], [], [], [], [], [], [], [], [], [], [], [], [], [], [], [], [], [], [], [], [], [], [], [], [], [], [], [], [], [], [], [], [], [], [], [], [], [], [], [], [], [], [], [], [], [], [], [], [], [], [], [], [], [], [], [], [], [], [], [], [], [], [], [], [], [], [], [], [], [], [], [], [], [], [], [], [], [], [], [], [], [], [], [], [], [], [], [], [], [], [], [], [], [], [], [], [], [], [], [], [], [], [], [], [], [], [], [], [], [((0, 8, 11, 13), 12), ((0, 8, 14, 15), 13)], [((0, 8, 11, 13), 12), ((0, 8, 14, 15), 13)], [((0, 5, 8, 13), 12)], [((0, 10, 13, 13), 12)], [((0, 8, 11, 13), 12)]]
def cd_hs (y : Nat) : List ((Nat × Nat × Nat × Nat) × Nat) := cd_hsL.getD y []
end
section
/-- ChainDeskLaw.law([I)Z -/
def cd_r0 : List (Nat × Instr × Nat × Nat × List Nat) := [
  (0, .new 8, 0, 0, [85, 86, 60]), (3, .dup, 0, 0, []), (4, .invokespecial 31, 1, 0, [87, 88, 60, 89]), (7, .astore_n 1, 0, 0, []),
  (8, .new 32, 11, 0, [862, 863, 69]), (11, .dup, 0, 0, []), (12, .invokespecial 34, 98, 0, [864, 865, 69, 866]), (15, .astore_n 2, 0, 0, []),
  (16, .iconst 1, 0, 0, []), (17, .newarray .long, 0, 0, [1214]), (19, .astore_n 3, 0, 0, []), (20, .iconst 0, 0, 0, []),
  (21, .istore 4, 0, 0, []), (23, .iload 4, 0, 0, []), (25, .aload_n 0, 0, 0, []), (26, .arraylength, 0, 0, []),
  (27, .iconst 3, 0, 0, []), (28, .isub, 0, 0, []), (29, .if_icmp .gt 551, 580, 0, []), (32, .aload_n 0, 0, 0, []),
  (33, .iload 4, 0, 0, []), (35, .iaload, 0, 0, []), (36, .bipush 15, 0, 0, []), (38, .iand, 0, 0, []),
  (39, .tableswitch 535 0 12 #[65, 102, 146, 190, 201, 237, 305, 349, 362, 399, 436, 473, 498], 0, 0, []), (104, .aload_n 1, 0, 0, []), (105, .aload_n 0, 0, 0, []), (106, .iload 4, 0, 0, []),
  (108, .iconst 1, 0, 0, []), (109, .iadd, 0, 0, []), (110, .iaload, 0, 0, []), (111, .aload_n 0, 0, 0, []),
  (112, .iload 4, 0, 0, []), (114, .iconst 2, 0, 0, []), (115, .iadd, 0, 0, []), (116, .iaload, 0, 0, []),
  (117, .invokevirtual 35, 10, 2, [277, 278, 279, 60, 280]), (120, .aload_n 2, 0, 0, []), (121, .aload_n 0, 0, 0, []), (122, .iload 4, 0, 0, []),
  (124, .iconst 1, 0, 0, []), (125, .iadd, 0, 0, []), (126, .iaload, 0, 0, []), (127, .aload_n 0, 0, 0, []),
  (128, .iload 4, 0, 0, []), (130, .iconst 2, 0, 0, []), (131, .iadd, 0, 0, []), (132, .iaload, 0, 0, []),
  (133, .invokevirtual 39, 100, 2, [991, 992, 993, 69, 994]), (136, .if_icmp .eq 438, 574, 0, []), (139, .iconst 0, 0, 0, []), (140, .ireturn, 0, 0, []),
  (141, .aload_n 1, 0, 0, []), (142, .aload_n 3, 0, 0, []), (143, .invokestatic 40, 157, 2, [366, 367, 59, 368]), (146, .istore 5, 0, 0, []),
  (148, .aload_n 2, 0, 0, []), (149, .invokevirtual 45, 102, 0, [998, 999, 1000, 69, 1001]), (152, .istore 6, 0, 0, []), (154, .aload_n 2, 0, 0, []),
  (155, .invokevirtual 46, 99, 0, [987, 988, 989, 69, 990]), (158, .iload 5, 0, 0, []), (160, .if_icmp .eq 5, 165, 0, []), (163, .iconst 0, 0, 0, []),
  (164, .ireturn, 0, 0, []), (165, .iload 5, 0, 0, []), (167, .ifCond .ne 15, 182, 0, []), (170, .aload_n 3, 0, 0, []),
  (171, .iconst 0, 0, 0, []), (172, .laload, 0, 0, []), (173, .iload 6, 0, 0, []), (175, .i2l, 0, 0, []),
  (176, .lcmp, 0, 0, []), (177, .ifCond .eq 5, 182, 0, []), (180, .iconst 0, 0, 0, []), (181, .ireturn, 0, 0, []),
  (182, .goto 392, 574, 0, []), (185, .aload_n 1, 0, 0, []), (186, .aload_n 3, 0, 0, []), (187, .invokestatic 49, 158, 2, [673, 674, 59, 675]),
  (190, .istore 5, 0, 0, []), (192, .aload_n 2, 0, 0, []), (193, .invokevirtual 51, 123, 0, [1078, 1079, 1080, 69, 1081]), (196, .istore 6, 0, 0, []),
  (198, .aload_n 2, 0, 0, []), (199, .invokevirtual 46, 99, 0, [987, 988, 989, 69, 990]), (202, .iload 5, 0, 0, []), (204, .if_icmp .eq 5, 209, 0, []),
  (207, .iconst 0, 0, 0, []), (208, .ireturn, 0, 0, []), (209, .iload 5, 0, 0, []), (211, .ifCond .ne 15, 226, 0, []),
  (214, .aload_n 3, 0, 0, []), (215, .iconst 0, 0, 0, []), (216, .laload, 0, 0, []), (217, .iload 6, 0, 0, []),
  (219, .i2l, 0, 0, []), (220, .lcmp, 0, 0, []), (221, .ifCond .eq 5, 226, 0, []), (224, .iconst 0, 0, 0, []),
  (225, .ireturn, 0, 0, []), (226, .goto 348, 574, 0, []), (229, .aload_n 1, 0, 0, []), (230, .invokevirtual 52, 12, 0, [285, 286, 287, 60, 288]),
  (233, .aload_n 2, 0, 0, []), (234, .invokevirtual 55, 125, 0, [1086, 1087, 1088, 69, 1089]), (237, .goto 337, 574, 0, []), (240, .aload_n 1, 0, 0, []),
  (241, .aload_n 0, 0, 0, []), (242, .iload 4, 0, 0, []), (244, .iconst 1, 0, 0, []), (245, .iadd, 0, 0, []),
  (246, .iaload, 0, 0, []), (247, .invokestatic 56, 159, 2, [700, 701, 59, 702]), (250, .istore 5, 0, 0, []), (252, .aload_n 2, 0, 0, []),
  (253, .aload_n 0, 0, 0, []), (254, .iload 4, 0, 0, []), (256, .iconst 1, 0, 0, []), (257, .iadd, 0, 0, []),
  (258, .iaload, 0, 0, []), (259, .invokevirtual 59, 126, 1, [1090, 1091, 1092, 69, 1093]), (262, .aload_n 2, 0, 0, []), (263, .invokevirtual 46, 99, 0, [987, 988, 989, 69, 990]),
  (266, .iload 5, 0, 0, []), (268, .if_icmp .eq 5, 273, 0, []), (271, .iconst 0, 0, 0, []), (272, .ireturn, 0, 0, []),
  (273, .goto 301, 574, 0, []), (276, .aload_n 1, 0, 0, []), (277, .aload_n 0, 0, 0, []), (278, .iload 4, 0, 0, []),
  (280, .iconst 1, 0, 0, []), (281, .iadd, 0, 0, []), (282, .iaload, 0, 0, []), (283, .aload_n 0, 0, 0, []),
  (284, .iload 4, 0, 0, []), (286, .iconst 2, 0, 0, []), (287, .iadd, 0, 0, []), (288, .iaload, 0, 0, []),
  (289, .aload_n 3, 0, 0, []), (290, .invokestatic 60, 160, 4, [707, 708, 59, 709]), (293, .istore 5, 0, 0, []), (295, .aload_n 2, 0, 0, []),
  (296, .aload_n 0, 0, 0, []), (297, .iload 4, 0, 0, []), (299, .iconst 1, 0, 0, []), (300, .iadd, 0, 0, []),
  (301, .iaload, 0, 0, []), (302, .aload_n 0, 0, 0, []), (303, .iload 4, 0, 0, []), (305, .iconst 2, 0, 0, []),
  (306, .iadd, 0, 0, []), (307, .iaload, 0, 0, []), (308, .invokevirtual 63, 130, 2, [1106, 1107, 1108, 69, 1109]), (311, .istore 6, 0, 0, []),
  (313, .aload_n 2, 0, 0, []), (314, .invokevirtual 46, 99, 0, [987, 988, 989, 69, 990]), (317, .iload 5, 0, 0, []), (319, .if_icmp .eq 5, 324, 0, []),
  (322, .iconst 0, 0, 0, []), (323, .ireturn, 0, 0, []), (324, .iload 5, 0, 0, []), (326, .ifCond .ne 15, 341, 0, []),
  (329, .aload_n 3, 0, 0, []), (330, .iconst 0, 0, 0, []), (331, .laload, 0, 0, []), (332, .iload 6, 0, 0, []),
  (334, .i2l, 0, 0, []), (335, .lcmp, 0, 0, []), (336, .ifCond .eq 5, 341, 0, []), (339, .iconst 0, 0, 0, []),
  (340, .ireturn, 0, 0, []), (341, .goto 233, 574, 0, []), (344, .aload_n 1, 0, 0, []), (345, .aload_n 3, 0, 0, []),
  (346, .invokestatic 64, 161, 2, [803, 804, 59, 805]), (349, .istore 5, 0, 0, []), (351, .aload_n 2, 0, 0, []), (352, .invokevirtual 66, 146, 0, [1170, 1171, 1172, 69, 1173]),
  (355, .istore 6, 0, 0, []), (357, .aload_n 2, 0, 0, []), (358, .invokevirtual 46, 99, 0, [987, 988, 989, 69, 990]), (361, .iload 5, 0, 0, []),
  (363, .if_icmp .eq 5, 368, 0, []), (366, .iconst 0, 0, 0, []), (367, .ireturn, 0, 0, []), (368, .iload 5, 0, 0, []),
  (370, .ifCond .ne 15, 385, 0, []), (373, .aload_n 3, 0, 0, []), (374, .iconst 0, 0, 0, []), (375, .laload, 0, 0, []),
  (376, .iload 6, 0, 0, []), (378, .i2l, 0, 0, []), (379, .lcmp, 0, 0, []), (380, .ifCond .eq 5, 385, 0, []),
  (383, .iconst 0, 0, 0, []), (384, .ireturn, 0, 0, []), (385, .goto 189, 574, 0, []), (388, .aload_n 1, 0, 0, []),
  (389, .invokevirtual 67, 13, 0, [289, 290, 291, 60, 292]), (392, .aload_n 2, 0, 0, []), (393, .invokevirtual 70, 152, 0, [1194, 1195, 1196, 69, 1197]), (396, .if_icmp .eq 178, 574, 0, []),
  (399, .iconst 0, 0, 0, []), (400, .ireturn, 0, 0, []), (401, .aload_n 1, 0, 0, []), (402, .aload_n 0, 0, 0, []),
  (403, .iload 4, 0, 0, []), (405, .iconst 1, 0, 0, []), (406, .iadd, 0, 0, []), (407, .iaload, 0, 0, []),
  (408, .aload_n 0, 0, 0, []), (409, .iload 4, 0, 0, []), (411, .iconst 2, 0, 0, []), (412, .iadd, 0, 0, []),
  (413, .iaload, 0, 0, []), (414, .invokevirtual 71, 14, 2, [293, 294, 295, 60, 296]), (417, .aload_n 2, 0, 0, []), (418, .aload_n 0, 0, 0, []),
  (419, .iload 4, 0, 0, []), (421, .iconst 1, 0, 0, []), (422, .iadd, 0, 0, []), (423, .iaload, 0, 0, []),
  (424, .aload_n 0, 0, 0, []), (425, .iload 4, 0, 0, []), (427, .iconst 2, 0, 0, []), (428, .iadd, 0, 0, []),
  (429, .iaload, 0, 0, []), (430, .invokevirtual 74, 127, 2, [1094, 1095, 1096, 69, 1097]), (433, .if_icmp .eq 141, 574, 0, []), (436, .iconst 0, 0, 0, []),
  (437, .ireturn, 0, 0, []), (438, .aload_n 1, 0, 0, []), (439, .aload_n 0, 0, 0, []), (440, .iload 4, 0, 0, []),
  (442, .iconst 1, 0, 0, []), (443, .iadd, 0, 0, []), (444, .iaload, 0, 0, []), (445, .aload_n 0, 0, 0, []),
  (446, .iload 4, 0, 0, []), (448, .iconst 2, 0, 0, []), (449, .iadd, 0, 0, []), (450, .iaload, 0, 0, []),
  (451, .invokevirtual 75, 17, 2, [304, 305, 306, 60, 307]), (454, .aload_n 2, 0, 0, []), (455, .aload_n 0, 0, 0, []), (456, .iload 4, 0, 0, []),
  (458, .iconst 1, 0, 0, []), (459, .iadd, 0, 0, []), (460, .iaload, 0, 0, []), (461, .aload_n 0, 0, 0, []),
  (462, .iload 4, 0, 0, []), (464, .iconst 2, 0, 0, []), (465, .iadd, 0, 0, []), (466, .iaload, 0, 0, []),
  (467, .invokevirtual 78, 153, 2, [1198, 1199, 1200, 69, 1201]), (470, .if_icmp .eq 104, 574, 0, []), (473, .iconst 0, 0, 0, []), (474, .ireturn, 0, 0, []),
  (475, .aload_n 1, 0, 0, []), (476, .aload_n 0, 0, 0, []), (477, .iload 4, 0, 0, []), (479, .iconst 1, 0, 0, []),
  (480, .iadd, 0, 0, []), (481, .iaload, 0, 0, []), (482, .aload_n 0, 0, 0, []), (483, .iload 4, 0, 0, []),
  (485, .iconst 2, 0, 0, []), (486, .iadd, 0, 0, []), (487, .iaload, 0, 0, []), (488, .invokevirtual 79, 19, 2, [312, 313, 314, 60, 315]),
  (491, .aload_n 2, 0, 0, []), (492, .aload_n 0, 0, 0, []), (493, .iload 4, 0, 0, []), (495, .iconst 1, 0, 0, []),
  (496, .iadd, 0, 0, []), (497, .iaload, 0, 0, []), (498, .aload_n 0, 0, 0, []), (499, .iload 4, 0, 0, []),
  (501, .iconst 2, 0, 0, []), (502, .iadd, 0, 0, []), (503, .iaload, 0, 0, []), (504, .invokevirtual 82, 154, 2, [1202, 1203, 1204, 69, 1205]),
  (507, .if_icmp .eq 67, 574, 0, []), (510, .iconst 0, 0, 0, []), (511, .ireturn, 0, 0, []), (512, .aload_n 1, 0, 0, []),
  (513, .aload_n 0, 0, 0, []), (514, .iload 4, 0, 0, []), (516, .iconst 1, 0, 0, []), (517, .iadd, 0, 0, []),
  (518, .iaload, 0, 0, []), (519, .invokevirtual 83, 21, 1, [320, 321, 322, 60, 323]), (522, .aload_n 2, 0, 0, []), (523, .aload_n 0, 0, 0, []),
  (524, .iload 4, 0, 0, []), (526, .iconst 1, 0, 0, []), (527, .iadd, 0, 0, []), (528, .iaload, 0, 0, []),
  (529, .invokevirtual 87, 155, 1, [1206, 1207, 1208, 69, 1209]), (532, .if_icmp .eq 42, 574, 0, []), (535, .iconst 0, 0, 0, []), (536, .ireturn, 0, 0, []),
  (537, .aload_n 1, 0, 0, []), (538, .aload_n 0, 0, 0, []), (539, .iload 4, 0, 0, []), (541, .iconst 1, 0, 0, []),
  (542, .iadd, 0, 0, []), (543, .iaload, 0, 0, []), (544, .aload_n 0, 0, 0, []), (545, .iload 4, 0, 0, []),
  (547, .iconst 2, 0, 0, []), (548, .iadd, 0, 0, []), (549, .iaload, 0, 0, []), (550, .invokevirtual 88, 23, 2, [328, 329, 330, 60, 331]),
  (553, .aload_n 2, 0, 0, []), (554, .aload_n 0, 0, 0, []), (555, .iload 4, 0, 0, []), (557, .iconst 1, 0, 0, []),
  (558, .iadd, 0, 0, []), (559, .iaload, 0, 0, []), (560, .aload_n 0, 0, 0, []), (561, .iload 4, 0, 0, []),
  (563, .iconst 2, 0, 0, []), (564, .iadd, 0, 0, []), (565, .iaload, 0, 0, []), (566, .invokevirtual 91, 156, 2, [1210, 1211, 1212, 69, 1213]),
  (569, .if_icmp .eq 5, 574, 0, []), (572, .iconst 0, 0, 0, []), (573, .ireturn, 0, 0, []), (574, .iinc 4 3, 0, 0, []),
  (577, .goto (-554), 23, 0, []), (580, .iconst 1, 0, 0, []), (581, .ireturn, 0, 0, [])
  ]
/-- ChainDesk.<init>()V -/
def cd_r1 : List (Nat × Instr × Nat × Nat × List Nat) := [
  (0, .aload_n 0, 0, 0, []), (1, .invokespecial 1, 1000, 0, [90, 91, 92]), (4, .aload_n 0, 0, 0, []), (5, .new 7, 1, 0, [93, 94, 61]),
  (8, .dup, 0, 0, []), (9, .invokespecial 9, 2, 0, [95, 96, 61, 97]), (12, .putfield 10, 0, 0, [255]), (15, .aload_n 0, 0, 0, []),
  (16, .new 16, 2, 0, [110, 111, 62]), (19, .dup, 0, 0, []), (20, .invokespecial 18, 3, 0, [112, 113, 62, 114]), (23, .putfield 19, 0, 1, [256]),
  (26, .aload_n 0, 0, 0, []), (27, .new 23, 9, 0, [130, 131, 63]), (30, .dup, 0, 0, []), (31, .invokespecial 25, 4, 0, [132, 133, 63, 134]),
  (34, .putfield 26, 0, 2, [257]), (37, .aload_n 0, 0, 0, []), (38, .new 30, 5, 0, [150, 151, 64]), (41, .dup, 0, 0, []),
  (42, .aload_n 0, 0, 0, []), (43, .getfield 10, 0, 0, [255]), (46, .aload_n 0, 0, 0, []), (47, .getfield 19, 0, 1, [256]),
  (50, .invokespecial 32, 5, 2, [152, 153, 64, 154]), (53, .putfield 35, 0, 3, [258]), (56, .aload_n 0, 0, 0, []), (57, .new 39, 6, 0, [163, 164, 65]),
  (60, .dup, 0, 0, []), (61, .aload_n 0, 0, 0, []), (62, .getfield 10, 0, 0, [255]), (65, .aload_n 0, 0, 0, []),
  (66, .getfield 19, 0, 1, [256]), (69, .aload_n 0, 0, 0, []), (70, .getfield 26, 0, 2, [257]), (73, .invokespecial 41, 6, 3, [165, 166, 65, 167]),
  (76, .putfield 44, 0, 4, [259]), (79, .aload_n 0, 0, 0, []), (80, .new 48, 3, 0, [183, 184, 66]), (83, .dup, 0, 0, []),
  (84, .aload_n 0, 0, 0, []), (85, .getfield 19, 0, 1, [256]), (88, .aload_n 0, 0, 0, []), (89, .getfield 26, 0, 2, [257]),
  (92, .invokespecial 50, 7, 2, [185, 186, 66, 187]), (95, .putfield 53, 0, 5, [260]), (98, .aload_n 0, 0, 0, []), (99, .iconst 0, 0, 0, []),
  (100, .putfield 57, 0, 6, [261]), (103, .return_, 0, 0, [])
  ]
/-- ChainDesk$Buffer.<init>()V -/
def cd_r2 : List (Nat × Instr × Nat × Nat × List Nat) := [
  (0, .aload_n 0, 0, 0, []), (1, .invokespecial 3, 1000, 0, [98, 91, 92]), (4, .aload_n 0, 0, 0, []), (5, .bipush 120, 0, 0, []),
  (7, .newarray .char, 0, 0, [109]), (9, .putfield 9, 1, 0, [99]), (12, .return_, 0, 0, [])
  ]
/-- ChainDesk$Catalog.<init>()V -/
def cd_r3 : List (Nat × Instr × Nat × Nat × List Nat) := [
  (0, .aload_n 0, 0, 0, []), (1, .invokespecial 3, 1000, 0, [115, 91, 92]), (4, .aload_n 0, 0, 0, []), (5, .bipush 10, 0, 0, []),
  (7, .anewarray 9, 4, 0, [116, 117]), (10, .putfield 11, 2, 0, [118]), (13, .aload_n 0, 0, 0, []), (14, .bipush 13, 0, 0, []),
  (16, .newarray .int, 0, 0, [129]), (18, .putfield 17, 2, 1, [119]), (21, .aload_n 0, 0, 0, []), (22, .iconst (-1), 0, 0, []),
  (23, .putfield 21, 2, 2, [120]), (26, .iconst 0, 0, 0, []), (27, .istore_n 1, 0, 0, []), (28, .iload_n 1, 0, 0, []),
  (29, .bipush 13, 0, 0, []), (31, .if_icmp .ge 18, 49, 0, []), (34, .aload_n 0, 0, 0, []), (35, .getfield 17, 2, 1, [119]),
  (38, .iload_n 1, 0, 0, []), (39, .iconst 1, 0, 0, []), (40, .iload_n 1, 0, 0, []), (41, .ishl, 0, 0, []),
  (42, .iastore, 0, 0, []), (43, .iinc 1 1, 0, 0, []), (46, .goto (-18), 28, 0, []), (49, .aload_n 0, 0, 0, []),
  (50, .getfield 17, 2, 1, [119]), (53, .iconst 0, 0, 0, []), (54, .dup2, 0, 0, []), (55, .iaload, 0, 0, []),
  (56, .iconst 2, 0, 0, []), (57, .ior, 0, 0, []), (58, .iastore, 0, 0, []), (59, .return_, 0, 0, [])
  ]
/-- ChainDesk$Scope.<init>()V -/
def cd_r4 : List (Nat × Instr × Nat × Nat × List Nat) := [
  (0, .aload_n 0, 0, 0, []), (1, .invokespecial 3, 1000, 0, [135, 91, 92]), (4, .aload_n 0, 0, 0, []), (5, .iconst 5, 0, 0, []),
  (6, .newarray .int, 0, 0, [129]), (8, .putfield 9, 9, 0, [136]), (11, .aload_n 0, 0, 0, []), (12, .iconst 5, 0, 0, []),
  (13, .newarray .int, 0, 0, [129]), (15, .putfield 15, 9, 1, [138]), (18, .return_, 0, 0, [])
  ]
/-- ChainDesk$DeclarationReader.<init>(LChainDesk$Buffer;LChainDesk$Catalog;)V -/
def cd_r5 : List (Nat × Instr × Nat × Nat × List Nat) := [
  (0, .aload_n 0, 0, 0, []), (1, .invokespecial 3, 1000, 0, [155, 91, 92]), (4, .aload_n 0, 0, 0, []), (5, .aload_n 1, 0, 0, []),
  (6, .putfield 9, 5, 0, [156]), (9, .aload_n 0, 0, 0, []), (10, .aload_n 2, 0, 0, []), (11, .putfield 15, 5, 1, [157]),
  (14, .return_, 0, 0, [])
  ]
/-- ChainDesk$ExpressionReader.<init>(LChainDesk$Buffer;LChainDesk$Catalog;LChainDesk$Scope;)V -/
def cd_r6 : List (Nat × Instr × Nat × Nat × List Nat) := [
  (0, .aload_n 0, 0, 0, []), (1, .invokespecial 3, 1000, 0, [168, 91, 92]), (4, .aload_n 0, 0, 0, []), (5, .aload_n 1, 0, 0, []),
  (6, .putfield 9, 6, 0, [169]), (9, .aload_n 0, 0, 0, []), (10, .aload_n 2, 0, 0, []), (11, .putfield 15, 6, 1, [170]),
  (14, .aload_n 0, 0, 0, []), (15, .aload_n 3, 0, 0, []), (16, .putfield 19, 6, 2, [171]), (19, .return_, 0, 0, [])
  ]
/-- ChainDesk$Completer.<init>(LChainDesk$Catalog;LChainDesk$Scope;)V -/
def cd_r7 : List (Nat × Instr × Nat × Nat × List Nat) := [
  (0, .aload_n 0, 0, 0, []), (1, .invokespecial 3, 1000, 0, [188, 91, 92]), (4, .aload_n 0, 0, 0, []), (5, .iconst 4, 0, 0, []),
  (6, .anewarray 9, 10, 0, [189, 190]), (9, .putfield 11, 3, 2, [235]), (12, .aload_n 0, 0, 0, []), (13, .bipush 10, 0, 0, []),
  (15, .anewarray 17, 8, 0, [191, 192]), (18, .putfield 19, 3, 3, [236]), (21, .aload_n 0, 0, 0, []), (22, .new 17, 8, 0, [191, 193, 67]),
  (25, .dup, 0, 0, []), (26, .invokespecial 23, 8, 0, [194, 195, 67, 196]), (29, .putfield 24, 3, 4, [237]), (32, .aload_n 0, 0, 0, []),
  (33, .aload_n 1, 0, 0, []), (34, .putfield 28, 3, 0, [233]), (37, .aload_n 0, 0, 0, []), (38, .aload_n 2, 0, 0, []),
  (39, .putfield 32, 3, 1, [234]), (42, .iconst 0, 0, 0, []), (43, .istore_n 3, 0, 0, []), (44, .iload_n 3, 0, 0, []),
  (45, .aload_n 0, 0, 0, []), (46, .getfield 11, 3, 2, [235]), (49, .arraylength, 0, 0, []), (50, .if_icmp .ge 22, 72, 0, []),
  (53, .aload_n 0, 0, 0, []), (54, .getfield 11, 3, 2, [235]), (57, .iload_n 3, 0, 0, []), (58, .new 9, 10, 0, [189, 217, 68]),
  (61, .dup, 0, 0, []), (62, .invokespecial 36, 9, 0, [218, 219, 68, 220]), (65, .aastore, 0, 0, []), (66, .iinc 3 1, 0, 0, []),
  (69, .goto (-25), 44, 0, []), (72, .aload_n 0, 0, 0, []), (73, .aload_n 0, 0, 0, []), (74, .getfield 11, 3, 2, [235]),
  (77, .iconst 0, 0, 0, []), (78, .aaload, 0, 0, []), (79, .putfield 37, 3, 5, [238]), (82, .return_, 0, 0, [])
  ]
/-- ChainDesk$Phrase.<init>()V -/
def cd_r8 : List (Nat × Instr × Nat × Nat × List Nat) := [
  (0, .aload_n 0, 0, 0, []), (1, .invokespecial 3, 1000, 0, [197, 91, 92]), (4, .aload_n 0, 0, 0, []), (5, .bipush 25, 0, 0, []),
  (7, .newarray .char, 0, 0, [109]), (9, .putfield 9, 8, 0, [198]), (12, .return_, 0, 0, [])
  ]
/-- ChainDesk$Shelf.<init>()V -/
def cd_r9 : List (Nat × Instr × Nat × Nat × List Nat) := [
  (0, .aload_n 0, 0, 0, []), (1, .invokespecial 3, 1000, 0, [221, 91, 92]), (4, .aload_n 0, 0, 0, []), (5, .bipush 8, 0, 0, []),
  (7, .anewarray 9, 8, 0, [222, 192]), (10, .putfield 11, 10, 0, [224]), (13, .iconst 0, 0, 0, []), (14, .istore_n 1, 0, 0, []),
  (15, .iload_n 1, 0, 0, []), (16, .aload_n 0, 0, 0, []), (17, .getfield 11, 10, 0, [224]), (20, .arraylength, 0, 0, []),
  (21, .if_icmp .ge 22, 43, 0, []), (24, .aload_n 0, 0, 0, []), (25, .getfield 11, 10, 0, [224]), (28, .iload_n 1, 0, 0, []),
  (29, .new 9, 8, 0, [222, 193, 67]), (32, .dup, 0, 0, []), (33, .invokespecial 17, 8, 0, [223, 195, 67, 196]), (36, .aastore, 0, 0, []),
  (37, .iinc 1 1, 0, 0, []), (40, .goto (-25), 15, 0, []), (43, .return_, 0, 0, [])
  ]
/-- ChainDesk.put(II)Z -/
def cd_r10 : List (Nat × Instr × Nat × Nat × List Nat) := [
  (0, .aload_n 0, 0, 0, []), (1, .getfield 10, 0, 0, [255]), (4, .iload_n 1, 0, 0, []), (5, .iload_n 2, 0, 0, []),
  (6, .invokevirtual 61, 11, 2, [281, 282, 283, 61, 284]), (9, .ireturn, 0, 0, [])
  ]
/-- ChainDesk$Buffer.append(II)Z -/
def cd_r11 : List (Nat × Instr × Nat × Nat × List Nat) := [
  (0, .iload_n 2, 0, 0, []), (1, .iconst 1, 0, 0, []), (2, .if_icmp .lt 19, 21, 0, []), (5, .iload_n 2, 0, 0, []),
  (6, .iconst 4, 0, 0, []), (7, .if_icmp .gt 14, 21, 0, []), (10, .iload_n 2, 0, 0, []), (11, .bipush 120, 0, 0, []),
  (13, .aload_n 0, 0, 0, []), (14, .getfield 15, 1, 1, [100]), (17, .isub, 0, 0, []), (18, .if_icmp .le 5, 23, 0, []),
  (21, .iconst 0, 0, 0, []), (22, .ireturn, 0, 0, []), (23, .iconst 0, 0, 0, []), (24, .istore_n 3, 0, 0, []),
  (25, .iload_n 3, 0, 0, []), (26, .iload_n 2, 0, 0, []), (27, .if_icmp .ge 55, 82, 0, []), (30, .iload_n 1, 0, 0, []),
  (31, .bipush 8, 0, 0, []), (33, .iload_n 2, 0, 0, []), (34, .iconst 1, 0, 0, []), (35, .isub, 0, 0, []),
  (36, .iload_n 3, 0, 0, []), (37, .isub, 0, 0, []), (38, .imul, 0, 0, []), (39, .ishr, 0, 0, []),
  (40, .sipush 255, 0, 0, []), (43, .iand, 0, 0, []), (44, .istore 4, 0, 0, []), (46, .iload 4, 0, 0, []),
  (48, .bipush 32, 0, 0, []), (50, .if_icmp .lt 10, 60, 0, []), (53, .iload 4, 0, 0, []), (55, .bipush 126, 0, 0, []),
  (57, .if_icmp .le 5, 62, 0, []), (60, .iconst 0, 0, 0, []), (61, .ireturn, 0, 0, []), (62, .aload_n 0, 0, 0, []),
  (63, .getfield 9, 1, 0, [99]), (66, .aload_n 0, 0, 0, []), (67, .getfield 15, 1, 1, [100]), (70, .iload_n 3, 0, 0, []),
  (71, .iadd, 0, 0, []), (72, .iload 4, 0, 0, []), (74, .i2c, 0, 0, []), (75, .castore, 0, 0, []),
  (76, .iinc 3 1, 0, 0, []), (79, .goto (-54), 25, 0, []), (82, .aload_n 0, 0, 0, []), (83, .dup, 0, 0, []),
  (84, .getfield 15, 1, 1, [100]), (87, .iload_n 2, 0, 0, []), (88, .iadd, 0, 0, []), (89, .putfield 15, 1, 1, [100]),
  (92, .iconst 1, 0, 0, []), (93, .ireturn, 0, 0, [])
  ]
/-- ChainDesk.forget()V -/
def cd_r12 : List (Nat × Instr × Nat × Nat × List Nat) := [
  (0, .aload_n 0, 0, 0, []), (1, .getfield 26, 0, 2, [257]), (4, .iconst 0, 0, 0, []), (5, .putfield 100, 9, 2, [142]),
  (8, .return_, 0, 0, [])
  ]
/-- ChainDesk.checkedCost()I -/
def cd_r13 : List (Nat × Instr × Nat × Nat × List Nat) := [
  (0, .aload_n 0, 0, 0, []), (1, .getfield 57, 0, 6, [261]), (4, .ireturn, 0, 0, [])
  ]
/-- ChainDesk.fits(II)Z -/
def cd_r14 : List (Nat × Instr × Nat × Nat × List Nat) := [
  (0, .iload_n 1, 0, 0, []), (1, .invokestatic 108, 15, 1, [297, 298, 60, 299]), (4, .ifCond .eq 26, 30, 0, []), (7, .iload_n 2, 0, 0, []),
  (8, .invokestatic 108, 15, 1, [297, 298, 60, 299]), (11, .ifCond .eq 19, 30, 0, []), (14, .aload_n 0, 0, 0, []), (15, .getfield 19, 0, 1, [256]),
  (18, .iload_n 1, 0, 0, []), (19, .iload_n 2, 0, 0, []), (20, .invokevirtual 129, 16, 2, [300, 301, 302, 62, 303]), (23, .ifCond .eq 7, 30, 0, []),
  (26, .iconst 1, 0, 0, []), (27, .goto 4, 31, 0, []), (30, .iconst 0, 0, 0, []), (31, .ireturn, 0, 0, [])
  ]
/-- ChainDesk.isType(I)Z -/
def cd_r15 : List (Nat × Instr × Nat × Nat × List Nat) := [
  (0, .iload_n 0, 0, 0, []), (1, .ifCond .lt 13, 14, 0, []), (4, .iload_n 0, 0, 0, []), (5, .bipush 13, 0, 0, []),
  (7, .if_icmp .ge 7, 14, 0, []), (10, .iconst 1, 0, 0, []), (11, .goto 4, 15, 0, []), (14, .iconst 0, 0, 0, []),
  (15, .ireturn, 0, 0, [])
  ]
/-- ChainDesk$Catalog.isFitting(II)Z -/
def cd_r16 : List (Nat × Instr × Nat × Nat × List Nat) := [
  (0, .aload_n 0, 0, 0, []), (1, .getfield 17, 2, 1, [119]), (4, .iload_n 1, 0, 0, []), (5, .iaload, 0, 0, []),
  (6, .iload_n 2, 0, 0, []), (7, .ishr, 0, 0, []), (8, .iconst 1, 0, 0, []), (9, .iand, 0, 0, []),
  (10, .iconst 1, 0, 0, []), (11, .if_icmp .ne 7, 18, 0, []), (14, .iconst 1, 0, 0, []), (15, .goto 4, 19, 0, []),
  (18, .iconst 0, 0, 0, []), (19, .ireturn, 0, 0, [])
  ]
/-- ChainDesk.proposal(II)I -/
def cd_r17 : List (Nat × Instr × Nat × Nat × List Nat) := [
  (0, .aload_n 0, 0, 0, []), (1, .getfield 53, 0, 5, [260]), (4, .iload_n 1, 0, 0, []), (5, .invokevirtual 132, 18, 1, [308, 309, 310, 66, 311]),
  (8, .astore_n 3, 0, 0, []), (9, .aload_n 3, 0, 0, []), (10, .ifnonnull 5, 15, 0, []), (13, .iconst (-1), 0, 0, []),
  (14, .ireturn, 0, 0, []), (15, .iload_n 2, 0, 0, []), (16, .tableswitch 43 0 2 #[28, 33, 38], 0, 0, []), (44, .aload_n 3, 0, 0, []),
  (45, .getfield 136, 8, 1, [201]), (48, .ireturn, 0, 0, []), (49, .aload_n 3, 0, 0, []), (50, .getfield 141, 8, 3, [207]),
  (53, .ireturn, 0, 0, []), (54, .aload_n 3, 0, 0, []), (55, .getfield 142, 8, 2, [204]), (58, .ireturn, 0, 0, []),
  (59, .iconst (-1), 0, 0, []), (60, .ireturn, 0, 0, [])
  ]
/-- ChainDesk$Completer.proposed(I)LChainDesk$Phrase; -/
def cd_r18 : List (Nat × Instr × Nat × Nat × List Nat) := [
  (0, .iload_n 1, 0, 0, []), (1, .ifCond .lt 20, 21, 0, []), (4, .iload_n 1, 0, 0, []), (5, .aload_n 0, 0, 0, []),
  (6, .getfield 83, 3, 6, [239]), (9, .if_icmp .ge 12, 21, 0, []), (12, .aload_n 0, 0, 0, []), (13, .getfield 19, 3, 3, [236]),
  (16, .iload_n 1, 0, 0, []), (17, .aaload, 0, 0, []), (18, .goto 4, 22, 0, []), (21, .aconst_null, 0, 0, []),
  (22, .areturn, 0, 0, [])
  ]
/-- ChainDesk.letter(II)I -/
def cd_r19 : List (Nat × Instr × Nat × Nat × List Nat) := [
  (0, .aload_n 0, 0, 0, []), (1, .getfield 53, 0, 5, [260]), (4, .iload_n 1, 0, 0, []), (5, .invokevirtual 132, 18, 1, [308, 309, 310, 66, 311]),
  (8, .astore_n 3, 0, 0, []), (9, .aload_n 3, 0, 0, []), (10, .ifnonnull 7, 17, 0, []), (13, .iconst 0, 0, 0, []),
  (14, .goto 8, 22, 0, []), (17, .aload_n 3, 0, 0, []), (18, .iload_n 2, 0, 0, []), (19, .invokevirtual 145, 20, 1, [316, 317, 318, 67, 319]),
  (22, .ireturn, 0, 0, [])
  ]
/-- ChainDesk$Phrase.letterAt(I)I -/
def cd_r20 : List (Nat × Instr × Nat × Nat × List Nat) := [
  (0, .iload_n 1, 0, 0, []), (1, .ifCond .lt 20, 21, 0, []), (4, .iload_n 1, 0, 0, []), (5, .aload_n 0, 0, 0, []),
  (6, .getfield 15, 8, 1, [199]), (9, .if_icmp .ge 12, 21, 0, []), (12, .aload_n 0, 0, 0, []), (13, .getfield 9, 8, 0, [198]),
  (16, .iload_n 1, 0, 0, []), (17, .caload, 0, 0, []), (18, .goto 4, 22, 0, []), (21, .iconst 0, 0, 0, []),
  (22, .ireturn, 0, 0, [])
  ]
/-- ChainDesk.members(I)I -/
def cd_r21 : List (Nat × Instr × Nat × Nat × List Nat) := [
  (0, .aload_n 0, 0, 0, []), (1, .getfield 19, 0, 1, [256]), (4, .iload_n 1, 0, 0, []), (5, .invokevirtual 149, 22, 1, [324, 325, 326, 62, 327]),
  (8, .astore_n 2, 0, 0, []), (9, .aload_n 2, 0, 0, []), (10, .ifnonnull 7, 17, 0, []), (13, .iconst (-1), 0, 0, []),
  (14, .goto 7, 21, 0, []), (17, .aload_n 2, 0, 0, []), (18, .getfield 89, 4, 3, [411]), (21, .ireturn, 0, 0, [])
  ]
/-- ChainDesk$Catalog.declared(I)LChainDesk$Declaration; -/
def cd_r22 : List (Nat × Instr × Nat × Nat × List Nat) := [
  (0, .iload_n 1, 0, 0, []), (1, .ifCond .lt 21, 22, 0, []), (4, .iload_n 1, 0, 0, []), (5, .aload_n 0, 0, 0, []),
  (6, .getfield 11, 2, 0, [118]), (9, .arraylength, 0, 0, []), (10, .if_icmp .ge 12, 22, 0, []), (13, .aload_n 0, 0, 0, []),
  (14, .getfield 11, 2, 0, [118]), (17, .iload_n 1, 0, 0, []), (18, .aaload, 0, 0, []), (19, .goto 4, 23, 0, []),
  (22, .aconst_null, 0, 0, []), (23, .areturn, 0, 0, [])
  ]
/-- ChainDesk.seen(II)I -/
def cd_r23 : List (Nat × Instr × Nat × Nat × List Nat) := [
  (0, .iload_n 1, 0, 0, []), (1, .invokestatic 101, 24, 1, [332, 333, 60, 334]), (4, .ifCond .eq 12, 16, 0, []), (7, .iload_n 2, 0, 0, []),
  (8, .ifCond .lt 8, 16, 0, []), (11, .iload_n 2, 0, 0, []), (12, .iconst 1, 0, 0, []), (13, .if_icmp .le 5, 18, 0, []),
  (16, .iconst (-1), 0, 0, []), (17, .ireturn, 0, 0, []), (18, .aload_n 0, 0, 0, []), (19, .getfield 19, 0, 1, [256]),
  (22, .iload_n 1, 0, 0, []), (23, .iload_n 2, 0, 0, []), (24, .ifCond .ne 9, 33, 0, []), (27, .getstatic 153, 0, 0, [335]),
  (30, .goto 6, 36, 0, []), (33, .getstatic 159, 1, 0, [337]), (36, .invokevirtual 162, 25, 2, [339, 340, 341, 62, 342]), (39, .ireturn, 0, 0, [])
  ]
/-- ChainDesk.isClass(I)Z -/
def cd_r24 : List (Nat × Instr × Nat × Nat × List Nat) := [
  (0, .iload_n 0, 0, 0, []), (1, .ifCond .lt 13, 14, 0, []), (4, .iload_n 0, 0, 0, []), (5, .bipush 10, 0, 0, []),
  (7, .if_icmp .ge 7, 14, 0, []), (10, .iconst 1, 0, 0, []), (11, .goto 4, 15, 0, []), (14, .iconst 0, 0, 0, []),
  (15, .ireturn, 0, 0, [])
  ]
/-- ChainDesk$Catalog.countSeen(ILChainDesk$Kind;)I -/
def cd_r25 : List (Nat × Instr × Nat × Nat × List Nat) := [
  (0, .iconst 0, 0, 0, []), (1, .istore_n 3, 0, 0, []), (2, .aload_n 0, 0, 0, []), (3, .iload_n 1, 0, 0, []),
  (4, .invokevirtual 28, 22, 1, [343, 325, 326, 62, 327]), (7, .astore 4, 0, 0, []), (9, .aload 4, 0, 0, []), (11, .ifnull 66, 77, 0, []),
  (14, .iconst 0, 0, 0, []), (15, .istore 5, 0, 0, []), (17, .iload 5, 0, 0, []), (19, .aload 4, 0, 0, []),
  (21, .getfield 69, 4, 3, [413]), (24, .if_icmp .ge 43, 67, 0, []), (27, .aload 4, 0, 0, []), (29, .getfield 72, 4, 2, [409]),
  (32, .iload 5, 0, 0, []), (34, .aaload, 0, 0, []), (35, .getfield 53, 7, 0, [498]), (38, .aload_n 2, 0, 0, []),
  (39, .if_acmp .ne 22, 61, 0, []), (42, .aload_n 0, 0, 0, []), (43, .iload_n 1, 0, 0, []), (44, .aload 4, 0, 0, []),
  (46, .getfield 72, 4, 2, [409]), (49, .iload 5, 0, 0, []), (51, .aaload, 0, 0, []), (52, .invokevirtual 76, 26, 2, [344, 345, 346, 62, 347]),
  (55, .ifCond .eq 6, 61, 0, []), (58, .iinc 3 1, 0, 0, []), (61, .iinc 5 1, 0, 0, []), (64, .goto (-47), 17, 0, []),
  (67, .aload 4, 0, 0, []), (69, .getfield 32, 4, 1, [405]), (72, .astore 4, 0, 0, []), (74, .goto (-65), 9, 0, []),
  (77, .iload_n 3, 0, 0, []), (78, .ireturn, 0, 0, [])
  ]
/-- ChainDesk$Catalog.isSeen(ILChainDesk$Member;)Z -/
def cd_r26 : List (Nat × Instr × Nat × Nat × List Nat) := [
  (0, .aload_n 2, 0, 0, []), (1, .getfield 53, 7, 0, [498]), (4, .getstatic 57, 2, 0, [348]), (7, .if_acmp .eq 24, 31, 0, []),
  (10, .aload_n 0, 0, 0, []), (11, .iload_n 1, 0, 0, []), (12, .aload_n 2, 0, 0, []), (13, .getfield 53, 7, 0, [498]),
  (16, .aload_n 2, 0, 0, []), (17, .getfield 62, 7, 3, [510]), (20, .invokevirtual 65, 27, 3, [350, 351, 352, 62, 353]), (23, .aload_n 2, 0, 0, []),
  (24, .if_acmp .ne 7, 31, 0, []), (27, .iconst 1, 0, 0, []), (28, .goto 4, 32, 0, []), (31, .iconst 0, 0, 0, []),
  (32, .ireturn, 0, 0, [])
  ]
/-- ChainDesk$Catalog.findSeen(ILChainDesk$Kind;I)LChainDesk$Member; -/
def cd_r27 : List (Nat × Instr × Nat × Nat × List Nat) := [
  (0, .aload_n 0, 0, 0, []), (1, .iload_n 1, 0, 0, []), (2, .invokevirtual 28, 22, 1, [343, 325, 326, 62, 327]), (5, .astore 4, 0, 0, []),
  (7, .aload 4, 0, 0, []), (9, .ifnull 49, 58, 0, []), (12, .aload 4, 0, 0, []), (14, .aload_n 2, 0, 0, []),
  (15, .iload_n 3, 0, 0, []), (16, .invokevirtual 42, 28, 2, [354, 355, 356, 70, 357]), (19, .astore 5, 0, 0, []), (21, .aload 5, 0, 0, []),
  (23, .ifnull 25, 48, 0, []), (26, .aload 5, 0, 0, []), (28, .getfield 46, 7, 2, [506]), (31, .ifCond .ne 17, 48, 0, []),
  (34, .aload_n 0, 0, 0, []), (35, .aload 4, 0, 0, []), (37, .aload 5, 0, 0, []), (39, .invokevirtual 49, 30, 2, [362, 363, 364, 62, 365]),
  (42, .ifCond .eq 6, 48, 0, []), (45, .aload 5, 0, 0, []), (47, .areturn, 0, 0, []), (48, .aload 4, 0, 0, []),
  (50, .getfield 32, 4, 1, [405]), (53, .astore 4, 0, 0, []), (55, .goto (-48), 7, 0, []), (58, .aconst_null, 0, 0, []),
  (59, .areturn, 0, 0, [])
  ]
/-- ChainDesk$Declaration.find(LChainDesk$Kind;I)LChainDesk$Member; -/
def cd_r28 : List (Nat × Instr × Nat × Nat × List Nat) := [
  (0, .iconst 0, 0, 0, []), (1, .istore_n 3, 0, 0, []), (2, .iload_n 3, 0, 0, []), (3, .aload_n 0, 0, 0, []),
  (4, .getfield 25, 4, 3, [410]), (7, .if_icmp .ge 30, 37, 0, []), (10, .aload_n 0, 0, 0, []), (11, .getfield 11, 4, 2, [407]),
  (14, .iload_n 3, 0, 0, []), (15, .aaload, 0, 0, []), (16, .aload_n 1, 0, 0, []), (17, .iload_n 2, 0, 0, []),
  (18, .invokevirtual 28, 29, 2, [358, 359, 360, 75, 361]), (21, .ifCond .eq 10, 31, 0, []), (24, .aload_n 0, 0, 0, []), (25, .getfield 11, 4, 2, [407]),
  (28, .iload_n 3, 0, 0, []), (29, .aaload, 0, 0, []), (30, .areturn, 0, 0, []), (31, .iinc 3 1, 0, 0, []),
  (34, .goto (-32), 2, 0, []), (37, .aconst_null, 0, 0, []), (38, .areturn, 0, 0, [])
  ]
/-- ChainDesk$Member.isNamed(LChainDesk$Kind;I)Z -/
def cd_r29 : List (Nat × Instr × Nat × Nat × List Nat) := [
  (0, .aload_n 0, 0, 0, []), (1, .getfield 15, 7, 0, [496]), (4, .aload_n 1, 0, 0, []), (5, .if_acmp .ne 15, 20, 0, []),
  (8, .aload_n 0, 0, 0, []), (9, .getfield 26, 7, 3, [508]), (12, .iload_n 2, 0, 0, []), (13, .if_icmp .ne 7, 20, 0, []),
  (16, .iconst 1, 0, 0, []), (17, .goto 4, 21, 0, []), (20, .iconst 0, 0, 0, []), (21, .ireturn, 0, 0, [])
  ]
/-- ChainDesk$Catalog.isUsable(LChainDesk$Declaration;LChainDesk$Member;)Z -/
def cd_r30 : List (Nat × Instr × Nat × Nat × List Nat) := [
  (0, .aload_n 2, 0, 0, []), (1, .getfield 36, 7, 1, [502]), (4, .ifCond .eq 14, 18, 0, []), (7, .aload_n 1, 0, 0, []),
  (8, .getfield 25, 4, 0, [402]), (11, .aload_n 0, 0, 0, []), (12, .getfield 21, 2, 2, [120]), (15, .if_icmp .ne 7, 22, 0, []),
  (18, .iconst 1, 0, 0, []), (19, .goto 4, 23, 0, []), (22, .iconst 0, 0, 0, []), (23, .ireturn, 0, 0, [])
  ]
/-- ChainDesk.declare()I -/
def cd_r31 : List (Nat × Instr × Nat × Nat × List Nat) := [
  (0, .aload_n 0, 0, 0, []), (1, .getfield 35, 0, 3, [258]), (4, .invokevirtual 65, 32, 0, [375, 376, 377, 64, 378]), (7, .astore_n 1, 0, 0, []),
  (8, .aload_n 1, 0, 0, []), (9, .ifnull 28, 37, 0, []), (12, .aload_n 0, 0, 0, []), (13, .getfield 35, 0, 3, [258]),
  (16, .aload_n 1, 0, 0, []), (17, .invokevirtual 69, 37, 1, [423, 424, 425, 64, 426]), (20, .ifCond .eq 17, 37, 0, []), (23, .aload_n 0, 0, 0, []),
  (24, .getfield 10, 0, 0, [255]), (27, .invokevirtual 73, 59, 0, [584, 585, 586, 61, 587]), (30, .ifCond .eq 7, 37, 0, []), (33, .iconst 1, 0, 0, []),
  (34, .goto 4, 38, 0, []), (37, .iconst 0, 0, 0, []), (38, .istore_n 2, 0, 0, []), (39, .aload_n 0, 0, 0, []),
  (40, .getfield 10, 0, 0, [255]), (43, .invokevirtual 77, 60, 0, [588, 589, 590, 61, 591]), (46, .iload_n 2, 0, 0, []), (47, .ifCond .ne 11, 58, 0, []),
  (50, .new 80, 12, 82, [592, 593, 81]), (58, .aload_n 0, 0, 0, []), (59, .getfield 19, 0, 1, [256]), (62, .aload_n 1, 0, 0, []),
  (63, .invokevirtual 83, 61, 1, [654, 655, 656, 62, 657]), (66, .ifCond .ne 11, 77, 0, []), (69, .new 86, 13, 88, [658, 659, 82]), (77, .aload_n 1, 0, 0, []),
  (78, .getfield 89, 4, 3, [411]), (81, .ireturn, 0, 0, [])
  ]
/-- ChainDesk$DeclarationReader.readHead()LChainDesk$Declaration; -/
def cd_r32 : List (Nat × Instr × Nat × Nat × List Nat) := [
  (0, .aload_n 0, 0, 0, []), (1, .getfield 9, 5, 0, [156]), (4, .invokevirtual 19, 33, 0, [379, 380, 381, 61, 382]), (7, .istore_n 1, 0, 0, []),
  (8, .iload_n 1, 0, 0, []), (9, .iconst (-1), 0, 0, []), (10, .if_icmp .eq 19, 29, 0, []), (13, .aload_n 0, 0, 0, []),
  (14, .getfield 9, 5, 0, [156]), (17, .bipush 58, 0, 0, []), (19, .invokevirtual 25, 34, 1, [384, 385, 386, 61, 387]), (22, .ifCond .eq 7, 29, 0, []),
  (25, .iconst 1, 0, 0, []), (26, .goto 4, 30, 0, []), (29, .iconst 0, 0, 0, []), (30, .istore_n 2, 0, 0, []),
  (31, .iload_n 2, 0, 0, []), (32, .ifCond .eq 20, 52, 0, []), (35, .aload_n 0, 0, 0, []), (36, .getfield 15, 5, 1, [157]),
  (39, .aload_n 0, 0, 0, []), (40, .getfield 9, 5, 0, [156]), (43, .invokevirtual 19, 33, 0, [379, 380, 381, 61, 382]), (46, .invokevirtual 29, 22, 1, [392, 325, 326, 62, 327]),
  (49, .goto 4, 53, 0, []), (52, .aconst_null, 0, 0, []), (53, .astore_n 3, 0, 0, []), (54, .iload_n 1, 0, 0, []),
  (55, .iconst (-1), 0, 0, []), (56, .if_icmp .eq 23, 79, 0, []), (59, .iload_n 2, 0, 0, []), (60, .ifCond .eq 7, 67, 0, []),
  (63, .aload_n 3, 0, 0, []), (64, .ifnull 15, 79, 0, []), (67, .aload_n 0, 0, 0, []), (68, .getfield 9, 5, 0, [156]),
  (71, .bipush 123, 0, 0, []), (73, .invokevirtual 25, 34, 1, [384, 385, 386, 61, 387]), (76, .ifCond .ne 5, 81, 0, []), (79, .aconst_null, 0, 0, []),
  (80, .areturn, 0, 0, []), (81, .new 35, 4, 0, [393, 394, 70]), (84, .dup, 0, 0, []), (85, .iload_n 1, 0, 0, []),
  (86, .aload_n 3, 0, 0, []), (87, .invokespecial 37, 36, 2, [395, 396, 70, 397]), (90, .areturn, 0, 0, [])
  ]
/-- ChainDesk$Buffer.takeClass()I -/
def cd_r33 : List (Nat × Instr × Nat × Nat × List Nat) := [
  (0, .aload_n 0, 0, 0, []), (1, .getfield 19, 1, 2, [101]), (4, .aload_n 0, 0, 0, []), (5, .getfield 15, 1, 1, [100]),
  (8, .if_icmp .eq 21, 29, 0, []), (11, .aload_n 0, 0, 0, []), (12, .getfield 9, 1, 0, [99]), (15, .aload_n 0, 0, 0, []),
  (16, .getfield 19, 1, 2, [101]), (19, .caload, 0, 0, []), (20, .bipush 65, 0, 0, []), (22, .isub, 0, 0, []),
  (23, .invokestatic 35, 24, 1, [383, 333, 60, 334]), (26, .ifCond .ne 5, 31, 0, []), (29, .iconst (-1), 0, 0, []), (30, .ireturn, 0, 0, []),
  (31, .aload_n 0, 0, 0, []), (32, .getfield 9, 1, 0, [99]), (35, .aload_n 0, 0, 0, []), (36, .dup, 0, 0, []),
  (37, .getfield 19, 1, 2, [101]), (40, .dup_x1, 0, 0, []), (41, .iconst 1, 0, 0, []), (42, .iadd, 0, 0, []),
  (43, .putfield 19, 1, 2, [101]), (46, .caload, 0, 0, []), (47, .bipush 65, 0, 0, []), (49, .isub, 0, 0, []),
  (50, .ireturn, 0, 0, [])
  ]
/-- ChainDesk$Buffer.take(C)Z -/
def cd_r34 : List (Nat × Instr × Nat × Nat × List Nat) := [
  (0, .aload_n 0, 0, 0, []), (1, .iload_n 1, 0, 0, []), (2, .invokevirtual 22, 35, 1, [388, 389, 390, 61, 391]), (5, .ifCond .ne 5, 10, 0, []),
  (8, .iconst 0, 0, 0, []), (9, .ireturn, 0, 0, []), (10, .aload_n 0, 0, 0, []), (11, .dup, 0, 0, []),
  (12, .getfield 19, 1, 2, [101]), (15, .iconst 1, 0, 0, []), (16, .iadd, 0, 0, []), (17, .putfield 19, 1, 2, [101]),
  (20, .iconst 1, 0, 0, []), (21, .ireturn, 0, 0, [])
  ]
/-- ChainDesk$Buffer.isAt(C)Z -/
def cd_r35 : List (Nat × Instr × Nat × Nat × List Nat) := [
  (0, .aload_n 0, 0, 0, []), (1, .getfield 19, 1, 2, [101]), (4, .aload_n 0, 0, 0, []), (5, .getfield 15, 1, 1, [100]),
  (8, .if_icmp .ge 20, 28, 0, []), (11, .aload_n 0, 0, 0, []), (12, .getfield 9, 1, 0, [99]), (15, .aload_n 0, 0, 0, []),
  (16, .getfield 19, 1, 2, [101]), (19, .caload, 0, 0, []), (20, .iload_n 1, 0, 0, []), (21, .if_icmp .ne 7, 28, 0, []),
  (24, .iconst 1, 0, 0, []), (25, .goto 4, 29, 0, []), (28, .iconst 0, 0, 0, []), (29, .ireturn, 0, 0, [])
  ]
/-- ChainDesk$Declaration.<init>(ILChainDesk$Declaration;)V -/
def cd_r36 : List (Nat × Instr × Nat × Nat × List Nat) := [
  (0, .aload_n 0, 0, 0, []), (1, .invokespecial 3, 1000, 0, [398, 91, 92]), (4, .aload_n 0, 0, 0, []), (5, .bipush 6, 0, 0, []),
  (7, .anewarray 9, 7, 0, [399, 400]), (10, .putfield 11, 4, 2, [407]), (13, .aload_n 0, 0, 0, []), (14, .iload_n 1, 0, 0, []),
  (15, .putfield 17, 4, 0, [401]), (18, .aload_n 0, 0, 0, []), (19, .aload_n 2, 0, 0, []), (20, .putfield 21, 4, 1, [404]),
  (23, .return_, 0, 0, [])
  ]
/-- ChainDesk$DeclarationReader.readMembers(LChainDesk$Declaration;)Z -/
def cd_r37 : List (Nat × Instr × Nat × Nat × List Nat) := [
  (0, .aload_n 0, 0, 0, []), (1, .getfield 9, 5, 0, [156]), (4, .bipush 125, 0, 0, []), (6, .invokevirtual 25, 34, 1, [384, 385, 386, 61, 387]),
  (9, .ifCond .eq 5, 14, 0, []), (12, .iconst 1, 0, 0, []), (13, .ireturn, 0, 0, []), (14, .iconst 0, 0, 0, []),
  (15, .istore_n 2, 0, 0, []), (16, .iload_n 2, 0, 0, []), (17, .bipush 6, 0, 0, []), (19, .if_icmp .ge 41, 60, 0, []),
  (22, .aload_n 0, 0, 0, []), (23, .aload_n 1, 0, 0, []), (24, .invokevirtual 40, 38, 1, [427, 429, 0, 64, 430]), (27, .ifCond .ne 5, 32, 0, []),
  (30, .iconst 0, 0, 0, []), (31, .ireturn, 0, 0, []), (32, .aload_n 0, 0, 0, []), (33, .getfield 9, 5, 0, [156]),
  (36, .bipush 59, 0, 0, []), (38, .invokevirtual 25, 34, 1, [384, 385, 386, 61, 387]), (41, .ifCond .ne 13, 54, 0, []), (44, .aload_n 0, 0, 0, []),
  (45, .getfield 9, 5, 0, [156]), (48, .bipush 125, 0, 0, []), (50, .invokevirtual 25, 34, 1, [384, 385, 386, 61, 387]), (53, .ireturn, 0, 0, []),
  (54, .iinc 2 1, 0, 0, []), (57, .goto (-41), 16, 0, []), (60, .iconst 0, 0, 0, []), (61, .ireturn, 0, 0, [])
  ]
/-- ChainDesk$DeclarationReader.readMember(LChainDesk$Declaration;)Z -/
def cd_r38 : List (Nat × Instr × Nat × Nat × List Nat) := [
  (0, .aload_n 0, 0, 0, []), (1, .getfield 9, 5, 0, [156]), (4, .ldc 44, 10, 0, [431]), (6, .invokevirtual 46, 39, 1, [432, 433, 434, 61, 435]),
  (9, .istore_n 2, 0, 0, []), (10, .aload_n 0, 0, 0, []), (11, .getfield 9, 5, 0, [156]), (14, .ldc 50, 11, 0, [484]),
  (16, .invokevirtual 46, 39, 1, [432, 433, 434, 61, 435]), (19, .ifCond .eq 15, 34, 0, []), (22, .aload_n 0, 0, 0, []), (23, .iload_n 2, 0, 0, []),
  (24, .aload_n 1, 0, 0, []), (25, .getfield 52, 4, 0, [403]), (28, .invokevirtual 56, 47, 2, [485, 487, 1, 64, 488]), (31, .goto 8, 39, 0, []),
  (34, .aload_n 0, 0, 0, []), (35, .iload_n 2, 0, 0, []), (36, .invokevirtual 60, 53, 1, [555, 557, 4, 64, 558]), (39, .astore_n 3, 0, 0, []),
  (40, .aload_n 3, 0, 0, []), (41, .ifnull 23, 64, 0, []), (44, .aload_n 1, 0, 0, []), (45, .aload_n 3, 0, 0, []),
  (46, .invokevirtual 64, 55, 1, [566, 567, 568, 70, 569]), (49, .ifCond .eq 15, 64, 0, []), (52, .aload_n 1, 0, 0, []), (53, .aload_n 3, 0, 0, []),
  (54, .invokevirtual 68, 58, 1, [580, 581, 582, 70, 583]), (57, .ifCond .eq 7, 64, 0, []), (60, .iconst 1, 0, 0, []), (61, .goto 4, 65, 0, []),
  (64, .iconst 0, 0, 0, []), (65, .ireturn, 0, 0, [])
  ]
/-- ChainDesk$Buffer.takeText(Ljava/lang/String;)Z -/
def cd_r39 : List (Nat × Instr × Nat × Nat × List Nat) := [
  (0, .aload_n 1, 0, 0, []), (1, .invokevirtual 26, 40, 0, [436, 437, 438, 71, 439]), (4, .aload_n 0, 0, 0, []), (5, .getfield 15, 1, 1, [100]),
  (8, .aload_n 0, 0, 0, []), (9, .getfield 19, 1, 2, [101]), (12, .isub, 0, 0, []), (13, .if_icmp .le 5, 18, 0, []),
  (16, .iconst 0, 0, 0, []), (17, .ireturn, 0, 0, []), (18, .iconst 0, 0, 0, []), (19, .istore_n 2, 0, 0, []),
  (20, .iload_n 2, 0, 0, []), (21, .aload_n 1, 0, 0, []), (22, .invokevirtual 26, 40, 0, [436, 437, 438, 71, 439]), (25, .if_icmp .ge 30, 55, 0, []),
  (28, .aload_n 0, 0, 0, []), (29, .getfield 9, 1, 0, [99]), (32, .aload_n 0, 0, 0, []), (33, .getfield 19, 1, 2, [101]),
  (36, .iload_n 2, 0, 0, []), (37, .iadd, 0, 0, []), (38, .caload, 0, 0, []), (39, .aload_n 1, 0, 0, []),
  (40, .iload_n 2, 0, 0, []), (41, .invokevirtual 31, 42, 1, [446, 447, 448, 71, 449]), (44, .if_icmp .eq 5, 49, 0, []), (47, .iconst 0, 0, 0, []),
  (48, .ireturn, 0, 0, []), (49, .iinc 2 1, 0, 0, []), (52, .goto (-32), 20, 0, []), (55, .aload_n 0, 0, 0, []),
  (56, .dup, 0, 0, []), (57, .getfield 19, 1, 2, [101]), (60, .aload_n 1, 0, 0, []), (61, .invokevirtual 26, 40, 0, [436, 437, 438, 71, 439]),
  (64, .iadd, 0, 0, []), (65, .putfield 19, 1, 2, [101]), (68, .iconst 1, 0, 0, []), (69, .ireturn, 0, 0, [])
  ]
/-- java/lang/String.length()I -/
def cd_r40 : List (Nat × Instr × Nat × Nat × List Nat) := [
  (0, .aload_n 0, 0, 0, []), (1, .getfield 9, 50, 0, [1216]), (4, .arraylength, 0, 0, []), (5, .aload_n 0, 0, 0, []),
  (6, .invokevirtual 335, 41, 0, [440, 441, 442, 71, 443]), (9, .ishr, 0, 0, []), (10, .ireturn, 0, 0, [])
  ]
/-- java/lang/String.coder()B -/
def cd_r41 : List (Nat × Instr × Nat × Nat × List Nat) := [
  (0, .getstatic 38, 3, 0, [444]), (3, .ifCond .eq 10, 13, 0, []), (6, .aload_n 0, 0, 0, []), (7, .getfield 15, 50, 1, [1217]),
  (10, .goto 4, 14, 0, []), (13, .iconst 1, 0, 0, []), (14, .ireturn, 0, 0, [])
  ]
/-- java/lang/String.charAt(I)C -/
def cd_r42 : List (Nat × Instr × Nat × Nat × List Nat) := [
  (0, .aload_n 0, 0, 0, []), (1, .invokevirtual 492, 43, 0, [450, 451, 452, 71, 453]), (4, .ifCond .eq 12, 16, 0, []), (7, .aload_n 0, 0, 0, []),
  (8, .getfield 9, 50, 0, [1216]), (11, .iload_n 1, 0, 0, []), (12, .invokestatic 495, 44, 2, [454, 455, 72, 456]), (15, .ireturn, 0, 0, []),
  (16, .aload_n 0, 0, 0, []), (17, .getfield 9, 50, 0, [1216]), (20, .iload_n 1, 0, 0, []), (24, .ireturn, 0, 0, [])
  ]
/-- java/lang/String.isLatin1()Z -/
def cd_r43 : List (Nat × Instr × Nat × Nat × List Nat) := [
  (0, .getstatic 38, 3, 0, [444]), (3, .ifCond .eq 14, 17, 0, []), (6, .aload_n 0, 0, 0, []), (7, .getfield 15, 50, 1, [1217]),
  (10, .ifCond .ne 7, 17, 0, []), (13, .iconst 1, 0, 0, []), (14, .goto 4, 18, 0, []), (17, .iconst 0, 0, 0, []),
  (18, .ireturn, 0, 0, [])
  ]
/-- java/lang/StringLatin1.charAt([BI)C -/
def cd_r44 : List (Nat × Instr × Nat × Nat × List Nat) := [
  (0, .iload_n 1, 0, 0, []), (1, .aload_n 0, 0, 0, []), (2, .arraylength, 0, 0, []), (3, .invokestatic 9, 45, 2, [457, 458, 71, 459]),
  (6, .aload_n 0, 0, 0, []), (7, .iload_n 1, 0, 0, []), (8, .baload, 0, 0, []), (9, .sipush 255, 0, 0, []),
  (12, .iand, 0, 0, []), (13, .i2c, 0, 0, []), (14, .ireturn, 0, 0, [])
  ]
/-- java/lang/String.checkIndex(II)V -/
def cd_r45 : List (Nat × Instr × Nat × Nat × List Nat) := [
  (0, .iload_n 0, 0, 0, []), (1, .iload_n 1, 0, 0, []), (2, .getstatic 1053, 4, 0, [460]), (5, .invokestatic 1059, 46, 3, [462, 463, 73, 464]),
  (8, .pop, 0, 0, []), (9, .return_, 0, 0, [])
  ]
/-- jdk/internal/util/Preconditions.checkIndex(IILjava/util/function/BiFunction;)I -/
def cd_r46 : List (Nat × Instr × Nat × Nat × List Nat) := [
  (0, .iload_n 0, 0, 0, []), (1, .ifCond .lt 8, 9, 0, []), (4, .iload_n 0, 0, 0, []), (5, .iload_n 1, 0, 0, []),
  (6, .if_icmp .lt 10, 16, 0, []), (9, .aload_n 2, 0, 0, []), (10, .iload_n 0, 0, 0, []), (11, .iload_n 1, 0, 0, []),
  (15, .athrow, 0, 0, []), (16, .iload_n 0, 0, 0, []), (17, .ireturn, 0, 0, [])
  ]
/-- ChainDesk$DeclarationReader.readMaker(ZI)LChainDesk$Member; -/
def cd_r47 : List (Nat × Instr × Nat × Nat × List Nat) := [
  (0, .new 71, 7, 0, [489, 490, 75]), (3, .dup, 0, 0, []), (4, .getstatic 73, 2, 0, [491]), (7, .iload_n 1, 0, 0, []),
  (8, .iconst 0, 0, 0, []), (9, .iconst 0, 0, 0, []), (10, .invokespecial 79, 48, 4, [492, 493, 75, 494]), (13, .astore_n 3, 0, 0, []),
  (14, .aload_n 3, 0, 0, []), (15, .iconst 3, 0, 0, []), (16, .iload_n 2, 0, 0, []), (17, .iadd, 0, 0, []),
  (18, .putfield 82, 7, 6, [519]), (21, .aload_n 0, 0, 0, []), (22, .aload_n 3, 0, 0, []), (23, .invokevirtual 85, 49, 1, [538, 540, 2, 64, 541]),
  (26, .ifCond .eq 7, 33, 0, []), (29, .aload_n 3, 0, 0, []), (30, .goto 4, 34, 0, []), (33, .aconst_null, 0, 0, []),
  (34, .areturn, 0, 0, [])
  ]
/-- ChainDesk$Member.<init>(LChainDesk$Kind;ZZI)V -/
def cd_r48 : List (Nat × Instr × Nat × Nat × List Nat) := [
  (0, .aload_n 0, 0, 0, []), (1, .invokespecial 3, 1000, 0, [495, 91, 92]), (4, .aload_n 0, 0, 0, []), (5, .iconst 2, 0, 0, []),
  (6, .newarray .int, 0, 0, [129]), (8, .putfield 9, 7, 4, [512]), (11, .aload_n 0, 0, 0, []), (12, .aload_n 1, 0, 0, []),
  (13, .putfield 15, 7, 0, [496]), (16, .aload_n 0, 0, 0, []), (17, .iload_n 2, 0, 0, []), (18, .putfield 19, 7, 1, [501]),
  (21, .aload_n 0, 0, 0, []), (22, .iload_n 3, 0, 0, []), (23, .putfield 23, 7, 2, [504]), (26, .aload_n 0, 0, 0, []),
  (27, .iload 4, 0, 0, []), (29, .putfield 26, 7, 3, [508]), (32, .return_, 0, 0, [])
  ]
/-- ChainDesk$DeclarationReader.readParameters(LChainDesk$Member;)Z -/
def cd_r49 : List (Nat × Instr × Nat × Nat × List Nat) := [
  (0, .aload_n 0, 0, 0, []), (1, .getfield 9, 5, 0, [156]), (4, .bipush 41, 0, 0, []), (6, .invokevirtual 25, 34, 1, [384, 385, 386, 61, 387]),
  (9, .ifCond .eq 5, 14, 0, []), (12, .iconst 1, 0, 0, []), (13, .ireturn, 0, 0, []), (14, .iconst 0, 0, 0, []),
  (15, .istore_n 2, 0, 0, []), (16, .iload_n 2, 0, 0, []), (17, .iconst 2, 0, 0, []), (18, .if_icmp .ge 51, 69, 0, []),
  (21, .aload_n 0, 0, 0, []), (22, .getfield 9, 5, 0, [156]), (25, .invokevirtual 99, 50, 0, [542, 543, 544, 61, 545]), (28, .istore_n 3, 0, 0, []),
  (29, .iload_n 3, 0, 0, []), (30, .iconst (-1), 0, 0, []), (31, .if_icmp .ne 5, 36, 0, []), (34, .iconst 0, 0, 0, []),
  (35, .ireturn, 0, 0, []), (36, .aload_n 1, 0, 0, []), (37, .iload_n 3, 0, 0, []), (38, .invokevirtual 102, 52, 1, [551, 552, 553, 75, 554]),
  (41, .aload_n 0, 0, 0, []), (42, .getfield 9, 5, 0, [156]), (45, .bipush 44, 0, 0, []), (47, .invokevirtual 25, 34, 1, [384, 385, 386, 61, 387]),
  (50, .ifCond .ne 13, 63, 0, []), (53, .aload_n 0, 0, 0, []), (54, .getfield 9, 5, 0, [156]), (57, .bipush 41, 0, 0, []),
  (59, .invokevirtual 25, 34, 1, [384, 385, 386, 61, 387]), (62, .ireturn, 0, 0, []), (63, .iinc 2 1, 0, 0, []), (66, .goto (-50), 16, 0, []),
  (69, .iconst 0, 0, 0, []), (70, .ireturn, 0, 0, [])
  ]
/-- ChainDesk$Buffer.takeType()I -/
def cd_r50 : List (Nat × Instr × Nat × Nat × List Nat) := [
  (0, .aload_n 0, 0, 0, []), (1, .invokevirtual 39, 33, 0, [546, 380, 381, 61, 382]), (4, .istore_n 1, 0, 0, []), (5, .iload_n 1, 0, 0, []),
  (6, .iconst (-1), 0, 0, []), (7, .if_icmp .eq 7, 14, 0, []), (10, .iconst 3, 0, 0, []), (11, .iload_n 1, 0, 0, []),
  (12, .iadd, 0, 0, []), (13, .ireturn, 0, 0, []), (14, .aload_n 0, 0, 0, []), (15, .invokevirtual 42, 51, 0, [547, 549, 3, 61, 550]),
  (18, .lookupswitch 40 #[(6909556, 34), (1651470188, 38), (1819242087, 36)], 0, 0, []), (52, .iconst 0, 0, 0, []), (53, .ireturn, 0, 0, []), (54, .iconst 1, 0, 0, []),
  (55, .ireturn, 0, 0, []), (56, .iconst 2, 0, 0, []), (57, .ireturn, 0, 0, []), (58, .iconst (-1), 0, 0, []),
  (59, .ireturn, 0, 0, [])
  ]
/-- ChainDesk$Buffer.takeWord()I -/
def cd_r51 : List (Nat × Instr × Nat × Nat × List Nat) := [
  (0, .aload_n 0, 0, 0, []), (1, .getfield 19, 1, 2, [101]), (4, .istore_n 1, 0, 0, []), (5, .iconst 0, 0, 0, []),
  (6, .istore_n 2, 0, 0, []), (7, .aload_n 0, 0, 0, []), (8, .getfield 19, 1, 2, [101]), (11, .aload_n 0, 0, 0, []),
  (12, .getfield 15, 1, 1, [100]), (15, .if_icmp .ge 48, 63, 0, []), (18, .aload_n 0, 0, 0, []), (19, .getfield 9, 1, 0, [99]),
  (22, .aload_n 0, 0, 0, []), (23, .getfield 19, 1, 2, [101]), (26, .caload, 0, 0, []), (27, .istore_n 3, 0, 0, []),
  (28, .iload_n 3, 0, 0, []), (29, .bipush 97, 0, 0, []), (31, .if_icmp .lt 32, 63, 0, []), (34, .iload_n 3, 0, 0, []),
  (35, .bipush 122, 0, 0, []), (37, .if_icmp .le 6, 43, 0, []), (40, .goto 23, 63, 0, []), (43, .iload_n 2, 0, 0, []),
  (44, .bipush 8, 0, 0, []), (46, .ishl, 0, 0, []), (47, .iload_n 3, 0, 0, []), (48, .ior, 0, 0, []),
  (49, .istore_n 2, 0, 0, []), (50, .aload_n 0, 0, 0, []), (51, .dup, 0, 0, []), (52, .getfield 19, 1, 2, [101]),
  (55, .iconst 1, 0, 0, []), (56, .iadd, 0, 0, []), (57, .putfield 19, 1, 2, [101]), (60, .goto (-53), 7, 0, []),
  (63, .aload_n 0, 0, 0, []), (64, .getfield 19, 1, 2, [101]), (67, .iload_n 1, 0, 0, []), (68, .isub, 0, 0, []),
  (69, .iconst 4, 0, 0, []), (70, .if_icmp .gt 7, 77, 0, []), (73, .iload_n 2, 0, 0, []), (74, .goto 4, 78, 0, []),
  (77, .iconst 0, 0, 0, []), (78, .ireturn, 0, 0, [])
  ]
/-- ChainDesk$Member.addParameter(I)V -/
def cd_r52 : List (Nat × Instr × Nat × Nat × List Nat) := [
  (0, .aload_n 0, 0, 0, []), (1, .getfield 30, 7, 5, [515]), (4, .aload_n 0, 0, 0, []), (5, .getfield 9, 7, 4, [512]),
  (8, .arraylength, 0, 0, []), (9, .if_icmp .ge 23, 32, 0, []), (12, .aload_n 0, 0, 0, []), (13, .getfield 9, 7, 4, [512]),
  (16, .aload_n 0, 0, 0, []), (17, .getfield 30, 7, 5, [515]), (20, .iload_n 1, 0, 0, []), (21, .iastore, 0, 0, []),
  (22, .aload_n 0, 0, 0, []), (23, .dup, 0, 0, []), (24, .getfield 30, 7, 5, [515]), (27, .iconst 1, 0, 0, []),
  (28, .iadd, 0, 0, []), (29, .putfield 30, 7, 5, [515]), (32, .return_, 0, 0, [])
  ]
/-- ChainDesk$DeclarationReader.readNamed(Z)LChainDesk$Member; -/
def cd_r53 : List (Nat × Instr × Nat × Nat × List Nat) := [
  (0, .aload_n 0, 0, 0, []), (1, .getfield 9, 5, 0, [156]), (4, .ldc 88, 12, 0, [559]), (6, .invokevirtual 46, 39, 1, [432, 433, 434, 61, 435]),
  (9, .istore_n 2, 0, 0, []), (10, .aload_n 0, 0, 0, []), (11, .getfield 9, 5, 0, [156]), (14, .invokevirtual 90, 54, 0, [560, 561, 562, 61, 563]),
  (17, .istore_n 3, 0, 0, []), (18, .iload_n 3, 0, 0, []), (19, .ifCond .ne 5, 24, 0, []), (22, .aconst_null, 0, 0, []),
  (23, .areturn, 0, 0, []), (24, .aload_n 0, 0, 0, []), (25, .getfield 9, 5, 0, [156]), (28, .bipush 40, 0, 0, []),
  (30, .invokevirtual 25, 34, 1, [384, 385, 386, 61, 387]), (33, .istore 4, 0, 0, []), (35, .iload 4, 0, 0, []), (37, .ifCond .eq 9, 46, 0, []),
  (40, .getstatic 93, 1, 0, [564]), (43, .goto 6, 49, 0, []), (46, .getstatic 96, 0, 0, [565]), (49, .astore 5, 0, 0, []),
  (51, .new 71, 7, 0, [489, 490, 75]), (54, .dup, 0, 0, []), (55, .aload 5, 0, 0, []), (57, .iload_n 1, 0, 0, []),
  (58, .iload_n 2, 0, 0, []), (59, .iload_n 3, 0, 0, []), (60, .invokespecial 79, 48, 4, [492, 493, 75, 494]), (63, .astore 6, 0, 0, []),
  (65, .iload 4, 0, 0, []), (67, .ifCond .eq 12, 79, 0, []), (70, .aload_n 0, 0, 0, []), (71, .aload 6, 0, 0, []),
  (73, .invokevirtual 85, 49, 1, [538, 540, 2, 64, 541]), (76, .ifCond .eq 15, 91, 0, []), (79, .aload_n 0, 0, 0, []), (80, .getfield 9, 5, 0, [156]),
  (83, .bipush 58, 0, 0, []), (85, .invokevirtual 25, 34, 1, [384, 385, 386, 61, 387]), (88, .ifCond .ne 5, 93, 0, []), (91, .aconst_null, 0, 0, []),
  (92, .areturn, 0, 0, []), (93, .aload 6, 0, 0, []), (95, .aload_n 0, 0, 0, []), (96, .getfield 9, 5, 0, [156]),
  (99, .invokevirtual 99, 50, 0, [542, 543, 544, 61, 545]), (102, .putfield 82, 7, 6, [519]), (105, .aload 6, 0, 0, []), (107, .getfield 82, 7, 6, [519]),
  (110, .iconst (-1), 0, 0, []), (111, .if_icmp .ne 7, 118, 0, []), (114, .aconst_null, 0, 0, []), (115, .goto 5, 120, 0, []),
  (118, .aload 6, 0, 0, []), (120, .areturn, 0, 0, [])
  ]
/-- ChainDesk$Buffer.takeName()I -/
def cd_r54 : List (Nat × Instr × Nat × Nat × List Nat) := [
  (0, .aload_n 0, 0, 0, []), (1, .invokevirtual 42, 51, 0, [547, 549, 3, 61, 550]), (4, .istore_n 1, 0, 0, []), (5, .iload_n 1, 0, 0, []),
  (6, .lookupswitch 44 #[(6909556, 42), (7234935, 42), (1651470188, 42), (1819242087, 42)], 0, 0, []), (48, .iconst 0, 0, 0, []), (49, .ireturn, 0, 0, []), (50, .iload_n 1, 0, 0, []),
  (51, .ireturn, 0, 0, [])
  ]
/-- ChainDesk$Declaration.allows(LChainDesk$Member;)Z -/
def cd_r55 : List (Nat × Instr × Nat × Nat × List Nat) := [
  (0, .aload_n 0, 0, 0, []), (1, .aload_n 1, 0, 0, []), (2, .getfield 32, 7, 0, [497]), (5, .aload_n 1, 0, 0, []),
  (6, .getfield 36, 7, 3, [509]), (9, .invokevirtual 39, 28, 2, [570, 355, 356, 70, 357]), (12, .ifnull 5, 17, 0, []), (15, .iconst 0, 0, 0, []),
  (16, .ireturn, 0, 0, []), (17, .aload_n 1, 0, 0, []), (18, .getfield 32, 7, 0, [497]), (21, .getstatic 43, 1, 0, [571]),
  (24, .if_acmp .ne 11, 35, 0, []), (27, .aload_n 0, 0, 0, []), (28, .aload_n 1, 0, 0, []), (29, .invokevirtual 48, 56, 1, [572, 574, 5, 70, 575]),
  (32, .ifCond .eq 7, 39, 0, []), (35, .iconst 1, 0, 0, []), (36, .goto 4, 40, 0, []), (39, .iconst 0, 0, 0, []),
  (40, .ireturn, 0, 0, [])
  ]
/-- ChainDesk$Declaration.allowsOverride(LChainDesk$Member;)Z -/
def cd_r56 : List (Nat × Instr × Nat × Nat × List Nat) := [
  (0, .aload_n 0, 0, 0, []), (1, .getfield 21, 4, 1, [404]), (4, .astore_n 2, 0, 0, []), (5, .aload_n 2, 0, 0, []),
  (6, .ifnull 58, 64, 0, []), (9, .aload_n 2, 0, 0, []), (10, .getstatic 43, 1, 0, [571]), (13, .aload_n 1, 0, 0, []),
  (14, .getfield 36, 7, 3, [509]), (17, .invokevirtual 39, 28, 2, [570, 355, 356, 70, 357]), (20, .astore_n 3, 0, 0, []), (21, .aload_n 3, 0, 0, []),
  (22, .ifnull 34, 56, 0, []), (25, .aload_n 3, 0, 0, []), (26, .getfield 52, 7, 1, [503]), (29, .ifCond .ne 27, 56, 0, []),
  (32, .aload_n 3, 0, 0, []), (33, .getfield 56, 7, 2, [505]), (36, .ifCond .ne 18, 54, 0, []), (39, .aload_n 1, 0, 0, []),
  (40, .getfield 56, 7, 2, [505]), (43, .ifCond .ne 11, 54, 0, []), (46, .aload_n 1, 0, 0, []), (47, .aload_n 3, 0, 0, []),
  (48, .invokevirtual 59, 57, 1, [576, 577, 578, 75, 579]), (51, .ifCond .ne 5, 56, 0, []), (54, .iconst 0, 0, 0, []), (55, .ireturn, 0, 0, []),
  (56, .aload_n 2, 0, 0, []), (57, .getfield 21, 4, 1, [404]), (60, .astore_n 2, 0, 0, []), (61, .goto (-56), 5, 0, []),
  (64, .iconst 1, 0, 0, []), (65, .ireturn, 0, 0, [])
  ]
/-- ChainDesk$Member.hasTypesOf(LChainDesk$Member;)Z -/
def cd_r57 : List (Nat × Instr × Nat × Nat × List Nat) := [
  (0, .aload_n 0, 0, 0, []), (1, .getfield 33, 7, 6, [518]), (4, .aload_n 1, 0, 0, []), (5, .getfield 33, 7, 6, [518]),
  (8, .if_icmp .ne 14, 22, 0, []), (11, .aload_n 0, 0, 0, []), (12, .getfield 30, 7, 5, [515]), (15, .aload_n 1, 0, 0, []),
  (16, .getfield 30, 7, 5, [515]), (19, .if_icmp .eq 5, 24, 0, []), (22, .iconst 0, 0, 0, []), (23, .ireturn, 0, 0, []),
  (24, .iconst 0, 0, 0, []), (25, .istore_n 2, 0, 0, []), (26, .iload_n 2, 0, 0, []), (27, .aload_n 0, 0, 0, []),
  (28, .getfield 30, 7, 5, [515]), (31, .if_icmp .ge 26, 57, 0, []), (34, .aload_n 0, 0, 0, []), (35, .getfield 9, 7, 4, [512]),
  (38, .iload_n 2, 0, 0, []), (39, .iaload, 0, 0, []), (40, .aload_n 1, 0, 0, []), (41, .getfield 9, 7, 4, [512]),
  (44, .iload_n 2, 0, 0, []), (45, .iaload, 0, 0, []), (46, .if_icmp .eq 5, 51, 0, []), (49, .iconst 0, 0, 0, []),
  (50, .ireturn, 0, 0, []), (51, .iinc 2 1, 0, 0, []), (54, .goto (-28), 26, 0, []), (57, .iconst 1, 0, 0, []),
  (58, .ireturn, 0, 0, [])
  ]
/-- ChainDesk$Declaration.add(LChainDesk$Member;)Z -/
def cd_r58 : List (Nat × Instr × Nat × Nat × List Nat) := [
  (0, .aload_n 0, 0, 0, []), (1, .getfield 25, 4, 3, [410]), (4, .aload_n 0, 0, 0, []), (5, .getfield 11, 4, 2, [407]),
  (8, .arraylength, 0, 0, []), (9, .if_icmp .ne 5, 14, 0, []), (12, .iconst 0, 0, 0, []), (13, .ireturn, 0, 0, []),
  (14, .aload_n 0, 0, 0, []), (15, .getfield 11, 4, 2, [407]), (18, .aload_n 0, 0, 0, []), (19, .getfield 25, 4, 3, [410]),
  (22, .aload_n 1, 0, 0, []), (23, .aastore, 0, 0, []), (24, .aload_n 0, 0, 0, []), (25, .dup, 0, 0, []),
  (26, .getfield 25, 4, 3, [410]), (29, .iconst 1, 0, 0, []), (30, .iadd, 0, 0, []), (31, .putfield 25, 4, 3, [410]),
  (34, .iconst 1, 0, 0, []), (35, .ireturn, 0, 0, [])
  ]
/-- ChainDesk$Buffer.isAtEnd()Z -/
def cd_r59 : List (Nat × Instr × Nat × Nat × List Nat) := [
  (0, .aload_n 0, 0, 0, []), (1, .getfield 19, 1, 2, [101]), (4, .aload_n 0, 0, 0, []), (5, .getfield 15, 1, 1, [100]),
  (8, .if_icmp .ne 7, 15, 0, []), (11, .iconst 1, 0, 0, []), (12, .goto 4, 16, 0, []), (15, .iconst 0, 0, 0, []),
  (16, .ireturn, 0, 0, [])
  ]
/-- ChainDesk$Buffer.clear()V -/
def cd_r60 : List (Nat × Instr × Nat × Nat × List Nat) := [
  (0, .aload_n 0, 0, 0, []), (1, .iconst 0, 0, 0, []), (2, .putfield 15, 1, 1, [100]), (5, .aload_n 0, 0, 0, []),
  (6, .iconst 0, 0, 0, []), (7, .putfield 19, 1, 2, [101]), (10, .return_, 0, 0, [])
  ]
/-- ChainDesk$Catalog.add(LChainDesk$Declaration;)Z -/
def cd_r61 : List (Nat × Instr × Nat × Nat × List Nat) := [
  (0, .aload_n 0, 0, 0, []), (1, .aload_n 1, 0, 0, []), (2, .getfield 25, 4, 0, [402]), (5, .invokevirtual 28, 22, 1, [343, 325, 326, 62, 327]),
  (8, .ifnull 5, 13, 0, []), (11, .iconst 0, 0, 0, []), (12, .ireturn, 0, 0, []), (13, .aload_n 0, 0, 0, []),
  (14, .getfield 11, 2, 0, [118]), (17, .aload_n 1, 0, 0, []), (18, .getfield 25, 4, 0, [402]), (21, .aload_n 1, 0, 0, []),
  (22, .aastore, 0, 0, []), (23, .aload_n 1, 0, 0, []), (24, .getfield 32, 4, 1, [405]), (27, .astore_n 2, 0, 0, []),
  (28, .aload_n 2, 0, 0, []), (29, .ifnull 28, 57, 0, []), (32, .aload_n 0, 0, 0, []), (33, .getfield 17, 2, 1, [119]),
  (36, .iconst 3, 0, 0, []), (37, .aload_n 1, 0, 0, []), (38, .getfield 25, 4, 0, [402]), (41, .iadd, 0, 0, []),
  (42, .dup2, 0, 0, []), (43, .iaload, 0, 0, []), (44, .aload_n 0, 0, 0, []), (45, .getfield 17, 2, 1, [119]),
  (48, .iconst 3, 0, 0, []), (49, .aload_n 2, 0, 0, []), (50, .getfield 25, 4, 0, [402]), (53, .iadd, 0, 0, []),
  (54, .iaload, 0, 0, []), (55, .ior, 0, 0, []), (56, .iastore, 0, 0, []), (57, .iconst 1, 0, 0, []),
  (58, .ireturn, 0, 0, [])
  ]
/-- ChainDesk.variable()I -/
def cd_r62 : List (Nat × Instr × Nat × Nat × List Nat) := [
  (0, .aload_n 0, 0, 0, []), (1, .getfield 26, 0, 2, [257]), (4, .invokevirtual 94, 63, 0, [680, 681, 682, 63, 683]), (7, .istore_n 1, 0, 0, []),
  (8, .iload_n 1, 0, 0, []), (9, .ifCond .ne 14, 23, 0, []), (12, .aload_n 0, 0, 0, []), (13, .invokevirtual 97, 64, 0, [684, 686, 7, 60, 687]),
  (16, .ifCond .eq 7, 23, 0, []), (19, .iconst 1, 0, 0, []), (20, .goto 4, 24, 0, []), (23, .iconst 0, 0, 0, []),
  (24, .istore_n 2, 0, 0, []), (25, .aload_n 0, 0, 0, []), (26, .getfield 10, 0, 0, [255]), (29, .invokevirtual 77, 60, 0, [588, 589, 590, 61, 591]),
  (32, .iload_n 1, 0, 0, []), (33, .ifCond .eq 11, 44, 0, []), (36, .new 86, 13, 88, [658, 659, 82]), (44, .iload_n 2, 0, 0, []),
  (45, .ifCond .ne 11, 56, 0, []), (48, .new 80, 12, 82, [592, 593, 81]), (56, .aload_n 0, 0, 0, []), (57, .getfield 26, 0, 2, [257]),
  (60, .getfield 100, 9, 2, [142]), (63, .ireturn, 0, 0, [])
  ]
/-- ChainDesk$Scope.isFull()Z -/
def cd_r63 : List (Nat × Instr × Nat × Nat × List Nat) := [
  (0, .aload_n 0, 0, 0, []), (1, .getfield 18, 9, 2, [140]), (4, .iconst 5, 0, 0, []), (5, .if_icmp .ne 7, 12, 0, []),
  (8, .iconst 1, 0, 0, []), (9, .goto 4, 13, 0, []), (12, .iconst 0, 0, 0, []), (13, .ireturn, 0, 0, [])
  ]
/-- ChainDesk.readVariable()Z -/
def cd_r64 : List (Nat × Instr × Nat × Nat × List Nat) := [
  (0, .aload_n 0, 0, 0, []), (1, .getfield 10, 0, 0, [255]), (4, .invokevirtual 166, 54, 0, [688, 561, 562, 61, 563]), (7, .istore_n 1, 0, 0, []),
  (8, .iload_n 1, 0, 0, []), (9, .ifCond .eq 15, 24, 0, []), (12, .aload_n 0, 0, 0, []), (13, .getfield 10, 0, 0, [255]),
  (16, .bipush 58, 0, 0, []), (18, .invokevirtual 169, 34, 1, [689, 385, 386, 61, 387]), (21, .ifCond .ne 5, 26, 0, []), (24, .iconst 0, 0, 0, []),
  (25, .ireturn, 0, 0, []), (26, .aload_n 0, 0, 0, []), (27, .getfield 10, 0, 0, [255]), (30, .invokevirtual 173, 50, 0, [690, 543, 544, 61, 545]),
  (33, .istore_n 2, 0, 0, []), (34, .iload_n 2, 0, 0, []), (35, .iconst (-1), 0, 0, []), (36, .if_icmp .eq 29, 65, 0, []),
  (39, .aload_n 0, 0, 0, []), (40, .getfield 10, 0, 0, [255]), (43, .invokevirtual 73, 59, 0, [584, 585, 586, 61, 587]), (46, .ifCond .eq 19, 65, 0, []),
  (49, .aload_n 0, 0, 0, []), (50, .getfield 26, 0, 2, [257]), (53, .iload_n 1, 0, 0, []), (54, .iload_n 2, 0, 0, []),
  (55, .invokevirtual 176, 65, 2, [691, 692, 693, 63, 694]), (58, .ifCond .eq 7, 65, 0, []), (61, .iconst 1, 0, 0, []), (62, .goto 4, 66, 0, []),
  (65, .iconst 0, 0, 0, []), (66, .ireturn, 0, 0, [])
  ]
/-- ChainDesk$Scope.add(II)Z -/
def cd_r65 : List (Nat × Instr × Nat × Nat × List Nat) := [
  (0, .aload_n 0, 0, 0, []), (1, .invokevirtual 22, 63, 0, [695, 681, 682, 63, 683]), (4, .ifCond .ne 12, 16, 0, []), (7, .aload_n 0, 0, 0, []),
  (8, .iload_n 1, 0, 0, []), (9, .invokevirtual 26, 66, 1, [696, 697, 698, 63, 699]), (12, .iconst (-1), 0, 0, []), (13, .if_icmp .eq 5, 18, 0, []),
  (16, .iconst 0, 0, 0, []), (17, .ireturn, 0, 0, []), (18, .aload_n 0, 0, 0, []), (19, .getfield 9, 9, 0, [136]),
  (22, .aload_n 0, 0, 0, []), (23, .getfield 18, 9, 2, [140]), (26, .iload_n 1, 0, 0, []), (27, .iastore, 0, 0, []),
  (28, .aload_n 0, 0, 0, []), (29, .getfield 15, 9, 1, [138]), (32, .aload_n 0, 0, 0, []), (33, .getfield 18, 9, 2, [140]),
  (36, .iload_n 2, 0, 0, []), (37, .iastore, 0, 0, []), (38, .aload_n 0, 0, 0, []), (39, .dup, 0, 0, []),
  (40, .getfield 18, 9, 2, [140]), (43, .iconst 1, 0, 0, []), (44, .iadd, 0, 0, []), (45, .putfield 18, 9, 2, [140]),
  (48, .iconst 1, 0, 0, []), (49, .ireturn, 0, 0, [])
  ]
/-- ChainDesk$Scope.typeOf(I)I -/
def cd_r66 : List (Nat × Instr × Nat × Nat × List Nat) := [
  (0, .iconst 0, 0, 0, []), (1, .istore_n 2, 0, 0, []), (2, .iload_n 2, 0, 0, []), (3, .aload_n 0, 0, 0, []),
  (4, .getfield 18, 9, 2, [140]), (7, .if_icmp .ge 26, 33, 0, []), (10, .aload_n 0, 0, 0, []), (11, .getfield 9, 9, 0, [136]),
  (14, .iload_n 2, 0, 0, []), (15, .iaload, 0, 0, []), (16, .iload_n 1, 0, 0, []), (17, .if_icmp .ne 10, 27, 0, []),
  (20, .aload_n 0, 0, 0, []), (21, .getfield 15, 9, 1, [138]), (24, .iload_n 2, 0, 0, []), (25, .iaload, 0, 0, []),
  (26, .ireturn, 0, 0, []), (27, .iinc 2 1, 0, 0, []), (30, .goto (-28), 2, 0, []), (33, .iconst (-1), 0, 0, []),
  (34, .ireturn, 0, 0, [])
  ]
/-- ChainDesk.enter(I)V -/
def cd_r67 : List (Nat × Instr × Nat × Nat × List Nat) := [
  (0, .iload_n 1, 0, 0, []), (1, .iconst (-1), 0, 0, []), (2, .if_icmp .eq 18, 20, 0, []), (5, .iload_n 1, 0, 0, []),
  (6, .invokestatic 101, 24, 1, [332, 333, 60, 334]), (9, .ifCond .ne 11, 20, 0, []), (12, .new 80, 12, 82, [592, 593, 81]), (20, .aload_n 0, 0, 0, []),
  (21, .getfield 19, 0, 1, [256]), (24, .iload_n 1, 0, 0, []), (25, .putfield 105, 2, 2, [121]), (28, .return_, 0, 0, [])
  ]
/-- ChainDesk.complete(II)I -/
def cd_r68 : List (Nat × Instr × Nat × Nat × List Nat) := [
  (0, .iload_n 1, 0, 0, []), (1, .invokestatic 108, 15, 1, [297, 298, 60, 299]), (4, .ifCond .eq 12, 16, 0, []), (7, .iload_n 2, 0, 0, []),
  (8, .ifCond .lt 8, 16, 0, []), (11, .iload_n 2, 0, 0, []), (12, .iconst 3, 0, 0, []), (13, .if_icmp .le 11, 24, 0, []),
  (16, .new 80, 12, 82, [592, 593, 81]), (24, .aload_n 0, 0, 0, []), (25, .getfield 53, 0, 5, [260]), (28, .invokevirtual 111, 69, 0, [714, 715, 716, 66, 717]),
  (31, .iconst 1, 0, 0, []), (32, .istore_n 3, 0, 0, []), (33, .iload_n 3, 0, 0, []), (34, .iload_n 2, 0, 0, []),
  (35, .if_icmp .gt 17, 52, 0, []), (38, .aload_n 0, 0, 0, []), (39, .getfield 53, 0, 5, [260]), (42, .iload_n 3, 0, 0, []),
  (43, .invokevirtual 114, 78, 1, [753, 754, 755, 66, 756]), (46, .iinc 3 1, 0, 0, []), (49, .goto (-16), 33, 0, []), (52, .aload_n 0, 0, 0, []),
  (53, .getfield 53, 0, 5, [260]), (56, .iload_n 1, 0, 0, []), (57, .iload_n 2, 0, 0, []), (58, .invokevirtual 118, 86, 2, [799, 800, 801, 66, 802]),
  (61, .ireturn, 0, 0, [])
  ]
/-- ChainDesk$Completer.keepVariables()V -/
def cd_r69 : List (Nat × Instr × Nat × Nat × List Nat) := [
  (0, .aload_n 0, 0, 0, []), (1, .iconst 0, 0, 0, []), (2, .invokevirtual 41, 70, 1, [718, 720, 8, 66, 721]), (5, .iconst 0, 0, 0, []),
  (6, .istore_n 1, 0, 0, []), (7, .iload_n 1, 0, 0, []), (8, .aload_n 0, 0, 0, []), (9, .getfield 32, 3, 1, [234]),
  (12, .getfield 45, 9, 2, [141]), (15, .if_icmp .ge 60, 75, 0, []), (18, .aload_n 0, 0, 0, []), (19, .getfield 24, 3, 4, [237]),
  (22, .iconst 0, 0, 0, []), (23, .putfield 51, 8, 1, [200]), (26, .aload_n 0, 0, 0, []), (27, .getfield 24, 3, 4, [237]),
  (30, .aload_n 0, 0, 0, []), (31, .getfield 32, 3, 1, [234]), (34, .getfield 54, 9, 0, [137]), (37, .iload_n 1, 0, 0, []),
  (38, .iaload, 0, 0, []), (39, .invokevirtual 58, 71, 1, [722, 723, 724, 67, 725]), (42, .aload_n 0, 0, 0, []), (43, .getfield 24, 3, 4, [237]),
  (46, .aload_n 0, 0, 0, []), (47, .getfield 32, 3, 1, [234]), (50, .getfield 61, 9, 1, [139]), (53, .iload_n 1, 0, 0, []),
  (54, .iaload, 0, 0, []), (55, .putfield 64, 8, 2, [202]), (58, .aload_n 0, 0, 0, []), (59, .getfield 37, 3, 5, [238]),
  (62, .aload_n 0, 0, 0, []), (63, .getfield 24, 3, 4, [237]), (66, .invokevirtual 67, 73, 1, [730, 731, 732, 68, 733]), (69, .iinc 1 1, 0, 0, []),
  (72, .goto (-65), 7, 0, []), (75, .return_, 0, 0, [])
  ]
/-- ChainDesk$Completer.startShelf(I)V -/
def cd_r70 : List (Nat × Instr × Nat × Nat × List Nat) := [
  (0, .aload_n 0, 0, 0, []), (1, .aload_n 0, 0, 0, []), (2, .getfield 11, 3, 2, [235]), (5, .iload_n 1, 0, 0, []),
  (6, .aaload, 0, 0, []), (7, .putfield 37, 3, 5, [238]), (10, .aload_n 0, 0, 0, []), (11, .getfield 37, 3, 5, [238]),
  (14, .iconst 0, 0, 0, []), (15, .putfield 75, 10, 1, [227]), (18, .aload_n 0, 0, 0, []), (19, .getfield 24, 3, 4, [237]),
  (22, .iload_n 1, 0, 0, []), (23, .putfield 92, 8, 3, [205]), (26, .return_, 0, 0, [])
  ]
/-- ChainDesk$Phrase.addName(I)V -/
def cd_r71 : List (Nat × Instr × Nat × Nat × List Nat) := [
  (0, .bipush 24, 0, 0, []), (2, .istore_n 2, 0, 0, []), (3, .iload_n 2, 0, 0, []), (4, .ifCond .lt 27, 31, 0, []),
  (7, .iload_n 1, 0, 0, []), (8, .iload_n 2, 0, 0, []), (9, .ishr, 0, 0, []), (10, .sipush 255, 0, 0, []),
  (13, .iand, 0, 0, []), (14, .istore_n 3, 0, 0, []), (15, .iload_n 3, 0, 0, []), (16, .ifCond .eq 9, 25, 0, []),
  (19, .aload_n 0, 0, 0, []), (20, .iload_n 3, 0, 0, []), (21, .i2c, 0, 0, []), (22, .invokevirtual 28, 72, 1, [726, 727, 728, 67, 729]),
  (25, .iinc 2 (-8), 0, 0, []), (28, .goto (-25), 3, 0, []), (31, .return_, 0, 0, [])
  ]
/-- ChainDesk$Phrase.add(C)V -/
def cd_r72 : List (Nat × Instr × Nat × Nat × List Nat) := [
  (0, .aload_n 0, 0, 0, []), (1, .getfield 15, 8, 1, [199]), (4, .aload_n 0, 0, 0, []), (5, .getfield 9, 8, 0, [198]),
  (8, .arraylength, 0, 0, []), (9, .if_icmp .ge 23, 32, 0, []), (12, .aload_n 0, 0, 0, []), (13, .getfield 9, 8, 0, [198]),
  (16, .aload_n 0, 0, 0, []), (17, .getfield 15, 8, 1, [199]), (20, .iload_n 1, 0, 0, []), (21, .castore, 0, 0, []),
  (22, .aload_n 0, 0, 0, []), (23, .dup, 0, 0, []), (24, .getfield 15, 8, 1, [199]), (27, .iconst 1, 0, 0, []),
  (28, .iadd, 0, 0, []), (29, .putfield 15, 8, 1, [199]), (32, .return_, 0, 0, [])
  ]
/-- ChainDesk$Shelf.keep(LChainDesk$Phrase;)V -/
def cd_r73 : List (Nat × Instr × Nat × Nat × List Nat) := [
  (0, .aload_n 0, 0, 0, []), (1, .aload_n 1, 0, 0, []), (2, .invokevirtual 30, 74, 1, [734, 735, 736, 68, 737]), (5, .ifCond .ne 4, 9, 0, []),
  (8, .return_, 0, 0, []), (9, .aload_n 0, 0, 0, []), (10, .getfield 22, 10, 1, [226]), (13, .aload_n 0, 0, 0, []),
  (14, .getfield 11, 10, 0, [224]), (17, .arraylength, 0, 0, []), (18, .if_icmp .ge 13, 31, 0, []), (21, .aload_n 0, 0, 0, []),
  (22, .dup, 0, 0, []), (23, .getfield 22, 10, 1, [226]), (26, .iconst 1, 0, 0, []), (27, .iadd, 0, 0, []),
  (28, .putfield 22, 10, 1, [226]), (31, .aload_n 0, 0, 0, []), (32, .getfield 22, 10, 1, [226]), (35, .iconst 1, 0, 0, []),
  (36, .isub, 0, 0, []), (37, .istore_n 2, 0, 0, []), (38, .aload_n 0, 0, 0, []), (39, .getfield 11, 10, 0, [224]),
  (42, .iload_n 2, 0, 0, []), (43, .aaload, 0, 0, []), (44, .astore_n 3, 0, 0, []), (45, .iload_n 2, 0, 0, []),
  (46, .ifCond .le 38, 84, 0, []), (49, .aload_n 1, 0, 0, []), (50, .aload_n 0, 0, 0, []), (51, .getfield 11, 10, 0, [224]),
  (54, .iload_n 2, 0, 0, []), (55, .iconst 1, 0, 0, []), (56, .isub, 0, 0, []), (57, .aaload, 0, 0, []),
  (58, .invokevirtual 26, 76, 1, [742, 743, 744, 67, 745]), (61, .ifCond .eq 23, 84, 0, []), (64, .aload_n 0, 0, 0, []), (65, .getfield 11, 10, 0, [224]),
  (68, .iload_n 2, 0, 0, []), (69, .aload_n 0, 0, 0, []), (70, .getfield 11, 10, 0, [224]), (73, .iload_n 2, 0, 0, []),
  (74, .iconst 1, 0, 0, []), (75, .isub, 0, 0, []), (76, .aaload, 0, 0, []), (77, .aastore, 0, 0, []),
  (78, .iinc 2 (-1), 0, 0, []), (81, .goto (-36), 45, 0, []), (84, .aload_n 0, 0, 0, []), (85, .getfield 11, 10, 0, [224]),
  (88, .iload_n 2, 0, 0, []), (89, .aload_n 3, 0, 0, []), (90, .aastore, 0, 0, []), (91, .aload_n 3, 0, 0, []),
  (92, .aload_n 1, 0, 0, []), (93, .invokevirtual 33, 77, 1, [746, 747, 748, 67, 749]), (96, .return_, 0, 0, [])
  ]
/-- ChainDesk$Shelf.hasRoomFrom(LChainDesk$Phrase;)Z -/
def cd_r74 : List (Nat × Instr × Nat × Nat × List Nat) := [
  (0, .aload_n 1, 0, 0, []), (1, .invokevirtual 18, 75, 0, [738, 739, 740, 67, 741]), (4, .ifCond .eq 5, 9, 0, []), (7, .iconst 0, 0, 0, []),
  (8, .ireturn, 0, 0, []), (9, .aload_n 0, 0, 0, []), (10, .getfield 22, 10, 1, [226]), (13, .aload_n 0, 0, 0, []),
  (14, .getfield 11, 10, 0, [224]), (17, .arraylength, 0, 0, []), (18, .if_icmp .lt 22, 40, 0, []), (21, .aload_n 1, 0, 0, []),
  (22, .aload_n 0, 0, 0, []), (23, .getfield 11, 10, 0, [224]), (26, .aload_n 0, 0, 0, []), (27, .getfield 11, 10, 0, [224]),
  (30, .arraylength, 0, 0, []), (31, .iconst 1, 0, 0, []), (32, .isub, 0, 0, []), (33, .aaload, 0, 0, []),
  (34, .invokevirtual 26, 76, 1, [742, 743, 744, 67, 745]), (37, .ifCond .eq 7, 44, 0, []), (40, .iconst 1, 0, 0, []), (41, .goto 4, 45, 0, []),
  (44, .iconst 0, 0, 0, []), (45, .ireturn, 0, 0, [])
  ]
/-- ChainDesk$Phrase.isTooLong()Z -/
def cd_r75 : List (Nat × Instr × Nat × Nat × List Nat) := [
  (0, .aload_n 0, 0, 0, []), (1, .getfield 15, 8, 1, [199]), (4, .bipush 24, 0, 0, []), (6, .if_icmp .le 7, 13, 0, []),
  (9, .iconst 1, 0, 0, []), (10, .goto 4, 14, 0, []), (13, .iconst 0, 0, 0, []), (14, .ireturn, 0, 0, [])
  ]
/-- ChainDesk$Phrase.isBefore(LChainDesk$Phrase;)Z -/
def cd_r76 : List (Nat × Instr × Nat × Nat × List Nat) := [
  (0, .iconst 0, 0, 0, []), (1, .istore_n 2, 0, 0, []), (2, .iload_n 2, 0, 0, []), (3, .aload_n 0, 0, 0, []),
  (4, .getfield 15, 8, 1, [199]), (7, .if_icmp .ge 53, 60, 0, []), (10, .iload_n 2, 0, 0, []), (11, .aload_n 1, 0, 0, []),
  (12, .getfield 15, 8, 1, [199]), (15, .if_icmp .ge 45, 60, 0, []), (18, .aload_n 0, 0, 0, []), (19, .getfield 9, 8, 0, [198]),
  (22, .iload_n 2, 0, 0, []), (23, .caload, 0, 0, []), (24, .aload_n 1, 0, 0, []), (25, .getfield 9, 8, 0, [198]),
  (28, .iload_n 2, 0, 0, []), (29, .caload, 0, 0, []), (30, .if_icmp .eq 24, 54, 0, []), (33, .aload_n 0, 0, 0, []),
  (34, .getfield 9, 8, 0, [198]), (37, .iload_n 2, 0, 0, []), (38, .caload, 0, 0, []), (39, .aload_n 1, 0, 0, []),
  (40, .getfield 9, 8, 0, [198]), (43, .iload_n 2, 0, 0, []), (44, .caload, 0, 0, []), (45, .if_icmp .ge 7, 52, 0, []),
  (48, .iconst 1, 0, 0, []), (49, .goto 4, 53, 0, []), (52, .iconst 0, 0, 0, []), (53, .ireturn, 0, 0, []),
  (54, .iinc 2 1, 0, 0, []), (57, .goto (-55), 2, 0, []), (60, .aload_n 0, 0, 0, []), (61, .getfield 15, 8, 1, [199]),
  (64, .aload_n 1, 0, 0, []), (65, .getfield 15, 8, 1, [199]), (68, .if_icmp .ge 7, 75, 0, []), (71, .iconst 1, 0, 0, []),
  (72, .goto 4, 76, 0, []), (75, .iconst 0, 0, 0, []), (76, .ireturn, 0, 0, [])
  ]
/-- ChainDesk$Phrase.copyFrom(LChainDesk$Phrase;)V -/
def cd_r77 : List (Nat × Instr × Nat × Nat × List Nat) := [
  (0, .aload_n 1, 0, 0, []), (1, .getfield 9, 8, 0, [198]), (4, .iconst 0, 0, 0, []), (5, .aload_n 0, 0, 0, []),
  (6, .getfield 9, 8, 0, [198]), (9, .iconst 0, 0, 0, []), (10, .aload_n 1, 0, 0, []), (11, .getfield 15, 8, 1, [199]),
  (14, .invokestatic 38, 1004, 5, [750, 752, 751, 83]), (17, .aload_n 0, 0, 0, []), (18, .aload_n 1, 0, 0, []), (19, .getfield 15, 8, 1, [199]),
  (22, .putfield 15, 8, 1, [199]), (25, .aload_n 0, 0, 0, []), (26, .aload_n 1, 0, 0, []), (27, .getfield 44, 8, 2, [203]),
  (30, .putfield 44, 8, 2, [203]), (33, .aload_n 0, 0, 0, []), (34, .aload_n 1, 0, 0, []), (35, .getfield 47, 8, 3, [206]),
  (38, .putfield 47, 8, 3, [206]), (41, .return_, 0, 0, [])
  ]
/-- ChainDesk$Completer.keepOfCost(I)V -/
def cd_r78 : List (Nat × Instr × Nat × Nat × List Nat) := [
  (0, .aload_n 0, 0, 0, []), (1, .iload_n 1, 0, 0, []), (2, .invokevirtual 41, 70, 1, [718, 720, 8, 66, 721]), (5, .iconst 0, 0, 0, []),
  (6, .istore_n 2, 0, 0, []), (7, .iload_n 2, 0, 0, []), (8, .bipush 10, 0, 0, []), (10, .if_icmp .ge 17, 27, 0, []),
  (13, .aload_n 0, 0, 0, []), (14, .iload_n 2, 0, 0, []), (15, .iload_n 1, 0, 0, []), (16, .iconst 1, 0, 0, []),
  (17, .isub, 0, 0, []), (18, .invokevirtual 71, 79, 2, [757, 759, 9, 66, 760]), (21, .iinc 2 1, 0, 0, []), (24, .goto (-17), 7, 0, []),
  (27, .iconst 0, 0, 0, []), (28, .istore_n 2, 0, 0, []), (29, .iload_n 2, 0, 0, []), (30, .iload_n 1, 0, 0, []),
  (31, .if_icmp .ge 50, 81, 0, []), (34, .aload_n 0, 0, 0, []), (35, .getfield 11, 3, 2, [235]), (38, .iload_n 2, 0, 0, []),
  (39, .aaload, 0, 0, []), (40, .astore_n 3, 0, 0, []), (41, .iconst 0, 0, 0, []), (42, .istore 4, 0, 0, []),
  (44, .iload 4, 0, 0, []), (46, .aload_n 3, 0, 0, []), (47, .getfield 75, 10, 1, [227]), (50, .if_icmp .ge 25, 75, 0, []),
  (53, .aload_n 0, 0, 0, []), (54, .aload_n 3, 0, 0, []), (55, .getfield 76, 10, 0, [225]), (58, .iload 4, 0, 0, []),
  (60, .aaload, 0, 0, []), (61, .iload_n 1, 0, 0, []), (62, .iconst 1, 0, 0, []), (63, .isub, 0, 0, []),
  (64, .iload_n 2, 0, 0, []), (65, .isub, 0, 0, []), (66, .invokevirtual 79, 85, 2, [794, 796, 12, 66, 797]), (69, .iinc 4 1, 0, 0, []),
  (72, .goto (-28), 44, 0, []), (75, .iinc 2 1, 0, 0, []), (78, .goto (-49), 29, 0, []), (81, .return_, 0, 0, [])
  ]
/-- ChainDesk$Completer.keepOfClass(II)V -/
def cd_r79 : List (Nat × Instr × Nat × Nat × List Nat) := [
  (0, .aload_n 0, 0, 0, []), (1, .getfield 28, 3, 0, [233]), (4, .iload_n 1, 0, 0, []), (5, .invokevirtual 95, 22, 1, [761, 325, 326, 62, 327]),
  (8, .astore_n 3, 0, 0, []), (9, .aload_n 3, 0, 0, []), (10, .ifnonnull 4, 14, 0, []), (13, .return_, 0, 0, []),
  (14, .iconst 0, 0, 0, []), (15, .istore 4, 0, 0, []), (17, .iload 4, 0, 0, []), (19, .aload_n 3, 0, 0, []),
  (20, .getfield 99, 4, 3, [412]), (23, .if_icmp .ge 131, 154, 0, []), (26, .aload_n 3, 0, 0, []), (27, .getfield 102, 4, 2, [408]),
  (30, .iload 4, 0, 0, []), (32, .aaload, 0, 0, []), (33, .astore 5, 0, 0, []), (35, .aload 5, 0, 0, []),
  (37, .getfield 105, 7, 0, [500]), (40, .getstatic 111, 2, 0, [762]), (43, .if_acmp .ne 7, 50, 0, []), (46, .iconst 1, 0, 0, []),
  (47, .goto 4, 51, 0, []), (50, .iconst 0, 0, 0, []), (51, .istore 6, 0, 0, []), (53, .iload 6, 0, 0, []),
  (55, .ifCond .ne 11, 66, 0, []), (58, .aload 5, 0, 0, []), (60, .getfield 116, 7, 2, [507]), (63, .ifCond .eq 85, 148, 0, []),
  (66, .aload_n 0, 0, 0, []), (67, .getfield 28, 3, 0, [233]), (70, .aload_n 3, 0, 0, []), (71, .aload 5, 0, 0, []),
  (73, .invokevirtual 120, 30, 2, [763, 363, 364, 62, 365]), (76, .ifCond .eq 72, 148, 0, []), (79, .aload_n 0, 0, 0, []), (80, .getfield 24, 3, 4, [237]),
  (83, .iconst 0, 0, 0, []), (84, .putfield 51, 8, 1, [200]), (87, .iload 6, 0, 0, []), (89, .ifCond .eq 23, 112, 0, []),
  (92, .aload_n 0, 0, 0, []), (93, .getfield 24, 3, 4, [237]), (96, .ldc 124, 13, 0, [764]), (98, .invokevirtual 126, 80, 1, [765, 766, 767, 67, 768]),
  (101, .aload_n 0, 0, 0, []), (102, .getfield 24, 3, 4, [237]), (105, .iload_n 1, 0, 0, []), (106, .invokevirtual 130, 81, 1, [771, 772, 773, 67, 774]),
  (109, .goto 32, 141, 0, []), (112, .aload_n 0, 0, 0, []), (113, .getfield 24, 3, 4, [237]), (116, .iload_n 1, 0, 0, []),
  (117, .invokevirtual 130, 81, 1, [771, 772, 773, 67, 774]), (120, .aload_n 0, 0, 0, []), (121, .getfield 24, 3, 4, [237]), (124, .bipush 46, 0, 0, []),
  (126, .invokevirtual 133, 72, 1, [775, 727, 728, 67, 729]), (129, .aload_n 0, 0, 0, []), (130, .getfield 24, 3, 4, [237]), (133, .aload 5, 0, 0, []),
  (135, .getfield 137, 7, 3, [511]), (138, .invokevirtual 58, 71, 1, [722, 723, 724, 67, 725]), (141, .aload_n 0, 0, 0, []), (142, .aload 5, 0, 0, []),
  (144, .iload_n 2, 0, 0, []), (145, .invokevirtual 140, 82, 2, [776, 778, 10, 66, 779]), (148, .iinc 4 1, 0, 0, []), (151, .goto (-134), 17, 0, []),
  (154, .return_, 0, 0, [])
  ]
/-- ChainDesk$Phrase.addText(Ljava/lang/String;)V -/
def cd_r80 : List (Nat × Instr × Nat × Nat × List Nat) := [
  (0, .iconst 0, 0, 0, []), (1, .istore_n 2, 0, 0, []), (2, .iload_n 2, 0, 0, []), (3, .aload_n 1, 0, 0, []),
  (4, .invokevirtual 19, 40, 0, [769, 437, 438, 71, 439]), (7, .if_icmp .ge 18, 25, 0, []), (10, .aload_n 0, 0, 0, []), (11, .aload_n 1, 0, 0, []),
  (12, .iload_n 2, 0, 0, []), (13, .invokevirtual 24, 42, 1, [770, 447, 448, 71, 449]), (16, .invokevirtual 28, 72, 1, [726, 727, 728, 67, 729]), (19, .iinc 2 1, 0, 0, []),
  (22, .goto (-20), 2, 0, []), (25, .return_, 0, 0, [])
  ]
/-- ChainDesk$Phrase.addClass(I)V -/
def cd_r81 : List (Nat × Instr × Nat × Nat × List Nat) := [
  (0, .aload_n 0, 0, 0, []), (1, .bipush 65, 0, 0, []), (3, .iload_n 1, 0, 0, []), (4, .iadd, 0, 0, []),
  (5, .i2c, 0, 0, []), (6, .invokevirtual 28, 72, 1, [726, 727, 728, 67, 729]), (9, .return_, 0, 0, [])
  ]
/-- ChainDesk$Completer.keepUses(LChainDesk$Member;I)V -/
def cd_r82 : List (Nat × Instr × Nat × Nat × List Nat) := [
  (0, .aload_n 0, 0, 0, []), (1, .getfield 24, 3, 4, [237]), (4, .aload_n 1, 0, 0, []), (5, .getfield 159, 7, 6, [521]),
  (8, .putfield 64, 8, 2, [202]), (11, .aload_n 1, 0, 0, []), (12, .getfield 105, 7, 0, [500]), (15, .getstatic 160, 0, 0, [780]),
  (18, .if_acmp .eq 22, 40, 0, []), (21, .aload_n 0, 0, 0, []), (22, .getfield 24, 3, 4, [237]), (25, .bipush 40, 0, 0, []),
  (27, .invokevirtual 133, 72, 1, [775, 727, 728, 67, 729]), (30, .aload_n 0, 0, 0, []), (31, .aload_n 1, 0, 0, []), (32, .iconst 0, 0, 0, []),
  (33, .iload_n 2, 0, 0, []), (34, .invokevirtual 163, 83, 3, [781, 783, 11, 66, 784]), (37, .goto 18, 55, 0, []), (40, .iload_n 2, 0, 0, []),
  (41, .ifCond .ne 14, 55, 0, []), (44, .aload_n 0, 0, 0, []), (45, .getfield 37, 3, 5, [238]), (48, .aload_n 0, 0, 0, []),
  (49, .getfield 24, 3, 4, [237]), (52, .invokevirtual 67, 73, 1, [730, 731, 732, 68, 733]), (55, .return_, 0, 0, [])
  ]
/-- ChainDesk$Completer.keepCalls(LChainDesk$Member;II)V -/
def cd_r83 : List (Nat × Instr × Nat × Nat × List Nat) := [
  (0, .aload_n 0, 0, 0, []), (1, .getfield 37, 3, 5, [238]), (4, .aload_n 0, 0, 0, []), (5, .getfield 24, 3, 4, [237]),
  (8, .invokevirtual 147, 74, 1, [785, 735, 736, 68, 737]), (11, .ifCond .ne 4, 15, 0, []), (14, .return_, 0, 0, []), (15, .iload_n 2, 0, 0, []),
  (16, .aload_n 1, 0, 0, []), (17, .getfield 167, 7, 5, [517]), (20, .if_icmp .lt 28, 48, 0, []), (23, .iload_n 3, 0, 0, []),
  (24, .ifCond .ne 23, 47, 0, []), (27, .aload_n 0, 0, 0, []), (28, .getfield 24, 3, 4, [237]), (31, .bipush 41, 0, 0, []),
  (33, .invokevirtual 133, 72, 1, [775, 727, 728, 67, 729]), (36, .aload_n 0, 0, 0, []), (37, .getfield 37, 3, 5, [238]), (40, .aload_n 0, 0, 0, []),
  (41, .getfield 24, 3, 4, [237]), (44, .invokevirtual 67, 73, 1, [730, 731, 732, 68, 733]), (47, .return_, 0, 0, []), (48, .iload_n 2, 0, 0, []),
  (49, .ifCond .le 12, 61, 0, []), (52, .aload_n 0, 0, 0, []), (53, .getfield 24, 3, 4, [237]), (56, .bipush 44, 0, 0, []),
  (58, .invokevirtual 133, 72, 1, [775, 727, 728, 67, 729]), (61, .aload_n 0, 0, 0, []), (62, .getfield 24, 3, 4, [237]), (65, .getfield 51, 8, 1, [200]),
  (68, .istore 4, 0, 0, []), (70, .bipush 24, 0, 0, []), (72, .iload 4, 0, 0, []), (74, .isub, 0, 0, []),
  (75, .iconst 2, 0, 0, []), (76, .aload_n 1, 0, 0, []), (77, .getfield 167, 7, 5, [517]), (80, .iload_n 2, 0, 0, []),
  (81, .isub, 0, 0, []), (82, .iconst 1, 0, 0, []), (83, .isub, 0, 0, []), (84, .imul, 0, 0, []),
  (85, .isub, 0, 0, []), (86, .iconst 1, 0, 0, []), (87, .isub, 0, 0, []), (88, .istore 5, 0, 0, []),
  (90, .iload_n 2, 0, 0, []), (91, .iconst 1, 0, 0, []), (92, .iadd, 0, 0, []), (93, .aload_n 1, 0, 0, []),
  (94, .getfield 167, 7, 5, [517]), (97, .if_icmp .ne 7, 104, 0, []), (100, .iconst 1, 0, 0, []), (101, .goto 4, 105, 0, []),
  (104, .iconst 0, 0, 0, []), (105, .istore 6, 0, 0, []), (107, .iload 6, 0, 0, []), (109, .ifCond .eq 7, 116, 0, []),
  (112, .iload_n 3, 0, 0, []), (113, .goto 4, 117, 0, []), (116, .iconst 0, 0, 0, []), (117, .istore 7, 0, 0, []),
  (119, .iload 7, 0, 0, []), (121, .iload_n 3, 0, 0, []), (122, .if_icmp .gt 108, 230, 0, []), (125, .aload_n 0, 0, 0, []),
  (126, .getfield 11, 3, 2, [235]), (129, .iload 7, 0, 0, []), (131, .aaload, 0, 0, []), (132, .astore 8, 0, 0, []),
  (134, .iconst 0, 0, 0, []), (135, .istore 9, 0, 0, []), (137, .iload 9, 0, 0, []), (139, .aload 8, 0, 0, []),
  (141, .getfield 75, 10, 1, [227]), (144, .if_icmp .ge 80, 224, 0, []), (147, .aload 8, 0, 0, []), (149, .getfield 76, 10, 0, [225]),
  (152, .iload 9, 0, 0, []), (154, .aaload, 0, 0, []), (155, .astore 10, 0, 0, []), (157, .aload 10, 0, 0, []),
  (159, .getfield 51, 8, 1, [200]), (162, .iload 5, 0, 0, []), (164, .if_icmp .gt 54, 218, 0, []), (167, .aload_n 0, 0, 0, []),
  (168, .getfield 28, 3, 0, [233]), (171, .aload 10, 0, 0, []), (173, .getfield 64, 8, 2, [202]), (176, .aload_n 1, 0, 0, []),
  (177, .getfield 168, 7, 4, [514]), (180, .iload_n 2, 0, 0, []), (181, .iaload, 0, 0, []), (182, .invokevirtual 86, 16, 2, [786, 301, 302, 62, 303]),
  (185, .ifCond .eq 33, 218, 0, []), (188, .aload_n 0, 0, 0, []), (189, .getfield 24, 3, 4, [237]), (192, .iload 4, 0, 0, []),
  (194, .putfield 51, 8, 1, [200]), (197, .aload_n 0, 0, 0, []), (198, .getfield 24, 3, 4, [237]), (201, .aload 10, 0, 0, []),
  (203, .invokevirtual 144, 84, 1, [787, 788, 789, 67, 790]), (206, .aload_n 0, 0, 0, []), (207, .aload_n 1, 0, 0, []), (208, .iload_n 2, 0, 0, []),
  (209, .iconst 1, 0, 0, []), (210, .iadd, 0, 0, []), (211, .iload_n 3, 0, 0, []), (212, .iload 7, 0, 0, []),
  (214, .isub, 0, 0, []), (215, .invokevirtual 163, 83, 3, [781, 783, 11, 66, 784]), (218, .iinc 9 1, 0, 0, []), (221, .goto (-84), 137, 0, []),
  (224, .iinc 7 1, 0, 0, []), (227, .goto (-108), 119, 0, []), (230, .return_, 0, 0, [])
  ]
/-- ChainDesk$Phrase.addPhrase(LChainDesk$Phrase;)V -/
def cd_r84 : List (Nat × Instr × Nat × Nat × List Nat) := [
  (0, .aload_n 1, 0, 0, []), (1, .getfield 15, 8, 1, [199]), (4, .aload_n 0, 0, 0, []), (5, .getfield 9, 8, 0, [198]),
  (8, .arraylength, 0, 0, []), (9, .aload_n 0, 0, 0, []), (10, .getfield 15, 8, 1, [199]), (13, .isub, 0, 0, []),
  (14, .invokestatic 32, 1003, 2, [791, 792, 84, 793]), (17, .istore_n 2, 0, 0, []), (18, .aload_n 1, 0, 0, []), (19, .getfield 9, 8, 0, [198]),
  (22, .iconst 0, 0, 0, []), (23, .aload_n 0, 0, 0, []), (24, .getfield 9, 8, 0, [198]), (27, .aload_n 0, 0, 0, []),
  (28, .getfield 15, 8, 1, [199]), (31, .iload_n 2, 0, 0, []), (32, .invokestatic 38, 1004, 5, [750, 752, 751, 83]), (35, .aload_n 0, 0, 0, []),
  (36, .dup, 0, 0, []), (37, .getfield 15, 8, 1, [199]), (40, .iload_n 2, 0, 0, []), (41, .iadd, 0, 0, []),
  (42, .putfield 15, 8, 1, [199]), (45, .return_, 0, 0, [])
  ]
/-- ChainDesk$Completer.keepSelections(LChainDesk$Phrase;I)V -/
def cd_r85 : List (Nat × Instr × Nat × Nat × List Nat) := [
  (0, .aload_n 0, 0, 0, []), (1, .getfield 24, 3, 4, [237]), (4, .iconst 0, 0, 0, []), (5, .putfield 51, 8, 1, [200]),
  (8, .aload_n 0, 0, 0, []), (9, .getfield 24, 3, 4, [237]), (12, .aload_n 1, 0, 0, []), (13, .invokevirtual 144, 84, 1, [787, 788, 789, 67, 790]),
  (16, .aload_n 0, 0, 0, []), (17, .getfield 24, 3, 4, [237]), (20, .bipush 46, 0, 0, []), (22, .invokevirtual 133, 72, 1, [775, 727, 728, 67, 729]),
  (25, .aload_n 0, 0, 0, []), (26, .getfield 37, 3, 5, [238]), (29, .aload_n 0, 0, 0, []), (30, .getfield 24, 3, 4, [237]),
  (33, .invokevirtual 147, 74, 1, [785, 735, 736, 68, 737]), (36, .ifCond .ne 4, 40, 0, []), (39, .return_, 0, 0, []), (40, .aload_n 0, 0, 0, []),
  (41, .getfield 24, 3, 4, [237]), (44, .getfield 51, 8, 1, [200]), (47, .istore_n 3, 0, 0, []), (48, .aload_n 1, 0, 0, []),
  (49, .getfield 64, 8, 2, [202]), (52, .iconst 3, 0, 0, []), (53, .isub, 0, 0, []), (54, .istore 4, 0, 0, []),
  (56, .aload_n 0, 0, 0, []), (57, .getfield 28, 3, 0, [233]), (60, .iload 4, 0, 0, []), (62, .invokevirtual 95, 22, 1, [761, 325, 326, 62, 327]),
  (65, .astore 5, 0, 0, []), (67, .aload 5, 0, 0, []), (69, .ifnull 83, 152, 0, []), (72, .iconst 0, 0, 0, []),
  (73, .istore 6, 0, 0, []), (75, .iload 6, 0, 0, []), (77, .aload 5, 0, 0, []), (79, .getfield 99, 4, 3, [412]),
  (82, .if_icmp .ge 60, 142, 0, []), (85, .aload 5, 0, 0, []), (87, .getfield 102, 4, 2, [408]), (90, .iload 6, 0, 0, []),
  (92, .aaload, 0, 0, []), (93, .astore 7, 0, 0, []), (95, .aload_n 0, 0, 0, []), (96, .getfield 28, 3, 0, [233]),
  (99, .iload 4, 0, 0, []), (101, .aload 7, 0, 0, []), (103, .invokevirtual 151, 26, 2, [798, 345, 346, 62, 347]), (106, .ifCond .eq 30, 136, 0, []),
  (109, .aload_n 0, 0, 0, []), (110, .getfield 24, 3, 4, [237]), (113, .iload_n 3, 0, 0, []), (114, .putfield 51, 8, 1, [200]),
  (117, .aload_n 0, 0, 0, []), (118, .getfield 24, 3, 4, [237]), (121, .aload 7, 0, 0, []), (123, .getfield 137, 7, 3, [511]),
  (126, .invokevirtual 58, 71, 1, [722, 723, 724, 67, 725]), (129, .aload_n 0, 0, 0, []), (130, .aload 7, 0, 0, []), (132, .iload_n 2, 0, 0, []),
  (133, .invokevirtual 140, 82, 2, [776, 778, 10, 66, 779]), (136, .iinc 6 1, 0, 0, []), (139, .goto (-64), 75, 0, []), (142, .aload 5, 0, 0, []),
  (144, .getfield 155, 4, 1, [406]), (147, .astore 5, 0, 0, []), (149, .goto (-82), 67, 0, []), (152, .return_, 0, 0, [])
  ]
/-- ChainDesk$Completer.propose(II)I -/
def cd_r86 : List (Nat × Instr × Nat × Nat × List Nat) := [
  (0, .aload_n 0, 0, 0, []), (1, .iconst 0, 0, 0, []), (2, .putfield 83, 3, 6, [239]), (5, .iconst 0, 0, 0, []),
  (6, .istore_n 3, 0, 0, []), (7, .iload_n 3, 0, 0, []), (8, .iload_n 2, 0, 0, []), (9, .if_icmp .gt 94, 103, 0, []),
  (12, .aload_n 0, 0, 0, []), (13, .getfield 11, 3, 2, [235]), (16, .iload_n 3, 0, 0, []), (17, .aaload, 0, 0, []),
  (18, .astore 4, 0, 0, []), (20, .iconst 0, 0, 0, []), (21, .istore 5, 0, 0, []), (23, .iload 5, 0, 0, []),
  (25, .aload 4, 0, 0, []), (27, .getfield 75, 10, 1, [227]), (30, .if_icmp .ge 67, 97, 0, []), (33, .aload_n 0, 0, 0, []),
  (34, .getfield 83, 3, 6, [239]), (37, .bipush 10, 0, 0, []), (39, .if_icmp .ge 58, 97, 0, []), (42, .aload_n 0, 0, 0, []),
  (43, .getfield 28, 3, 0, [233]), (46, .aload 4, 0, 0, []), (48, .getfield 76, 10, 0, [225]), (51, .iload 5, 0, 0, []),
  (53, .aaload, 0, 0, []), (54, .getfield 64, 8, 2, [202]), (57, .iload_n 1, 0, 0, []), (58, .invokevirtual 86, 16, 2, [786, 301, 302, 62, 303]),
  (61, .ifCond .eq 30, 91, 0, []), (64, .aload_n 0, 0, 0, []), (65, .getfield 19, 3, 3, [236]), (68, .aload_n 0, 0, 0, []),
  (69, .getfield 83, 3, 6, [239]), (72, .aload 4, 0, 0, []), (74, .getfield 76, 10, 0, [225]), (77, .iload 5, 0, 0, []),
  (79, .aaload, 0, 0, []), (80, .aastore, 0, 0, []), (81, .aload_n 0, 0, 0, []), (82, .dup, 0, 0, []),
  (83, .getfield 83, 3, 6, [239]), (86, .iconst 1, 0, 0, []), (87, .iadd, 0, 0, []), (88, .putfield 83, 3, 6, [239]),
  (91, .iinc 5 1, 0, 0, []), (94, .goto (-71), 23, 0, []), (97, .iinc 3 1, 0, 0, []), (100, .goto (-93), 7, 0, []),
  (103, .aload_n 0, 0, 0, []), (104, .getfield 83, 3, 6, [239]), (107, .ireturn, 0, 0, [])
  ]
/-- ChainDesk.check()I -/
def cd_r87 : List (Nat × Instr × Nat × Nat × List Nat) := [
  (0, .aload_n 0, 0, 0, []), (1, .getfield 44, 0, 4, [259]), (4, .invokevirtual 122, 88, 0, [810, 811, 812, 65, 813]), (7, .istore_n 1, 0, 0, []),
  (8, .aload_n 0, 0, 0, []), (9, .getfield 10, 0, 0, [255]), (12, .invokevirtual 77, 60, 0, [588, 589, 590, 61, 591]), (15, .iload_n 1, 0, 0, []),
  (16, .iconst (-1), 0, 0, []), (17, .if_icmp .ne 11, 28, 0, []), (20, .new 80, 12, 82, [592, 593, 81]), (28, .aload_n 0, 0, 0, []),
  (29, .aload_n 0, 0, 0, []), (30, .getfield 44, 0, 4, [259]), (33, .getfield 126, 6, 3, [173]), (36, .putfield 57, 0, 6, [261]),
  (39, .iload_n 1, 0, 0, []), (40, .ireturn, 0, 0, [])
  ]
/-- ChainDesk$ExpressionReader.read()I -/
def cd_r88 : List (Nat × Instr × Nat × Nat × List Nat) := [
  (0, .aload_n 0, 0, 0, []), (1, .iconst 0, 0, 0, []), (2, .putfield 23, 6, 3, [172]), (5, .aload_n 0, 0, 0, []),
  (6, .iconst 0, 0, 0, []), (7, .invokevirtual 27, 89, 1, [814, 816, 13, 65, 817]), (10, .istore_n 1, 0, 0, []), (11, .aload_n 0, 0, 0, []),
  (12, .getfield 9, 6, 0, [169]), (15, .invokevirtual 31, 59, 0, [861, 585, 586, 61, 587]), (18, .ifCond .eq 7, 25, 0, []), (21, .iload_n 1, 0, 0, []),
  (22, .goto 4, 26, 0, []), (25, .iconst (-1), 0, 0, []), (26, .ireturn, 0, 0, [])
  ]
/-- ChainDesk$ExpressionReader.readExpression(I)I -/
def cd_r89 : List (Nat × Instr × Nat × Nat × List Nat) := [
  (0, .iload_n 1, 0, 0, []), (1, .bipush 6, 0, 0, []), (3, .if_icmp .le 5, 8, 0, []), (6, .iconst (-1), 0, 0, []),
  (7, .ireturn, 0, 0, []), (8, .aload_n 0, 0, 0, []), (9, .iload_n 1, 0, 0, []), (10, .invokevirtual 37, 90, 1, [818, 820, 14, 65, 821]),
  (13, .istore_n 2, 0, 0, []), (14, .iconst 0, 0, 0, []), (15, .istore_n 3, 0, 0, []), (16, .iload_n 3, 0, 0, []),
  (17, .bipush 120, 0, 0, []), (19, .if_icmp .ge 33, 52, 0, []), (22, .iload_n 2, 0, 0, []), (23, .iconst (-1), 0, 0, []),
  (24, .if_icmp .eq 28, 52, 0, []), (27, .aload_n 0, 0, 0, []), (28, .getfield 9, 6, 0, [169]), (31, .bipush 46, 0, 0, []),
  (33, .invokevirtual 40, 34, 1, [842, 385, 386, 61, 387]), (36, .ifCond .eq 16, 52, 0, []), (39, .aload_n 0, 0, 0, []), (40, .iload_n 2, 0, 0, []),
  (41, .iload_n 1, 0, 0, []), (42, .invokevirtual 44, 97, 2, [856, 858, 19, 65, 859]), (45, .istore_n 2, 0, 0, []), (46, .iinc 3 1, 0, 0, []),
  (49, .goto (-33), 16, 0, []), (52, .iload_n 2, 0, 0, []), (53, .ireturn, 0, 0, [])
  ]
/-- ChainDesk$ExpressionReader.readHead(I)I -/
def cd_r90 : List (Nat × Instr × Nat × Nat × List Nat) := [
  (0, .aload_n 0, 0, 0, []), (1, .getfield 9, 6, 0, [169]), (4, .ldc 48, 13, 0, [822]), (6, .invokevirtual 50, 39, 1, [823, 433, 434, 61, 435]),
  (9, .ifCond .eq 23, 32, 0, []), (12, .aload_n 0, 0, 0, []), (13, .aload_n 0, 0, 0, []), (14, .getfield 15, 6, 1, [170]),
  (17, .aload_n 0, 0, 0, []), (18, .getfield 9, 6, 0, [169]), (21, .invokevirtual 54, 33, 0, [824, 380, 381, 61, 382]), (24, .invokevirtual 58, 91, 1, [825, 826, 827, 62, 828]),
  (27, .iload_n 1, 0, 0, []), (28, .invokevirtual 64, 93, 2, [833, 835, 16, 65, 836]), (31, .ireturn, 0, 0, []), (32, .aload_n 0, 0, 0, []),
  (33, .getfield 9, 6, 0, [169]), (36, .invokevirtual 54, 33, 0, [824, 380, 381, 61, 382]), (39, .istore_n 2, 0, 0, []), (40, .iload_n 2, 0, 0, []),
  (41, .iconst (-1), 0, 0, []), (42, .if_icmp .ne 18, 60, 0, []), (45, .aload_n 0, 0, 0, []), (46, .getfield 19, 6, 2, [171]),
  (49, .aload_n 0, 0, 0, []), (50, .getfield 9, 6, 0, [169]), (53, .invokevirtual 68, 54, 0, [844, 561, 562, 61, 563]), (56, .invokevirtual 71, 66, 1, [845, 697, 698, 63, 699]),
  (59, .ireturn, 0, 0, []), (60, .aload_n 0, 0, 0, []), (61, .getfield 9, 6, 0, [169]), (64, .bipush 46, 0, 0, []),
  (66, .invokevirtual 40, 34, 1, [842, 385, 386, 61, 387]), (69, .ifCond .ne 5, 74, 0, []), (72, .iconst (-1), 0, 0, []), (73, .ireturn, 0, 0, []),
  (74, .aload_n 0, 0, 0, []), (75, .getfield 9, 6, 0, [169]), (78, .invokevirtual 68, 54, 0, [844, 561, 562, 61, 563]), (81, .istore_n 3, 0, 0, []),
  (82, .aload_n 0, 0, 0, []), (83, .aload_n 0, 0, 0, []), (84, .getfield 15, 6, 1, [170]), (87, .iload_n 2, 0, 0, []),
  (88, .aload_n 0, 0, 0, []), (89, .invokevirtual 76, 95, 0, [846, 848, 18, 65, 849]), (92, .iload_n 3, 0, 0, []), (93, .invokevirtual 80, 96, 3, [852, 853, 854, 62, 855]),
  (96, .iload_n 1, 0, 0, []), (97, .invokevirtual 64, 93, 2, [833, 835, 16, 65, 836]), (100, .ireturn, 0, 0, [])
  ]
/-- ChainDesk$Catalog.findMaker(I)LChainDesk$Member; -/
def cd_r91 : List (Nat × Instr × Nat × Nat × List Nat) := [
  (0, .aload_n 0, 0, 0, []), (1, .iload_n 1, 0, 0, []), (2, .getstatic 57, 2, 0, [348]), (5, .iconst 0, 0, 0, []),
  (6, .invokevirtual 80, 92, 3, [829, 831, 15, 62, 832]), (9, .areturn, 0, 0, [])
  ]
/-- ChainDesk$Catalog.findOwn(ILChainDesk$Kind;I)LChainDesk$Member; -/
def cd_r92 : List (Nat × Instr × Nat × Nat × List Nat) := [
  (0, .aload_n 0, 0, 0, []), (1, .iload_n 1, 0, 0, []), (2, .invokevirtual 28, 22, 1, [343, 325, 326, 62, 327]), (5, .astore 4, 0, 0, []),
  (7, .aload 4, 0, 0, []), (9, .ifnonnull 5, 14, 0, []), (12, .aconst_null, 0, 0, []), (13, .areturn, 0, 0, []),
  (14, .aload 4, 0, 0, []), (16, .aload_n 2, 0, 0, []), (17, .iload_n 3, 0, 0, []), (18, .invokevirtual 42, 28, 2, [354, 355, 356, 70, 357]),
  (21, .astore 5, 0, 0, []), (23, .aload 5, 0, 0, []), (25, .ifnull 19, 44, 0, []), (28, .aload_n 0, 0, 0, []),
  (29, .aload 4, 0, 0, []), (31, .aload 5, 0, 0, []), (33, .invokevirtual 49, 30, 2, [362, 363, 364, 62, 365]), (36, .ifCond .eq 8, 44, 0, []),
  (39, .aload 5, 0, 0, []), (41, .goto 4, 45, 0, []), (44, .aconst_null, 0, 0, []), (45, .areturn, 0, 0, [])
  ]
/-- ChainDesk$ExpressionReader.readUse(LChainDesk$Member;I)I -/
def cd_r93 : List (Nat × Instr × Nat × Nat × List Nat) := [
  (0, .aload_n 1, 0, 0, []), (1, .ifnonnull 5, 6, 0, []), (4, .iconst (-1), 0, 0, []), (5, .ireturn, 0, 0, []),
  (6, .aload_n 0, 0, 0, []), (7, .dup, 0, 0, []), (8, .getfield 23, 6, 3, [172]), (11, .iconst 1, 0, 0, []),
  (12, .iadd, 0, 0, []), (13, .putfield 23, 6, 3, [172]), (16, .aload_n 1, 0, 0, []), (17, .getfield 99, 7, 0, [499]),
  (20, .getstatic 96, 0, 0, [837]), (23, .if_acmp .eq 14, 37, 0, []), (26, .aload_n 0, 0, 0, []), (27, .aload_n 1, 0, 0, []),
  (28, .iload_n 2, 0, 0, []), (29, .invokevirtual 104, 94, 2, [838, 840, 17, 65, 841]), (32, .ifCond .ne 5, 37, 0, []), (35, .iconst (-1), 0, 0, []),
  (36, .ireturn, 0, 0, []), (37, .aload_n 1, 0, 0, []), (38, .getfield 108, 7, 6, [520]), (41, .ireturn, 0, 0, [])
  ]
/-- ChainDesk$ExpressionReader.readArguments(LChainDesk$Member;I)Z -/
def cd_r94 : List (Nat × Instr × Nat × Nat × List Nat) := [
  (0, .aload_n 0, 0, 0, []), (1, .getfield 9, 6, 0, [169]), (4, .bipush 40, 0, 0, []), (6, .invokevirtual 40, 34, 1, [842, 385, 386, 61, 387]),
  (9, .ifCond .ne 5, 14, 0, []), (12, .iconst 0, 0, 0, []), (13, .ireturn, 0, 0, []), (14, .iconst 0, 0, 0, []),
  (15, .istore_n 3, 0, 0, []), (16, .iload_n 3, 0, 0, []), (17, .aload_n 1, 0, 0, []), (18, .getfield 111, 7, 5, [516]),
  (21, .if_icmp .ge 62, 83, 0, []), (24, .iload_n 3, 0, 0, []), (25, .ifCond .le 17, 42, 0, []), (28, .aload_n 0, 0, 0, []),
  (29, .getfield 9, 6, 0, [169]), (32, .bipush 44, 0, 0, []), (34, .invokevirtual 40, 34, 1, [842, 385, 386, 61, 387]), (37, .ifCond .ne 5, 42, 0, []),
  (40, .iconst 0, 0, 0, []), (41, .ireturn, 0, 0, []), (42, .aload_n 0, 0, 0, []), (43, .iload_n 2, 0, 0, []),
  (44, .iconst 1, 0, 0, []), (45, .iadd, 0, 0, []), (46, .invokevirtual 27, 89, 1, [814, 816, 13, 65, 817]), (49, .istore 4, 0, 0, []),
  (51, .iload 4, 0, 0, []), (53, .iconst (-1), 0, 0, []), (54, .if_icmp .eq 21, 75, 0, []), (57, .aload_n 0, 0, 0, []),
  (58, .getfield 15, 6, 1, [170]), (61, .iload 4, 0, 0, []), (63, .aload_n 1, 0, 0, []), (64, .getfield 114, 7, 4, [513]),
  (67, .iload_n 3, 0, 0, []), (68, .iaload, 0, 0, []), (69, .invokevirtual 118, 16, 2, [843, 301, 302, 62, 303]), (72, .ifCond .ne 5, 77, 0, []),
  (75, .iconst 0, 0, 0, []), (76, .ireturn, 0, 0, []), (77, .iinc 3 1, 0, 0, []), (80, .goto (-64), 16, 0, []),
  (83, .aload_n 0, 0, 0, []), (84, .getfield 9, 6, 0, [169]), (87, .bipush 41, 0, 0, []), (89, .invokevirtual 40, 34, 1, [842, 385, 386, 61, 387]),
  (92, .ireturn, 0, 0, [])
  ]
/-- ChainDesk$ExpressionReader.kindAhead()LChainDesk$Kind; -/
def cd_r95 : List (Nat × Instr × Nat × Nat × List Nat) := [
  (0, .aload_n 0, 0, 0, []), (1, .getfield 9, 6, 0, [169]), (4, .bipush 40, 0, 0, []), (6, .invokevirtual 87, 35, 1, [850, 389, 390, 61, 391]),
  (9, .ifCond .eq 9, 18, 0, []), (12, .getstatic 90, 1, 0, [851]), (15, .goto 6, 21, 0, []), (18, .getstatic 96, 0, 0, [837]),
  (21, .areturn, 0, 0, [])
  ]
/-- ChainDesk$Catalog.findStatic(ILChainDesk$Kind;I)LChainDesk$Member; -/
def cd_r96 : List (Nat × Instr × Nat × Nat × List Nat) := [
  (0, .aload_n 0, 0, 0, []), (1, .iload_n 1, 0, 0, []), (2, .aload_n 2, 0, 0, []), (3, .iload_n 3, 0, 0, []),
  (4, .invokevirtual 80, 92, 3, [829, 831, 15, 62, 832]), (7, .astore 4, 0, 0, []), (9, .aload 4, 0, 0, []), (11, .ifnull 16, 27, 0, []),
  (14, .aload 4, 0, 0, []), (16, .getfield 46, 7, 2, [506]), (19, .ifCond .eq 8, 27, 0, []), (22, .aload 4, 0, 0, []),
  (24, .goto 4, 28, 0, []), (27, .aconst_null, 0, 0, []), (28, .areturn, 0, 0, [])
  ]
/-- ChainDesk$ExpressionReader.readSelection(II)I -/
def cd_r97 : List (Nat × Instr × Nat × Nat × List Nat) := [
  (0, .aload_n 0, 0, 0, []), (1, .getfield 9, 6, 0, [169]), (4, .invokevirtual 68, 54, 0, [844, 561, 562, 61, 563]), (7, .istore_n 3, 0, 0, []),
  (8, .aload_n 0, 0, 0, []), (9, .aload_n 0, 0, 0, []), (10, .getfield 15, 6, 1, [170]), (13, .iload_n 1, 0, 0, []),
  (14, .iconst 3, 0, 0, []), (15, .isub, 0, 0, []), (16, .aload_n 0, 0, 0, []), (17, .invokevirtual 76, 95, 0, [846, 848, 18, 65, 849]),
  (20, .iload_n 3, 0, 0, []), (21, .invokevirtual 84, 27, 3, [860, 351, 352, 62, 353]), (24, .iload_n 2, 0, 0, []), (25, .invokevirtual 64, 93, 2, [833, 835, 16, 65, 836]),
  (28, .ireturn, 0, 0, [])
  ]
/-- ChainDeskModel.<init>()V -/
def cd_r98 : List (Nat × Instr × Nat × Nat × List Nat) := [
  (0, .aload_n 0, 0, 0, []), (1, .invokespecial 1, 1000, 0, [867, 91, 92]), (4, .aload_n 0, 0, 0, []), (5, .bipush 120, 0, 0, []),
  (7, .newarray .char, 0, 0, [109]), (9, .putfield 7, 11, 1, [869]), (12, .aload_n 0, 0, 0, []), (13, .bipush 10, 0, 0, []),
  (15, .newarray .boolean, 0, 0, [986]), (17, .putfield 13, 11, 5, [873]), (20, .aload_n 0, 0, 0, []), (21, .bipush 10, 0, 0, []),
  (23, .newarray .int, 0, 0, [129]), (25, .putfield 17, 11, 6, [874]), (28, .aload_n 0, 0, 0, []), (29, .bipush 10, 0, 0, []),
  (31, .newarray .int, 0, 0, [129]), (33, .putfield 21, 11, 7, [875]), (36, .aload_n 0, 0, 0, []), (37, .bipush 66, 0, 0, []),
  (39, .newarray .int, 0, 0, [129]), (41, .putfield 24, 11, 8, [876]), (44, .aload_n 0, 0, 0, []), (45, .bipush 66, 0, 0, []),
  (47, .newarray .boolean, 0, 0, [986]), (49, .putfield 27, 11, 9, [877]), (52, .aload_n 0, 0, 0, []), (53, .bipush 66, 0, 0, []),
  (55, .newarray .boolean, 0, 0, [986]), (57, .putfield 30, 11, 10, [878]), (60, .aload_n 0, 0, 0, []), (61, .bipush 66, 0, 0, []),
  (63, .newarray .int, 0, 0, [129]), (65, .putfield 33, 11, 11, [879]), (68, .aload_n 0, 0, 0, []), (69, .bipush 66, 0, 0, []),
  (71, .newarray .int, 0, 0, [129]), (73, .putfield 36, 11, 12, [880]), (76, .aload_n 0, 0, 0, []), (77, .bipush 66, 0, 0, []),
  (79, .newarray .int, 0, 0, [129]), (81, .putfield 39, 11, 13, [881]), (84, .aload_n 0, 0, 0, []), (85, .sipush 132, 0, 0, []),
  (88, .newarray .int, 0, 0, [129]), (90, .putfield 42, 11, 14, [882]), (93, .aload_n 0, 0, 0, []), (94, .iconst 5, 0, 0, []),
  (95, .newarray .int, 0, 0, [129]), (97, .putfield 45, 11, 16, [884]), (100, .aload_n 0, 0, 0, []), (101, .iconst 5, 0, 0, []),
  (102, .newarray .int, 0, 0, [129]), (104, .putfield 48, 11, 17, [885]), (107, .aload_n 0, 0, 0, []), (108, .iconst (-1), 0, 0, []),
  (109, .putfield 51, 11, 18, [886]), (112, .aload_n 0, 0, 0, []), (113, .bipush 33, 0, 0, []), (115, .newarray .int, 0, 0, [129]),
  (117, .putfield 55, 11, 20, [888]), (120, .aload_n 0, 0, 0, []), (121, .bipush 33, 0, 0, []), (123, .newarray .int, 0, 0, [129]),
  (125, .putfield 58, 11, 21, [889]), (128, .aload_n 0, 0, 0, []), (129, .bipush 33, 0, 0, []), (131, .newarray .int, 0, 0, [129]),
  (133, .putfield 61, 11, 22, [890]), (136, .aload_n 0, 0, 0, []), (137, .sipush 792, 0, 0, []), (140, .newarray .char, 0, 0, [109]),
  (142, .putfield 64, 11, 23, [891]), (145, .aload_n 0, 0, 0, []), (146, .sipush 200, 0, 0, []), (149, .newarray .char, 0, 0, [109]),
  (151, .putfield 67, 11, 26, [894]), (154, .aload_n 0, 0, 0, []), (155, .bipush 10, 0, 0, []), (157, .newarray .int, 0, 0, [129]),
  (159, .putfield 70, 11, 28, [896]), (162, .aload_n 0, 0, 0, []), (163, .bipush 10, 0, 0, []), (165, .newarray .int, 0, 0, [129]),
  (167, .putfield 73, 11, 29, [897]), (170, .aload_n 0, 0, 0, []), (171, .bipush 10, 0, 0, []), (173, .newarray .int, 0, 0, [129]),
  (175, .putfield 76, 11, 30, [898]), (178, .aload_n 0, 0, 0, []), (179, .sipush 240, 0, 0, []), (182, .newarray .char, 0, 0, [109]),
  (184, .putfield 79, 11, 31, [899]), (187, .aload_n 0, 0, 0, []), (188, .sipush 130, 0, 0, []), (191, .newarray .int, 0, 0, [129]),
  (193, .putfield 82, 11, 34, [902]), (196, .aload_n 0, 0, 0, []), (197, .sipush 130, 0, 0, []), (200, .newarray .int, 0, 0, [129]),
  (202, .putfield 85, 11, 35, [903]), (205, .return_, 0, 0, [])
  ]
/-- ChainDeskModel.thrown()I -/
def cd_r99 : List (Nat × Instr × Nat × Nat × List Nat) := [
  (0, .aload_n 0, 0, 0, []), (1, .getfield 88, 11, 0, [868]), (4, .ireturn, 0, 0, [])
  ]
/-- ChainDeskModel.put(II)Z -/
def cd_r100 : List (Nat × Instr × Nat × Nat × List Nat) := [
  (0, .aload_n 0, 0, 0, []), (1, .iconst 0, 0, 0, []), (2, .putfield 88, 11, 0, [868]), (5, .iload_n 2, 0, 0, []),
  (6, .iconst 1, 0, 0, []), (7, .iconst 4, 0, 0, []), (8, .invokestatic 91, 101, 3, [995, 996, 69, 997]), (11, .ifCond .ne 14, 25, 0, []),
  (14, .aload_n 0, 0, 0, []), (15, .getfield 95, 11, 2, [870]), (18, .iload_n 2, 0, 0, []), (19, .iadd, 0, 0, []),
  (20, .bipush 120, 0, 0, []), (22, .if_icmp .le 5, 27, 0, []), (25, .iconst 0, 0, 0, []), (26, .ireturn, 0, 0, []),
  (27, .iconst 0, 0, 0, []), (28, .istore_n 3, 0, 0, []), (29, .iload_n 3, 0, 0, []), (30, .iload_n 2, 0, 0, []),
  (31, .if_icmp .ge 31, 62, 0, []), (34, .iload_n 1, 0, 0, []), (35, .bipush 8, 0, 0, []), (37, .iload_n 3, 0, 0, []),
  (38, .imul, 0, 0, []), (39, .ishr, 0, 0, []), (40, .sipush 255, 0, 0, []), (43, .iand, 0, 0, []),
  (44, .bipush 32, 0, 0, []), (46, .bipush 126, 0, 0, []), (48, .invokestatic 91, 101, 3, [995, 996, 69, 997]), (51, .ifCond .eq 5, 56, 0, []),
  (54, .iconst 0, 0, 0, []), (55, .ireturn, 0, 0, []), (56, .iinc 3 1, 0, 0, []), (59, .goto (-30), 29, 0, []),
  (62, .iload_n 2, 0, 0, []), (63, .iconst 1, 0, 0, []), (64, .isub, 0, 0, []), (65, .istore_n 3, 0, 0, []),
  (66, .iload_n 3, 0, 0, []), (67, .ifCond .lt 39, 106, 0, []), (70, .aload_n 0, 0, 0, []), (71, .getfield 7, 11, 1, [869]),
  (74, .aload_n 0, 0, 0, []), (75, .getfield 95, 11, 2, [870]), (78, .iload_n 1, 0, 0, []), (79, .bipush 8, 0, 0, []),
  (81, .iload_n 3, 0, 0, []), (82, .imul, 0, 0, []), (83, .ishr, 0, 0, []), (84, .sipush 255, 0, 0, []),
  (87, .iand, 0, 0, []), (88, .i2c, 0, 0, []), (89, .castore, 0, 0, []), (90, .aload_n 0, 0, 0, []),
  (91, .dup, 0, 0, []), (92, .getfield 95, 11, 2, [870]), (95, .iconst 1, 0, 0, []), (96, .iadd, 0, 0, []),
  (97, .putfield 95, 11, 2, [870]), (100, .iinc 3 (-1), 0, 0, []), (103, .goto (-37), 66, 0, []), (106, .iconst 1, 0, 0, []),
  (107, .ireturn, 0, 0, [])
  ]
/-- ChainDeskModel.outside(III)Z -/
def cd_r101 : List (Nat × Instr × Nat × Nat × List Nat) := [
  (0, .iload_n 0, 0, 0, []), (1, .iload_n 1, 0, 0, []), (2, .if_icmp .lt 8, 10, 0, []), (5, .iload_n 0, 0, 0, []),
  (6, .iload_n 2, 0, 0, []), (7, .if_icmp .le 7, 14, 0, []), (10, .iconst 1, 0, 0, []), (11, .goto 4, 15, 0, []),
  (14, .iconst 0, 0, 0, []), (15, .ireturn, 0, 0, [])
  ]
/-- ChainDeskModel.declare()I -/
def cd_r102 : List (Nat × Instr × Nat × Nat × List Nat) := [
  (0, .aload_n 0, 0, 0, []), (1, .iconst 0, 0, 0, []), (2, .putfield 98, 11, 3, [871]), (5, .aload_n 0, 0, 0, []),
  (6, .iconst 1, 0, 0, []), (7, .putfield 101, 11, 4, [872]), (10, .aload_n 0, 0, 0, []), (11, .invokevirtual 173, 103, 0, [1002, 1004, 20, 69, 1005]),
  (14, .istore_n 1, 0, 0, []), (15, .aload_n 0, 0, 0, []), (16, .iconst 0, 0, 0, []), (17, .putfield 95, 11, 2, [870]),
  (20, .aload_n 0, 0, 0, []), (21, .getfield 101, 11, 4, [872]), (24, .ifCond .ne 9, 33, 0, []), (27, .aload_n 0, 0, 0, []),
  (28, .iconst 1, 0, 0, []), (29, .invokevirtual 176, 121, 1, [1070, 1072, 34, 69, 1073]), (32, .ireturn, 0, 0, []), (33, .aload_n 0, 0, 0, []),
  (34, .getfield 13, 11, 5, [873]), (37, .iload_n 1, 0, 0, []), (38, .baload, 0, 0, []), (39, .ifCond .eq 9, 48, 0, []),
  (42, .aload_n 0, 0, 0, []), (43, .iconst 2, 0, 0, []), (44, .invokevirtual 176, 121, 1, [1070, 1072, 34, 69, 1073]), (47, .ireturn, 0, 0, []),
  (48, .aload_n 0, 0, 0, []), (49, .iconst 0, 0, 0, []), (50, .putfield 88, 11, 0, [868]), (53, .aload_n 0, 0, 0, []),
  (54, .getfield 13, 11, 5, [873]), (57, .iload_n 1, 0, 0, []), (58, .iconst 1, 0, 0, []), (59, .bastore, 0, 0, []),
  (60, .aload_n 0, 0, 0, []), (61, .getfield 17, 11, 6, [874]), (64, .iload_n 1, 0, 0, []), (65, .aload_n 0, 0, 0, []),
  (66, .getfield 160, 11, 37, [905]), (69, .iastore, 0, 0, []), (70, .aload_n 0, 0, 0, []), (71, .getfield 21, 11, 7, [875]),
  (74, .iload_n 1, 0, 0, []), (75, .aload_n 0, 0, 0, []), (76, .getfield 163, 11, 38, [906]), (79, .iastore, 0, 0, []),
  (80, .iconst 0, 0, 0, []), (81, .istore_n 2, 0, 0, []), (82, .iload_n 2, 0, 0, []), (83, .aload_n 0, 0, 0, []),
  (84, .getfield 163, 11, 38, [906]), (87, .if_icmp .ge 23, 110, 0, []), (90, .aload_n 0, 0, 0, []), (91, .bipush 60, 0, 0, []),
  (93, .iload_n 2, 0, 0, []), (94, .iadd, 0, 0, []), (95, .bipush 6, 0, 0, []), (97, .iload_n 1, 0, 0, []),
  (98, .imul, 0, 0, []), (99, .iload_n 2, 0, 0, []), (100, .iadd, 0, 0, []), (101, .invokevirtual 180, 122, 2, [1074, 1076, 35, 69, 1077]),
  (104, .iinc 2 1, 0, 0, []), (107, .goto (-25), 82, 0, []), (110, .aload_n 0, 0, 0, []), (111, .getfield 163, 11, 38, [906]),
  (114, .ireturn, 0, 0, [])
  ]
/-- ChainDeskModel.readDeclaration()I -/
def cd_r103 : List (Nat × Instr × Nat × Nat × List Nat) := [
  (0, .aload_n 0, 0, 0, []), (1, .invokevirtual 135, 104, 0, [1006, 1008, 21, 69, 1009]), (4, .istore_n 1, 0, 0, []), (5, .aload_n 0, 0, 0, []),
  (6, .iconst (-1), 0, 0, []), (7, .putfield 160, 11, 37, [905]), (10, .aload_n 0, 0, 0, []), (11, .getfield 101, 11, 4, [872]),
  (14, .ifCond .eq 48, 62, 0, []), (17, .aload_n 0, 0, 0, []), (18, .bipush 58, 0, 0, []), (20, .invokevirtual 109, 108, 1, [1021, 1023, 24, 69, 1024]),
  (23, .ifCond .eq 39, 62, 0, []), (26, .aload_n 0, 0, 0, []), (27, .aload_n 0, 0, 0, []), (28, .invokevirtual 135, 104, 0, [1006, 1008, 21, 69, 1009]),
  (31, .putfield 160, 11, 37, [905]), (34, .aload_n 0, 0, 0, []), (35, .aload_n 0, 0, 0, []), (36, .getfield 101, 11, 4, [872]),
  (39, .ifCond .eq 19, 58, 0, []), (42, .aload_n 0, 0, 0, []), (43, .getfield 13, 11, 5, [873]), (46, .aload_n 0, 0, 0, []),
  (47, .getfield 160, 11, 37, [905]), (50, .baload, 0, 0, []), (51, .ifCond .eq 7, 58, 0, []), (54, .iconst 1, 0, 0, []),
  (55, .goto 4, 59, 0, []), (58, .iconst 0, 0, 0, []), (59, .invokevirtual 113, 107, 1, [1017, 1019, 23, 69, 1020]), (62, .aload_n 0, 0, 0, []),
  (63, .iconst 0, 0, 0, []), (64, .putfield 163, 11, 38, [906]), (67, .aload_n 0, 0, 0, []), (68, .bipush 123, 0, 0, []),
  (70, .invokevirtual 138, 109, 1, [1025, 1027, 25, 69, 1028]), (73, .aload_n 0, 0, 0, []), (74, .getfield 101, 11, 4, [872]), (77, .ifCond .eq 165, 242, 0, []),
  (80, .aload_n 0, 0, 0, []), (81, .bipush 125, 0, 0, []), (83, .invokevirtual 109, 108, 1, [1021, 1023, 24, 69, 1024]), (86, .ifCond .ne 156, 242, 0, []),
  (89, .aload_n 0, 0, 0, []), (90, .getfield 163, 11, 38, [906]), (93, .ifCond .le 9, 102, 0, []), (96, .aload_n 0, 0, 0, []),
  (97, .bipush 59, 0, 0, []), (99, .invokevirtual 138, 109, 1, [1025, 1027, 25, 69, 1028]), (102, .aload_n 0, 0, 0, []), (103, .aload_n 0, 0, 0, []),
  (104, .getfield 163, 11, 38, [906]), (107, .bipush 6, 0, 0, []), (109, .if_icmp .ge 7, 116, 0, []), (112, .iconst 1, 0, 0, []),
  (113, .goto 4, 117, 0, []), (116, .iconst 0, 0, 0, []), (117, .invokevirtual 113, 107, 1, [1017, 1019, 23, 69, 1020]), (120, .bipush 60, 0, 0, []),
  (122, .aload_n 0, 0, 0, []), (123, .getfield 163, 11, 38, [906]), (126, .iadd, 0, 0, []), (127, .istore_n 2, 0, 0, []),
  (128, .aload_n 0, 0, 0, []), (129, .getfield 101, 11, 4, [872]), (132, .ifCond .eq 9, 141, 0, []), (135, .aload_n 0, 0, 0, []),
  (136, .iload_n 2, 0, 0, []), (137, .iload_n 1, 0, 0, []), (138, .invokevirtual 166, 110, 2, [1029, 1031, 26, 69, 1032]), (141, .bipush 60, 0, 0, []),
  (143, .istore_n 3, 0, 0, []), (144, .iload_n 3, 0, 0, []), (145, .iload_n 2, 0, 0, []), (146, .if_icmp .ge 55, 201, 0, []),
  (149, .aload_n 0, 0, 0, []), (150, .getfield 101, 11, 4, [872]), (153, .ifCond .eq 48, 201, 0, []), (156, .aload_n 0, 0, 0, []),
  (157, .aload_n 0, 0, 0, []), (158, .getfield 24, 11, 8, [876]), (161, .iload_n 3, 0, 0, []), (162, .iaload, 0, 0, []),
  (163, .aload_n 0, 0, 0, []), (164, .getfield 24, 11, 8, [876]), (167, .iload_n 2, 0, 0, []), (168, .iaload, 0, 0, []),
  (169, .if_icmp .ne 18, 187, 0, []), (172, .aload_n 0, 0, 0, []), (173, .getfield 33, 11, 11, [879]), (176, .iload_n 3, 0, 0, []),
  (177, .iaload, 0, 0, []), (178, .aload_n 0, 0, 0, []), (179, .getfield 33, 11, 11, [879]), (182, .iload_n 2, 0, 0, []),
  (183, .iaload, 0, 0, []), (184, .if_icmp .eq 7, 191, 0, []), (187, .iconst 1, 0, 0, []), (188, .goto 4, 192, 0, []),
  (191, .iconst 0, 0, 0, []), (192, .invokevirtual 113, 107, 1, [1017, 1019, 23, 69, 1020]), (195, .iinc 3 1, 0, 0, []), (198, .goto (-54), 144, 0, []),
  (201, .aload_n 0, 0, 0, []), (202, .aload_n 0, 0, 0, []), (203, .getfield 101, 11, 4, [872]), (206, .ifCond .eq 15, 221, 0, []),
  (209, .aload_n 0, 0, 0, []), (210, .iload_n 2, 0, 0, []), (211, .aload_n 0, 0, 0, []), (212, .getfield 160, 11, 37, [905]),
  (215, .invokevirtual 170, 119, 2, [1062, 1064, 32, 69, 1065]), (218, .ifCond .eq 7, 225, 0, []), (221, .iconst 1, 0, 0, []), (222, .goto 4, 226, 0, []),
  (225, .iconst 0, 0, 0, []), (226, .invokevirtual 113, 107, 1, [1017, 1019, 23, 69, 1020]), (229, .aload_n 0, 0, 0, []), (230, .dup, 0, 0, []),
  (231, .getfield 163, 11, 38, [906]), (234, .iconst 1, 0, 0, []), (235, .iadd, 0, 0, []), (236, .putfield 163, 11, 38, [906]),
  (239, .goto (-166), 73, 0, []), (242, .aload_n 0, 0, 0, []), (243, .aload_n 0, 0, 0, []), (244, .getfield 98, 11, 3, [871]),
  (247, .aload_n 0, 0, 0, []), (248, .getfield 95, 11, 2, [870]), (251, .if_icmp .ne 7, 258, 0, []), (254, .iconst 1, 0, 0, []),
  (255, .goto 4, 259, 0, []), (258, .iconst 0, 0, 0, []), (259, .invokevirtual 113, 107, 1, [1017, 1019, 23, 69, 1020]), (262, .iload_n 1, 0, 0, []),
  (263, .ireturn, 0, 0, [])
  ]
/-- ChainDeskModel.readClass()I -/
def cd_r104 : List (Nat × Instr × Nat × Nat × List Nat) := [
  (0, .aload_n 0, 0, 0, []), (1, .aload_n 0, 0, 0, []), (2, .iconst 0, 0, 0, []), (3, .invokevirtual 105, 105, 1, [1010, 1012, 22, 69, 1013]),
  (6, .invokestatic 132, 106, 1, [1014, 1015, 69, 1016]), (9, .invokevirtual 113, 107, 1, [1017, 1019, 23, 69, 1020]), (12, .aload_n 0, 0, 0, []), (13, .dup, 0, 0, []),
  (14, .getfield 98, 11, 3, [871]), (17, .iconst 1, 0, 0, []), (18, .iadd, 0, 0, []), (19, .putfield 98, 11, 3, [871]),
  (22, .aload_n 0, 0, 0, []), (23, .getfield 101, 11, 4, [872]), (26, .ifCond .eq 20, 46, 0, []), (29, .aload_n 0, 0, 0, []),
  (30, .getfield 7, 11, 1, [869]), (33, .aload_n 0, 0, 0, []), (34, .getfield 98, 11, 3, [871]), (37, .iconst 1, 0, 0, []),
  (38, .isub, 0, 0, []), (39, .caload, 0, 0, []), (40, .bipush 65, 0, 0, []), (42, .isub, 0, 0, []),
  (43, .goto 4, 47, 0, []), (46, .iconst 0, 0, 0, []), (47, .ireturn, 0, 0, [])
  ]
/-- ChainDeskModel.look(I)C -/
def cd_r105 : List (Nat × Instr × Nat × Nat × List Nat) := [
  (0, .aload_n 0, 0, 0, []), (1, .getfield 98, 11, 3, [871]), (4, .iload_n 1, 0, 0, []), (5, .iadd, 0, 0, []),
  (6, .aload_n 0, 0, 0, []), (7, .getfield 95, 11, 2, [870]), (10, .if_icmp .ge 17, 27, 0, []), (13, .aload_n 0, 0, 0, []),
  (14, .getfield 7, 11, 1, [869]), (17, .aload_n 0, 0, 0, []), (18, .getfield 98, 11, 3, [871]), (21, .iload_n 1, 0, 0, []),
  (22, .iadd, 0, 0, []), (23, .caload, 0, 0, []), (24, .goto 4, 28, 0, []), (27, .iconst 0, 0, 0, []),
  (28, .ireturn, 0, 0, [])
  ]
/-- ChainDeskModel.large(C)Z -/
def cd_r106 : List (Nat × Instr × Nat × Nat × List Nat) := [
  (0, .iload_n 0, 0, 0, []), (1, .bipush 65, 0, 0, []), (3, .if_icmp .lt 13, 16, 0, []), (6, .iload_n 0, 0, 0, []),
  (7, .bipush 74, 0, 0, []), (9, .if_icmp .gt 7, 16, 0, []), (12, .iconst 1, 0, 0, []), (13, .goto 4, 17, 0, []),
  (16, .iconst 0, 0, 0, []), (17, .ireturn, 0, 0, [])
  ]
/-- ChainDeskModel.must(Z)V -/
def cd_r107 : List (Nat × Instr × Nat × Nat × List Nat) := [
  (0, .aload_n 0, 0, 0, []), (1, .aload_n 0, 0, 0, []), (2, .getfield 101, 11, 4, [872]), (5, .ifCond .eq 11, 16, 0, []),
  (8, .iload_n 1, 0, 0, []), (9, .ifCond .eq 7, 16, 0, []), (12, .iconst 1, 0, 0, []), (13, .goto 4, 17, 0, []),
  (16, .iconst 0, 0, 0, []), (17, .putfield 101, 11, 4, [872]), (20, .return_, 0, 0, [])
  ]
/-- ChainDeskModel.pass(C)Z -/
def cd_r108 : List (Nat × Instr × Nat × Nat × List Nat) := [
  (0, .aload_n 0, 0, 0, []), (1, .iconst 0, 0, 0, []), (2, .invokevirtual 105, 105, 1, [1010, 1012, 22, 69, 1013]), (5, .iload_n 1, 0, 0, []),
  (6, .if_icmp .ne 7, 13, 0, []), (9, .iconst 1, 0, 0, []), (10, .goto 4, 14, 0, []), (13, .iconst 0, 0, 0, []),
  (14, .istore_n 2, 0, 0, []), (15, .aload_n 0, 0, 0, []), (16, .iload_n 2, 0, 0, []), (17, .ifCond .eq 12, 29, 0, []),
  (20, .aload_n 0, 0, 0, []), (21, .getfield 98, 11, 3, [871]), (24, .iconst 1, 0, 0, []), (25, .iadd, 0, 0, []),
  (26, .goto 7, 33, 0, []), (29, .aload_n 0, 0, 0, []), (30, .getfield 98, 11, 3, [871]), (33, .putfield 98, 11, 3, [871]),
  (36, .iload_n 2, 0, 0, []), (37, .ireturn, 0, 0, [])
  ]
/-- ChainDeskModel.expect(C)V -/
def cd_r109 : List (Nat × Instr × Nat × Nat × List Nat) := [
  (0, .aload_n 0, 0, 0, []), (1, .aload_n 0, 0, 0, []), (2, .iload_n 1, 0, 0, []), (3, .invokevirtual 109, 108, 1, [1021, 1023, 24, 69, 1024]),
  (6, .invokevirtual 113, 107, 1, [1017, 1019, 23, 69, 1020]), (9, .return_, 0, 0, [])
  ]
/-- ChainDeskModel.readMember(II)V -/
def cd_r110 : List (Nat × Instr × Nat × Nat × List Nat) := [
  (0, .aload_n 0, 0, 0, []), (1, .getfield 30, 11, 10, [878]), (4, .iload_n 1, 0, 0, []), (5, .aload_n 0, 0, 0, []),
  (6, .bipush 8, 0, 0, []), (8, .bipush 112, 0, 0, []), (10, .bipush 114, 0, 0, []), (12, .bipush 105, 0, 0, []),
  (14, .bipush 118, 0, 0, []), (16, .bipush 97, 0, 0, []), (18, .bipush 116, 0, 0, []), (20, .invokevirtual 145, 111, 7, [1033, 1035, 27, 69, 1036]),
  (23, .bastore, 0, 0, []), (24, .aload_n 0, 0, 0, []), (25, .getfield 27, 11, 9, [877]), (28, .iload_n 1, 0, 0, []),
  (29, .iconst 1, 0, 0, []), (30, .bastore, 0, 0, []), (31, .aload_n 0, 0, 0, []), (32, .getfield 33, 11, 11, [879]),
  (35, .iload_n 1, 0, 0, []), (36, .iconst 0, 0, 0, []), (37, .iastore, 0, 0, []), (38, .aload_n 0, 0, 0, []),
  (39, .iconst 4, 0, 0, []), (40, .bipush 110, 0, 0, []), (42, .bipush 101, 0, 0, []), (44, .bipush 119, 0, 0, []),
  (46, .bipush 40, 0, 0, []), (48, .iconst 0, 0, 0, []), (49, .iconst 0, 0, 0, []), (50, .invokevirtual 145, 111, 7, [1033, 1035, 27, 69, 1036]),
  (53, .ifCond .eq 35, 88, 0, []), (56, .aload_n 0, 0, 0, []), (57, .dup, 0, 0, []), (58, .getfield 98, 11, 3, [871]),
  (61, .iconst 1, 0, 0, []), (62, .isub, 0, 0, []), (63, .putfield 98, 11, 3, [871]), (66, .aload_n 0, 0, 0, []),
  (67, .getfield 24, 11, 8, [876]), (70, .iload_n 1, 0, 0, []), (71, .iconst 2, 0, 0, []), (72, .iastore, 0, 0, []),
  (73, .aload_n 0, 0, 0, []), (74, .getfield 36, 11, 12, [880]), (77, .iload_n 1, 0, 0, []), (78, .iconst 3, 0, 0, []),
  (79, .iload_n 2, 0, 0, []), (80, .iadd, 0, 0, []), (81, .iastore, 0, 0, []), (82, .aload_n 0, 0, 0, []),
  (83, .iload_n 1, 0, 0, []), (84, .invokevirtual 149, 112, 1, [1037, 1039, 28, 69, 1040]), (87, .return_, 0, 0, []), (88, .aload_n 0, 0, 0, []),
  (89, .getfield 27, 11, 9, [877]), (92, .iload_n 1, 0, 0, []), (93, .aload_n 0, 0, 0, []), (94, .bipush 7, 0, 0, []),
  (96, .bipush 115, 0, 0, []), (98, .bipush 116, 0, 0, []), (100, .bipush 97, 0, 0, []), (102, .bipush 116, 0, 0, []),
  (104, .bipush 105, 0, 0, []), (106, .bipush 99, 0, 0, []), (108, .invokevirtual 145, 111, 7, [1033, 1035, 27, 69, 1036]), (111, .bastore, 0, 0, []),
  (112, .aload_n 0, 0, 0, []), (113, .getfield 33, 11, 11, [879]), (116, .iload_n 1, 0, 0, []), (117, .aload_n 0, 0, 0, []),
  (118, .invokevirtual 153, 117, 0, [1055, 1057, 31, 69, 1058]), (121, .iastore, 0, 0, []), (122, .aload_n 0, 0, 0, []), (123, .getfield 24, 11, 8, [876]),
  (126, .iload_n 1, 0, 0, []), (127, .aload_n 0, 0, 0, []), (128, .iconst 0, 0, 0, []), (129, .invokevirtual 105, 105, 1, [1010, 1012, 22, 69, 1013]),
  (132, .bipush 40, 0, 0, []), (134, .if_icmp .ne 7, 141, 0, []), (137, .iconst 1, 0, 0, []), (138, .goto 4, 142, 0, []),
  (141, .iconst 0, 0, 0, []), (142, .iastore, 0, 0, []), (143, .aload_n 0, 0, 0, []), (144, .getfield 39, 11, 13, [881]),
  (147, .iload_n 1, 0, 0, []), (148, .iconst 0, 0, 0, []), (149, .iastore, 0, 0, []), (150, .aload_n 0, 0, 0, []),
  (151, .getfield 24, 11, 8, [876]), (154, .iload_n 1, 0, 0, []), (155, .iaload, 0, 0, []), (156, .iconst 1, 0, 0, []),
  (157, .if_icmp .ne 8, 165, 0, []), (160, .aload_n 0, 0, 0, []), (161, .iload_n 1, 0, 0, []), (162, .invokevirtual 149, 112, 1, [1037, 1039, 28, 69, 1040]),
  (165, .aload_n 0, 0, 0, []), (166, .bipush 58, 0, 0, []), (168, .invokevirtual 138, 109, 1, [1025, 1027, 25, 69, 1028]), (171, .aload_n 0, 0, 0, []),
  (172, .getfield 36, 11, 12, [880]), (175, .iload_n 1, 0, 0, []), (176, .aload_n 0, 0, 0, []), (177, .getfield 101, 11, 4, [872]),
  (180, .ifCond .eq 10, 190, 0, []), (183, .aload_n 0, 0, 0, []), (184, .invokevirtual 142, 113, 0, [1041, 1043, 29, 69, 1044]), (187, .goto 4, 191, 0, []),
  (190, .iconst 0, 0, 0, []), (191, .iastore, 0, 0, []), (192, .return_, 0, 0, [])
  ]
/-- ChainDeskModel.word(ICCCCCC)Z -/
def cd_r111 : List (Nat × Instr × Nat × Nat × List Nat) := [
  (0, .aload_n 0, 0, 0, []), (1, .iconst 0, 0, 0, []), (2, .invokevirtual 105, 105, 1, [1010, 1012, 22, 69, 1013]), (5, .iload_n 2, 0, 0, []),
  (6, .if_icmp .ne 36, 42, 0, []), (9, .aload_n 0, 0, 0, []), (10, .iconst 1, 0, 0, []), (11, .invokevirtual 105, 105, 1, [1010, 1012, 22, 69, 1013]),
  (14, .iload_n 3, 0, 0, []), (15, .if_icmp .ne 27, 42, 0, []), (18, .aload_n 0, 0, 0, []), (19, .iconst 2, 0, 0, []),
  (20, .invokevirtual 105, 105, 1, [1010, 1012, 22, 69, 1013]), (23, .iload 4, 0, 0, []), (25, .if_icmp .ne 17, 42, 0, []), (28, .aload_n 0, 0, 0, []),
  (29, .iconst 3, 0, 0, []), (30, .invokevirtual 105, 105, 1, [1010, 1012, 22, 69, 1013]), (33, .iload 5, 0, 0, []), (35, .if_icmp .ne 7, 42, 0, []),
  (38, .iconst 1, 0, 0, []), (39, .goto 4, 43, 0, []), (42, .iconst 0, 0, 0, []), (43, .istore 8, 0, 0, []),
  (45, .iload 8, 0, 0, []), (47, .ifCond .eq 38, 85, 0, []), (50, .iload_n 1, 0, 0, []), (51, .iconst 5, 0, 0, []),
  (52, .if_icmp .lt 13, 65, 0, []), (55, .aload_n 0, 0, 0, []), (56, .iconst 4, 0, 0, []), (57, .invokevirtual 105, 105, 1, [1010, 1012, 22, 69, 1013]),
  (60, .iload 6, 0, 0, []), (62, .if_icmp .ne 23, 85, 0, []), (65, .iload_n 1, 0, 0, []), (66, .bipush 6, 0, 0, []),
  (68, .if_icmp .lt 13, 81, 0, []), (71, .aload_n 0, 0, 0, []), (72, .iconst 5, 0, 0, []), (73, .invokevirtual 105, 105, 1, [1010, 1012, 22, 69, 1013]),
  (76, .iload 7, 0, 0, []), (78, .if_icmp .ne 7, 85, 0, []), (81, .iconst 1, 0, 0, []), (82, .goto 4, 86, 0, []),
  (85, .iconst 0, 0, 0, []), (86, .istore 8, 0, 0, []), (88, .iload 8, 0, 0, []), (90, .ifCond .eq 52, 142, 0, []),
  (93, .iload_n 1, 0, 0, []), (94, .bipush 7, 0, 0, []), (96, .if_icmp .lt 42, 138, 0, []), (99, .aload_n 0, 0, 0, []),
  (100, .bipush 6, 0, 0, []), (102, .invokevirtual 105, 105, 1, [1010, 1012, 22, 69, 1013]), (105, .iload_n 1, 0, 0, []), (106, .bipush 7, 0, 0, []),
  (108, .if_icmp .ne 8, 116, 0, []), (111, .bipush 32, 0, 0, []), (113, .goto 5, 118, 0, []), (116, .bipush 101, 0, 0, []),
  (118, .if_icmp .ne 24, 142, 0, []), (121, .iload_n 1, 0, 0, []), (122, .bipush 8, 0, 0, []), (124, .if_icmp .lt 14, 138, 0, []),
  (127, .aload_n 0, 0, 0, []), (128, .bipush 7, 0, 0, []), (130, .invokevirtual 105, 105, 1, [1010, 1012, 22, 69, 1013]), (133, .bipush 32, 0, 0, []),
  (135, .if_icmp .ne 7, 142, 0, []), (138, .iconst 1, 0, 0, []), (139, .goto 4, 143, 0, []), (142, .iconst 0, 0, 0, []),
  (143, .istore 8, 0, 0, []), (145, .aload_n 0, 0, 0, []), (146, .iload 8, 0, 0, []), (148, .ifCond .eq 12, 160, 0, []),
  (151, .aload_n 0, 0, 0, []), (152, .getfield 98, 11, 3, [871]), (155, .iload_n 1, 0, 0, []), (156, .iadd, 0, 0, []),
  (157, .goto 7, 164, 0, []), (160, .aload_n 0, 0, 0, []), (161, .getfield 98, 11, 3, [871]), (164, .putfield 98, 11, 3, [871]),
  (167, .iload 8, 0, 0, []), (169, .ireturn, 0, 0, [])
  ]
/-- ChainDeskModel.readList(I)V -/
def cd_r112 : List (Nat × Instr × Nat × Nat × List Nat) := [
  (0, .aload_n 0, 0, 0, []), (1, .getfield 39, 11, 13, [881]), (4, .iload_n 1, 0, 0, []), (5, .iconst 0, 0, 0, []),
  (6, .iastore, 0, 0, []), (7, .aload_n 0, 0, 0, []), (8, .bipush 40, 0, 0, []), (10, .invokevirtual 138, 109, 1, [1025, 1027, 25, 69, 1028]),
  (13, .aload_n 0, 0, 0, []), (14, .getfield 101, 11, 4, [872]), (17, .ifCond .eq 98, 115, 0, []), (20, .aload_n 0, 0, 0, []),
  (21, .bipush 41, 0, 0, []), (23, .invokevirtual 109, 108, 1, [1021, 1023, 24, 69, 1024]), (26, .ifCond .ne 89, 115, 0, []), (29, .aload_n 0, 0, 0, []),
  (30, .getfield 39, 11, 13, [881]), (33, .iload_n 1, 0, 0, []), (34, .iaload, 0, 0, []), (35, .ifCond .le 9, 44, 0, []),
  (38, .aload_n 0, 0, 0, []), (39, .bipush 44, 0, 0, []), (41, .invokevirtual 138, 109, 1, [1025, 1027, 25, 69, 1028]), (44, .aload_n 0, 0, 0, []),
  (45, .aload_n 0, 0, 0, []), (46, .getfield 39, 11, 13, [881]), (49, .iload_n 1, 0, 0, []), (50, .iaload, 0, 0, []),
  (51, .iconst 2, 0, 0, []), (52, .if_icmp .ge 7, 59, 0, []), (55, .iconst 1, 0, 0, []), (56, .goto 4, 60, 0, []),
  (59, .iconst 0, 0, 0, []), (60, .invokevirtual 113, 107, 1, [1017, 1019, 23, 69, 1020]), (63, .aload_n 0, 0, 0, []), (64, .getfield 101, 11, 4, [872]),
  (67, .ifCond .eq 10, 77, 0, []), (70, .aload_n 0, 0, 0, []), (71, .invokevirtual 142, 113, 0, [1041, 1043, 29, 69, 1044]), (74, .goto 4, 78, 0, []),
  (77, .iconst 0, 0, 0, []), (78, .istore_n 2, 0, 0, []), (79, .aload_n 0, 0, 0, []), (80, .getfield 101, 11, 4, [872]),
  (83, .ifCond .eq 19, 102, 0, []), (86, .aload_n 0, 0, 0, []), (87, .getfield 42, 11, 14, [882]), (90, .iconst 2, 0, 0, []),
  (91, .iload_n 1, 0, 0, []), (92, .imul, 0, 0, []), (93, .aload_n 0, 0, 0, []), (94, .getfield 39, 11, 13, [881]),
  (97, .iload_n 1, 0, 0, []), (98, .iaload, 0, 0, []), (99, .iadd, 0, 0, []), (100, .iload_n 2, 0, 0, []),
  (101, .iastore, 0, 0, []), (102, .aload_n 0, 0, 0, []), (103, .getfield 39, 11, 13, [881]), (106, .iload_n 1, 0, 0, []),
  (107, .dup2, 0, 0, []), (108, .iaload, 0, 0, []), (109, .iconst 1, 0, 0, []), (110, .iadd, 0, 0, []),
  (111, .iastore, 0, 0, []), (112, .goto (-99), 13, 0, []), (115, .return_, 0, 0, [])
  ]
/-- ChainDeskModel.readType()I -/
def cd_r113 : List (Nat × Instr × Nat × Nat × List Nat) := [
  (0, .aload_n 0, 0, 0, []), (1, .iconst 0, 0, 0, []), (2, .invokevirtual 105, 105, 1, [1010, 1012, 22, 69, 1013]), (5, .invokestatic 132, 106, 1, [1014, 1015, 69, 1016]),
  (8, .ifCond .eq 10, 18, 0, []), (11, .iconst 3, 0, 0, []), (12, .aload_n 0, 0, 0, []), (13, .invokevirtual 135, 104, 0, [1006, 1008, 21, 69, 1009]),
  (16, .iadd, 0, 0, []), (17, .ireturn, 0, 0, []), (18, .aload_n 0, 0, 0, []), (19, .invokevirtual 124, 114, 0, [1045, 1047, 30, 69, 1048]),
  (22, .istore_n 1, 0, 0, []), (23, .iload_n 1, 0, 0, []), (24, .bipush 105, 0, 0, []), (26, .bipush 110, 0, 0, []),
  (28, .bipush 116, 0, 0, []), (30, .iconst 0, 0, 0, []), (31, .invokestatic 120, 116, 4, [1052, 1053, 69, 1054]), (34, .if_icmp .ne 7, 41, 0, []),
  (37, .iconst 0, 0, 0, []), (38, .goto 42, 80, 0, []), (41, .iload_n 1, 0, 0, []), (42, .bipush 108, 0, 0, []),
  (44, .bipush 111, 0, 0, []), (46, .bipush 110, 0, 0, []), (48, .bipush 103, 0, 0, []), (50, .invokestatic 120, 116, 4, [1052, 1053, 69, 1054]),
  (53, .if_icmp .ne 7, 60, 0, []), (56, .iconst 1, 0, 0, []), (57, .goto 23, 80, 0, []), (60, .iload_n 1, 0, 0, []),
  (61, .bipush 98, 0, 0, []), (63, .bipush 111, 0, 0, []), (65, .bipush 111, 0, 0, []), (67, .bipush 108, 0, 0, []),
  (69, .invokestatic 120, 116, 4, [1052, 1053, 69, 1054]), (72, .if_icmp .ne 7, 79, 0, []), (75, .iconst 2, 0, 0, []), (76, .goto 4, 80, 0, []),
  (79, .iconst (-1), 0, 0, []), (80, .istore_n 2, 0, 0, []), (81, .aload_n 0, 0, 0, []), (82, .iload_n 2, 0, 0, []),
  (83, .iconst (-1), 0, 0, []), (84, .if_icmp .eq 7, 91, 0, []), (87, .iconst 1, 0, 0, []), (88, .goto 4, 92, 0, []),
  (91, .iconst 0, 0, 0, []), (92, .invokevirtual 113, 107, 1, [1017, 1019, 23, 69, 1020]), (95, .iload_n 2, 0, 0, []), (96, .ireturn, 0, 0, [])
  ]
/-- ChainDeskModel.letters()I -/
def cd_r114 : List (Nat × Instr × Nat × Nat × List Nat) := [
  (0, .iconst 0, 0, 0, []), (1, .istore_n 1, 0, 0, []), (2, .iconst 0, 0, 0, []), (3, .istore_n 2, 0, 0, []),
  (4, .aload_n 0, 0, 0, []), (5, .iconst 0, 0, 0, []), (6, .invokevirtual 105, 105, 1, [1010, 1012, 22, 69, 1013]), (9, .invokestatic 117, 115, 1, [1049, 1050, 69, 1051]),
  (12, .ifCond .eq 42, 54, 0, []), (15, .iload_n 2, 0, 0, []), (16, .iconst 4, 0, 0, []), (17, .if_icmp .ge 19, 36, 0, []),
  (20, .bipush 27, 0, 0, []), (22, .iload_n 1, 0, 0, []), (23, .imul, 0, 0, []), (24, .aload_n 0, 0, 0, []),
  (25, .iconst 0, 0, 0, []), (26, .invokevirtual 105, 105, 1, [1010, 1012, 22, 69, 1013]), (29, .iadd, 0, 0, []), (30, .bipush 96, 0, 0, []),
  (32, .isub, 0, 0, []), (33, .goto 4, 37, 0, []), (36, .iconst 0, 0, 0, []), (37, .istore_n 1, 0, 0, []),
  (38, .iinc 2 1, 0, 0, []), (41, .aload_n 0, 0, 0, []), (42, .dup, 0, 0, []), (43, .getfield 98, 11, 3, [871]),
  (46, .iconst 1, 0, 0, []), (47, .iadd, 0, 0, []), (48, .putfield 98, 11, 3, [871]), (51, .goto (-47), 4, 0, []),
  (54, .iload_n 2, 0, 0, []), (55, .iconst 4, 0, 0, []), (56, .if_icmp .le 7, 63, 0, []), (59, .iconst 0, 0, 0, []),
  (60, .goto 4, 64, 0, []), (63, .iload_n 1, 0, 0, []), (64, .ireturn, 0, 0, [])
  ]
/-- ChainDeskModel.small(C)Z -/
def cd_r115 : List (Nat × Instr × Nat × Nat × List Nat) := [
  (0, .iload_n 0, 0, 0, []), (1, .bipush 97, 0, 0, []), (3, .if_icmp .lt 13, 16, 0, []), (6, .iload_n 0, 0, 0, []),
  (7, .bipush 122, 0, 0, []), (9, .if_icmp .gt 7, 16, 0, []), (12, .iconst 1, 0, 0, []), (13, .goto 4, 17, 0, []),
  (16, .iconst 0, 0, 0, []), (17, .ireturn, 0, 0, [])
  ]
/-- ChainDeskModel.spell(IIII)I -/
def cd_r116 : List (Nat × Instr × Nat × Nat × List Nat) := [
  (0, .iload_n 0, 0, 0, []), (1, .bipush 96, 0, 0, []), (3, .isub, 0, 0, []), (4, .istore 4, 0, 0, []),
  (6, .iload_n 1, 0, 0, []), (7, .ifCond .le 16, 23, 0, []), (10, .bipush 27, 0, 0, []), (12, .iload 4, 0, 0, []),
  (14, .imul, 0, 0, []), (15, .iload_n 1, 0, 0, []), (16, .iadd, 0, 0, []), (17, .bipush 96, 0, 0, []),
  (19, .isub, 0, 0, []), (20, .goto 5, 25, 0, []), (23, .iload 4, 0, 0, []), (25, .istore 4, 0, 0, []),
  (27, .iload_n 2, 0, 0, []), (28, .ifCond .le 16, 44, 0, []), (31, .bipush 27, 0, 0, []), (33, .iload 4, 0, 0, []),
  (35, .imul, 0, 0, []), (36, .iload_n 2, 0, 0, []), (37, .iadd, 0, 0, []), (38, .bipush 96, 0, 0, []),
  (40, .isub, 0, 0, []), (41, .goto 5, 46, 0, []), (44, .iload 4, 0, 0, []), (46, .istore 4, 0, 0, []),
  (48, .iload_n 3, 0, 0, []), (49, .ifCond .le 16, 65, 0, []), (52, .bipush 27, 0, 0, []), (54, .iload 4, 0, 0, []),
  (56, .imul, 0, 0, []), (57, .iload_n 3, 0, 0, []), (58, .iadd, 0, 0, []), (59, .bipush 96, 0, 0, []),
  (61, .isub, 0, 0, []), (62, .goto 5, 67, 0, []), (65, .iload 4, 0, 0, []), (67, .ireturn, 0, 0, [])
  ]
/-- ChainDeskModel.readName()I -/
def cd_r117 : List (Nat × Instr × Nat × Nat × List Nat) := [
  (0, .aload_n 0, 0, 0, []), (1, .invokevirtual 124, 114, 0, [1045, 1047, 30, 69, 1048]), (4, .istore_n 1, 0, 0, []), (5, .aload_n 0, 0, 0, []),
  (6, .iload_n 1, 0, 0, []), (7, .ifCond .le 14, 21, 0, []), (10, .iload_n 1, 0, 0, []), (11, .invokestatic 128, 118, 1, [1059, 1060, 69, 1061]),
  (14, .ifCond .ne 7, 21, 0, []), (17, .iconst 1, 0, 0, []), (18, .goto 4, 22, 0, []), (21, .iconst 0, 0, 0, []),
  (22, .invokevirtual 113, 107, 1, [1017, 1019, 23, 69, 1020]), (25, .iload_n 1, 0, 0, []), (26, .ireturn, 0, 0, [])
  ]
/-- ChainDeskModel.isWord(I)Z -/
def cd_r118 : List (Nat × Instr × Nat × Nat × List Nat) := [
  (0, .iload_n 0, 0, 0, []), (1, .bipush 110, 0, 0, []), (3, .bipush 101, 0, 0, []), (5, .bipush 119, 0, 0, []),
  (7, .iconst 0, 0, 0, []), (8, .invokestatic 120, 116, 4, [1052, 1053, 69, 1054]), (11, .if_icmp .eq 47, 58, 0, []), (14, .iload_n 0, 0, 0, []),
  (15, .bipush 105, 0, 0, []), (17, .bipush 110, 0, 0, []), (19, .bipush 116, 0, 0, []), (21, .iconst 0, 0, 0, []),
  (22, .invokestatic 120, 116, 4, [1052, 1053, 69, 1054]), (25, .if_icmp .eq 33, 58, 0, []), (28, .iload_n 0, 0, 0, []), (29, .bipush 108, 0, 0, []),
  (31, .bipush 111, 0, 0, []), (33, .bipush 110, 0, 0, []), (35, .bipush 103, 0, 0, []), (37, .invokestatic 120, 116, 4, [1052, 1053, 69, 1054]),
  (40, .if_icmp .eq 18, 58, 0, []), (43, .iload_n 0, 0, 0, []), (44, .bipush 98, 0, 0, []), (46, .bipush 111, 0, 0, []),
  (48, .bipush 111, 0, 0, []), (50, .bipush 108, 0, 0, []), (52, .invokestatic 120, 116, 4, [1052, 1053, 69, 1054]), (55, .if_icmp .ne 7, 62, 0, []),
  (58, .iconst 1, 0, 0, []), (59, .goto 4, 63, 0, []), (62, .iconst 0, 0, 0, []), (63, .ireturn, 0, 0, [])
  ]
/-- ChainDeskModel.allowed(II)Z -/
def cd_r119 : List (Nat × Instr × Nat × Nat × List Nat) := [
  (0, .iload_n 2, 0, 0, []), (1, .istore_n 3, 0, 0, []), (2, .iload_n 3, 0, 0, []), (3, .iconst (-1), 0, 0, []),
  (4, .if_icmp .eq 131, 135, 0, []), (7, .bipush 6, 0, 0, []), (9, .iload_n 3, 0, 0, []), (10, .imul, 0, 0, []),
  (11, .istore 4, 0, 0, []), (13, .iload 4, 0, 0, []), (15, .bipush 6, 0, 0, []), (17, .iload_n 3, 0, 0, []),
  (18, .imul, 0, 0, []), (19, .aload_n 0, 0, 0, []), (20, .getfield 21, 11, 7, [875]), (23, .iload_n 3, 0, 0, []),
  (24, .iaload, 0, 0, []), (25, .iadd, 0, 0, []), (26, .if_icmp .ge 99, 125, 0, []), (29, .aload_n 0, 0, 0, []),
  (30, .getfield 24, 11, 8, [876]), (33, .iload_n 1, 0, 0, []), (34, .iaload, 0, 0, []), (35, .iconst 1, 0, 0, []),
  (36, .if_icmp .ne 44, 80, 0, []), (39, .aload_n 0, 0, 0, []), (40, .getfield 24, 11, 8, [876]), (43, .iload 4, 0, 0, []),
  (45, .iaload, 0, 0, []), (46, .iconst 1, 0, 0, []), (47, .if_icmp .ne 33, 80, 0, []), (50, .aload_n 0, 0, 0, []),
  (51, .getfield 33, 11, 11, [879]), (54, .iload_n 1, 0, 0, []), (55, .iaload, 0, 0, []), (56, .aload_n 0, 0, 0, []),
  (57, .getfield 33, 11, 11, [879]), (60, .iload 4, 0, 0, []), (62, .iaload, 0, 0, []), (63, .if_icmp .ne 17, 80, 0, []),
  (66, .aload_n 0, 0, 0, []), (67, .getfield 30, 11, 10, [878]), (70, .iload 4, 0, 0, []), (72, .baload, 0, 0, []),
  (73, .ifCond .ne 7, 80, 0, []), (76, .iconst 1, 0, 0, []), (77, .goto 4, 81, 0, []), (80, .iconst 0, 0, 0, []),
  (81, .istore 5, 0, 0, []), (83, .iload 5, 0, 0, []), (85, .ifCond .eq 34, 119, 0, []), (88, .aload_n 0, 0, 0, []),
  (89, .getfield 27, 11, 9, [877]), (92, .iload_n 1, 0, 0, []), (93, .baload, 0, 0, []), (94, .ifCond .ne 23, 117, 0, []),
  (97, .aload_n 0, 0, 0, []), (98, .getfield 27, 11, 9, [877]), (101, .iload 4, 0, 0, []), (103, .baload, 0, 0, []),
  (104, .ifCond .ne 13, 117, 0, []), (107, .aload_n 0, 0, 0, []), (108, .iload_n 1, 0, 0, []), (109, .iload 4, 0, 0, []),
  (111, .invokevirtual 156, 120, 2, [1066, 1068, 33, 69, 1069]), (114, .ifCond .ne 5, 119, 0, []), (117, .iconst 0, 0, 0, []), (118, .ireturn, 0, 0, []),
  (119, .iinc 4 1, 0, 0, []), (122, .goto (-109), 13, 0, []), (125, .aload_n 0, 0, 0, []), (126, .getfield 17, 11, 6, [874]),
  (129, .iload_n 3, 0, 0, []), (130, .iaload, 0, 0, []), (131, .istore_n 3, 0, 0, []), (132, .goto (-130), 2, 0, []),
  (135, .iconst 1, 0, 0, []), (136, .ireturn, 0, 0, [])
  ]
/-- ChainDeskModel.sameTypes(II)Z -/
def cd_r120 : List (Nat × Instr × Nat × Nat × List Nat) := [
  (0, .aload_n 0, 0, 0, []), (1, .getfield 36, 11, 12, [880]), (4, .iload_n 1, 0, 0, []), (5, .iaload, 0, 0, []),
  (6, .aload_n 0, 0, 0, []), (7, .getfield 36, 11, 12, [880]), (10, .iload_n 2, 0, 0, []), (11, .iaload, 0, 0, []),
  (12, .if_icmp .ne 22, 34, 0, []), (15, .aload_n 0, 0, 0, []), (16, .getfield 39, 11, 13, [881]), (19, .iload_n 1, 0, 0, []),
  (20, .iaload, 0, 0, []), (21, .aload_n 0, 0, 0, []), (22, .getfield 39, 11, 13, [881]), (25, .iload_n 2, 0, 0, []),
  (26, .iaload, 0, 0, []), (27, .if_icmp .ne 7, 34, 0, []), (30, .iconst 1, 0, 0, []), (31, .goto 4, 35, 0, []),
  (34, .iconst 0, 0, 0, []), (35, .istore_n 3, 0, 0, []), (36, .iconst 0, 0, 0, []), (37, .istore 4, 0, 0, []),
  (39, .iload 4, 0, 0, []), (41, .aload_n 0, 0, 0, []), (42, .getfield 39, 11, 13, [881]), (45, .iload_n 1, 0, 0, []),
  (46, .iaload, 0, 0, []), (47, .if_icmp .ge 44, 91, 0, []), (50, .iload_n 3, 0, 0, []), (51, .ifCond .eq 40, 91, 0, []),
  (54, .aload_n 0, 0, 0, []), (55, .getfield 42, 11, 14, [882]), (58, .iconst 2, 0, 0, []), (59, .iload_n 1, 0, 0, []),
  (60, .imul, 0, 0, []), (61, .iload 4, 0, 0, []), (63, .iadd, 0, 0, []), (64, .iaload, 0, 0, []),
  (65, .aload_n 0, 0, 0, []), (66, .getfield 42, 11, 14, [882]), (69, .iconst 2, 0, 0, []), (70, .iload_n 2, 0, 0, []),
  (71, .imul, 0, 0, []), (72, .iload 4, 0, 0, []), (74, .iadd, 0, 0, []), (75, .iaload, 0, 0, []),
  (76, .if_icmp .ne 7, 83, 0, []), (79, .iconst 1, 0, 0, []), (80, .goto 4, 84, 0, []), (83, .iconst 0, 0, 0, []),
  (84, .istore_n 3, 0, 0, []), (85, .iinc 4 1, 0, 0, []), (88, .goto (-49), 39, 0, []), (91, .iload_n 3, 0, 0, []),
  (92, .ireturn, 0, 0, [])
  ]
/-- ChainDeskModel.refuse(I)I -/
def cd_r121 : List (Nat × Instr × Nat × Nat × List Nat) := [
  (0, .aload_n 0, 0, 0, []), (1, .iload_n 1, 0, 0, []), (2, .putfield 88, 11, 0, [868]), (5, .iconst 0, 0, 0, []),
  (6, .ireturn, 0, 0, [])
  ]
/-- ChainDeskModel.copyMember(II)V -/
def cd_r122 : List (Nat × Instr × Nat × Nat × List Nat) := [
  (0, .aload_n 0, 0, 0, []), (1, .getfield 24, 11, 8, [876]), (4, .iload_n 2, 0, 0, []), (5, .aload_n 0, 0, 0, []),
  (6, .getfield 24, 11, 8, [876]), (9, .iload_n 1, 0, 0, []), (10, .iaload, 0, 0, []), (11, .iastore, 0, 0, []),
  (12, .aload_n 0, 0, 0, []), (13, .getfield 27, 11, 9, [877]), (16, .iload_n 2, 0, 0, []), (17, .aload_n 0, 0, 0, []),
  (18, .getfield 27, 11, 9, [877]), (21, .iload_n 1, 0, 0, []), (22, .baload, 0, 0, []), (23, .bastore, 0, 0, []),
  (24, .aload_n 0, 0, 0, []), (25, .getfield 30, 11, 10, [878]), (28, .iload_n 2, 0, 0, []), (29, .aload_n 0, 0, 0, []),
  (30, .getfield 30, 11, 10, [878]), (33, .iload_n 1, 0, 0, []), (34, .baload, 0, 0, []), (35, .bastore, 0, 0, []),
  (36, .aload_n 0, 0, 0, []), (37, .getfield 33, 11, 11, [879]), (40, .iload_n 2, 0, 0, []), (41, .aload_n 0, 0, 0, []),
  (42, .getfield 33, 11, 11, [879]), (45, .iload_n 1, 0, 0, []), (46, .iaload, 0, 0, []), (47, .iastore, 0, 0, []),
  (48, .aload_n 0, 0, 0, []), (49, .getfield 36, 11, 12, [880]), (52, .iload_n 2, 0, 0, []), (53, .aload_n 0, 0, 0, []),
  (54, .getfield 36, 11, 12, [880]), (57, .iload_n 1, 0, 0, []), (58, .iaload, 0, 0, []), (59, .iastore, 0, 0, []),
  (60, .aload_n 0, 0, 0, []), (61, .getfield 39, 11, 13, [881]), (64, .iload_n 2, 0, 0, []), (65, .aload_n 0, 0, 0, []),
  (66, .getfield 39, 11, 13, [881]), (69, .iload_n 1, 0, 0, []), (70, .iaload, 0, 0, []), (71, .iastore, 0, 0, []),
  (72, .aload_n 0, 0, 0, []), (73, .getfield 42, 11, 14, [882]), (76, .iconst 2, 0, 0, []), (77, .iload_n 2, 0, 0, []),
  (78, .imul, 0, 0, []), (79, .aload_n 0, 0, 0, []), (80, .getfield 42, 11, 14, [882]), (83, .iconst 2, 0, 0, []),
  (84, .iload_n 1, 0, 0, []), (85, .imul, 0, 0, []), (86, .iaload, 0, 0, []), (87, .iastore, 0, 0, []),
  (88, .aload_n 0, 0, 0, []), (89, .getfield 42, 11, 14, [882]), (92, .iconst 2, 0, 0, []), (93, .iload_n 2, 0, 0, []),
  (94, .imul, 0, 0, []), (95, .iconst 1, 0, 0, []), (96, .iadd, 0, 0, []), (97, .aload_n 0, 0, 0, []),
  (98, .getfield 42, 11, 14, [882]), (101, .iconst 2, 0, 0, []), (102, .iload_n 1, 0, 0, []), (103, .imul, 0, 0, []),
  (104, .iconst 1, 0, 0, []), (105, .iadd, 0, 0, []), (106, .iaload, 0, 0, []), (107, .iastore, 0, 0, []),
  (108, .return_, 0, 0, [])
  ]
/-- ChainDeskModel.variable()I -/
def cd_r123 : List (Nat × Instr × Nat × Nat × List Nat) := [
  (0, .aload_n 0, 0, 0, []), (1, .getfield 183, 11, 15, [883]), (4, .iconst 5, 0, 0, []), (5, .if_icmp .ne 14, 19, 0, []),
  (8, .aload_n 0, 0, 0, []), (9, .iconst 0, 0, 0, []), (10, .putfield 95, 11, 2, [870]), (13, .aload_n 0, 0, 0, []),
  (14, .iconst 2, 0, 0, []), (15, .invokevirtual 176, 121, 1, [1070, 1072, 34, 69, 1073]), (18, .ireturn, 0, 0, []), (19, .aload_n 0, 0, 0, []),
  (20, .iconst 0, 0, 0, []), (21, .putfield 98, 11, 3, [871]), (24, .aload_n 0, 0, 0, []), (25, .iconst 1, 0, 0, []),
  (26, .putfield 101, 11, 4, [872]), (29, .aload_n 0, 0, 0, []), (30, .invokevirtual 153, 117, 0, [1055, 1057, 31, 69, 1058]), (33, .istore_n 1, 0, 0, []),
  (34, .aload_n 0, 0, 0, []), (35, .bipush 58, 0, 0, []), (37, .invokevirtual 138, 109, 1, [1025, 1027, 25, 69, 1028]), (40, .aload_n 0, 0, 0, []),
  (41, .getfield 101, 11, 4, [872]), (44, .ifCond .eq 10, 54, 0, []), (47, .aload_n 0, 0, 0, []), (48, .invokevirtual 142, 113, 0, [1041, 1043, 29, 69, 1044]),
  (51, .goto 4, 55, 0, []), (54, .iconst 0, 0, 0, []), (55, .istore_n 2, 0, 0, []), (56, .aload_n 0, 0, 0, []),
  (57, .aload_n 0, 0, 0, []), (58, .getfield 98, 11, 3, [871]), (61, .aload_n 0, 0, 0, []), (62, .getfield 95, 11, 2, [870]),
  (65, .if_icmp .ne 16, 81, 0, []), (68, .aload_n 0, 0, 0, []), (69, .iload_n 1, 0, 0, []), (70, .invokevirtual 186, 124, 1, [1082, 1084, 36, 69, 1085]),
  (73, .iconst (-1), 0, 0, []), (74, .if_icmp .ne 7, 81, 0, []), (77, .iconst 1, 0, 0, []), (78, .goto 4, 82, 0, []),
  (81, .iconst 0, 0, 0, []), (82, .invokevirtual 113, 107, 1, [1017, 1019, 23, 69, 1020]), (85, .aload_n 0, 0, 0, []), (86, .iconst 0, 0, 0, []),
  (87, .putfield 95, 11, 2, [870]), (90, .aload_n 0, 0, 0, []), (91, .getfield 101, 11, 4, [872]), (94, .ifCond .ne 9, 103, 0, []),
  (97, .aload_n 0, 0, 0, []), (98, .iconst 1, 0, 0, []), (99, .invokevirtual 176, 121, 1, [1070, 1072, 34, 69, 1073]), (102, .ireturn, 0, 0, []),
  (103, .aload_n 0, 0, 0, []), (104, .iconst 0, 0, 0, []), (105, .putfield 88, 11, 0, [868]), (108, .aload_n 0, 0, 0, []),
  (109, .getfield 45, 11, 16, [884]), (112, .aload_n 0, 0, 0, []), (113, .getfield 183, 11, 15, [883]), (116, .iload_n 1, 0, 0, []),
  (117, .iastore, 0, 0, []), (118, .aload_n 0, 0, 0, []), (119, .getfield 48, 11, 17, [885]), (122, .aload_n 0, 0, 0, []),
  (123, .getfield 183, 11, 15, [883]), (126, .iload_n 2, 0, 0, []), (127, .iastore, 0, 0, []), (128, .aload_n 0, 0, 0, []),
  (129, .dup, 0, 0, []), (130, .getfield 183, 11, 15, [883]), (133, .iconst 1, 0, 0, []), (134, .iadd, 0, 0, []),
  (135, .putfield 183, 11, 15, [883]), (138, .aload_n 0, 0, 0, []), (139, .getfield 183, 11, 15, [883]), (142, .ireturn, 0, 0, [])
  ]
/-- ChainDeskModel.variableOf(I)I -/
def cd_r124 : List (Nat × Instr × Nat × Nat × List Nat) := [
  (0, .iconst (-1), 0, 0, []), (1, .istore_n 2, 0, 0, []), (2, .iconst 0, 0, 0, []), (3, .istore_n 3, 0, 0, []),
  (4, .iload_n 3, 0, 0, []), (5, .aload_n 0, 0, 0, []), (6, .getfield 183, 11, 15, [883]), (9, .if_icmp .ge 25, 34, 0, []),
  (12, .aload_n 0, 0, 0, []), (13, .getfield 45, 11, 16, [884]), (16, .iload_n 3, 0, 0, []), (17, .iaload, 0, 0, []),
  (18, .iload_n 1, 0, 0, []), (19, .if_icmp .ne 7, 26, 0, []), (22, .iload_n 3, 0, 0, []), (23, .goto 4, 27, 0, []),
  (26, .iload_n 2, 0, 0, []), (27, .istore_n 2, 0, 0, []), (28, .iinc 3 1, 0, 0, []), (31, .goto (-27), 4, 0, []),
  (34, .iload_n 2, 0, 0, []), (35, .ireturn, 0, 0, [])
  ]
/-- ChainDeskModel.forget()V -/
def cd_r125 : List (Nat × Instr × Nat × Nat × List Nat) := [
  (0, .aload_n 0, 0, 0, []), (1, .iconst 0, 0, 0, []), (2, .putfield 88, 11, 0, [868]), (5, .aload_n 0, 0, 0, []),
  (6, .iconst 0, 0, 0, []), (7, .putfield 183, 11, 15, [883]), (10, .return_, 0, 0, [])
  ]
/-- ChainDeskModel.enter(I)V -/
def cd_r126 : List (Nat × Instr × Nat × Nat × List Nat) := [
  (0, .aload_n 0, 0, 0, []), (1, .iload_n 1, 0, 0, []), (2, .iconst (-1), 0, 0, []), (3, .bipush 9, 0, 0, []),
  (5, .invokestatic 91, 101, 3, [995, 996, 69, 997]), (8, .ifCond .eq 7, 15, 0, []), (11, .iconst 1, 0, 0, []), (12, .goto 4, 16, 0, []),
  (15, .iconst 0, 0, 0, []), (16, .putfield 88, 11, 0, [868]), (19, .aload_n 0, 0, 0, []), (20, .aload_n 0, 0, 0, []),
  (21, .getfield 88, 11, 0, [868]), (24, .ifCond .ne 7, 31, 0, []), (27, .iload_n 1, 0, 0, []), (28, .goto 7, 35, 0, []),
  (31, .aload_n 0, 0, 0, []), (32, .getfield 51, 11, 18, [886]), (35, .putfield 51, 11, 18, [886]), (38, .return_, 0, 0, [])
  ]
/-- ChainDeskModel.fits(II)Z -/
def cd_r127 : List (Nat × Instr × Nat × Nat × List Nat) := [
  (0, .aload_n 0, 0, 0, []), (1, .iconst 0, 0, 0, []), (2, .putfield 88, 11, 0, [868]), (5, .iload_n 1, 0, 0, []),
  (6, .iconst 0, 0, 0, []), (7, .bipush 12, 0, 0, []), (9, .invokestatic 91, 101, 3, [995, 996, 69, 997]), (12, .ifCond .ne 26, 38, 0, []),
  (15, .iload_n 2, 0, 0, []), (16, .iconst 0, 0, 0, []), (17, .bipush 12, 0, 0, []), (19, .invokestatic 91, 101, 3, [995, 996, 69, 997]),
  (22, .ifCond .ne 16, 38, 0, []), (25, .aload_n 0, 0, 0, []), (26, .iload_n 1, 0, 0, []), (27, .iload_n 2, 0, 0, []),
  (28, .invokevirtual 192, 128, 2, [1098, 1100, 37, 69, 1101]), (31, .ifCond .eq 7, 38, 0, []), (34, .iconst 1, 0, 0, []), (35, .goto 4, 39, 0, []),
  (38, .iconst 0, 0, 0, []), (39, .ireturn, 0, 0, [])
  ]
/-- ChainDeskModel.fit(II)Z -/
def cd_r128 : List (Nat × Instr × Nat × Nat × List Nat) := [
  (0, .iload_n 1, 0, 0, []), (1, .iload_n 2, 0, 0, []), (2, .if_icmp .eq 12, 14, 0, []), (5, .iload_n 1, 0, 0, []),
  (6, .ifCond .ne 12, 18, 0, []), (9, .iload_n 2, 0, 0, []), (10, .iconst 1, 0, 0, []), (11, .if_icmp .ne 7, 18, 0, []),
  (14, .iconst 1, 0, 0, []), (15, .goto 4, 19, 0, []), (18, .iconst 0, 0, 0, []), (19, .istore_n 3, 0, 0, []),
  (20, .iload_n 1, 0, 0, []), (21, .iconst 3, 0, 0, []), (22, .if_icmp .ge 7, 29, 0, []), (25, .iconst (-1), 0, 0, []),
  (26, .goto 6, 32, 0, []), (29, .iload_n 1, 0, 0, []), (30, .iconst 3, 0, 0, []), (31, .isub, 0, 0, []),
  (32, .istore 4, 0, 0, []), (34, .iload 4, 0, 0, []), (36, .iconst (-1), 0, 0, []), (37, .if_icmp .eq 32, 69, 0, []),
  (40, .iload_n 3, 0, 0, []), (41, .ifCond .ne 11, 52, 0, []), (44, .iconst 3, 0, 0, []), (45, .iload 4, 0, 0, []),
  (47, .iadd, 0, 0, []), (48, .iload_n 2, 0, 0, []), (49, .if_icmp .ne 7, 56, 0, []), (52, .iconst 1, 0, 0, []),
  (53, .goto 4, 57, 0, []), (56, .iconst 0, 0, 0, []), (57, .istore_n 3, 0, 0, []), (58, .aload_n 0, 0, 0, []),
  (59, .iload 4, 0, 0, []), (61, .invokevirtual 189, 129, 1, [1102, 1104, 38, 69, 1105]), (64, .istore 4, 0, 0, []), (66, .goto (-32), 34, 0, []),
  (69, .iload_n 3, 0, 0, []), (70, .ireturn, 0, 0, [])
  ]
/-- ChainDeskModel.aboveOf(I)I -/
def cd_r129 : List (Nat × Instr × Nat × Nat × List Nat) := [
  (0, .aload_n 0, 0, 0, []), (1, .getfield 13, 11, 5, [873]), (4, .iload_n 1, 0, 0, []), (5, .baload, 0, 0, []),
  (6, .ifCond .eq 12, 18, 0, []), (9, .aload_n 0, 0, 0, []), (10, .getfield 17, 11, 6, [874]), (13, .iload_n 1, 0, 0, []),
  (14, .iaload, 0, 0, []), (15, .goto 4, 19, 0, []), (18, .iconst (-1), 0, 0, []), (19, .ireturn, 0, 0, [])
  ]
/-- ChainDeskModel.complete(II)I -/
def cd_r130 : List (Nat × Instr × Nat × Nat × List Nat) := [
  (0, .iload_n 1, 0, 0, []), (1, .iconst 0, 0, 0, []), (2, .bipush 12, 0, 0, []), (4, .invokestatic 91, 101, 3, [995, 996, 69, 997]),
  (7, .ifCond .ne 12, 19, 0, []), (10, .iload_n 2, 0, 0, []), (11, .iconst 0, 0, 0, []), (12, .iconst 3, 0, 0, []),
  (13, .invokestatic 91, 101, 3, [995, 996, 69, 997]), (16, .ifCond .eq 9, 25, 0, []), (19, .aload_n 0, 0, 0, []), (20, .iconst 1, 0, 0, []),
  (21, .invokevirtual 176, 121, 1, [1070, 1072, 34, 69, 1073]), (24, .ireturn, 0, 0, []), (25, .aload_n 0, 0, 0, []), (26, .iconst 0, 0, 0, []),
  (27, .putfield 88, 11, 0, [868]), (30, .aload_n 0, 0, 0, []), (31, .iconst 0, 0, 0, []), (32, .putfield 207, 11, 19, [887]),
  (35, .iconst 0, 0, 0, []), (36, .istore_n 3, 0, 0, []), (37, .iload_n 3, 0, 0, []), (38, .iload_n 2, 0, 0, []),
  (39, .if_icmp .gt 33, 72, 0, []), (42, .aload_n 0, 0, 0, []), (43, .aload_n 0, 0, 0, []), (44, .getfield 207, 11, 19, [887]),
  (47, .putfield 210, 11, 24, [892]), (50, .iload_n 3, 0, 0, []), (51, .ifCond .ne 10, 61, 0, []), (54, .aload_n 0, 0, 0, []),
  (55, .invokevirtual 241, 131, 0, [1110, 1112, 39, 69, 1113]), (58, .goto 8, 66, 0, []), (61, .aload_n 0, 0, 0, []), (62, .iload_n 3, 0, 0, []),
  (63, .invokevirtual 244, 137, 1, [1134, 1136, 45, 69, 1137]), (66, .iinc 3 1, 0, 0, []), (69, .goto (-32), 37, 0, []), (72, .aload_n 0, 0, 0, []),
  (73, .iconst 0, 0, 0, []), (74, .putfield 247, 11, 27, [895]), (77, .iconst 0, 0, 0, []), (78, .istore_n 3, 0, 0, []),
  (79, .iload_n 3, 0, 0, []), (80, .aload_n 0, 0, 0, []), (81, .getfield 207, 11, 19, [887]), (84, .if_icmp .ge 37, 121, 0, []),
  (87, .aload_n 0, 0, 0, []), (88, .getfield 247, 11, 27, [895]), (91, .bipush 10, 0, 0, []), (93, .if_icmp .ge 28, 121, 0, []),
  (96, .aload_n 0, 0, 0, []), (97, .aload_n 0, 0, 0, []), (98, .getfield 58, 11, 21, [889]), (101, .iload_n 3, 0, 0, []),
  (102, .iaload, 0, 0, []), (103, .iload_n 1, 0, 0, []), (104, .invokevirtual 192, 128, 2, [1098, 1100, 37, 69, 1101]), (107, .ifCond .eq 8, 115, 0, []),
  (110, .aload_n 0, 0, 0, []), (111, .iload_n 3, 0, 0, []), (112, .invokevirtual 250, 145, 1, [1166, 1168, 53, 69, 1169]), (115, .iinc 3 1, 0, 0, []),
  (118, .goto (-39), 79, 0, []), (121, .aload_n 0, 0, 0, []), (122, .getfield 247, 11, 27, [895]), (125, .ireturn, 0, 0, [])
  ]
/-- ChainDeskModel.keepVariables()V -/
def cd_r131 : List (Nat × Instr × Nat × Nat × List Nat) := [
  (0, .iconst 0, 0, 0, []), (1, .istore_n 1, 0, 0, []), (2, .iload_n 1, 0, 0, []), (3, .aload_n 0, 0, 0, []),
  (4, .getfield 183, 11, 15, [883]), (7, .if_icmp .ge 35, 42, 0, []), (10, .aload_n 0, 0, 0, []), (11, .iconst 0, 0, 0, []),
  (12, .putfield 201, 11, 25, [893]), (15, .aload_n 0, 0, 0, []), (16, .aload_n 0, 0, 0, []), (17, .getfield 45, 11, 16, [884]),
  (20, .iload_n 1, 0, 0, []), (21, .iaload, 0, 0, []), (22, .invokevirtual 222, 132, 1, [1114, 1116, 40, 69, 1117]), (25, .aload_n 0, 0, 0, []),
  (26, .iconst 0, 0, 0, []), (27, .aload_n 0, 0, 0, []), (28, .getfield 48, 11, 17, [885]), (31, .iload_n 1, 0, 0, []),
  (32, .iaload, 0, 0, []), (33, .invokevirtual 232, 134, 2, [1122, 1124, 42, 69, 1125]), (36, .iinc 1 1, 0, 0, []), (39, .goto (-37), 2, 0, []),
  (42, .return_, 0, 0, [])
  ]
/-- ChainDeskModel.writeName(I)V -/
def cd_r132 : List (Nat × Instr × Nat × Nat × List Nat) := [
  (0, .iconst 1, 0, 0, []), (1, .istore_n 2, 0, 0, []), (2, .iload_n 2, 0, 0, []), (3, .iload_n 1, 0, 0, []),
  (4, .bipush 27, 0, 0, []), (6, .idiv, 0, 0, []), (7, .if_icmp .gt 11, 18, 0, []), (10, .iload_n 2, 0, 0, []),
  (11, .bipush 27, 0, 0, []), (13, .imul, 0, 0, []), (14, .istore_n 2, 0, 0, []), (15, .goto (-13), 2, 0, []),
  (18, .iload_n 2, 0, 0, []), (19, .istore_n 3, 0, 0, []), (20, .iload_n 3, 0, 0, []), (21, .ifCond .le 25, 46, 0, []),
  (24, .aload_n 0, 0, 0, []), (25, .bipush 96, 0, 0, []), (27, .iload_n 1, 0, 0, []), (28, .iload_n 3, 0, 0, []),
  (29, .idiv, 0, 0, []), (30, .bipush 27, 0, 0, []), (32, .irem, 0, 0, []), (33, .iadd, 0, 0, []),
  (34, .i2c, 0, 0, []), (35, .invokevirtual 204, 133, 1, [1118, 1120, 41, 69, 1121]), (38, .iload_n 3, 0, 0, []), (39, .bipush 27, 0, 0, []),
  (41, .idiv, 0, 0, []), (42, .istore_n 3, 0, 0, []), (43, .goto (-23), 20, 0, []), (46, .return_, 0, 0, [])
  ]
/-- ChainDeskModel.write(C)V -/
def cd_r133 : List (Nat × Instr × Nat × Nat × List Nat) := [
  (0, .aload_n 0, 0, 0, []), (1, .getfield 201, 11, 25, [893]), (4, .sipush 200, 0, 0, []), (7, .if_icmp .ge 13, 20, 0, []),
  (10, .aload_n 0, 0, 0, []), (11, .getfield 67, 11, 26, [894]), (14, .aload_n 0, 0, 0, []), (15, .getfield 201, 11, 25, [893]),
  (18, .iload_n 1, 0, 0, []), (19, .castore, 0, 0, []), (20, .aload_n 0, 0, 0, []), (21, .dup, 0, 0, []),
  (22, .getfield 201, 11, 25, [893]), (25, .iconst 1, 0, 0, []), (26, .iadd, 0, 0, []), (27, .putfield 201, 11, 25, [893]),
  (30, .return_, 0, 0, [])
  ]
/-- ChainDeskModel.keep(II)V -/
def cd_r134 : List (Nat × Instr × Nat × Nat × List Nat) := [
  (0, .aload_n 0, 0, 0, []), (1, .getfield 201, 11, 25, [893]), (4, .bipush 24, 0, 0, []), (6, .if_icmp .le 4, 10, 0, []),
  (9, .return_, 0, 0, []), (10, .aload_n 0, 0, 0, []), (11, .getfield 207, 11, 19, [887]), (14, .istore_n 3, 0, 0, []),
  (15, .iload_n 3, 0, 0, []), (16, .aload_n 0, 0, 0, []), (17, .getfield 210, 11, 24, [892]), (20, .if_icmp .le 19, 39, 0, []),
  (23, .aload_n 0, 0, 0, []), (24, .iload_n 3, 0, 0, []), (25, .iconst 1, 0, 0, []), (26, .isub, 0, 0, []),
  (27, .invokevirtual 213, 135, 1, [1126, 1128, 43, 69, 1129]), (30, .ifCond .eq 9, 39, 0, []), (33, .iinc 3 (-1), 0, 0, []), (36, .goto (-21), 15, 0, []),
  (39, .iload_n 3, 0, 0, []), (40, .aload_n 0, 0, 0, []), (41, .getfield 210, 11, 24, [892]), (44, .isub, 0, 0, []),
  (45, .bipush 7, 0, 0, []), (47, .if_icmp .le 4, 51, 0, []), (50, .return_, 0, 0, []), (51, .aload_n 0, 0, 0, []),
  (52, .getfield 207, 11, 19, [887]), (55, .istore 4, 0, 0, []), (57, .iload 4, 0, 0, []), (59, .iload_n 3, 0, 0, []),
  (60, .if_icmp .le 19, 79, 0, []), (63, .aload_n 0, 0, 0, []), (64, .iload 4, 0, 0, []), (66, .iconst 1, 0, 0, []),
  (67, .isub, 0, 0, []), (68, .iload 4, 0, 0, []), (70, .invokevirtual 216, 136, 2, [1130, 1132, 44, 69, 1133]), (73, .iinc 4 (-1), 0, 0, []),
  (76, .goto (-19), 57, 0, []), (79, .aload_n 0, 0, 0, []), (80, .getfield 55, 11, 20, [888]), (83, .iload_n 3, 0, 0, []),
  (84, .iload_n 1, 0, 0, []), (85, .iastore, 0, 0, []), (86, .aload_n 0, 0, 0, []), (87, .getfield 58, 11, 21, [889]),
  (90, .iload_n 3, 0, 0, []), (91, .iload_n 2, 0, 0, []), (92, .iastore, 0, 0, []), (93, .aload_n 0, 0, 0, []),
  (94, .getfield 61, 11, 22, [890]), (97, .iload_n 3, 0, 0, []), (98, .aload_n 0, 0, 0, []), (99, .getfield 201, 11, 25, [893]),
  (102, .iastore, 0, 0, []), (103, .iconst 0, 0, 0, []), (104, .istore 4, 0, 0, []), (106, .iload 4, 0, 0, []),
  (108, .aload_n 0, 0, 0, []), (109, .getfield 201, 11, 25, [893]), (112, .if_icmp .ge 28, 140, 0, []), (115, .aload_n 0, 0, 0, []),
  (116, .getfield 64, 11, 23, [891]), (119, .bipush 24, 0, 0, []), (121, .iload_n 3, 0, 0, []), (122, .imul, 0, 0, []),
  (123, .iload 4, 0, 0, []), (125, .iadd, 0, 0, []), (126, .aload_n 0, 0, 0, []), (127, .getfield 67, 11, 26, [894]),
  (130, .iload 4, 0, 0, []), (132, .caload, 0, 0, []), (133, .castore, 0, 0, []), (134, .iinc 4 1, 0, 0, []),
  (137, .goto (-31), 106, 0, []), (140, .aload_n 0, 0, 0, []), (141, .aload_n 0, 0, 0, []), (142, .getfield 207, 11, 19, [887]),
  (145, .aload_n 0, 0, 0, []), (146, .getfield 210, 11, 24, [892]), (149, .isub, 0, 0, []), (150, .bipush 8, 0, 0, []),
  (152, .if_icmp .ge 12, 164, 0, []), (155, .aload_n 0, 0, 0, []), (156, .getfield 207, 11, 19, [887]), (159, .iconst 1, 0, 0, []),
  (160, .iadd, 0, 0, []), (161, .goto 7, 168, 0, []), (164, .aload_n 0, 0, 0, []), (165, .getfield 207, 11, 19, [887]),
  (168, .putfield 207, 11, 19, [887]), (171, .return_, 0, 0, [])
  ]
/-- ChainDeskModel.before(I)Z -/
def cd_r135 : List (Nat × Instr × Nat × Nat × List Nat) := [
  (0, .iconst 0, 0, 0, []), (1, .istore_n 2, 0, 0, []), (2, .iload_n 2, 0, 0, []), (3, .aload_n 0, 0, 0, []),
  (4, .getfield 201, 11, 25, [893]), (7, .if_icmp .ge 65, 72, 0, []), (10, .iload_n 2, 0, 0, []), (11, .aload_n 0, 0, 0, []),
  (12, .getfield 61, 11, 22, [890]), (15, .iload_n 1, 0, 0, []), (16, .iaload, 0, 0, []), (17, .if_icmp .ge 55, 72, 0, []),
  (20, .aload_n 0, 0, 0, []), (21, .getfield 67, 11, 26, [894]), (24, .iload_n 2, 0, 0, []), (25, .caload, 0, 0, []),
  (26, .aload_n 0, 0, 0, []), (27, .getfield 64, 11, 23, [891]), (30, .bipush 24, 0, 0, []), (32, .iload_n 1, 0, 0, []),
  (33, .imul, 0, 0, []), (34, .iload_n 2, 0, 0, []), (35, .iadd, 0, 0, []), (36, .caload, 0, 0, []),
  (37, .if_icmp .eq 29, 66, 0, []), (40, .aload_n 0, 0, 0, []), (41, .getfield 67, 11, 26, [894]), (44, .iload_n 2, 0, 0, []),
  (45, .caload, 0, 0, []), (46, .aload_n 0, 0, 0, []), (47, .getfield 64, 11, 23, [891]), (50, .bipush 24, 0, 0, []),
  (52, .iload_n 1, 0, 0, []), (53, .imul, 0, 0, []), (54, .iload_n 2, 0, 0, []), (55, .iadd, 0, 0, []),
  (56, .caload, 0, 0, []), (57, .if_icmp .ge 7, 64, 0, []), (60, .iconst 1, 0, 0, []), (61, .goto 4, 65, 0, []),
  (64, .iconst 0, 0, 0, []), (65, .ireturn, 0, 0, []), (66, .iinc 2 1, 0, 0, []), (69, .goto (-67), 2, 0, []),
  (72, .aload_n 0, 0, 0, []), (73, .getfield 201, 11, 25, [893]), (76, .aload_n 0, 0, 0, []), (77, .getfield 61, 11, 22, [890]),
  (80, .iload_n 1, 0, 0, []), (81, .iaload, 0, 0, []), (82, .if_icmp .ge 7, 89, 0, []), (85, .iconst 1, 0, 0, []),
  (86, .goto 4, 90, 0, []), (89, .iconst 0, 0, 0, []), (90, .ireturn, 0, 0, [])
  ]
/-- ChainDeskModel.copyKept(II)V -/
def cd_r136 : List (Nat × Instr × Nat × Nat × List Nat) := [
  (0, .aload_n 0, 0, 0, []), (1, .getfield 55, 11, 20, [888]), (4, .iload_n 2, 0, 0, []), (5, .aload_n 0, 0, 0, []),
  (6, .getfield 55, 11, 20, [888]), (9, .iload_n 1, 0, 0, []), (10, .iaload, 0, 0, []), (11, .iastore, 0, 0, []),
  (12, .aload_n 0, 0, 0, []), (13, .getfield 58, 11, 21, [889]), (16, .iload_n 2, 0, 0, []), (17, .aload_n 0, 0, 0, []),
  (18, .getfield 58, 11, 21, [889]), (21, .iload_n 1, 0, 0, []), (22, .iaload, 0, 0, []), (23, .iastore, 0, 0, []),
  (24, .aload_n 0, 0, 0, []), (25, .getfield 61, 11, 22, [890]), (28, .iload_n 2, 0, 0, []), (29, .aload_n 0, 0, 0, []),
  (30, .getfield 61, 11, 22, [890]), (33, .iload_n 1, 0, 0, []), (34, .iaload, 0, 0, []), (35, .iastore, 0, 0, []),
  (36, .iconst 0, 0, 0, []), (37, .istore_n 3, 0, 0, []), (38, .iload_n 3, 0, 0, []), (39, .bipush 24, 0, 0, []),
  (41, .if_icmp .ge 31, 72, 0, []), (44, .aload_n 0, 0, 0, []), (45, .getfield 64, 11, 23, [891]), (48, .bipush 24, 0, 0, []),
  (50, .iload_n 2, 0, 0, []), (51, .imul, 0, 0, []), (52, .iload_n 3, 0, 0, []), (53, .iadd, 0, 0, []),
  (54, .aload_n 0, 0, 0, []), (55, .getfield 64, 11, 23, [891]), (58, .bipush 24, 0, 0, []), (60, .iload_n 1, 0, 0, []),
  (61, .imul, 0, 0, []), (62, .iload_n 3, 0, 0, []), (63, .iadd, 0, 0, []), (64, .caload, 0, 0, []),
  (65, .castore, 0, 0, []), (66, .iinc 3 1, 0, 0, []), (69, .goto (-31), 38, 0, []), (72, .return_, 0, 0, [])
  ]
/-- ChainDeskModel.keepCost(I)V -/
def cd_r137 : List (Nat × Instr × Nat × Nat × List Nat) := [
  (0, .aload_n 0, 0, 0, []), (1, .getfield 207, 11, 19, [887]), (4, .istore_n 2, 0, 0, []), (5, .iconst 0, 0, 0, []),
  (6, .istore_n 3, 0, 0, []), (7, .iload_n 3, 0, 0, []), (8, .bipush 60, 0, 0, []), (10, .if_icmp .ge 129, 139, 0, []),
  (13, .aload_n 0, 0, 0, []), (14, .getfield 13, 11, 5, [873]), (17, .iload_n 3, 0, 0, []), (18, .bipush 6, 0, 0, []),
  (20, .idiv, 0, 0, []), (21, .baload, 0, 0, []), (22, .ifCond .eq 23, 45, 0, []), (25, .iload_n 3, 0, 0, []),
  (26, .bipush 6, 0, 0, []), (28, .irem, 0, 0, []), (29, .aload_n 0, 0, 0, []), (30, .getfield 21, 11, 7, [875]),
  (33, .iload_n 3, 0, 0, []), (34, .bipush 6, 0, 0, []), (36, .idiv, 0, 0, []), (37, .iaload, 0, 0, []),
  (38, .if_icmp .ge 7, 45, 0, []), (41, .iconst 1, 0, 0, []), (42, .goto 4, 46, 0, []), (45, .iconst 0, 0, 0, []),
  (46, .istore 4, 0, 0, []), (48, .iload 4, 0, 0, []), (50, .ifCond .eq 28, 78, 0, []), (53, .aload_n 0, 0, 0, []),
  (54, .getfield 27, 11, 9, [877]), (57, .iload_n 3, 0, 0, []), (58, .baload, 0, 0, []), (59, .ifCond .eq 19, 78, 0, []),
  (62, .aload_n 0, 0, 0, []), (63, .iload_n 3, 0, 0, []), (64, .invokevirtual 195, 138, 1, [1138, 1140, 46, 69, 1141]), (67, .ifCond .eq 11, 78, 0, []),
  (70, .aload_n 0, 0, 0, []), (71, .iload_n 3, 0, 0, []), (72, .iconst (-1), 0, 0, []), (73, .iload_n 1, 0, 0, []),
  (74, .iload_n 2, 0, 0, []), (75, .invokevirtual 235, 139, 4, [1142, 1144, 47, 69, 1145]), (78, .iconst 0, 0, 0, []), (79, .istore 5, 0, 0, []),
  (81, .iload 5, 0, 0, []), (83, .iload_n 2, 0, 0, []), (84, .if_icmp .ge 49, 133, 0, []), (87, .iload 4, 0, 0, []),
  (89, .ifCond .eq 44, 133, 0, []), (92, .aload_n 0, 0, 0, []), (93, .getfield 55, 11, 20, [888]), (96, .iload 5, 0, 0, []),
  (98, .iaload, 0, 0, []), (99, .iload_n 1, 0, 0, []), (100, .if_icmp .ge 27, 127, 0, []), (103, .aload_n 0, 0, 0, []),
  (104, .aload_n 0, 0, 0, []), (105, .getfield 58, 11, 21, [889]), (108, .iload 5, 0, 0, []), (110, .iaload, 0, 0, []),
  (111, .iload_n 3, 0, 0, []), (112, .invokevirtual 238, 143, 2, [1158, 1160, 51, 69, 1161]), (115, .ifCond .eq 12, 127, 0, []), (118, .aload_n 0, 0, 0, []),
  (119, .iload_n 3, 0, 0, []), (120, .iload 5, 0, 0, []), (122, .iload_n 1, 0, 0, []), (123, .iload_n 2, 0, 0, []),
  (124, .invokevirtual 235, 139, 4, [1142, 1144, 47, 69, 1145]), (127, .iinc 5 1, 0, 0, []), (130, .goto (-49), 81, 0, []), (133, .iinc 3 1, 0, 0, []),
  (136, .goto (-129), 7, 0, []), (139, .return_, 0, 0, [])
  ]
/-- ChainDeskModel.usable(I)Z -/
def cd_r138 : List (Nat × Instr × Nat × Nat × List Nat) := [
  (0, .aload_n 0, 0, 0, []), (1, .getfield 30, 11, 10, [878]), (4, .iload_n 1, 0, 0, []), (5, .baload, 0, 0, []),
  (6, .ifCond .eq 14, 20, 0, []), (9, .aload_n 0, 0, 0, []), (10, .getfield 51, 11, 18, [886]), (13, .iload_n 1, 0, 0, []),
  (14, .bipush 6, 0, 0, []), (16, .idiv, 0, 0, []), (17, .if_icmp .ne 7, 24, 0, []), (20, .iconst 1, 0, 0, []),
  (21, .goto 4, 25, 0, []), (24, .iconst 0, 0, 0, []), (25, .ireturn, 0, 0, [])
  ]
/-- ChainDeskModel.offer(IIII)V -/
def cd_r139 : List (Nat × Instr × Nat × Nat × List Nat) := [
  (0, .iload_n 3, 0, 0, []), (1, .iconst 1, 0, 0, []), (2, .isub, 0, 0, []), (3, .aload_n 0, 0, 0, []),
  (4, .iload_n 2, 0, 0, []), (5, .invokevirtual 225, 140, 1, [1146, 1148, 48, 69, 1149]), (8, .isub, 0, 0, []), (9, .istore 5, 0, 0, []),
  (11, .aload_n 0, 0, 0, []), (12, .getfield 39, 11, 13, [881]), (15, .iload_n 1, 0, 0, []), (16, .iaload, 0, 0, []),
  (17, .ifCond .le 8, 25, 0, []), (20, .iload 4, 0, 0, []), (22, .goto 4, 26, 0, []), (25, .iconst 1, 0, 0, []),
  (26, .istore 6, 0, 0, []), (28, .aload_n 0, 0, 0, []), (29, .getfield 39, 11, 13, [881]), (32, .iload_n 1, 0, 0, []),
  (33, .iaload, 0, 0, []), (34, .iconst 1, 0, 0, []), (35, .if_icmp .le 8, 43, 0, []), (38, .iload 4, 0, 0, []),
  (40, .goto 4, 44, 0, []), (43, .iconst 1, 0, 0, []), (44, .istore 7, 0, 0, []), (46, .iconst 0, 0, 0, []),
  (47, .istore 8, 0, 0, []), (49, .iload 8, 0, 0, []), (51, .iload 6, 0, 0, []), (53, .if_icmp .ge 172, 225, 0, []),
  (56, .aload_n 0, 0, 0, []), (57, .getfield 39, 11, 13, [881]), (60, .iload_n 1, 0, 0, []), (61, .iaload, 0, 0, []),
  (62, .ifCond .le 8, 70, 0, []), (65, .iload 8, 0, 0, []), (67, .goto 4, 71, 0, []), (70, .iconst (-1), 0, 0, []),
  (71, .istore 9, 0, 0, []), (73, .iload 9, 0, 0, []), (75, .iconst (-1), 0, 0, []), (76, .if_icmp .eq 25, 101, 0, []),
  (79, .aload_n 0, 0, 0, []), (80, .aload_n 0, 0, 0, []), (81, .getfield 58, 11, 21, [889]), (84, .iload 9, 0, 0, []),
  (86, .iaload, 0, 0, []), (87, .aload_n 0, 0, 0, []), (88, .getfield 42, 11, 14, [882]), (91, .iconst 2, 0, 0, []),
  (92, .iload_n 1, 0, 0, []), (93, .imul, 0, 0, []), (94, .iaload, 0, 0, []), (95, .invokevirtual 192, 128, 2, [1098, 1100, 37, 69, 1101]),
  (98, .ifCond .eq 7, 105, 0, []), (101, .iconst 1, 0, 0, []), (102, .goto 4, 106, 0, []), (105, .iconst 0, 0, 0, []),
  (106, .istore 10, 0, 0, []), (108, .iconst 0, 0, 0, []), (109, .istore 11, 0, 0, []), (111, .iload 11, 0, 0, []),
  (113, .iload 7, 0, 0, []), (115, .if_icmp .ge 104, 219, 0, []), (118, .iload 10, 0, 0, []), (120, .ifCond .eq 99, 219, 0, []),
  (123, .aload_n 0, 0, 0, []), (124, .getfield 39, 11, 13, [881]), (127, .iload_n 1, 0, 0, []), (128, .iaload, 0, 0, []),
  (129, .iconst 1, 0, 0, []), (130, .if_icmp .le 8, 138, 0, []), (133, .iload 11, 0, 0, []), (135, .goto 4, 139, 0, []),
  (138, .iconst (-1), 0, 0, []), (139, .istore 12, 0, 0, []), (141, .aload_n 0, 0, 0, []), (142, .iload 9, 0, 0, []),
  (144, .invokevirtual 225, 140, 1, [1146, 1148, 48, 69, 1149]), (147, .aload_n 0, 0, 0, []), (148, .iload 12, 0, 0, []), (150, .invokevirtual 225, 140, 1, [1146, 1148, 48, 69, 1149]),
  (153, .iadd, 0, 0, []), (154, .iload 5, 0, 0, []), (156, .if_icmp .ne 57, 213, 0, []), (159, .iload 12, 0, 0, []),
  (161, .iconst (-1), 0, 0, []), (162, .if_icmp .eq 30, 192, 0, []), (165, .aload_n 0, 0, 0, []), (166, .aload_n 0, 0, 0, []),
  (167, .getfield 58, 11, 21, [889]), (170, .iload 12, 0, 0, []), (172, .iaload, 0, 0, []), (173, .aload_n 0, 0, 0, []),
  (174, .getfield 42, 11, 14, [882]), (177, .iconst 2, 0, 0, []), (178, .iload_n 1, 0, 0, []), (179, .imul, 0, 0, []),
  (180, .iconst 1, 0, 0, []), (181, .iadd, 0, 0, []), (182, .iaload, 0, 0, []), (183, .invokevirtual 192, 128, 2, [1098, 1100, 37, 69, 1101]),
  (186, .ifCond .ne 6, 192, 0, []), (189, .goto 24, 213, 0, []), (192, .aload_n 0, 0, 0, []), (193, .iload_n 1, 0, 0, []),
  (194, .iload_n 2, 0, 0, []), (195, .iload 9, 0, 0, []), (197, .iload 12, 0, 0, []), (199, .invokevirtual 228, 141, 4, [1150, 1152, 49, 69, 1153]),
  (202, .aload_n 0, 0, 0, []), (203, .iload_n 3, 0, 0, []), (204, .aload_n 0, 0, 0, []), (205, .getfield 36, 11, 12, [880]),
  (208, .iload_n 1, 0, 0, []), (209, .iaload, 0, 0, []), (210, .invokevirtual 232, 134, 2, [1122, 1124, 42, 69, 1125]), (213, .iinc 11 1, 0, 0, []),
  (216, .goto (-105), 111, 0, []), (219, .iinc 8 1, 0, 0, []), (222, .goto (-173), 49, 0, []), (225, .return_, 0, 0, [])
  ]
/-- ChainDeskModel.costOf(I)I -/
def cd_r140 : List (Nat × Instr × Nat × Nat × List Nat) := [
  (0, .iload_n 1, 0, 0, []), (1, .iconst (-1), 0, 0, []), (2, .if_icmp .ne 7, 9, 0, []), (5, .iconst 0, 0, 0, []),
  (6, .goto 9, 15, 0, []), (9, .aload_n 0, 0, 0, []), (10, .getfield 55, 11, 20, [888]), (13, .iload_n 1, 0, 0, []),
  (14, .iaload, 0, 0, []), (15, .ireturn, 0, 0, [])
  ]
/-- ChainDeskModel.make(IIII)V -/
def cd_r141 : List (Nat × Instr × Nat × Nat × List Nat) := [
  (0, .aload_n 0, 0, 0, []), (1, .iconst 0, 0, 0, []), (2, .putfield 201, 11, 25, [893]), (5, .aload_n 0, 0, 0, []),
  (6, .getfield 24, 11, 8, [876]), (9, .iload_n 1, 0, 0, []), (10, .iaload, 0, 0, []), (11, .iconst 2, 0, 0, []),
  (12, .if_icmp .ne 27, 39, 0, []), (15, .aload_n 0, 0, 0, []), (16, .bipush 110, 0, 0, []), (18, .invokevirtual 204, 133, 1, [1118, 1120, 41, 69, 1121]),
  (21, .aload_n 0, 0, 0, []), (22, .bipush 101, 0, 0, []), (24, .invokevirtual 204, 133, 1, [1118, 1120, 41, 69, 1121]), (27, .aload_n 0, 0, 0, []),
  (28, .bipush 119, 0, 0, []), (30, .invokevirtual 204, 133, 1, [1118, 1120, 41, 69, 1121]), (33, .aload_n 0, 0, 0, []), (34, .bipush 32, 0, 0, []),
  (36, .invokevirtual 204, 133, 1, [1118, 1120, 41, 69, 1121]), (39, .iload_n 2, 0, 0, []), (40, .iconst (-1), 0, 0, []), (41, .if_icmp .ne 18, 59, 0, []),
  (44, .aload_n 0, 0, 0, []), (45, .bipush 65, 0, 0, []), (47, .iload_n 1, 0, 0, []), (48, .bipush 6, 0, 0, []),
  (50, .idiv, 0, 0, []), (51, .iadd, 0, 0, []), (52, .i2c, 0, 0, []), (53, .invokevirtual 204, 133, 1, [1118, 1120, 41, 69, 1121]),
  (56, .goto 8, 64, 0, []), (59, .aload_n 0, 0, 0, []), (60, .iload_n 2, 0, 0, []), (61, .invokevirtual 219, 142, 1, [1154, 1156, 50, 69, 1157]),
  (64, .aload_n 0, 0, 0, []), (65, .getfield 24, 11, 8, [876]), (68, .iload_n 1, 0, 0, []), (69, .iaload, 0, 0, []),
  (70, .iconst 2, 0, 0, []), (71, .if_icmp .eq 19, 90, 0, []), (74, .aload_n 0, 0, 0, []), (75, .bipush 46, 0, 0, []),
  (77, .invokevirtual 204, 133, 1, [1118, 1120, 41, 69, 1121]), (80, .aload_n 0, 0, 0, []), (81, .aload_n 0, 0, 0, []), (82, .getfield 33, 11, 11, [879]),
  (85, .iload_n 1, 0, 0, []), (86, .iaload, 0, 0, []), (87, .invokevirtual 222, 132, 1, [1114, 1116, 40, 69, 1117]), (90, .aload_n 0, 0, 0, []),
  (91, .getfield 24, 11, 8, [876]), (94, .iload_n 1, 0, 0, []), (95, .iaload, 0, 0, []), (96, .ifCond .ne 4, 100, 0, []),
  (99, .return_, 0, 0, []), (100, .aload_n 0, 0, 0, []), (101, .bipush 40, 0, 0, []), (103, .invokevirtual 204, 133, 1, [1118, 1120, 41, 69, 1121]),
  (106, .iload_n 3, 0, 0, []), (107, .iconst (-1), 0, 0, []), (108, .if_icmp .eq 8, 116, 0, []), (111, .aload_n 0, 0, 0, []),
  (112, .iload_n 3, 0, 0, []), (113, .invokevirtual 219, 142, 1, [1154, 1156, 50, 69, 1157]), (116, .iload 4, 0, 0, []), (118, .iconst (-1), 0, 0, []),
  (119, .if_icmp .eq 15, 134, 0, []), (122, .aload_n 0, 0, 0, []), (123, .bipush 44, 0, 0, []), (125, .invokevirtual 204, 133, 1, [1118, 1120, 41, 69, 1121]),
  (128, .aload_n 0, 0, 0, []), (129, .iload 4, 0, 0, []), (131, .invokevirtual 219, 142, 1, [1154, 1156, 50, 69, 1157]), (134, .aload_n 0, 0, 0, []),
  (135, .bipush 41, 0, 0, []), (137, .invokevirtual 204, 133, 1, [1118, 1120, 41, 69, 1121]), (140, .return_, 0, 0, [])
  ]
/-- ChainDeskModel.writeKept(I)V -/
def cd_r142 : List (Nat × Instr × Nat × Nat × List Nat) := [
  (0, .iconst 0, 0, 0, []), (1, .istore_n 2, 0, 0, []), (2, .iload_n 2, 0, 0, []), (3, .aload_n 0, 0, 0, []),
  (4, .getfield 61, 11, 22, [890]), (7, .iload_n 1, 0, 0, []), (8, .iaload, 0, 0, []), (9, .if_icmp .ge 24, 33, 0, []),
  (12, .aload_n 0, 0, 0, []), (13, .aload_n 0, 0, 0, []), (14, .getfield 64, 11, 23, [891]), (17, .bipush 24, 0, 0, []),
  (19, .iload_n 1, 0, 0, []), (20, .imul, 0, 0, []), (21, .iload_n 2, 0, 0, []), (22, .iadd, 0, 0, []),
  (23, .caload, 0, 0, []), (24, .invokevirtual 204, 133, 1, [1118, 1120, 41, 69, 1121]), (27, .iinc 2 1, 0, 0, []), (30, .goto (-28), 2, 0, []),
  (33, .return_, 0, 0, [])
  ]
/-- ChainDeskModel.sees(II)Z -/
def cd_r143 : List (Nat × Instr × Nat × Nat × List Nat) := [
  (0, .iload_n 1, 0, 0, []), (1, .iconst 3, 0, 0, []), (2, .if_icmp .lt 11, 13, 0, []), (5, .aload_n 0, 0, 0, []),
  (6, .iload_n 2, 0, 0, []), (7, .invokevirtual 198, 144, 1, [1162, 1164, 52, 69, 1165]), (10, .ifCond .ne 5, 15, 0, []), (13, .iconst 0, 0, 0, []),
  (14, .ireturn, 0, 0, []), (15, .iload_n 1, 0, 0, []), (16, .iconst 3, 0, 0, []), (17, .isub, 0, 0, []),
  (18, .istore_n 3, 0, 0, []), (19, .iload_n 3, 0, 0, []), (20, .iconst (-1), 0, 0, []), (21, .if_icmp .eq 103, 124, 0, []),
  (24, .aload_n 0, 0, 0, []), (25, .getfield 13, 11, 5, [873]), (28, .iload_n 3, 0, 0, []), (29, .baload, 0, 0, []),
  (30, .ifCond .eq 94, 124, 0, []), (33, .iload_n 2, 0, 0, []), (34, .bipush 6, 0, 0, []), (36, .idiv, 0, 0, []),
  (37, .iload_n 3, 0, 0, []), (38, .if_icmp .ne 5, 43, 0, []), (41, .iconst 1, 0, 0, []), (42, .ireturn, 0, 0, []),
  (43, .bipush 6, 0, 0, []), (45, .iload_n 3, 0, 0, []), (46, .imul, 0, 0, []), (47, .istore 4, 0, 0, []),
  (49, .iload 4, 0, 0, []), (51, .bipush 6, 0, 0, []), (53, .iload_n 3, 0, 0, []), (54, .imul, 0, 0, []),
  (55, .aload_n 0, 0, 0, []), (56, .getfield 21, 11, 7, [875]), (59, .iload_n 3, 0, 0, []), (60, .iaload, 0, 0, []),
  (61, .iadd, 0, 0, []), (62, .if_icmp .ge 52, 114, 0, []), (65, .aload_n 0, 0, 0, []), (66, .iload 4, 0, 0, []),
  (68, .invokevirtual 198, 144, 1, [1162, 1164, 52, 69, 1165]), (71, .ifCond .eq 37, 108, 0, []), (74, .aload_n 0, 0, 0, []), (75, .getfield 24, 11, 8, [876]),
  (78, .iload 4, 0, 0, []), (80, .iaload, 0, 0, []), (81, .aload_n 0, 0, 0, []), (82, .getfield 24, 11, 8, [876]),
  (85, .iload_n 2, 0, 0, []), (86, .iaload, 0, 0, []), (87, .if_icmp .ne 21, 108, 0, []), (90, .aload_n 0, 0, 0, []),
  (91, .getfield 33, 11, 11, [879]), (94, .iload 4, 0, 0, []), (96, .iaload, 0, 0, []), (97, .aload_n 0, 0, 0, []),
  (98, .getfield 33, 11, 11, [879]), (101, .iload_n 2, 0, 0, []), (102, .iaload, 0, 0, []), (103, .if_icmp .ne 5, 108, 0, []),
  (106, .iconst 0, 0, 0, []), (107, .ireturn, 0, 0, []), (108, .iinc 4 1, 0, 0, []), (111, .goto (-62), 49, 0, []),
  (114, .aload_n 0, 0, 0, []), (115, .getfield 17, 11, 6, [874]), (118, .iload_n 3, 0, 0, []), (119, .iaload, 0, 0, []),
  (120, .istore_n 3, 0, 0, []), (121, .goto (-102), 19, 0, []), (124, .iconst 0, 0, 0, []), (125, .ireturn, 0, 0, [])
  ]
/-- ChainDeskModel.behind(I)Z -/
def cd_r144 : List (Nat × Instr × Nat × Nat × List Nat) := [
  (0, .aload_n 0, 0, 0, []), (1, .getfield 24, 11, 8, [876]), (4, .iload_n 1, 0, 0, []), (5, .iaload, 0, 0, []),
  (6, .iconst 2, 0, 0, []), (7, .if_icmp .eq 24, 31, 0, []), (10, .aload_n 0, 0, 0, []), (11, .getfield 27, 11, 9, [877]),
  (14, .iload_n 1, 0, 0, []), (15, .baload, 0, 0, []), (16, .ifCond .ne 15, 31, 0, []), (19, .aload_n 0, 0, 0, []),
  (20, .iload_n 1, 0, 0, []), (21, .invokevirtual 195, 138, 1, [1138, 1140, 46, 69, 1141]), (24, .ifCond .eq 7, 31, 0, []), (27, .iconst 1, 0, 0, []),
  (28, .goto 4, 32, 0, []), (31, .iconst 0, 0, 0, []), (32, .ireturn, 0, 0, [])
  ]
/-- ChainDeskModel.propose(I)V -/
def cd_r145 : List (Nat × Instr × Nat × Nat × List Nat) := [
  (0, .aload_n 0, 0, 0, []), (1, .getfield 70, 11, 28, [896]), (4, .aload_n 0, 0, 0, []), (5, .getfield 247, 11, 27, [895]),
  (8, .aload_n 0, 0, 0, []), (9, .getfield 55, 11, 20, [888]), (12, .iload_n 1, 0, 0, []), (13, .iaload, 0, 0, []),
  (14, .iastore, 0, 0, []), (15, .aload_n 0, 0, 0, []), (16, .getfield 73, 11, 29, [897]), (19, .aload_n 0, 0, 0, []),
  (20, .getfield 247, 11, 27, [895]), (23, .aload_n 0, 0, 0, []), (24, .getfield 58, 11, 21, [889]), (27, .iload_n 1, 0, 0, []),
  (28, .iaload, 0, 0, []), (29, .iastore, 0, 0, []), (30, .aload_n 0, 0, 0, []), (31, .getfield 76, 11, 30, [898]),
  (34, .aload_n 0, 0, 0, []), (35, .getfield 247, 11, 27, [895]), (38, .aload_n 0, 0, 0, []), (39, .getfield 61, 11, 22, [890]),
  (42, .iload_n 1, 0, 0, []), (43, .iaload, 0, 0, []), (44, .iastore, 0, 0, []), (45, .iconst 0, 0, 0, []),
  (46, .istore_n 2, 0, 0, []), (47, .iload_n 2, 0, 0, []), (48, .bipush 24, 0, 0, []), (50, .if_icmp .ge 34, 84, 0, []),
  (53, .aload_n 0, 0, 0, []), (54, .getfield 79, 11, 31, [899]), (57, .bipush 24, 0, 0, []), (59, .aload_n 0, 0, 0, []),
  (60, .getfield 247, 11, 27, [895]), (63, .imul, 0, 0, []), (64, .iload_n 2, 0, 0, []), (65, .iadd, 0, 0, []),
  (66, .aload_n 0, 0, 0, []), (67, .getfield 64, 11, 23, [891]), (70, .bipush 24, 0, 0, []), (72, .iload_n 1, 0, 0, []),
  (73, .imul, 0, 0, []), (74, .iload_n 2, 0, 0, []), (75, .iadd, 0, 0, []), (76, .caload, 0, 0, []),
  (77, .castore, 0, 0, []), (78, .iinc 2 1, 0, 0, []), (81, .goto (-34), 47, 0, []), (84, .aload_n 0, 0, 0, []),
  (85, .dup, 0, 0, []), (86, .getfield 247, 11, 27, [895]), (89, .iconst 1, 0, 0, []), (90, .iadd, 0, 0, []),
  (91, .putfield 247, 11, 27, [895]), (94, .return_, 0, 0, [])
  ]
/-- ChainDeskModel.check()I -/
def cd_r146 : List (Nat × Instr × Nat × Nat × List Nat) := [
  (0, .aload_n 0, 0, 0, []), (1, .iconst 0, 0, 0, []), (2, .putfield 98, 11, 3, [871]), (5, .aload_n 0, 0, 0, []),
  (6, .iconst 1, 0, 0, []), (7, .putfield 101, 11, 4, [872]), (10, .aload_n 0, 0, 0, []), (11, .iconst 0, 0, 0, []),
  (12, .putfield 256, 11, 33, [901]), (15, .aload_n 0, 0, 0, []), (16, .iconst 0, 0, 0, []), (17, .putfield 253, 11, 36, [904]),
  (20, .aload_n 0, 0, 0, []), (21, .invokevirtual 269, 147, 0, [1174, 1176, 54, 69, 1177]), (24, .istore_n 1, 0, 0, []), (25, .aload_n 0, 0, 0, []),
  (26, .getfield 101, 11, 4, [872]), (29, .ifCond .eq 46, 75, 0, []), (32, .iload_n 1, 0, 0, []), (33, .iconst (-1), 0, 0, []),
  (34, .if_icmp .eq 20, 54, 0, []), (37, .aload_n 0, 0, 0, []), (38, .getfield 256, 11, 33, [901]), (41, .ifCond .gt 13, 54, 0, []),
  (44, .aload_n 0, 0, 0, []), (45, .iconst 0, 0, 0, []), (46, .invokevirtual 105, 105, 1, [1010, 1012, 22, 69, 1013]), (49, .bipush 46, 0, 0, []),
  (51, .if_icmp .ne 24, 75, 0, []), (54, .iload_n 1, 0, 0, []), (55, .iconst (-1), 0, 0, []), (56, .if_icmp .ne 10, 66, 0, []),
  (59, .aload_n 0, 0, 0, []), (60, .invokevirtual 269, 147, 0, [1174, 1176, 54, 69, 1177]), (63, .goto 8, 71, 0, []), (66, .aload_n 0, 0, 0, []),
  (67, .iload_n 1, 0, 0, []), (68, .invokevirtual 272, 151, 1, [1190, 1192, 58, 69, 1193]), (71, .istore_n 1, 0, 0, []), (72, .goto (-47), 25, 0, []),
  (75, .aload_n 0, 0, 0, []), (76, .aload_n 0, 0, 0, []), (77, .getfield 98, 11, 3, [871]), (80, .aload_n 0, 0, 0, []),
  (81, .getfield 95, 11, 2, [870]), (84, .if_icmp .ne 7, 91, 0, []), (87, .iconst 1, 0, 0, []), (88, .goto 4, 92, 0, []),
  (91, .iconst 0, 0, 0, []), (92, .invokevirtual 113, 107, 1, [1017, 1019, 23, 69, 1020]), (95, .aload_n 0, 0, 0, []), (96, .iconst 0, 0, 0, []),
  (97, .putfield 95, 11, 2, [870]), (100, .aload_n 0, 0, 0, []), (101, .getfield 101, 11, 4, [872]), (104, .ifCond .ne 9, 113, 0, []),
  (107, .aload_n 0, 0, 0, []), (108, .iconst 1, 0, 0, []), (109, .invokevirtual 176, 121, 1, [1070, 1072, 34, 69, 1073]), (112, .ireturn, 0, 0, []),
  (113, .aload_n 0, 0, 0, []), (114, .iconst 0, 0, 0, []), (115, .putfield 88, 11, 0, [868]), (118, .aload_n 0, 0, 0, []),
  (119, .aload_n 0, 0, 0, []), (120, .getfield 253, 11, 36, [904]), (123, .putfield 275, 11, 32, [900]), (126, .iload_n 1, 0, 0, []),
  (127, .ireturn, 0, 0, [])
  ]
/-- ChainDeskModel.primary()I -/
def cd_r147 : List (Nat × Instr × Nat × Nat × List Nat) := [
  (0, .aload_n 0, 0, 0, []), (1, .iconst 4, 0, 0, []), (2, .bipush 110, 0, 0, []), (4, .bipush 101, 0, 0, []),
  (6, .bipush 119, 0, 0, []), (8, .bipush 32, 0, 0, []), (10, .iconst 0, 0, 0, []), (11, .iconst 0, 0, 0, []),
  (12, .invokevirtual 145, 111, 7, [1033, 1035, 27, 69, 1036]), (15, .ifCond .eq 29, 44, 0, []), (18, .aload_n 0, 0, 0, []), (19, .invokevirtual 135, 104, 0, [1006, 1008, 21, 69, 1009]),
  (22, .istore_n 1, 0, 0, []), (23, .aload_n 0, 0, 0, []), (24, .getfield 101, 11, 4, [872]), (27, .ifCond .eq 15, 42, 0, []),
  (30, .aload_n 0, 0, 0, []), (31, .aload_n 0, 0, 0, []), (32, .iload_n 1, 0, 0, []), (33, .invokevirtual 259, 148, 1, [1178, 1180, 55, 69, 1181]),
  (36, .invokevirtual 262, 149, 1, [1182, 1184, 56, 69, 1185]), (39, .goto 4, 43, 0, []), (42, .iconst (-1), 0, 0, []), (43, .ireturn, 0, 0, []),
  (44, .aload_n 0, 0, 0, []), (45, .iconst 0, 0, 0, []), (46, .invokevirtual 105, 105, 1, [1010, 1012, 22, 69, 1013]), (49, .invokestatic 132, 106, 1, [1014, 1015, 69, 1016]),
  (52, .ifCond .eq 58, 110, 0, []), (55, .aload_n 0, 0, 0, []), (56, .invokevirtual 135, 104, 0, [1006, 1008, 21, 69, 1009]), (59, .istore_n 1, 0, 0, []),
  (60, .aload_n 0, 0, 0, []), (61, .bipush 46, 0, 0, []), (63, .invokevirtual 138, 109, 1, [1025, 1027, 25, 69, 1028]), (66, .aload_n 0, 0, 0, []),
  (67, .invokevirtual 153, 117, 0, [1055, 1057, 31, 69, 1058]), (70, .istore_n 2, 0, 0, []), (71, .aload_n 0, 0, 0, []), (72, .getfield 101, 11, 4, [872]),
  (75, .ifCond .eq 33, 108, 0, []), (78, .aload_n 0, 0, 0, []), (79, .aload_n 0, 0, 0, []), (80, .iconst (-1), 0, 0, []),
  (81, .iload_n 1, 0, 0, []), (82, .isub, 0, 0, []), (83, .iload_n 2, 0, 0, []), (84, .aload_n 0, 0, 0, []),
  (85, .iconst 0, 0, 0, []), (86, .invokevirtual 105, 105, 1, [1010, 1012, 22, 69, 1013]), (89, .bipush 40, 0, 0, []), (91, .if_icmp .ne 7, 98, 0, []),
  (94, .iconst 1, 0, 0, []), (95, .goto 4, 99, 0, []), (98, .iconst 0, 0, 0, []), (99, .invokevirtual 265, 150, 3, [1186, 1188, 57, 69, 1189]),
  (102, .invokevirtual 262, 149, 1, [1182, 1184, 56, 69, 1185]), (105, .goto 4, 109, 0, []), (108, .iconst (-1), 0, 0, []), (109, .ireturn, 0, 0, []),
  (110, .aload_n 0, 0, 0, []), (111, .aload_n 0, 0, 0, []), (112, .invokevirtual 153, 117, 0, [1055, 1057, 31, 69, 1058]), (115, .invokevirtual 186, 124, 1, [1082, 1084, 36, 69, 1085]),
  (118, .istore_n 1, 0, 0, []), (119, .aload_n 0, 0, 0, []), (120, .iload_n 1, 0, 0, []), (121, .iconst (-1), 0, 0, []),
  (122, .if_icmp .eq 7, 129, 0, []), (125, .iconst 1, 0, 0, []), (126, .goto 4, 130, 0, []), (129, .iconst 0, 0, 0, []),
  (130, .invokevirtual 113, 107, 1, [1017, 1019, 23, 69, 1020]), (133, .aload_n 0, 0, 0, []), (134, .getfield 101, 11, 4, [872]), (137, .ifCond .eq 12, 149, 0, []),
  (140, .aload_n 0, 0, 0, []), (141, .getfield 48, 11, 17, [885]), (144, .iload_n 1, 0, 0, []), (145, .iaload, 0, 0, []),
  (146, .goto 4, 150, 0, []), (149, .iconst (-1), 0, 0, []), (150, .ireturn, 0, 0, [])
  ]
/-- ChainDeskModel.makerOf(I)I -/
def cd_r148 : List (Nat × Instr × Nat × Nat × List Nat) := [
  (0, .iconst (-1), 0, 0, []), (1, .istore_n 2, 0, 0, []), (2, .bipush 6, 0, 0, []), (4, .iload_n 1, 0, 0, []),
  (5, .imul, 0, 0, []), (6, .istore_n 3, 0, 0, []), (7, .iload_n 3, 0, 0, []), (8, .bipush 6, 0, 0, []),
  (10, .iload_n 1, 0, 0, []), (11, .imul, 0, 0, []), (12, .aload_n 0, 0, 0, []), (13, .getfield 21, 11, 7, [875]),
  (16, .iload_n 1, 0, 0, []), (17, .iaload, 0, 0, []), (18, .iadd, 0, 0, []), (19, .if_icmp .ge 33, 52, 0, []),
  (22, .aload_n 0, 0, 0, []), (23, .getfield 24, 11, 8, [876]), (26, .iload_n 3, 0, 0, []), (27, .iaload, 0, 0, []),
  (28, .iconst 2, 0, 0, []), (29, .if_icmp .ne 15, 44, 0, []), (32, .aload_n 0, 0, 0, []), (33, .iload_n 3, 0, 0, []),
  (34, .invokevirtual 195, 138, 1, [1138, 1140, 46, 69, 1141]), (37, .ifCond .eq 7, 44, 0, []), (40, .iload_n 3, 0, 0, []), (41, .goto 4, 45, 0, []),
  (44, .iload_n 2, 0, 0, []), (45, .istore_n 2, 0, 0, []), (46, .iinc 3 1, 0, 0, []), (49, .goto (-42), 7, 0, []),
  (52, .iload_n 2, 0, 0, []), (53, .ireturn, 0, 0, [])
  ]
/-- ChainDeskModel.use(I)I -/
def cd_r149 : List (Nat × Instr × Nat × Nat × List Nat) := [
  (0, .aload_n 0, 0, 0, []), (1, .iload_n 1, 0, 0, []), (2, .iconst (-1), 0, 0, []), (3, .if_icmp .eq 7, 10, 0, []),
  (6, .iconst 1, 0, 0, []), (7, .goto 4, 11, 0, []), (10, .iconst 0, 0, 0, []), (11, .invokevirtual 113, 107, 1, [1017, 1019, 23, 69, 1020]),
  (14, .aload_n 0, 0, 0, []), (15, .getfield 101, 11, 4, [872]), (18, .ifCond .ne 5, 23, 0, []), (21, .iconst (-1), 0, 0, []),
  (22, .ireturn, 0, 0, []), (23, .aload_n 0, 0, 0, []), (24, .dup, 0, 0, []), (25, .getfield 253, 11, 36, [904]),
  (28, .iconst 1, 0, 0, []), (29, .iadd, 0, 0, []), (30, .putfield 253, 11, 36, [904]), (33, .aload_n 0, 0, 0, []),
  (34, .getfield 24, 11, 8, [876]), (37, .iload_n 1, 0, 0, []), (38, .iaload, 0, 0, []), (39, .ifCond .ne 10, 49, 0, []),
  (42, .aload_n 0, 0, 0, []), (43, .getfield 36, 11, 12, [880]), (46, .iload_n 1, 0, 0, []), (47, .iaload, 0, 0, []),
  (48, .ireturn, 0, 0, []), (49, .aload_n 0, 0, 0, []), (50, .bipush 40, 0, 0, []), (52, .invokevirtual 138, 109, 1, [1025, 1027, 25, 69, 1028]),
  (55, .aload_n 0, 0, 0, []), (56, .getfield 39, 11, 13, [881]), (59, .iload_n 1, 0, 0, []), (60, .iaload, 0, 0, []),
  (61, .ifCond .ne 16, 77, 0, []), (64, .aload_n 0, 0, 0, []), (65, .bipush 41, 0, 0, []), (67, .invokevirtual 138, 109, 1, [1025, 1027, 25, 69, 1028]),
  (70, .aload_n 0, 0, 0, []), (71, .getfield 36, 11, 12, [880]), (74, .iload_n 1, 0, 0, []), (75, .iaload, 0, 0, []),
  (76, .ireturn, 0, 0, []), (77, .aload_n 0, 0, 0, []), (78, .aload_n 0, 0, 0, []), (79, .getfield 256, 11, 33, [901]),
  (82, .bipush 6, 0, 0, []), (84, .if_icmp .ge 7, 91, 0, []), (87, .iconst 1, 0, 0, []), (88, .goto 4, 92, 0, []),
  (91, .iconst 0, 0, 0, []), (92, .invokevirtual 113, 107, 1, [1017, 1019, 23, 69, 1020]), (95, .aload_n 0, 0, 0, []), (96, .getfield 82, 11, 34, [902]),
  (99, .aload_n 0, 0, 0, []), (100, .getfield 256, 11, 33, [901]), (103, .iload_n 1, 0, 0, []), (104, .iastore, 0, 0, []),
  (105, .aload_n 0, 0, 0, []), (106, .getfield 85, 11, 35, [903]), (109, .aload_n 0, 0, 0, []), (110, .getfield 256, 11, 33, [901]),
  (113, .iconst 0, 0, 0, []), (114, .iastore, 0, 0, []), (115, .aload_n 0, 0, 0, []), (116, .dup, 0, 0, []),
  (117, .getfield 256, 11, 33, [901]), (120, .iconst 1, 0, 0, []), (121, .iadd, 0, 0, []), (122, .putfield 256, 11, 33, [901]),
  (125, .iconst (-1), 0, 0, []), (126, .ireturn, 0, 0, [])
  ]
/-- ChainDeskModel.memberOf(IIZ)I -/
def cd_r150 : List (Nat × Instr × Nat × Nat × List Nat) := [
  (0, .iconst (-1), 0, 0, []), (1, .istore 4, 0, 0, []), (3, .iconst 0, 0, 0, []), (4, .istore 5, 0, 0, []),
  (6, .iload 5, 0, 0, []), (8, .bipush 60, 0, 0, []), (10, .if_icmp .ge 133, 143, 0, []), (13, .aload_n 0, 0, 0, []),
  (14, .getfield 13, 11, 5, [873]), (17, .iload 5, 0, 0, []), (19, .bipush 6, 0, 0, []), (21, .idiv, 0, 0, []),
  (22, .baload, 0, 0, []), (23, .ifCond .eq 55, 78, 0, []), (26, .iload 5, 0, 0, []), (28, .bipush 6, 0, 0, []),
  (30, .irem, 0, 0, []), (31, .aload_n 0, 0, 0, []), (32, .getfield 21, 11, 7, [875]), (35, .iload 5, 0, 0, []),
  (37, .bipush 6, 0, 0, []), (39, .idiv, 0, 0, []), (40, .iaload, 0, 0, []), (41, .if_icmp .ge 37, 78, 0, []),
  (44, .aload_n 0, 0, 0, []), (45, .getfield 24, 11, 8, [876]), (48, .iload 5, 0, 0, []), (50, .iaload, 0, 0, []),
  (51, .iload_n 3, 0, 0, []), (52, .ifCond .eq 7, 59, 0, []), (55, .iconst 1, 0, 0, []), (56, .goto 4, 60, 0, []),
  (59, .iconst 0, 0, 0, []), (60, .if_icmp .ne 18, 78, 0, []), (63, .aload_n 0, 0, 0, []), (64, .getfield 33, 11, 11, [879]),
  (67, .iload 5, 0, 0, []), (69, .iaload, 0, 0, []), (70, .iload_n 2, 0, 0, []), (71, .if_icmp .ne 7, 78, 0, []),
  (74, .iconst 1, 0, 0, []), (75, .goto 4, 79, 0, []), (78, .iconst 0, 0, 0, []), (79, .istore 6, 0, 0, []),
  (81, .iload 6, 0, 0, []), (83, .ifCond .eq 54, 137, 0, []), (86, .iload_n 1, 0, 0, []), (87, .ifCond .lt 16, 103, 0, []),
  (90, .aload_n 0, 0, 0, []), (91, .iload_n 1, 0, 0, []), (92, .iload 5, 0, 0, []), (94, .invokevirtual 238, 143, 2, [1158, 1160, 51, 69, 1161]),
  (97, .ifCond .eq 40, 137, 0, []), (100, .goto 33, 133, 0, []), (103, .iload 5, 0, 0, []), (105, .bipush 6, 0, 0, []),
  (107, .idiv, 0, 0, []), (108, .iconst (-1), 0, 0, []), (109, .iload_n 1, 0, 0, []), (110, .isub, 0, 0, []),
  (111, .if_icmp .ne 26, 137, 0, []), (114, .aload_n 0, 0, 0, []), (115, .getfield 27, 11, 9, [877]), (118, .iload 5, 0, 0, []),
  (120, .baload, 0, 0, []), (121, .ifCond .eq 16, 137, 0, []), (124, .aload_n 0, 0, 0, []), (125, .iload 5, 0, 0, []),
  (127, .invokevirtual 195, 138, 1, [1138, 1140, 46, 69, 1141]), (130, .ifCond .eq 7, 137, 0, []), (133, .iload 5, 0, 0, []), (135, .istore 4, 0, 0, []),
  (137, .iinc 5 1, 0, 0, []), (140, .goto (-134), 6, 0, []), (143, .iload 4, 0, 0, []), (145, .ireturn, 0, 0, [])
  ]
/-- ChainDeskModel.further(I)I -/
def cd_r151 : List (Nat × Instr × Nat × Nat × List Nat) := [
  (0, .aload_n 0, 0, 0, []), (1, .bipush 46, 0, 0, []), (3, .invokevirtual 109, 108, 1, [1021, 1023, 24, 69, 1024]), (6, .ifCond .eq 45, 51, 0, []),
  (9, .aload_n 0, 0, 0, []), (10, .invokevirtual 153, 117, 0, [1055, 1057, 31, 69, 1058]), (13, .istore_n 2, 0, 0, []), (14, .aload_n 0, 0, 0, []),
  (15, .getfield 101, 11, 4, [872]), (18, .ifCond .eq 31, 49, 0, []), (21, .aload_n 0, 0, 0, []), (22, .aload_n 0, 0, 0, []),
  (23, .iload_n 1, 0, 0, []), (24, .iload_n 2, 0, 0, []), (25, .aload_n 0, 0, 0, []), (26, .iconst 0, 0, 0, []),
  (27, .invokevirtual 105, 105, 1, [1010, 1012, 22, 69, 1013]), (30, .bipush 40, 0, 0, []), (32, .if_icmp .ne 7, 39, 0, []), (35, .iconst 1, 0, 0, []),
  (36, .goto 4, 40, 0, []), (39, .iconst 0, 0, 0, []), (40, .invokevirtual 265, 150, 3, [1186, 1188, 57, 69, 1189]), (43, .invokevirtual 262, 149, 1, [1182, 1184, 56, 69, 1185]),
  (46, .goto 4, 50, 0, []), (49, .iconst (-1), 0, 0, []), (50, .ireturn, 0, 0, []), (51, .aload_n 0, 0, 0, []),
  (52, .getfield 82, 11, 34, [902]), (55, .aload_n 0, 0, 0, []), (56, .getfield 256, 11, 33, [901]), (59, .iconst 1, 0, 0, []),
  (60, .isub, 0, 0, []), (61, .iaload, 0, 0, []), (62, .istore_n 2, 0, 0, []), (63, .aload_n 0, 0, 0, []),
  (64, .getfield 85, 11, 35, [903]), (67, .aload_n 0, 0, 0, []), (68, .getfield 256, 11, 33, [901]), (71, .iconst 1, 0, 0, []),
  (72, .isub, 0, 0, []), (73, .iaload, 0, 0, []), (74, .istore_n 3, 0, 0, []), (75, .aload_n 0, 0, 0, []),
  (76, .aload_n 0, 0, 0, []), (77, .iload_n 1, 0, 0, []), (78, .aload_n 0, 0, 0, []), (79, .getfield 42, 11, 14, [882]),
  (82, .iconst 2, 0, 0, []), (83, .iload_n 2, 0, 0, []), (84, .imul, 0, 0, []), (85, .iload_n 3, 0, 0, []),
  (86, .iadd, 0, 0, []), (87, .iaload, 0, 0, []), (88, .invokevirtual 192, 128, 2, [1098, 1100, 37, 69, 1101]), (91, .invokevirtual 113, 107, 1, [1017, 1019, 23, 69, 1020]),
  (94, .aload_n 0, 0, 0, []), (95, .getfield 85, 11, 35, [903]), (98, .aload_n 0, 0, 0, []), (99, .getfield 256, 11, 33, [901]),
  (102, .iconst 1, 0, 0, []), (103, .isub, 0, 0, []), (104, .dup2, 0, 0, []), (105, .iaload, 0, 0, []),
  (106, .iconst 1, 0, 0, []), (107, .iadd, 0, 0, []), (108, .iastore, 0, 0, []), (109, .iload_n 3, 0, 0, []),
  (110, .iconst 1, 0, 0, []), (111, .iadd, 0, 0, []), (112, .aload_n 0, 0, 0, []), (113, .getfield 39, 11, 13, [881]),
  (116, .iload_n 2, 0, 0, []), (117, .iaload, 0, 0, []), (118, .if_icmp .ge 11, 129, 0, []), (121, .aload_n 0, 0, 0, []),
  (122, .bipush 44, 0, 0, []), (124, .invokevirtual 138, 109, 1, [1025, 1027, 25, 69, 1028]), (127, .iconst (-1), 0, 0, []), (128, .ireturn, 0, 0, []),
  (129, .aload_n 0, 0, 0, []), (130, .bipush 41, 0, 0, []), (132, .invokevirtual 138, 109, 1, [1025, 1027, 25, 69, 1028]), (135, .aload_n 0, 0, 0, []),
  (136, .dup, 0, 0, []), (137, .getfield 256, 11, 33, [901]), (140, .iconst 1, 0, 0, []), (141, .isub, 0, 0, []),
  (142, .putfield 256, 11, 33, [901]), (145, .aload_n 0, 0, 0, []), (146, .getfield 36, 11, 12, [880]), (149, .iload_n 2, 0, 0, []),
  (150, .iaload, 0, 0, []), (151, .ireturn, 0, 0, [])
  ]
/-- ChainDeskModel.checkedCost()I -/
def cd_r152 : List (Nat × Instr × Nat × Nat × List Nat) := [
  (0, .aload_n 0, 0, 0, []), (1, .iconst 0, 0, 0, []), (2, .putfield 88, 11, 0, [868]), (5, .aload_n 0, 0, 0, []),
  (6, .getfield 275, 11, 32, [900]), (9, .ireturn, 0, 0, [])
  ]
/-- ChainDeskModel.proposal(II)I -/
def cd_r153 : List (Nat × Instr × Nat × Nat × List Nat) := [
  (0, .aload_n 0, 0, 0, []), (1, .iconst 0, 0, 0, []), (2, .putfield 88, 11, 0, [868]), (5, .iload_n 1, 0, 0, []),
  (6, .iconst 0, 0, 0, []), (7, .aload_n 0, 0, 0, []), (8, .getfield 247, 11, 27, [895]), (11, .iconst 1, 0, 0, []),
  (12, .isub, 0, 0, []), (13, .invokestatic 91, 101, 3, [995, 996, 69, 997]), (16, .ifCond .ne 12, 28, 0, []), (19, .iload_n 2, 0, 0, []),
  (20, .iconst 0, 0, 0, []), (21, .iconst 2, 0, 0, []), (22, .invokestatic 91, 101, 3, [995, 996, 69, 997]), (25, .ifCond .eq 5, 30, 0, []),
  (28, .iconst (-1), 0, 0, []), (29, .ireturn, 0, 0, []), (30, .iload_n 2, 0, 0, []), (31, .ifCond .ne 12, 43, 0, []),
  (34, .aload_n 0, 0, 0, []), (35, .getfield 76, 11, 30, [898]), (38, .iload_n 1, 0, 0, []), (39, .iaload, 0, 0, []),
  (40, .goto 23, 63, 0, []), (43, .iload_n 2, 0, 0, []), (44, .iconst 1, 0, 0, []), (45, .if_icmp .ne 12, 57, 0, []),
  (48, .aload_n 0, 0, 0, []), (49, .getfield 70, 11, 28, [896]), (52, .iload_n 1, 0, 0, []), (53, .iaload, 0, 0, []),
  (54, .goto 9, 63, 0, []), (57, .aload_n 0, 0, 0, []), (58, .getfield 73, 11, 29, [897]), (61, .iload_n 1, 0, 0, []),
  (62, .iaload, 0, 0, []), (63, .ireturn, 0, 0, [])
  ]
/-- ChainDeskModel.letter(II)I -/
def cd_r154 : List (Nat × Instr × Nat × Nat × List Nat) := [
  (0, .aload_n 0, 0, 0, []), (1, .iconst 0, 0, 0, []), (2, .putfield 88, 11, 0, [868]), (5, .iload_n 1, 0, 0, []),
  (6, .iconst 0, 0, 0, []), (7, .aload_n 0, 0, 0, []), (8, .getfield 247, 11, 27, [895]), (11, .iconst 1, 0, 0, []),
  (12, .isub, 0, 0, []), (13, .invokestatic 91, 101, 3, [995, 996, 69, 997]), (16, .ifCond .ne 19, 35, 0, []), (19, .iload_n 2, 0, 0, []),
  (20, .iconst 0, 0, 0, []), (21, .aload_n 0, 0, 0, []), (22, .getfield 76, 11, 30, [898]), (25, .iload_n 1, 0, 0, []),
  (26, .iaload, 0, 0, []), (27, .iconst 1, 0, 0, []), (28, .isub, 0, 0, []), (29, .invokestatic 91, 101, 3, [995, 996, 69, 997]),
  (32, .ifCond .eq 7, 39, 0, []), (35, .iconst 0, 0, 0, []), (36, .goto 14, 50, 0, []), (39, .aload_n 0, 0, 0, []),
  (40, .getfield 79, 11, 31, [899]), (43, .bipush 24, 0, 0, []), (45, .iload_n 1, 0, 0, []), (46, .imul, 0, 0, []),
  (47, .iload_n 2, 0, 0, []), (48, .iadd, 0, 0, []), (49, .caload, 0, 0, []), (50, .ireturn, 0, 0, [])
  ]
/-- ChainDeskModel.members(I)I -/
def cd_r155 : List (Nat × Instr × Nat × Nat × List Nat) := [
  (0, .aload_n 0, 0, 0, []), (1, .iconst 0, 0, 0, []), (2, .putfield 88, 11, 0, [868]), (5, .iload_n 1, 0, 0, []),
  (6, .iconst 0, 0, 0, []), (7, .bipush 9, 0, 0, []), (9, .invokestatic 91, 101, 3, [995, 996, 69, 997]), (12, .ifCond .ne 12, 24, 0, []),
  (15, .aload_n 0, 0, 0, []), (16, .getfield 13, 11, 5, [873]), (19, .iload_n 1, 0, 0, []), (20, .baload, 0, 0, []),
  (21, .ifCond .ne 7, 28, 0, []), (24, .iconst (-1), 0, 0, []), (25, .goto 9, 34, 0, []), (28, .aload_n 0, 0, 0, []),
  (29, .getfield 21, 11, 7, [875]), (32, .iload_n 1, 0, 0, []), (33, .iaload, 0, 0, []), (34, .ireturn, 0, 0, [])
  ]
/-- ChainDeskModel.seen(II)I -/
def cd_r156 : List (Nat × Instr × Nat × Nat × List Nat) := [
  (0, .aload_n 0, 0, 0, []), (1, .iconst 0, 0, 0, []), (2, .putfield 88, 11, 0, [868]), (5, .iload_n 1, 0, 0, []),
  (6, .iconst 0, 0, 0, []), (7, .bipush 9, 0, 0, []), (9, .invokestatic 91, 101, 3, [995, 996, 69, 997]), (12, .ifCond .ne 12, 24, 0, []),
  (15, .iload_n 2, 0, 0, []), (16, .iconst 0, 0, 0, []), (17, .iconst 1, 0, 0, []), (18, .invokestatic 91, 101, 3, [995, 996, 69, 997]),
  (21, .ifCond .eq 5, 26, 0, []), (24, .iconst (-1), 0, 0, []), (25, .ireturn, 0, 0, []), (26, .iconst 0, 0, 0, []),
  (27, .istore_n 3, 0, 0, []), (28, .iconst 0, 0, 0, []), (29, .istore 4, 0, 0, []), (31, .iload 4, 0, 0, []),
  (33, .bipush 60, 0, 0, []), (35, .if_icmp .ge 71, 106, 0, []), (38, .aload_n 0, 0, 0, []), (39, .getfield 13, 11, 5, [873]),
  (42, .iload 4, 0, 0, []), (44, .bipush 6, 0, 0, []), (46, .idiv, 0, 0, []), (47, .baload, 0, 0, []),
  (48, .ifCond .eq 50, 98, 0, []), (51, .iload 4, 0, 0, []), (53, .bipush 6, 0, 0, []), (55, .irem, 0, 0, []),
  (56, .aload_n 0, 0, 0, []), (57, .getfield 21, 11, 7, [875]), (60, .iload 4, 0, 0, []), (62, .bipush 6, 0, 0, []),
  (64, .idiv, 0, 0, []), (65, .iaload, 0, 0, []), (66, .if_icmp .ge 32, 98, 0, []), (69, .aload_n 0, 0, 0, []),
  (70, .getfield 24, 11, 8, [876]), (73, .iload 4, 0, 0, []), (75, .iaload, 0, 0, []), (76, .iload_n 2, 0, 0, []),
  (77, .if_icmp .ne 21, 98, 0, []), (80, .aload_n 0, 0, 0, []), (81, .iconst 3, 0, 0, []), (82, .iload_n 1, 0, 0, []),
  (83, .iadd, 0, 0, []), (84, .iload 4, 0, 0, []), (86, .invokevirtual 238, 143, 2, [1158, 1160, 51, 69, 1161]), (89, .ifCond .eq 9, 98, 0, []),
  (92, .iload_n 3, 0, 0, []), (93, .iconst 1, 0, 0, []), (94, .iadd, 0, 0, []), (95, .goto 4, 99, 0, []),
  (98, .iload_n 3, 0, 0, []), (99, .istore_n 3, 0, 0, []), (100, .iinc 4 1, 0, 0, []), (103, .goto (-72), 31, 0, []),
  (106, .iload_n 3, 0, 0, []), (107, .ireturn, 0, 0, [])
  ]
/-- ChainDeskLaw.declare(LChainDesk;[J)I -/
def cd_r157 : List (Nat × Instr × Nat × Nat × List Nat) := [
  (0, .aload_n 1, 0, 0, []), (1, .iconst 0, 0, 0, []), (2, .aload_n 0, 0, 0, []), (3, .invokevirtual 7, 31, 0, [371, 372, 373, 60, 374]),
  (6, .i2l, 0, 0, []), (7, .lastore, 0, 0, []), (8, .goto 9, 17, 0, []), (11, .astore_n 2, 0, 0, []),
  (12, .iconst 1, 0, 0, []), (13, .ireturn, 0, 0, []), (14, .astore_n 2, 0, 0, []), (15, .iconst 2, 0, 0, []),
  (16, .ireturn, 0, 0, []), (17, .iconst 0, 0, 0, []), (18, .ireturn, 0, 0, [])
  ]
/-- ChainDeskLaw.variable(LChainDesk;[J)I -/
def cd_r158 : List (Nat × Instr × Nat × Nat × List Nat) := [
  (0, .aload_n 1, 0, 0, []), (1, .iconst 0, 0, 0, []), (2, .aload_n 0, 0, 0, []), (3, .invokevirtual 17, 62, 0, [676, 677, 678, 60, 679]),
  (6, .i2l, 0, 0, []), (7, .lastore, 0, 0, []), (8, .goto 9, 17, 0, []), (11, .astore_n 2, 0, 0, []),
  (12, .iconst 1, 0, 0, []), (13, .ireturn, 0, 0, []), (14, .astore_n 2, 0, 0, []), (15, .iconst 2, 0, 0, []),
  (16, .ireturn, 0, 0, []), (17, .iconst 0, 0, 0, []), (18, .ireturn, 0, 0, [])
  ]
/-- ChainDeskLaw.enter(LChainDesk;I)I -/
def cd_r159 : List (Nat × Instr × Nat × Nat × List Nat) := [
  (0, .aload_n 0, 0, 0, []), (1, .iload_n 1, 0, 0, []), (2, .invokevirtual 20, 67, 1, [703, 704, 705, 60, 706]), (5, .goto 6, 11, 0, []),
  (8, .astore_n 2, 0, 0, []), (9, .iconst 1, 0, 0, []), (10, .ireturn, 0, 0, []), (11, .iconst 0, 0, 0, []),
  (12, .ireturn, 0, 0, [])
  ]
/-- ChainDeskLaw.complete(LChainDesk;II[J)I -/
def cd_r160 : List (Nat × Instr × Nat × Nat × List Nat) := [
  (0, .aload_n 3, 0, 0, []), (1, .iconst 0, 0, 0, []), (2, .aload_n 0, 0, 0, []), (3, .iload_n 1, 0, 0, []),
  (4, .iload_n 2, 0, 0, []), (5, .invokevirtual 24, 68, 2, [710, 711, 712, 60, 713]), (8, .i2l, 0, 0, []), (9, .lastore, 0, 0, []),
  (10, .goto 7, 17, 0, []), (13, .astore 4, 0, 0, []), (15, .iconst 1, 0, 0, []), (16, .ireturn, 0, 0, []),
  (17, .iconst 0, 0, 0, []), (18, .ireturn, 0, 0, [])
  ]
/-- ChainDeskLaw.check(LChainDesk;[J)I -/
def cd_r161 : List (Nat × Instr × Nat × Nat × List Nat) := [
  (0, .aload_n 1, 0, 0, []), (1, .iconst 0, 0, 0, []), (2, .aload_n 0, 0, 0, []), (3, .invokevirtual 28, 87, 0, [806, 807, 808, 60, 809]),
  (6, .i2l, 0, 0, []), (7, .lastore, 0, 0, []), (8, .goto 6, 14, 0, []), (11, .astore_n 2, 0, 0, []),
  (12, .iconst 1, 0, 0, []), (13, .ireturn, 0, 0, []), (14, .iconst 0, 0, 0, []), (15, .ireturn, 0, 0, [])
  ]
def cd_rows : List (List (Nat × Instr × Nat × Nat × List Nat)) := [cd_r0, cd_r1, cd_r2, cd_r3, cd_r4, cd_r5, cd_r6, cd_r7, cd_r8, cd_r9, cd_r10, cd_r11, cd_r12, cd_r13, cd_r14, cd_r15, cd_r16, cd_r17, cd_r18, cd_r19, cd_r20, cd_r21, cd_r22, cd_r23, cd_r24, cd_r25, cd_r26, cd_r27, cd_r28, cd_r29, cd_r30, cd_r31, cd_r32, cd_r33, cd_r34, cd_r35, cd_r36, cd_r37, cd_r38, cd_r39, cd_r40, cd_r41, cd_r42, cd_r43, cd_r44, cd_r45, cd_r46, cd_r47, cd_r48, cd_r49, cd_r50, cd_r51, cd_r52, cd_r53, cd_r54, cd_r55, cd_r56, cd_r57, cd_r58, cd_r59, cd_r60, cd_r61, cd_r62, cd_r63, cd_r64, cd_r65, cd_r66, cd_r67, cd_r68, cd_r69, cd_r70, cd_r71, cd_r72, cd_r73, cd_r74, cd_r75, cd_r76, cd_r77, cd_r78, cd_r79, cd_r80, cd_r81, cd_r82, cd_r83, cd_r84, cd_r85, cd_r86, cd_r87, cd_r88, cd_r89, cd_r90, cd_r91, cd_r92, cd_r93, cd_r94, cd_r95, cd_r96, cd_r97, cd_r98, cd_r99, cd_r100, cd_r101, cd_r102, cd_r103, cd_r104, cd_r105, cd_r106, cd_r107, cd_r108, cd_r109, cd_r110, cd_r111, cd_r112, cd_r113, cd_r114, cd_r115, cd_r116, cd_r117, cd_r118, cd_r119, cd_r120, cd_r121, cd_r122, cd_r123, cd_r124, cd_r125, cd_r126, cd_r127, cd_r128, cd_r129, cd_r130, cd_r131, cd_r132, cd_r133, cd_r134, cd_r135, cd_r136, cd_r137, cd_r138, cd_r139, cd_r140, cd_r141, cd_r142, cd_r143, cd_r144, cd_r145, cd_r146, cd_r147, cd_r148, cd_r149, cd_r150, cd_r151, cd_r152, cd_r153, cd_r154, cd_r155, cd_r156, cd_r157, cd_r158, cd_r159, cd_r160, cd_r161]
def cd_I (y pc : Nat) : Option (Instr × Nat × Nat) := ((cd_rows.getD y []).find? (fun q => Nat.beq q.1 pc)).map (fun q => (q.2.1, q.2.2.1, q.2.2.2.1))
def cd_t : am_T := (cd_I, cd_ml, cd_rt, cd_ft, cd_df, cd_ns, cd_nm, cd_mc, cd_hs)
end
section
def am_decb (cc : ByteArray) (pc : Nat) (i : Instr) : Bool := match decode cc pc with
  | .ok (j, n) => decide (j = i) && (am_sw i || Nat.beq n (am_len i))
  | _ => false
theorem am_decb_ok {cc : ByteArray} {pc : Nat} {i : Instr} (h : am_decb cc pc i = true) : am_dec cc pc i := by
  unfold am_decb at h
  split at h
  · next j n e =>
    simp only [Bool.and_eq_true, decide_eq_true_eq, Bool.or_eq_true] at h
    obtain ⟨rfl, h⟩ := h
    cases hs : am_sw j with
    | true => exact Or.inl ⟨hs, n, e⟩
    | false =>
      rcases h with h | h
      · rw [hs] at h
        cases h
      · have := Nat.eq_of_beq_eq_true h
        subst this
        exact Or.inr ⟨hs, e⟩
  · cases h
/-- the word w stands at place p of the tables' words -/
def cd_at (p : Nat) (w : Cond) : Bool := decide (lw_tbl[p]? = some w)
def cd_w (p : Nat) (w : Cond) : Bool := cd_at p w && goodWord w
theorem cd_at_mem {p : Nat} {w : Cond} (h : cd_at p w = true) : w ∈ lw_tbl := List.mem_of_getElem? (of_decide_eq_true h)
/-- String constants: who loads it, its entry, its number, its text -/
def cd_sr : List (String × Nat × Nat × String) := [("ChainDesk$DeclarationReader", 44, 10, "private "), ("ChainDesk$DeclarationReader", 50, 11, "new("), ("ChainDesk$DeclarationReader", 88, 12, "static "), ("ChainDesk$Completer", 124, 13, "new "), ("ChainDesk$ExpressionReader", 48, 13, "new ")]
/-- statics that are read -/
def cd_st : List (Nat × String × String × String) := [(0, "ChainDesk$Kind", "FIELD", "LChainDesk$Kind;"), (1, "ChainDesk$Kind", "METHOD", "LChainDesk$Kind;"), (2, "ChainDesk$Kind", "MAKER", "LChainDesk$Kind;"), (3, "java/lang/String", "COMPACT_STRINGS", "Z"), (4, "jdk/internal/util/Preconditions", "SIOOBE_FORMATTER", "Ljava/util/function/BiFunction;")]
/-- classes of whose objects there are arrays -/
def cd_ao : List String := ["ChainDesk$Declaration", "ChainDesk$Shelf", "ChainDesk$Phrase", "ChainDesk$Member"]
/-- how a method is called (0: a static one, 1: on an object, 2: a constructor), and where its words stand: code, class, method, selects -/
def cd_mpL : List (Nat × Nat × Nat × Nat × Nat) := [(9, 0, 0, 0, 0), (2, 89, 60, 88, 0), (2, 97, 61, 96, 0), (2, 114, 62, 113, 0), (2, 134, 63, 133, 0), (2, 154, 64, 153, 0), (2, 167, 65, 166, 0), (2, 187, 66, 186, 0), (2, 196, 67, 195, 0), (2, 220, 68, 219, 0), (1, 280, 60, 278, 279), (1, 284, 61, 282, 283), (1, 288, 60, 286, 287), (1, 292, 60, 290, 291), (1, 296, 60, 294, 295), (0, 299, 60, 298, 0), (1, 303, 62, 301, 302), (1, 307, 60, 305, 306), (1, 311, 66, 309, 310), (1, 315, 60, 313, 314), (1, 319, 67, 317, 318), (1, 323, 60, 321, 322), (1, 327, 62, 325, 326), (1, 331, 60, 329, 330), (0, 334, 60, 333, 0), (1, 342, 62, 340, 341), (1, 347, 62, 345, 346), (1, 353, 62, 351, 352), (1, 357, 70, 355, 356), (1, 361, 75, 359, 360), (1, 365, 62, 363, 364), (1, 374, 60, 372, 373), (1, 378, 64, 376, 377), (1, 382, 61, 380, 381), (1, 387, 61, 385, 386), (1, 391, 61, 389, 390), (2, 397, 70, 396, 0), (1, 426, 64, 424, 425), (1, 430, 64, 429, 0), (1, 435, 61, 433, 434), (1, 439, 71, 437, 438), (1, 443, 71, 441, 442), (1, 449, 71, 447, 448), (1, 453, 71, 451, 452), (0, 456, 72, 455, 0), (0, 459, 71, 458, 0), (0, 464, 73, 463, 0), (1, 488, 64, 487, 1), (2, 494, 75, 493, 0), (1, 541, 64, 540, 2), (1, 545, 61, 543, 544), (1, 550, 61, 549, 3), (1, 554, 75, 552, 553), (1, 558, 64, 557, 4), (1, 563, 61, 561, 562), (1, 569, 70, 567, 568), (1, 575, 70, 574, 5), (1, 579, 75, 577, 578), (1, 583, 70, 581, 582), (1, 587, 61, 585, 586), (1, 591, 61, 589, 590), (1, 657, 62, 655, 656), (1, 679, 60, 677, 678), (1, 683, 63, 681, 682), (1, 687, 60, 686, 7), (1, 694, 63, 692, 693), (1, 699, 63, 697, 698), (1, 706, 60, 704, 705), (1, 713, 60, 711, 712), (1, 717, 66, 715, 716), (1, 721, 66, 720, 8), (1, 725, 67, 723, 724), (1, 729, 67, 727, 728), (1, 733, 68, 731, 732), (1, 737, 68, 735, 736), (1, 741, 67, 739, 740), (1, 745, 67, 743, 744), (1, 749, 67, 747, 748), (1, 756, 66, 754, 755), (1, 760, 66, 759, 9), (1, 768, 67, 766, 767), (1, 774, 67, 772, 773), (1, 779, 66, 778, 10), (1, 784, 66, 783, 11), (1, 790, 67, 788, 789), (1, 797, 66, 796, 12), (1, 802, 66, 800, 801), (1, 809, 60, 807, 808), (1, 813, 65, 811, 812), (1, 817, 65, 816, 13), (1, 821, 65, 820, 14), (1, 828, 62, 826, 827), (1, 832, 62, 831, 15), (1, 836, 65, 835, 16), (1, 841, 65, 840, 17), (1, 849, 65, 848, 18), (1, 855, 62, 853, 854), (1, 859, 65, 858, 19), (2, 866, 69, 865, 0), (1, 990, 69, 988, 989), (1, 994, 69, 992, 993), (0, 997, 69, 996, 0), (1, 1001, 69, 999, 1000), (1, 1005, 69, 1004, 20), (1, 1009, 69, 1008, 21), (1, 1013, 69, 1012, 22), (0, 1016, 69, 1015, 0), (1, 1020, 69, 1019, 23), (1, 1024, 69, 1023, 24), (1, 1028, 69, 1027, 25), (1, 1032, 69, 1031, 26), (1, 1036, 69, 1035, 27), (1, 1040, 69, 1039, 28), (1, 1044, 69, 1043, 29), (1, 1048, 69, 1047, 30), (0, 1051, 69, 1050, 0), (0, 1054, 69, 1053, 0), (1, 1058, 69, 1057, 31), (0, 1061, 69, 1060, 0), (1, 1065, 69, 1064, 32), (1, 1069, 69, 1068, 33), (1, 1073, 69, 1072, 34), (1, 1077, 69, 1076, 35), (1, 1081, 69, 1079, 1080), (1, 1085, 69, 1084, 36), (1, 1089, 69, 1087, 1088), (1, 1093, 69, 1091, 1092), (1, 1097, 69, 1095, 1096), (1, 1101, 69, 1100, 37), (1, 1105, 69, 1104, 38), (1, 1109, 69, 1107, 1108), (1, 1113, 69, 1112, 39), (1, 1117, 69, 1116, 40), (1, 1121, 69, 1120, 41), (1, 1125, 69, 1124, 42), (1, 1129, 69, 1128, 43), (1, 1133, 69, 1132, 44), (1, 1137, 69, 1136, 45), (1, 1141, 69, 1140, 46), (1, 1145, 69, 1144, 47), (1, 1149, 69, 1148, 48), (1, 1153, 69, 1152, 49), (1, 1157, 69, 1156, 50), (1, 1161, 69, 1160, 51), (1, 1165, 69, 1164, 52), (1, 1169, 69, 1168, 53), (1, 1173, 69, 1171, 1172), (1, 1177, 69, 1176, 54), (1, 1181, 69, 1180, 55), (1, 1185, 69, 1184, 56), (1, 1189, 69, 1188, 57), (1, 1193, 69, 1192, 58), (1, 1197, 69, 1195, 1196), (1, 1201, 69, 1199, 1200), (1, 1205, 69, 1203, 1204), (1, 1209, 69, 1207, 1208), (1, 1213, 69, 1211, 1212), (0, 368, 59, 367, 0), (0, 675, 59, 674, 0), (0, 702, 59, 701, 0), (0, 709, 59, 708, 0), (0, 805, 59, 804, 0)]
def cd_mp (u : Nat) : Nat × Nat × Nat × Nat × Nat := cd_mpL.getD u (9, 0, 0, 0, 0)
def cd_mchk (u : Nat) : Bool :=
  cd_w (cd_mp u).2.1 (am_hc cd_t cd_yn cd_bt cd_rtt u) && (cd_w (cd_mp u).2.2.1 (.initialized (cd_yn u).cls) && (Nat.ble (cd_ml u) 45 && (decide ((cd_yn u).cls ≠ "java/lang/invoke/MethodHandle") && (decide ((cd_yn u).cls ≠ "java/lang/invoke/VarHandle") &&
  (match (cd_mp u).1 with
    | 0 => cd_w (cd_mp u).2.2.2.1 (.static (cd_yn u))
    | 1 => cd_w (cd_mp u).2.2.2.1 (.instanceMethod (cd_yn u)) && (cd_w (cd_mp u).2.2.2.2 (.selects (cd_yn u).cls (cd_yn u) (cd_yn u)) && decide (cd_nm (cd_mc u) = (cd_yn u).cls))
    | 2 => cd_w (cd_mp u).2.2.2.1 (.instanceMethod (cd_yn u)) && (decide ((cd_yn u).name = "<init>") && (cd_rtt u).isNone)
    | _ => false)))))
def cd_link (p : Nat) (own : String) (idx u v : Nat) : Bool := (cd_w p (.methodLink own idx (cd_yn u)) || cd_at p (.methodLinkNest own idx (cd_yn u) "ChainDesk")) && decide ((parseMethodDescriptor (cd_yn u).desc).map (fun d => d.parameters.length) = some v)
/-- who throws, its entry of the constructor, the class -/
def cd_tl : List (String × Nat × String) := [("ChainDesk", 82, "java/lang/IllegalArgumentException"), ("ChainDesk", 88, "java/lang/IllegalStateException")]
/-- what must hold of a row -/
def cd_chk (y : Nat) (q : Nat × Instr × Nat × Nat × List Nat) : Bool := am_decb (cd_bt y) q.1 q.2.1 && (match q.2.1 with
  | .ldc idx => decide (((cd_yn y).cls, idx, q.2.2.1) ∈ cd_sr.map (fun z => (z.1, z.2.1, z.2.2.1)))
  | .getstatic idx => match cd_st.find? (fun z => Nat.beq z.1 q.2.2.1) with
    | some z => cd_w (q.2.2.2.2.getD 0 0) (.fieldLink (cd_yn y).cls idx z.2.1 z.2.2.1 z.2.2.2)
    | none => false
  | .goto off => decide ((q.1 : Int) + off = (q.2.2.1 : Int))
  | .ifCond _ off => decide ((q.1 : Int) + off = (q.2.2.1 : Int))
  | .if_icmp _ off => decide ((q.1 : Int) + off = (q.2.2.1 : Int))
  | .if_acmp _ off => decide ((q.1 : Int) + off = (q.2.2.1 : Int))
  | .ifnull off => decide ((q.1 : Int) + off = (q.2.2.1 : Int))
  | .ifnonnull off => decide ((q.1 : Int) + off = (q.2.2.1 : Int))
  | .getfield idx => bif Nat.beq q.2.2.1 50 then (bif Nat.beq q.2.2.2.1 0 then cd_w (q.2.2.2.2.getD 0 0) (.fieldLink (cd_yn y).cls idx "java/lang/String" "value" "[B") else cd_w (q.2.2.2.2.getD 0 0) (.fieldLink (cd_yn y).cls idx "java/lang/String" "coder" "B")) else match cd_cl[q.2.2.1]? with
    | some r => Nat.blt q.2.2.2.1 r.2.2 && (cd_w (q.2.2.2.2.getD 0 0) (.fieldLink (cd_yn y).cls idx r.1 (r.2.1 q.2.2.2.1).2.1 (r.2.1 q.2.2.2.1).2.2.1) || cd_at (q.2.2.2.2.getD 0 0) (.fieldLinkNest (cd_yn y).cls idx r.1 (r.2.1 q.2.2.2.1).2.1 (r.2.1 q.2.2.2.1).2.2.1 "ChainDesk"))
    | none => false
  | .putfield idx => match cd_cl[q.2.2.1]? with
    | some r => Nat.blt q.2.2.2.1 r.2.2 && ((cd_w (q.2.2.2.2.getD 0 0) (.fieldLink (cd_yn y).cls idx r.1 (r.2.1 q.2.2.2.1).2.1 (r.2.1 q.2.2.2.1).2.2.1) && (!(r.2.1 q.2.2.2.1).2.2.2 || (decide ((cd_yn y).name = "<init>") && decide ((cd_yn y).cls = r.1)))) || (!(r.2.1 q.2.2.2.1).2.2.2 && cd_at (q.2.2.2.2.getD 0 0) (.fieldLinkNest (cd_yn y).cls idx r.1 (r.2.1 q.2.2.2.1).2.1 (r.2.1 q.2.2.2.1).2.2.1 "ChainDesk")))
    | none => false
  | .new idx => match cd_cl[q.2.2.1]? with
    | some r => cd_w (q.2.2.2.2.getD 0 0) (.classLink (cd_yn y).cls idx r.1) && (cd_w (q.2.2.2.2.getD 1 0) (.instantiable r.1 (cd_ns q.2.2.1)) && (cd_w (q.2.2.2.2.getD 2 0) (.initialized r.1) &&
      (bif Nat.ble 12 q.2.2.1 then (cd_hs y).isEmpty && (Nat.beq (cd_ns q.2.2.1) 6 && (Nat.beq r.2.2 0 && (am_decb (cd_bt y) (q.1 + 3) .dup && (am_decb (cd_bt y) (q.1 + 4) (.invokespecial q.2.2.2.1) && (am_decb (cd_bt y) (q.1 + 7) .athrow && decide (((cd_yn y).cls, q.2.2.2.1, r.1) ∈ cd_tl)))))) else true)))
    | none => false
  | .newarray at_ => cd_w (q.2.2.2.2.getD 0 0) (.arrayClass (newarray.typeOf at_))
  | .anewarray idx => cd_w (q.2.2.2.2.getD 0 0) (.classLink (cd_yn y).cls idx (cd_nm q.2.2.1)) && decide (cd_nm q.2.2.1 ∈ cd_ao)
  | .invokespecial idx => bif Nat.beq q.2.2.1 1000 then cd_w (q.2.2.2.2.getD 0 0) (.methodLink (cd_yn y).cls idx objectInit) && (cd_w (q.2.2.2.2.getD 1 0) (.instanceMethod objectInit) && cd_w (q.2.2.2.2.getD 2 0) (.code objectInit ⟨#[0xb1]⟩ 1 none))
    else Nat.ble 1 q.2.2.1 && (Nat.blt q.2.2.1 1000 && (Nat.beq (cd_mp q.2.2.1).1 2 && (cd_link (q.2.2.2.2.getD 0 0) (cd_yn y).cls idx q.2.2.1 q.2.2.2.1 && ((cd_hs q.2.2.1).isEmpty && (cd_hs y).isEmpty))))
  | .invokestatic idx => bif Nat.blt 1000 q.2.2.1 then (bif Nat.beq q.2.2.1 1003 then Nat.beq q.2.2.2.1 2 && (cd_w (q.2.2.2.2.getD 0 0) (.methodLink (cd_yn y).cls idx Lib.Math.min.name) && (cd_w (q.2.2.2.2.getD 1 0) (.static Lib.Math.min.name) && (cd_w (q.2.2.2.2.getD 2 0) (.initialized "java/lang/Math") && cd_w (q.2.2.2.2.getD 3 0) (.code Lib.Math.min.name Lib.Math.min.code 2 (some .int)))))
      else Nat.beq q.2.2.1 1004 && (Nat.beq q.2.2.2.1 5 && (cd_w (q.2.2.2.2.getD 0 0) (.methodLink (cd_yn y).cls idx arraycopyName) && (cd_w (q.2.2.2.2.getD 1 0) (.native arraycopyName) && (cd_w (q.2.2.2.2.getD 2 0) (.static arraycopyName) && cd_w (q.2.2.2.2.getD 3 0) (.initialized "java/lang/System"))))))
    else Nat.ble 1 q.2.2.1 && (Nat.blt q.2.2.1 1000 && (Nat.beq (cd_mp q.2.2.1).1 0 && (cd_link (q.2.2.2.2.getD 0 0) (cd_yn y).cls idx q.2.2.1 q.2.2.2.1 && ((cd_hs y).isEmpty && ((cd_hs q.2.2.1).isEmpty || cd_w (q.2.2.2.2.getD 0 0) (.methodLink (cd_yn y).cls idx (cd_yn q.2.2.1)))))))
  | .invokevirtual idx => Nat.ble 1 q.2.2.1 && (Nat.blt q.2.2.1 1000 && (Nat.beq (cd_mp q.2.2.1).1 1 && (cd_link (q.2.2.2.2.getD 0 0) (cd_yn y).cls idx q.2.2.1 q.2.2.2.1 && ((cd_hs q.2.2.1).isEmpty && ((cd_hs y).isEmpty || cd_w (q.2.2.2.2.getD 0 0) (.methodLink (cd_yn y).cls idx (cd_yn q.2.2.1)))))))
  | .ireturn => (cd_rtt y).isSome
  | .areturn => (cd_rtt y).isSome
  | .return_ => (cd_rtt y).isNone
  | _ => true)
end
section
set_option maxRecDepth 100000 in
theorem cd_k0 : cd_r0.all (cd_chk 0) = true := by decide +kernel
set_option maxRecDepth 100000 in
theorem cd_k1 : cd_r1.all (cd_chk 1) = true := by decide +kernel
set_option maxRecDepth 100000 in
theorem cd_k2 : cd_r2.all (cd_chk 2) = true := by decide +kernel
set_option maxRecDepth 100000 in
theorem cd_k3 : cd_r3.all (cd_chk 3) = true := by decide +kernel
set_option maxRecDepth 100000 in
theorem cd_k4 : cd_r4.all (cd_chk 4) = true := by decide +kernel
set_option maxRecDepth 100000 in
theorem cd_k5 : cd_r5.all (cd_chk 5) = true := by decide +kernel
set_option maxRecDepth 100000 in
theorem cd_k6 : cd_r6.all (cd_chk 6) = true := by decide +kernel
set_option maxRecDepth 100000 in
theorem cd_k7 : cd_r7.all (cd_chk 7) = true := by decide +kernel
set_option maxRecDepth 100000 in
theorem cd_k8 : cd_r8.all (cd_chk 8) = true := by decide +kernel
set_option maxRecDepth 100000 in
theorem cd_k9 : cd_r9.all (cd_chk 9) = true := by decide +kernel
set_option maxRecDepth 100000 in
theorem cd_k10 : cd_r10.all (cd_chk 10) = true := by decide +kernel
set_option maxRecDepth 100000 in
theorem cd_k11 : cd_r11.all (cd_chk 11) = true := by decide +kernel
set_option maxRecDepth 100000 in
theorem cd_k12 : cd_r12.all (cd_chk 12) = true := by decide +kernel
set_option maxRecDepth 100000 in
theorem cd_k13 : cd_r13.all (cd_chk 13) = true := by decide +kernel
set_option maxRecDepth 100000 in
theorem cd_k14 : cd_r14.all (cd_chk 14) = true := by decide +kernel
set_option maxRecDepth 100000 in
theorem cd_k15 : cd_r15.all (cd_chk 15) = true := by decide +kernel
set_option maxRecDepth 100000 in
theorem cd_k16 : cd_r16.all (cd_chk 16) = true := by decide +kernel
set_option maxRecDepth 100000 in
theorem cd_k17 : cd_r17.all (cd_chk 17) = true := by decide +kernel
end
section
set_option maxRecDepth 100000 in
theorem cd_k18 : cd_r18.all (cd_chk 18) = true := by decide +kernel
set_option maxRecDepth 100000 in
theorem cd_k19 : cd_r19.all (cd_chk 19) = true := by decide +kernel
set_option maxRecDepth 100000 in
theorem cd_k20 : cd_r20.all (cd_chk 20) = true := by decide +kernel
set_option maxRecDepth 100000 in
theorem cd_k21 : cd_r21.all (cd_chk 21) = true := by decide +kernel
set_option maxRecDepth 100000 in
theorem cd_k22 : cd_r22.all (cd_chk 22) = true := by decide +kernel
set_option maxRecDepth 100000 in
theorem cd_k23 : cd_r23.all (cd_chk 23) = true := by decide +kernel
set_option maxRecDepth 100000 in
theorem cd_k24 : cd_r24.all (cd_chk 24) = true := by decide +kernel
set_option maxRecDepth 100000 in
theorem cd_k25 : cd_r25.all (cd_chk 25) = true := by decide +kernel
set_option maxRecDepth 100000 in
theorem cd_k26 : cd_r26.all (cd_chk 26) = true := by decide +kernel
set_option maxRecDepth 100000 in
theorem cd_k27 : cd_r27.all (cd_chk 27) = true := by decide +kernel
set_option maxRecDepth 100000 in
theorem cd_k28 : cd_r28.all (cd_chk 28) = true := by decide +kernel
set_option maxRecDepth 100000 in
theorem cd_k29 : cd_r29.all (cd_chk 29) = true := by decide +kernel
set_option maxRecDepth 100000 in
theorem cd_k30 : cd_r30.all (cd_chk 30) = true := by decide +kernel
set_option maxRecDepth 100000 in
theorem cd_k31 : cd_r31.all (cd_chk 31) = true := by decide +kernel
set_option maxRecDepth 100000 in
theorem cd_k32 : cd_r32.all (cd_chk 32) = true := by decide +kernel
set_option maxRecDepth 100000 in
theorem cd_k33 : cd_r33.all (cd_chk 33) = true := by decide +kernel
set_option maxRecDepth 100000 in
theorem cd_k34 : cd_r34.all (cd_chk 34) = true := by decide +kernel
set_option maxRecDepth 100000 in
theorem cd_k35 : cd_r35.all (cd_chk 35) = true := by decide +kernel
set_option maxRecDepth 100000 in
theorem cd_k36 : cd_r36.all (cd_chk 36) = true := by decide +kernel
set_option maxRecDepth 100000 in
theorem cd_k37 : cd_r37.all (cd_chk 37) = true := by decide +kernel
set_option maxRecDepth 100000 in
theorem cd_k38 : cd_r38.all (cd_chk 38) = true := by decide +kernel
set_option maxRecDepth 100000 in
theorem cd_k39 : cd_r39.all (cd_chk 39) = true := by decide +kernel
set_option maxRecDepth 100000 in
theorem cd_k40 : cd_r40.all (cd_chk 40) = true := by decide +kernel
set_option maxRecDepth 100000 in
theorem cd_k41 : cd_r41.all (cd_chk 41) = true := by decide +kernel
set_option maxRecDepth 100000 in
theorem cd_k42 : cd_r42.all (cd_chk 42) = true := by decide +kernel
set_option maxRecDepth 100000 in
theorem cd_k43 : cd_r43.all (cd_chk 43) = true := by decide +kernel
set_option maxRecDepth 100000 in
theorem cd_k44 : cd_r44.all (cd_chk 44) = true := by decide +kernel
set_option maxRecDepth 100000 in
theorem cd_k45 : cd_r45.all (cd_chk 45) = true := by decide +kernel
set_option maxRecDepth 100000 in
theorem cd_k46 : cd_r46.all (cd_chk 46) = true := by decide +kernel
set_option maxRecDepth 100000 in
theorem cd_k47 : cd_r47.all (cd_chk 47) = true := by decide +kernel
set_option maxRecDepth 100000 in
theorem cd_k48 : cd_r48.all (cd_chk 48) = true := by decide +kernel
set_option maxRecDepth 100000 in
theorem cd_k49 : cd_r49.all (cd_chk 49) = true := by decide +kernel
set_option maxRecDepth 100000 in
theorem cd_k50 : cd_r50.all (cd_chk 50) = true := by decide +kernel
set_option maxRecDepth 100000 in
theorem cd_k51 : cd_r51.all (cd_chk 51) = true := by decide +kernel
end
section
set_option maxRecDepth 100000 in
theorem cd_k52 : cd_r52.all (cd_chk 52) = true := by decide +kernel
set_option maxRecDepth 100000 in
theorem cd_k53 : cd_r53.all (cd_chk 53) = true := by decide +kernel
set_option maxRecDepth 100000 in
theorem cd_k54 : cd_r54.all (cd_chk 54) = true := by decide +kernel
set_option maxRecDepth 100000 in
theorem cd_k55 : cd_r55.all (cd_chk 55) = true := by decide +kernel
set_option maxRecDepth 100000 in
theorem cd_k56 : cd_r56.all (cd_chk 56) = true := by decide +kernel
set_option maxRecDepth 100000 in
theorem cd_k57 : cd_r57.all (cd_chk 57) = true := by decide +kernel
set_option maxRecDepth 100000 in
theorem cd_k58 : cd_r58.all (cd_chk 58) = true := by decide +kernel
set_option maxRecDepth 100000 in
theorem cd_k59 : cd_r59.all (cd_chk 59) = true := by decide +kernel
set_option maxRecDepth 100000 in
theorem cd_k60 : cd_r60.all (cd_chk 60) = true := by decide +kernel
set_option maxRecDepth 100000 in
theorem cd_k61 : cd_r61.all (cd_chk 61) = true := by decide +kernel
set_option maxRecDepth 100000 in
theorem cd_k62 : cd_r62.all (cd_chk 62) = true := by decide +kernel
set_option maxRecDepth 100000 in
theorem cd_k63 : cd_r63.all (cd_chk 63) = true := by decide +kernel
set_option maxRecDepth 100000 in
theorem cd_k64 : cd_r64.all (cd_chk 64) = true := by decide +kernel
set_option maxRecDepth 100000 in
theorem cd_k65 : cd_r65.all (cd_chk 65) = true := by decide +kernel
set_option maxRecDepth 100000 in
theorem cd_k66 : cd_r66.all (cd_chk 66) = true := by decide +kernel
set_option maxRecDepth 100000 in
theorem cd_k67 : cd_r67.all (cd_chk 67) = true := by decide +kernel
set_option maxRecDepth 100000 in
theorem cd_k68 : cd_r68.all (cd_chk 68) = true := by decide +kernel
set_option maxRecDepth 100000 in
theorem cd_k69 : cd_r69.all (cd_chk 69) = true := by decide +kernel
set_option maxRecDepth 100000 in
theorem cd_k70 : cd_r70.all (cd_chk 70) = true := by decide +kernel
set_option maxRecDepth 100000 in
theorem cd_k71 : cd_r71.all (cd_chk 71) = true := by decide +kernel
set_option maxRecDepth 100000 in
theorem cd_k72 : cd_r72.all (cd_chk 72) = true := by decide +kernel
set_option maxRecDepth 100000 in
theorem cd_k73 : cd_r73.all (cd_chk 73) = true := by decide +kernel
set_option maxRecDepth 100000 in
theorem cd_k74 : cd_r74.all (cd_chk 74) = true := by decide +kernel
set_option maxRecDepth 100000 in
theorem cd_k75 : cd_r75.all (cd_chk 75) = true := by decide +kernel
set_option maxRecDepth 100000 in
theorem cd_k76 : cd_r76.all (cd_chk 76) = true := by decide +kernel
set_option maxRecDepth 100000 in
theorem cd_k77 : cd_r77.all (cd_chk 77) = true := by decide +kernel
end
section
set_option maxRecDepth 100000 in
theorem cd_k78 : cd_r78.all (cd_chk 78) = true := by decide +kernel
set_option maxRecDepth 100000 in
theorem cd_k79 : cd_r79.all (cd_chk 79) = true := by decide +kernel
set_option maxRecDepth 100000 in
theorem cd_k80 : cd_r80.all (cd_chk 80) = true := by decide +kernel
set_option maxRecDepth 100000 in
theorem cd_k81 : cd_r81.all (cd_chk 81) = true := by decide +kernel
set_option maxRecDepth 100000 in
theorem cd_k82 : cd_r82.all (cd_chk 82) = true := by decide +kernel
set_option maxRecDepth 100000 in
theorem cd_k83 : cd_r83.all (cd_chk 83) = true := by decide +kernel
set_option maxRecDepth 100000 in
theorem cd_k84 : cd_r84.all (cd_chk 84) = true := by decide +kernel
set_option maxRecDepth 100000 in
theorem cd_k85 : cd_r85.all (cd_chk 85) = true := by decide +kernel
set_option maxRecDepth 100000 in
theorem cd_k86 : cd_r86.all (cd_chk 86) = true := by decide +kernel
set_option maxRecDepth 100000 in
theorem cd_k87 : cd_r87.all (cd_chk 87) = true := by decide +kernel
set_option maxRecDepth 100000 in
theorem cd_k88 : cd_r88.all (cd_chk 88) = true := by decide +kernel
set_option maxRecDepth 100000 in
theorem cd_k89 : cd_r89.all (cd_chk 89) = true := by decide +kernel
set_option maxRecDepth 100000 in
theorem cd_k90 : cd_r90.all (cd_chk 90) = true := by decide +kernel
set_option maxRecDepth 100000 in
theorem cd_k91 : cd_r91.all (cd_chk 91) = true := by decide +kernel
set_option maxRecDepth 100000 in
theorem cd_k92 : cd_r92.all (cd_chk 92) = true := by decide +kernel
set_option maxRecDepth 100000 in
theorem cd_k93 : cd_r93.all (cd_chk 93) = true := by decide +kernel
set_option maxRecDepth 100000 in
theorem cd_k94 : cd_r94.all (cd_chk 94) = true := by decide +kernel
end
section
set_option maxRecDepth 100000 in
theorem cd_k95 : cd_r95.all (cd_chk 95) = true := by decide +kernel
set_option maxRecDepth 100000 in
theorem cd_k96 : cd_r96.all (cd_chk 96) = true := by decide +kernel
set_option maxRecDepth 100000 in
theorem cd_k97 : cd_r97.all (cd_chk 97) = true := by decide +kernel
set_option maxRecDepth 100000 in
theorem cd_k98 : cd_r98.all (cd_chk 98) = true := by decide +kernel
set_option maxRecDepth 100000 in
theorem cd_k99 : cd_r99.all (cd_chk 99) = true := by decide +kernel
set_option maxRecDepth 100000 in
theorem cd_k100 : cd_r100.all (cd_chk 100) = true := by decide +kernel
set_option maxRecDepth 100000 in
theorem cd_k101 : cd_r101.all (cd_chk 101) = true := by decide +kernel
set_option maxRecDepth 100000 in
theorem cd_k102 : cd_r102.all (cd_chk 102) = true := by decide +kernel
set_option maxRecDepth 100000 in
theorem cd_k103 : cd_r103.all (cd_chk 103) = true := by decide +kernel
set_option maxRecDepth 100000 in
theorem cd_k104 : cd_r104.all (cd_chk 104) = true := by decide +kernel
set_option maxRecDepth 100000 in
theorem cd_k105 : cd_r105.all (cd_chk 105) = true := by decide +kernel
set_option maxRecDepth 100000 in
theorem cd_k106 : cd_r106.all (cd_chk 106) = true := by decide +kernel
set_option maxRecDepth 100000 in
theorem cd_k107 : cd_r107.all (cd_chk 107) = true := by decide +kernel
set_option maxRecDepth 100000 in
theorem cd_k108 : cd_r108.all (cd_chk 108) = true := by decide +kernel
set_option maxRecDepth 100000 in
theorem cd_k109 : cd_r109.all (cd_chk 109) = true := by decide +kernel
set_option maxRecDepth 100000 in
theorem cd_k110 : cd_r110.all (cd_chk 110) = true := by decide +kernel
set_option maxRecDepth 100000 in
theorem cd_k111 : cd_r111.all (cd_chk 111) = true := by decide +kernel
end
section
set_option maxRecDepth 100000 in
theorem cd_k112 : cd_r112.all (cd_chk 112) = true := by decide +kernel
set_option maxRecDepth 100000 in
theorem cd_k113 : cd_r113.all (cd_chk 113) = true := by decide +kernel
set_option maxRecDepth 100000 in
theorem cd_k114 : cd_r114.all (cd_chk 114) = true := by decide +kernel
set_option maxRecDepth 100000 in
theorem cd_k115 : cd_r115.all (cd_chk 115) = true := by decide +kernel
set_option maxRecDepth 100000 in
theorem cd_k116 : cd_r116.all (cd_chk 116) = true := by decide +kernel
set_option maxRecDepth 100000 in
theorem cd_k117 : cd_r117.all (cd_chk 117) = true := by decide +kernel
set_option maxRecDepth 100000 in
theorem cd_k118 : cd_r118.all (cd_chk 118) = true := by decide +kernel
set_option maxRecDepth 100000 in
theorem cd_k119 : cd_r119.all (cd_chk 119) = true := by decide +kernel
set_option maxRecDepth 100000 in
theorem cd_k120 : cd_r120.all (cd_chk 120) = true := by decide +kernel
set_option maxRecDepth 100000 in
theorem cd_k121 : cd_r121.all (cd_chk 121) = true := by decide +kernel
set_option maxRecDepth 100000 in
theorem cd_k122 : cd_r122.all (cd_chk 122) = true := by decide +kernel
set_option maxRecDepth 100000 in
theorem cd_k123 : cd_r123.all (cd_chk 123) = true := by decide +kernel
set_option maxRecDepth 100000 in
theorem cd_k124 : cd_r124.all (cd_chk 124) = true := by decide +kernel
set_option maxRecDepth 100000 in
theorem cd_k125 : cd_r125.all (cd_chk 125) = true := by decide +kernel
set_option maxRecDepth 100000 in
theorem cd_k126 : cd_r126.all (cd_chk 126) = true := by decide +kernel
set_option maxRecDepth 100000 in
theorem cd_k127 : cd_r127.all (cd_chk 127) = true := by decide +kernel
set_option maxRecDepth 100000 in
theorem cd_k128 : cd_r128.all (cd_chk 128) = true := by decide +kernel
end
section
set_option maxRecDepth 100000 in
theorem cd_k129 : cd_r129.all (cd_chk 129) = true := by decide +kernel
set_option maxRecDepth 100000 in
theorem cd_k130 : cd_r130.all (cd_chk 130) = true := by decide +kernel
set_option maxRecDepth 100000 in
theorem cd_k131 : cd_r131.all (cd_chk 131) = true := by decide +kernel
set_option maxRecDepth 100000 in
theorem cd_k132 : cd_r132.all (cd_chk 132) = true := by decide +kernel
set_option maxRecDepth 100000 in
theorem cd_k133 : cd_r133.all (cd_chk 133) = true := by decide +kernel
set_option maxRecDepth 100000 in
theorem cd_k134 : cd_r134.all (cd_chk 134) = true := by decide +kernel
set_option maxRecDepth 100000 in
theorem cd_k135 : cd_r135.all (cd_chk 135) = true := by decide +kernel
set_option maxRecDepth 100000 in
theorem cd_k136 : cd_r136.all (cd_chk 136) = true := by decide +kernel
set_option maxRecDepth 100000 in
theorem cd_k137 : cd_r137.all (cd_chk 137) = true := by decide +kernel
set_option maxRecDepth 100000 in
theorem cd_k138 : cd_r138.all (cd_chk 138) = true := by decide +kernel
set_option maxRecDepth 100000 in
theorem cd_k139 : cd_r139.all (cd_chk 139) = true := by decide +kernel
set_option maxRecDepth 100000 in
theorem cd_k140 : cd_r140.all (cd_chk 140) = true := by decide +kernel
set_option maxRecDepth 100000 in
theorem cd_k141 : cd_r141.all (cd_chk 141) = true := by decide +kernel
end
section
set_option maxRecDepth 100000 in
theorem cd_k142 : cd_r142.all (cd_chk 142) = true := by decide +kernel
set_option maxRecDepth 100000 in
theorem cd_k143 : cd_r143.all (cd_chk 143) = true := by decide +kernel
set_option maxRecDepth 100000 in
theorem cd_k144 : cd_r144.all (cd_chk 144) = true := by decide +kernel
set_option maxRecDepth 100000 in
theorem cd_k145 : cd_r145.all (cd_chk 145) = true := by decide +kernel
set_option maxRecDepth 100000 in
theorem cd_k146 : cd_r146.all (cd_chk 146) = true := by decide +kernel
set_option maxRecDepth 100000 in
theorem cd_k147 : cd_r147.all (cd_chk 147) = true := by decide +kernel
set_option maxRecDepth 100000 in
theorem cd_k148 : cd_r148.all (cd_chk 148) = true := by decide +kernel
set_option maxRecDepth 100000 in
theorem cd_k149 : cd_r149.all (cd_chk 149) = true := by decide +kernel
set_option maxRecDepth 100000 in
theorem cd_k150 : cd_r150.all (cd_chk 150) = true := by decide +kernel
set_option maxRecDepth 100000 in
theorem cd_k151 : cd_r151.all (cd_chk 151) = true := by decide +kernel
set_option maxRecDepth 100000 in
theorem cd_k152 : cd_r152.all (cd_chk 152) = true := by decide +kernel
set_option maxRecDepth 100000 in
theorem cd_k153 : cd_r153.all (cd_chk 153) = true := by decide +kernel
set_option maxRecDepth 100000 in
theorem cd_k154 : cd_r154.all (cd_chk 154) = true := by decide +kernel
end
section
set_option maxRecDepth 100000 in
theorem cd_k155 : cd_r155.all (cd_chk 155) = true := by decide +kernel
set_option maxRecDepth 100000 in
theorem cd_k156 : cd_r156.all (cd_chk 156) = true := by decide +kernel
set_option maxRecDepth 100000 in
theorem cd_k157 : cd_r157.all (cd_chk 157) = true := by decide +kernel
set_option maxRecDepth 100000 in
theorem cd_k158 : cd_r158.all (cd_chk 158) = true := by decide +kernel
set_option maxRecDepth 100000 in
theorem cd_k159 : cd_r159.all (cd_chk 159) = true := by decide +kernel
set_option maxRecDepth 100000 in
theorem cd_k160 : cd_r160.all (cd_chk 160) = true := by decide +kernel
set_option maxRecDepth 100000 in
theorem cd_k161 : cd_r161.all (cd_chk 161) = true := by decide +kernel
end
section
set_option maxRecDepth 100000 in
theorem cd_m1 : (List.range 20).all (fun k => cd_mchk (k + 1)) = true := by decide +kernel
set_option maxRecDepth 100000 in
theorem cd_m21 : (List.range 20).all (fun k => cd_mchk (k + 21)) = true := by decide +kernel
set_option maxRecDepth 100000 in
theorem cd_m41 : (List.range 20).all (fun k => cd_mchk (k + 41)) = true := by decide +kernel
set_option maxRecDepth 100000 in
theorem cd_m61 : (List.range 20).all (fun k => cd_mchk (k + 61)) = true := by decide +kernel
set_option maxRecDepth 100000 in
theorem cd_m81 : (List.range 20).all (fun k => cd_mchk (k + 81)) = true := by decide +kernel
set_option maxRecDepth 100000 in
theorem cd_m101 : (List.range 20).all (fun k => cd_mchk (k + 101)) = true := by decide +kernel
set_option maxRecDepth 100000 in
theorem cd_m121 : (List.range 20).all (fun k => cd_mchk (k + 121)) = true := by decide +kernel
set_option maxRecDepth 100000 in
theorem cd_m141 : (List.range 20).all (fun k => cd_mchk (k + 141)) = true := by decide +kernel
set_option maxRecDepth 100000 in
theorem cd_m161 : (List.range 1).all (fun k => cd_mchk (k + 161)) = true := by decide +kernel
theorem cd_m (u : Nat) (h0 : u ≠ 0) (h : u < 162) : cd_mchk u = true := by
  by_cases h1 : u < 21
  · have := List.all_eq_true.mp cd_m1 (u - 1) (List.mem_range.mpr (by omega))
    rw [show u - 1 + 1 = u by omega] at this
    exact this
  by_cases h21 : u < 41
  · have := List.all_eq_true.mp cd_m21 (u - 21) (List.mem_range.mpr (by omega))
    rw [show u - 21 + 21 = u by omega] at this
    exact this
  by_cases h41 : u < 61
  · have := List.all_eq_true.mp cd_m41 (u - 41) (List.mem_range.mpr (by omega))
    rw [show u - 41 + 41 = u by omega] at this
    exact this
  by_cases h61 : u < 81
  · have := List.all_eq_true.mp cd_m61 (u - 61) (List.mem_range.mpr (by omega))
    rw [show u - 61 + 61 = u by omega] at this
    exact this
  by_cases h81 : u < 101
  · have := List.all_eq_true.mp cd_m81 (u - 81) (List.mem_range.mpr (by omega))
    rw [show u - 81 + 81 = u by omega] at this
    exact this
  by_cases h101 : u < 121
  · have := List.all_eq_true.mp cd_m101 (u - 101) (List.mem_range.mpr (by omega))
    rw [show u - 101 + 101 = u by omega] at this
    exact this
  by_cases h121 : u < 141
  · have := List.all_eq_true.mp cd_m121 (u - 121) (List.mem_range.mpr (by omega))
    rw [show u - 121 + 121 = u by omega] at this
    exact this
  by_cases h141 : u < 161
  · have := List.all_eq_true.mp cd_m141 (u - 141) (List.mem_range.mpr (by omega))
    rw [show u - 141 + 141 = u by omega] at this
    exact this
  by_cases h161 : u < 162
  · have := List.all_eq_true.mp cd_m161 (u - 161) (List.mem_range.mpr (by omega))
    rw [show u - 161 + 161 = u by omega] at this
    exact this
  omega
end
section
theorem cd_k (y : Nat) : (cd_rows.getD y []).all (cd_chk y) = true := by
  match y with
  | 0 => exact cd_k0
  | 1 => exact cd_k1
  | 2 => exact cd_k2
  | 3 => exact cd_k3
  | 4 => exact cd_k4
  | 5 => exact cd_k5
  | 6 => exact cd_k6
  | 7 => exact cd_k7
  | 8 => exact cd_k8
  | 9 => exact cd_k9
  | 10 => exact cd_k10
  | 11 => exact cd_k11
  | 12 => exact cd_k12
  | 13 => exact cd_k13
  | 14 => exact cd_k14
  | 15 => exact cd_k15
  | 16 => exact cd_k16
  | 17 => exact cd_k17
  | 18 => exact cd_k18
  | 19 => exact cd_k19
  | 20 => exact cd_k20
  | 21 => exact cd_k21
  | 22 => exact cd_k22
  | 23 => exact cd_k23
  | 24 => exact cd_k24
  | 25 => exact cd_k25
  | 26 => exact cd_k26
  | 27 => exact cd_k27
  | 28 => exact cd_k28
  | 29 => exact cd_k29
  | 30 => exact cd_k30
  | 31 => exact cd_k31
  | 32 => exact cd_k32
  | 33 => exact cd_k33
  | 34 => exact cd_k34
  | 35 => exact cd_k35
  | 36 => exact cd_k36
  | 37 => exact cd_k37
  | 38 => exact cd_k38
  | 39 => exact cd_k39
  | 40 => exact cd_k40
  | 41 => exact cd_k41
  | 42 => exact cd_k42
  | 43 => exact cd_k43
  | 44 => exact cd_k44
  | 45 => exact cd_k45
  | 46 => exact cd_k46
  | 47 => exact cd_k47
  | 48 => exact cd_k48
  | 49 => exact cd_k49
  | 50 => exact cd_k50
  | 51 => exact cd_k51
  | 52 => exact cd_k52
  | 53 => exact cd_k53
  | 54 => exact cd_k54
  | 55 => exact cd_k55
  | 56 => exact cd_k56
  | 57 => exact cd_k57
  | 58 => exact cd_k58
  | 59 => exact cd_k59
  | 60 => exact cd_k60
  | 61 => exact cd_k61
  | 62 => exact cd_k62
  | 63 => exact cd_k63
  | 64 => exact cd_k64
  | 65 => exact cd_k65
  | 66 => exact cd_k66
  | 67 => exact cd_k67
  | 68 => exact cd_k68
  | 69 => exact cd_k69
  | 70 => exact cd_k70
  | 71 => exact cd_k71
  | 72 => exact cd_k72
  | 73 => exact cd_k73
  | 74 => exact cd_k74
  | 75 => exact cd_k75
  | 76 => exact cd_k76
  | 77 => exact cd_k77
  | 78 => exact cd_k78
  | 79 => exact cd_k79
  | 80 => exact cd_k80
  | 81 => exact cd_k81
  | 82 => exact cd_k82
  | 83 => exact cd_k83
  | 84 => exact cd_k84
  | 85 => exact cd_k85
  | 86 => exact cd_k86
  | 87 => exact cd_k87
  | 88 => exact cd_k88
  | 89 => exact cd_k89
  | 90 => exact cd_k90
  | 91 => exact cd_k91
  | 92 => exact cd_k92
  | 93 => exact cd_k93
  | 94 => exact cd_k94
  | 95 => exact cd_k95
  | 96 => exact cd_k96
  | 97 => exact cd_k97
  | 98 => exact cd_k98
  | 99 => exact cd_k99
  | 100 => exact cd_k100
  | 101 => exact cd_k101
  | 102 => exact cd_k102
  | 103 => exact cd_k103
  | 104 => exact cd_k104
  | 105 => exact cd_k105
  | 106 => exact cd_k106
  | 107 => exact cd_k107
  | 108 => exact cd_k108
  | 109 => exact cd_k109
  | 110 => exact cd_k110
  | 111 => exact cd_k111
  | 112 => exact cd_k112
  | 113 => exact cd_k113
  | 114 => exact cd_k114
  | 115 => exact cd_k115
  | 116 => exact cd_k116
  | 117 => exact cd_k117
  | 118 => exact cd_k118
  | 119 => exact cd_k119
  | 120 => exact cd_k120
  | 121 => exact cd_k121
  | 122 => exact cd_k122
  | 123 => exact cd_k123
  | 124 => exact cd_k124
  | 125 => exact cd_k125
  | 126 => exact cd_k126
  | 127 => exact cd_k127
  | 128 => exact cd_k128
  | 129 => exact cd_k129
  | 130 => exact cd_k130
  | 131 => exact cd_k131
  | 132 => exact cd_k132
  | 133 => exact cd_k133
  | 134 => exact cd_k134
  | 135 => exact cd_k135
  | 136 => exact cd_k136
  | 137 => exact cd_k137
  | 138 => exact cd_k138
  | 139 => exact cd_k139
  | 140 => exact cd_k140
  | 141 => exact cd_k141
  | 142 => exact cd_k142
  | 143 => exact cd_k143
  | 144 => exact cd_k144
  | 145 => exact cd_k145
  | 146 => exact cd_k146
  | 147 => exact cd_k147
  | 148 => exact cd_k148
  | 149 => exact cd_k149
  | 150 => exact cd_k150
  | 151 => exact cd_k151
  | 152 => exact cd_k152
  | 153 => exact cd_k153
  | 154 => exact cd_k154
  | 155 => exact cd_k155
  | 156 => exact cd_k156
  | 157 => exact cd_k157
  | 158 => exact cd_k158
  | 159 => exact cd_k159
  | 160 => exact cd_k160
  | 161 => exact cd_k161
  | n + 162 =>
    have : cd_rows.getD (n + 162) [] = [] := by
      rw [List.getD_eq_getElem?_getD, List.getElem?_eq_none (by show 162 ≤ n + 162; omega)]
      rfl
    rw [this]
    rfl
end
section
def cd_cchk (k : Nat) : Bool := match cd_cl[k]? with
  | some r => decide (r.1 = cd_nm k) && (Nat.beq (cd_df k).length r.2.2 && (List.range r.2.2).all (fun j => cd_w ((cd_lpL.getD k []).getD j 0) (u_lay r.1 r.2.1 j) && (decide ((r.2.1 j).1 = r.1) && (decide (parseFieldDescriptor (r.2.1 j).2.2.1 = some (cd_ft k j)) && (decide (defaultValue (cd_ft k j) = vp_V (cd_df k) j) && (List.range r.2.2).all (fun i => Nat.beq i j || decide ((r.2.1 i).2.1 ≠ (r.2.1 j).2.1)))))))
  | none => true
set_option maxRecDepth 100000 in
theorem cd_c : (List.range 14).all cd_cchk = true := by decide +kernel
theorem cd_cls {k : Nat} {r : vw_C} (h : cd_cl[k]? = some r) : cd_cchk k = true := by
  have hk : k < 14 := (List.getElem?_eq_some_iff.mp h).1
  exact List.all_eq_true.mp cd_c k (List.mem_range.mpr hk)
theorem cd_cls_nm {k : Nat} {r : vw_C} (h : cd_cl[k]? = some r) : r.1 = cd_nm k := by
  have h1 := cd_cls h
  unfold cd_cchk at h1
  rw [h] at h1
  simp only [Bool.and_eq_true, decide_eq_true_eq] at h1
  exact h1.1
theorem cd_cls_df {k : Nat} {r : vw_C} (h : cd_cl[k]? = some r) : (cd_df k).length = r.2.2 := by
  have h1 := cd_cls h
  unfold cd_cchk at h1
  rw [h] at h1
  simp only [Bool.and_eq_true, decide_eq_true_eq] at h1
  exact Nat.eq_of_beq_eq_true h1.2.1
theorem cd_cls_f {k : Nat} {r : vw_C} (h : cd_cl[k]? = some r) {j : Nat} (hj : j < r.2.2) : cd_w ((cd_lpL.getD k []).getD j 0) (u_lay r.1 r.2.1 j) = true ∧ (r.2.1 j).1 = r.1 ∧ parseFieldDescriptor (r.2.1 j).2.2.1 = some (cd_ft k j) ∧ defaultValue (cd_ft k j) = vp_V (cd_df k) j ∧ ∀ i, i < r.2.2 → i ≠ j → (r.2.1 i).2.1 ≠ (r.2.1 j).2.1 := by
  have h1 := cd_cls h
  unfold cd_cchk at h1
  rw [h] at h1
  simp only [Bool.and_eq_true] at h1
  have h2 := List.all_eq_true.mp h1.2.2 j (List.mem_range.mpr hj)
  simp only [Bool.and_eq_true, decide_eq_true_eq] at h2
  obtain ⟨a1, a2, a3, a4, a5⟩ := h2
  refine ⟨a1, a2, a3, a4, fun i hi hne => ?_⟩
  have h3 := List.all_eq_true.mp a5 i (List.mem_range.mpr hi)
  rw [Bool.or_eq_true] at h3
  rcases h3 with h3 | h3
  · exact absurd (Nat.eq_of_beq_eq_true h3) hne
  · exact of_decide_eq_true h3
def cd_ws (y : Nat) : List Cond := if y = 0 then [] else [am_hc cd_t cd_yn cd_bt cd_rtt y]
def cd_nest (w : Cond) : Bool := match w with
  | .fieldLinkNest _ _ _ _ _ _ => true
  | .methodLinkNest _ _ _ _ => true
  | .castable _ _ => true
  | .declares _ => true
  | _ => false
/-- a static that holds a reference, whichever -/
def cd_S (C n d : String) (A : Nat → Prop) (U : State) (H : Heap) : Prop := ∃ (cf : ClassId) (kf : Class) (fi : Nat) (f : Field) (a : Nat) (cell : Cell) (v : Value), U.vm.findClass C = some cf ∧ U.fieldFound? C n d = some (cf, kf, fi, f) ∧ f.isStatic = true ∧ kf.statics = some a ∧ kf.staticTypes[f.slot]? = some f.type ∧ H[a]? = some cell ∧ cell.vm.isStatics = true ∧ cell.cls = cf ∧ cell.slots[f.slot]? = some v ∧ (v = .null ∨ ∃ b, v = .ref b) ∧ ¬ A a
theorem cd_S.moved {C n d : String} {A : Nat → Prop} {u U : State} {H : Heap} (hvm : u.vm.Alike U.vm) (h : cd_S C n d A u H) : cd_S C n d A U H := by
  obtain ⟨cf, kf, fi, f, a, cell, v, h1, h2, h3, h4, h5, h6⟩ := h
  obtain ⟨k', hi', he⟩ := State.fieldFound?_setVm hvm h2
  exact ⟨cf, k', fi, f, a, cell, v, by rw [hvm.findClass]; exact h1, hi', h3, by rw [he]; exact h4, by rw [he]; exact h5, h6⟩
theorem cd_S.kept {C n d : String} {A : Nat → Prop} {U : State} {H H1 : Heap} (h : cd_S C n d A U H) (hq : ∀ a : Nat, a < H.size → ¬ A a → H1[a]? = H[a]?) : cd_S C n d A U H1 := by
  obtain ⟨cf, kf, fi, f, a, cell, v, h1, h2, h3, h4, h5, h6, h7, h8, h9, h10, h11⟩ := h
  exact ⟨cf, kf, fi, f, a, cell, v, h1, h2, h3, h4, h5, by rw [hq a (Array.getElem?_eq_some_iff.mp h6).1 h11]; exact h6, h7, h8, h9, h10, h11⟩
theorem cd_S.lays {C n d : String} {A : Nat → Prop} {U : State} {args : Array Value} (h : cd_S C n d A U U.heap) : (Cond.laysStatic C n d).before args U = true := by
  obtain ⟨cf, kf, fi, f, a, cell, v, h1, h2, h3, h4, h5, h6, h7, h8, h9, h10, h11⟩ := h
  have hlt : f.slot < cell.slots.size := (Array.getElem?_eq_some_iff.mp h9).1
  simp [Cond.before, Cond.holds, Cond.value, h1, h2, h3, h4, h5, h6, h7, h8, hlt]
theorem cd_S.ref {C n d : String} {A : Nat → Prop} {U : State} {args : Array Value} (h : cd_S C n d A U U.heap) : (Cond.isRef (.static C n d)).before args U = true := by
  obtain ⟨cf, kf, fi, f, a, cell, v, h1, h2, h3, h4, h5, h6, h7, h8, h9, h10, h11⟩ := h
  rcases h10 with rfl | ⟨b, rfl⟩ <;> simp [Cond.before, Cond.holds, Cond.value, Term.eval, State.fieldNamed?, h2, h3, h4, h6, h7, h9]
theorem cd_Sof {args : Array Value} {s : State} {C n d : String} {A : Nat → Prop} (hl : (Cond.laysStatic C n d).before args s = true) (h : (Cond.isRef (.static C n d)).before args s = true) (hA : ∀ a : Nat, a < s.heap.size → ¬ A a) : cd_S C n d A s s.heap := by
  obtain ⟨c, k, i, f, a, cell, hc, hi, hst, ha, hcell, hs, hcls, hlt, hty⟩ := Cond.laysStatic_spec hl
  cases hv : (Term.static C n d).eval args s none [] s with
  | none => simp [Cond.before, Cond.holds, Cond.value, hv] at h
  | some w =>
    obtain ⟨-, a', cell', ha', hcell', -, hslot⟩ := Term.static_spec hi hv
    cases ha.symm.trans ha'
    cases hcell.symm.trans hcell'
    refine ⟨c, k, i, f, a, cell, w, hc, hi, hst, ha, hty, hcell, hs, hcls, hslot, ?_, hA a (Array.getElem?_eq_some_iff.mp hcell).1⟩
    simp only [Cond.before, Cond.holds, Cond.value, hv] at h
    cases w with
    | null => exact Or.inl rfl
    | ref b => exact Or.inr ⟨b, rfl⟩
    | _ => simp at h
/-- what an exception's constructor reads -/
def cd_ts : List (String × String × String) := [("java/lang/Throwable", "UNASSIGNED_STACK", "[Ljava/lang/StackTraceElement;"), ("java/lang/Throwable", "SUPPRESSED_SENTINEL", "Ljava/util/List;")]
/-- neither exception is the other -/
def cd_na (s : State) : Prop := ∀ i j, s.vm.findClass "java/lang/IllegalStateException" = some i → s.vm.findClass "java/lang/IllegalArgumentException" = some j → s.vm.assignable i j = false ∧ s.vm.assignable j i = false
/-- what is known of the tables and of the cells that were there at the start -/
def cd_GL (cs : Nat → Value) (b0 : Nat) (s : State) : Prop :=
  (∀ w ∈ lw_tbl, goodWord w = true → ∀ a : Array Value, w.before a s = true) ∧ (∀ w ∈ lw_tbl, cd_nest w = true → va_Nw w s) ∧
  (∀ q ∈ cd_sr, ∃ a, cs q.2.2.1 = .ref a ∧ vk_R q.1 q.2.1 q.2.2.2 a s) ∧ (∀ C ∈ cd_ao, va_AO C s) ∧ (∀ q ∈ cd_st, va_Z q.2.1 q.2.2.1 q.2.2.2 (cs q.1) (fun x => b0 ≤ x) s s.heap) ∧ (∀ q ∈ cd_ts, cd_S q.1 q.2.1 q.2.2 (fun x => b0 ≤ x) s s.heap) ∧ cd_na s
theorem cd_mv (cs : Nat → Value) (b0 : Nat) : am_mv b0 (cd_GL cs b0) := by
  intro s U hW hsz hq h
  obtain ⟨h1, h2, h3, h4, h5, h6, h7⟩ := h
  refine ⟨fun w hw hg a => word_at hW (good_of_word hg) (h1 w hw hg #[]), fun w hw hn => ?_, fun q hq2 => ?_, fun C hC => (h4 C hC).moved hW.alike, fun q hq2 => ((h5 q hq2).moved hW.alike).kept hq, fun q hq2 => ((h6 q hq2).moved hW.alike).kept hq, fun i j hi hj => ?_⟩
  · have h0 := h2 w hw hn
    cases w <;> first | exact va_Nw.warmF hW h0 | exact va_Nw.warmM hW h0 | exact va_Nw.warmC hW h0 | exact va_Nw.warmD hW h0 | cases hn
  · obtain ⟨a, e1, e2⟩ := h3 q hq2
    exact ⟨a, e1, e2.warm hW⟩
  · rw [hW.alike.findClass] at hi hj
    rw [hW.alike.assignable, hW.alike.assignable]
    exact h7 i j hi hj
section CDG
variable {cs : Nat → Value} {b0 : Nat} {s : State} {args : Array Value}
theorem cd_use (hG : cd_GL cs b0 s) {p : Nat} {w : Cond} (h : cd_w p w = true) : w.before args s = true := by
  unfold cd_w at h
  rw [Bool.and_eq_true] at h
  exact hG.1 w (cd_at_mem h.1) h.2 args
theorem cd_useF (hG : cd_GL cs b0 s) {p idx : Nat} {own C n d host : String} (h : cd_at p (.fieldLinkNest own idx C n d host) = true) : (Cond.fieldLinkNest own idx C n d host).before args s = true := va_Nw.use rfl (hG.2.1 _ (cd_at_mem h) rfl)
theorem cd_useM (hG : cd_GL cs b0 s) {p idx : Nat} {own host : String} {x : MethodName} (h : cd_at p (.methodLinkNest own idx x host) = true) : (Cond.methodLinkNest own idx x host).before args s = true := va_Nw.use rfl (hG.2.1 _ (cd_at_mem h) rfl)
theorem cd_mp_lt {u k : Nat} (h : (cd_mp u).1 = k) (hk : k ≠ 9) : u < 162 := by
  by_cases h1 : u < 162
  · exact h1
  · exfalso
    apply hk
    rw [← h]
    unfold cd_mp
    rw [List.getD_eq_getElem?_getD, List.getElem?_eq_none (by show 162 ≤ u; omega)]
    rfl
theorem cd_callee (hG : cd_GL cs b0 s) {y u v idx p kd : Nat} {own : String} (hu0 : u ≠ 0) (hkd : (cd_mp u).1 = kd) (h9 : kd ≠ 9) (hl : cd_link p own idx u v = true) : am_cc cd_t cd_yn cd_ws s args y u v ∧ am_lk cd_yn s args own idx u ∧
    (kd = 0 → (Cond.static (cd_yn u)).before args s = true) ∧ (kd = 1 → (Cond.instanceMethod (cd_yn u)).before args s = true ∧ (Cond.selects (cd_yn u).cls (cd_yn u) (cd_yn u)).before args s = true ∧ cd_nm (cd_mc u) = (cd_yn u).cls) ∧ (kd = 2 → (Cond.instanceMethod (cd_yn u)).before args s = true ∧ (cd_yn u).name = "<init>" ∧ cd_rtt u = none) := by
  have hm := cd_m u hu0 (cd_mp_lt hkd h9)
  unfold cd_mchk at hm
  unfold cd_link at hl
  simp only [Bool.and_eq_true, decide_eq_true_eq] at hm hl
  obtain ⟨m1, m2, m3, m4, m5, m6⟩ := hm
  obtain ⟨l1, l2⟩ := hl
  refine ⟨⟨fun w hw a' U hW => ?_, cd_use hG m2, ⟨m4, m5⟩, l2, Nat.le_of_ble_eq_true m3⟩, ?_, fun e => ?_, fun e => ?_, fun e => ?_⟩
  · unfold cd_ws at hw
    rw [if_neg hu0, List.mem_singleton] at hw
    subst hw
    have hg : goodWord (am_hc cd_t cd_yn cd_bt cd_rtt u) = true := by
      unfold cd_w at m1
      rw [Bool.and_eq_true] at m1
      exact m1.2
    exact word_at hW (good_of_word hg) (cd_use (args := #[]) hG m1)
  · rw [Bool.or_eq_true] at l1
    rcases l1 with l1 | l1
    · exact Or.inl (cd_use hG l1)
    · exact Or.inr ⟨_, cd_useM hG l1⟩
  · rw [hkd, e] at m6
    exact cd_use hG m6
  · rw [hkd, e] at m6
    simp only [Bool.and_eq_true, decide_eq_true_eq] at m6
    exact ⟨cd_use hG m6.1, cd_use hG m6.2.1, m6.2.2⟩
  · rw [hkd, e] at m6
    simp only [Bool.and_eq_true, decide_eq_true_eq, Option.isNone_iff_eq_none] at m6
    exact ⟨cd_use hG m6.1, m6.2.1, m6.2.2⟩
def cd_own (w : Cond) : Bool := (decide (w ∈ lw_tbl) && (goodWord w || cd_nest w)) || decide (w ∈ cd_ts.flatMap (fun q => [Cond.laysStatic q.1 q.2.1 q.2.2, Cond.isRef (.static q.1 q.2.1 q.2.2)]))
set_option maxRecDepth 100000 in
theorem cd_to : cd_tl.all (fun q => Bundle.fit q.2.2 && (Bundle.ownAtoms0 q.1 q.2.1 q.2.2 am_sup).all cd_own) = true := by decide +kernel
theorem cd_useN (hG : cd_GL cs b0 s) {w : Cond} (h : w ∈ lw_tbl) (hn : cd_nest w = true) : w.before args s = true := by
  have h0 := hG.2.1 w h hn
  cases w <;> first | exact va_Nw.use rfl h0 | cases hn
theorem cd_useT (hG : cd_GL cs b0 s) {own C : String} {ic : Nat} (h : (own, ic, C) ∈ cd_tl) : Bundle.fit C = true ∧ ∀ w ∈ Bundle.ownAtoms0 own ic C am_sup, w.before args s = true := by
  have h1 := List.all_eq_true.mp cd_to _ h
  rw [Bool.and_eq_true] at h1
  refine ⟨h1.1, fun w hw => ?_⟩
  have h2 := List.all_eq_true.mp h1.2 w hw
  unfold cd_own at h2
  rw [Bool.or_eq_true, Bool.and_eq_true, Bool.or_eq_true, decide_eq_true_eq, decide_eq_true_eq] at h2
  rcases h2 with ⟨h3, h4 | h4⟩ | h3
  · exact hG.1 w h3 h4 args
  · exact cd_useN hG h3 h4
  · obtain ⟨q, hq, hw⟩ := List.mem_flatMap.mp h3
    have hS := hG.2.2.2.2.2.1 q hq
    rcases List.mem_cons.mp hw with rfl | hw
    · exact hS.lays
    · rw [List.mem_singleton] at hw
      subst hw
      exact hS.ref
end CDG
end
section
section CDR
variable {cs : Nat → Value} {b0 : Nat} {s : State} {args : Array Value} {meth : Method}
theorem cd_words (hG : cd_GL cs b0 s) {k : Nat} {r : vw_C} (h : cd_cl[k]? = some r) : ∀ w ∈ u_ws r.1 r.2.1 r.2.2, w.before args s = true := by
  intro w hw
  obtain ⟨j, hj, rfl⟩ := List.mem_map.mp hw
  exact cd_use hG (cd_cls_f h (List.mem_range.mp hj)).1
theorem cd_I_mem {y pc u v : Nat} {i : Instr} (h : cd_I y pc = some (i, u, v)) : ∃ ps, (pc, i, u, v, ps) ∈ cd_rows.getD y [] := by
  unfold cd_I at h
  cases hf : (cd_rows.getD y []).find? (fun q => Nat.beq q.1 pc) with
  | none => rw [hf] at h; cases h
  | some q =>
    rw [hf] at h
    have h1 := List.mem_of_find?_eq_some hf
    have h2 := List.find?_some (p := fun q : Nat × Instr × Nat × Nat × List Nat => Nat.beq q.1 pc) hf
    obtain ⟨p1, i1, u1, v1, ps⟩ := q
    cases h
    have : p1 = pc := Nat.eq_of_beq_eq_true h2
    subst this
    exact ⟨ps, h1⟩
set_option maxHeartbeats 4000000 in
theorem cd_row {y pc u v : Nat} {i : Instr} (h : cd_I y pc = some (i, u, v)) (hG : cd_GL cs b0 s) (hmn : meth.name = (cd_yn y).name) :
    am_dec (cd_bt y) pc i ∧ am_fact cs cd_ft cd_df cd_ns cd_nm cd_cl b0 s args meth (cd_yn y).cls pc i u v ∧ am_cf cd_t cd_yn cd_rtt cd_ws s args y i u v ∧ am_ro i (cd_rtt y) ∧ (am_kind i u = 1 → u ≠ 0) := by
  obtain ⟨ps, hm⟩ := cd_I_mem h
  have hc := List.all_eq_true.mp (cd_k y) _ hm
  unfold cd_chk at hc
  rw [Bool.and_eq_true] at hc
  obtain ⟨hd, hc⟩ := hc
  refine ⟨am_decb_ok hd, ?_⟩
  dsimp only at hc
  cases i with
  | ldc idx =>
    refine ⟨?_, trivial, trivial, fun z => by cases z⟩
    obtain ⟨q, hq, e⟩ := List.mem_map.mp (of_decide_eq_true hc)
    obtain ⟨a, e1, e2⟩ := hG.2.2.1 q hq
    obtain ⟨q1, q2, q3, q4⟩ := q
    cases e
    exact ⟨q4, a, e1, e2⟩
  | getstatic idx =>
    dsimp only at hc
    refine ⟨?_, trivial, trivial, fun z => by cases z⟩
    split at hc
    · next z hz =>
      have h1 := List.mem_of_find?_eq_some hz
      have h2 : z.1 = u := Nat.eq_of_beq_eq_true (List.find?_some (p := fun z : Nat × String × String × String => Nat.beq z.1 u) hz)
      have h3 := hG.2.2.2.2.1 z h1
      rw [h2] at h3
      exact ⟨_, _, _, h3, cd_use hG hc⟩
    · cases hc
  | goto off =>
    have h9 : (pc : Int) + off = (u : Int) := of_decide_eq_true hc
    exact ⟨h9, trivial, trivial, fun z => by cases z⟩
  | ifCond cd off =>
    have h9 : (pc : Int) + off = (u : Int) := of_decide_eq_true hc
    exact ⟨h9, trivial, trivial, fun z => by cases z⟩
  | if_icmp cd off =>
    have h9 : (pc : Int) + off = (u : Int) := of_decide_eq_true hc
    exact ⟨h9, trivial, trivial, fun z => by cases z⟩
  | if_acmp cd off =>
    have h9 : (pc : Int) + off = (u : Int) := of_decide_eq_true hc
    exact ⟨h9, trivial, trivial, fun z => by cases z⟩
  | ifnull off =>
    have h9 : (pc : Int) + off = (u : Int) := of_decide_eq_true hc
    exact ⟨h9, trivial, trivial, fun z => by cases z⟩
  | ifnonnull off =>
    have h9 : (pc : Int) + off = (u : Int) := of_decide_eq_true hc
    exact ⟨h9, trivial, trivial, fun z => by cases z⟩
  | getfield idx =>
    dsimp only at hc
    refine ⟨?_, trivial, trivial, fun z => by cases z⟩
    dsimp only [am_fact]
    by_cases h50 : u = 50
    · rw [if_pos h50]
      subst h50
      have hc : (bif Nat.beq v 0 then cd_w (ps.getD 0 0) (.fieldLink (cd_yn y).cls idx "java/lang/String" "value" "[B") else cd_w (ps.getD 0 0) (.fieldLink (cd_yn y).cls idx "java/lang/String" "coder" "B")) = true := hc
      by_cases hv : v = 0
      · rw [if_pos hv]
        subst hv
        exact cd_use hG hc
      · rw [if_neg hv]
        rw [show Nat.beq v 0 = false from Bool.eq_false_iff.mpr fun z => hv (Nat.eq_of_beq_eq_true z)] at hc
        exact cd_use hG hc
    · rw [if_neg h50]
      rw [show Nat.beq u 50 = false from Bool.eq_false_iff.mpr fun z => h50 (Nat.eq_of_beq_eq_true z)] at hc
      dsimp only [cond_false] at hc
      split at hc
      · next r hr =>
        rw [Bool.and_eq_true, Bool.or_eq_true] at hc
        obtain ⟨C, T, N⟩ := r
        refine ⟨C, T, N, hr, cd_words hG hr, fun j hj => (cd_cls_f hr hj).2.1, Nat.ble_eq.mp hc.1, ?_⟩
        rcases hc.2 with h1 | h1
        · exact Or.inl (cd_use hG h1)
        · exact Or.inr ⟨_, cd_useF hG h1⟩
      · cases hc
  | putfield idx =>
    dsimp only at hc
    refine ⟨?_, trivial, trivial, fun z => by cases z⟩
    split at hc
    · next r hr =>
      rw [Bool.and_eq_true, Bool.or_eq_true, Bool.and_eq_true, Bool.and_eq_true, Bool.or_eq_true, Bool.and_eq_true, Bool.not_eq_true', decide_eq_true_eq, decide_eq_true_eq] at hc
      obtain ⟨C, T, N⟩ := r
      refine ⟨C, T, N, hr, cd_words hG hr, fun j hj => (cd_cls_f hr hj).2.1, Nat.ble_eq.mp hc.1, fun j hj => (cd_cls_f hr hj).2.2.1, fun a ha b hb hab => (cd_cls_f hr hb).2.2.2.2 a ha hab, ?_⟩
      rcases hc.2 with ⟨h1, h2⟩ | ⟨h1, h2⟩
      · refine Or.inl ⟨cd_use hG h1, ?_⟩
        cases hf : (T v).2.2.2 with
        | false => exact Or.inl rfl
        | true =>
          rcases h2 with h2 | h2
          · rw [hf] at h2
            cases h2
          · exact Or.inr ⟨rfl, hmn.trans h2.1, h2.2⟩
      · exact Or.inr ⟨h1, _, cd_useF hG h2⟩
    · cases hc
  | new idx =>
    dsimp only at hc
    refine ⟨?_, trivial, trivial, fun z => absurd z (by dsimp only [am_kind]; split <;> decide)⟩
    split at hc
    · next r hr =>
      rw [Bool.and_eq_true, Bool.and_eq_true, Bool.and_eq_true] at hc
      obtain ⟨C, T, N⟩ := r
      exact ⟨C, T, N, hr, cd_words hG hr, fun j hj => (cd_cls_f hr hj).2.2.1, cd_use hG hc.1, cd_use hG hc.2.1, cd_use hG hc.2.2.1, fun j hj => (cd_cls_f hr hj).2.2.2.1, cd_cls_df hr⟩
    · cases hc
  | newarray at_ => exact ⟨cd_use hG hc, trivial, trivial, fun z => by cases z⟩
  | anewarray idx =>
    rw [Bool.and_eq_true] at hc
    exact ⟨⟨cd_use hG hc.1, hG.2.2.2.1 _ (of_decide_eq_true hc.2)⟩, trivial, trivial, fun z => by cases z⟩
  | invokespecial idx =>
    by_cases h1 : u = 1000
    · subst h1
      have hc : (cd_w (ps.getD 0 0) (.methodLink (cd_yn y).cls idx objectInit) && (cd_w (ps.getD 1 0) (.instanceMethod objectInit) && cd_w (ps.getD 2 0) (.code objectInit ⟨#[0xb1]⟩ 1 none))) = true := hc
      rw [Bool.and_eq_true, Bool.and_eq_true] at hc
      exact ⟨fun _ => ⟨cd_use hG hc.1, cd_use hG hc.2.1, cd_use hG hc.2.2⟩, fun z => absurd z (by decide), trivial, fun _ => by decide⟩
    · rw [show Nat.beq u 1000 = false from Bool.eq_false_iff.mpr fun z => h1 (Nat.eq_of_beq_eq_true z)] at hc
      dsimp only [cond_false] at hc
      simp only [Bool.and_eq_true, List.isEmpty_iff] at hc
      obtain ⟨q1, q2, q3, q4, q5, q6⟩ := hc
      have hu0 : u ≠ 0 := by have := Nat.le_of_ble_eq_true q1; omega
      refine ⟨fun z => absurd z h1, fun hlt => ?_, trivial, fun _ => hu0⟩
      obtain ⟨c1, c2, -, -, c5⟩ := cd_callee (args := args) (y := y) hG hu0 (Nat.eq_of_beq_eq_true q3) (by decide) q4
      exact ⟨c1, c2, (c5 rfl).1, (c5 rfl).2.1, (c5 rfl).2.2, q5, q6⟩
  | invokestatic idx =>
    by_cases hb : 1000 < u
    · refine ⟨trivial, fun hlt => ?_, trivial, fun _ => by omega⟩
      omega
    · rw [show Nat.blt 1000 u = false from Bool.eq_false_iff.mpr fun z => hb (Nat.le_of_ble_eq_true z)] at hc
      dsimp only [cond_false] at hc
      simp only [Bool.and_eq_true, Bool.or_eq_true, List.isEmpty_iff] at hc
      obtain ⟨q1, q2, q3, q4, q5, q6⟩ := hc
      have hu0 : u ≠ 0 := by have := Nat.le_of_ble_eq_true q1; omega
      refine ⟨trivial, fun hlt => ?_, trivial, fun _ => hu0⟩
      obtain ⟨c1, c2, c3, -, -⟩ := cd_callee (args := args) (y := y) hG hu0 (Nat.eq_of_beq_eq_true q3) (by decide) q4
      exact ⟨c1, c2, c3 rfl, q5, q6.imp id fun z => cd_use hG z⟩
  | invokevirtual idx =>
    simp only [Bool.and_eq_true, Bool.or_eq_true, List.isEmpty_iff] at hc
    obtain ⟨q1, q2, q3, q4, q5, q6⟩ := hc
    have hu0 : u ≠ 0 := by have := Nat.le_of_ble_eq_true q1; omega
    refine ⟨trivial, fun hlt => ?_, trivial, fun _ => hu0⟩
    obtain ⟨c1, c2, -, c4, -⟩ := cd_callee (args := args) (y := y) hG hu0 (Nat.eq_of_beq_eq_true q3) (by decide) q4
    exact ⟨c1, c2, (c4 rfl).1, (c4 rfl).2.1, (c4 rfl).2.2, q5, q6.imp id fun z => cd_use hG z⟩
  | ireturn =>
    dsimp only at hc
    refine ⟨trivial, trivial, ?_, fun z => by cases z⟩
    intro z
    rw [z] at hc
    cases hc
  | areturn =>
    dsimp only at hc
    refine ⟨trivial, trivial, ?_, fun z => by cases z⟩
    intro z
    rw [z] at hc
    cases hc
  | return_ => exact ⟨trivial, trivial, Option.isNone_iff_eq_none.mp hc, fun z => by cases z⟩
  | _ => exact ⟨trivial, trivial, trivial, fun z => by cases z⟩
end CDR
theorem cd_I_lt {y pc : Nat} {x : Instr × Nat × Nat} (h : cd_I y pc = some x) : y < 162 := by
  obtain ⟨i, u, v⟩ := x
  obtain ⟨ps, hm⟩ := cd_I_mem h
  by_cases h1 : y < 162
  · exact h1
  · exfalso
    rw [List.getD_eq_getElem?_getD, List.getElem?_eq_none (by show 162 ≤ y; omega)] at hm
    cases hm
set_option maxRecDepth 100000 in
theorem cd_plain : (List.range 162).all (fun y => plainName (cd_yn y).cls) = true := by decide +kernel
set_option maxRecDepth 100000 in
theorem cd_hk : (List.range 162).all (fun y => (cd_hs y).all (fun h => Nat.ble 1 h.1.2.2.2 && (decide (Cond.classLink (cd_yn y).cls h.1.2.2.2 (cd_nm h.2) ∈ lw_tbl) && decide (h.2 = 12 ∨ h.2 = 13)))) = true := by decide +kernel
set_option maxRecDepth 100000 in
theorem cd_self : Cond.castable "java/lang/IllegalArgumentException" "java/lang/IllegalArgumentException" ∈ lw_tbl ∧ Cond.castable "java/lang/IllegalStateException" "java/lang/IllegalStateException" ∈ lw_tbl := by decide +kernel
theorem cd_selfA {s : State} {C : String} (h : va_Nw (.castable C C) s) {i j : ClassId} (hi : s.vm.findClass C = some i) (hj : s.vm.findClass C = some j) : s.vm.assignable i j = true := by
  cases hi.symm.trans hj
  have h1 : (Cond.castable C C).before #[] s = true := h
  simpa [Cond.before, Cond.holds, Cond.value, hi] using h1
theorem cd_thr {y pc u v : Nat} {i : Instr} (h : cd_I y pc = some (i, u, v)) (hk : am_kind i u = 3) : ∃ idx, i = .new idx ∧ cd_hs y = [] ∧ cd_ns u = 6 ∧ (∃ r : vw_C, cd_cl[u]? = some r ∧ r.2.2 = 0 ∧ ((cd_yn y).cls, v, r.1) ∈ cd_tl) ∧ am_dec (cd_bt y) pc (.new idx) ∧ am_dec (cd_bt y) (pc + 3) .dup ∧ am_dec (cd_bt y) (pc + 4) (.invokespecial v) ∧ am_dec (cd_bt y) (pc + 7) .athrow := by
  obtain ⟨ps, hm⟩ := cd_I_mem h
  have hc := List.all_eq_true.mp (cd_k y) _ hm
  unfold cd_chk at hc
  rw [Bool.and_eq_true] at hc
  obtain ⟨hd, hc⟩ := hc
  dsimp only at hc
  cases i with
  | new idx =>
    dsimp only at hc
    have h12 : 12 ≤ u := by
      dsimp only [am_kind] at hk
      split at hk
      · assumption
      · cases hk
    split at hc
    · next r hr =>
      rw [show Nat.ble 12 u = true from Nat.ble_eq.mpr h12] at hc
      dsimp only [cond_true] at hc
      simp only [Bool.and_eq_true, List.isEmpty_iff, decide_eq_true_eq] at hc
      obtain ⟨-, -, -, q1, q2, q3, q4, q5, q6, q7⟩ := hc
      exact ⟨idx, rfl, q1, Nat.eq_of_beq_eq_true q2, ⟨r, hr, Nat.eq_of_beq_eq_true q3, q7⟩, am_decb_ok hd, am_decb_ok q4, am_decb_ok q5, am_decb_ok q6⟩
    · cases hc
  | invokespecial idx =>
    dsimp only [am_kind] at hk
    split at hk <;> cases hk
  | _ => cases hk
theorem cd_good (cs : Nat → Value) (b0 : Nat) : am_good cd_t cs cd_cl b0 cd_yn cd_bt cd_rtt cd_ws (cd_GL cs b0) := by
  refine ⟨fun k r h => cd_cls_nm h, cd_mv cs b0, fun y pc x h => ?_, fun y pc i u v h s args meth hG hts hmn => ?_, fun y pc i u v h hk => ?_, fun y pc i u v h hk => ?_, fun y h hh => ?_⟩
  · have hy := cd_I_lt h
    refine ⟨by omega, fun h0 => ⟨[], ?_⟩, List.all_eq_true.mp cd_plain y (List.mem_range.mpr hy), fun ty ht => ?_⟩
    · unfold cd_ws
      rw [if_neg h0]
    · show (cd_rtt y).getD .int = ty
      rw [ht]
      rfl
  · obtain ⟨a1, a2, a3, a4, -⟩ := cd_row (args := args) h hG hmn
    exact ⟨a1, a2, a3, a4⟩
  · obtain ⟨ps, hm⟩ := cd_I_mem h
    have hc := List.all_eq_true.mp (cd_k y) _ hm
    unfold cd_chk at hc
    rw [Bool.and_eq_true] at hc
    obtain ⟨-, hc⟩ := hc
    dsimp only at hc
    cases i with
    | invokespecial idx =>
      by_cases h1 : u = 1000
      · rw [h1]; decide
      · rw [show Nat.beq u 1000 = false from Bool.eq_false_iff.mpr fun z => h1 (Nat.eq_of_beq_eq_true z)] at hc
        dsimp only [cond_false] at hc
        rw [Bool.and_eq_true] at hc
        have := Nat.le_of_ble_eq_true hc.1
        omega
    | invokestatic idx =>
      by_cases hb : 1000 < u
      · omega
      · rw [show Nat.blt 1000 u = false from Bool.eq_false_iff.mpr fun z => hb (Nat.le_of_ble_eq_true z)] at hc
        dsimp only [cond_false] at hc
        rw [Bool.and_eq_true] at hc
        have := Nat.le_of_ble_eq_true hc.1
        omega
    | invokevirtual idx =>
      rw [Bool.and_eq_true] at hc
      have := Nat.le_of_ble_eq_true hc.1
      omega
    | new idx =>
      dsimp only [am_kind] at hk
      split at hk <;> cases hk
    | _ => cases hk
  · obtain ⟨idx, rfl, hh, h6, ⟨⟨C, T, N⟩, hr, hN, htl⟩, d0, d3, d4, d7⟩ := cd_thr h hk
    have hN : N = 0 := hN
    subst hN
    have hC : C = cd_nm u := cd_cls_nm hr
    subst hC
    refine ⟨idx, T, rfl, hh, h6, hr, fun s args hG => ?_⟩
    obtain ⟨f1, f2⟩ := cd_useT (args := args) hG htl
    obtain ⟨ps, hm⟩ := cd_I_mem h
    have hc := List.all_eq_true.mp (cd_k y) _ hm
    unfold cd_chk at hc
    rw [Bool.and_eq_true] at hc
    obtain ⟨-, hc⟩ := hc
    dsimp only at hc
    rw [hr] at hc
    dsimp only at hc
    rw [Bool.and_eq_true, Bool.and_eq_true, Bool.and_eq_true] at hc
    exact ⟨am_dec1 d0 rfl, am_dec1 d3 rfl, am_dec1 d4 rfl, am_dec1 d7 rfl, cd_use hG hc.1, cd_use hG hc.2.2.1, f1, f2⟩
  · have hy : y < 162 := by
      by_cases h1 : y < 162
      · exact h1
      · exfalso
        have h9 : h ∈ cd_hsL.getD y [] := hh
        rw [List.getD_eq_getElem?_getD, List.getElem?_eq_none (by show 162 ≤ y; omega)] at h9
        cases h9
    have h1 := List.all_eq_true.mp (List.all_eq_true.mp cd_hk y (List.mem_range.mpr hy)) h hh
    rw [Bool.and_eq_true, Bool.and_eq_true, decide_eq_true_eq, decide_eq_true_eq] at h1
    obtain ⟨g1, g2, g3⟩ := h1
    refine ⟨by have := Nat.le_of_ble_eq_true g1; omega, ?_, fun s args hG => ⟨hG.1 _ g2 rfl args, fun c r h12 hr i j hi hj => ?_⟩⟩
    · rcases g3 with e | e <;> rw [e] <;> exact ⟨_, rfl⟩
    · have hc : c = 12 ∨ c = 13 := by
        have : c < 14 := (List.getElem?_eq_some_iff.mp hr).1
        omega
      have hA := hG.2.1 _ cd_self.1 rfl
      have hS := hG.2.1 _ cd_self.2 rfl
      rcases hc with rfl | rfl <;> rcases g3 with e | e <;> rw [e] at hj ⊢
      · rw [cd_selfA hA hi hj]; rfl
      · rw [(hG.2.2.2.2.2.2 j i hj hi).2]; rfl
      · rw [(hG.2.2.2.2.2.2 i j hi hj).1]; rfl
      · rw [cd_selfA hS hi hj]; rfl
/-- the library's members -/
theorem cd_bok (cs : Nat → Value) (b0 : Nat) (D : va_G) (l : Launch) : am_bok cd_t cs D cd_cl b0 cd_yn cd_bt cd_ws (cd_GL cs b0) l := by
  intro d y pc lv σ σ1 top sl res i u v as rest r hI hu hd0 hcall hbi hsum p e R s m args below meth c Q c0 s0 hcx hm1 hm2 k
  obtain ⟨hx, hb, hml, hown, hts, hgl, hmn, hfr, hlo, hr1, hr2, htab, hlk⟩ := hcx
  obtain ⟨ps, hm⟩ := cd_I_mem hI
  have hc := List.all_eq_true.mp (cd_k y) _ hm
  unfold cd_chk at hc
  rw [Bool.and_eq_true] at hc
  obtain ⟨hd, hc⟩ := hc
  have hdec := am_decb_ok hd
  dsimp only at hc
  cases i with
  | invokestatic idx =>
    rw [show Nat.blt 1000 u = true from Nat.ble_eq.mpr hu] at hc
    dsimp only [cond_true] at hc
    by_cases h3 : u = 1003
    · subst h3
      have hc : (Nat.beq v 2 && (cd_w (ps.getD 0 0) (.methodLink (cd_yn y).cls idx Lib.Math.min.name) && (cd_w (ps.getD 1 0) (.static Lib.Math.min.name) && (cd_w (ps.getD 2 0) (.initialized "java/lang/Math") && cd_w (ps.getD 3 0) (.code Lib.Math.min.name Lib.Math.min.code 2 (some .int)))))) = true := hc
      simp only [Bool.and_eq_true] at hc
      obtain ⟨-, q1, q2, q3, q4⟩ := hc
      unfold am_bi at hbi
      split at hbi
      · next x1 y1 =>
        cases hbi
        exact am_w_min hx hb hml hown (cd_use hgl q1) (cd_use hgl q2) (cd_use hgl q3) (cd_use hgl q4) (am_dec1 hdec rfl) (by omega) hsum (by omega) (Nat.le_trans hm1 hr1) (Nat.le_trans hm2 hr2) k
      · omega
      · cases hbi
    · rw [show Nat.beq u 1003 = false from Bool.eq_false_iff.mpr fun z => h3 (Nat.eq_of_beq_eq_true z)] at hc
      dsimp only [cond_false] at hc
      simp only [Bool.and_eq_true] at hc
      obtain ⟨q0, -, q1, q2, q3, q4⟩ := hc
      obtain rfl : u = 1004 := Nat.eq_of_beq_eq_true q0
      have hnw : nativeFrameWords "java/lang/System" "arraycopy" 5 ≤ 45 := by decide +kernel
      unfold am_bi at hbi
      split at hbi
      · omega
      · next a sp b dp n _ =>
        split at hbi
        · next n0 f n1 g ha hb' =>
          split at hbi
          · cases hbi
          · next hcnd =>
            cases hbi
            exact am_w_copy hx hb hml hown (cd_use hgl q1) (cd_use hgl q2) (cd_use hgl q3) (cd_use hgl q4) (am_dec1 hdec rfl) (by omega) hsum (by omega) ha hb' (fun z => hcnd (Or.inl z)) (fun z => hcnd (Or.inr (Or.inl z))) (fun z => hcnd (Or.inr (Or.inr (Or.inl z)))) (by have := fun z => hcnd (Or.inr (Or.inr (Or.inr (Or.inl z)))); omega) (by have := fun z => hcnd (Or.inr (Or.inr (Or.inr (Or.inr z)))); omega) k
        · cases hbi
      · cases hbi
  | invokespecial idx =>
    rw [show Nat.beq u 1000 = false from Bool.eq_false_iff.mpr fun z => by have := Nat.eq_of_beq_eq_true z; omega] at hc
    dsimp only [cond_false] at hc
    simp only [Bool.and_eq_true] at hc
    have := Nat.le_of_ble_eq_true hc.2.1
    omega
  | invokevirtual idx =>
    simp only [Bool.and_eq_true] at hc
    have := Nat.le_of_ble_eq_true hc.2.1
    omega
  | _ => exact absurd (show (none : Option (List Value × List Value)) = some (as, rest) from hcall) (fun z => by cases z)
end
section
/-! the law's start: what its tables and its heap say, in the abstract machine's words -/
abbrev cd_fl : List Cond := flatC (Jvm.Cond.and given_1 narrow_1)
def cd_tm (i : Nat) : Term := [Term.string "ChainDesk$DeclarationReader" 44, Term.string "ChainDesk$DeclarationReader" 50, Term.string "ChainDesk$DeclarationReader" 88, Term.string "ChainDesk$Completer" 124].getD i .null
def cd_len : List Nat := [8, 4, 7, 4]
def cd_byt : List (List Int32) := [[112, 114, 105, 118, 97, 116, 101, 32], [110, 101, 119, 40], [115, 116, 97, 116, 105, 99, 32], [110, 101, 119, 32]]
def cd_cs (ad adK : Nat → Nat) (w : Value) (k : Nat) : Value := match k with
  | 0 => .ref (ad 0)
  | 1 => .ref (ad 1)
  | 2 => .ref (ad 2)
  | 3 => .int 1
  | 4 => w
  | k + 5 => .ref (adK (k - 5))
set_option maxRecDepth 100000 in
theorem cd_f1 : ∀ i, i < 4 → Cond.exactly (cd_tm i) "java/lang/String" ∈ cd_fl := by decide +kernel
set_option maxRecDepth 100000 in
theorem cd_f2 : ∀ i, i < 4 → Cond.eq (.field (cd_tm i) "java/lang/String" "coder" "B") (.int 0) ∈ cd_fl := by decide +kernel
set_option maxRecDepth 100000 in
theorem cd_f3 : ∀ i, i < 4 → Cond.arrayOf (.field (cd_tm i) "java/lang/String" "value" "[B") .byte ∈ cd_fl := by decide +kernel
set_option maxRecDepth 100000 in
theorem cd_f4 : ∀ i, i < 4 → Cond.eq (.length (.field (cd_tm i) "java/lang/String" "value" "[B")) (.int (Int32.ofNat (cd_len.getD i 0))) ∈ cd_fl := by decide +kernel
set_option maxRecDepth 100000 in
theorem cd_f5 : ∀ i, i < 4 → ∀ j, j < cd_len.getD i 0 → Cond.eq (.elem (.field (cd_tm i) "java/lang/String" "value" "[B") (.int (Int32.ofNat j))) (.int ((cd_byt.getD i []).getD j 0)) ∈ cd_fl := by decide +kernel
set_option maxRecDepth 100000 in
theorem cd_f6 : ∀ i, i < 4 → ∀ j, j < 4 → i ≠ j → Cond.not (Cond.eq (cd_tm i) (cd_tm j)) ∈ cd_fl ∨ Cond.not (Cond.eq (cd_tm j) (cd_tm i)) ∈ cd_fl := by decide +kernel
def cd_kn : List String := ["FIELD", "METHOD", "MAKER"]
set_option maxRecDepth 100000 in
theorem cd_f7 : ∀ i, i < cd_kn.length → Cond.laysStatic "ChainDesk$Kind" (cd_kn.getD i "") "LChainDesk$Kind;" ∈ lw_tbl := by decide +kernel
set_option maxRecDepth 100000 in
theorem cd_f8 : ∀ i, i < cd_kn.length → Cond.exactly (.static "ChainDesk$Kind" (cd_kn.getD i "") "LChainDesk$Kind;") "ChainDesk$Kind" ∈ cd_fl := by decide +kernel
set_option maxRecDepth 100000 in
theorem cd_f9 : ∀ i, i < cd_kn.length → ∀ j, j < cd_kn.length → i ≠ j → Cond.not (.eq (.static "ChainDesk$Kind" (cd_kn.getD i "") "LChainDesk$Kind;") (.static "ChainDesk$Kind" (cd_kn.getD j "") "LChainDesk$Kind;")) ∈ cd_fl ∨ Cond.not (.eq (.static "ChainDesk$Kind" (cd_kn.getD j "") "LChainDesk$Kind;") (.static "ChainDesk$Kind" (cd_kn.getD i "") "LChainDesk$Kind;")) ∈ cd_fl := by decide +kernel
set_option maxRecDepth 100000 in
theorem cd_f10 : Cond.initialized "ChainDesk$Kind" ∈ lw_tbl ∧ Cond.initialized "java/lang/String" ∈ lw_tbl ∧ Cond.initialized "jdk/internal/util/Preconditions" ∈ lw_tbl ∧ Cond.laysStatic "java/lang/String" "COMPACT_STRINGS" "Z" ∈ lw_tbl ∧ Cond.laysStatic "jdk/internal/util/Preconditions" "SIOOBE_FORMATTER" "Ljava/util/function/BiFunction;" ∈ lw_tbl := by decide +kernel
set_option maxRecDepth 100000 in
theorem cd_f11 : Cond.eq (.static "java/lang/String" "COMPACT_STRINGS" "Z") (.int 1) ∈ cd_fl ∧ Cond.isRef (.static "jdk/internal/util/Preconditions" "SIOOBE_FORMATTER" "Ljava/util/function/BiFunction;") ∈ cd_fl ∧ Cond.not (.castable "java/lang/IllegalStateException" "java/lang/IllegalArgumentException") ∈ cd_fl ∧ Cond.not (.castable "java/lang/IllegalArgumentException" "java/lang/IllegalStateException") ∈ cd_fl ∧ Cond.eq (.string "ChainDesk$Completer" 124) (.string "ChainDesk$ExpressionReader" 48) ∈ cd_fl := by decide +kernel
set_option maxRecDepth 100000 in
theorem cd_f12 : ∀ q ∈ cd_ts, Cond.laysStatic q.1 q.2.1 q.2.2 ∈ lw_tbl ∧ Cond.isRef (.static q.1 q.2.1 q.2.2) ∈ cd_fl := by decide +kernel
set_option maxRecDepth 100000 in
theorem cd_f13 : ∀ C ∈ cd_ao, Cond.arrayOver (.object C) ∈ lw_tbl := by decide +kernel
set_option maxRecDepth 100000 in
theorem cd_f14 : ∀ q ∈ cd_sr, Cond.stringRef q.1 q.2.1 q.2.2.2 ∈ lw_tbl := by decide +kernel
set_option maxRecDepth 100000 in
theorem cd_f15 : ∀ k, k < 14 → Cond.instantiable (cd_nm k) (cd_ns k) ∈ lw_tbl := by decide +kernel
theorem cd_nocast {args : Array Value} {s : State} {A B : String} (h : (Cond.not (.castable A B)).before args s = true) {i j : ClassId} (hi : s.vm.findClass A = some i) (hj : s.vm.findClass B = some j) : s.vm.assignable i j = false := by
  simpa [Cond.before, Cond.holds, Cond.value, hi, hj] using h
theorem cd_eqr {args : Array Value} {s : State} {t u : Term} {a : Nat} (h : (Cond.eq t u).before args s = true) (ht : t.eval args s none [] s = some (.ref a)) : u.eval args s none [] s = some (.ref a) := by
  cases hv : u.eval args s none [] s with
  | none => simp [Cond.before, Cond.holds, Cond.value, ht, hv] at h
  | some w =>
    simp only [Cond.before, Cond.holds, Cond.value, ht, hv] at h
    cases w <;> simp_all
/-- the length of a constant text's bytes, as the machine has it -/
theorem cd_size {args : Array Value} {s : State} {t : Term} {a : Nat} {cell : Cell} {z : Int32} (h : (Cond.eq (.length t) (.int z)).before args s = true) (ht : t.eval args s none [] s = some (.ref a)) (hc : s.heap[a]? = some cell) : cell.slots.size < 2 ^ 31 := by
  have h1 := va_eqt h
  simp only [Term.eval, ht, Option.bind_eq_bind, Option.bind_some] at h1
  cases ha : s.arrayAt? a with
  | none => simp [ha] at h1
  | some c2 =>
    obtain ⟨hcb, -⟩ := State.arrayAt?_spec ha
    cases hc.symm.trans hcb
    simp only [ha, Option.bind_some] at h1
    split at h1
    · assumption
    · cases h1
/-- the script, the texts and their bytes -/
noncomputable def cd_s0 (b L : Nat) (xs : Nat → Int32) (adK adV : Nat → Nat) : am_H := fun q =>
  if q = b then some (.inr (.inr (0, L, xs)))
  else @dite _ (∃ i, i < 4 ∧ adV i = q) (Classical.propDecidable _) (fun h => some (.inr (.inr (2, cd_len.getD h.choose 0, fun j => (cd_byt.getD h.choose []).getD j 0)))) (fun _ =>
    @dite _ (∃ i, i < 4 ∧ adK i = q) (Classical.propDecidable _) (fun h => some (.inr (.inr (1, adV h.choose, fun _ => 0)))) (fun _ => none))
theorem cd_l31 : ∀ i, i < 4 → cd_len.getD i 0 < 2 ^ 31 := by decide
/-- what is known where the law begins -/
def cd_ini (b L : Nat) (xs : Nat → Int32) (ad adK adV : Nat → Nat) (w : Value) (b0 : Nat) (σ : am_H) : Prop :=
  L ≤ 1536 ∧ (w = .null ∨ ∃ t, w = .ref t) ∧ (∀ i j, i < 3 → j < 3 → ad i = ad j → i = j) ∧ b < b0 ∧ (∀ i, i < 4 → adK i < b0 ∧ adV i < b0) ∧ σ b = some (.inr (.inr (0, L, xs))) ∧
  (∀ i, i < 4 → σ (adK i) = some (.inr (.inr (1, adV i, fun _ => 0))) ∧ σ (adV i) = some (.inr (.inr (2, cd_len.getD i 0, fun j => (cd_byt.getD i []).getD j 0)))) ∧ ∀ q e, σ q = some e → q < b0
/-- what is left, of the abstract machine alone: the law answers 1, in its room -/
def cd_claim : Prop := ∀ (b L : Nat) (xs : Nat → Int32) (ad adK adV : Nat → Nat) (w : Value) (b0 : Nat) (σ : am_H), cd_ini b L xs ad adK adV w b0 σ →
  ∃ σ' top' sl', am_to cd_t (cd_cs ad adK w) 1312 0 0 (am_ent 7 [.ref b]) [] σ b0 0 (.inl (some (.int 1)), σ', top', sl') ∧ top' ≤ b0 + 601024 ∧ sl' ≤ 7293034
section CDS
variable {p : Program} {s : State} {m : MethodId} {meth : Method} {c : Code} {b L : Nat} {xs : Nat → Int32}
theorem cd_begin (hL : L ≤ 1536) (hts : ∀ w ∈ lw_tbl, w.before #[Value.ref b] s = true) (hX : va_X b L xs s s.heap) (hb : b < s.heap.size) (hgv : (Jvm.Cond.and given_1 narrow_1).before #[Value.ref b] s = true) :
    ∃ (ad adK adV : Nat → Nat) (w : Value) (D : va_G) (σ : am_H), cd_ini b L xs ad adK adV w s.heap.size σ ∧ cd_GL (cd_cs ad adK w) s.heap.size s ∧ am_dy D cd_cl s.heap.size s σ s.heap.size s.heap := by
  have hs := flat_of_before _ hgv
  have hA : ∀ a : Nat, a < s.heap.size → ¬ s.heap.size ≤ a := fun a h => by omega
  obtain ⟨adK, adV, hS, hev⟩ := vk_Sof (args := #[Value.ref b]) (s := s) (N := 4) (tm := cd_tm) (len := cd_len) (byt := cd_byt) (A := fun q => s.heap.size ≤ q) (by decide) (fun i hi => hs _ (cd_f1 i hi)) (fun i hi => hs _ (cd_f2 i hi)) (fun i hi => hs _ (cd_f3 i hi)) (fun i hi => hs _ (cd_f4 i hi)) (fun i hi j hj => hs _ (cd_f5 i hi j hj)) (fun i j hi hj hij => (cd_f6 i hi j hj hij).imp (hs _) (hs _)) hA
  obtain ⟨ad, hE, -⟩ := va_Enof2 (args := #[Value.ref b]) (s := s) (E := "ChainDesk$Kind") (d := "LChainDesk$Kind;") (nm := cd_kn) (F := []) (A := fun q => s.heap.size ≤ q) (fun i hi => hts _ (cd_f7 i hi)) (hts _ cd_f10.1) (fun i hi => hs _ (cd_f8 i hi)) (fun q hq => by cases hq) (fun i j hi hj hij => (cd_f9 i hi j hj hij).imp (hs _) (hs _)) hA
  have hC : va_Z "java/lang/String" "COMPACT_STRINGS" "Z" (.int 1) (fun q => s.heap.size ≤ q) s s.heap := va_Zof (hts _ cd_f10.2.2.2.1) (hts _ cd_f10.2.1) (va_eqi (hs _ cd_f11.1)) hA
  obtain ⟨w, hw, hZ⟩ : ∃ w : Value, (w = .null ∨ ∃ t, w = .ref t) ∧ va_Z "jdk/internal/util/Preconditions" "SIOOBE_FORMATTER" "Ljava/util/function/BiFunction;" w (fun q => s.heap.size ≤ q) s s.heap := by
    rcases va_Zqof (A := fun q => s.heap.size ≤ q) (hts _ cd_f10.2.2.2.2) (hts _ cd_f10.2.2.1) (hs _ cd_f11.2.1) hA with h | ⟨t, h⟩
    · exact ⟨_, Or.inl rfl, h⟩
    · exact ⟨_, Or.inr ⟨t, rfl⟩, h⟩
  have hcellV : ∀ i, i < 4 → ∃ cell : Cell, s.heap[adV i]? = some cell ∧ s.isArrayOf cell .byte ∧ cell.slots.size = cd_len.getD i 0 ∧ ∀ j, j < cd_len.getD i 0 → cell.slots[j]? = some (.int ((cd_byt.getD i []).getD j 0)) := by
    intro i hi
    obtain ⟨cell, h1, h2, h3, h4, h5, h6, h7⟩ := (hS.1 i hi).2.2.2
    obtain ⟨cf, k, fi, f, cellK, g1, g2, g3, g4, g5, g6⟩ := (hS.1 i hi).2.2.1
    have hfe : (Term.field (cd_tm i) "java/lang/String" "value" "[B").eval #[Value.ref b] s none [] s = some (.ref (adV i)) := by
      obtain ⟨t, ht, hT⟩ := va_Tof (f := fun j => .int ((cd_byt.getD i []).getD j 0)) (A := fun q => s.heap.size ≤ q) (cd_l31 i hi) (hs _ (cd_f3 i hi)) (va_eqt (hs _ (cd_f4 i hi))) (fun j hj => va_eqt (hs _ (cd_f5 i hi j hj))) hA
      obtain ⟨cf2, k2, fi2, f2, cell2, e1, e2, e3, e4, e5, e6⟩ := vk_OFof (hev i hi) ht hA
      cases g1.symm.trans e1
      cases g3.symm.trans e3
      cases g5.symm.trans e5
      exact ht
    have hsz := cd_size (hs _ (cd_f4 i hi)) hfe h1
    refine ⟨cell, h1, h2, ?_, h6⟩
    have hl := cd_l31 i hi
    have h9 : Int32.ofNat cell.slots.size = Int32.ofNat (cd_len.getD i 0) := h5
    have h10 := congrArg Int32.toNatClampNeg h9
    rw [Int32.toNatClampNeg_ofNat_of_lt hsz, Int32.toNatClampNeg_ofNat_of_lt hl] at h10
    exact h10
  have hcellK : ∀ i, i < 4 → ∃ (cell : Cell) (k : Nat), s.heap[adK i]? = some cell ∧ cell.slots[k]? = some (.ref (adV i)) := by
    intro i hi
    obtain ⟨cf, k, fi, f, cellK, g1, g2, g3, g4, g5, g6⟩ := (hS.1 i hi).2.2.1
    exact ⟨cellK, f.slot, g3, g5⟩
  have hltK : ∀ i, i < 4 → adK i < s.heap.size := fun i hi => by
    obtain ⟨cell, k, h1, -⟩ := hcellK i hi
    exact (Array.getElem?_eq_some_iff.mp h1).1
  have hltV : ∀ i, i < 4 → adV i < s.heap.size := fun i hi => by
    obtain ⟨cell, h1, -⟩ := hcellV i hi
    exact (Array.getElem?_eq_some_iff.mp h1).1
  have hVK : ∀ i j, i < 4 → j < 4 → adV i ≠ adK j := by
    intro i j hi hj e
    obtain ⟨cell, h1, h2, h3, h4⟩ := hcellV i hi
    obtain ⟨cellK, k, g1, g2⟩ := hcellK j hj
    rw [e] at h1
    cases h1.symm.trans g1
    have hk : k < cd_len.getD i 0 := by rw [← h3]; exact (Array.getElem?_eq_some_iff.mp g2).1
    cases (h4 k hk).symm.trans g2
  have hVb : ∀ i, i < 4 → adV i ≠ b := by
    intro i hi e
    obtain ⟨cell, h1, ⟨-, k, hk, comp, hkk⟩, -⟩ := hcellV i hi
    obtain ⟨scr, g1, ⟨-, k', hk', comp', hkk'⟩, -⟩ := hX
    rw [e] at h1
    cases h1.symm.trans g1
    cases hk.symm.trans hk'
    cases hkk.symm.trans hkk'
  have hKb : ∀ i, i < 4 → adK i ≠ b := by
    intro i hi e
    obtain ⟨cellK, k, h1, h2⟩ := hcellK i hi
    obtain ⟨scr, g1, -, -, g4, g5⟩ := hX
    rw [e] at h1
    cases h1.symm.trans g1
    have hk : k < L := by rw [← g4]; exact (Array.getElem?_eq_some_iff.mp h2).1
    cases (g5 k hk).symm.trans h2
  have hbyt : ∀ i, i < 4 → ∀ j, j < 4 → cd_len.getD i 0 = cd_len.getD j 0 → (∀ k, k < cd_len.getD i 0 → (cd_byt.getD i []).getD k 0 = (cd_byt.getD j []).getD k 0) → i = j := by decide +kernel
  have hVV : ∀ i j, i < 4 → j < 4 → adV i = adV j → i = j := by
    intro i j hi hj e
    obtain ⟨cell, h1, h2, h3, h4⟩ := hcellV i hi
    obtain ⟨cell', g1, g2, g3, g4⟩ := hcellV j hj
    rw [e] at h1
    cases h1.symm.trans g1
    refine hbyt i hi j hj (h3.symm.trans g3) fun k hk => ?_
    have e1 := h4 k hk
    have e2 := g4 k (by rw [← g3, h3]; exact hk)
    exact Value.int.inj (Option.some.inj (e1.symm.trans e2))
  have sb : cd_s0 b L xs adK adV b = some (.inr (.inr (0, L, xs))) := by
    unfold cd_s0
    rw [if_pos rfl]
  have sV : ∀ i, i < 4 → cd_s0 b L xs adK adV (adV i) = some (.inr (.inr (2, cd_len.getD i 0, fun j => (cd_byt.getD i []).getD j 0))) := by
    intro i hi
    unfold cd_s0
    have h : ∃ i', i' < 4 ∧ adV i' = adV i := ⟨i, hi, rfl⟩
    have e : h.choose = i := hVV _ _ h.choose_spec.1 hi h.choose_spec.2
    rw [if_neg (hVb i hi), dif_pos h, e]
  have sK : ∀ i, i < 4 → cd_s0 b L xs adK adV (adK i) = some (.inr (.inr (1, adV i, fun _ => 0))) := by
    intro i hi
    unfold cd_s0
    have h : ∃ i', i' < 4 ∧ adK i' = adK i := ⟨i, hi, rfl⟩
    have e : h.choose = i := hS.2 _ _ h.choose_spec.1 hi h.choose_spec.2
    have hn : ¬ ∃ i', i' < 4 ∧ adV i' = adK i := fun ⟨i', h1, h2⟩ => hVK i' i h1 hi h2
    rw [if_neg (hKb i hi), dif_neg hn, dif_pos h, e]
  have sI : ∀ q e, cd_s0 b L xs adK adV q = some e → (q = b ∧ e = .inr (.inr (0, L, xs))) ∨ (∃ i, i < 4 ∧ q = adV i ∧ e = .inr (.inr (2, cd_len.getD i 0, fun j => (cd_byt.getD i []).getD j 0))) ∨ ∃ i, i < 4 ∧ q = adK i ∧ e = .inr (.inr (1, adV i, fun _ => 0)) := by
    intro q e h
    unfold cd_s0 at h
    split at h
    · next hq => cases h; exact Or.inl ⟨hq, rfl⟩
    · split at h
      · next hq => cases h; exact Or.inr (Or.inl ⟨_, hq.choose_spec.1, hq.choose_spec.2.symm, rfl⟩)
      · split at h
        · next hq => cases h; exact Or.inr (Or.inr ⟨_, hq.choose_spec.1, hq.choose_spec.2.symm, rfl⟩)
        · cases h
  have hcl : ∀ k : Nat, ∃ q : ClassId × (Nat → Nat), ∀ r : vw_C, cd_cl[k]? = some r → u_Kn s r.1 r.2.1 r.2.2 q.1 q.2 := by
    intro k
    cases hr : cd_cl[k]? with
    | none => exact ⟨(0, fun _ => 0), fun r h => by cases h⟩
    | some r =>
      have hk : k < 14 := (List.getElem?_eq_some_iff.mp hr).1
      have hi := hts _ (cd_f15 k hk)
      rw [← cd_cls_nm hr] at hi
      obtain ⟨cC, iS, h⟩ := u_known (C := r.1) (T := r.2.1) (N := r.2.2) hts (fun w hw => by
        obtain ⟨j, hj, rfl⟩ := List.mem_map.mp hw
        have h1 := (cd_cls_f hr (List.mem_range.mp hj)).1
        unfold cd_w at h1
        rw [Bool.and_eq_true] at h1
        exact cd_at_mem h1.1) hi
      exact ⟨(cC, iS), fun r' hr' => by cases hr'; exact h⟩
  obtain ⟨D0, hD0⟩ := Classical.axiomOfChoice hcl
  refine ⟨ad, adK, adV, w, (fun k => (D0 k).1, fun k => (D0 k).2), cd_s0 b L xs adK adV, ⟨hL, hw, fun i j hi hj => hE.2 i j hi hj, hb, fun i hi => ⟨hltK i hi, hltV i hi⟩, sb, fun i hi => ⟨sK i hi, sV i hi⟩, fun q e h => ?_⟩, ?_, ?_⟩
  · rcases sI q e h with ⟨rfl, -⟩ | ⟨i, hi, rfl, -⟩ | ⟨i, hi, rfl, -⟩
    · exact hb
    · exact hltV i hi
    · exact hltK i hi
  · refine ⟨fun w' hw' hg a => word_at (State.WarmedH.refl s) (good_of_word hg) (hts w' hw'), fun w' hw' hn => ?_, fun q hq => ?_, fun C hC2 => va_AO.of (hts _ (cd_f13 C hC2)), fun q hq => ?_, fun q hq => ?_, fun i j hi hj => ⟨cd_nocast (hs _ cd_f11.2.2.1) hi hj, cd_nocast (hs _ cd_f11.2.2.2.1) hj hi⟩⟩
    · have h0 := hts w' hw'
      cases w' <;> first | exact va_Nw.of rfl h0 | cases hn
    · have h1 := hts _ (cd_f14 q hq)
      have e0 := hev 0 (by decide)
      have e1 := hev 1 (by decide)
      have e2 := hev 2 (by decide)
      have e3 := hev 3 (by decide)
      have e4 := cd_eqr (hs _ cd_f11.2.2.2.2) e3
      unfold cd_sr at hq
      simp only [List.mem_cons, List.not_mem_nil, or_false] at hq
      rcases hq with rfl | rfl | rfl | rfl | rfl
      · exact ⟨adK 0, rfl, vk_R.of h1 e0⟩
      · exact ⟨adK 1, rfl, vk_R.of h1 e1⟩
      · exact ⟨adK 2, rfl, vk_R.of h1 e2⟩
      · exact ⟨adK 3, rfl, vk_R.of h1 e3⟩
      · exact ⟨adK 3, rfl, vk_R.of h1 e4⟩
    · unfold cd_st at hq
      simp only [List.mem_cons, List.not_mem_nil, or_false] at hq
      rcases hq with rfl | rfl | rfl | rfl | rfl
      · exact (hE.1 0 (by decide)).1
      · exact (hE.1 1 (by decide)).1
      · exact (hE.1 2 (by decide)).1
      · exact hC
      · exact hZ
    · exact cd_Sof (hts _ (cd_f12 q hq).1) (hs _ (cd_f12 q hq).2) hA
  · refine ⟨rfl, Nat.le_refl _, [], ⟨fun k r hr => hD0 k r hr, fun k q hq => by cases hq⟩, fun q e h => ?_⟩
    rcases sI q e h with ⟨rfl, rfl⟩ | ⟨i, hi, rfl, rfl⟩ | ⟨i, hi, rfl, rfl⟩
    · exact ⟨hb, hb, hX⟩
    · exact ⟨hltV i hi, hltV i hi, (hS.1 i hi).2.2.2⟩
    · exact ⟨hltK i hi, hltK i hi, (hS.1 i hi).1, (hS.1 i hi).2.1, (hS.1 i hi).2.2.1⟩
end CDS
end
section
/-- the law's walk, out of the abstract machine's run -/
theorem cd_start (H : cd_claim) {p : Program} {e : Env} {s : State} {m : MethodId} {below : List Frame} {meth : Method} {c : Code} (l : Launch) (hfl : l.flags = pinnedFlags ++ [noTraceFlag]) {b L : Nat} {xs : Nat → Int32} (hL : L ≤ 1536) (hx : p.tables.exec = Jvm.exec) (hb : c.code = code) (hr : meth.sig.returnType = ret) (hml : c.maxLocals = 7) (hown : s.vm.findClass "ChainDeskLaw" = some m.cls)
    (hts : ∀ w ∈ lw_tbl, w.before #[Value.ref b] s = true) (hX : va_X b L xs s s.heap) (hbl : b < s.heap.size) (hlocks : meth.locks = false) (hgv : (Jvm.Cond.and given_1 narrow_1).before #[Value.ref b] s = true) (hmn : meth.name = "law") (htab : c.exceptionTable.isEmpty = true) {Q : State → Prop}
    (hend : ∀ (pc : Nat) (H1 : Heap) (ls : Array Slot), decode code pc = .ok (.ireturn, 1) → W p l e room_1 s m #[Value.ref b] below meth c H1 [] 601024 7293034 Q (F0 m pc ls [.int 1])) :
    W p l e room_1 s m #[Value.ref b] below meth c s.heap [] 0 0 Q (entryFrame m ([Value.ref b] : List Value).toArray 7) := by
  obtain ⟨ad, adK, adV, w, D, σ, hini, hGL, hdy⟩ := cd_begin hL hts hX hbl hgv
  obtain ⟨σ', top', sl', ⟨n, hrun⟩, ht, hsl⟩ := H b L xs ad adK adV w _ σ hini
  have hS := am_sound (cd_good (cd_cs ad adK w) s.heap.size) (cd_bok (cd_cs ad adK w) s.heap.size D l) hfl rfl n
  have hl := lv_entry [Value.ref b] (n := 7) (by show 1 ≤ 7; decide)
  rw [lg_entry_eq]
  refine hS 1312 0 0 _ [] σ s.heap.size 0 _ hrun p e room_1 s m #[Value.ref b] below meth c Q s.heap.size 0 ⟨hx, hb, hml, hown, (fun w hw => by cases hw), hGL, hmn, (by show 1312 ≤ 2048; decide), (by show 64 * 1312 ≤ 84000; decide), ?_, ?_, ?_, hlocks⟩ ?_ ?_ _ s.heap [] 0 0 ⟨am_ent_ls (by show 1 ≤ 7; decide) rfl hl, hdy, va_S.rf, Nat.zero_add _, Nat.zero_add _⟩
  · show top' ≤ 601024 + s.heap.size
    omega
  · show sl' ≤ 7293034 + 0
    omega
  · have h2 := Array.isEmpty_iff.mp htab
    rw [h2]
    rfl
  · intro pc' lv' st' i u v hI he
    obtain ⟨hdec, -, -, hro⟩ := (cd_good (cd_cs ad adK w) s.heap.size).2.2.2.1 0 pc' i u v hI s #[Value.ref b] meth hGL (fun w hw => by cases hw) hmn
    intro ls H1 locs cells slots h
    have hcells := h.2.2.2
    refine va_forget (fun q hq => h.2.2.1.2.2 q hq) (W.widen (k := 601024) (n := 7293034) ?_ ?_ ?_)
    · have h1 : cells + s.heap.size = top' := hcells.1
      omega
    · have h1 : slots + 0 = sl' := hcells.2
      omega
    · cases i with
      | ireturn =>
        dsimp only [am_end] at he
        split at he
        · split at he
          · cases he
            exact hend pc' H1 ls (am_dec1 hdec rfl)
          · cases he
        · cases he
      | areturn =>
        dsimp only [am_end] at he
        split at he
        · split at he <;> cases he
        · split at he <;> cases he
        · cases he
      | return_ =>
        dsimp only [am_end] at he
        split at he <;> cases he
      | _ => exact absurd (show (none : Option (Option Value ⊕ Nat)) = some (.inl (some (.int 1))) from he) (fun z => by cases z)
  · intro pc' lv' st' σ1 top1 sl1 i u v hI hk hd hs hres
    cases hres
end
section
theorem cd_i0_0 : cd_I 0 0 = some (.new 8, 0, 0) := by decide +kernel
theorem cd_i0_3 : cd_I 0 3 = some (.dup, 0, 0) := by decide +kernel
theorem cd_i0_4 : cd_I 0 4 = some (.invokespecial 31, 1, 0) := by decide +kernel
theorem cd_i0_7 : cd_I 0 7 = some (.astore_n 1, 0, 0) := by decide +kernel
theorem cd_i0_8 : cd_I 0 8 = some (.new 32, 11, 0) := by decide +kernel
theorem cd_i0_11 : cd_I 0 11 = some (.dup, 0, 0) := by decide +kernel
theorem cd_i0_12 : cd_I 0 12 = some (.invokespecial 34, 98, 0) := by decide +kernel
theorem cd_i0_15 : cd_I 0 15 = some (.astore_n 2, 0, 0) := by decide +kernel
theorem cd_i0_16 : cd_I 0 16 = some (.iconst 1, 0, 0) := by decide +kernel
theorem cd_i0_17 : cd_I 0 17 = some (.newarray .long, 0, 0) := by decide +kernel
theorem cd_i0_19 : cd_I 0 19 = some (.astore_n 3, 0, 0) := by decide +kernel
theorem cd_i0_20 : cd_I 0 20 = some (.iconst 0, 0, 0) := by decide +kernel
theorem cd_i0_21 : cd_I 0 21 = some (.istore 4, 0, 0) := by decide +kernel
theorem cd_i0_23 : cd_I 0 23 = some (.iload 4, 0, 0) := by decide +kernel
theorem cd_i0_25 : cd_I 0 25 = some (.aload_n 0, 0, 0) := by decide +kernel
theorem cd_i0_26 : cd_I 0 26 = some (.arraylength, 0, 0) := by decide +kernel
theorem cd_i0_27 : cd_I 0 27 = some (.iconst 3, 0, 0) := by decide +kernel
theorem cd_i0_28 : cd_I 0 28 = some (.isub, 0, 0) := by decide +kernel
theorem cd_i0_29 : cd_I 0 29 = some (.if_icmp .gt 551, 580, 0) := by decide +kernel
theorem cd_i0_32 : cd_I 0 32 = some (.aload_n 0, 0, 0) := by decide +kernel
theorem cd_i0_33 : cd_I 0 33 = some (.iload 4, 0, 0) := by decide +kernel
theorem cd_i0_35 : cd_I 0 35 = some (.iaload, 0, 0) := by decide +kernel
theorem cd_i0_36 : cd_I 0 36 = some (.bipush 15, 0, 0) := by decide +kernel
theorem cd_i0_38 : cd_I 0 38 = some (.iand, 0, 0) := by decide +kernel
theorem cd_i0_39 : cd_I 0 39 = some (.tableswitch 535 0 12 #[65, 102, 146, 190, 201, 237, 305, 349, 362, 399, 436, 473, 498], 0, 0) := by decide +kernel
theorem cd_i0_104 : cd_I 0 104 = some (.aload_n 1, 0, 0) := by decide +kernel
theorem cd_i0_105 : cd_I 0 105 = some (.aload_n 0, 0, 0) := by decide +kernel
theorem cd_i0_106 : cd_I 0 106 = some (.iload 4, 0, 0) := by decide +kernel
theorem cd_i0_108 : cd_I 0 108 = some (.iconst 1, 0, 0) := by decide +kernel
theorem cd_i0_109 : cd_I 0 109 = some (.iadd, 0, 0) := by decide +kernel
theorem cd_i0_110 : cd_I 0 110 = some (.iaload, 0, 0) := by decide +kernel
theorem cd_i0_111 : cd_I 0 111 = some (.aload_n 0, 0, 0) := by decide +kernel
theorem cd_i0_112 : cd_I 0 112 = some (.iload 4, 0, 0) := by decide +kernel
theorem cd_i0_114 : cd_I 0 114 = some (.iconst 2, 0, 0) := by decide +kernel
theorem cd_i0_115 : cd_I 0 115 = some (.iadd, 0, 0) := by decide +kernel
theorem cd_i0_116 : cd_I 0 116 = some (.iaload, 0, 0) := by decide +kernel
theorem cd_i0_117 : cd_I 0 117 = some (.invokevirtual 35, 10, 2) := by decide +kernel
theorem cd_i0_120 : cd_I 0 120 = some (.aload_n 2, 0, 0) := by decide +kernel
theorem cd_i0_121 : cd_I 0 121 = some (.aload_n 0, 0, 0) := by decide +kernel
theorem cd_i0_122 : cd_I 0 122 = some (.iload 4, 0, 0) := by decide +kernel
theorem cd_i0_124 : cd_I 0 124 = some (.iconst 1, 0, 0) := by decide +kernel
theorem cd_i0_125 : cd_I 0 125 = some (.iadd, 0, 0) := by decide +kernel
theorem cd_i0_126 : cd_I 0 126 = some (.iaload, 0, 0) := by decide +kernel
theorem cd_i0_127 : cd_I 0 127 = some (.aload_n 0, 0, 0) := by decide +kernel
theorem cd_i0_128 : cd_I 0 128 = some (.iload 4, 0, 0) := by decide +kernel
theorem cd_i0_130 : cd_I 0 130 = some (.iconst 2, 0, 0) := by decide +kernel
theorem cd_i0_131 : cd_I 0 131 = some (.iadd, 0, 0) := by decide +kernel
theorem cd_i0_132 : cd_I 0 132 = some (.iaload, 0, 0) := by decide +kernel
theorem cd_i0_133 : cd_I 0 133 = some (.invokevirtual 39, 100, 2) := by decide +kernel
theorem cd_i0_136 : cd_I 0 136 = some (.if_icmp .eq 438, 574, 0) := by decide +kernel
theorem cd_i0_139 : cd_I 0 139 = some (.iconst 0, 0, 0) := by decide +kernel
theorem cd_i0_140 : cd_I 0 140 = some (.ireturn, 0, 0) := by decide +kernel
theorem cd_i0_141 : cd_I 0 141 = some (.aload_n 1, 0, 0) := by decide +kernel
theorem cd_i0_142 : cd_I 0 142 = some (.aload_n 3, 0, 0) := by decide +kernel
theorem cd_i0_143 : cd_I 0 143 = some (.invokestatic 40, 157, 2) := by decide +kernel
theorem cd_i0_146 : cd_I 0 146 = some (.istore 5, 0, 0) := by decide +kernel
theorem cd_i0_148 : cd_I 0 148 = some (.aload_n 2, 0, 0) := by decide +kernel
theorem cd_i0_149 : cd_I 0 149 = some (.invokevirtual 45, 102, 0) := by decide +kernel
theorem cd_i0_152 : cd_I 0 152 = some (.istore 6, 0, 0) := by decide +kernel
theorem cd_i0_154 : cd_I 0 154 = some (.aload_n 2, 0, 0) := by decide +kernel
theorem cd_i0_155 : cd_I 0 155 = some (.invokevirtual 46, 99, 0) := by decide +kernel
theorem cd_i0_158 : cd_I 0 158 = some (.iload 5, 0, 0) := by decide +kernel
theorem cd_i0_160 : cd_I 0 160 = some (.if_icmp .eq 5, 165, 0) := by decide +kernel
theorem cd_i0_163 : cd_I 0 163 = some (.iconst 0, 0, 0) := by decide +kernel
theorem cd_i0_164 : cd_I 0 164 = some (.ireturn, 0, 0) := by decide +kernel
theorem cd_i0_165 : cd_I 0 165 = some (.iload 5, 0, 0) := by decide +kernel
theorem cd_i0_167 : cd_I 0 167 = some (.ifCond .ne 15, 182, 0) := by decide +kernel
theorem cd_i0_170 : cd_I 0 170 = some (.aload_n 3, 0, 0) := by decide +kernel
theorem cd_i0_171 : cd_I 0 171 = some (.iconst 0, 0, 0) := by decide +kernel
theorem cd_i0_172 : cd_I 0 172 = some (.laload, 0, 0) := by decide +kernel
theorem cd_i0_173 : cd_I 0 173 = some (.iload 6, 0, 0) := by decide +kernel
theorem cd_i0_175 : cd_I 0 175 = some (.i2l, 0, 0) := by decide +kernel
theorem cd_i0_176 : cd_I 0 176 = some (.lcmp, 0, 0) := by decide +kernel
theorem cd_i0_177 : cd_I 0 177 = some (.ifCond .eq 5, 182, 0) := by decide +kernel
theorem cd_i0_180 : cd_I 0 180 = some (.iconst 0, 0, 0) := by decide +kernel
theorem cd_i0_181 : cd_I 0 181 = some (.ireturn, 0, 0) := by decide +kernel
theorem cd_i0_182 : cd_I 0 182 = some (.goto 392, 574, 0) := by decide +kernel
theorem cd_i0_185 : cd_I 0 185 = some (.aload_n 1, 0, 0) := by decide +kernel
theorem cd_i0_186 : cd_I 0 186 = some (.aload_n 3, 0, 0) := by decide +kernel
theorem cd_i0_187 : cd_I 0 187 = some (.invokestatic 49, 158, 2) := by decide +kernel
theorem cd_i0_190 : cd_I 0 190 = some (.istore 5, 0, 0) := by decide +kernel
theorem cd_i0_192 : cd_I 0 192 = some (.aload_n 2, 0, 0) := by decide +kernel
theorem cd_i0_193 : cd_I 0 193 = some (.invokevirtual 51, 123, 0) := by decide +kernel
theorem cd_i0_196 : cd_I 0 196 = some (.istore 6, 0, 0) := by decide +kernel
theorem cd_i0_198 : cd_I 0 198 = some (.aload_n 2, 0, 0) := by decide +kernel
theorem cd_i0_199 : cd_I 0 199 = some (.invokevirtual 46, 99, 0) := by decide +kernel
theorem cd_i0_202 : cd_I 0 202 = some (.iload 5, 0, 0) := by decide +kernel
theorem cd_i0_204 : cd_I 0 204 = some (.if_icmp .eq 5, 209, 0) := by decide +kernel
theorem cd_i0_207 : cd_I 0 207 = some (.iconst 0, 0, 0) := by decide +kernel
theorem cd_i0_208 : cd_I 0 208 = some (.ireturn, 0, 0) := by decide +kernel
theorem cd_i0_209 : cd_I 0 209 = some (.iload 5, 0, 0) := by decide +kernel
theorem cd_i0_211 : cd_I 0 211 = some (.ifCond .ne 15, 226, 0) := by decide +kernel
theorem cd_i0_214 : cd_I 0 214 = some (.aload_n 3, 0, 0) := by decide +kernel
theorem cd_i0_215 : cd_I 0 215 = some (.iconst 0, 0, 0) := by decide +kernel
theorem cd_i0_216 : cd_I 0 216 = some (.laload, 0, 0) := by decide +kernel
theorem cd_i0_217 : cd_I 0 217 = some (.iload 6, 0, 0) := by decide +kernel
theorem cd_i0_219 : cd_I 0 219 = some (.i2l, 0, 0) := by decide +kernel
theorem cd_i0_220 : cd_I 0 220 = some (.lcmp, 0, 0) := by decide +kernel
theorem cd_i0_221 : cd_I 0 221 = some (.ifCond .eq 5, 226, 0) := by decide +kernel
theorem cd_i0_224 : cd_I 0 224 = some (.iconst 0, 0, 0) := by decide +kernel
theorem cd_i0_225 : cd_I 0 225 = some (.ireturn, 0, 0) := by decide +kernel
theorem cd_i0_226 : cd_I 0 226 = some (.goto 348, 574, 0) := by decide +kernel
theorem cd_i0_229 : cd_I 0 229 = some (.aload_n 1, 0, 0) := by decide +kernel
theorem cd_i0_230 : cd_I 0 230 = some (.invokevirtual 52, 12, 0) := by decide +kernel
theorem cd_i0_233 : cd_I 0 233 = some (.aload_n 2, 0, 0) := by decide +kernel
theorem cd_i0_234 : cd_I 0 234 = some (.invokevirtual 55, 125, 0) := by decide +kernel
theorem cd_i0_237 : cd_I 0 237 = some (.goto 337, 574, 0) := by decide +kernel
theorem cd_i0_240 : cd_I 0 240 = some (.aload_n 1, 0, 0) := by decide +kernel
theorem cd_i0_241 : cd_I 0 241 = some (.aload_n 0, 0, 0) := by decide +kernel
theorem cd_i0_242 : cd_I 0 242 = some (.iload 4, 0, 0) := by decide +kernel
theorem cd_i0_244 : cd_I 0 244 = some (.iconst 1, 0, 0) := by decide +kernel
theorem cd_i0_245 : cd_I 0 245 = some (.iadd, 0, 0) := by decide +kernel
theorem cd_i0_246 : cd_I 0 246 = some (.iaload, 0, 0) := by decide +kernel
theorem cd_i0_247 : cd_I 0 247 = some (.invokestatic 56, 159, 2) := by decide +kernel
theorem cd_i0_250 : cd_I 0 250 = some (.istore 5, 0, 0) := by decide +kernel
theorem cd_i0_252 : cd_I 0 252 = some (.aload_n 2, 0, 0) := by decide +kernel
theorem cd_i0_253 : cd_I 0 253 = some (.aload_n 0, 0, 0) := by decide +kernel
theorem cd_i0_254 : cd_I 0 254 = some (.iload 4, 0, 0) := by decide +kernel
theorem cd_i0_256 : cd_I 0 256 = some (.iconst 1, 0, 0) := by decide +kernel
theorem cd_i0_257 : cd_I 0 257 = some (.iadd, 0, 0) := by decide +kernel
theorem cd_i0_258 : cd_I 0 258 = some (.iaload, 0, 0) := by decide +kernel
theorem cd_i0_259 : cd_I 0 259 = some (.invokevirtual 59, 126, 1) := by decide +kernel
theorem cd_i0_262 : cd_I 0 262 = some (.aload_n 2, 0, 0) := by decide +kernel
theorem cd_i0_263 : cd_I 0 263 = some (.invokevirtual 46, 99, 0) := by decide +kernel
theorem cd_i0_266 : cd_I 0 266 = some (.iload 5, 0, 0) := by decide +kernel
theorem cd_i0_268 : cd_I 0 268 = some (.if_icmp .eq 5, 273, 0) := by decide +kernel
theorem cd_i0_271 : cd_I 0 271 = some (.iconst 0, 0, 0) := by decide +kernel
theorem cd_i0_272 : cd_I 0 272 = some (.ireturn, 0, 0) := by decide +kernel
theorem cd_i0_273 : cd_I 0 273 = some (.goto 301, 574, 0) := by decide +kernel
theorem cd_i0_276 : cd_I 0 276 = some (.aload_n 1, 0, 0) := by decide +kernel
theorem cd_i0_277 : cd_I 0 277 = some (.aload_n 0, 0, 0) := by decide +kernel
theorem cd_i0_278 : cd_I 0 278 = some (.iload 4, 0, 0) := by decide +kernel
theorem cd_i0_280 : cd_I 0 280 = some (.iconst 1, 0, 0) := by decide +kernel
theorem cd_i0_281 : cd_I 0 281 = some (.iadd, 0, 0) := by decide +kernel
theorem cd_i0_282 : cd_I 0 282 = some (.iaload, 0, 0) := by decide +kernel
theorem cd_i0_283 : cd_I 0 283 = some (.aload_n 0, 0, 0) := by decide +kernel
theorem cd_i0_284 : cd_I 0 284 = some (.iload 4, 0, 0) := by decide +kernel
theorem cd_i0_286 : cd_I 0 286 = some (.iconst 2, 0, 0) := by decide +kernel
theorem cd_i0_287 : cd_I 0 287 = some (.iadd, 0, 0) := by decide +kernel
theorem cd_i0_288 : cd_I 0 288 = some (.iaload, 0, 0) := by decide +kernel
theorem cd_i0_289 : cd_I 0 289 = some (.aload_n 3, 0, 0) := by decide +kernel
theorem cd_i0_290 : cd_I 0 290 = some (.invokestatic 60, 160, 4) := by decide +kernel
theorem cd_i0_293 : cd_I 0 293 = some (.istore 5, 0, 0) := by decide +kernel
theorem cd_i0_295 : cd_I 0 295 = some (.aload_n 2, 0, 0) := by decide +kernel
theorem cd_i0_296 : cd_I 0 296 = some (.aload_n 0, 0, 0) := by decide +kernel
theorem cd_i0_297 : cd_I 0 297 = some (.iload 4, 0, 0) := by decide +kernel
theorem cd_i0_299 : cd_I 0 299 = some (.iconst 1, 0, 0) := by decide +kernel
theorem cd_i0_300 : cd_I 0 300 = some (.iadd, 0, 0) := by decide +kernel
theorem cd_i0_301 : cd_I 0 301 = some (.iaload, 0, 0) := by decide +kernel
theorem cd_i0_302 : cd_I 0 302 = some (.aload_n 0, 0, 0) := by decide +kernel
theorem cd_i0_303 : cd_I 0 303 = some (.iload 4, 0, 0) := by decide +kernel
theorem cd_i0_305 : cd_I 0 305 = some (.iconst 2, 0, 0) := by decide +kernel
theorem cd_i0_306 : cd_I 0 306 = some (.iadd, 0, 0) := by decide +kernel
theorem cd_i0_307 : cd_I 0 307 = some (.iaload, 0, 0) := by decide +kernel
theorem cd_i0_308 : cd_I 0 308 = some (.invokevirtual 63, 130, 2) := by decide +kernel
theorem cd_i0_311 : cd_I 0 311 = some (.istore 6, 0, 0) := by decide +kernel
theorem cd_i0_313 : cd_I 0 313 = some (.aload_n 2, 0, 0) := by decide +kernel
theorem cd_i0_314 : cd_I 0 314 = some (.invokevirtual 46, 99, 0) := by decide +kernel
theorem cd_i0_317 : cd_I 0 317 = some (.iload 5, 0, 0) := by decide +kernel
theorem cd_i0_319 : cd_I 0 319 = some (.if_icmp .eq 5, 324, 0) := by decide +kernel
theorem cd_i0_322 : cd_I 0 322 = some (.iconst 0, 0, 0) := by decide +kernel
theorem cd_i0_323 : cd_I 0 323 = some (.ireturn, 0, 0) := by decide +kernel
theorem cd_i0_324 : cd_I 0 324 = some (.iload 5, 0, 0) := by decide +kernel
theorem cd_i0_326 : cd_I 0 326 = some (.ifCond .ne 15, 341, 0) := by decide +kernel
theorem cd_i0_329 : cd_I 0 329 = some (.aload_n 3, 0, 0) := by decide +kernel
theorem cd_i0_330 : cd_I 0 330 = some (.iconst 0, 0, 0) := by decide +kernel
theorem cd_i0_331 : cd_I 0 331 = some (.laload, 0, 0) := by decide +kernel
theorem cd_i0_332 : cd_I 0 332 = some (.iload 6, 0, 0) := by decide +kernel
theorem cd_i0_334 : cd_I 0 334 = some (.i2l, 0, 0) := by decide +kernel
theorem cd_i0_335 : cd_I 0 335 = some (.lcmp, 0, 0) := by decide +kernel
theorem cd_i0_336 : cd_I 0 336 = some (.ifCond .eq 5, 341, 0) := by decide +kernel
theorem cd_i0_339 : cd_I 0 339 = some (.iconst 0, 0, 0) := by decide +kernel
theorem cd_i0_340 : cd_I 0 340 = some (.ireturn, 0, 0) := by decide +kernel
theorem cd_i0_341 : cd_I 0 341 = some (.goto 233, 574, 0) := by decide +kernel
theorem cd_i0_344 : cd_I 0 344 = some (.aload_n 1, 0, 0) := by decide +kernel
theorem cd_i0_345 : cd_I 0 345 = some (.aload_n 3, 0, 0) := by decide +kernel
theorem cd_i0_346 : cd_I 0 346 = some (.invokestatic 64, 161, 2) := by decide +kernel
theorem cd_i0_349 : cd_I 0 349 = some (.istore 5, 0, 0) := by decide +kernel
theorem cd_i0_351 : cd_I 0 351 = some (.aload_n 2, 0, 0) := by decide +kernel
theorem cd_i0_352 : cd_I 0 352 = some (.invokevirtual 66, 146, 0) := by decide +kernel
theorem cd_i0_355 : cd_I 0 355 = some (.istore 6, 0, 0) := by decide +kernel
theorem cd_i0_357 : cd_I 0 357 = some (.aload_n 2, 0, 0) := by decide +kernel
theorem cd_i0_358 : cd_I 0 358 = some (.invokevirtual 46, 99, 0) := by decide +kernel
theorem cd_i0_361 : cd_I 0 361 = some (.iload 5, 0, 0) := by decide +kernel
theorem cd_i0_363 : cd_I 0 363 = some (.if_icmp .eq 5, 368, 0) := by decide +kernel
theorem cd_i0_366 : cd_I 0 366 = some (.iconst 0, 0, 0) := by decide +kernel
theorem cd_i0_367 : cd_I 0 367 = some (.ireturn, 0, 0) := by decide +kernel
theorem cd_i0_368 : cd_I 0 368 = some (.iload 5, 0, 0) := by decide +kernel
theorem cd_i0_370 : cd_I 0 370 = some (.ifCond .ne 15, 385, 0) := by decide +kernel
theorem cd_i0_373 : cd_I 0 373 = some (.aload_n 3, 0, 0) := by decide +kernel
theorem cd_i0_374 : cd_I 0 374 = some (.iconst 0, 0, 0) := by decide +kernel
theorem cd_i0_375 : cd_I 0 375 = some (.laload, 0, 0) := by decide +kernel
theorem cd_i0_376 : cd_I 0 376 = some (.iload 6, 0, 0) := by decide +kernel
theorem cd_i0_378 : cd_I 0 378 = some (.i2l, 0, 0) := by decide +kernel
theorem cd_i0_379 : cd_I 0 379 = some (.lcmp, 0, 0) := by decide +kernel
theorem cd_i0_380 : cd_I 0 380 = some (.ifCond .eq 5, 385, 0) := by decide +kernel
theorem cd_i0_383 : cd_I 0 383 = some (.iconst 0, 0, 0) := by decide +kernel
theorem cd_i0_384 : cd_I 0 384 = some (.ireturn, 0, 0) := by decide +kernel
theorem cd_i0_385 : cd_I 0 385 = some (.goto 189, 574, 0) := by decide +kernel
theorem cd_i0_388 : cd_I 0 388 = some (.aload_n 1, 0, 0) := by decide +kernel
theorem cd_i0_389 : cd_I 0 389 = some (.invokevirtual 67, 13, 0) := by decide +kernel
theorem cd_i0_392 : cd_I 0 392 = some (.aload_n 2, 0, 0) := by decide +kernel
theorem cd_i0_393 : cd_I 0 393 = some (.invokevirtual 70, 152, 0) := by decide +kernel
theorem cd_i0_396 : cd_I 0 396 = some (.if_icmp .eq 178, 574, 0) := by decide +kernel
theorem cd_i0_399 : cd_I 0 399 = some (.iconst 0, 0, 0) := by decide +kernel
theorem cd_i0_400 : cd_I 0 400 = some (.ireturn, 0, 0) := by decide +kernel
theorem cd_i0_401 : cd_I 0 401 = some (.aload_n 1, 0, 0) := by decide +kernel
theorem cd_i0_402 : cd_I 0 402 = some (.aload_n 0, 0, 0) := by decide +kernel
theorem cd_i0_403 : cd_I 0 403 = some (.iload 4, 0, 0) := by decide +kernel
theorem cd_i0_405 : cd_I 0 405 = some (.iconst 1, 0, 0) := by decide +kernel
theorem cd_i0_406 : cd_I 0 406 = some (.iadd, 0, 0) := by decide +kernel
theorem cd_i0_407 : cd_I 0 407 = some (.iaload, 0, 0) := by decide +kernel
theorem cd_i0_408 : cd_I 0 408 = some (.aload_n 0, 0, 0) := by decide +kernel
theorem cd_i0_409 : cd_I 0 409 = some (.iload 4, 0, 0) := by decide +kernel
theorem cd_i0_411 : cd_I 0 411 = some (.iconst 2, 0, 0) := by decide +kernel
theorem cd_i0_412 : cd_I 0 412 = some (.iadd, 0, 0) := by decide +kernel
theorem cd_i0_413 : cd_I 0 413 = some (.iaload, 0, 0) := by decide +kernel
theorem cd_i0_414 : cd_I 0 414 = some (.invokevirtual 71, 14, 2) := by decide +kernel
theorem cd_i0_417 : cd_I 0 417 = some (.aload_n 2, 0, 0) := by decide +kernel
theorem cd_i0_418 : cd_I 0 418 = some (.aload_n 0, 0, 0) := by decide +kernel
theorem cd_i0_419 : cd_I 0 419 = some (.iload 4, 0, 0) := by decide +kernel
theorem cd_i0_421 : cd_I 0 421 = some (.iconst 1, 0, 0) := by decide +kernel
theorem cd_i0_422 : cd_I 0 422 = some (.iadd, 0, 0) := by decide +kernel
theorem cd_i0_423 : cd_I 0 423 = some (.iaload, 0, 0) := by decide +kernel
theorem cd_i0_424 : cd_I 0 424 = some (.aload_n 0, 0, 0) := by decide +kernel
theorem cd_i0_425 : cd_I 0 425 = some (.iload 4, 0, 0) := by decide +kernel
theorem cd_i0_427 : cd_I 0 427 = some (.iconst 2, 0, 0) := by decide +kernel
theorem cd_i0_428 : cd_I 0 428 = some (.iadd, 0, 0) := by decide +kernel
theorem cd_i0_429 : cd_I 0 429 = some (.iaload, 0, 0) := by decide +kernel
theorem cd_i0_430 : cd_I 0 430 = some (.invokevirtual 74, 127, 2) := by decide +kernel
theorem cd_i0_433 : cd_I 0 433 = some (.if_icmp .eq 141, 574, 0) := by decide +kernel
theorem cd_i0_436 : cd_I 0 436 = some (.iconst 0, 0, 0) := by decide +kernel
theorem cd_i0_437 : cd_I 0 437 = some (.ireturn, 0, 0) := by decide +kernel
theorem cd_i0_438 : cd_I 0 438 = some (.aload_n 1, 0, 0) := by decide +kernel
theorem cd_i0_439 : cd_I 0 439 = some (.aload_n 0, 0, 0) := by decide +kernel
theorem cd_i0_440 : cd_I 0 440 = some (.iload 4, 0, 0) := by decide +kernel
theorem cd_i0_442 : cd_I 0 442 = some (.iconst 1, 0, 0) := by decide +kernel
theorem cd_i0_443 : cd_I 0 443 = some (.iadd, 0, 0) := by decide +kernel
theorem cd_i0_444 : cd_I 0 444 = some (.iaload, 0, 0) := by decide +kernel
theorem cd_i0_445 : cd_I 0 445 = some (.aload_n 0, 0, 0) := by decide +kernel
theorem cd_i0_446 : cd_I 0 446 = some (.iload 4, 0, 0) := by decide +kernel
theorem cd_i0_448 : cd_I 0 448 = some (.iconst 2, 0, 0) := by decide +kernel
theorem cd_i0_449 : cd_I 0 449 = some (.iadd, 0, 0) := by decide +kernel
theorem cd_i0_450 : cd_I 0 450 = some (.iaload, 0, 0) := by decide +kernel
theorem cd_i0_451 : cd_I 0 451 = some (.invokevirtual 75, 17, 2) := by decide +kernel
theorem cd_i0_454 : cd_I 0 454 = some (.aload_n 2, 0, 0) := by decide +kernel
theorem cd_i0_455 : cd_I 0 455 = some (.aload_n 0, 0, 0) := by decide +kernel
theorem cd_i0_456 : cd_I 0 456 = some (.iload 4, 0, 0) := by decide +kernel
theorem cd_i0_458 : cd_I 0 458 = some (.iconst 1, 0, 0) := by decide +kernel
theorem cd_i0_459 : cd_I 0 459 = some (.iadd, 0, 0) := by decide +kernel
theorem cd_i0_460 : cd_I 0 460 = some (.iaload, 0, 0) := by decide +kernel
theorem cd_i0_461 : cd_I 0 461 = some (.aload_n 0, 0, 0) := by decide +kernel
theorem cd_i0_462 : cd_I 0 462 = some (.iload 4, 0, 0) := by decide +kernel
theorem cd_i0_464 : cd_I 0 464 = some (.iconst 2, 0, 0) := by decide +kernel
theorem cd_i0_465 : cd_I 0 465 = some (.iadd, 0, 0) := by decide +kernel
theorem cd_i0_466 : cd_I 0 466 = some (.iaload, 0, 0) := by decide +kernel
theorem cd_i0_467 : cd_I 0 467 = some (.invokevirtual 78, 153, 2) := by decide +kernel
theorem cd_i0_470 : cd_I 0 470 = some (.if_icmp .eq 104, 574, 0) := by decide +kernel
theorem cd_i0_473 : cd_I 0 473 = some (.iconst 0, 0, 0) := by decide +kernel
theorem cd_i0_474 : cd_I 0 474 = some (.ireturn, 0, 0) := by decide +kernel
theorem cd_i0_475 : cd_I 0 475 = some (.aload_n 1, 0, 0) := by decide +kernel
theorem cd_i0_476 : cd_I 0 476 = some (.aload_n 0, 0, 0) := by decide +kernel
theorem cd_i0_477 : cd_I 0 477 = some (.iload 4, 0, 0) := by decide +kernel
theorem cd_i0_479 : cd_I 0 479 = some (.iconst 1, 0, 0) := by decide +kernel
theorem cd_i0_480 : cd_I 0 480 = some (.iadd, 0, 0) := by decide +kernel
theorem cd_i0_481 : cd_I 0 481 = some (.iaload, 0, 0) := by decide +kernel
theorem cd_i0_482 : cd_I 0 482 = some (.aload_n 0, 0, 0) := by decide +kernel
theorem cd_i0_483 : cd_I 0 483 = some (.iload 4, 0, 0) := by decide +kernel
theorem cd_i0_485 : cd_I 0 485 = some (.iconst 2, 0, 0) := by decide +kernel
theorem cd_i0_486 : cd_I 0 486 = some (.iadd, 0, 0) := by decide +kernel
theorem cd_i0_487 : cd_I 0 487 = some (.iaload, 0, 0) := by decide +kernel
theorem cd_i0_488 : cd_I 0 488 = some (.invokevirtual 79, 19, 2) := by decide +kernel
theorem cd_i0_491 : cd_I 0 491 = some (.aload_n 2, 0, 0) := by decide +kernel
theorem cd_i0_492 : cd_I 0 492 = some (.aload_n 0, 0, 0) := by decide +kernel
theorem cd_i0_493 : cd_I 0 493 = some (.iload 4, 0, 0) := by decide +kernel
theorem cd_i0_495 : cd_I 0 495 = some (.iconst 1, 0, 0) := by decide +kernel
theorem cd_i0_496 : cd_I 0 496 = some (.iadd, 0, 0) := by decide +kernel
theorem cd_i0_497 : cd_I 0 497 = some (.iaload, 0, 0) := by decide +kernel
theorem cd_i0_498 : cd_I 0 498 = some (.aload_n 0, 0, 0) := by decide +kernel
theorem cd_i0_499 : cd_I 0 499 = some (.iload 4, 0, 0) := by decide +kernel
theorem cd_i0_501 : cd_I 0 501 = some (.iconst 2, 0, 0) := by decide +kernel
theorem cd_i0_502 : cd_I 0 502 = some (.iadd, 0, 0) := by decide +kernel
theorem cd_i0_503 : cd_I 0 503 = some (.iaload, 0, 0) := by decide +kernel
theorem cd_i0_504 : cd_I 0 504 = some (.invokevirtual 82, 154, 2) := by decide +kernel
theorem cd_i0_507 : cd_I 0 507 = some (.if_icmp .eq 67, 574, 0) := by decide +kernel
theorem cd_i0_510 : cd_I 0 510 = some (.iconst 0, 0, 0) := by decide +kernel
theorem cd_i0_511 : cd_I 0 511 = some (.ireturn, 0, 0) := by decide +kernel
theorem cd_i0_512 : cd_I 0 512 = some (.aload_n 1, 0, 0) := by decide +kernel
theorem cd_i0_513 : cd_I 0 513 = some (.aload_n 0, 0, 0) := by decide +kernel
theorem cd_i0_514 : cd_I 0 514 = some (.iload 4, 0, 0) := by decide +kernel
theorem cd_i0_516 : cd_I 0 516 = some (.iconst 1, 0, 0) := by decide +kernel
theorem cd_i0_517 : cd_I 0 517 = some (.iadd, 0, 0) := by decide +kernel
theorem cd_i0_518 : cd_I 0 518 = some (.iaload, 0, 0) := by decide +kernel
theorem cd_i0_519 : cd_I 0 519 = some (.invokevirtual 83, 21, 1) := by decide +kernel
theorem cd_i0_522 : cd_I 0 522 = some (.aload_n 2, 0, 0) := by decide +kernel
theorem cd_i0_523 : cd_I 0 523 = some (.aload_n 0, 0, 0) := by decide +kernel
theorem cd_i0_524 : cd_I 0 524 = some (.iload 4, 0, 0) := by decide +kernel
theorem cd_i0_526 : cd_I 0 526 = some (.iconst 1, 0, 0) := by decide +kernel
theorem cd_i0_527 : cd_I 0 527 = some (.iadd, 0, 0) := by decide +kernel
theorem cd_i0_528 : cd_I 0 528 = some (.iaload, 0, 0) := by decide +kernel
theorem cd_i0_529 : cd_I 0 529 = some (.invokevirtual 87, 155, 1) := by decide +kernel
theorem cd_i0_532 : cd_I 0 532 = some (.if_icmp .eq 42, 574, 0) := by decide +kernel
theorem cd_i0_535 : cd_I 0 535 = some (.iconst 0, 0, 0) := by decide +kernel
theorem cd_i0_536 : cd_I 0 536 = some (.ireturn, 0, 0) := by decide +kernel
theorem cd_i0_537 : cd_I 0 537 = some (.aload_n 1, 0, 0) := by decide +kernel
theorem cd_i0_538 : cd_I 0 538 = some (.aload_n 0, 0, 0) := by decide +kernel
theorem cd_i0_539 : cd_I 0 539 = some (.iload 4, 0, 0) := by decide +kernel
theorem cd_i0_541 : cd_I 0 541 = some (.iconst 1, 0, 0) := by decide +kernel
theorem cd_i0_542 : cd_I 0 542 = some (.iadd, 0, 0) := by decide +kernel
theorem cd_i0_543 : cd_I 0 543 = some (.iaload, 0, 0) := by decide +kernel
theorem cd_i0_544 : cd_I 0 544 = some (.aload_n 0, 0, 0) := by decide +kernel
theorem cd_i0_545 : cd_I 0 545 = some (.iload 4, 0, 0) := by decide +kernel
theorem cd_i0_547 : cd_I 0 547 = some (.iconst 2, 0, 0) := by decide +kernel
theorem cd_i0_548 : cd_I 0 548 = some (.iadd, 0, 0) := by decide +kernel
theorem cd_i0_549 : cd_I 0 549 = some (.iaload, 0, 0) := by decide +kernel
theorem cd_i0_550 : cd_I 0 550 = some (.invokevirtual 88, 23, 2) := by decide +kernel
theorem cd_i0_553 : cd_I 0 553 = some (.aload_n 2, 0, 0) := by decide +kernel
theorem cd_i0_554 : cd_I 0 554 = some (.aload_n 0, 0, 0) := by decide +kernel
theorem cd_i0_555 : cd_I 0 555 = some (.iload 4, 0, 0) := by decide +kernel
theorem cd_i0_557 : cd_I 0 557 = some (.iconst 1, 0, 0) := by decide +kernel
theorem cd_i0_558 : cd_I 0 558 = some (.iadd, 0, 0) := by decide +kernel
theorem cd_i0_559 : cd_I 0 559 = some (.iaload, 0, 0) := by decide +kernel
theorem cd_i0_560 : cd_I 0 560 = some (.aload_n 0, 0, 0) := by decide +kernel
theorem cd_i0_561 : cd_I 0 561 = some (.iload 4, 0, 0) := by decide +kernel
theorem cd_i0_563 : cd_I 0 563 = some (.iconst 2, 0, 0) := by decide +kernel
theorem cd_i0_564 : cd_I 0 564 = some (.iadd, 0, 0) := by decide +kernel
theorem cd_i0_565 : cd_I 0 565 = some (.iaload, 0, 0) := by decide +kernel
theorem cd_i0_566 : cd_I 0 566 = some (.invokevirtual 91, 156, 2) := by decide +kernel
theorem cd_i0_569 : cd_I 0 569 = some (.if_icmp .eq 5, 574, 0) := by decide +kernel
theorem cd_i0_572 : cd_I 0 572 = some (.iconst 0, 0, 0) := by decide +kernel
theorem cd_i0_573 : cd_I 0 573 = some (.ireturn, 0, 0) := by decide +kernel
theorem cd_i0_574 : cd_I 0 574 = some (.iinc 4 3, 0, 0) := by decide +kernel
theorem cd_i0_577 : cd_I 0 577 = some (.goto (-554), 23, 0) := by decide +kernel
theorem cd_i0_580 : cd_I 0 580 = some (.iconst 1, 0, 0) := by decide +kernel
theorem cd_i0_581 : cd_I 0 581 = some (.ireturn, 0, 0) := by decide +kernel
theorem cd_i1_0 : cd_I 1 0 = some (.aload_n 0, 0, 0) := by decide +kernel
theorem cd_i1_1 : cd_I 1 1 = some (.invokespecial 1, 1000, 0) := by decide +kernel
theorem cd_i1_4 : cd_I 1 4 = some (.aload_n 0, 0, 0) := by decide +kernel
theorem cd_i1_5 : cd_I 1 5 = some (.new 7, 1, 0) := by decide +kernel
theorem cd_i1_8 : cd_I 1 8 = some (.dup, 0, 0) := by decide +kernel
theorem cd_i1_9 : cd_I 1 9 = some (.invokespecial 9, 2, 0) := by decide +kernel
theorem cd_i1_12 : cd_I 1 12 = some (.putfield 10, 0, 0) := by decide +kernel
theorem cd_i1_15 : cd_I 1 15 = some (.aload_n 0, 0, 0) := by decide +kernel
theorem cd_i1_16 : cd_I 1 16 = some (.new 16, 2, 0) := by decide +kernel
theorem cd_i1_19 : cd_I 1 19 = some (.dup, 0, 0) := by decide +kernel
theorem cd_i1_20 : cd_I 1 20 = some (.invokespecial 18, 3, 0) := by decide +kernel
theorem cd_i1_23 : cd_I 1 23 = some (.putfield 19, 0, 1) := by decide +kernel
theorem cd_i1_26 : cd_I 1 26 = some (.aload_n 0, 0, 0) := by decide +kernel
theorem cd_i1_27 : cd_I 1 27 = some (.new 23, 9, 0) := by decide +kernel
theorem cd_i1_30 : cd_I 1 30 = some (.dup, 0, 0) := by decide +kernel
theorem cd_i1_31 : cd_I 1 31 = some (.invokespecial 25, 4, 0) := by decide +kernel
theorem cd_i1_34 : cd_I 1 34 = some (.putfield 26, 0, 2) := by decide +kernel
theorem cd_i1_37 : cd_I 1 37 = some (.aload_n 0, 0, 0) := by decide +kernel
theorem cd_i1_38 : cd_I 1 38 = some (.new 30, 5, 0) := by decide +kernel
theorem cd_i1_41 : cd_I 1 41 = some (.dup, 0, 0) := by decide +kernel
theorem cd_i1_42 : cd_I 1 42 = some (.aload_n 0, 0, 0) := by decide +kernel
theorem cd_i1_43 : cd_I 1 43 = some (.getfield 10, 0, 0) := by decide +kernel
theorem cd_i1_46 : cd_I 1 46 = some (.aload_n 0, 0, 0) := by decide +kernel
theorem cd_i1_47 : cd_I 1 47 = some (.getfield 19, 0, 1) := by decide +kernel
theorem cd_i1_50 : cd_I 1 50 = some (.invokespecial 32, 5, 2) := by decide +kernel
theorem cd_i1_53 : cd_I 1 53 = some (.putfield 35, 0, 3) := by decide +kernel
theorem cd_i1_56 : cd_I 1 56 = some (.aload_n 0, 0, 0) := by decide +kernel
theorem cd_i1_57 : cd_I 1 57 = some (.new 39, 6, 0) := by decide +kernel
theorem cd_i1_60 : cd_I 1 60 = some (.dup, 0, 0) := by decide +kernel
theorem cd_i1_61 : cd_I 1 61 = some (.aload_n 0, 0, 0) := by decide +kernel
theorem cd_i1_62 : cd_I 1 62 = some (.getfield 10, 0, 0) := by decide +kernel
theorem cd_i1_65 : cd_I 1 65 = some (.aload_n 0, 0, 0) := by decide +kernel
theorem cd_i1_66 : cd_I 1 66 = some (.getfield 19, 0, 1) := by decide +kernel
theorem cd_i1_69 : cd_I 1 69 = some (.aload_n 0, 0, 0) := by decide +kernel
theorem cd_i1_70 : cd_I 1 70 = some (.getfield 26, 0, 2) := by decide +kernel
theorem cd_i1_73 : cd_I 1 73 = some (.invokespecial 41, 6, 3) := by decide +kernel
theorem cd_i1_76 : cd_I 1 76 = some (.putfield 44, 0, 4) := by decide +kernel
theorem cd_i1_79 : cd_I 1 79 = some (.aload_n 0, 0, 0) := by decide +kernel
theorem cd_i1_80 : cd_I 1 80 = some (.new 48, 3, 0) := by decide +kernel
theorem cd_i1_83 : cd_I 1 83 = some (.dup, 0, 0) := by decide +kernel
theorem cd_i1_84 : cd_I 1 84 = some (.aload_n 0, 0, 0) := by decide +kernel
theorem cd_i1_85 : cd_I 1 85 = some (.getfield 19, 0, 1) := by decide +kernel
theorem cd_i1_88 : cd_I 1 88 = some (.aload_n 0, 0, 0) := by decide +kernel
theorem cd_i1_89 : cd_I 1 89 = some (.getfield 26, 0, 2) := by decide +kernel
theorem cd_i1_92 : cd_I 1 92 = some (.invokespecial 50, 7, 2) := by decide +kernel
theorem cd_i1_95 : cd_I 1 95 = some (.putfield 53, 0, 5) := by decide +kernel
theorem cd_i1_98 : cd_I 1 98 = some (.aload_n 0, 0, 0) := by decide +kernel
theorem cd_i1_99 : cd_I 1 99 = some (.iconst 0, 0, 0) := by decide +kernel
theorem cd_i1_100 : cd_I 1 100 = some (.putfield 57, 0, 6) := by decide +kernel
theorem cd_i1_103 : cd_I 1 103 = some (.return_, 0, 0) := by decide +kernel
theorem cd_i2_0 : cd_I 2 0 = some (.aload_n 0, 0, 0) := by decide +kernel
theorem cd_i2_1 : cd_I 2 1 = some (.invokespecial 3, 1000, 0) := by decide +kernel
theorem cd_i2_4 : cd_I 2 4 = some (.aload_n 0, 0, 0) := by decide +kernel
theorem cd_i2_5 : cd_I 2 5 = some (.bipush 120, 0, 0) := by decide +kernel
theorem cd_i2_7 : cd_I 2 7 = some (.newarray .char, 0, 0) := by decide +kernel
theorem cd_i2_9 : cd_I 2 9 = some (.putfield 9, 1, 0) := by decide +kernel
theorem cd_i2_12 : cd_I 2 12 = some (.return_, 0, 0) := by decide +kernel
theorem cd_i3_0 : cd_I 3 0 = some (.aload_n 0, 0, 0) := by decide +kernel
theorem cd_i3_1 : cd_I 3 1 = some (.invokespecial 3, 1000, 0) := by decide +kernel
theorem cd_i3_4 : cd_I 3 4 = some (.aload_n 0, 0, 0) := by decide +kernel
theorem cd_i3_5 : cd_I 3 5 = some (.bipush 10, 0, 0) := by decide +kernel
theorem cd_i3_7 : cd_I 3 7 = some (.anewarray 9, 4, 0) := by decide +kernel
theorem cd_i3_10 : cd_I 3 10 = some (.putfield 11, 2, 0) := by decide +kernel
theorem cd_i3_13 : cd_I 3 13 = some (.aload_n 0, 0, 0) := by decide +kernel
theorem cd_i3_14 : cd_I 3 14 = some (.bipush 13, 0, 0) := by decide +kernel
theorem cd_i3_16 : cd_I 3 16 = some (.newarray .int, 0, 0) := by decide +kernel
theorem cd_i3_18 : cd_I 3 18 = some (.putfield 17, 2, 1) := by decide +kernel
theorem cd_i3_21 : cd_I 3 21 = some (.aload_n 0, 0, 0) := by decide +kernel
theorem cd_i3_22 : cd_I 3 22 = some (.iconst (-1), 0, 0) := by decide +kernel
theorem cd_i3_23 : cd_I 3 23 = some (.putfield 21, 2, 2) := by decide +kernel
theorem cd_i3_26 : cd_I 3 26 = some (.iconst 0, 0, 0) := by decide +kernel
theorem cd_i3_27 : cd_I 3 27 = some (.istore_n 1, 0, 0) := by decide +kernel
theorem cd_i3_28 : cd_I 3 28 = some (.iload_n 1, 0, 0) := by decide +kernel
theorem cd_i3_29 : cd_I 3 29 = some (.bipush 13, 0, 0) := by decide +kernel
theorem cd_i3_31 : cd_I 3 31 = some (.if_icmp .ge 18, 49, 0) := by decide +kernel
theorem cd_i3_34 : cd_I 3 34 = some (.aload_n 0, 0, 0) := by decide +kernel
theorem cd_i3_35 : cd_I 3 35 = some (.getfield 17, 2, 1) := by decide +kernel
theorem cd_i3_38 : cd_I 3 38 = some (.iload_n 1, 0, 0) := by decide +kernel
theorem cd_i3_39 : cd_I 3 39 = some (.iconst 1, 0, 0) := by decide +kernel
theorem cd_i3_40 : cd_I 3 40 = some (.iload_n 1, 0, 0) := by decide +kernel
theorem cd_i3_41 : cd_I 3 41 = some (.ishl, 0, 0) := by decide +kernel
theorem cd_i3_42 : cd_I 3 42 = some (.iastore, 0, 0) := by decide +kernel
theorem cd_i3_43 : cd_I 3 43 = some (.iinc 1 1, 0, 0) := by decide +kernel
theorem cd_i3_46 : cd_I 3 46 = some (.goto (-18), 28, 0) := by decide +kernel
theorem cd_i3_49 : cd_I 3 49 = some (.aload_n 0, 0, 0) := by decide +kernel
theorem cd_i3_50 : cd_I 3 50 = some (.getfield 17, 2, 1) := by decide +kernel
theorem cd_i3_53 : cd_I 3 53 = some (.iconst 0, 0, 0) := by decide +kernel
theorem cd_i3_54 : cd_I 3 54 = some (.dup2, 0, 0) := by decide +kernel
theorem cd_i3_55 : cd_I 3 55 = some (.iaload, 0, 0) := by decide +kernel
theorem cd_i3_56 : cd_I 3 56 = some (.iconst 2, 0, 0) := by decide +kernel
theorem cd_i3_57 : cd_I 3 57 = some (.ior, 0, 0) := by decide +kernel
theorem cd_i3_58 : cd_I 3 58 = some (.iastore, 0, 0) := by decide +kernel
theorem cd_i3_59 : cd_I 3 59 = some (.return_, 0, 0) := by decide +kernel
theorem cd_i4_0 : cd_I 4 0 = some (.aload_n 0, 0, 0) := by decide +kernel
theorem cd_i4_1 : cd_I 4 1 = some (.invokespecial 3, 1000, 0) := by decide +kernel
theorem cd_i4_4 : cd_I 4 4 = some (.aload_n 0, 0, 0) := by decide +kernel
theorem cd_i4_5 : cd_I 4 5 = some (.iconst 5, 0, 0) := by decide +kernel
theorem cd_i4_6 : cd_I 4 6 = some (.newarray .int, 0, 0) := by decide +kernel
theorem cd_i4_8 : cd_I 4 8 = some (.putfield 9, 9, 0) := by decide +kernel
theorem cd_i4_11 : cd_I 4 11 = some (.aload_n 0, 0, 0) := by decide +kernel
theorem cd_i4_12 : cd_I 4 12 = some (.iconst 5, 0, 0) := by decide +kernel
theorem cd_i4_13 : cd_I 4 13 = some (.newarray .int, 0, 0) := by decide +kernel
theorem cd_i4_15 : cd_I 4 15 = some (.putfield 15, 9, 1) := by decide +kernel
theorem cd_i4_18 : cd_I 4 18 = some (.return_, 0, 0) := by decide +kernel
theorem cd_i5_0 : cd_I 5 0 = some (.aload_n 0, 0, 0) := by decide +kernel
theorem cd_i5_1 : cd_I 5 1 = some (.invokespecial 3, 1000, 0) := by decide +kernel
theorem cd_i5_4 : cd_I 5 4 = some (.aload_n 0, 0, 0) := by decide +kernel
theorem cd_i5_5 : cd_I 5 5 = some (.aload_n 1, 0, 0) := by decide +kernel
theorem cd_i5_6 : cd_I 5 6 = some (.putfield 9, 5, 0) := by decide +kernel
theorem cd_i5_9 : cd_I 5 9 = some (.aload_n 0, 0, 0) := by decide +kernel
theorem cd_i5_10 : cd_I 5 10 = some (.aload_n 2, 0, 0) := by decide +kernel
theorem cd_i5_11 : cd_I 5 11 = some (.putfield 15, 5, 1) := by decide +kernel
theorem cd_i5_14 : cd_I 5 14 = some (.return_, 0, 0) := by decide +kernel
theorem cd_i6_0 : cd_I 6 0 = some (.aload_n 0, 0, 0) := by decide +kernel
theorem cd_i6_1 : cd_I 6 1 = some (.invokespecial 3, 1000, 0) := by decide +kernel
theorem cd_i6_4 : cd_I 6 4 = some (.aload_n 0, 0, 0) := by decide +kernel
theorem cd_i6_5 : cd_I 6 5 = some (.aload_n 1, 0, 0) := by decide +kernel
theorem cd_i6_6 : cd_I 6 6 = some (.putfield 9, 6, 0) := by decide +kernel
theorem cd_i6_9 : cd_I 6 9 = some (.aload_n 0, 0, 0) := by decide +kernel
theorem cd_i6_10 : cd_I 6 10 = some (.aload_n 2, 0, 0) := by decide +kernel
theorem cd_i6_11 : cd_I 6 11 = some (.putfield 15, 6, 1) := by decide +kernel
theorem cd_i6_14 : cd_I 6 14 = some (.aload_n 0, 0, 0) := by decide +kernel
theorem cd_i6_15 : cd_I 6 15 = some (.aload_n 3, 0, 0) := by decide +kernel
theorem cd_i6_16 : cd_I 6 16 = some (.putfield 19, 6, 2) := by decide +kernel
theorem cd_i6_19 : cd_I 6 19 = some (.return_, 0, 0) := by decide +kernel
theorem cd_i7_0 : cd_I 7 0 = some (.aload_n 0, 0, 0) := by decide +kernel
theorem cd_i7_1 : cd_I 7 1 = some (.invokespecial 3, 1000, 0) := by decide +kernel
theorem cd_i7_4 : cd_I 7 4 = some (.aload_n 0, 0, 0) := by decide +kernel
theorem cd_i7_5 : cd_I 7 5 = some (.iconst 4, 0, 0) := by decide +kernel
theorem cd_i7_6 : cd_I 7 6 = some (.anewarray 9, 10, 0) := by decide +kernel
theorem cd_i7_9 : cd_I 7 9 = some (.putfield 11, 3, 2) := by decide +kernel
theorem cd_i7_12 : cd_I 7 12 = some (.aload_n 0, 0, 0) := by decide +kernel
theorem cd_i7_13 : cd_I 7 13 = some (.bipush 10, 0, 0) := by decide +kernel
theorem cd_i7_15 : cd_I 7 15 = some (.anewarray 17, 8, 0) := by decide +kernel
theorem cd_i7_18 : cd_I 7 18 = some (.putfield 19, 3, 3) := by decide +kernel
theorem cd_i7_21 : cd_I 7 21 = some (.aload_n 0, 0, 0) := by decide +kernel
theorem cd_i7_22 : cd_I 7 22 = some (.new 17, 8, 0) := by decide +kernel
theorem cd_i7_25 : cd_I 7 25 = some (.dup, 0, 0) := by decide +kernel
theorem cd_i7_26 : cd_I 7 26 = some (.invokespecial 23, 8, 0) := by decide +kernel
theorem cd_i7_29 : cd_I 7 29 = some (.putfield 24, 3, 4) := by decide +kernel
theorem cd_i7_32 : cd_I 7 32 = some (.aload_n 0, 0, 0) := by decide +kernel
theorem cd_i7_33 : cd_I 7 33 = some (.aload_n 1, 0, 0) := by decide +kernel
theorem cd_i7_34 : cd_I 7 34 = some (.putfield 28, 3, 0) := by decide +kernel
theorem cd_i7_37 : cd_I 7 37 = some (.aload_n 0, 0, 0) := by decide +kernel
theorem cd_i7_38 : cd_I 7 38 = some (.aload_n 2, 0, 0) := by decide +kernel
theorem cd_i7_39 : cd_I 7 39 = some (.putfield 32, 3, 1) := by decide +kernel
theorem cd_i7_42 : cd_I 7 42 = some (.iconst 0, 0, 0) := by decide +kernel
theorem cd_i7_43 : cd_I 7 43 = some (.istore_n 3, 0, 0) := by decide +kernel
theorem cd_i7_44 : cd_I 7 44 = some (.iload_n 3, 0, 0) := by decide +kernel
theorem cd_i7_45 : cd_I 7 45 = some (.aload_n 0, 0, 0) := by decide +kernel
theorem cd_i7_46 : cd_I 7 46 = some (.getfield 11, 3, 2) := by decide +kernel
theorem cd_i7_49 : cd_I 7 49 = some (.arraylength, 0, 0) := by decide +kernel
theorem cd_i7_50 : cd_I 7 50 = some (.if_icmp .ge 22, 72, 0) := by decide +kernel
theorem cd_i7_53 : cd_I 7 53 = some (.aload_n 0, 0, 0) := by decide +kernel
theorem cd_i7_54 : cd_I 7 54 = some (.getfield 11, 3, 2) := by decide +kernel
theorem cd_i7_57 : cd_I 7 57 = some (.iload_n 3, 0, 0) := by decide +kernel
theorem cd_i7_58 : cd_I 7 58 = some (.new 9, 10, 0) := by decide +kernel
theorem cd_i7_61 : cd_I 7 61 = some (.dup, 0, 0) := by decide +kernel
theorem cd_i7_62 : cd_I 7 62 = some (.invokespecial 36, 9, 0) := by decide +kernel
theorem cd_i7_65 : cd_I 7 65 = some (.aastore, 0, 0) := by decide +kernel
theorem cd_i7_66 : cd_I 7 66 = some (.iinc 3 1, 0, 0) := by decide +kernel
theorem cd_i7_69 : cd_I 7 69 = some (.goto (-25), 44, 0) := by decide +kernel
theorem cd_i7_72 : cd_I 7 72 = some (.aload_n 0, 0, 0) := by decide +kernel
theorem cd_i7_73 : cd_I 7 73 = some (.aload_n 0, 0, 0) := by decide +kernel
theorem cd_i7_74 : cd_I 7 74 = some (.getfield 11, 3, 2) := by decide +kernel
theorem cd_i7_77 : cd_I 7 77 = some (.iconst 0, 0, 0) := by decide +kernel
theorem cd_i7_78 : cd_I 7 78 = some (.aaload, 0, 0) := by decide +kernel
theorem cd_i7_79 : cd_I 7 79 = some (.putfield 37, 3, 5) := by decide +kernel
theorem cd_i7_82 : cd_I 7 82 = some (.return_, 0, 0) := by decide +kernel
theorem cd_i8_0 : cd_I 8 0 = some (.aload_n 0, 0, 0) := by decide +kernel
theorem cd_i8_1 : cd_I 8 1 = some (.invokespecial 3, 1000, 0) := by decide +kernel
theorem cd_i8_4 : cd_I 8 4 = some (.aload_n 0, 0, 0) := by decide +kernel
theorem cd_i8_5 : cd_I 8 5 = some (.bipush 25, 0, 0) := by decide +kernel
theorem cd_i8_7 : cd_I 8 7 = some (.newarray .char, 0, 0) := by decide +kernel
theorem cd_i8_9 : cd_I 8 9 = some (.putfield 9, 8, 0) := by decide +kernel
theorem cd_i8_12 : cd_I 8 12 = some (.return_, 0, 0) := by decide +kernel
theorem cd_i9_0 : cd_I 9 0 = some (.aload_n 0, 0, 0) := by decide +kernel
theorem cd_i9_1 : cd_I 9 1 = some (.invokespecial 3, 1000, 0) := by decide +kernel
theorem cd_i9_4 : cd_I 9 4 = some (.aload_n 0, 0, 0) := by decide +kernel
theorem cd_i9_5 : cd_I 9 5 = some (.bipush 8, 0, 0) := by decide +kernel
theorem cd_i9_7 : cd_I 9 7 = some (.anewarray 9, 8, 0) := by decide +kernel
theorem cd_i9_10 : cd_I 9 10 = some (.putfield 11, 10, 0) := by decide +kernel
theorem cd_i9_13 : cd_I 9 13 = some (.iconst 0, 0, 0) := by decide +kernel
theorem cd_i9_14 : cd_I 9 14 = some (.istore_n 1, 0, 0) := by decide +kernel
theorem cd_i9_15 : cd_I 9 15 = some (.iload_n 1, 0, 0) := by decide +kernel
theorem cd_i9_16 : cd_I 9 16 = some (.aload_n 0, 0, 0) := by decide +kernel
theorem cd_i9_17 : cd_I 9 17 = some (.getfield 11, 10, 0) := by decide +kernel
theorem cd_i9_20 : cd_I 9 20 = some (.arraylength, 0, 0) := by decide +kernel
theorem cd_i9_21 : cd_I 9 21 = some (.if_icmp .ge 22, 43, 0) := by decide +kernel
theorem cd_i9_24 : cd_I 9 24 = some (.aload_n 0, 0, 0) := by decide +kernel
theorem cd_i9_25 : cd_I 9 25 = some (.getfield 11, 10, 0) := by decide +kernel
theorem cd_i9_28 : cd_I 9 28 = some (.iload_n 1, 0, 0) := by decide +kernel
theorem cd_i9_29 : cd_I 9 29 = some (.new 9, 8, 0) := by decide +kernel
theorem cd_i9_32 : cd_I 9 32 = some (.dup, 0, 0) := by decide +kernel
theorem cd_i9_33 : cd_I 9 33 = some (.invokespecial 17, 8, 0) := by decide +kernel
theorem cd_i9_36 : cd_I 9 36 = some (.aastore, 0, 0) := by decide +kernel
theorem cd_i9_37 : cd_I 9 37 = some (.iinc 1 1, 0, 0) := by decide +kernel
theorem cd_i9_40 : cd_I 9 40 = some (.goto (-25), 15, 0) := by decide +kernel
theorem cd_i9_43 : cd_I 9 43 = some (.return_, 0, 0) := by decide +kernel
theorem cd_i10_0 : cd_I 10 0 = some (.aload_n 0, 0, 0) := by decide +kernel
theorem cd_i10_1 : cd_I 10 1 = some (.getfield 10, 0, 0) := by decide +kernel
theorem cd_i10_4 : cd_I 10 4 = some (.iload_n 1, 0, 0) := by decide +kernel
theorem cd_i10_5 : cd_I 10 5 = some (.iload_n 2, 0, 0) := by decide +kernel
theorem cd_i10_6 : cd_I 10 6 = some (.invokevirtual 61, 11, 2) := by decide +kernel
theorem cd_i10_9 : cd_I 10 9 = some (.ireturn, 0, 0) := by decide +kernel
theorem cd_i11_0 : cd_I 11 0 = some (.iload_n 2, 0, 0) := by decide +kernel
theorem cd_i11_1 : cd_I 11 1 = some (.iconst 1, 0, 0) := by decide +kernel
theorem cd_i11_2 : cd_I 11 2 = some (.if_icmp .lt 19, 21, 0) := by decide +kernel
theorem cd_i11_5 : cd_I 11 5 = some (.iload_n 2, 0, 0) := by decide +kernel
theorem cd_i11_6 : cd_I 11 6 = some (.iconst 4, 0, 0) := by decide +kernel
theorem cd_i11_7 : cd_I 11 7 = some (.if_icmp .gt 14, 21, 0) := by decide +kernel
theorem cd_i11_10 : cd_I 11 10 = some (.iload_n 2, 0, 0) := by decide +kernel
theorem cd_i11_11 : cd_I 11 11 = some (.bipush 120, 0, 0) := by decide +kernel
theorem cd_i11_13 : cd_I 11 13 = some (.aload_n 0, 0, 0) := by decide +kernel
theorem cd_i11_14 : cd_I 11 14 = some (.getfield 15, 1, 1) := by decide +kernel
theorem cd_i11_17 : cd_I 11 17 = some (.isub, 0, 0) := by decide +kernel
theorem cd_i11_18 : cd_I 11 18 = some (.if_icmp .le 5, 23, 0) := by decide +kernel
theorem cd_i11_21 : cd_I 11 21 = some (.iconst 0, 0, 0) := by decide +kernel
theorem cd_i11_22 : cd_I 11 22 = some (.ireturn, 0, 0) := by decide +kernel
theorem cd_i11_23 : cd_I 11 23 = some (.iconst 0, 0, 0) := by decide +kernel
theorem cd_i11_24 : cd_I 11 24 = some (.istore_n 3, 0, 0) := by decide +kernel
theorem cd_i11_25 : cd_I 11 25 = some (.iload_n 3, 0, 0) := by decide +kernel
theorem cd_i11_26 : cd_I 11 26 = some (.iload_n 2, 0, 0) := by decide +kernel
theorem cd_i11_27 : cd_I 11 27 = some (.if_icmp .ge 55, 82, 0) := by decide +kernel
theorem cd_i11_30 : cd_I 11 30 = some (.iload_n 1, 0, 0) := by decide +kernel
theorem cd_i11_31 : cd_I 11 31 = some (.bipush 8, 0, 0) := by decide +kernel
theorem cd_i11_33 : cd_I 11 33 = some (.iload_n 2, 0, 0) := by decide +kernel
theorem cd_i11_34 : cd_I 11 34 = some (.iconst 1, 0, 0) := by decide +kernel
theorem cd_i11_35 : cd_I 11 35 = some (.isub, 0, 0) := by decide +kernel
theorem cd_i11_36 : cd_I 11 36 = some (.iload_n 3, 0, 0) := by decide +kernel
theorem cd_i11_37 : cd_I 11 37 = some (.isub, 0, 0) := by decide +kernel
theorem cd_i11_38 : cd_I 11 38 = some (.imul, 0, 0) := by decide +kernel
theorem cd_i11_39 : cd_I 11 39 = some (.ishr, 0, 0) := by decide +kernel
theorem cd_i11_40 : cd_I 11 40 = some (.sipush 255, 0, 0) := by decide +kernel
theorem cd_i11_43 : cd_I 11 43 = some (.iand, 0, 0) := by decide +kernel
theorem cd_i11_44 : cd_I 11 44 = some (.istore 4, 0, 0) := by decide +kernel
theorem cd_i11_46 : cd_I 11 46 = some (.iload 4, 0, 0) := by decide +kernel
theorem cd_i11_48 : cd_I 11 48 = some (.bipush 32, 0, 0) := by decide +kernel
theorem cd_i11_50 : cd_I 11 50 = some (.if_icmp .lt 10, 60, 0) := by decide +kernel
theorem cd_i11_53 : cd_I 11 53 = some (.iload 4, 0, 0) := by decide +kernel
theorem cd_i11_55 : cd_I 11 55 = some (.bipush 126, 0, 0) := by decide +kernel
theorem cd_i11_57 : cd_I 11 57 = some (.if_icmp .le 5, 62, 0) := by decide +kernel
theorem cd_i11_60 : cd_I 11 60 = some (.iconst 0, 0, 0) := by decide +kernel
theorem cd_i11_61 : cd_I 11 61 = some (.ireturn, 0, 0) := by decide +kernel
theorem cd_i11_62 : cd_I 11 62 = some (.aload_n 0, 0, 0) := by decide +kernel
theorem cd_i11_63 : cd_I 11 63 = some (.getfield 9, 1, 0) := by decide +kernel
theorem cd_i11_66 : cd_I 11 66 = some (.aload_n 0, 0, 0) := by decide +kernel
theorem cd_i11_67 : cd_I 11 67 = some (.getfield 15, 1, 1) := by decide +kernel
theorem cd_i11_70 : cd_I 11 70 = some (.iload_n 3, 0, 0) := by decide +kernel
theorem cd_i11_71 : cd_I 11 71 = some (.iadd, 0, 0) := by decide +kernel
theorem cd_i11_72 : cd_I 11 72 = some (.iload 4, 0, 0) := by decide +kernel
theorem cd_i11_74 : cd_I 11 74 = some (.i2c, 0, 0) := by decide +kernel
theorem cd_i11_75 : cd_I 11 75 = some (.castore, 0, 0) := by decide +kernel
theorem cd_i11_76 : cd_I 11 76 = some (.iinc 3 1, 0, 0) := by decide +kernel
theorem cd_i11_79 : cd_I 11 79 = some (.goto (-54), 25, 0) := by decide +kernel
theorem cd_i11_82 : cd_I 11 82 = some (.aload_n 0, 0, 0) := by decide +kernel
theorem cd_i11_83 : cd_I 11 83 = some (.dup, 0, 0) := by decide +kernel
theorem cd_i11_84 : cd_I 11 84 = some (.getfield 15, 1, 1) := by decide +kernel
theorem cd_i11_87 : cd_I 11 87 = some (.iload_n 2, 0, 0) := by decide +kernel
theorem cd_i11_88 : cd_I 11 88 = some (.iadd, 0, 0) := by decide +kernel
theorem cd_i11_89 : cd_I 11 89 = some (.putfield 15, 1, 1) := by decide +kernel
theorem cd_i11_92 : cd_I 11 92 = some (.iconst 1, 0, 0) := by decide +kernel
theorem cd_i11_93 : cd_I 11 93 = some (.ireturn, 0, 0) := by decide +kernel
theorem cd_i12_0 : cd_I 12 0 = some (.aload_n 0, 0, 0) := by decide +kernel
theorem cd_i12_1 : cd_I 12 1 = some (.getfield 26, 0, 2) := by decide +kernel
theorem cd_i12_4 : cd_I 12 4 = some (.iconst 0, 0, 0) := by decide +kernel
theorem cd_i12_5 : cd_I 12 5 = some (.putfield 100, 9, 2) := by decide +kernel
theorem cd_i12_8 : cd_I 12 8 = some (.return_, 0, 0) := by decide +kernel
theorem cd_i13_0 : cd_I 13 0 = some (.aload_n 0, 0, 0) := by decide +kernel
theorem cd_i13_1 : cd_I 13 1 = some (.getfield 57, 0, 6) := by decide +kernel
theorem cd_i13_4 : cd_I 13 4 = some (.ireturn, 0, 0) := by decide +kernel
theorem cd_i14_0 : cd_I 14 0 = some (.iload_n 1, 0, 0) := by decide +kernel
theorem cd_i14_1 : cd_I 14 1 = some (.invokestatic 108, 15, 1) := by decide +kernel
theorem cd_i14_4 : cd_I 14 4 = some (.ifCond .eq 26, 30, 0) := by decide +kernel
theorem cd_i14_7 : cd_I 14 7 = some (.iload_n 2, 0, 0) := by decide +kernel
theorem cd_i14_8 : cd_I 14 8 = some (.invokestatic 108, 15, 1) := by decide +kernel
theorem cd_i14_11 : cd_I 14 11 = some (.ifCond .eq 19, 30, 0) := by decide +kernel
theorem cd_i14_14 : cd_I 14 14 = some (.aload_n 0, 0, 0) := by decide +kernel
theorem cd_i14_15 : cd_I 14 15 = some (.getfield 19, 0, 1) := by decide +kernel
theorem cd_i14_18 : cd_I 14 18 = some (.iload_n 1, 0, 0) := by decide +kernel
theorem cd_i14_19 : cd_I 14 19 = some (.iload_n 2, 0, 0) := by decide +kernel
theorem cd_i14_20 : cd_I 14 20 = some (.invokevirtual 129, 16, 2) := by decide +kernel
theorem cd_i14_23 : cd_I 14 23 = some (.ifCond .eq 7, 30, 0) := by decide +kernel
theorem cd_i14_26 : cd_I 14 26 = some (.iconst 1, 0, 0) := by decide +kernel
theorem cd_i14_27 : cd_I 14 27 = some (.goto 4, 31, 0) := by decide +kernel
theorem cd_i14_30 : cd_I 14 30 = some (.iconst 0, 0, 0) := by decide +kernel
theorem cd_i14_31 : cd_I 14 31 = some (.ireturn, 0, 0) := by decide +kernel
theorem cd_i15_0 : cd_I 15 0 = some (.iload_n 0, 0, 0) := by decide +kernel
theorem cd_i15_1 : cd_I 15 1 = some (.ifCond .lt 13, 14, 0) := by decide +kernel
theorem cd_i15_4 : cd_I 15 4 = some (.iload_n 0, 0, 0) := by decide +kernel
theorem cd_i15_5 : cd_I 15 5 = some (.bipush 13, 0, 0) := by decide +kernel
theorem cd_i15_7 : cd_I 15 7 = some (.if_icmp .ge 7, 14, 0) := by decide +kernel
theorem cd_i15_10 : cd_I 15 10 = some (.iconst 1, 0, 0) := by decide +kernel
theorem cd_i15_11 : cd_I 15 11 = some (.goto 4, 15, 0) := by decide +kernel
theorem cd_i15_14 : cd_I 15 14 = some (.iconst 0, 0, 0) := by decide +kernel
theorem cd_i15_15 : cd_I 15 15 = some (.ireturn, 0, 0) := by decide +kernel
theorem cd_i16_0 : cd_I 16 0 = some (.aload_n 0, 0, 0) := by decide +kernel
theorem cd_i16_1 : cd_I 16 1 = some (.getfield 17, 2, 1) := by decide +kernel
theorem cd_i16_4 : cd_I 16 4 = some (.iload_n 1, 0, 0) := by decide +kernel
theorem cd_i16_5 : cd_I 16 5 = some (.iaload, 0, 0) := by decide +kernel
theorem cd_i16_6 : cd_I 16 6 = some (.iload_n 2, 0, 0) := by decide +kernel
theorem cd_i16_7 : cd_I 16 7 = some (.ishr, 0, 0) := by decide +kernel
theorem cd_i16_8 : cd_I 16 8 = some (.iconst 1, 0, 0) := by decide +kernel
theorem cd_i16_9 : cd_I 16 9 = some (.iand, 0, 0) := by decide +kernel
theorem cd_i16_10 : cd_I 16 10 = some (.iconst 1, 0, 0) := by decide +kernel
theorem cd_i16_11 : cd_I 16 11 = some (.if_icmp .ne 7, 18, 0) := by decide +kernel
theorem cd_i16_14 : cd_I 16 14 = some (.iconst 1, 0, 0) := by decide +kernel
theorem cd_i16_15 : cd_I 16 15 = some (.goto 4, 19, 0) := by decide +kernel
theorem cd_i16_18 : cd_I 16 18 = some (.iconst 0, 0, 0) := by decide +kernel
theorem cd_i16_19 : cd_I 16 19 = some (.ireturn, 0, 0) := by decide +kernel
theorem cd_i17_0 : cd_I 17 0 = some (.aload_n 0, 0, 0) := by decide +kernel
theorem cd_i17_1 : cd_I 17 1 = some (.getfield 53, 0, 5) := by decide +kernel
theorem cd_i17_4 : cd_I 17 4 = some (.iload_n 1, 0, 0) := by decide +kernel
theorem cd_i17_5 : cd_I 17 5 = some (.invokevirtual 132, 18, 1) := by decide +kernel
theorem cd_i17_8 : cd_I 17 8 = some (.astore_n 3, 0, 0) := by decide +kernel
theorem cd_i17_9 : cd_I 17 9 = some (.aload_n 3, 0, 0) := by decide +kernel
theorem cd_i17_10 : cd_I 17 10 = some (.ifnonnull 5, 15, 0) := by decide +kernel
theorem cd_i17_13 : cd_I 17 13 = some (.iconst (-1), 0, 0) := by decide +kernel
theorem cd_i17_14 : cd_I 17 14 = some (.ireturn, 0, 0) := by decide +kernel
theorem cd_i17_15 : cd_I 17 15 = some (.iload_n 2, 0, 0) := by decide +kernel
theorem cd_i17_16 : cd_I 17 16 = some (.tableswitch 43 0 2 #[28, 33, 38], 0, 0) := by decide +kernel
theorem cd_i17_44 : cd_I 17 44 = some (.aload_n 3, 0, 0) := by decide +kernel
theorem cd_i17_45 : cd_I 17 45 = some (.getfield 136, 8, 1) := by decide +kernel
theorem cd_i17_48 : cd_I 17 48 = some (.ireturn, 0, 0) := by decide +kernel
theorem cd_i17_49 : cd_I 17 49 = some (.aload_n 3, 0, 0) := by decide +kernel
theorem cd_i17_50 : cd_I 17 50 = some (.getfield 141, 8, 3) := by decide +kernel
theorem cd_i17_53 : cd_I 17 53 = some (.ireturn, 0, 0) := by decide +kernel
theorem cd_i17_54 : cd_I 17 54 = some (.aload_n 3, 0, 0) := by decide +kernel
theorem cd_i17_55 : cd_I 17 55 = some (.getfield 142, 8, 2) := by decide +kernel
theorem cd_i17_58 : cd_I 17 58 = some (.ireturn, 0, 0) := by decide +kernel
theorem cd_i17_59 : cd_I 17 59 = some (.iconst (-1), 0, 0) := by decide +kernel
theorem cd_i17_60 : cd_I 17 60 = some (.ireturn, 0, 0) := by decide +kernel
theorem cd_i18_0 : cd_I 18 0 = some (.iload_n 1, 0, 0) := by decide +kernel
theorem cd_i18_1 : cd_I 18 1 = some (.ifCond .lt 20, 21, 0) := by decide +kernel
theorem cd_i18_4 : cd_I 18 4 = some (.iload_n 1, 0, 0) := by decide +kernel
theorem cd_i18_5 : cd_I 18 5 = some (.aload_n 0, 0, 0) := by decide +kernel
theorem cd_i18_6 : cd_I 18 6 = some (.getfield 83, 3, 6) := by decide +kernel
theorem cd_i18_9 : cd_I 18 9 = some (.if_icmp .ge 12, 21, 0) := by decide +kernel
theorem cd_i18_12 : cd_I 18 12 = some (.aload_n 0, 0, 0) := by decide +kernel
theorem cd_i18_13 : cd_I 18 13 = some (.getfield 19, 3, 3) := by decide +kernel
theorem cd_i18_16 : cd_I 18 16 = some (.iload_n 1, 0, 0) := by decide +kernel
theorem cd_i18_17 : cd_I 18 17 = some (.aaload, 0, 0) := by decide +kernel
theorem cd_i18_18 : cd_I 18 18 = some (.goto 4, 22, 0) := by decide +kernel
theorem cd_i18_21 : cd_I 18 21 = some (.aconst_null, 0, 0) := by decide +kernel
theorem cd_i18_22 : cd_I 18 22 = some (.areturn, 0, 0) := by decide +kernel
theorem cd_i19_0 : cd_I 19 0 = some (.aload_n 0, 0, 0) := by decide +kernel
theorem cd_i19_1 : cd_I 19 1 = some (.getfield 53, 0, 5) := by decide +kernel
theorem cd_i19_4 : cd_I 19 4 = some (.iload_n 1, 0, 0) := by decide +kernel
theorem cd_i19_5 : cd_I 19 5 = some (.invokevirtual 132, 18, 1) := by decide +kernel
theorem cd_i19_8 : cd_I 19 8 = some (.astore_n 3, 0, 0) := by decide +kernel
theorem cd_i19_9 : cd_I 19 9 = some (.aload_n 3, 0, 0) := by decide +kernel
theorem cd_i19_10 : cd_I 19 10 = some (.ifnonnull 7, 17, 0) := by decide +kernel
theorem cd_i19_13 : cd_I 19 13 = some (.iconst 0, 0, 0) := by decide +kernel
theorem cd_i19_14 : cd_I 19 14 = some (.goto 8, 22, 0) := by decide +kernel
theorem cd_i19_17 : cd_I 19 17 = some (.aload_n 3, 0, 0) := by decide +kernel
theorem cd_i19_18 : cd_I 19 18 = some (.iload_n 2, 0, 0) := by decide +kernel
theorem cd_i19_19 : cd_I 19 19 = some (.invokevirtual 145, 20, 1) := by decide +kernel
theorem cd_i19_22 : cd_I 19 22 = some (.ireturn, 0, 0) := by decide +kernel
theorem cd_i20_0 : cd_I 20 0 = some (.iload_n 1, 0, 0) := by decide +kernel
theorem cd_i20_1 : cd_I 20 1 = some (.ifCond .lt 20, 21, 0) := by decide +kernel
theorem cd_i20_4 : cd_I 20 4 = some (.iload_n 1, 0, 0) := by decide +kernel
theorem cd_i20_5 : cd_I 20 5 = some (.aload_n 0, 0, 0) := by decide +kernel
theorem cd_i20_6 : cd_I 20 6 = some (.getfield 15, 8, 1) := by decide +kernel
theorem cd_i20_9 : cd_I 20 9 = some (.if_icmp .ge 12, 21, 0) := by decide +kernel
theorem cd_i20_12 : cd_I 20 12 = some (.aload_n 0, 0, 0) := by decide +kernel
theorem cd_i20_13 : cd_I 20 13 = some (.getfield 9, 8, 0) := by decide +kernel
theorem cd_i20_16 : cd_I 20 16 = some (.iload_n 1, 0, 0) := by decide +kernel
theorem cd_i20_17 : cd_I 20 17 = some (.caload, 0, 0) := by decide +kernel
theorem cd_i20_18 : cd_I 20 18 = some (.goto 4, 22, 0) := by decide +kernel
theorem cd_i20_21 : cd_I 20 21 = some (.iconst 0, 0, 0) := by decide +kernel
theorem cd_i20_22 : cd_I 20 22 = some (.ireturn, 0, 0) := by decide +kernel
theorem cd_i21_0 : cd_I 21 0 = some (.aload_n 0, 0, 0) := by decide +kernel
theorem cd_i21_1 : cd_I 21 1 = some (.getfield 19, 0, 1) := by decide +kernel
theorem cd_i21_4 : cd_I 21 4 = some (.iload_n 1, 0, 0) := by decide +kernel
theorem cd_i21_5 : cd_I 21 5 = some (.invokevirtual 149, 22, 1) := by decide +kernel
theorem cd_i21_8 : cd_I 21 8 = some (.astore_n 2, 0, 0) := by decide +kernel
theorem cd_i21_9 : cd_I 21 9 = some (.aload_n 2, 0, 0) := by decide +kernel
theorem cd_i21_10 : cd_I 21 10 = some (.ifnonnull 7, 17, 0) := by decide +kernel
theorem cd_i21_13 : cd_I 21 13 = some (.iconst (-1), 0, 0) := by decide +kernel
theorem cd_i21_14 : cd_I 21 14 = some (.goto 7, 21, 0) := by decide +kernel
theorem cd_i21_17 : cd_I 21 17 = some (.aload_n 2, 0, 0) := by decide +kernel
theorem cd_i21_18 : cd_I 21 18 = some (.getfield 89, 4, 3) := by decide +kernel
theorem cd_i21_21 : cd_I 21 21 = some (.ireturn, 0, 0) := by decide +kernel
theorem cd_i22_0 : cd_I 22 0 = some (.iload_n 1, 0, 0) := by decide +kernel
theorem cd_i22_1 : cd_I 22 1 = some (.ifCond .lt 21, 22, 0) := by decide +kernel
theorem cd_i22_4 : cd_I 22 4 = some (.iload_n 1, 0, 0) := by decide +kernel
theorem cd_i22_5 : cd_I 22 5 = some (.aload_n 0, 0, 0) := by decide +kernel
theorem cd_i22_6 : cd_I 22 6 = some (.getfield 11, 2, 0) := by decide +kernel
theorem cd_i22_9 : cd_I 22 9 = some (.arraylength, 0, 0) := by decide +kernel
theorem cd_i22_10 : cd_I 22 10 = some (.if_icmp .ge 12, 22, 0) := by decide +kernel
theorem cd_i22_13 : cd_I 22 13 = some (.aload_n 0, 0, 0) := by decide +kernel
theorem cd_i22_14 : cd_I 22 14 = some (.getfield 11, 2, 0) := by decide +kernel
theorem cd_i22_17 : cd_I 22 17 = some (.iload_n 1, 0, 0) := by decide +kernel
theorem cd_i22_18 : cd_I 22 18 = some (.aaload, 0, 0) := by decide +kernel
theorem cd_i22_19 : cd_I 22 19 = some (.goto 4, 23, 0) := by decide +kernel
theorem cd_i22_22 : cd_I 22 22 = some (.aconst_null, 0, 0) := by decide +kernel
theorem cd_i22_23 : cd_I 22 23 = some (.areturn, 0, 0) := by decide +kernel
theorem cd_i23_0 : cd_I 23 0 = some (.iload_n 1, 0, 0) := by decide +kernel
theorem cd_i23_1 : cd_I 23 1 = some (.invokestatic 101, 24, 1) := by decide +kernel
theorem cd_i23_4 : cd_I 23 4 = some (.ifCond .eq 12, 16, 0) := by decide +kernel
theorem cd_i23_7 : cd_I 23 7 = some (.iload_n 2, 0, 0) := by decide +kernel
theorem cd_i23_8 : cd_I 23 8 = some (.ifCond .lt 8, 16, 0) := by decide +kernel
theorem cd_i23_11 : cd_I 23 11 = some (.iload_n 2, 0, 0) := by decide +kernel
theorem cd_i23_12 : cd_I 23 12 = some (.iconst 1, 0, 0) := by decide +kernel
theorem cd_i23_13 : cd_I 23 13 = some (.if_icmp .le 5, 18, 0) := by decide +kernel
theorem cd_i23_16 : cd_I 23 16 = some (.iconst (-1), 0, 0) := by decide +kernel
theorem cd_i23_17 : cd_I 23 17 = some (.ireturn, 0, 0) := by decide +kernel
theorem cd_i23_18 : cd_I 23 18 = some (.aload_n 0, 0, 0) := by decide +kernel
theorem cd_i23_19 : cd_I 23 19 = some (.getfield 19, 0, 1) := by decide +kernel
theorem cd_i23_22 : cd_I 23 22 = some (.iload_n 1, 0, 0) := by decide +kernel
theorem cd_i23_23 : cd_I 23 23 = some (.iload_n 2, 0, 0) := by decide +kernel
theorem cd_i23_24 : cd_I 23 24 = some (.ifCond .ne 9, 33, 0) := by decide +kernel
theorem cd_i23_27 : cd_I 23 27 = some (.getstatic 153, 0, 0) := by decide +kernel
theorem cd_i23_30 : cd_I 23 30 = some (.goto 6, 36, 0) := by decide +kernel
theorem cd_i23_33 : cd_I 23 33 = some (.getstatic 159, 1, 0) := by decide +kernel
theorem cd_i23_36 : cd_I 23 36 = some (.invokevirtual 162, 25, 2) := by decide +kernel
theorem cd_i23_39 : cd_I 23 39 = some (.ireturn, 0, 0) := by decide +kernel
theorem cd_i24_0 : cd_I 24 0 = some (.iload_n 0, 0, 0) := by decide +kernel
theorem cd_i24_1 : cd_I 24 1 = some (.ifCond .lt 13, 14, 0) := by decide +kernel
theorem cd_i24_4 : cd_I 24 4 = some (.iload_n 0, 0, 0) := by decide +kernel
theorem cd_i24_5 : cd_I 24 5 = some (.bipush 10, 0, 0) := by decide +kernel
theorem cd_i24_7 : cd_I 24 7 = some (.if_icmp .ge 7, 14, 0) := by decide +kernel
theorem cd_i24_10 : cd_I 24 10 = some (.iconst 1, 0, 0) := by decide +kernel
theorem cd_i24_11 : cd_I 24 11 = some (.goto 4, 15, 0) := by decide +kernel
theorem cd_i24_14 : cd_I 24 14 = some (.iconst 0, 0, 0) := by decide +kernel
theorem cd_i24_15 : cd_I 24 15 = some (.ireturn, 0, 0) := by decide +kernel
theorem cd_i25_0 : cd_I 25 0 = some (.iconst 0, 0, 0) := by decide +kernel
theorem cd_i25_1 : cd_I 25 1 = some (.istore_n 3, 0, 0) := by decide +kernel
theorem cd_i25_2 : cd_I 25 2 = some (.aload_n 0, 0, 0) := by decide +kernel
theorem cd_i25_3 : cd_I 25 3 = some (.iload_n 1, 0, 0) := by decide +kernel
theorem cd_i25_4 : cd_I 25 4 = some (.invokevirtual 28, 22, 1) := by decide +kernel
theorem cd_i25_7 : cd_I 25 7 = some (.astore 4, 0, 0) := by decide +kernel
theorem cd_i25_9 : cd_I 25 9 = some (.aload 4, 0, 0) := by decide +kernel
theorem cd_i25_11 : cd_I 25 11 = some (.ifnull 66, 77, 0) := by decide +kernel
theorem cd_i25_14 : cd_I 25 14 = some (.iconst 0, 0, 0) := by decide +kernel
theorem cd_i25_15 : cd_I 25 15 = some (.istore 5, 0, 0) := by decide +kernel
theorem cd_i25_17 : cd_I 25 17 = some (.iload 5, 0, 0) := by decide +kernel
theorem cd_i25_19 : cd_I 25 19 = some (.aload 4, 0, 0) := by decide +kernel
theorem cd_i25_21 : cd_I 25 21 = some (.getfield 69, 4, 3) := by decide +kernel
theorem cd_i25_24 : cd_I 25 24 = some (.if_icmp .ge 43, 67, 0) := by decide +kernel
theorem cd_i25_27 : cd_I 25 27 = some (.aload 4, 0, 0) := by decide +kernel
theorem cd_i25_29 : cd_I 25 29 = some (.getfield 72, 4, 2) := by decide +kernel
theorem cd_i25_32 : cd_I 25 32 = some (.iload 5, 0, 0) := by decide +kernel
theorem cd_i25_34 : cd_I 25 34 = some (.aaload, 0, 0) := by decide +kernel
theorem cd_i25_35 : cd_I 25 35 = some (.getfield 53, 7, 0) := by decide +kernel
theorem cd_i25_38 : cd_I 25 38 = some (.aload_n 2, 0, 0) := by decide +kernel
theorem cd_i25_39 : cd_I 25 39 = some (.if_acmp .ne 22, 61, 0) := by decide +kernel
theorem cd_i25_42 : cd_I 25 42 = some (.aload_n 0, 0, 0) := by decide +kernel
theorem cd_i25_43 : cd_I 25 43 = some (.iload_n 1, 0, 0) := by decide +kernel
theorem cd_i25_44 : cd_I 25 44 = some (.aload 4, 0, 0) := by decide +kernel
theorem cd_i25_46 : cd_I 25 46 = some (.getfield 72, 4, 2) := by decide +kernel
theorem cd_i25_49 : cd_I 25 49 = some (.iload 5, 0, 0) := by decide +kernel
theorem cd_i25_51 : cd_I 25 51 = some (.aaload, 0, 0) := by decide +kernel
theorem cd_i25_52 : cd_I 25 52 = some (.invokevirtual 76, 26, 2) := by decide +kernel
theorem cd_i25_55 : cd_I 25 55 = some (.ifCond .eq 6, 61, 0) := by decide +kernel
theorem cd_i25_58 : cd_I 25 58 = some (.iinc 3 1, 0, 0) := by decide +kernel
theorem cd_i25_61 : cd_I 25 61 = some (.iinc 5 1, 0, 0) := by decide +kernel
theorem cd_i25_64 : cd_I 25 64 = some (.goto (-47), 17, 0) := by decide +kernel
theorem cd_i25_67 : cd_I 25 67 = some (.aload 4, 0, 0) := by decide +kernel
theorem cd_i25_69 : cd_I 25 69 = some (.getfield 32, 4, 1) := by decide +kernel
theorem cd_i25_72 : cd_I 25 72 = some (.astore 4, 0, 0) := by decide +kernel
theorem cd_i25_74 : cd_I 25 74 = some (.goto (-65), 9, 0) := by decide +kernel
theorem cd_i25_77 : cd_I 25 77 = some (.iload_n 3, 0, 0) := by decide +kernel
theorem cd_i25_78 : cd_I 25 78 = some (.ireturn, 0, 0) := by decide +kernel
theorem cd_i26_0 : cd_I 26 0 = some (.aload_n 2, 0, 0) := by decide +kernel
theorem cd_i26_1 : cd_I 26 1 = some (.getfield 53, 7, 0) := by decide +kernel
theorem cd_i26_4 : cd_I 26 4 = some (.getstatic 57, 2, 0) := by decide +kernel
theorem cd_i26_7 : cd_I 26 7 = some (.if_acmp .eq 24, 31, 0) := by decide +kernel
theorem cd_i26_10 : cd_I 26 10 = some (.aload_n 0, 0, 0) := by decide +kernel
theorem cd_i26_11 : cd_I 26 11 = some (.iload_n 1, 0, 0) := by decide +kernel
theorem cd_i26_12 : cd_I 26 12 = some (.aload_n 2, 0, 0) := by decide +kernel
theorem cd_i26_13 : cd_I 26 13 = some (.getfield 53, 7, 0) := by decide +kernel
theorem cd_i26_16 : cd_I 26 16 = some (.aload_n 2, 0, 0) := by decide +kernel
theorem cd_i26_17 : cd_I 26 17 = some (.getfield 62, 7, 3) := by decide +kernel
theorem cd_i26_20 : cd_I 26 20 = some (.invokevirtual 65, 27, 3) := by decide +kernel
theorem cd_i26_23 : cd_I 26 23 = some (.aload_n 2, 0, 0) := by decide +kernel
theorem cd_i26_24 : cd_I 26 24 = some (.if_acmp .ne 7, 31, 0) := by decide +kernel
theorem cd_i26_27 : cd_I 26 27 = some (.iconst 1, 0, 0) := by decide +kernel
theorem cd_i26_28 : cd_I 26 28 = some (.goto 4, 32, 0) := by decide +kernel
theorem cd_i26_31 : cd_I 26 31 = some (.iconst 0, 0, 0) := by decide +kernel
theorem cd_i26_32 : cd_I 26 32 = some (.ireturn, 0, 0) := by decide +kernel
theorem cd_i27_0 : cd_I 27 0 = some (.aload_n 0, 0, 0) := by decide +kernel
theorem cd_i27_1 : cd_I 27 1 = some (.iload_n 1, 0, 0) := by decide +kernel
theorem cd_i27_2 : cd_I 27 2 = some (.invokevirtual 28, 22, 1) := by decide +kernel
theorem cd_i27_5 : cd_I 27 5 = some (.astore 4, 0, 0) := by decide +kernel
theorem cd_i27_7 : cd_I 27 7 = some (.aload 4, 0, 0) := by decide +kernel
theorem cd_i27_9 : cd_I 27 9 = some (.ifnull 49, 58, 0) := by decide +kernel
theorem cd_i27_12 : cd_I 27 12 = some (.aload 4, 0, 0) := by decide +kernel
theorem cd_i27_14 : cd_I 27 14 = some (.aload_n 2, 0, 0) := by decide +kernel
theorem cd_i27_15 : cd_I 27 15 = some (.iload_n 3, 0, 0) := by decide +kernel
theorem cd_i27_16 : cd_I 27 16 = some (.invokevirtual 42, 28, 2) := by decide +kernel
theorem cd_i27_19 : cd_I 27 19 = some (.astore 5, 0, 0) := by decide +kernel
theorem cd_i27_21 : cd_I 27 21 = some (.aload 5, 0, 0) := by decide +kernel
theorem cd_i27_23 : cd_I 27 23 = some (.ifnull 25, 48, 0) := by decide +kernel
theorem cd_i27_26 : cd_I 27 26 = some (.aload 5, 0, 0) := by decide +kernel
theorem cd_i27_28 : cd_I 27 28 = some (.getfield 46, 7, 2) := by decide +kernel
theorem cd_i27_31 : cd_I 27 31 = some (.ifCond .ne 17, 48, 0) := by decide +kernel
theorem cd_i27_34 : cd_I 27 34 = some (.aload_n 0, 0, 0) := by decide +kernel
theorem cd_i27_35 : cd_I 27 35 = some (.aload 4, 0, 0) := by decide +kernel
theorem cd_i27_37 : cd_I 27 37 = some (.aload 5, 0, 0) := by decide +kernel
theorem cd_i27_39 : cd_I 27 39 = some (.invokevirtual 49, 30, 2) := by decide +kernel
theorem cd_i27_42 : cd_I 27 42 = some (.ifCond .eq 6, 48, 0) := by decide +kernel
theorem cd_i27_45 : cd_I 27 45 = some (.aload 5, 0, 0) := by decide +kernel
theorem cd_i27_47 : cd_I 27 47 = some (.areturn, 0, 0) := by decide +kernel
theorem cd_i27_48 : cd_I 27 48 = some (.aload 4, 0, 0) := by decide +kernel
theorem cd_i27_50 : cd_I 27 50 = some (.getfield 32, 4, 1) := by decide +kernel
theorem cd_i27_53 : cd_I 27 53 = some (.astore 4, 0, 0) := by decide +kernel
theorem cd_i27_55 : cd_I 27 55 = some (.goto (-48), 7, 0) := by decide +kernel
theorem cd_i27_58 : cd_I 27 58 = some (.aconst_null, 0, 0) := by decide +kernel
theorem cd_i27_59 : cd_I 27 59 = some (.areturn, 0, 0) := by decide +kernel
theorem cd_i28_0 : cd_I 28 0 = some (.iconst 0, 0, 0) := by decide +kernel
theorem cd_i28_1 : cd_I 28 1 = some (.istore_n 3, 0, 0) := by decide +kernel
theorem cd_i28_2 : cd_I 28 2 = some (.iload_n 3, 0, 0) := by decide +kernel
theorem cd_i28_3 : cd_I 28 3 = some (.aload_n 0, 0, 0) := by decide +kernel
theorem cd_i28_4 : cd_I 28 4 = some (.getfield 25, 4, 3) := by decide +kernel
theorem cd_i28_7 : cd_I 28 7 = some (.if_icmp .ge 30, 37, 0) := by decide +kernel
theorem cd_i28_10 : cd_I 28 10 = some (.aload_n 0, 0, 0) := by decide +kernel
theorem cd_i28_11 : cd_I 28 11 = some (.getfield 11, 4, 2) := by decide +kernel
theorem cd_i28_14 : cd_I 28 14 = some (.iload_n 3, 0, 0) := by decide +kernel
theorem cd_i28_15 : cd_I 28 15 = some (.aaload, 0, 0) := by decide +kernel
theorem cd_i28_16 : cd_I 28 16 = some (.aload_n 1, 0, 0) := by decide +kernel
theorem cd_i28_17 : cd_I 28 17 = some (.iload_n 2, 0, 0) := by decide +kernel
theorem cd_i28_18 : cd_I 28 18 = some (.invokevirtual 28, 29, 2) := by decide +kernel
theorem cd_i28_21 : cd_I 28 21 = some (.ifCond .eq 10, 31, 0) := by decide +kernel
theorem cd_i28_24 : cd_I 28 24 = some (.aload_n 0, 0, 0) := by decide +kernel
theorem cd_i28_25 : cd_I 28 25 = some (.getfield 11, 4, 2) := by decide +kernel
theorem cd_i28_28 : cd_I 28 28 = some (.iload_n 3, 0, 0) := by decide +kernel
theorem cd_i28_29 : cd_I 28 29 = some (.aaload, 0, 0) := by decide +kernel
theorem cd_i28_30 : cd_I 28 30 = some (.areturn, 0, 0) := by decide +kernel
theorem cd_i28_31 : cd_I 28 31 = some (.iinc 3 1, 0, 0) := by decide +kernel
theorem cd_i28_34 : cd_I 28 34 = some (.goto (-32), 2, 0) := by decide +kernel
theorem cd_i28_37 : cd_I 28 37 = some (.aconst_null, 0, 0) := by decide +kernel
theorem cd_i28_38 : cd_I 28 38 = some (.areturn, 0, 0) := by decide +kernel
theorem cd_i29_0 : cd_I 29 0 = some (.aload_n 0, 0, 0) := by decide +kernel
theorem cd_i29_1 : cd_I 29 1 = some (.getfield 15, 7, 0) := by decide +kernel
theorem cd_i29_4 : cd_I 29 4 = some (.aload_n 1, 0, 0) := by decide +kernel
theorem cd_i29_5 : cd_I 29 5 = some (.if_acmp .ne 15, 20, 0) := by decide +kernel
theorem cd_i29_8 : cd_I 29 8 = some (.aload_n 0, 0, 0) := by decide +kernel
theorem cd_i29_9 : cd_I 29 9 = some (.getfield 26, 7, 3) := by decide +kernel
theorem cd_i29_12 : cd_I 29 12 = some (.iload_n 2, 0, 0) := by decide +kernel
theorem cd_i29_13 : cd_I 29 13 = some (.if_icmp .ne 7, 20, 0) := by decide +kernel
theorem cd_i29_16 : cd_I 29 16 = some (.iconst 1, 0, 0) := by decide +kernel
theorem cd_i29_17 : cd_I 29 17 = some (.goto 4, 21, 0) := by decide +kernel
theorem cd_i29_20 : cd_I 29 20 = some (.iconst 0, 0, 0) := by decide +kernel
theorem cd_i29_21 : cd_I 29 21 = some (.ireturn, 0, 0) := by decide +kernel
theorem cd_i30_0 : cd_I 30 0 = some (.aload_n 2, 0, 0) := by decide +kernel
theorem cd_i30_1 : cd_I 30 1 = some (.getfield 36, 7, 1) := by decide +kernel
theorem cd_i30_4 : cd_I 30 4 = some (.ifCond .eq 14, 18, 0) := by decide +kernel
theorem cd_i30_7 : cd_I 30 7 = some (.aload_n 1, 0, 0) := by decide +kernel
theorem cd_i30_8 : cd_I 30 8 = some (.getfield 25, 4, 0) := by decide +kernel
theorem cd_i30_11 : cd_I 30 11 = some (.aload_n 0, 0, 0) := by decide +kernel
theorem cd_i30_12 : cd_I 30 12 = some (.getfield 21, 2, 2) := by decide +kernel
theorem cd_i30_15 : cd_I 30 15 = some (.if_icmp .ne 7, 22, 0) := by decide +kernel
theorem cd_i30_18 : cd_I 30 18 = some (.iconst 1, 0, 0) := by decide +kernel
theorem cd_i30_19 : cd_I 30 19 = some (.goto 4, 23, 0) := by decide +kernel
theorem cd_i30_22 : cd_I 30 22 = some (.iconst 0, 0, 0) := by decide +kernel
theorem cd_i30_23 : cd_I 30 23 = some (.ireturn, 0, 0) := by decide +kernel
theorem cd_i31_0 : cd_I 31 0 = some (.aload_n 0, 0, 0) := by decide +kernel
theorem cd_i31_1 : cd_I 31 1 = some (.getfield 35, 0, 3) := by decide +kernel
theorem cd_i31_4 : cd_I 31 4 = some (.invokevirtual 65, 32, 0) := by decide +kernel
theorem cd_i31_7 : cd_I 31 7 = some (.astore_n 1, 0, 0) := by decide +kernel
theorem cd_i31_8 : cd_I 31 8 = some (.aload_n 1, 0, 0) := by decide +kernel
theorem cd_i31_9 : cd_I 31 9 = some (.ifnull 28, 37, 0) := by decide +kernel
theorem cd_i31_12 : cd_I 31 12 = some (.aload_n 0, 0, 0) := by decide +kernel
theorem cd_i31_13 : cd_I 31 13 = some (.getfield 35, 0, 3) := by decide +kernel
theorem cd_i31_16 : cd_I 31 16 = some (.aload_n 1, 0, 0) := by decide +kernel
theorem cd_i31_17 : cd_I 31 17 = some (.invokevirtual 69, 37, 1) := by decide +kernel
theorem cd_i31_20 : cd_I 31 20 = some (.ifCond .eq 17, 37, 0) := by decide +kernel
theorem cd_i31_23 : cd_I 31 23 = some (.aload_n 0, 0, 0) := by decide +kernel
theorem cd_i31_24 : cd_I 31 24 = some (.getfield 10, 0, 0) := by decide +kernel
theorem cd_i31_27 : cd_I 31 27 = some (.invokevirtual 73, 59, 0) := by decide +kernel
theorem cd_i31_30 : cd_I 31 30 = some (.ifCond .eq 7, 37, 0) := by decide +kernel
theorem cd_i31_33 : cd_I 31 33 = some (.iconst 1, 0, 0) := by decide +kernel
theorem cd_i31_34 : cd_I 31 34 = some (.goto 4, 38, 0) := by decide +kernel
theorem cd_i31_37 : cd_I 31 37 = some (.iconst 0, 0, 0) := by decide +kernel
theorem cd_i31_38 : cd_I 31 38 = some (.istore_n 2, 0, 0) := by decide +kernel
theorem cd_i31_39 : cd_I 31 39 = some (.aload_n 0, 0, 0) := by decide +kernel
theorem cd_i31_40 : cd_I 31 40 = some (.getfield 10, 0, 0) := by decide +kernel
theorem cd_i31_43 : cd_I 31 43 = some (.invokevirtual 77, 60, 0) := by decide +kernel
theorem cd_i31_46 : cd_I 31 46 = some (.iload_n 2, 0, 0) := by decide +kernel
theorem cd_i31_47 : cd_I 31 47 = some (.ifCond .ne 11, 58, 0) := by decide +kernel
theorem cd_i31_50 : cd_I 31 50 = some (.new 80, 12, 82) := by decide +kernel
theorem cd_i31_58 : cd_I 31 58 = some (.aload_n 0, 0, 0) := by decide +kernel
theorem cd_i31_59 : cd_I 31 59 = some (.getfield 19, 0, 1) := by decide +kernel
theorem cd_i31_62 : cd_I 31 62 = some (.aload_n 1, 0, 0) := by decide +kernel
theorem cd_i31_63 : cd_I 31 63 = some (.invokevirtual 83, 61, 1) := by decide +kernel
theorem cd_i31_66 : cd_I 31 66 = some (.ifCond .ne 11, 77, 0) := by decide +kernel
theorem cd_i31_69 : cd_I 31 69 = some (.new 86, 13, 88) := by decide +kernel
theorem cd_i31_77 : cd_I 31 77 = some (.aload_n 1, 0, 0) := by decide +kernel
theorem cd_i31_78 : cd_I 31 78 = some (.getfield 89, 4, 3) := by decide +kernel
theorem cd_i31_81 : cd_I 31 81 = some (.ireturn, 0, 0) := by decide +kernel
end
section
theorem cd_i32_0 : cd_I 32 0 = some (.aload_n 0, 0, 0) := by decide +kernel
theorem cd_i32_1 : cd_I 32 1 = some (.getfield 9, 5, 0) := by decide +kernel
theorem cd_i32_4 : cd_I 32 4 = some (.invokevirtual 19, 33, 0) := by decide +kernel
theorem cd_i32_7 : cd_I 32 7 = some (.istore_n 1, 0, 0) := by decide +kernel
theorem cd_i32_8 : cd_I 32 8 = some (.iload_n 1, 0, 0) := by decide +kernel
theorem cd_i32_9 : cd_I 32 9 = some (.iconst (-1), 0, 0) := by decide +kernel
theorem cd_i32_10 : cd_I 32 10 = some (.if_icmp .eq 19, 29, 0) := by decide +kernel
theorem cd_i32_13 : cd_I 32 13 = some (.aload_n 0, 0, 0) := by decide +kernel
theorem cd_i32_14 : cd_I 32 14 = some (.getfield 9, 5, 0) := by decide +kernel
theorem cd_i32_17 : cd_I 32 17 = some (.bipush 58, 0, 0) := by decide +kernel
theorem cd_i32_19 : cd_I 32 19 = some (.invokevirtual 25, 34, 1) := by decide +kernel
theorem cd_i32_22 : cd_I 32 22 = some (.ifCond .eq 7, 29, 0) := by decide +kernel
theorem cd_i32_25 : cd_I 32 25 = some (.iconst 1, 0, 0) := by decide +kernel
theorem cd_i32_26 : cd_I 32 26 = some (.goto 4, 30, 0) := by decide +kernel
theorem cd_i32_29 : cd_I 32 29 = some (.iconst 0, 0, 0) := by decide +kernel
theorem cd_i32_30 : cd_I 32 30 = some (.istore_n 2, 0, 0) := by decide +kernel
theorem cd_i32_31 : cd_I 32 31 = some (.iload_n 2, 0, 0) := by decide +kernel
theorem cd_i32_32 : cd_I 32 32 = some (.ifCond .eq 20, 52, 0) := by decide +kernel
theorem cd_i32_35 : cd_I 32 35 = some (.aload_n 0, 0, 0) := by decide +kernel
theorem cd_i32_36 : cd_I 32 36 = some (.getfield 15, 5, 1) := by decide +kernel
theorem cd_i32_39 : cd_I 32 39 = some (.aload_n 0, 0, 0) := by decide +kernel
theorem cd_i32_40 : cd_I 32 40 = some (.getfield 9, 5, 0) := by decide +kernel
theorem cd_i32_43 : cd_I 32 43 = some (.invokevirtual 19, 33, 0) := by decide +kernel
theorem cd_i32_46 : cd_I 32 46 = some (.invokevirtual 29, 22, 1) := by decide +kernel
theorem cd_i32_49 : cd_I 32 49 = some (.goto 4, 53, 0) := by decide +kernel
theorem cd_i32_52 : cd_I 32 52 = some (.aconst_null, 0, 0) := by decide +kernel
theorem cd_i32_53 : cd_I 32 53 = some (.astore_n 3, 0, 0) := by decide +kernel
theorem cd_i32_54 : cd_I 32 54 = some (.iload_n 1, 0, 0) := by decide +kernel
theorem cd_i32_55 : cd_I 32 55 = some (.iconst (-1), 0, 0) := by decide +kernel
theorem cd_i32_56 : cd_I 32 56 = some (.if_icmp .eq 23, 79, 0) := by decide +kernel
theorem cd_i32_59 : cd_I 32 59 = some (.iload_n 2, 0, 0) := by decide +kernel
theorem cd_i32_60 : cd_I 32 60 = some (.ifCond .eq 7, 67, 0) := by decide +kernel
theorem cd_i32_63 : cd_I 32 63 = some (.aload_n 3, 0, 0) := by decide +kernel
theorem cd_i32_64 : cd_I 32 64 = some (.ifnull 15, 79, 0) := by decide +kernel
theorem cd_i32_67 : cd_I 32 67 = some (.aload_n 0, 0, 0) := by decide +kernel
theorem cd_i32_68 : cd_I 32 68 = some (.getfield 9, 5, 0) := by decide +kernel
theorem cd_i32_71 : cd_I 32 71 = some (.bipush 123, 0, 0) := by decide +kernel
theorem cd_i32_73 : cd_I 32 73 = some (.invokevirtual 25, 34, 1) := by decide +kernel
theorem cd_i32_76 : cd_I 32 76 = some (.ifCond .ne 5, 81, 0) := by decide +kernel
theorem cd_i32_79 : cd_I 32 79 = some (.aconst_null, 0, 0) := by decide +kernel
theorem cd_i32_80 : cd_I 32 80 = some (.areturn, 0, 0) := by decide +kernel
theorem cd_i32_81 : cd_I 32 81 = some (.new 35, 4, 0) := by decide +kernel
theorem cd_i32_84 : cd_I 32 84 = some (.dup, 0, 0) := by decide +kernel
theorem cd_i32_85 : cd_I 32 85 = some (.iload_n 1, 0, 0) := by decide +kernel
theorem cd_i32_86 : cd_I 32 86 = some (.aload_n 3, 0, 0) := by decide +kernel
theorem cd_i32_87 : cd_I 32 87 = some (.invokespecial 37, 36, 2) := by decide +kernel
theorem cd_i32_90 : cd_I 32 90 = some (.areturn, 0, 0) := by decide +kernel
theorem cd_i33_0 : cd_I 33 0 = some (.aload_n 0, 0, 0) := by decide +kernel
theorem cd_i33_1 : cd_I 33 1 = some (.getfield 19, 1, 2) := by decide +kernel
theorem cd_i33_4 : cd_I 33 4 = some (.aload_n 0, 0, 0) := by decide +kernel
theorem cd_i33_5 : cd_I 33 5 = some (.getfield 15, 1, 1) := by decide +kernel
theorem cd_i33_8 : cd_I 33 8 = some (.if_icmp .eq 21, 29, 0) := by decide +kernel
theorem cd_i33_11 : cd_I 33 11 = some (.aload_n 0, 0, 0) := by decide +kernel
theorem cd_i33_12 : cd_I 33 12 = some (.getfield 9, 1, 0) := by decide +kernel
theorem cd_i33_15 : cd_I 33 15 = some (.aload_n 0, 0, 0) := by decide +kernel
theorem cd_i33_16 : cd_I 33 16 = some (.getfield 19, 1, 2) := by decide +kernel
theorem cd_i33_19 : cd_I 33 19 = some (.caload, 0, 0) := by decide +kernel
theorem cd_i33_20 : cd_I 33 20 = some (.bipush 65, 0, 0) := by decide +kernel
theorem cd_i33_22 : cd_I 33 22 = some (.isub, 0, 0) := by decide +kernel
theorem cd_i33_23 : cd_I 33 23 = some (.invokestatic 35, 24, 1) := by decide +kernel
theorem cd_i33_26 : cd_I 33 26 = some (.ifCond .ne 5, 31, 0) := by decide +kernel
theorem cd_i33_29 : cd_I 33 29 = some (.iconst (-1), 0, 0) := by decide +kernel
theorem cd_i33_30 : cd_I 33 30 = some (.ireturn, 0, 0) := by decide +kernel
theorem cd_i33_31 : cd_I 33 31 = some (.aload_n 0, 0, 0) := by decide +kernel
theorem cd_i33_32 : cd_I 33 32 = some (.getfield 9, 1, 0) := by decide +kernel
theorem cd_i33_35 : cd_I 33 35 = some (.aload_n 0, 0, 0) := by decide +kernel
theorem cd_i33_36 : cd_I 33 36 = some (.dup, 0, 0) := by decide +kernel
theorem cd_i33_37 : cd_I 33 37 = some (.getfield 19, 1, 2) := by decide +kernel
theorem cd_i33_40 : cd_I 33 40 = some (.dup_x1, 0, 0) := by decide +kernel
theorem cd_i33_41 : cd_I 33 41 = some (.iconst 1, 0, 0) := by decide +kernel
theorem cd_i33_42 : cd_I 33 42 = some (.iadd, 0, 0) := by decide +kernel
theorem cd_i33_43 : cd_I 33 43 = some (.putfield 19, 1, 2) := by decide +kernel
theorem cd_i33_46 : cd_I 33 46 = some (.caload, 0, 0) := by decide +kernel
theorem cd_i33_47 : cd_I 33 47 = some (.bipush 65, 0, 0) := by decide +kernel
theorem cd_i33_49 : cd_I 33 49 = some (.isub, 0, 0) := by decide +kernel
theorem cd_i33_50 : cd_I 33 50 = some (.ireturn, 0, 0) := by decide +kernel
theorem cd_i34_0 : cd_I 34 0 = some (.aload_n 0, 0, 0) := by decide +kernel
theorem cd_i34_1 : cd_I 34 1 = some (.iload_n 1, 0, 0) := by decide +kernel
theorem cd_i34_2 : cd_I 34 2 = some (.invokevirtual 22, 35, 1) := by decide +kernel
theorem cd_i34_5 : cd_I 34 5 = some (.ifCond .ne 5, 10, 0) := by decide +kernel
theorem cd_i34_8 : cd_I 34 8 = some (.iconst 0, 0, 0) := by decide +kernel
theorem cd_i34_9 : cd_I 34 9 = some (.ireturn, 0, 0) := by decide +kernel
theorem cd_i34_10 : cd_I 34 10 = some (.aload_n 0, 0, 0) := by decide +kernel
theorem cd_i34_11 : cd_I 34 11 = some (.dup, 0, 0) := by decide +kernel
theorem cd_i34_12 : cd_I 34 12 = some (.getfield 19, 1, 2) := by decide +kernel
theorem cd_i34_15 : cd_I 34 15 = some (.iconst 1, 0, 0) := by decide +kernel
theorem cd_i34_16 : cd_I 34 16 = some (.iadd, 0, 0) := by decide +kernel
theorem cd_i34_17 : cd_I 34 17 = some (.putfield 19, 1, 2) := by decide +kernel
theorem cd_i34_20 : cd_I 34 20 = some (.iconst 1, 0, 0) := by decide +kernel
theorem cd_i34_21 : cd_I 34 21 = some (.ireturn, 0, 0) := by decide +kernel
theorem cd_i35_0 : cd_I 35 0 = some (.aload_n 0, 0, 0) := by decide +kernel
theorem cd_i35_1 : cd_I 35 1 = some (.getfield 19, 1, 2) := by decide +kernel
theorem cd_i35_4 : cd_I 35 4 = some (.aload_n 0, 0, 0) := by decide +kernel
theorem cd_i35_5 : cd_I 35 5 = some (.getfield 15, 1, 1) := by decide +kernel
theorem cd_i35_8 : cd_I 35 8 = some (.if_icmp .ge 20, 28, 0) := by decide +kernel
theorem cd_i35_11 : cd_I 35 11 = some (.aload_n 0, 0, 0) := by decide +kernel
theorem cd_i35_12 : cd_I 35 12 = some (.getfield 9, 1, 0) := by decide +kernel
theorem cd_i35_15 : cd_I 35 15 = some (.aload_n 0, 0, 0) := by decide +kernel
theorem cd_i35_16 : cd_I 35 16 = some (.getfield 19, 1, 2) := by decide +kernel
theorem cd_i35_19 : cd_I 35 19 = some (.caload, 0, 0) := by decide +kernel
theorem cd_i35_20 : cd_I 35 20 = some (.iload_n 1, 0, 0) := by decide +kernel
theorem cd_i35_21 : cd_I 35 21 = some (.if_icmp .ne 7, 28, 0) := by decide +kernel
theorem cd_i35_24 : cd_I 35 24 = some (.iconst 1, 0, 0) := by decide +kernel
theorem cd_i35_25 : cd_I 35 25 = some (.goto 4, 29, 0) := by decide +kernel
theorem cd_i35_28 : cd_I 35 28 = some (.iconst 0, 0, 0) := by decide +kernel
theorem cd_i35_29 : cd_I 35 29 = some (.ireturn, 0, 0) := by decide +kernel
theorem cd_i36_0 : cd_I 36 0 = some (.aload_n 0, 0, 0) := by decide +kernel
theorem cd_i36_1 : cd_I 36 1 = some (.invokespecial 3, 1000, 0) := by decide +kernel
theorem cd_i36_4 : cd_I 36 4 = some (.aload_n 0, 0, 0) := by decide +kernel
theorem cd_i36_5 : cd_I 36 5 = some (.bipush 6, 0, 0) := by decide +kernel
theorem cd_i36_7 : cd_I 36 7 = some (.anewarray 9, 7, 0) := by decide +kernel
theorem cd_i36_10 : cd_I 36 10 = some (.putfield 11, 4, 2) := by decide +kernel
theorem cd_i36_13 : cd_I 36 13 = some (.aload_n 0, 0, 0) := by decide +kernel
theorem cd_i36_14 : cd_I 36 14 = some (.iload_n 1, 0, 0) := by decide +kernel
theorem cd_i36_15 : cd_I 36 15 = some (.putfield 17, 4, 0) := by decide +kernel
theorem cd_i36_18 : cd_I 36 18 = some (.aload_n 0, 0, 0) := by decide +kernel
theorem cd_i36_19 : cd_I 36 19 = some (.aload_n 2, 0, 0) := by decide +kernel
theorem cd_i36_20 : cd_I 36 20 = some (.putfield 21, 4, 1) := by decide +kernel
theorem cd_i36_23 : cd_I 36 23 = some (.return_, 0, 0) := by decide +kernel
theorem cd_i37_0 : cd_I 37 0 = some (.aload_n 0, 0, 0) := by decide +kernel
theorem cd_i37_1 : cd_I 37 1 = some (.getfield 9, 5, 0) := by decide +kernel
theorem cd_i37_4 : cd_I 37 4 = some (.bipush 125, 0, 0) := by decide +kernel
theorem cd_i37_6 : cd_I 37 6 = some (.invokevirtual 25, 34, 1) := by decide +kernel
theorem cd_i37_9 : cd_I 37 9 = some (.ifCond .eq 5, 14, 0) := by decide +kernel
theorem cd_i37_12 : cd_I 37 12 = some (.iconst 1, 0, 0) := by decide +kernel
theorem cd_i37_13 : cd_I 37 13 = some (.ireturn, 0, 0) := by decide +kernel
theorem cd_i37_14 : cd_I 37 14 = some (.iconst 0, 0, 0) := by decide +kernel
theorem cd_i37_15 : cd_I 37 15 = some (.istore_n 2, 0, 0) := by decide +kernel
theorem cd_i37_16 : cd_I 37 16 = some (.iload_n 2, 0, 0) := by decide +kernel
theorem cd_i37_17 : cd_I 37 17 = some (.bipush 6, 0, 0) := by decide +kernel
theorem cd_i37_19 : cd_I 37 19 = some (.if_icmp .ge 41, 60, 0) := by decide +kernel
theorem cd_i37_22 : cd_I 37 22 = some (.aload_n 0, 0, 0) := by decide +kernel
theorem cd_i37_23 : cd_I 37 23 = some (.aload_n 1, 0, 0) := by decide +kernel
theorem cd_i37_24 : cd_I 37 24 = some (.invokevirtual 40, 38, 1) := by decide +kernel
theorem cd_i37_27 : cd_I 37 27 = some (.ifCond .ne 5, 32, 0) := by decide +kernel
theorem cd_i37_30 : cd_I 37 30 = some (.iconst 0, 0, 0) := by decide +kernel
theorem cd_i37_31 : cd_I 37 31 = some (.ireturn, 0, 0) := by decide +kernel
theorem cd_i37_32 : cd_I 37 32 = some (.aload_n 0, 0, 0) := by decide +kernel
theorem cd_i37_33 : cd_I 37 33 = some (.getfield 9, 5, 0) := by decide +kernel
theorem cd_i37_36 : cd_I 37 36 = some (.bipush 59, 0, 0) := by decide +kernel
theorem cd_i37_38 : cd_I 37 38 = some (.invokevirtual 25, 34, 1) := by decide +kernel
theorem cd_i37_41 : cd_I 37 41 = some (.ifCond .ne 13, 54, 0) := by decide +kernel
theorem cd_i37_44 : cd_I 37 44 = some (.aload_n 0, 0, 0) := by decide +kernel
theorem cd_i37_45 : cd_I 37 45 = some (.getfield 9, 5, 0) := by decide +kernel
theorem cd_i37_48 : cd_I 37 48 = some (.bipush 125, 0, 0) := by decide +kernel
theorem cd_i37_50 : cd_I 37 50 = some (.invokevirtual 25, 34, 1) := by decide +kernel
theorem cd_i37_53 : cd_I 37 53 = some (.ireturn, 0, 0) := by decide +kernel
theorem cd_i37_54 : cd_I 37 54 = some (.iinc 2 1, 0, 0) := by decide +kernel
theorem cd_i37_57 : cd_I 37 57 = some (.goto (-41), 16, 0) := by decide +kernel
theorem cd_i37_60 : cd_I 37 60 = some (.iconst 0, 0, 0) := by decide +kernel
theorem cd_i37_61 : cd_I 37 61 = some (.ireturn, 0, 0) := by decide +kernel
theorem cd_i38_0 : cd_I 38 0 = some (.aload_n 0, 0, 0) := by decide +kernel
theorem cd_i38_1 : cd_I 38 1 = some (.getfield 9, 5, 0) := by decide +kernel
theorem cd_i38_4 : cd_I 38 4 = some (.ldc 44, 10, 0) := by decide +kernel
theorem cd_i38_6 : cd_I 38 6 = some (.invokevirtual 46, 39, 1) := by decide +kernel
theorem cd_i38_9 : cd_I 38 9 = some (.istore_n 2, 0, 0) := by decide +kernel
theorem cd_i38_10 : cd_I 38 10 = some (.aload_n 0, 0, 0) := by decide +kernel
theorem cd_i38_11 : cd_I 38 11 = some (.getfield 9, 5, 0) := by decide +kernel
theorem cd_i38_14 : cd_I 38 14 = some (.ldc 50, 11, 0) := by decide +kernel
theorem cd_i38_16 : cd_I 38 16 = some (.invokevirtual 46, 39, 1) := by decide +kernel
theorem cd_i38_19 : cd_I 38 19 = some (.ifCond .eq 15, 34, 0) := by decide +kernel
theorem cd_i38_22 : cd_I 38 22 = some (.aload_n 0, 0, 0) := by decide +kernel
theorem cd_i38_23 : cd_I 38 23 = some (.iload_n 2, 0, 0) := by decide +kernel
theorem cd_i38_24 : cd_I 38 24 = some (.aload_n 1, 0, 0) := by decide +kernel
theorem cd_i38_25 : cd_I 38 25 = some (.getfield 52, 4, 0) := by decide +kernel
theorem cd_i38_28 : cd_I 38 28 = some (.invokevirtual 56, 47, 2) := by decide +kernel
theorem cd_i38_31 : cd_I 38 31 = some (.goto 8, 39, 0) := by decide +kernel
theorem cd_i38_34 : cd_I 38 34 = some (.aload_n 0, 0, 0) := by decide +kernel
theorem cd_i38_35 : cd_I 38 35 = some (.iload_n 2, 0, 0) := by decide +kernel
theorem cd_i38_36 : cd_I 38 36 = some (.invokevirtual 60, 53, 1) := by decide +kernel
theorem cd_i38_39 : cd_I 38 39 = some (.astore_n 3, 0, 0) := by decide +kernel
theorem cd_i38_40 : cd_I 38 40 = some (.aload_n 3, 0, 0) := by decide +kernel
theorem cd_i38_41 : cd_I 38 41 = some (.ifnull 23, 64, 0) := by decide +kernel
theorem cd_i38_44 : cd_I 38 44 = some (.aload_n 1, 0, 0) := by decide +kernel
theorem cd_i38_45 : cd_I 38 45 = some (.aload_n 3, 0, 0) := by decide +kernel
theorem cd_i38_46 : cd_I 38 46 = some (.invokevirtual 64, 55, 1) := by decide +kernel
theorem cd_i38_49 : cd_I 38 49 = some (.ifCond .eq 15, 64, 0) := by decide +kernel
theorem cd_i38_52 : cd_I 38 52 = some (.aload_n 1, 0, 0) := by decide +kernel
theorem cd_i38_53 : cd_I 38 53 = some (.aload_n 3, 0, 0) := by decide +kernel
theorem cd_i38_54 : cd_I 38 54 = some (.invokevirtual 68, 58, 1) := by decide +kernel
theorem cd_i38_57 : cd_I 38 57 = some (.ifCond .eq 7, 64, 0) := by decide +kernel
theorem cd_i38_60 : cd_I 38 60 = some (.iconst 1, 0, 0) := by decide +kernel
theorem cd_i38_61 : cd_I 38 61 = some (.goto 4, 65, 0) := by decide +kernel
theorem cd_i38_64 : cd_I 38 64 = some (.iconst 0, 0, 0) := by decide +kernel
theorem cd_i38_65 : cd_I 38 65 = some (.ireturn, 0, 0) := by decide +kernel
theorem cd_i39_0 : cd_I 39 0 = some (.aload_n 1, 0, 0) := by decide +kernel
theorem cd_i39_1 : cd_I 39 1 = some (.invokevirtual 26, 40, 0) := by decide +kernel
theorem cd_i39_4 : cd_I 39 4 = some (.aload_n 0, 0, 0) := by decide +kernel
theorem cd_i39_5 : cd_I 39 5 = some (.getfield 15, 1, 1) := by decide +kernel
theorem cd_i39_8 : cd_I 39 8 = some (.aload_n 0, 0, 0) := by decide +kernel
theorem cd_i39_9 : cd_I 39 9 = some (.getfield 19, 1, 2) := by decide +kernel
theorem cd_i39_12 : cd_I 39 12 = some (.isub, 0, 0) := by decide +kernel
theorem cd_i39_13 : cd_I 39 13 = some (.if_icmp .le 5, 18, 0) := by decide +kernel
theorem cd_i39_16 : cd_I 39 16 = some (.iconst 0, 0, 0) := by decide +kernel
theorem cd_i39_17 : cd_I 39 17 = some (.ireturn, 0, 0) := by decide +kernel
theorem cd_i39_18 : cd_I 39 18 = some (.iconst 0, 0, 0) := by decide +kernel
theorem cd_i39_19 : cd_I 39 19 = some (.istore_n 2, 0, 0) := by decide +kernel
theorem cd_i39_20 : cd_I 39 20 = some (.iload_n 2, 0, 0) := by decide +kernel
theorem cd_i39_21 : cd_I 39 21 = some (.aload_n 1, 0, 0) := by decide +kernel
theorem cd_i39_22 : cd_I 39 22 = some (.invokevirtual 26, 40, 0) := by decide +kernel
theorem cd_i39_25 : cd_I 39 25 = some (.if_icmp .ge 30, 55, 0) := by decide +kernel
theorem cd_i39_28 : cd_I 39 28 = some (.aload_n 0, 0, 0) := by decide +kernel
theorem cd_i39_29 : cd_I 39 29 = some (.getfield 9, 1, 0) := by decide +kernel
theorem cd_i39_32 : cd_I 39 32 = some (.aload_n 0, 0, 0) := by decide +kernel
theorem cd_i39_33 : cd_I 39 33 = some (.getfield 19, 1, 2) := by decide +kernel
theorem cd_i39_36 : cd_I 39 36 = some (.iload_n 2, 0, 0) := by decide +kernel
theorem cd_i39_37 : cd_I 39 37 = some (.iadd, 0, 0) := by decide +kernel
theorem cd_i39_38 : cd_I 39 38 = some (.caload, 0, 0) := by decide +kernel
theorem cd_i39_39 : cd_I 39 39 = some (.aload_n 1, 0, 0) := by decide +kernel
theorem cd_i39_40 : cd_I 39 40 = some (.iload_n 2, 0, 0) := by decide +kernel
theorem cd_i39_41 : cd_I 39 41 = some (.invokevirtual 31, 42, 1) := by decide +kernel
theorem cd_i39_44 : cd_I 39 44 = some (.if_icmp .eq 5, 49, 0) := by decide +kernel
theorem cd_i39_47 : cd_I 39 47 = some (.iconst 0, 0, 0) := by decide +kernel
theorem cd_i39_48 : cd_I 39 48 = some (.ireturn, 0, 0) := by decide +kernel
theorem cd_i39_49 : cd_I 39 49 = some (.iinc 2 1, 0, 0) := by decide +kernel
theorem cd_i39_52 : cd_I 39 52 = some (.goto (-32), 20, 0) := by decide +kernel
theorem cd_i39_55 : cd_I 39 55 = some (.aload_n 0, 0, 0) := by decide +kernel
theorem cd_i39_56 : cd_I 39 56 = some (.dup, 0, 0) := by decide +kernel
theorem cd_i39_57 : cd_I 39 57 = some (.getfield 19, 1, 2) := by decide +kernel
theorem cd_i39_60 : cd_I 39 60 = some (.aload_n 1, 0, 0) := by decide +kernel
theorem cd_i39_61 : cd_I 39 61 = some (.invokevirtual 26, 40, 0) := by decide +kernel
theorem cd_i39_64 : cd_I 39 64 = some (.iadd, 0, 0) := by decide +kernel
theorem cd_i39_65 : cd_I 39 65 = some (.putfield 19, 1, 2) := by decide +kernel
theorem cd_i39_68 : cd_I 39 68 = some (.iconst 1, 0, 0) := by decide +kernel
theorem cd_i39_69 : cd_I 39 69 = some (.ireturn, 0, 0) := by decide +kernel
theorem cd_i40_0 : cd_I 40 0 = some (.aload_n 0, 0, 0) := by decide +kernel
theorem cd_i40_1 : cd_I 40 1 = some (.getfield 9, 50, 0) := by decide +kernel
theorem cd_i40_4 : cd_I 40 4 = some (.arraylength, 0, 0) := by decide +kernel
theorem cd_i40_5 : cd_I 40 5 = some (.aload_n 0, 0, 0) := by decide +kernel
theorem cd_i40_6 : cd_I 40 6 = some (.invokevirtual 335, 41, 0) := by decide +kernel
theorem cd_i40_9 : cd_I 40 9 = some (.ishr, 0, 0) := by decide +kernel
theorem cd_i40_10 : cd_I 40 10 = some (.ireturn, 0, 0) := by decide +kernel
theorem cd_i41_0 : cd_I 41 0 = some (.getstatic 38, 3, 0) := by decide +kernel
theorem cd_i41_3 : cd_I 41 3 = some (.ifCond .eq 10, 13, 0) := by decide +kernel
theorem cd_i41_6 : cd_I 41 6 = some (.aload_n 0, 0, 0) := by decide +kernel
theorem cd_i41_7 : cd_I 41 7 = some (.getfield 15, 50, 1) := by decide +kernel
theorem cd_i41_10 : cd_I 41 10 = some (.goto 4, 14, 0) := by decide +kernel
theorem cd_i41_13 : cd_I 41 13 = some (.iconst 1, 0, 0) := by decide +kernel
theorem cd_i41_14 : cd_I 41 14 = some (.ireturn, 0, 0) := by decide +kernel
theorem cd_i42_0 : cd_I 42 0 = some (.aload_n 0, 0, 0) := by decide +kernel
theorem cd_i42_1 : cd_I 42 1 = some (.invokevirtual 492, 43, 0) := by decide +kernel
theorem cd_i42_4 : cd_I 42 4 = some (.ifCond .eq 12, 16, 0) := by decide +kernel
theorem cd_i42_7 : cd_I 42 7 = some (.aload_n 0, 0, 0) := by decide +kernel
theorem cd_i42_8 : cd_I 42 8 = some (.getfield 9, 50, 0) := by decide +kernel
theorem cd_i42_11 : cd_I 42 11 = some (.iload_n 1, 0, 0) := by decide +kernel
theorem cd_i42_12 : cd_I 42 12 = some (.invokestatic 495, 44, 2) := by decide +kernel
theorem cd_i42_15 : cd_I 42 15 = some (.ireturn, 0, 0) := by decide +kernel
theorem cd_i42_16 : cd_I 42 16 = some (.aload_n 0, 0, 0) := by decide +kernel
theorem cd_i42_17 : cd_I 42 17 = some (.getfield 9, 50, 0) := by decide +kernel
theorem cd_i42_20 : cd_I 42 20 = some (.iload_n 1, 0, 0) := by decide +kernel
theorem cd_i42_24 : cd_I 42 24 = some (.ireturn, 0, 0) := by decide +kernel
theorem cd_i43_0 : cd_I 43 0 = some (.getstatic 38, 3, 0) := by decide +kernel
theorem cd_i43_3 : cd_I 43 3 = some (.ifCond .eq 14, 17, 0) := by decide +kernel
theorem cd_i43_6 : cd_I 43 6 = some (.aload_n 0, 0, 0) := by decide +kernel
theorem cd_i43_7 : cd_I 43 7 = some (.getfield 15, 50, 1) := by decide +kernel
theorem cd_i43_10 : cd_I 43 10 = some (.ifCond .ne 7, 17, 0) := by decide +kernel
theorem cd_i43_13 : cd_I 43 13 = some (.iconst 1, 0, 0) := by decide +kernel
theorem cd_i43_14 : cd_I 43 14 = some (.goto 4, 18, 0) := by decide +kernel
theorem cd_i43_17 : cd_I 43 17 = some (.iconst 0, 0, 0) := by decide +kernel
theorem cd_i43_18 : cd_I 43 18 = some (.ireturn, 0, 0) := by decide +kernel
theorem cd_i44_0 : cd_I 44 0 = some (.iload_n 1, 0, 0) := by decide +kernel
theorem cd_i44_1 : cd_I 44 1 = some (.aload_n 0, 0, 0) := by decide +kernel
theorem cd_i44_2 : cd_I 44 2 = some (.arraylength, 0, 0) := by decide +kernel
theorem cd_i44_3 : cd_I 44 3 = some (.invokestatic 9, 45, 2) := by decide +kernel
theorem cd_i44_6 : cd_I 44 6 = some (.aload_n 0, 0, 0) := by decide +kernel
theorem cd_i44_7 : cd_I 44 7 = some (.iload_n 1, 0, 0) := by decide +kernel
theorem cd_i44_8 : cd_I 44 8 = some (.baload, 0, 0) := by decide +kernel
theorem cd_i44_9 : cd_I 44 9 = some (.sipush 255, 0, 0) := by decide +kernel
theorem cd_i44_12 : cd_I 44 12 = some (.iand, 0, 0) := by decide +kernel
theorem cd_i44_13 : cd_I 44 13 = some (.i2c, 0, 0) := by decide +kernel
theorem cd_i44_14 : cd_I 44 14 = some (.ireturn, 0, 0) := by decide +kernel
theorem cd_i45_0 : cd_I 45 0 = some (.iload_n 0, 0, 0) := by decide +kernel
theorem cd_i45_1 : cd_I 45 1 = some (.iload_n 1, 0, 0) := by decide +kernel
theorem cd_i45_2 : cd_I 45 2 = some (.getstatic 1053, 4, 0) := by decide +kernel
theorem cd_i45_5 : cd_I 45 5 = some (.invokestatic 1059, 46, 3) := by decide +kernel
theorem cd_i45_8 : cd_I 45 8 = some (.pop, 0, 0) := by decide +kernel
theorem cd_i45_9 : cd_I 45 9 = some (.return_, 0, 0) := by decide +kernel
theorem cd_i46_0 : cd_I 46 0 = some (.iload_n 0, 0, 0) := by decide +kernel
theorem cd_i46_1 : cd_I 46 1 = some (.ifCond .lt 8, 9, 0) := by decide +kernel
theorem cd_i46_4 : cd_I 46 4 = some (.iload_n 0, 0, 0) := by decide +kernel
theorem cd_i46_5 : cd_I 46 5 = some (.iload_n 1, 0, 0) := by decide +kernel
theorem cd_i46_6 : cd_I 46 6 = some (.if_icmp .lt 10, 16, 0) := by decide +kernel
theorem cd_i46_9 : cd_I 46 9 = some (.aload_n 2, 0, 0) := by decide +kernel
theorem cd_i46_10 : cd_I 46 10 = some (.iload_n 0, 0, 0) := by decide +kernel
theorem cd_i46_11 : cd_I 46 11 = some (.iload_n 1, 0, 0) := by decide +kernel
theorem cd_i46_15 : cd_I 46 15 = some (.athrow, 0, 0) := by decide +kernel
theorem cd_i46_16 : cd_I 46 16 = some (.iload_n 0, 0, 0) := by decide +kernel
theorem cd_i46_17 : cd_I 46 17 = some (.ireturn, 0, 0) := by decide +kernel
theorem cd_i47_0 : cd_I 47 0 = some (.new 71, 7, 0) := by decide +kernel
theorem cd_i47_3 : cd_I 47 3 = some (.dup, 0, 0) := by decide +kernel
theorem cd_i47_4 : cd_I 47 4 = some (.getstatic 73, 2, 0) := by decide +kernel
theorem cd_i47_7 : cd_I 47 7 = some (.iload_n 1, 0, 0) := by decide +kernel
theorem cd_i47_8 : cd_I 47 8 = some (.iconst 0, 0, 0) := by decide +kernel
theorem cd_i47_9 : cd_I 47 9 = some (.iconst 0, 0, 0) := by decide +kernel
theorem cd_i47_10 : cd_I 47 10 = some (.invokespecial 79, 48, 4) := by decide +kernel
theorem cd_i47_13 : cd_I 47 13 = some (.astore_n 3, 0, 0) := by decide +kernel
theorem cd_i47_14 : cd_I 47 14 = some (.aload_n 3, 0, 0) := by decide +kernel
theorem cd_i47_15 : cd_I 47 15 = some (.iconst 3, 0, 0) := by decide +kernel
theorem cd_i47_16 : cd_I 47 16 = some (.iload_n 2, 0, 0) := by decide +kernel
theorem cd_i47_17 : cd_I 47 17 = some (.iadd, 0, 0) := by decide +kernel
theorem cd_i47_18 : cd_I 47 18 = some (.putfield 82, 7, 6) := by decide +kernel
theorem cd_i47_21 : cd_I 47 21 = some (.aload_n 0, 0, 0) := by decide +kernel
theorem cd_i47_22 : cd_I 47 22 = some (.aload_n 3, 0, 0) := by decide +kernel
theorem cd_i47_23 : cd_I 47 23 = some (.invokevirtual 85, 49, 1) := by decide +kernel
theorem cd_i47_26 : cd_I 47 26 = some (.ifCond .eq 7, 33, 0) := by decide +kernel
theorem cd_i47_29 : cd_I 47 29 = some (.aload_n 3, 0, 0) := by decide +kernel
theorem cd_i47_30 : cd_I 47 30 = some (.goto 4, 34, 0) := by decide +kernel
theorem cd_i47_33 : cd_I 47 33 = some (.aconst_null, 0, 0) := by decide +kernel
theorem cd_i47_34 : cd_I 47 34 = some (.areturn, 0, 0) := by decide +kernel
theorem cd_i48_0 : cd_I 48 0 = some (.aload_n 0, 0, 0) := by decide +kernel
theorem cd_i48_1 : cd_I 48 1 = some (.invokespecial 3, 1000, 0) := by decide +kernel
theorem cd_i48_4 : cd_I 48 4 = some (.aload_n 0, 0, 0) := by decide +kernel
theorem cd_i48_5 : cd_I 48 5 = some (.iconst 2, 0, 0) := by decide +kernel
theorem cd_i48_6 : cd_I 48 6 = some (.newarray .int, 0, 0) := by decide +kernel
theorem cd_i48_8 : cd_I 48 8 = some (.putfield 9, 7, 4) := by decide +kernel
theorem cd_i48_11 : cd_I 48 11 = some (.aload_n 0, 0, 0) := by decide +kernel
theorem cd_i48_12 : cd_I 48 12 = some (.aload_n 1, 0, 0) := by decide +kernel
theorem cd_i48_13 : cd_I 48 13 = some (.putfield 15, 7, 0) := by decide +kernel
theorem cd_i48_16 : cd_I 48 16 = some (.aload_n 0, 0, 0) := by decide +kernel
theorem cd_i48_17 : cd_I 48 17 = some (.iload_n 2, 0, 0) := by decide +kernel
theorem cd_i48_18 : cd_I 48 18 = some (.putfield 19, 7, 1) := by decide +kernel
theorem cd_i48_21 : cd_I 48 21 = some (.aload_n 0, 0, 0) := by decide +kernel
theorem cd_i48_22 : cd_I 48 22 = some (.iload_n 3, 0, 0) := by decide +kernel
theorem cd_i48_23 : cd_I 48 23 = some (.putfield 23, 7, 2) := by decide +kernel
theorem cd_i48_26 : cd_I 48 26 = some (.aload_n 0, 0, 0) := by decide +kernel
theorem cd_i48_27 : cd_I 48 27 = some (.iload 4, 0, 0) := by decide +kernel
theorem cd_i48_29 : cd_I 48 29 = some (.putfield 26, 7, 3) := by decide +kernel
theorem cd_i48_32 : cd_I 48 32 = some (.return_, 0, 0) := by decide +kernel
theorem cd_i49_0 : cd_I 49 0 = some (.aload_n 0, 0, 0) := by decide +kernel
theorem cd_i49_1 : cd_I 49 1 = some (.getfield 9, 5, 0) := by decide +kernel
theorem cd_i49_4 : cd_I 49 4 = some (.bipush 41, 0, 0) := by decide +kernel
theorem cd_i49_6 : cd_I 49 6 = some (.invokevirtual 25, 34, 1) := by decide +kernel
theorem cd_i49_9 : cd_I 49 9 = some (.ifCond .eq 5, 14, 0) := by decide +kernel
theorem cd_i49_12 : cd_I 49 12 = some (.iconst 1, 0, 0) := by decide +kernel
theorem cd_i49_13 : cd_I 49 13 = some (.ireturn, 0, 0) := by decide +kernel
theorem cd_i49_14 : cd_I 49 14 = some (.iconst 0, 0, 0) := by decide +kernel
theorem cd_i49_15 : cd_I 49 15 = some (.istore_n 2, 0, 0) := by decide +kernel
theorem cd_i49_16 : cd_I 49 16 = some (.iload_n 2, 0, 0) := by decide +kernel
theorem cd_i49_17 : cd_I 49 17 = some (.iconst 2, 0, 0) := by decide +kernel
theorem cd_i49_18 : cd_I 49 18 = some (.if_icmp .ge 51, 69, 0) := by decide +kernel
theorem cd_i49_21 : cd_I 49 21 = some (.aload_n 0, 0, 0) := by decide +kernel
theorem cd_i49_22 : cd_I 49 22 = some (.getfield 9, 5, 0) := by decide +kernel
theorem cd_i49_25 : cd_I 49 25 = some (.invokevirtual 99, 50, 0) := by decide +kernel
theorem cd_i49_28 : cd_I 49 28 = some (.istore_n 3, 0, 0) := by decide +kernel
theorem cd_i49_29 : cd_I 49 29 = some (.iload_n 3, 0, 0) := by decide +kernel
theorem cd_i49_30 : cd_I 49 30 = some (.iconst (-1), 0, 0) := by decide +kernel
theorem cd_i49_31 : cd_I 49 31 = some (.if_icmp .ne 5, 36, 0) := by decide +kernel
theorem cd_i49_34 : cd_I 49 34 = some (.iconst 0, 0, 0) := by decide +kernel
theorem cd_i49_35 : cd_I 49 35 = some (.ireturn, 0, 0) := by decide +kernel
theorem cd_i49_36 : cd_I 49 36 = some (.aload_n 1, 0, 0) := by decide +kernel
theorem cd_i49_37 : cd_I 49 37 = some (.iload_n 3, 0, 0) := by decide +kernel
theorem cd_i49_38 : cd_I 49 38 = some (.invokevirtual 102, 52, 1) := by decide +kernel
theorem cd_i49_41 : cd_I 49 41 = some (.aload_n 0, 0, 0) := by decide +kernel
theorem cd_i49_42 : cd_I 49 42 = some (.getfield 9, 5, 0) := by decide +kernel
theorem cd_i49_45 : cd_I 49 45 = some (.bipush 44, 0, 0) := by decide +kernel
theorem cd_i49_47 : cd_I 49 47 = some (.invokevirtual 25, 34, 1) := by decide +kernel
theorem cd_i49_50 : cd_I 49 50 = some (.ifCond .ne 13, 63, 0) := by decide +kernel
theorem cd_i49_53 : cd_I 49 53 = some (.aload_n 0, 0, 0) := by decide +kernel
theorem cd_i49_54 : cd_I 49 54 = some (.getfield 9, 5, 0) := by decide +kernel
theorem cd_i49_57 : cd_I 49 57 = some (.bipush 41, 0, 0) := by decide +kernel
theorem cd_i49_59 : cd_I 49 59 = some (.invokevirtual 25, 34, 1) := by decide +kernel
theorem cd_i49_62 : cd_I 49 62 = some (.ireturn, 0, 0) := by decide +kernel
theorem cd_i49_63 : cd_I 49 63 = some (.iinc 2 1, 0, 0) := by decide +kernel
theorem cd_i49_66 : cd_I 49 66 = some (.goto (-50), 16, 0) := by decide +kernel
theorem cd_i49_69 : cd_I 49 69 = some (.iconst 0, 0, 0) := by decide +kernel
theorem cd_i49_70 : cd_I 49 70 = some (.ireturn, 0, 0) := by decide +kernel
theorem cd_i50_0 : cd_I 50 0 = some (.aload_n 0, 0, 0) := by decide +kernel
theorem cd_i50_1 : cd_I 50 1 = some (.invokevirtual 39, 33, 0) := by decide +kernel
theorem cd_i50_4 : cd_I 50 4 = some (.istore_n 1, 0, 0) := by decide +kernel
theorem cd_i50_5 : cd_I 50 5 = some (.iload_n 1, 0, 0) := by decide +kernel
theorem cd_i50_6 : cd_I 50 6 = some (.iconst (-1), 0, 0) := by decide +kernel
theorem cd_i50_7 : cd_I 50 7 = some (.if_icmp .eq 7, 14, 0) := by decide +kernel
theorem cd_i50_10 : cd_I 50 10 = some (.iconst 3, 0, 0) := by decide +kernel
theorem cd_i50_11 : cd_I 50 11 = some (.iload_n 1, 0, 0) := by decide +kernel
theorem cd_i50_12 : cd_I 50 12 = some (.iadd, 0, 0) := by decide +kernel
theorem cd_i50_13 : cd_I 50 13 = some (.ireturn, 0, 0) := by decide +kernel
theorem cd_i50_14 : cd_I 50 14 = some (.aload_n 0, 0, 0) := by decide +kernel
theorem cd_i50_15 : cd_I 50 15 = some (.invokevirtual 42, 51, 0) := by decide +kernel
theorem cd_i50_18 : cd_I 50 18 = some (.lookupswitch 40 #[(6909556, 34), (1651470188, 38), (1819242087, 36)], 0, 0) := by decide +kernel
theorem cd_i50_52 : cd_I 50 52 = some (.iconst 0, 0, 0) := by decide +kernel
theorem cd_i50_53 : cd_I 50 53 = some (.ireturn, 0, 0) := by decide +kernel
theorem cd_i50_54 : cd_I 50 54 = some (.iconst 1, 0, 0) := by decide +kernel
theorem cd_i50_55 : cd_I 50 55 = some (.ireturn, 0, 0) := by decide +kernel
theorem cd_i50_56 : cd_I 50 56 = some (.iconst 2, 0, 0) := by decide +kernel
theorem cd_i50_57 : cd_I 50 57 = some (.ireturn, 0, 0) := by decide +kernel
theorem cd_i50_58 : cd_I 50 58 = some (.iconst (-1), 0, 0) := by decide +kernel
theorem cd_i50_59 : cd_I 50 59 = some (.ireturn, 0, 0) := by decide +kernel
theorem cd_i51_0 : cd_I 51 0 = some (.aload_n 0, 0, 0) := by decide +kernel
theorem cd_i51_1 : cd_I 51 1 = some (.getfield 19, 1, 2) := by decide +kernel
theorem cd_i51_4 : cd_I 51 4 = some (.istore_n 1, 0, 0) := by decide +kernel
theorem cd_i51_5 : cd_I 51 5 = some (.iconst 0, 0, 0) := by decide +kernel
theorem cd_i51_6 : cd_I 51 6 = some (.istore_n 2, 0, 0) := by decide +kernel
theorem cd_i51_7 : cd_I 51 7 = some (.aload_n 0, 0, 0) := by decide +kernel
theorem cd_i51_8 : cd_I 51 8 = some (.getfield 19, 1, 2) := by decide +kernel
theorem cd_i51_11 : cd_I 51 11 = some (.aload_n 0, 0, 0) := by decide +kernel
theorem cd_i51_12 : cd_I 51 12 = some (.getfield 15, 1, 1) := by decide +kernel
theorem cd_i51_15 : cd_I 51 15 = some (.if_icmp .ge 48, 63, 0) := by decide +kernel
theorem cd_i51_18 : cd_I 51 18 = some (.aload_n 0, 0, 0) := by decide +kernel
theorem cd_i51_19 : cd_I 51 19 = some (.getfield 9, 1, 0) := by decide +kernel
theorem cd_i51_22 : cd_I 51 22 = some (.aload_n 0, 0, 0) := by decide +kernel
theorem cd_i51_23 : cd_I 51 23 = some (.getfield 19, 1, 2) := by decide +kernel
theorem cd_i51_26 : cd_I 51 26 = some (.caload, 0, 0) := by decide +kernel
theorem cd_i51_27 : cd_I 51 27 = some (.istore_n 3, 0, 0) := by decide +kernel
theorem cd_i51_28 : cd_I 51 28 = some (.iload_n 3, 0, 0) := by decide +kernel
theorem cd_i51_29 : cd_I 51 29 = some (.bipush 97, 0, 0) := by decide +kernel
theorem cd_i51_31 : cd_I 51 31 = some (.if_icmp .lt 32, 63, 0) := by decide +kernel
theorem cd_i51_34 : cd_I 51 34 = some (.iload_n 3, 0, 0) := by decide +kernel
theorem cd_i51_35 : cd_I 51 35 = some (.bipush 122, 0, 0) := by decide +kernel
theorem cd_i51_37 : cd_I 51 37 = some (.if_icmp .le 6, 43, 0) := by decide +kernel
theorem cd_i51_40 : cd_I 51 40 = some (.goto 23, 63, 0) := by decide +kernel
theorem cd_i51_43 : cd_I 51 43 = some (.iload_n 2, 0, 0) := by decide +kernel
theorem cd_i51_44 : cd_I 51 44 = some (.bipush 8, 0, 0) := by decide +kernel
theorem cd_i51_46 : cd_I 51 46 = some (.ishl, 0, 0) := by decide +kernel
theorem cd_i51_47 : cd_I 51 47 = some (.iload_n 3, 0, 0) := by decide +kernel
theorem cd_i51_48 : cd_I 51 48 = some (.ior, 0, 0) := by decide +kernel
theorem cd_i51_49 : cd_I 51 49 = some (.istore_n 2, 0, 0) := by decide +kernel
theorem cd_i51_50 : cd_I 51 50 = some (.aload_n 0, 0, 0) := by decide +kernel
theorem cd_i51_51 : cd_I 51 51 = some (.dup, 0, 0) := by decide +kernel
theorem cd_i51_52 : cd_I 51 52 = some (.getfield 19, 1, 2) := by decide +kernel
theorem cd_i51_55 : cd_I 51 55 = some (.iconst 1, 0, 0) := by decide +kernel
theorem cd_i51_56 : cd_I 51 56 = some (.iadd, 0, 0) := by decide +kernel
theorem cd_i51_57 : cd_I 51 57 = some (.putfield 19, 1, 2) := by decide +kernel
theorem cd_i51_60 : cd_I 51 60 = some (.goto (-53), 7, 0) := by decide +kernel
theorem cd_i51_63 : cd_I 51 63 = some (.aload_n 0, 0, 0) := by decide +kernel
theorem cd_i51_64 : cd_I 51 64 = some (.getfield 19, 1, 2) := by decide +kernel
theorem cd_i51_67 : cd_I 51 67 = some (.iload_n 1, 0, 0) := by decide +kernel
theorem cd_i51_68 : cd_I 51 68 = some (.isub, 0, 0) := by decide +kernel
theorem cd_i51_69 : cd_I 51 69 = some (.iconst 4, 0, 0) := by decide +kernel
theorem cd_i51_70 : cd_I 51 70 = some (.if_icmp .gt 7, 77, 0) := by decide +kernel
theorem cd_i51_73 : cd_I 51 73 = some (.iload_n 2, 0, 0) := by decide +kernel
theorem cd_i51_74 : cd_I 51 74 = some (.goto 4, 78, 0) := by decide +kernel
theorem cd_i51_77 : cd_I 51 77 = some (.iconst 0, 0, 0) := by decide +kernel
theorem cd_i51_78 : cd_I 51 78 = some (.ireturn, 0, 0) := by decide +kernel
theorem cd_i52_0 : cd_I 52 0 = some (.aload_n 0, 0, 0) := by decide +kernel
theorem cd_i52_1 : cd_I 52 1 = some (.getfield 30, 7, 5) := by decide +kernel
theorem cd_i52_4 : cd_I 52 4 = some (.aload_n 0, 0, 0) := by decide +kernel
theorem cd_i52_5 : cd_I 52 5 = some (.getfield 9, 7, 4) := by decide +kernel
theorem cd_i52_8 : cd_I 52 8 = some (.arraylength, 0, 0) := by decide +kernel
theorem cd_i52_9 : cd_I 52 9 = some (.if_icmp .ge 23, 32, 0) := by decide +kernel
theorem cd_i52_12 : cd_I 52 12 = some (.aload_n 0, 0, 0) := by decide +kernel
theorem cd_i52_13 : cd_I 52 13 = some (.getfield 9, 7, 4) := by decide +kernel
theorem cd_i52_16 : cd_I 52 16 = some (.aload_n 0, 0, 0) := by decide +kernel
theorem cd_i52_17 : cd_I 52 17 = some (.getfield 30, 7, 5) := by decide +kernel
theorem cd_i52_20 : cd_I 52 20 = some (.iload_n 1, 0, 0) := by decide +kernel
theorem cd_i52_21 : cd_I 52 21 = some (.iastore, 0, 0) := by decide +kernel
theorem cd_i52_22 : cd_I 52 22 = some (.aload_n 0, 0, 0) := by decide +kernel
theorem cd_i52_23 : cd_I 52 23 = some (.dup, 0, 0) := by decide +kernel
theorem cd_i52_24 : cd_I 52 24 = some (.getfield 30, 7, 5) := by decide +kernel
theorem cd_i52_27 : cd_I 52 27 = some (.iconst 1, 0, 0) := by decide +kernel
theorem cd_i52_28 : cd_I 52 28 = some (.iadd, 0, 0) := by decide +kernel
theorem cd_i52_29 : cd_I 52 29 = some (.putfield 30, 7, 5) := by decide +kernel
theorem cd_i52_32 : cd_I 52 32 = some (.return_, 0, 0) := by decide +kernel
theorem cd_i53_0 : cd_I 53 0 = some (.aload_n 0, 0, 0) := by decide +kernel
theorem cd_i53_1 : cd_I 53 1 = some (.getfield 9, 5, 0) := by decide +kernel
theorem cd_i53_4 : cd_I 53 4 = some (.ldc 88, 12, 0) := by decide +kernel
theorem cd_i53_6 : cd_I 53 6 = some (.invokevirtual 46, 39, 1) := by decide +kernel
theorem cd_i53_9 : cd_I 53 9 = some (.istore_n 2, 0, 0) := by decide +kernel
theorem cd_i53_10 : cd_I 53 10 = some (.aload_n 0, 0, 0) := by decide +kernel
theorem cd_i53_11 : cd_I 53 11 = some (.getfield 9, 5, 0) := by decide +kernel
theorem cd_i53_14 : cd_I 53 14 = some (.invokevirtual 90, 54, 0) := by decide +kernel
theorem cd_i53_17 : cd_I 53 17 = some (.istore_n 3, 0, 0) := by decide +kernel
theorem cd_i53_18 : cd_I 53 18 = some (.iload_n 3, 0, 0) := by decide +kernel
theorem cd_i53_19 : cd_I 53 19 = some (.ifCond .ne 5, 24, 0) := by decide +kernel
theorem cd_i53_22 : cd_I 53 22 = some (.aconst_null, 0, 0) := by decide +kernel
theorem cd_i53_23 : cd_I 53 23 = some (.areturn, 0, 0) := by decide +kernel
theorem cd_i53_24 : cd_I 53 24 = some (.aload_n 0, 0, 0) := by decide +kernel
theorem cd_i53_25 : cd_I 53 25 = some (.getfield 9, 5, 0) := by decide +kernel
theorem cd_i53_28 : cd_I 53 28 = some (.bipush 40, 0, 0) := by decide +kernel
theorem cd_i53_30 : cd_I 53 30 = some (.invokevirtual 25, 34, 1) := by decide +kernel
theorem cd_i53_33 : cd_I 53 33 = some (.istore 4, 0, 0) := by decide +kernel
theorem cd_i53_35 : cd_I 53 35 = some (.iload 4, 0, 0) := by decide +kernel
theorem cd_i53_37 : cd_I 53 37 = some (.ifCond .eq 9, 46, 0) := by decide +kernel
theorem cd_i53_40 : cd_I 53 40 = some (.getstatic 93, 1, 0) := by decide +kernel
theorem cd_i53_43 : cd_I 53 43 = some (.goto 6, 49, 0) := by decide +kernel
theorem cd_i53_46 : cd_I 53 46 = some (.getstatic 96, 0, 0) := by decide +kernel
theorem cd_i53_49 : cd_I 53 49 = some (.astore 5, 0, 0) := by decide +kernel
theorem cd_i53_51 : cd_I 53 51 = some (.new 71, 7, 0) := by decide +kernel
theorem cd_i53_54 : cd_I 53 54 = some (.dup, 0, 0) := by decide +kernel
theorem cd_i53_55 : cd_I 53 55 = some (.aload 5, 0, 0) := by decide +kernel
theorem cd_i53_57 : cd_I 53 57 = some (.iload_n 1, 0, 0) := by decide +kernel
theorem cd_i53_58 : cd_I 53 58 = some (.iload_n 2, 0, 0) := by decide +kernel
theorem cd_i53_59 : cd_I 53 59 = some (.iload_n 3, 0, 0) := by decide +kernel
theorem cd_i53_60 : cd_I 53 60 = some (.invokespecial 79, 48, 4) := by decide +kernel
theorem cd_i53_63 : cd_I 53 63 = some (.astore 6, 0, 0) := by decide +kernel
theorem cd_i53_65 : cd_I 53 65 = some (.iload 4, 0, 0) := by decide +kernel
theorem cd_i53_67 : cd_I 53 67 = some (.ifCond .eq 12, 79, 0) := by decide +kernel
theorem cd_i53_70 : cd_I 53 70 = some (.aload_n 0, 0, 0) := by decide +kernel
theorem cd_i53_71 : cd_I 53 71 = some (.aload 6, 0, 0) := by decide +kernel
theorem cd_i53_73 : cd_I 53 73 = some (.invokevirtual 85, 49, 1) := by decide +kernel
theorem cd_i53_76 : cd_I 53 76 = some (.ifCond .eq 15, 91, 0) := by decide +kernel
theorem cd_i53_79 : cd_I 53 79 = some (.aload_n 0, 0, 0) := by decide +kernel
theorem cd_i53_80 : cd_I 53 80 = some (.getfield 9, 5, 0) := by decide +kernel
theorem cd_i53_83 : cd_I 53 83 = some (.bipush 58, 0, 0) := by decide +kernel
theorem cd_i53_85 : cd_I 53 85 = some (.invokevirtual 25, 34, 1) := by decide +kernel
theorem cd_i53_88 : cd_I 53 88 = some (.ifCond .ne 5, 93, 0) := by decide +kernel
theorem cd_i53_91 : cd_I 53 91 = some (.aconst_null, 0, 0) := by decide +kernel
theorem cd_i53_92 : cd_I 53 92 = some (.areturn, 0, 0) := by decide +kernel
theorem cd_i53_93 : cd_I 53 93 = some (.aload 6, 0, 0) := by decide +kernel
theorem cd_i53_95 : cd_I 53 95 = some (.aload_n 0, 0, 0) := by decide +kernel
theorem cd_i53_96 : cd_I 53 96 = some (.getfield 9, 5, 0) := by decide +kernel
theorem cd_i53_99 : cd_I 53 99 = some (.invokevirtual 99, 50, 0) := by decide +kernel
theorem cd_i53_102 : cd_I 53 102 = some (.putfield 82, 7, 6) := by decide +kernel
theorem cd_i53_105 : cd_I 53 105 = some (.aload 6, 0, 0) := by decide +kernel
theorem cd_i53_107 : cd_I 53 107 = some (.getfield 82, 7, 6) := by decide +kernel
theorem cd_i53_110 : cd_I 53 110 = some (.iconst (-1), 0, 0) := by decide +kernel
theorem cd_i53_111 : cd_I 53 111 = some (.if_icmp .ne 7, 118, 0) := by decide +kernel
theorem cd_i53_114 : cd_I 53 114 = some (.aconst_null, 0, 0) := by decide +kernel
theorem cd_i53_115 : cd_I 53 115 = some (.goto 5, 120, 0) := by decide +kernel
theorem cd_i53_118 : cd_I 53 118 = some (.aload 6, 0, 0) := by decide +kernel
theorem cd_i53_120 : cd_I 53 120 = some (.areturn, 0, 0) := by decide +kernel
theorem cd_i54_0 : cd_I 54 0 = some (.aload_n 0, 0, 0) := by decide +kernel
theorem cd_i54_1 : cd_I 54 1 = some (.invokevirtual 42, 51, 0) := by decide +kernel
theorem cd_i54_4 : cd_I 54 4 = some (.istore_n 1, 0, 0) := by decide +kernel
theorem cd_i54_5 : cd_I 54 5 = some (.iload_n 1, 0, 0) := by decide +kernel
theorem cd_i54_6 : cd_I 54 6 = some (.lookupswitch 44 #[(6909556, 42), (7234935, 42), (1651470188, 42), (1819242087, 42)], 0, 0) := by decide +kernel
theorem cd_i54_48 : cd_I 54 48 = some (.iconst 0, 0, 0) := by decide +kernel
theorem cd_i54_49 : cd_I 54 49 = some (.ireturn, 0, 0) := by decide +kernel
theorem cd_i54_50 : cd_I 54 50 = some (.iload_n 1, 0, 0) := by decide +kernel
theorem cd_i54_51 : cd_I 54 51 = some (.ireturn, 0, 0) := by decide +kernel
theorem cd_i55_0 : cd_I 55 0 = some (.aload_n 0, 0, 0) := by decide +kernel
theorem cd_i55_1 : cd_I 55 1 = some (.aload_n 1, 0, 0) := by decide +kernel
theorem cd_i55_2 : cd_I 55 2 = some (.getfield 32, 7, 0) := by decide +kernel
theorem cd_i55_5 : cd_I 55 5 = some (.aload_n 1, 0, 0) := by decide +kernel
theorem cd_i55_6 : cd_I 55 6 = some (.getfield 36, 7, 3) := by decide +kernel
theorem cd_i55_9 : cd_I 55 9 = some (.invokevirtual 39, 28, 2) := by decide +kernel
theorem cd_i55_12 : cd_I 55 12 = some (.ifnull 5, 17, 0) := by decide +kernel
theorem cd_i55_15 : cd_I 55 15 = some (.iconst 0, 0, 0) := by decide +kernel
theorem cd_i55_16 : cd_I 55 16 = some (.ireturn, 0, 0) := by decide +kernel
theorem cd_i55_17 : cd_I 55 17 = some (.aload_n 1, 0, 0) := by decide +kernel
theorem cd_i55_18 : cd_I 55 18 = some (.getfield 32, 7, 0) := by decide +kernel
theorem cd_i55_21 : cd_I 55 21 = some (.getstatic 43, 1, 0) := by decide +kernel
theorem cd_i55_24 : cd_I 55 24 = some (.if_acmp .ne 11, 35, 0) := by decide +kernel
theorem cd_i55_27 : cd_I 55 27 = some (.aload_n 0, 0, 0) := by decide +kernel
theorem cd_i55_28 : cd_I 55 28 = some (.aload_n 1, 0, 0) := by decide +kernel
theorem cd_i55_29 : cd_I 55 29 = some (.invokevirtual 48, 56, 1) := by decide +kernel
theorem cd_i55_32 : cd_I 55 32 = some (.ifCond .eq 7, 39, 0) := by decide +kernel
theorem cd_i55_35 : cd_I 55 35 = some (.iconst 1, 0, 0) := by decide +kernel
theorem cd_i55_36 : cd_I 55 36 = some (.goto 4, 40, 0) := by decide +kernel
theorem cd_i55_39 : cd_I 55 39 = some (.iconst 0, 0, 0) := by decide +kernel
theorem cd_i55_40 : cd_I 55 40 = some (.ireturn, 0, 0) := by decide +kernel
theorem cd_i56_0 : cd_I 56 0 = some (.aload_n 0, 0, 0) := by decide +kernel
theorem cd_i56_1 : cd_I 56 1 = some (.getfield 21, 4, 1) := by decide +kernel
theorem cd_i56_4 : cd_I 56 4 = some (.astore_n 2, 0, 0) := by decide +kernel
theorem cd_i56_5 : cd_I 56 5 = some (.aload_n 2, 0, 0) := by decide +kernel
theorem cd_i56_6 : cd_I 56 6 = some (.ifnull 58, 64, 0) := by decide +kernel
theorem cd_i56_9 : cd_I 56 9 = some (.aload_n 2, 0, 0) := by decide +kernel
theorem cd_i56_10 : cd_I 56 10 = some (.getstatic 43, 1, 0) := by decide +kernel
theorem cd_i56_13 : cd_I 56 13 = some (.aload_n 1, 0, 0) := by decide +kernel
theorem cd_i56_14 : cd_I 56 14 = some (.getfield 36, 7, 3) := by decide +kernel
theorem cd_i56_17 : cd_I 56 17 = some (.invokevirtual 39, 28, 2) := by decide +kernel
theorem cd_i56_20 : cd_I 56 20 = some (.astore_n 3, 0, 0) := by decide +kernel
theorem cd_i56_21 : cd_I 56 21 = some (.aload_n 3, 0, 0) := by decide +kernel
theorem cd_i56_22 : cd_I 56 22 = some (.ifnull 34, 56, 0) := by decide +kernel
theorem cd_i56_25 : cd_I 56 25 = some (.aload_n 3, 0, 0) := by decide +kernel
theorem cd_i56_26 : cd_I 56 26 = some (.getfield 52, 7, 1) := by decide +kernel
theorem cd_i56_29 : cd_I 56 29 = some (.ifCond .ne 27, 56, 0) := by decide +kernel
theorem cd_i56_32 : cd_I 56 32 = some (.aload_n 3, 0, 0) := by decide +kernel
theorem cd_i56_33 : cd_I 56 33 = some (.getfield 56, 7, 2) := by decide +kernel
theorem cd_i56_36 : cd_I 56 36 = some (.ifCond .ne 18, 54, 0) := by decide +kernel
theorem cd_i56_39 : cd_I 56 39 = some (.aload_n 1, 0, 0) := by decide +kernel
theorem cd_i56_40 : cd_I 56 40 = some (.getfield 56, 7, 2) := by decide +kernel
theorem cd_i56_43 : cd_I 56 43 = some (.ifCond .ne 11, 54, 0) := by decide +kernel
theorem cd_i56_46 : cd_I 56 46 = some (.aload_n 1, 0, 0) := by decide +kernel
theorem cd_i56_47 : cd_I 56 47 = some (.aload_n 3, 0, 0) := by decide +kernel
theorem cd_i56_48 : cd_I 56 48 = some (.invokevirtual 59, 57, 1) := by decide +kernel
theorem cd_i56_51 : cd_I 56 51 = some (.ifCond .ne 5, 56, 0) := by decide +kernel
theorem cd_i56_54 : cd_I 56 54 = some (.iconst 0, 0, 0) := by decide +kernel
theorem cd_i56_55 : cd_I 56 55 = some (.ireturn, 0, 0) := by decide +kernel
theorem cd_i56_56 : cd_I 56 56 = some (.aload_n 2, 0, 0) := by decide +kernel
theorem cd_i56_57 : cd_I 56 57 = some (.getfield 21, 4, 1) := by decide +kernel
theorem cd_i56_60 : cd_I 56 60 = some (.astore_n 2, 0, 0) := by decide +kernel
theorem cd_i56_61 : cd_I 56 61 = some (.goto (-56), 5, 0) := by decide +kernel
theorem cd_i56_64 : cd_I 56 64 = some (.iconst 1, 0, 0) := by decide +kernel
theorem cd_i56_65 : cd_I 56 65 = some (.ireturn, 0, 0) := by decide +kernel
theorem cd_i57_0 : cd_I 57 0 = some (.aload_n 0, 0, 0) := by decide +kernel
theorem cd_i57_1 : cd_I 57 1 = some (.getfield 33, 7, 6) := by decide +kernel
theorem cd_i57_4 : cd_I 57 4 = some (.aload_n 1, 0, 0) := by decide +kernel
theorem cd_i57_5 : cd_I 57 5 = some (.getfield 33, 7, 6) := by decide +kernel
theorem cd_i57_8 : cd_I 57 8 = some (.if_icmp .ne 14, 22, 0) := by decide +kernel
theorem cd_i57_11 : cd_I 57 11 = some (.aload_n 0, 0, 0) := by decide +kernel
theorem cd_i57_12 : cd_I 57 12 = some (.getfield 30, 7, 5) := by decide +kernel
theorem cd_i57_15 : cd_I 57 15 = some (.aload_n 1, 0, 0) := by decide +kernel
theorem cd_i57_16 : cd_I 57 16 = some (.getfield 30, 7, 5) := by decide +kernel
theorem cd_i57_19 : cd_I 57 19 = some (.if_icmp .eq 5, 24, 0) := by decide +kernel
theorem cd_i57_22 : cd_I 57 22 = some (.iconst 0, 0, 0) := by decide +kernel
theorem cd_i57_23 : cd_I 57 23 = some (.ireturn, 0, 0) := by decide +kernel
theorem cd_i57_24 : cd_I 57 24 = some (.iconst 0, 0, 0) := by decide +kernel
theorem cd_i57_25 : cd_I 57 25 = some (.istore_n 2, 0, 0) := by decide +kernel
theorem cd_i57_26 : cd_I 57 26 = some (.iload_n 2, 0, 0) := by decide +kernel
theorem cd_i57_27 : cd_I 57 27 = some (.aload_n 0, 0, 0) := by decide +kernel
theorem cd_i57_28 : cd_I 57 28 = some (.getfield 30, 7, 5) := by decide +kernel
theorem cd_i57_31 : cd_I 57 31 = some (.if_icmp .ge 26, 57, 0) := by decide +kernel
theorem cd_i57_34 : cd_I 57 34 = some (.aload_n 0, 0, 0) := by decide +kernel
theorem cd_i57_35 : cd_I 57 35 = some (.getfield 9, 7, 4) := by decide +kernel
theorem cd_i57_38 : cd_I 57 38 = some (.iload_n 2, 0, 0) := by decide +kernel
theorem cd_i57_39 : cd_I 57 39 = some (.iaload, 0, 0) := by decide +kernel
theorem cd_i57_40 : cd_I 57 40 = some (.aload_n 1, 0, 0) := by decide +kernel
theorem cd_i57_41 : cd_I 57 41 = some (.getfield 9, 7, 4) := by decide +kernel
theorem cd_i57_44 : cd_I 57 44 = some (.iload_n 2, 0, 0) := by decide +kernel
theorem cd_i57_45 : cd_I 57 45 = some (.iaload, 0, 0) := by decide +kernel
theorem cd_i57_46 : cd_I 57 46 = some (.if_icmp .eq 5, 51, 0) := by decide +kernel
theorem cd_i57_49 : cd_I 57 49 = some (.iconst 0, 0, 0) := by decide +kernel
theorem cd_i57_50 : cd_I 57 50 = some (.ireturn, 0, 0) := by decide +kernel
theorem cd_i57_51 : cd_I 57 51 = some (.iinc 2 1, 0, 0) := by decide +kernel
theorem cd_i57_54 : cd_I 57 54 = some (.goto (-28), 26, 0) := by decide +kernel
theorem cd_i57_57 : cd_I 57 57 = some (.iconst 1, 0, 0) := by decide +kernel
theorem cd_i57_58 : cd_I 57 58 = some (.ireturn, 0, 0) := by decide +kernel
theorem cd_i58_0 : cd_I 58 0 = some (.aload_n 0, 0, 0) := by decide +kernel
theorem cd_i58_1 : cd_I 58 1 = some (.getfield 25, 4, 3) := by decide +kernel
theorem cd_i58_4 : cd_I 58 4 = some (.aload_n 0, 0, 0) := by decide +kernel
theorem cd_i58_5 : cd_I 58 5 = some (.getfield 11, 4, 2) := by decide +kernel
theorem cd_i58_8 : cd_I 58 8 = some (.arraylength, 0, 0) := by decide +kernel
theorem cd_i58_9 : cd_I 58 9 = some (.if_icmp .ne 5, 14, 0) := by decide +kernel
theorem cd_i58_12 : cd_I 58 12 = some (.iconst 0, 0, 0) := by decide +kernel
theorem cd_i58_13 : cd_I 58 13 = some (.ireturn, 0, 0) := by decide +kernel
theorem cd_i58_14 : cd_I 58 14 = some (.aload_n 0, 0, 0) := by decide +kernel
theorem cd_i58_15 : cd_I 58 15 = some (.getfield 11, 4, 2) := by decide +kernel
theorem cd_i58_18 : cd_I 58 18 = some (.aload_n 0, 0, 0) := by decide +kernel
theorem cd_i58_19 : cd_I 58 19 = some (.getfield 25, 4, 3) := by decide +kernel
theorem cd_i58_22 : cd_I 58 22 = some (.aload_n 1, 0, 0) := by decide +kernel
theorem cd_i58_23 : cd_I 58 23 = some (.aastore, 0, 0) := by decide +kernel
theorem cd_i58_24 : cd_I 58 24 = some (.aload_n 0, 0, 0) := by decide +kernel
theorem cd_i58_25 : cd_I 58 25 = some (.dup, 0, 0) := by decide +kernel
theorem cd_i58_26 : cd_I 58 26 = some (.getfield 25, 4, 3) := by decide +kernel
theorem cd_i58_29 : cd_I 58 29 = some (.iconst 1, 0, 0) := by decide +kernel
theorem cd_i58_30 : cd_I 58 30 = some (.iadd, 0, 0) := by decide +kernel
theorem cd_i58_31 : cd_I 58 31 = some (.putfield 25, 4, 3) := by decide +kernel
theorem cd_i58_34 : cd_I 58 34 = some (.iconst 1, 0, 0) := by decide +kernel
theorem cd_i58_35 : cd_I 58 35 = some (.ireturn, 0, 0) := by decide +kernel
theorem cd_i59_0 : cd_I 59 0 = some (.aload_n 0, 0, 0) := by decide +kernel
theorem cd_i59_1 : cd_I 59 1 = some (.getfield 19, 1, 2) := by decide +kernel
theorem cd_i59_4 : cd_I 59 4 = some (.aload_n 0, 0, 0) := by decide +kernel
theorem cd_i59_5 : cd_I 59 5 = some (.getfield 15, 1, 1) := by decide +kernel
theorem cd_i59_8 : cd_I 59 8 = some (.if_icmp .ne 7, 15, 0) := by decide +kernel
theorem cd_i59_11 : cd_I 59 11 = some (.iconst 1, 0, 0) := by decide +kernel
theorem cd_i59_12 : cd_I 59 12 = some (.goto 4, 16, 0) := by decide +kernel
theorem cd_i59_15 : cd_I 59 15 = some (.iconst 0, 0, 0) := by decide +kernel
theorem cd_i59_16 : cd_I 59 16 = some (.ireturn, 0, 0) := by decide +kernel
theorem cd_i60_0 : cd_I 60 0 = some (.aload_n 0, 0, 0) := by decide +kernel
theorem cd_i60_1 : cd_I 60 1 = some (.iconst 0, 0, 0) := by decide +kernel
theorem cd_i60_2 : cd_I 60 2 = some (.putfield 15, 1, 1) := by decide +kernel
theorem cd_i60_5 : cd_I 60 5 = some (.aload_n 0, 0, 0) := by decide +kernel
theorem cd_i60_6 : cd_I 60 6 = some (.iconst 0, 0, 0) := by decide +kernel
theorem cd_i60_7 : cd_I 60 7 = some (.putfield 19, 1, 2) := by decide +kernel
theorem cd_i60_10 : cd_I 60 10 = some (.return_, 0, 0) := by decide +kernel
theorem cd_i61_0 : cd_I 61 0 = some (.aload_n 0, 0, 0) := by decide +kernel
theorem cd_i61_1 : cd_I 61 1 = some (.aload_n 1, 0, 0) := by decide +kernel
theorem cd_i61_2 : cd_I 61 2 = some (.getfield 25, 4, 0) := by decide +kernel
theorem cd_i61_5 : cd_I 61 5 = some (.invokevirtual 28, 22, 1) := by decide +kernel
theorem cd_i61_8 : cd_I 61 8 = some (.ifnull 5, 13, 0) := by decide +kernel
theorem cd_i61_11 : cd_I 61 11 = some (.iconst 0, 0, 0) := by decide +kernel
theorem cd_i61_12 : cd_I 61 12 = some (.ireturn, 0, 0) := by decide +kernel
theorem cd_i61_13 : cd_I 61 13 = some (.aload_n 0, 0, 0) := by decide +kernel
theorem cd_i61_14 : cd_I 61 14 = some (.getfield 11, 2, 0) := by decide +kernel
theorem cd_i61_17 : cd_I 61 17 = some (.aload_n 1, 0, 0) := by decide +kernel
theorem cd_i61_18 : cd_I 61 18 = some (.getfield 25, 4, 0) := by decide +kernel
theorem cd_i61_21 : cd_I 61 21 = some (.aload_n 1, 0, 0) := by decide +kernel
theorem cd_i61_22 : cd_I 61 22 = some (.aastore, 0, 0) := by decide +kernel
theorem cd_i61_23 : cd_I 61 23 = some (.aload_n 1, 0, 0) := by decide +kernel
theorem cd_i61_24 : cd_I 61 24 = some (.getfield 32, 4, 1) := by decide +kernel
theorem cd_i61_27 : cd_I 61 27 = some (.astore_n 2, 0, 0) := by decide +kernel
theorem cd_i61_28 : cd_I 61 28 = some (.aload_n 2, 0, 0) := by decide +kernel
theorem cd_i61_29 : cd_I 61 29 = some (.ifnull 28, 57, 0) := by decide +kernel
theorem cd_i61_32 : cd_I 61 32 = some (.aload_n 0, 0, 0) := by decide +kernel
theorem cd_i61_33 : cd_I 61 33 = some (.getfield 17, 2, 1) := by decide +kernel
theorem cd_i61_36 : cd_I 61 36 = some (.iconst 3, 0, 0) := by decide +kernel
theorem cd_i61_37 : cd_I 61 37 = some (.aload_n 1, 0, 0) := by decide +kernel
theorem cd_i61_38 : cd_I 61 38 = some (.getfield 25, 4, 0) := by decide +kernel
theorem cd_i61_41 : cd_I 61 41 = some (.iadd, 0, 0) := by decide +kernel
theorem cd_i61_42 : cd_I 61 42 = some (.dup2, 0, 0) := by decide +kernel
theorem cd_i61_43 : cd_I 61 43 = some (.iaload, 0, 0) := by decide +kernel
theorem cd_i61_44 : cd_I 61 44 = some (.aload_n 0, 0, 0) := by decide +kernel
theorem cd_i61_45 : cd_I 61 45 = some (.getfield 17, 2, 1) := by decide +kernel
theorem cd_i61_48 : cd_I 61 48 = some (.iconst 3, 0, 0) := by decide +kernel
theorem cd_i61_49 : cd_I 61 49 = some (.aload_n 2, 0, 0) := by decide +kernel
theorem cd_i61_50 : cd_I 61 50 = some (.getfield 25, 4, 0) := by decide +kernel
theorem cd_i61_53 : cd_I 61 53 = some (.iadd, 0, 0) := by decide +kernel
theorem cd_i61_54 : cd_I 61 54 = some (.iaload, 0, 0) := by decide +kernel
theorem cd_i61_55 : cd_I 61 55 = some (.ior, 0, 0) := by decide +kernel
theorem cd_i61_56 : cd_I 61 56 = some (.iastore, 0, 0) := by decide +kernel
theorem cd_i61_57 : cd_I 61 57 = some (.iconst 1, 0, 0) := by decide +kernel
theorem cd_i61_58 : cd_I 61 58 = some (.ireturn, 0, 0) := by decide +kernel
theorem cd_i62_0 : cd_I 62 0 = some (.aload_n 0, 0, 0) := by decide +kernel
theorem cd_i62_1 : cd_I 62 1 = some (.getfield 26, 0, 2) := by decide +kernel
theorem cd_i62_4 : cd_I 62 4 = some (.invokevirtual 94, 63, 0) := by decide +kernel
theorem cd_i62_7 : cd_I 62 7 = some (.istore_n 1, 0, 0) := by decide +kernel
theorem cd_i62_8 : cd_I 62 8 = some (.iload_n 1, 0, 0) := by decide +kernel
theorem cd_i62_9 : cd_I 62 9 = some (.ifCond .ne 14, 23, 0) := by decide +kernel
theorem cd_i62_12 : cd_I 62 12 = some (.aload_n 0, 0, 0) := by decide +kernel
theorem cd_i62_13 : cd_I 62 13 = some (.invokevirtual 97, 64, 0) := by decide +kernel
theorem cd_i62_16 : cd_I 62 16 = some (.ifCond .eq 7, 23, 0) := by decide +kernel
theorem cd_i62_19 : cd_I 62 19 = some (.iconst 1, 0, 0) := by decide +kernel
theorem cd_i62_20 : cd_I 62 20 = some (.goto 4, 24, 0) := by decide +kernel
theorem cd_i62_23 : cd_I 62 23 = some (.iconst 0, 0, 0) := by decide +kernel
theorem cd_i62_24 : cd_I 62 24 = some (.istore_n 2, 0, 0) := by decide +kernel
theorem cd_i62_25 : cd_I 62 25 = some (.aload_n 0, 0, 0) := by decide +kernel
theorem cd_i62_26 : cd_I 62 26 = some (.getfield 10, 0, 0) := by decide +kernel
theorem cd_i62_29 : cd_I 62 29 = some (.invokevirtual 77, 60, 0) := by decide +kernel
theorem cd_i62_32 : cd_I 62 32 = some (.iload_n 1, 0, 0) := by decide +kernel
theorem cd_i62_33 : cd_I 62 33 = some (.ifCond .eq 11, 44, 0) := by decide +kernel
theorem cd_i62_36 : cd_I 62 36 = some (.new 86, 13, 88) := by decide +kernel
theorem cd_i62_44 : cd_I 62 44 = some (.iload_n 2, 0, 0) := by decide +kernel
theorem cd_i62_45 : cd_I 62 45 = some (.ifCond .ne 11, 56, 0) := by decide +kernel
theorem cd_i62_48 : cd_I 62 48 = some (.new 80, 12, 82) := by decide +kernel
theorem cd_i62_56 : cd_I 62 56 = some (.aload_n 0, 0, 0) := by decide +kernel
theorem cd_i62_57 : cd_I 62 57 = some (.getfield 26, 0, 2) := by decide +kernel
theorem cd_i62_60 : cd_I 62 60 = some (.getfield 100, 9, 2) := by decide +kernel
theorem cd_i62_63 : cd_I 62 63 = some (.ireturn, 0, 0) := by decide +kernel
theorem cd_i63_0 : cd_I 63 0 = some (.aload_n 0, 0, 0) := by decide +kernel
theorem cd_i63_1 : cd_I 63 1 = some (.getfield 18, 9, 2) := by decide +kernel
theorem cd_i63_4 : cd_I 63 4 = some (.iconst 5, 0, 0) := by decide +kernel
theorem cd_i63_5 : cd_I 63 5 = some (.if_icmp .ne 7, 12, 0) := by decide +kernel
theorem cd_i63_8 : cd_I 63 8 = some (.iconst 1, 0, 0) := by decide +kernel
theorem cd_i63_9 : cd_I 63 9 = some (.goto 4, 13, 0) := by decide +kernel
theorem cd_i63_12 : cd_I 63 12 = some (.iconst 0, 0, 0) := by decide +kernel
theorem cd_i63_13 : cd_I 63 13 = some (.ireturn, 0, 0) := by decide +kernel
theorem cd_i64_0 : cd_I 64 0 = some (.aload_n 0, 0, 0) := by decide +kernel
theorem cd_i64_1 : cd_I 64 1 = some (.getfield 10, 0, 0) := by decide +kernel
theorem cd_i64_4 : cd_I 64 4 = some (.invokevirtual 166, 54, 0) := by decide +kernel
theorem cd_i64_7 : cd_I 64 7 = some (.istore_n 1, 0, 0) := by decide +kernel
theorem cd_i64_8 : cd_I 64 8 = some (.iload_n 1, 0, 0) := by decide +kernel
theorem cd_i64_9 : cd_I 64 9 = some (.ifCond .eq 15, 24, 0) := by decide +kernel
theorem cd_i64_12 : cd_I 64 12 = some (.aload_n 0, 0, 0) := by decide +kernel
theorem cd_i64_13 : cd_I 64 13 = some (.getfield 10, 0, 0) := by decide +kernel
theorem cd_i64_16 : cd_I 64 16 = some (.bipush 58, 0, 0) := by decide +kernel
theorem cd_i64_18 : cd_I 64 18 = some (.invokevirtual 169, 34, 1) := by decide +kernel
theorem cd_i64_21 : cd_I 64 21 = some (.ifCond .ne 5, 26, 0) := by decide +kernel
theorem cd_i64_24 : cd_I 64 24 = some (.iconst 0, 0, 0) := by decide +kernel
theorem cd_i64_25 : cd_I 64 25 = some (.ireturn, 0, 0) := by decide +kernel
theorem cd_i64_26 : cd_I 64 26 = some (.aload_n 0, 0, 0) := by decide +kernel
theorem cd_i64_27 : cd_I 64 27 = some (.getfield 10, 0, 0) := by decide +kernel
theorem cd_i64_30 : cd_I 64 30 = some (.invokevirtual 173, 50, 0) := by decide +kernel
theorem cd_i64_33 : cd_I 64 33 = some (.istore_n 2, 0, 0) := by decide +kernel
theorem cd_i64_34 : cd_I 64 34 = some (.iload_n 2, 0, 0) := by decide +kernel
theorem cd_i64_35 : cd_I 64 35 = some (.iconst (-1), 0, 0) := by decide +kernel
theorem cd_i64_36 : cd_I 64 36 = some (.if_icmp .eq 29, 65, 0) := by decide +kernel
theorem cd_i64_39 : cd_I 64 39 = some (.aload_n 0, 0, 0) := by decide +kernel
theorem cd_i64_40 : cd_I 64 40 = some (.getfield 10, 0, 0) := by decide +kernel
theorem cd_i64_43 : cd_I 64 43 = some (.invokevirtual 73, 59, 0) := by decide +kernel
theorem cd_i64_46 : cd_I 64 46 = some (.ifCond .eq 19, 65, 0) := by decide +kernel
theorem cd_i64_49 : cd_I 64 49 = some (.aload_n 0, 0, 0) := by decide +kernel
theorem cd_i64_50 : cd_I 64 50 = some (.getfield 26, 0, 2) := by decide +kernel
theorem cd_i64_53 : cd_I 64 53 = some (.iload_n 1, 0, 0) := by decide +kernel
theorem cd_i64_54 : cd_I 64 54 = some (.iload_n 2, 0, 0) := by decide +kernel
theorem cd_i64_55 : cd_I 64 55 = some (.invokevirtual 176, 65, 2) := by decide +kernel
theorem cd_i64_58 : cd_I 64 58 = some (.ifCond .eq 7, 65, 0) := by decide +kernel
theorem cd_i64_61 : cd_I 64 61 = some (.iconst 1, 0, 0) := by decide +kernel
theorem cd_i64_62 : cd_I 64 62 = some (.goto 4, 66, 0) := by decide +kernel
theorem cd_i64_65 : cd_I 64 65 = some (.iconst 0, 0, 0) := by decide +kernel
theorem cd_i64_66 : cd_I 64 66 = some (.ireturn, 0, 0) := by decide +kernel
theorem cd_i65_0 : cd_I 65 0 = some (.aload_n 0, 0, 0) := by decide +kernel
theorem cd_i65_1 : cd_I 65 1 = some (.invokevirtual 22, 63, 0) := by decide +kernel
theorem cd_i65_4 : cd_I 65 4 = some (.ifCond .ne 12, 16, 0) := by decide +kernel
theorem cd_i65_7 : cd_I 65 7 = some (.aload_n 0, 0, 0) := by decide +kernel
theorem cd_i65_8 : cd_I 65 8 = some (.iload_n 1, 0, 0) := by decide +kernel
theorem cd_i65_9 : cd_I 65 9 = some (.invokevirtual 26, 66, 1) := by decide +kernel
theorem cd_i65_12 : cd_I 65 12 = some (.iconst (-1), 0, 0) := by decide +kernel
theorem cd_i65_13 : cd_I 65 13 = some (.if_icmp .eq 5, 18, 0) := by decide +kernel
theorem cd_i65_16 : cd_I 65 16 = some (.iconst 0, 0, 0) := by decide +kernel
theorem cd_i65_17 : cd_I 65 17 = some (.ireturn, 0, 0) := by decide +kernel
theorem cd_i65_18 : cd_I 65 18 = some (.aload_n 0, 0, 0) := by decide +kernel
theorem cd_i65_19 : cd_I 65 19 = some (.getfield 9, 9, 0) := by decide +kernel
theorem cd_i65_22 : cd_I 65 22 = some (.aload_n 0, 0, 0) := by decide +kernel
theorem cd_i65_23 : cd_I 65 23 = some (.getfield 18, 9, 2) := by decide +kernel
theorem cd_i65_26 : cd_I 65 26 = some (.iload_n 1, 0, 0) := by decide +kernel
theorem cd_i65_27 : cd_I 65 27 = some (.iastore, 0, 0) := by decide +kernel
theorem cd_i65_28 : cd_I 65 28 = some (.aload_n 0, 0, 0) := by decide +kernel
theorem cd_i65_29 : cd_I 65 29 = some (.getfield 15, 9, 1) := by decide +kernel
theorem cd_i65_32 : cd_I 65 32 = some (.aload_n 0, 0, 0) := by decide +kernel
theorem cd_i65_33 : cd_I 65 33 = some (.getfield 18, 9, 2) := by decide +kernel
theorem cd_i65_36 : cd_I 65 36 = some (.iload_n 2, 0, 0) := by decide +kernel
theorem cd_i65_37 : cd_I 65 37 = some (.iastore, 0, 0) := by decide +kernel
theorem cd_i65_38 : cd_I 65 38 = some (.aload_n 0, 0, 0) := by decide +kernel
theorem cd_i65_39 : cd_I 65 39 = some (.dup, 0, 0) := by decide +kernel
theorem cd_i65_40 : cd_I 65 40 = some (.getfield 18, 9, 2) := by decide +kernel
theorem cd_i65_43 : cd_I 65 43 = some (.iconst 1, 0, 0) := by decide +kernel
theorem cd_i65_44 : cd_I 65 44 = some (.iadd, 0, 0) := by decide +kernel
theorem cd_i65_45 : cd_I 65 45 = some (.putfield 18, 9, 2) := by decide +kernel
theorem cd_i65_48 : cd_I 65 48 = some (.iconst 1, 0, 0) := by decide +kernel
theorem cd_i65_49 : cd_I 65 49 = some (.ireturn, 0, 0) := by decide +kernel
theorem cd_i66_0 : cd_I 66 0 = some (.iconst 0, 0, 0) := by decide +kernel
theorem cd_i66_1 : cd_I 66 1 = some (.istore_n 2, 0, 0) := by decide +kernel
theorem cd_i66_2 : cd_I 66 2 = some (.iload_n 2, 0, 0) := by decide +kernel
theorem cd_i66_3 : cd_I 66 3 = some (.aload_n 0, 0, 0) := by decide +kernel
theorem cd_i66_4 : cd_I 66 4 = some (.getfield 18, 9, 2) := by decide +kernel
theorem cd_i66_7 : cd_I 66 7 = some (.if_icmp .ge 26, 33, 0) := by decide +kernel
theorem cd_i66_10 : cd_I 66 10 = some (.aload_n 0, 0, 0) := by decide +kernel
theorem cd_i66_11 : cd_I 66 11 = some (.getfield 9, 9, 0) := by decide +kernel
theorem cd_i66_14 : cd_I 66 14 = some (.iload_n 2, 0, 0) := by decide +kernel
theorem cd_i66_15 : cd_I 66 15 = some (.iaload, 0, 0) := by decide +kernel
theorem cd_i66_16 : cd_I 66 16 = some (.iload_n 1, 0, 0) := by decide +kernel
theorem cd_i66_17 : cd_I 66 17 = some (.if_icmp .ne 10, 27, 0) := by decide +kernel
theorem cd_i66_20 : cd_I 66 20 = some (.aload_n 0, 0, 0) := by decide +kernel
theorem cd_i66_21 : cd_I 66 21 = some (.getfield 15, 9, 1) := by decide +kernel
theorem cd_i66_24 : cd_I 66 24 = some (.iload_n 2, 0, 0) := by decide +kernel
theorem cd_i66_25 : cd_I 66 25 = some (.iaload, 0, 0) := by decide +kernel
theorem cd_i66_26 : cd_I 66 26 = some (.ireturn, 0, 0) := by decide +kernel
theorem cd_i66_27 : cd_I 66 27 = some (.iinc 2 1, 0, 0) := by decide +kernel
theorem cd_i66_30 : cd_I 66 30 = some (.goto (-28), 2, 0) := by decide +kernel
theorem cd_i66_33 : cd_I 66 33 = some (.iconst (-1), 0, 0) := by decide +kernel
theorem cd_i66_34 : cd_I 66 34 = some (.ireturn, 0, 0) := by decide +kernel
theorem cd_i67_0 : cd_I 67 0 = some (.iload_n 1, 0, 0) := by decide +kernel
theorem cd_i67_1 : cd_I 67 1 = some (.iconst (-1), 0, 0) := by decide +kernel
theorem cd_i67_2 : cd_I 67 2 = some (.if_icmp .eq 18, 20, 0) := by decide +kernel
theorem cd_i67_5 : cd_I 67 5 = some (.iload_n 1, 0, 0) := by decide +kernel
theorem cd_i67_6 : cd_I 67 6 = some (.invokestatic 101, 24, 1) := by decide +kernel
theorem cd_i67_9 : cd_I 67 9 = some (.ifCond .ne 11, 20, 0) := by decide +kernel
theorem cd_i67_12 : cd_I 67 12 = some (.new 80, 12, 82) := by decide +kernel
theorem cd_i67_20 : cd_I 67 20 = some (.aload_n 0, 0, 0) := by decide +kernel
theorem cd_i67_21 : cd_I 67 21 = some (.getfield 19, 0, 1) := by decide +kernel
theorem cd_i67_24 : cd_I 67 24 = some (.iload_n 1, 0, 0) := by decide +kernel
theorem cd_i67_25 : cd_I 67 25 = some (.putfield 105, 2, 2) := by decide +kernel
theorem cd_i67_28 : cd_I 67 28 = some (.return_, 0, 0) := by decide +kernel
theorem cd_i68_0 : cd_I 68 0 = some (.iload_n 1, 0, 0) := by decide +kernel
theorem cd_i68_1 : cd_I 68 1 = some (.invokestatic 108, 15, 1) := by decide +kernel
theorem cd_i68_4 : cd_I 68 4 = some (.ifCond .eq 12, 16, 0) := by decide +kernel
theorem cd_i68_7 : cd_I 68 7 = some (.iload_n 2, 0, 0) := by decide +kernel
theorem cd_i68_8 : cd_I 68 8 = some (.ifCond .lt 8, 16, 0) := by decide +kernel
theorem cd_i68_11 : cd_I 68 11 = some (.iload_n 2, 0, 0) := by decide +kernel
theorem cd_i68_12 : cd_I 68 12 = some (.iconst 3, 0, 0) := by decide +kernel
theorem cd_i68_13 : cd_I 68 13 = some (.if_icmp .le 11, 24, 0) := by decide +kernel
theorem cd_i68_16 : cd_I 68 16 = some (.new 80, 12, 82) := by decide +kernel
theorem cd_i68_24 : cd_I 68 24 = some (.aload_n 0, 0, 0) := by decide +kernel
theorem cd_i68_25 : cd_I 68 25 = some (.getfield 53, 0, 5) := by decide +kernel
theorem cd_i68_28 : cd_I 68 28 = some (.invokevirtual 111, 69, 0) := by decide +kernel
theorem cd_i68_31 : cd_I 68 31 = some (.iconst 1, 0, 0) := by decide +kernel
theorem cd_i68_32 : cd_I 68 32 = some (.istore_n 3, 0, 0) := by decide +kernel
theorem cd_i68_33 : cd_I 68 33 = some (.iload_n 3, 0, 0) := by decide +kernel
theorem cd_i68_34 : cd_I 68 34 = some (.iload_n 2, 0, 0) := by decide +kernel
theorem cd_i68_35 : cd_I 68 35 = some (.if_icmp .gt 17, 52, 0) := by decide +kernel
theorem cd_i68_38 : cd_I 68 38 = some (.aload_n 0, 0, 0) := by decide +kernel
theorem cd_i68_39 : cd_I 68 39 = some (.getfield 53, 0, 5) := by decide +kernel
theorem cd_i68_42 : cd_I 68 42 = some (.iload_n 3, 0, 0) := by decide +kernel
theorem cd_i68_43 : cd_I 68 43 = some (.invokevirtual 114, 78, 1) := by decide +kernel
theorem cd_i68_46 : cd_I 68 46 = some (.iinc 3 1, 0, 0) := by decide +kernel
theorem cd_i68_49 : cd_I 68 49 = some (.goto (-16), 33, 0) := by decide +kernel
theorem cd_i68_52 : cd_I 68 52 = some (.aload_n 0, 0, 0) := by decide +kernel
theorem cd_i68_53 : cd_I 68 53 = some (.getfield 53, 0, 5) := by decide +kernel
theorem cd_i68_56 : cd_I 68 56 = some (.iload_n 1, 0, 0) := by decide +kernel
theorem cd_i68_57 : cd_I 68 57 = some (.iload_n 2, 0, 0) := by decide +kernel
theorem cd_i68_58 : cd_I 68 58 = some (.invokevirtual 118, 86, 2) := by decide +kernel
theorem cd_i68_61 : cd_I 68 61 = some (.ireturn, 0, 0) := by decide +kernel
theorem cd_i69_0 : cd_I 69 0 = some (.aload_n 0, 0, 0) := by decide +kernel
theorem cd_i69_1 : cd_I 69 1 = some (.iconst 0, 0, 0) := by decide +kernel
theorem cd_i69_2 : cd_I 69 2 = some (.invokevirtual 41, 70, 1) := by decide +kernel
theorem cd_i69_5 : cd_I 69 5 = some (.iconst 0, 0, 0) := by decide +kernel
theorem cd_i69_6 : cd_I 69 6 = some (.istore_n 1, 0, 0) := by decide +kernel
theorem cd_i69_7 : cd_I 69 7 = some (.iload_n 1, 0, 0) := by decide +kernel
theorem cd_i69_8 : cd_I 69 8 = some (.aload_n 0, 0, 0) := by decide +kernel
theorem cd_i69_9 : cd_I 69 9 = some (.getfield 32, 3, 1) := by decide +kernel
theorem cd_i69_12 : cd_I 69 12 = some (.getfield 45, 9, 2) := by decide +kernel
theorem cd_i69_15 : cd_I 69 15 = some (.if_icmp .ge 60, 75, 0) := by decide +kernel
theorem cd_i69_18 : cd_I 69 18 = some (.aload_n 0, 0, 0) := by decide +kernel
theorem cd_i69_19 : cd_I 69 19 = some (.getfield 24, 3, 4) := by decide +kernel
theorem cd_i69_22 : cd_I 69 22 = some (.iconst 0, 0, 0) := by decide +kernel
theorem cd_i69_23 : cd_I 69 23 = some (.putfield 51, 8, 1) := by decide +kernel
theorem cd_i69_26 : cd_I 69 26 = some (.aload_n 0, 0, 0) := by decide +kernel
theorem cd_i69_27 : cd_I 69 27 = some (.getfield 24, 3, 4) := by decide +kernel
theorem cd_i69_30 : cd_I 69 30 = some (.aload_n 0, 0, 0) := by decide +kernel
theorem cd_i69_31 : cd_I 69 31 = some (.getfield 32, 3, 1) := by decide +kernel
theorem cd_i69_34 : cd_I 69 34 = some (.getfield 54, 9, 0) := by decide +kernel
theorem cd_i69_37 : cd_I 69 37 = some (.iload_n 1, 0, 0) := by decide +kernel
theorem cd_i69_38 : cd_I 69 38 = some (.iaload, 0, 0) := by decide +kernel
theorem cd_i69_39 : cd_I 69 39 = some (.invokevirtual 58, 71, 1) := by decide +kernel
theorem cd_i69_42 : cd_I 69 42 = some (.aload_n 0, 0, 0) := by decide +kernel
theorem cd_i69_43 : cd_I 69 43 = some (.getfield 24, 3, 4) := by decide +kernel
theorem cd_i69_46 : cd_I 69 46 = some (.aload_n 0, 0, 0) := by decide +kernel
theorem cd_i69_47 : cd_I 69 47 = some (.getfield 32, 3, 1) := by decide +kernel
theorem cd_i69_50 : cd_I 69 50 = some (.getfield 61, 9, 1) := by decide +kernel
theorem cd_i69_53 : cd_I 69 53 = some (.iload_n 1, 0, 0) := by decide +kernel
theorem cd_i69_54 : cd_I 69 54 = some (.iaload, 0, 0) := by decide +kernel
theorem cd_i69_55 : cd_I 69 55 = some (.putfield 64, 8, 2) := by decide +kernel
theorem cd_i69_58 : cd_I 69 58 = some (.aload_n 0, 0, 0) := by decide +kernel
theorem cd_i69_59 : cd_I 69 59 = some (.getfield 37, 3, 5) := by decide +kernel
theorem cd_i69_62 : cd_I 69 62 = some (.aload_n 0, 0, 0) := by decide +kernel
theorem cd_i69_63 : cd_I 69 63 = some (.getfield 24, 3, 4) := by decide +kernel
theorem cd_i69_66 : cd_I 69 66 = some (.invokevirtual 67, 73, 1) := by decide +kernel
theorem cd_i69_69 : cd_I 69 69 = some (.iinc 1 1, 0, 0) := by decide +kernel
theorem cd_i69_72 : cd_I 69 72 = some (.goto (-65), 7, 0) := by decide +kernel
theorem cd_i69_75 : cd_I 69 75 = some (.return_, 0, 0) := by decide +kernel
theorem cd_i70_0 : cd_I 70 0 = some (.aload_n 0, 0, 0) := by decide +kernel
theorem cd_i70_1 : cd_I 70 1 = some (.aload_n 0, 0, 0) := by decide +kernel
theorem cd_i70_2 : cd_I 70 2 = some (.getfield 11, 3, 2) := by decide +kernel
theorem cd_i70_5 : cd_I 70 5 = some (.iload_n 1, 0, 0) := by decide +kernel
theorem cd_i70_6 : cd_I 70 6 = some (.aaload, 0, 0) := by decide +kernel
theorem cd_i70_7 : cd_I 70 7 = some (.putfield 37, 3, 5) := by decide +kernel
theorem cd_i70_10 : cd_I 70 10 = some (.aload_n 0, 0, 0) := by decide +kernel
theorem cd_i70_11 : cd_I 70 11 = some (.getfield 37, 3, 5) := by decide +kernel
theorem cd_i70_14 : cd_I 70 14 = some (.iconst 0, 0, 0) := by decide +kernel
theorem cd_i70_15 : cd_I 70 15 = some (.putfield 75, 10, 1) := by decide +kernel
theorem cd_i70_18 : cd_I 70 18 = some (.aload_n 0, 0, 0) := by decide +kernel
theorem cd_i70_19 : cd_I 70 19 = some (.getfield 24, 3, 4) := by decide +kernel
theorem cd_i70_22 : cd_I 70 22 = some (.iload_n 1, 0, 0) := by decide +kernel
theorem cd_i70_23 : cd_I 70 23 = some (.putfield 92, 8, 3) := by decide +kernel
theorem cd_i70_26 : cd_I 70 26 = some (.return_, 0, 0) := by decide +kernel
theorem cd_i71_0 : cd_I 71 0 = some (.bipush 24, 0, 0) := by decide +kernel
theorem cd_i71_2 : cd_I 71 2 = some (.istore_n 2, 0, 0) := by decide +kernel
theorem cd_i71_3 : cd_I 71 3 = some (.iload_n 2, 0, 0) := by decide +kernel
theorem cd_i71_4 : cd_I 71 4 = some (.ifCond .lt 27, 31, 0) := by decide +kernel
theorem cd_i71_7 : cd_I 71 7 = some (.iload_n 1, 0, 0) := by decide +kernel
theorem cd_i71_8 : cd_I 71 8 = some (.iload_n 2, 0, 0) := by decide +kernel
theorem cd_i71_9 : cd_I 71 9 = some (.ishr, 0, 0) := by decide +kernel
theorem cd_i71_10 : cd_I 71 10 = some (.sipush 255, 0, 0) := by decide +kernel
theorem cd_i71_13 : cd_I 71 13 = some (.iand, 0, 0) := by decide +kernel
theorem cd_i71_14 : cd_I 71 14 = some (.istore_n 3, 0, 0) := by decide +kernel
theorem cd_i71_15 : cd_I 71 15 = some (.iload_n 3, 0, 0) := by decide +kernel
theorem cd_i71_16 : cd_I 71 16 = some (.ifCond .eq 9, 25, 0) := by decide +kernel
theorem cd_i71_19 : cd_I 71 19 = some (.aload_n 0, 0, 0) := by decide +kernel
theorem cd_i71_20 : cd_I 71 20 = some (.iload_n 3, 0, 0) := by decide +kernel
theorem cd_i71_21 : cd_I 71 21 = some (.i2c, 0, 0) := by decide +kernel
theorem cd_i71_22 : cd_I 71 22 = some (.invokevirtual 28, 72, 1) := by decide +kernel
theorem cd_i71_25 : cd_I 71 25 = some (.iinc 2 (-8), 0, 0) := by decide +kernel
theorem cd_i71_28 : cd_I 71 28 = some (.goto (-25), 3, 0) := by decide +kernel
theorem cd_i71_31 : cd_I 71 31 = some (.return_, 0, 0) := by decide +kernel
end
section
theorem cd_i72_0 : cd_I 72 0 = some (.aload_n 0, 0, 0) := by decide +kernel
theorem cd_i72_1 : cd_I 72 1 = some (.getfield 15, 8, 1) := by decide +kernel
theorem cd_i72_4 : cd_I 72 4 = some (.aload_n 0, 0, 0) := by decide +kernel
theorem cd_i72_5 : cd_I 72 5 = some (.getfield 9, 8, 0) := by decide +kernel
theorem cd_i72_8 : cd_I 72 8 = some (.arraylength, 0, 0) := by decide +kernel
theorem cd_i72_9 : cd_I 72 9 = some (.if_icmp .ge 23, 32, 0) := by decide +kernel
theorem cd_i72_12 : cd_I 72 12 = some (.aload_n 0, 0, 0) := by decide +kernel
theorem cd_i72_13 : cd_I 72 13 = some (.getfield 9, 8, 0) := by decide +kernel
theorem cd_i72_16 : cd_I 72 16 = some (.aload_n 0, 0, 0) := by decide +kernel
theorem cd_i72_17 : cd_I 72 17 = some (.getfield 15, 8, 1) := by decide +kernel
theorem cd_i72_20 : cd_I 72 20 = some (.iload_n 1, 0, 0) := by decide +kernel
theorem cd_i72_21 : cd_I 72 21 = some (.castore, 0, 0) := by decide +kernel
theorem cd_i72_22 : cd_I 72 22 = some (.aload_n 0, 0, 0) := by decide +kernel
theorem cd_i72_23 : cd_I 72 23 = some (.dup, 0, 0) := by decide +kernel
theorem cd_i72_24 : cd_I 72 24 = some (.getfield 15, 8, 1) := by decide +kernel
theorem cd_i72_27 : cd_I 72 27 = some (.iconst 1, 0, 0) := by decide +kernel
theorem cd_i72_28 : cd_I 72 28 = some (.iadd, 0, 0) := by decide +kernel
theorem cd_i72_29 : cd_I 72 29 = some (.putfield 15, 8, 1) := by decide +kernel
theorem cd_i72_32 : cd_I 72 32 = some (.return_, 0, 0) := by decide +kernel
theorem cd_i73_0 : cd_I 73 0 = some (.aload_n 0, 0, 0) := by decide +kernel
theorem cd_i73_1 : cd_I 73 1 = some (.aload_n 1, 0, 0) := by decide +kernel
theorem cd_i73_2 : cd_I 73 2 = some (.invokevirtual 30, 74, 1) := by decide +kernel
theorem cd_i73_5 : cd_I 73 5 = some (.ifCond .ne 4, 9, 0) := by decide +kernel
theorem cd_i73_8 : cd_I 73 8 = some (.return_, 0, 0) := by decide +kernel
theorem cd_i73_9 : cd_I 73 9 = some (.aload_n 0, 0, 0) := by decide +kernel
theorem cd_i73_10 : cd_I 73 10 = some (.getfield 22, 10, 1) := by decide +kernel
theorem cd_i73_13 : cd_I 73 13 = some (.aload_n 0, 0, 0) := by decide +kernel
theorem cd_i73_14 : cd_I 73 14 = some (.getfield 11, 10, 0) := by decide +kernel
theorem cd_i73_17 : cd_I 73 17 = some (.arraylength, 0, 0) := by decide +kernel
theorem cd_i73_18 : cd_I 73 18 = some (.if_icmp .ge 13, 31, 0) := by decide +kernel
theorem cd_i73_21 : cd_I 73 21 = some (.aload_n 0, 0, 0) := by decide +kernel
theorem cd_i73_22 : cd_I 73 22 = some (.dup, 0, 0) := by decide +kernel
theorem cd_i73_23 : cd_I 73 23 = some (.getfield 22, 10, 1) := by decide +kernel
theorem cd_i73_26 : cd_I 73 26 = some (.iconst 1, 0, 0) := by decide +kernel
theorem cd_i73_27 : cd_I 73 27 = some (.iadd, 0, 0) := by decide +kernel
theorem cd_i73_28 : cd_I 73 28 = some (.putfield 22, 10, 1) := by decide +kernel
theorem cd_i73_31 : cd_I 73 31 = some (.aload_n 0, 0, 0) := by decide +kernel
theorem cd_i73_32 : cd_I 73 32 = some (.getfield 22, 10, 1) := by decide +kernel
theorem cd_i73_35 : cd_I 73 35 = some (.iconst 1, 0, 0) := by decide +kernel
theorem cd_i73_36 : cd_I 73 36 = some (.isub, 0, 0) := by decide +kernel
theorem cd_i73_37 : cd_I 73 37 = some (.istore_n 2, 0, 0) := by decide +kernel
theorem cd_i73_38 : cd_I 73 38 = some (.aload_n 0, 0, 0) := by decide +kernel
theorem cd_i73_39 : cd_I 73 39 = some (.getfield 11, 10, 0) := by decide +kernel
theorem cd_i73_42 : cd_I 73 42 = some (.iload_n 2, 0, 0) := by decide +kernel
theorem cd_i73_43 : cd_I 73 43 = some (.aaload, 0, 0) := by decide +kernel
theorem cd_i73_44 : cd_I 73 44 = some (.astore_n 3, 0, 0) := by decide +kernel
theorem cd_i73_45 : cd_I 73 45 = some (.iload_n 2, 0, 0) := by decide +kernel
theorem cd_i73_46 : cd_I 73 46 = some (.ifCond .le 38, 84, 0) := by decide +kernel
theorem cd_i73_49 : cd_I 73 49 = some (.aload_n 1, 0, 0) := by decide +kernel
theorem cd_i73_50 : cd_I 73 50 = some (.aload_n 0, 0, 0) := by decide +kernel
theorem cd_i73_51 : cd_I 73 51 = some (.getfield 11, 10, 0) := by decide +kernel
theorem cd_i73_54 : cd_I 73 54 = some (.iload_n 2, 0, 0) := by decide +kernel
theorem cd_i73_55 : cd_I 73 55 = some (.iconst 1, 0, 0) := by decide +kernel
theorem cd_i73_56 : cd_I 73 56 = some (.isub, 0, 0) := by decide +kernel
theorem cd_i73_57 : cd_I 73 57 = some (.aaload, 0, 0) := by decide +kernel
theorem cd_i73_58 : cd_I 73 58 = some (.invokevirtual 26, 76, 1) := by decide +kernel
theorem cd_i73_61 : cd_I 73 61 = some (.ifCond .eq 23, 84, 0) := by decide +kernel
theorem cd_i73_64 : cd_I 73 64 = some (.aload_n 0, 0, 0) := by decide +kernel
theorem cd_i73_65 : cd_I 73 65 = some (.getfield 11, 10, 0) := by decide +kernel
theorem cd_i73_68 : cd_I 73 68 = some (.iload_n 2, 0, 0) := by decide +kernel
theorem cd_i73_69 : cd_I 73 69 = some (.aload_n 0, 0, 0) := by decide +kernel
theorem cd_i73_70 : cd_I 73 70 = some (.getfield 11, 10, 0) := by decide +kernel
theorem cd_i73_73 : cd_I 73 73 = some (.iload_n 2, 0, 0) := by decide +kernel
theorem cd_i73_74 : cd_I 73 74 = some (.iconst 1, 0, 0) := by decide +kernel
theorem cd_i73_75 : cd_I 73 75 = some (.isub, 0, 0) := by decide +kernel
theorem cd_i73_76 : cd_I 73 76 = some (.aaload, 0, 0) := by decide +kernel
theorem cd_i73_77 : cd_I 73 77 = some (.aastore, 0, 0) := by decide +kernel
theorem cd_i73_78 : cd_I 73 78 = some (.iinc 2 (-1), 0, 0) := by decide +kernel
theorem cd_i73_81 : cd_I 73 81 = some (.goto (-36), 45, 0) := by decide +kernel
theorem cd_i73_84 : cd_I 73 84 = some (.aload_n 0, 0, 0) := by decide +kernel
theorem cd_i73_85 : cd_I 73 85 = some (.getfield 11, 10, 0) := by decide +kernel
theorem cd_i73_88 : cd_I 73 88 = some (.iload_n 2, 0, 0) := by decide +kernel
theorem cd_i73_89 : cd_I 73 89 = some (.aload_n 3, 0, 0) := by decide +kernel
theorem cd_i73_90 : cd_I 73 90 = some (.aastore, 0, 0) := by decide +kernel
theorem cd_i73_91 : cd_I 73 91 = some (.aload_n 3, 0, 0) := by decide +kernel
theorem cd_i73_92 : cd_I 73 92 = some (.aload_n 1, 0, 0) := by decide +kernel
theorem cd_i73_93 : cd_I 73 93 = some (.invokevirtual 33, 77, 1) := by decide +kernel
theorem cd_i73_96 : cd_I 73 96 = some (.return_, 0, 0) := by decide +kernel
theorem cd_i74_0 : cd_I 74 0 = some (.aload_n 1, 0, 0) := by decide +kernel
theorem cd_i74_1 : cd_I 74 1 = some (.invokevirtual 18, 75, 0) := by decide +kernel
theorem cd_i74_4 : cd_I 74 4 = some (.ifCond .eq 5, 9, 0) := by decide +kernel
theorem cd_i74_7 : cd_I 74 7 = some (.iconst 0, 0, 0) := by decide +kernel
theorem cd_i74_8 : cd_I 74 8 = some (.ireturn, 0, 0) := by decide +kernel
theorem cd_i74_9 : cd_I 74 9 = some (.aload_n 0, 0, 0) := by decide +kernel
theorem cd_i74_10 : cd_I 74 10 = some (.getfield 22, 10, 1) := by decide +kernel
theorem cd_i74_13 : cd_I 74 13 = some (.aload_n 0, 0, 0) := by decide +kernel
theorem cd_i74_14 : cd_I 74 14 = some (.getfield 11, 10, 0) := by decide +kernel
theorem cd_i74_17 : cd_I 74 17 = some (.arraylength, 0, 0) := by decide +kernel
theorem cd_i74_18 : cd_I 74 18 = some (.if_icmp .lt 22, 40, 0) := by decide +kernel
theorem cd_i74_21 : cd_I 74 21 = some (.aload_n 1, 0, 0) := by decide +kernel
theorem cd_i74_22 : cd_I 74 22 = some (.aload_n 0, 0, 0) := by decide +kernel
theorem cd_i74_23 : cd_I 74 23 = some (.getfield 11, 10, 0) := by decide +kernel
theorem cd_i74_26 : cd_I 74 26 = some (.aload_n 0, 0, 0) := by decide +kernel
theorem cd_i74_27 : cd_I 74 27 = some (.getfield 11, 10, 0) := by decide +kernel
theorem cd_i74_30 : cd_I 74 30 = some (.arraylength, 0, 0) := by decide +kernel
theorem cd_i74_31 : cd_I 74 31 = some (.iconst 1, 0, 0) := by decide +kernel
theorem cd_i74_32 : cd_I 74 32 = some (.isub, 0, 0) := by decide +kernel
theorem cd_i74_33 : cd_I 74 33 = some (.aaload, 0, 0) := by decide +kernel
theorem cd_i74_34 : cd_I 74 34 = some (.invokevirtual 26, 76, 1) := by decide +kernel
theorem cd_i74_37 : cd_I 74 37 = some (.ifCond .eq 7, 44, 0) := by decide +kernel
theorem cd_i74_40 : cd_I 74 40 = some (.iconst 1, 0, 0) := by decide +kernel
theorem cd_i74_41 : cd_I 74 41 = some (.goto 4, 45, 0) := by decide +kernel
theorem cd_i74_44 : cd_I 74 44 = some (.iconst 0, 0, 0) := by decide +kernel
theorem cd_i74_45 : cd_I 74 45 = some (.ireturn, 0, 0) := by decide +kernel
theorem cd_i75_0 : cd_I 75 0 = some (.aload_n 0, 0, 0) := by decide +kernel
theorem cd_i75_1 : cd_I 75 1 = some (.getfield 15, 8, 1) := by decide +kernel
theorem cd_i75_4 : cd_I 75 4 = some (.bipush 24, 0, 0) := by decide +kernel
theorem cd_i75_6 : cd_I 75 6 = some (.if_icmp .le 7, 13, 0) := by decide +kernel
theorem cd_i75_9 : cd_I 75 9 = some (.iconst 1, 0, 0) := by decide +kernel
theorem cd_i75_10 : cd_I 75 10 = some (.goto 4, 14, 0) := by decide +kernel
theorem cd_i75_13 : cd_I 75 13 = some (.iconst 0, 0, 0) := by decide +kernel
theorem cd_i75_14 : cd_I 75 14 = some (.ireturn, 0, 0) := by decide +kernel
theorem cd_i76_0 : cd_I 76 0 = some (.iconst 0, 0, 0) := by decide +kernel
theorem cd_i76_1 : cd_I 76 1 = some (.istore_n 2, 0, 0) := by decide +kernel
theorem cd_i76_2 : cd_I 76 2 = some (.iload_n 2, 0, 0) := by decide +kernel
theorem cd_i76_3 : cd_I 76 3 = some (.aload_n 0, 0, 0) := by decide +kernel
theorem cd_i76_4 : cd_I 76 4 = some (.getfield 15, 8, 1) := by decide +kernel
theorem cd_i76_7 : cd_I 76 7 = some (.if_icmp .ge 53, 60, 0) := by decide +kernel
theorem cd_i76_10 : cd_I 76 10 = some (.iload_n 2, 0, 0) := by decide +kernel
theorem cd_i76_11 : cd_I 76 11 = some (.aload_n 1, 0, 0) := by decide +kernel
theorem cd_i76_12 : cd_I 76 12 = some (.getfield 15, 8, 1) := by decide +kernel
theorem cd_i76_15 : cd_I 76 15 = some (.if_icmp .ge 45, 60, 0) := by decide +kernel
theorem cd_i76_18 : cd_I 76 18 = some (.aload_n 0, 0, 0) := by decide +kernel
theorem cd_i76_19 : cd_I 76 19 = some (.getfield 9, 8, 0) := by decide +kernel
theorem cd_i76_22 : cd_I 76 22 = some (.iload_n 2, 0, 0) := by decide +kernel
theorem cd_i76_23 : cd_I 76 23 = some (.caload, 0, 0) := by decide +kernel
theorem cd_i76_24 : cd_I 76 24 = some (.aload_n 1, 0, 0) := by decide +kernel
theorem cd_i76_25 : cd_I 76 25 = some (.getfield 9, 8, 0) := by decide +kernel
theorem cd_i76_28 : cd_I 76 28 = some (.iload_n 2, 0, 0) := by decide +kernel
theorem cd_i76_29 : cd_I 76 29 = some (.caload, 0, 0) := by decide +kernel
theorem cd_i76_30 : cd_I 76 30 = some (.if_icmp .eq 24, 54, 0) := by decide +kernel
theorem cd_i76_33 : cd_I 76 33 = some (.aload_n 0, 0, 0) := by decide +kernel
theorem cd_i76_34 : cd_I 76 34 = some (.getfield 9, 8, 0) := by decide +kernel
theorem cd_i76_37 : cd_I 76 37 = some (.iload_n 2, 0, 0) := by decide +kernel
theorem cd_i76_38 : cd_I 76 38 = some (.caload, 0, 0) := by decide +kernel
theorem cd_i76_39 : cd_I 76 39 = some (.aload_n 1, 0, 0) := by decide +kernel
theorem cd_i76_40 : cd_I 76 40 = some (.getfield 9, 8, 0) := by decide +kernel
theorem cd_i76_43 : cd_I 76 43 = some (.iload_n 2, 0, 0) := by decide +kernel
theorem cd_i76_44 : cd_I 76 44 = some (.caload, 0, 0) := by decide +kernel
theorem cd_i76_45 : cd_I 76 45 = some (.if_icmp .ge 7, 52, 0) := by decide +kernel
theorem cd_i76_48 : cd_I 76 48 = some (.iconst 1, 0, 0) := by decide +kernel
theorem cd_i76_49 : cd_I 76 49 = some (.goto 4, 53, 0) := by decide +kernel
theorem cd_i76_52 : cd_I 76 52 = some (.iconst 0, 0, 0) := by decide +kernel
theorem cd_i76_53 : cd_I 76 53 = some (.ireturn, 0, 0) := by decide +kernel
theorem cd_i76_54 : cd_I 76 54 = some (.iinc 2 1, 0, 0) := by decide +kernel
theorem cd_i76_57 : cd_I 76 57 = some (.goto (-55), 2, 0) := by decide +kernel
theorem cd_i76_60 : cd_I 76 60 = some (.aload_n 0, 0, 0) := by decide +kernel
theorem cd_i76_61 : cd_I 76 61 = some (.getfield 15, 8, 1) := by decide +kernel
theorem cd_i76_64 : cd_I 76 64 = some (.aload_n 1, 0, 0) := by decide +kernel
theorem cd_i76_65 : cd_I 76 65 = some (.getfield 15, 8, 1) := by decide +kernel
theorem cd_i76_68 : cd_I 76 68 = some (.if_icmp .ge 7, 75, 0) := by decide +kernel
theorem cd_i76_71 : cd_I 76 71 = some (.iconst 1, 0, 0) := by decide +kernel
theorem cd_i76_72 : cd_I 76 72 = some (.goto 4, 76, 0) := by decide +kernel
theorem cd_i76_75 : cd_I 76 75 = some (.iconst 0, 0, 0) := by decide +kernel
theorem cd_i76_76 : cd_I 76 76 = some (.ireturn, 0, 0) := by decide +kernel
theorem cd_i77_0 : cd_I 77 0 = some (.aload_n 1, 0, 0) := by decide +kernel
theorem cd_i77_1 : cd_I 77 1 = some (.getfield 9, 8, 0) := by decide +kernel
theorem cd_i77_4 : cd_I 77 4 = some (.iconst 0, 0, 0) := by decide +kernel
theorem cd_i77_5 : cd_I 77 5 = some (.aload_n 0, 0, 0) := by decide +kernel
theorem cd_i77_6 : cd_I 77 6 = some (.getfield 9, 8, 0) := by decide +kernel
theorem cd_i77_9 : cd_I 77 9 = some (.iconst 0, 0, 0) := by decide +kernel
theorem cd_i77_10 : cd_I 77 10 = some (.aload_n 1, 0, 0) := by decide +kernel
theorem cd_i77_11 : cd_I 77 11 = some (.getfield 15, 8, 1) := by decide +kernel
theorem cd_i77_14 : cd_I 77 14 = some (.invokestatic 38, 1004, 5) := by decide +kernel
theorem cd_i77_17 : cd_I 77 17 = some (.aload_n 0, 0, 0) := by decide +kernel
theorem cd_i77_18 : cd_I 77 18 = some (.aload_n 1, 0, 0) := by decide +kernel
theorem cd_i77_19 : cd_I 77 19 = some (.getfield 15, 8, 1) := by decide +kernel
theorem cd_i77_22 : cd_I 77 22 = some (.putfield 15, 8, 1) := by decide +kernel
theorem cd_i77_25 : cd_I 77 25 = some (.aload_n 0, 0, 0) := by decide +kernel
theorem cd_i77_26 : cd_I 77 26 = some (.aload_n 1, 0, 0) := by decide +kernel
theorem cd_i77_27 : cd_I 77 27 = some (.getfield 44, 8, 2) := by decide +kernel
theorem cd_i77_30 : cd_I 77 30 = some (.putfield 44, 8, 2) := by decide +kernel
theorem cd_i77_33 : cd_I 77 33 = some (.aload_n 0, 0, 0) := by decide +kernel
theorem cd_i77_34 : cd_I 77 34 = some (.aload_n 1, 0, 0) := by decide +kernel
theorem cd_i77_35 : cd_I 77 35 = some (.getfield 47, 8, 3) := by decide +kernel
theorem cd_i77_38 : cd_I 77 38 = some (.putfield 47, 8, 3) := by decide +kernel
theorem cd_i77_41 : cd_I 77 41 = some (.return_, 0, 0) := by decide +kernel
theorem cd_i78_0 : cd_I 78 0 = some (.aload_n 0, 0, 0) := by decide +kernel
theorem cd_i78_1 : cd_I 78 1 = some (.iload_n 1, 0, 0) := by decide +kernel
theorem cd_i78_2 : cd_I 78 2 = some (.invokevirtual 41, 70, 1) := by decide +kernel
theorem cd_i78_5 : cd_I 78 5 = some (.iconst 0, 0, 0) := by decide +kernel
theorem cd_i78_6 : cd_I 78 6 = some (.istore_n 2, 0, 0) := by decide +kernel
theorem cd_i78_7 : cd_I 78 7 = some (.iload_n 2, 0, 0) := by decide +kernel
theorem cd_i78_8 : cd_I 78 8 = some (.bipush 10, 0, 0) := by decide +kernel
theorem cd_i78_10 : cd_I 78 10 = some (.if_icmp .ge 17, 27, 0) := by decide +kernel
theorem cd_i78_13 : cd_I 78 13 = some (.aload_n 0, 0, 0) := by decide +kernel
theorem cd_i78_14 : cd_I 78 14 = some (.iload_n 2, 0, 0) := by decide +kernel
theorem cd_i78_15 : cd_I 78 15 = some (.iload_n 1, 0, 0) := by decide +kernel
theorem cd_i78_16 : cd_I 78 16 = some (.iconst 1, 0, 0) := by decide +kernel
theorem cd_i78_17 : cd_I 78 17 = some (.isub, 0, 0) := by decide +kernel
theorem cd_i78_18 : cd_I 78 18 = some (.invokevirtual 71, 79, 2) := by decide +kernel
theorem cd_i78_21 : cd_I 78 21 = some (.iinc 2 1, 0, 0) := by decide +kernel
theorem cd_i78_24 : cd_I 78 24 = some (.goto (-17), 7, 0) := by decide +kernel
theorem cd_i78_27 : cd_I 78 27 = some (.iconst 0, 0, 0) := by decide +kernel
theorem cd_i78_28 : cd_I 78 28 = some (.istore_n 2, 0, 0) := by decide +kernel
theorem cd_i78_29 : cd_I 78 29 = some (.iload_n 2, 0, 0) := by decide +kernel
theorem cd_i78_30 : cd_I 78 30 = some (.iload_n 1, 0, 0) := by decide +kernel
theorem cd_i78_31 : cd_I 78 31 = some (.if_icmp .ge 50, 81, 0) := by decide +kernel
theorem cd_i78_34 : cd_I 78 34 = some (.aload_n 0, 0, 0) := by decide +kernel
theorem cd_i78_35 : cd_I 78 35 = some (.getfield 11, 3, 2) := by decide +kernel
theorem cd_i78_38 : cd_I 78 38 = some (.iload_n 2, 0, 0) := by decide +kernel
theorem cd_i78_39 : cd_I 78 39 = some (.aaload, 0, 0) := by decide +kernel
theorem cd_i78_40 : cd_I 78 40 = some (.astore_n 3, 0, 0) := by decide +kernel
theorem cd_i78_41 : cd_I 78 41 = some (.iconst 0, 0, 0) := by decide +kernel
theorem cd_i78_42 : cd_I 78 42 = some (.istore 4, 0, 0) := by decide +kernel
theorem cd_i78_44 : cd_I 78 44 = some (.iload 4, 0, 0) := by decide +kernel
theorem cd_i78_46 : cd_I 78 46 = some (.aload_n 3, 0, 0) := by decide +kernel
theorem cd_i78_47 : cd_I 78 47 = some (.getfield 75, 10, 1) := by decide +kernel
theorem cd_i78_50 : cd_I 78 50 = some (.if_icmp .ge 25, 75, 0) := by decide +kernel
theorem cd_i78_53 : cd_I 78 53 = some (.aload_n 0, 0, 0) := by decide +kernel
theorem cd_i78_54 : cd_I 78 54 = some (.aload_n 3, 0, 0) := by decide +kernel
theorem cd_i78_55 : cd_I 78 55 = some (.getfield 76, 10, 0) := by decide +kernel
theorem cd_i78_58 : cd_I 78 58 = some (.iload 4, 0, 0) := by decide +kernel
theorem cd_i78_60 : cd_I 78 60 = some (.aaload, 0, 0) := by decide +kernel
theorem cd_i78_61 : cd_I 78 61 = some (.iload_n 1, 0, 0) := by decide +kernel
theorem cd_i78_62 : cd_I 78 62 = some (.iconst 1, 0, 0) := by decide +kernel
theorem cd_i78_63 : cd_I 78 63 = some (.isub, 0, 0) := by decide +kernel
theorem cd_i78_64 : cd_I 78 64 = some (.iload_n 2, 0, 0) := by decide +kernel
theorem cd_i78_65 : cd_I 78 65 = some (.isub, 0, 0) := by decide +kernel
theorem cd_i78_66 : cd_I 78 66 = some (.invokevirtual 79, 85, 2) := by decide +kernel
theorem cd_i78_69 : cd_I 78 69 = some (.iinc 4 1, 0, 0) := by decide +kernel
theorem cd_i78_72 : cd_I 78 72 = some (.goto (-28), 44, 0) := by decide +kernel
theorem cd_i78_75 : cd_I 78 75 = some (.iinc 2 1, 0, 0) := by decide +kernel
theorem cd_i78_78 : cd_I 78 78 = some (.goto (-49), 29, 0) := by decide +kernel
theorem cd_i78_81 : cd_I 78 81 = some (.return_, 0, 0) := by decide +kernel
theorem cd_i79_0 : cd_I 79 0 = some (.aload_n 0, 0, 0) := by decide +kernel
theorem cd_i79_1 : cd_I 79 1 = some (.getfield 28, 3, 0) := by decide +kernel
theorem cd_i79_4 : cd_I 79 4 = some (.iload_n 1, 0, 0) := by decide +kernel
theorem cd_i79_5 : cd_I 79 5 = some (.invokevirtual 95, 22, 1) := by decide +kernel
theorem cd_i79_8 : cd_I 79 8 = some (.astore_n 3, 0, 0) := by decide +kernel
theorem cd_i79_9 : cd_I 79 9 = some (.aload_n 3, 0, 0) := by decide +kernel
theorem cd_i79_10 : cd_I 79 10 = some (.ifnonnull 4, 14, 0) := by decide +kernel
theorem cd_i79_13 : cd_I 79 13 = some (.return_, 0, 0) := by decide +kernel
theorem cd_i79_14 : cd_I 79 14 = some (.iconst 0, 0, 0) := by decide +kernel
theorem cd_i79_15 : cd_I 79 15 = some (.istore 4, 0, 0) := by decide +kernel
theorem cd_i79_17 : cd_I 79 17 = some (.iload 4, 0, 0) := by decide +kernel
theorem cd_i79_19 : cd_I 79 19 = some (.aload_n 3, 0, 0) := by decide +kernel
theorem cd_i79_20 : cd_I 79 20 = some (.getfield 99, 4, 3) := by decide +kernel
theorem cd_i79_23 : cd_I 79 23 = some (.if_icmp .ge 131, 154, 0) := by decide +kernel
theorem cd_i79_26 : cd_I 79 26 = some (.aload_n 3, 0, 0) := by decide +kernel
theorem cd_i79_27 : cd_I 79 27 = some (.getfield 102, 4, 2) := by decide +kernel
theorem cd_i79_30 : cd_I 79 30 = some (.iload 4, 0, 0) := by decide +kernel
theorem cd_i79_32 : cd_I 79 32 = some (.aaload, 0, 0) := by decide +kernel
theorem cd_i79_33 : cd_I 79 33 = some (.astore 5, 0, 0) := by decide +kernel
theorem cd_i79_35 : cd_I 79 35 = some (.aload 5, 0, 0) := by decide +kernel
theorem cd_i79_37 : cd_I 79 37 = some (.getfield 105, 7, 0) := by decide +kernel
theorem cd_i79_40 : cd_I 79 40 = some (.getstatic 111, 2, 0) := by decide +kernel
theorem cd_i79_43 : cd_I 79 43 = some (.if_acmp .ne 7, 50, 0) := by decide +kernel
theorem cd_i79_46 : cd_I 79 46 = some (.iconst 1, 0, 0) := by decide +kernel
theorem cd_i79_47 : cd_I 79 47 = some (.goto 4, 51, 0) := by decide +kernel
theorem cd_i79_50 : cd_I 79 50 = some (.iconst 0, 0, 0) := by decide +kernel
theorem cd_i79_51 : cd_I 79 51 = some (.istore 6, 0, 0) := by decide +kernel
theorem cd_i79_53 : cd_I 79 53 = some (.iload 6, 0, 0) := by decide +kernel
theorem cd_i79_55 : cd_I 79 55 = some (.ifCond .ne 11, 66, 0) := by decide +kernel
theorem cd_i79_58 : cd_I 79 58 = some (.aload 5, 0, 0) := by decide +kernel
theorem cd_i79_60 : cd_I 79 60 = some (.getfield 116, 7, 2) := by decide +kernel
theorem cd_i79_63 : cd_I 79 63 = some (.ifCond .eq 85, 148, 0) := by decide +kernel
theorem cd_i79_66 : cd_I 79 66 = some (.aload_n 0, 0, 0) := by decide +kernel
theorem cd_i79_67 : cd_I 79 67 = some (.getfield 28, 3, 0) := by decide +kernel
theorem cd_i79_70 : cd_I 79 70 = some (.aload_n 3, 0, 0) := by decide +kernel
theorem cd_i79_71 : cd_I 79 71 = some (.aload 5, 0, 0) := by decide +kernel
theorem cd_i79_73 : cd_I 79 73 = some (.invokevirtual 120, 30, 2) := by decide +kernel
theorem cd_i79_76 : cd_I 79 76 = some (.ifCond .eq 72, 148, 0) := by decide +kernel
theorem cd_i79_79 : cd_I 79 79 = some (.aload_n 0, 0, 0) := by decide +kernel
theorem cd_i79_80 : cd_I 79 80 = some (.getfield 24, 3, 4) := by decide +kernel
theorem cd_i79_83 : cd_I 79 83 = some (.iconst 0, 0, 0) := by decide +kernel
theorem cd_i79_84 : cd_I 79 84 = some (.putfield 51, 8, 1) := by decide +kernel
theorem cd_i79_87 : cd_I 79 87 = some (.iload 6, 0, 0) := by decide +kernel
theorem cd_i79_89 : cd_I 79 89 = some (.ifCond .eq 23, 112, 0) := by decide +kernel
theorem cd_i79_92 : cd_I 79 92 = some (.aload_n 0, 0, 0) := by decide +kernel
theorem cd_i79_93 : cd_I 79 93 = some (.getfield 24, 3, 4) := by decide +kernel
theorem cd_i79_96 : cd_I 79 96 = some (.ldc 124, 13, 0) := by decide +kernel
theorem cd_i79_98 : cd_I 79 98 = some (.invokevirtual 126, 80, 1) := by decide +kernel
theorem cd_i79_101 : cd_I 79 101 = some (.aload_n 0, 0, 0) := by decide +kernel
theorem cd_i79_102 : cd_I 79 102 = some (.getfield 24, 3, 4) := by decide +kernel
theorem cd_i79_105 : cd_I 79 105 = some (.iload_n 1, 0, 0) := by decide +kernel
theorem cd_i79_106 : cd_I 79 106 = some (.invokevirtual 130, 81, 1) := by decide +kernel
theorem cd_i79_109 : cd_I 79 109 = some (.goto 32, 141, 0) := by decide +kernel
theorem cd_i79_112 : cd_I 79 112 = some (.aload_n 0, 0, 0) := by decide +kernel
theorem cd_i79_113 : cd_I 79 113 = some (.getfield 24, 3, 4) := by decide +kernel
theorem cd_i79_116 : cd_I 79 116 = some (.iload_n 1, 0, 0) := by decide +kernel
theorem cd_i79_117 : cd_I 79 117 = some (.invokevirtual 130, 81, 1) := by decide +kernel
theorem cd_i79_120 : cd_I 79 120 = some (.aload_n 0, 0, 0) := by decide +kernel
theorem cd_i79_121 : cd_I 79 121 = some (.getfield 24, 3, 4) := by decide +kernel
theorem cd_i79_124 : cd_I 79 124 = some (.bipush 46, 0, 0) := by decide +kernel
theorem cd_i79_126 : cd_I 79 126 = some (.invokevirtual 133, 72, 1) := by decide +kernel
theorem cd_i79_129 : cd_I 79 129 = some (.aload_n 0, 0, 0) := by decide +kernel
theorem cd_i79_130 : cd_I 79 130 = some (.getfield 24, 3, 4) := by decide +kernel
theorem cd_i79_133 : cd_I 79 133 = some (.aload 5, 0, 0) := by decide +kernel
theorem cd_i79_135 : cd_I 79 135 = some (.getfield 137, 7, 3) := by decide +kernel
theorem cd_i79_138 : cd_I 79 138 = some (.invokevirtual 58, 71, 1) := by decide +kernel
theorem cd_i79_141 : cd_I 79 141 = some (.aload_n 0, 0, 0) := by decide +kernel
theorem cd_i79_142 : cd_I 79 142 = some (.aload 5, 0, 0) := by decide +kernel
theorem cd_i79_144 : cd_I 79 144 = some (.iload_n 2, 0, 0) := by decide +kernel
theorem cd_i79_145 : cd_I 79 145 = some (.invokevirtual 140, 82, 2) := by decide +kernel
theorem cd_i79_148 : cd_I 79 148 = some (.iinc 4 1, 0, 0) := by decide +kernel
theorem cd_i79_151 : cd_I 79 151 = some (.goto (-134), 17, 0) := by decide +kernel
theorem cd_i79_154 : cd_I 79 154 = some (.return_, 0, 0) := by decide +kernel
theorem cd_i80_0 : cd_I 80 0 = some (.iconst 0, 0, 0) := by decide +kernel
theorem cd_i80_1 : cd_I 80 1 = some (.istore_n 2, 0, 0) := by decide +kernel
theorem cd_i80_2 : cd_I 80 2 = some (.iload_n 2, 0, 0) := by decide +kernel
theorem cd_i80_3 : cd_I 80 3 = some (.aload_n 1, 0, 0) := by decide +kernel
theorem cd_i80_4 : cd_I 80 4 = some (.invokevirtual 19, 40, 0) := by decide +kernel
theorem cd_i80_7 : cd_I 80 7 = some (.if_icmp .ge 18, 25, 0) := by decide +kernel
theorem cd_i80_10 : cd_I 80 10 = some (.aload_n 0, 0, 0) := by decide +kernel
theorem cd_i80_11 : cd_I 80 11 = some (.aload_n 1, 0, 0) := by decide +kernel
theorem cd_i80_12 : cd_I 80 12 = some (.iload_n 2, 0, 0) := by decide +kernel
theorem cd_i80_13 : cd_I 80 13 = some (.invokevirtual 24, 42, 1) := by decide +kernel
theorem cd_i80_16 : cd_I 80 16 = some (.invokevirtual 28, 72, 1) := by decide +kernel
theorem cd_i80_19 : cd_I 80 19 = some (.iinc 2 1, 0, 0) := by decide +kernel
theorem cd_i80_22 : cd_I 80 22 = some (.goto (-20), 2, 0) := by decide +kernel
theorem cd_i80_25 : cd_I 80 25 = some (.return_, 0, 0) := by decide +kernel
theorem cd_i81_0 : cd_I 81 0 = some (.aload_n 0, 0, 0) := by decide +kernel
theorem cd_i81_1 : cd_I 81 1 = some (.bipush 65, 0, 0) := by decide +kernel
theorem cd_i81_3 : cd_I 81 3 = some (.iload_n 1, 0, 0) := by decide +kernel
theorem cd_i81_4 : cd_I 81 4 = some (.iadd, 0, 0) := by decide +kernel
theorem cd_i81_5 : cd_I 81 5 = some (.i2c, 0, 0) := by decide +kernel
theorem cd_i81_6 : cd_I 81 6 = some (.invokevirtual 28, 72, 1) := by decide +kernel
theorem cd_i81_9 : cd_I 81 9 = some (.return_, 0, 0) := by decide +kernel
theorem cd_i82_0 : cd_I 82 0 = some (.aload_n 0, 0, 0) := by decide +kernel
theorem cd_i82_1 : cd_I 82 1 = some (.getfield 24, 3, 4) := by decide +kernel
theorem cd_i82_4 : cd_I 82 4 = some (.aload_n 1, 0, 0) := by decide +kernel
theorem cd_i82_5 : cd_I 82 5 = some (.getfield 159, 7, 6) := by decide +kernel
theorem cd_i82_8 : cd_I 82 8 = some (.putfield 64, 8, 2) := by decide +kernel
theorem cd_i82_11 : cd_I 82 11 = some (.aload_n 1, 0, 0) := by decide +kernel
theorem cd_i82_12 : cd_I 82 12 = some (.getfield 105, 7, 0) := by decide +kernel
theorem cd_i82_15 : cd_I 82 15 = some (.getstatic 160, 0, 0) := by decide +kernel
theorem cd_i82_18 : cd_I 82 18 = some (.if_acmp .eq 22, 40, 0) := by decide +kernel
theorem cd_i82_21 : cd_I 82 21 = some (.aload_n 0, 0, 0) := by decide +kernel
theorem cd_i82_22 : cd_I 82 22 = some (.getfield 24, 3, 4) := by decide +kernel
theorem cd_i82_25 : cd_I 82 25 = some (.bipush 40, 0, 0) := by decide +kernel
theorem cd_i82_27 : cd_I 82 27 = some (.invokevirtual 133, 72, 1) := by decide +kernel
theorem cd_i82_30 : cd_I 82 30 = some (.aload_n 0, 0, 0) := by decide +kernel
theorem cd_i82_31 : cd_I 82 31 = some (.aload_n 1, 0, 0) := by decide +kernel
theorem cd_i82_32 : cd_I 82 32 = some (.iconst 0, 0, 0) := by decide +kernel
theorem cd_i82_33 : cd_I 82 33 = some (.iload_n 2, 0, 0) := by decide +kernel
theorem cd_i82_34 : cd_I 82 34 = some (.invokevirtual 163, 83, 3) := by decide +kernel
theorem cd_i82_37 : cd_I 82 37 = some (.goto 18, 55, 0) := by decide +kernel
theorem cd_i82_40 : cd_I 82 40 = some (.iload_n 2, 0, 0) := by decide +kernel
theorem cd_i82_41 : cd_I 82 41 = some (.ifCond .ne 14, 55, 0) := by decide +kernel
theorem cd_i82_44 : cd_I 82 44 = some (.aload_n 0, 0, 0) := by decide +kernel
theorem cd_i82_45 : cd_I 82 45 = some (.getfield 37, 3, 5) := by decide +kernel
theorem cd_i82_48 : cd_I 82 48 = some (.aload_n 0, 0, 0) := by decide +kernel
theorem cd_i82_49 : cd_I 82 49 = some (.getfield 24, 3, 4) := by decide +kernel
theorem cd_i82_52 : cd_I 82 52 = some (.invokevirtual 67, 73, 1) := by decide +kernel
theorem cd_i82_55 : cd_I 82 55 = some (.return_, 0, 0) := by decide +kernel
theorem cd_i83_0 : cd_I 83 0 = some (.aload_n 0, 0, 0) := by decide +kernel
theorem cd_i83_1 : cd_I 83 1 = some (.getfield 37, 3, 5) := by decide +kernel
theorem cd_i83_4 : cd_I 83 4 = some (.aload_n 0, 0, 0) := by decide +kernel
theorem cd_i83_5 : cd_I 83 5 = some (.getfield 24, 3, 4) := by decide +kernel
theorem cd_i83_8 : cd_I 83 8 = some (.invokevirtual 147, 74, 1) := by decide +kernel
theorem cd_i83_11 : cd_I 83 11 = some (.ifCond .ne 4, 15, 0) := by decide +kernel
theorem cd_i83_14 : cd_I 83 14 = some (.return_, 0, 0) := by decide +kernel
theorem cd_i83_15 : cd_I 83 15 = some (.iload_n 2, 0, 0) := by decide +kernel
theorem cd_i83_16 : cd_I 83 16 = some (.aload_n 1, 0, 0) := by decide +kernel
theorem cd_i83_17 : cd_I 83 17 = some (.getfield 167, 7, 5) := by decide +kernel
theorem cd_i83_20 : cd_I 83 20 = some (.if_icmp .lt 28, 48, 0) := by decide +kernel
theorem cd_i83_23 : cd_I 83 23 = some (.iload_n 3, 0, 0) := by decide +kernel
theorem cd_i83_24 : cd_I 83 24 = some (.ifCond .ne 23, 47, 0) := by decide +kernel
theorem cd_i83_27 : cd_I 83 27 = some (.aload_n 0, 0, 0) := by decide +kernel
theorem cd_i83_28 : cd_I 83 28 = some (.getfield 24, 3, 4) := by decide +kernel
theorem cd_i83_31 : cd_I 83 31 = some (.bipush 41, 0, 0) := by decide +kernel
theorem cd_i83_33 : cd_I 83 33 = some (.invokevirtual 133, 72, 1) := by decide +kernel
theorem cd_i83_36 : cd_I 83 36 = some (.aload_n 0, 0, 0) := by decide +kernel
theorem cd_i83_37 : cd_I 83 37 = some (.getfield 37, 3, 5) := by decide +kernel
theorem cd_i83_40 : cd_I 83 40 = some (.aload_n 0, 0, 0) := by decide +kernel
theorem cd_i83_41 : cd_I 83 41 = some (.getfield 24, 3, 4) := by decide +kernel
theorem cd_i83_44 : cd_I 83 44 = some (.invokevirtual 67, 73, 1) := by decide +kernel
theorem cd_i83_47 : cd_I 83 47 = some (.return_, 0, 0) := by decide +kernel
theorem cd_i83_48 : cd_I 83 48 = some (.iload_n 2, 0, 0) := by decide +kernel
theorem cd_i83_49 : cd_I 83 49 = some (.ifCond .le 12, 61, 0) := by decide +kernel
theorem cd_i83_52 : cd_I 83 52 = some (.aload_n 0, 0, 0) := by decide +kernel
theorem cd_i83_53 : cd_I 83 53 = some (.getfield 24, 3, 4) := by decide +kernel
theorem cd_i83_56 : cd_I 83 56 = some (.bipush 44, 0, 0) := by decide +kernel
theorem cd_i83_58 : cd_I 83 58 = some (.invokevirtual 133, 72, 1) := by decide +kernel
theorem cd_i83_61 : cd_I 83 61 = some (.aload_n 0, 0, 0) := by decide +kernel
theorem cd_i83_62 : cd_I 83 62 = some (.getfield 24, 3, 4) := by decide +kernel
theorem cd_i83_65 : cd_I 83 65 = some (.getfield 51, 8, 1) := by decide +kernel
theorem cd_i83_68 : cd_I 83 68 = some (.istore 4, 0, 0) := by decide +kernel
theorem cd_i83_70 : cd_I 83 70 = some (.bipush 24, 0, 0) := by decide +kernel
theorem cd_i83_72 : cd_I 83 72 = some (.iload 4, 0, 0) := by decide +kernel
theorem cd_i83_74 : cd_I 83 74 = some (.isub, 0, 0) := by decide +kernel
theorem cd_i83_75 : cd_I 83 75 = some (.iconst 2, 0, 0) := by decide +kernel
theorem cd_i83_76 : cd_I 83 76 = some (.aload_n 1, 0, 0) := by decide +kernel
theorem cd_i83_77 : cd_I 83 77 = some (.getfield 167, 7, 5) := by decide +kernel
theorem cd_i83_80 : cd_I 83 80 = some (.iload_n 2, 0, 0) := by decide +kernel
theorem cd_i83_81 : cd_I 83 81 = some (.isub, 0, 0) := by decide +kernel
theorem cd_i83_82 : cd_I 83 82 = some (.iconst 1, 0, 0) := by decide +kernel
theorem cd_i83_83 : cd_I 83 83 = some (.isub, 0, 0) := by decide +kernel
theorem cd_i83_84 : cd_I 83 84 = some (.imul, 0, 0) := by decide +kernel
theorem cd_i83_85 : cd_I 83 85 = some (.isub, 0, 0) := by decide +kernel
theorem cd_i83_86 : cd_I 83 86 = some (.iconst 1, 0, 0) := by decide +kernel
theorem cd_i83_87 : cd_I 83 87 = some (.isub, 0, 0) := by decide +kernel
theorem cd_i83_88 : cd_I 83 88 = some (.istore 5, 0, 0) := by decide +kernel
theorem cd_i83_90 : cd_I 83 90 = some (.iload_n 2, 0, 0) := by decide +kernel
theorem cd_i83_91 : cd_I 83 91 = some (.iconst 1, 0, 0) := by decide +kernel
theorem cd_i83_92 : cd_I 83 92 = some (.iadd, 0, 0) := by decide +kernel
theorem cd_i83_93 : cd_I 83 93 = some (.aload_n 1, 0, 0) := by decide +kernel
theorem cd_i83_94 : cd_I 83 94 = some (.getfield 167, 7, 5) := by decide +kernel
theorem cd_i83_97 : cd_I 83 97 = some (.if_icmp .ne 7, 104, 0) := by decide +kernel
theorem cd_i83_100 : cd_I 83 100 = some (.iconst 1, 0, 0) := by decide +kernel
theorem cd_i83_101 : cd_I 83 101 = some (.goto 4, 105, 0) := by decide +kernel
theorem cd_i83_104 : cd_I 83 104 = some (.iconst 0, 0, 0) := by decide +kernel
theorem cd_i83_105 : cd_I 83 105 = some (.istore 6, 0, 0) := by decide +kernel
theorem cd_i83_107 : cd_I 83 107 = some (.iload 6, 0, 0) := by decide +kernel
theorem cd_i83_109 : cd_I 83 109 = some (.ifCond .eq 7, 116, 0) := by decide +kernel
theorem cd_i83_112 : cd_I 83 112 = some (.iload_n 3, 0, 0) := by decide +kernel
theorem cd_i83_113 : cd_I 83 113 = some (.goto 4, 117, 0) := by decide +kernel
theorem cd_i83_116 : cd_I 83 116 = some (.iconst 0, 0, 0) := by decide +kernel
theorem cd_i83_117 : cd_I 83 117 = some (.istore 7, 0, 0) := by decide +kernel
theorem cd_i83_119 : cd_I 83 119 = some (.iload 7, 0, 0) := by decide +kernel
theorem cd_i83_121 : cd_I 83 121 = some (.iload_n 3, 0, 0) := by decide +kernel
theorem cd_i83_122 : cd_I 83 122 = some (.if_icmp .gt 108, 230, 0) := by decide +kernel
theorem cd_i83_125 : cd_I 83 125 = some (.aload_n 0, 0, 0) := by decide +kernel
theorem cd_i83_126 : cd_I 83 126 = some (.getfield 11, 3, 2) := by decide +kernel
theorem cd_i83_129 : cd_I 83 129 = some (.iload 7, 0, 0) := by decide +kernel
theorem cd_i83_131 : cd_I 83 131 = some (.aaload, 0, 0) := by decide +kernel
theorem cd_i83_132 : cd_I 83 132 = some (.astore 8, 0, 0) := by decide +kernel
theorem cd_i83_134 : cd_I 83 134 = some (.iconst 0, 0, 0) := by decide +kernel
theorem cd_i83_135 : cd_I 83 135 = some (.istore 9, 0, 0) := by decide +kernel
theorem cd_i83_137 : cd_I 83 137 = some (.iload 9, 0, 0) := by decide +kernel
theorem cd_i83_139 : cd_I 83 139 = some (.aload 8, 0, 0) := by decide +kernel
theorem cd_i83_141 : cd_I 83 141 = some (.getfield 75, 10, 1) := by decide +kernel
theorem cd_i83_144 : cd_I 83 144 = some (.if_icmp .ge 80, 224, 0) := by decide +kernel
theorem cd_i83_147 : cd_I 83 147 = some (.aload 8, 0, 0) := by decide +kernel
theorem cd_i83_149 : cd_I 83 149 = some (.getfield 76, 10, 0) := by decide +kernel
theorem cd_i83_152 : cd_I 83 152 = some (.iload 9, 0, 0) := by decide +kernel
theorem cd_i83_154 : cd_I 83 154 = some (.aaload, 0, 0) := by decide +kernel
theorem cd_i83_155 : cd_I 83 155 = some (.astore 10, 0, 0) := by decide +kernel
theorem cd_i83_157 : cd_I 83 157 = some (.aload 10, 0, 0) := by decide +kernel
theorem cd_i83_159 : cd_I 83 159 = some (.getfield 51, 8, 1) := by decide +kernel
theorem cd_i83_162 : cd_I 83 162 = some (.iload 5, 0, 0) := by decide +kernel
theorem cd_i83_164 : cd_I 83 164 = some (.if_icmp .gt 54, 218, 0) := by decide +kernel
theorem cd_i83_167 : cd_I 83 167 = some (.aload_n 0, 0, 0) := by decide +kernel
theorem cd_i83_168 : cd_I 83 168 = some (.getfield 28, 3, 0) := by decide +kernel
theorem cd_i83_171 : cd_I 83 171 = some (.aload 10, 0, 0) := by decide +kernel
theorem cd_i83_173 : cd_I 83 173 = some (.getfield 64, 8, 2) := by decide +kernel
theorem cd_i83_176 : cd_I 83 176 = some (.aload_n 1, 0, 0) := by decide +kernel
theorem cd_i83_177 : cd_I 83 177 = some (.getfield 168, 7, 4) := by decide +kernel
theorem cd_i83_180 : cd_I 83 180 = some (.iload_n 2, 0, 0) := by decide +kernel
theorem cd_i83_181 : cd_I 83 181 = some (.iaload, 0, 0) := by decide +kernel
theorem cd_i83_182 : cd_I 83 182 = some (.invokevirtual 86, 16, 2) := by decide +kernel
theorem cd_i83_185 : cd_I 83 185 = some (.ifCond .eq 33, 218, 0) := by decide +kernel
theorem cd_i83_188 : cd_I 83 188 = some (.aload_n 0, 0, 0) := by decide +kernel
theorem cd_i83_189 : cd_I 83 189 = some (.getfield 24, 3, 4) := by decide +kernel
theorem cd_i83_192 : cd_I 83 192 = some (.iload 4, 0, 0) := by decide +kernel
theorem cd_i83_194 : cd_I 83 194 = some (.putfield 51, 8, 1) := by decide +kernel
theorem cd_i83_197 : cd_I 83 197 = some (.aload_n 0, 0, 0) := by decide +kernel
theorem cd_i83_198 : cd_I 83 198 = some (.getfield 24, 3, 4) := by decide +kernel
theorem cd_i83_201 : cd_I 83 201 = some (.aload 10, 0, 0) := by decide +kernel
theorem cd_i83_203 : cd_I 83 203 = some (.invokevirtual 144, 84, 1) := by decide +kernel
theorem cd_i83_206 : cd_I 83 206 = some (.aload_n 0, 0, 0) := by decide +kernel
theorem cd_i83_207 : cd_I 83 207 = some (.aload_n 1, 0, 0) := by decide +kernel
theorem cd_i83_208 : cd_I 83 208 = some (.iload_n 2, 0, 0) := by decide +kernel
theorem cd_i83_209 : cd_I 83 209 = some (.iconst 1, 0, 0) := by decide +kernel
theorem cd_i83_210 : cd_I 83 210 = some (.iadd, 0, 0) := by decide +kernel
theorem cd_i83_211 : cd_I 83 211 = some (.iload_n 3, 0, 0) := by decide +kernel
theorem cd_i83_212 : cd_I 83 212 = some (.iload 7, 0, 0) := by decide +kernel
theorem cd_i83_214 : cd_I 83 214 = some (.isub, 0, 0) := by decide +kernel
theorem cd_i83_215 : cd_I 83 215 = some (.invokevirtual 163, 83, 3) := by decide +kernel
theorem cd_i83_218 : cd_I 83 218 = some (.iinc 9 1, 0, 0) := by decide +kernel
theorem cd_i83_221 : cd_I 83 221 = some (.goto (-84), 137, 0) := by decide +kernel
theorem cd_i83_224 : cd_I 83 224 = some (.iinc 7 1, 0, 0) := by decide +kernel
theorem cd_i83_227 : cd_I 83 227 = some (.goto (-108), 119, 0) := by decide +kernel
theorem cd_i83_230 : cd_I 83 230 = some (.return_, 0, 0) := by decide +kernel
theorem cd_i84_0 : cd_I 84 0 = some (.aload_n 1, 0, 0) := by decide +kernel
theorem cd_i84_1 : cd_I 84 1 = some (.getfield 15, 8, 1) := by decide +kernel
theorem cd_i84_4 : cd_I 84 4 = some (.aload_n 0, 0, 0) := by decide +kernel
theorem cd_i84_5 : cd_I 84 5 = some (.getfield 9, 8, 0) := by decide +kernel
theorem cd_i84_8 : cd_I 84 8 = some (.arraylength, 0, 0) := by decide +kernel
theorem cd_i84_9 : cd_I 84 9 = some (.aload_n 0, 0, 0) := by decide +kernel
theorem cd_i84_10 : cd_I 84 10 = some (.getfield 15, 8, 1) := by decide +kernel
theorem cd_i84_13 : cd_I 84 13 = some (.isub, 0, 0) := by decide +kernel
theorem cd_i84_14 : cd_I 84 14 = some (.invokestatic 32, 1003, 2) := by decide +kernel
theorem cd_i84_17 : cd_I 84 17 = some (.istore_n 2, 0, 0) := by decide +kernel
theorem cd_i84_18 : cd_I 84 18 = some (.aload_n 1, 0, 0) := by decide +kernel
theorem cd_i84_19 : cd_I 84 19 = some (.getfield 9, 8, 0) := by decide +kernel
theorem cd_i84_22 : cd_I 84 22 = some (.iconst 0, 0, 0) := by decide +kernel
theorem cd_i84_23 : cd_I 84 23 = some (.aload_n 0, 0, 0) := by decide +kernel
theorem cd_i84_24 : cd_I 84 24 = some (.getfield 9, 8, 0) := by decide +kernel
theorem cd_i84_27 : cd_I 84 27 = some (.aload_n 0, 0, 0) := by decide +kernel
theorem cd_i84_28 : cd_I 84 28 = some (.getfield 15, 8, 1) := by decide +kernel
theorem cd_i84_31 : cd_I 84 31 = some (.iload_n 2, 0, 0) := by decide +kernel
theorem cd_i84_32 : cd_I 84 32 = some (.invokestatic 38, 1004, 5) := by decide +kernel
theorem cd_i84_35 : cd_I 84 35 = some (.aload_n 0, 0, 0) := by decide +kernel
theorem cd_i84_36 : cd_I 84 36 = some (.dup, 0, 0) := by decide +kernel
theorem cd_i84_37 : cd_I 84 37 = some (.getfield 15, 8, 1) := by decide +kernel
theorem cd_i84_40 : cd_I 84 40 = some (.iload_n 2, 0, 0) := by decide +kernel
theorem cd_i84_41 : cd_I 84 41 = some (.iadd, 0, 0) := by decide +kernel
theorem cd_i84_42 : cd_I 84 42 = some (.putfield 15, 8, 1) := by decide +kernel
theorem cd_i84_45 : cd_I 84 45 = some (.return_, 0, 0) := by decide +kernel
theorem cd_i85_0 : cd_I 85 0 = some (.aload_n 0, 0, 0) := by decide +kernel
theorem cd_i85_1 : cd_I 85 1 = some (.getfield 24, 3, 4) := by decide +kernel
theorem cd_i85_4 : cd_I 85 4 = some (.iconst 0, 0, 0) := by decide +kernel
theorem cd_i85_5 : cd_I 85 5 = some (.putfield 51, 8, 1) := by decide +kernel
theorem cd_i85_8 : cd_I 85 8 = some (.aload_n 0, 0, 0) := by decide +kernel
theorem cd_i85_9 : cd_I 85 9 = some (.getfield 24, 3, 4) := by decide +kernel
theorem cd_i85_12 : cd_I 85 12 = some (.aload_n 1, 0, 0) := by decide +kernel
theorem cd_i85_13 : cd_I 85 13 = some (.invokevirtual 144, 84, 1) := by decide +kernel
theorem cd_i85_16 : cd_I 85 16 = some (.aload_n 0, 0, 0) := by decide +kernel
theorem cd_i85_17 : cd_I 85 17 = some (.getfield 24, 3, 4) := by decide +kernel
theorem cd_i85_20 : cd_I 85 20 = some (.bipush 46, 0, 0) := by decide +kernel
theorem cd_i85_22 : cd_I 85 22 = some (.invokevirtual 133, 72, 1) := by decide +kernel
theorem cd_i85_25 : cd_I 85 25 = some (.aload_n 0, 0, 0) := by decide +kernel
theorem cd_i85_26 : cd_I 85 26 = some (.getfield 37, 3, 5) := by decide +kernel
theorem cd_i85_29 : cd_I 85 29 = some (.aload_n 0, 0, 0) := by decide +kernel
theorem cd_i85_30 : cd_I 85 30 = some (.getfield 24, 3, 4) := by decide +kernel
theorem cd_i85_33 : cd_I 85 33 = some (.invokevirtual 147, 74, 1) := by decide +kernel
theorem cd_i85_36 : cd_I 85 36 = some (.ifCond .ne 4, 40, 0) := by decide +kernel
theorem cd_i85_39 : cd_I 85 39 = some (.return_, 0, 0) := by decide +kernel
theorem cd_i85_40 : cd_I 85 40 = some (.aload_n 0, 0, 0) := by decide +kernel
theorem cd_i85_41 : cd_I 85 41 = some (.getfield 24, 3, 4) := by decide +kernel
theorem cd_i85_44 : cd_I 85 44 = some (.getfield 51, 8, 1) := by decide +kernel
theorem cd_i85_47 : cd_I 85 47 = some (.istore_n 3, 0, 0) := by decide +kernel
theorem cd_i85_48 : cd_I 85 48 = some (.aload_n 1, 0, 0) := by decide +kernel
theorem cd_i85_49 : cd_I 85 49 = some (.getfield 64, 8, 2) := by decide +kernel
theorem cd_i85_52 : cd_I 85 52 = some (.iconst 3, 0, 0) := by decide +kernel
theorem cd_i85_53 : cd_I 85 53 = some (.isub, 0, 0) := by decide +kernel
theorem cd_i85_54 : cd_I 85 54 = some (.istore 4, 0, 0) := by decide +kernel
theorem cd_i85_56 : cd_I 85 56 = some (.aload_n 0, 0, 0) := by decide +kernel
theorem cd_i85_57 : cd_I 85 57 = some (.getfield 28, 3, 0) := by decide +kernel
theorem cd_i85_60 : cd_I 85 60 = some (.iload 4, 0, 0) := by decide +kernel
theorem cd_i85_62 : cd_I 85 62 = some (.invokevirtual 95, 22, 1) := by decide +kernel
theorem cd_i85_65 : cd_I 85 65 = some (.astore 5, 0, 0) := by decide +kernel
theorem cd_i85_67 : cd_I 85 67 = some (.aload 5, 0, 0) := by decide +kernel
theorem cd_i85_69 : cd_I 85 69 = some (.ifnull 83, 152, 0) := by decide +kernel
theorem cd_i85_72 : cd_I 85 72 = some (.iconst 0, 0, 0) := by decide +kernel
theorem cd_i85_73 : cd_I 85 73 = some (.istore 6, 0, 0) := by decide +kernel
theorem cd_i85_75 : cd_I 85 75 = some (.iload 6, 0, 0) := by decide +kernel
theorem cd_i85_77 : cd_I 85 77 = some (.aload 5, 0, 0) := by decide +kernel
theorem cd_i85_79 : cd_I 85 79 = some (.getfield 99, 4, 3) := by decide +kernel
theorem cd_i85_82 : cd_I 85 82 = some (.if_icmp .ge 60, 142, 0) := by decide +kernel
theorem cd_i85_85 : cd_I 85 85 = some (.aload 5, 0, 0) := by decide +kernel
theorem cd_i85_87 : cd_I 85 87 = some (.getfield 102, 4, 2) := by decide +kernel
theorem cd_i85_90 : cd_I 85 90 = some (.iload 6, 0, 0) := by decide +kernel
theorem cd_i85_92 : cd_I 85 92 = some (.aaload, 0, 0) := by decide +kernel
theorem cd_i85_93 : cd_I 85 93 = some (.astore 7, 0, 0) := by decide +kernel
theorem cd_i85_95 : cd_I 85 95 = some (.aload_n 0, 0, 0) := by decide +kernel
theorem cd_i85_96 : cd_I 85 96 = some (.getfield 28, 3, 0) := by decide +kernel
theorem cd_i85_99 : cd_I 85 99 = some (.iload 4, 0, 0) := by decide +kernel
theorem cd_i85_101 : cd_I 85 101 = some (.aload 7, 0, 0) := by decide +kernel
theorem cd_i85_103 : cd_I 85 103 = some (.invokevirtual 151, 26, 2) := by decide +kernel
theorem cd_i85_106 : cd_I 85 106 = some (.ifCond .eq 30, 136, 0) := by decide +kernel
theorem cd_i85_109 : cd_I 85 109 = some (.aload_n 0, 0, 0) := by decide +kernel
theorem cd_i85_110 : cd_I 85 110 = some (.getfield 24, 3, 4) := by decide +kernel
theorem cd_i85_113 : cd_I 85 113 = some (.iload_n 3, 0, 0) := by decide +kernel
theorem cd_i85_114 : cd_I 85 114 = some (.putfield 51, 8, 1) := by decide +kernel
theorem cd_i85_117 : cd_I 85 117 = some (.aload_n 0, 0, 0) := by decide +kernel
theorem cd_i85_118 : cd_I 85 118 = some (.getfield 24, 3, 4) := by decide +kernel
theorem cd_i85_121 : cd_I 85 121 = some (.aload 7, 0, 0) := by decide +kernel
theorem cd_i85_123 : cd_I 85 123 = some (.getfield 137, 7, 3) := by decide +kernel
theorem cd_i85_126 : cd_I 85 126 = some (.invokevirtual 58, 71, 1) := by decide +kernel
theorem cd_i85_129 : cd_I 85 129 = some (.aload_n 0, 0, 0) := by decide +kernel
theorem cd_i85_130 : cd_I 85 130 = some (.aload 7, 0, 0) := by decide +kernel
theorem cd_i85_132 : cd_I 85 132 = some (.iload_n 2, 0, 0) := by decide +kernel
theorem cd_i85_133 : cd_I 85 133 = some (.invokevirtual 140, 82, 2) := by decide +kernel
theorem cd_i85_136 : cd_I 85 136 = some (.iinc 6 1, 0, 0) := by decide +kernel
theorem cd_i85_139 : cd_I 85 139 = some (.goto (-64), 75, 0) := by decide +kernel
theorem cd_i85_142 : cd_I 85 142 = some (.aload 5, 0, 0) := by decide +kernel
theorem cd_i85_144 : cd_I 85 144 = some (.getfield 155, 4, 1) := by decide +kernel
theorem cd_i85_147 : cd_I 85 147 = some (.astore 5, 0, 0) := by decide +kernel
theorem cd_i85_149 : cd_I 85 149 = some (.goto (-82), 67, 0) := by decide +kernel
theorem cd_i85_152 : cd_I 85 152 = some (.return_, 0, 0) := by decide +kernel
theorem cd_i86_0 : cd_I 86 0 = some (.aload_n 0, 0, 0) := by decide +kernel
theorem cd_i86_1 : cd_I 86 1 = some (.iconst 0, 0, 0) := by decide +kernel
theorem cd_i86_2 : cd_I 86 2 = some (.putfield 83, 3, 6) := by decide +kernel
theorem cd_i86_5 : cd_I 86 5 = some (.iconst 0, 0, 0) := by decide +kernel
theorem cd_i86_6 : cd_I 86 6 = some (.istore_n 3, 0, 0) := by decide +kernel
theorem cd_i86_7 : cd_I 86 7 = some (.iload_n 3, 0, 0) := by decide +kernel
theorem cd_i86_8 : cd_I 86 8 = some (.iload_n 2, 0, 0) := by decide +kernel
theorem cd_i86_9 : cd_I 86 9 = some (.if_icmp .gt 94, 103, 0) := by decide +kernel
theorem cd_i86_12 : cd_I 86 12 = some (.aload_n 0, 0, 0) := by decide +kernel
theorem cd_i86_13 : cd_I 86 13 = some (.getfield 11, 3, 2) := by decide +kernel
theorem cd_i86_16 : cd_I 86 16 = some (.iload_n 3, 0, 0) := by decide +kernel
theorem cd_i86_17 : cd_I 86 17 = some (.aaload, 0, 0) := by decide +kernel
theorem cd_i86_18 : cd_I 86 18 = some (.astore 4, 0, 0) := by decide +kernel
theorem cd_i86_20 : cd_I 86 20 = some (.iconst 0, 0, 0) := by decide +kernel
theorem cd_i86_21 : cd_I 86 21 = some (.istore 5, 0, 0) := by decide +kernel
theorem cd_i86_23 : cd_I 86 23 = some (.iload 5, 0, 0) := by decide +kernel
theorem cd_i86_25 : cd_I 86 25 = some (.aload 4, 0, 0) := by decide +kernel
theorem cd_i86_27 : cd_I 86 27 = some (.getfield 75, 10, 1) := by decide +kernel
theorem cd_i86_30 : cd_I 86 30 = some (.if_icmp .ge 67, 97, 0) := by decide +kernel
theorem cd_i86_33 : cd_I 86 33 = some (.aload_n 0, 0, 0) := by decide +kernel
theorem cd_i86_34 : cd_I 86 34 = some (.getfield 83, 3, 6) := by decide +kernel
theorem cd_i86_37 : cd_I 86 37 = some (.bipush 10, 0, 0) := by decide +kernel
theorem cd_i86_39 : cd_I 86 39 = some (.if_icmp .ge 58, 97, 0) := by decide +kernel
theorem cd_i86_42 : cd_I 86 42 = some (.aload_n 0, 0, 0) := by decide +kernel
theorem cd_i86_43 : cd_I 86 43 = some (.getfield 28, 3, 0) := by decide +kernel
theorem cd_i86_46 : cd_I 86 46 = some (.aload 4, 0, 0) := by decide +kernel
theorem cd_i86_48 : cd_I 86 48 = some (.getfield 76, 10, 0) := by decide +kernel
theorem cd_i86_51 : cd_I 86 51 = some (.iload 5, 0, 0) := by decide +kernel
theorem cd_i86_53 : cd_I 86 53 = some (.aaload, 0, 0) := by decide +kernel
theorem cd_i86_54 : cd_I 86 54 = some (.getfield 64, 8, 2) := by decide +kernel
theorem cd_i86_57 : cd_I 86 57 = some (.iload_n 1, 0, 0) := by decide +kernel
theorem cd_i86_58 : cd_I 86 58 = some (.invokevirtual 86, 16, 2) := by decide +kernel
theorem cd_i86_61 : cd_I 86 61 = some (.ifCond .eq 30, 91, 0) := by decide +kernel
theorem cd_i86_64 : cd_I 86 64 = some (.aload_n 0, 0, 0) := by decide +kernel
theorem cd_i86_65 : cd_I 86 65 = some (.getfield 19, 3, 3) := by decide +kernel
theorem cd_i86_68 : cd_I 86 68 = some (.aload_n 0, 0, 0) := by decide +kernel
theorem cd_i86_69 : cd_I 86 69 = some (.getfield 83, 3, 6) := by decide +kernel
theorem cd_i86_72 : cd_I 86 72 = some (.aload 4, 0, 0) := by decide +kernel
theorem cd_i86_74 : cd_I 86 74 = some (.getfield 76, 10, 0) := by decide +kernel
theorem cd_i86_77 : cd_I 86 77 = some (.iload 5, 0, 0) := by decide +kernel
theorem cd_i86_79 : cd_I 86 79 = some (.aaload, 0, 0) := by decide +kernel
theorem cd_i86_80 : cd_I 86 80 = some (.aastore, 0, 0) := by decide +kernel
theorem cd_i86_81 : cd_I 86 81 = some (.aload_n 0, 0, 0) := by decide +kernel
theorem cd_i86_82 : cd_I 86 82 = some (.dup, 0, 0) := by decide +kernel
theorem cd_i86_83 : cd_I 86 83 = some (.getfield 83, 3, 6) := by decide +kernel
theorem cd_i86_86 : cd_I 86 86 = some (.iconst 1, 0, 0) := by decide +kernel
theorem cd_i86_87 : cd_I 86 87 = some (.iadd, 0, 0) := by decide +kernel
theorem cd_i86_88 : cd_I 86 88 = some (.putfield 83, 3, 6) := by decide +kernel
theorem cd_i86_91 : cd_I 86 91 = some (.iinc 5 1, 0, 0) := by decide +kernel
theorem cd_i86_94 : cd_I 86 94 = some (.goto (-71), 23, 0) := by decide +kernel
theorem cd_i86_97 : cd_I 86 97 = some (.iinc 3 1, 0, 0) := by decide +kernel
theorem cd_i86_100 : cd_I 86 100 = some (.goto (-93), 7, 0) := by decide +kernel
theorem cd_i86_103 : cd_I 86 103 = some (.aload_n 0, 0, 0) := by decide +kernel
theorem cd_i86_104 : cd_I 86 104 = some (.getfield 83, 3, 6) := by decide +kernel
theorem cd_i86_107 : cd_I 86 107 = some (.ireturn, 0, 0) := by decide +kernel
theorem cd_i87_0 : cd_I 87 0 = some (.aload_n 0, 0, 0) := by decide +kernel
theorem cd_i87_1 : cd_I 87 1 = some (.getfield 44, 0, 4) := by decide +kernel
theorem cd_i87_4 : cd_I 87 4 = some (.invokevirtual 122, 88, 0) := by decide +kernel
theorem cd_i87_7 : cd_I 87 7 = some (.istore_n 1, 0, 0) := by decide +kernel
theorem cd_i87_8 : cd_I 87 8 = some (.aload_n 0, 0, 0) := by decide +kernel
theorem cd_i87_9 : cd_I 87 9 = some (.getfield 10, 0, 0) := by decide +kernel
theorem cd_i87_12 : cd_I 87 12 = some (.invokevirtual 77, 60, 0) := by decide +kernel
theorem cd_i87_15 : cd_I 87 15 = some (.iload_n 1, 0, 0) := by decide +kernel
theorem cd_i87_16 : cd_I 87 16 = some (.iconst (-1), 0, 0) := by decide +kernel
theorem cd_i87_17 : cd_I 87 17 = some (.if_icmp .ne 11, 28, 0) := by decide +kernel
theorem cd_i87_20 : cd_I 87 20 = some (.new 80, 12, 82) := by decide +kernel
theorem cd_i87_28 : cd_I 87 28 = some (.aload_n 0, 0, 0) := by decide +kernel
theorem cd_i87_29 : cd_I 87 29 = some (.aload_n 0, 0, 0) := by decide +kernel
theorem cd_i87_30 : cd_I 87 30 = some (.getfield 44, 0, 4) := by decide +kernel
theorem cd_i87_33 : cd_I 87 33 = some (.getfield 126, 6, 3) := by decide +kernel
theorem cd_i87_36 : cd_I 87 36 = some (.putfield 57, 0, 6) := by decide +kernel
theorem cd_i87_39 : cd_I 87 39 = some (.iload_n 1, 0, 0) := by decide +kernel
theorem cd_i87_40 : cd_I 87 40 = some (.ireturn, 0, 0) := by decide +kernel
theorem cd_i88_0 : cd_I 88 0 = some (.aload_n 0, 0, 0) := by decide +kernel
theorem cd_i88_1 : cd_I 88 1 = some (.iconst 0, 0, 0) := by decide +kernel
theorem cd_i88_2 : cd_I 88 2 = some (.putfield 23, 6, 3) := by decide +kernel
theorem cd_i88_5 : cd_I 88 5 = some (.aload_n 0, 0, 0) := by decide +kernel
theorem cd_i88_6 : cd_I 88 6 = some (.iconst 0, 0, 0) := by decide +kernel
theorem cd_i88_7 : cd_I 88 7 = some (.invokevirtual 27, 89, 1) := by decide +kernel
theorem cd_i88_10 : cd_I 88 10 = some (.istore_n 1, 0, 0) := by decide +kernel
theorem cd_i88_11 : cd_I 88 11 = some (.aload_n 0, 0, 0) := by decide +kernel
theorem cd_i88_12 : cd_I 88 12 = some (.getfield 9, 6, 0) := by decide +kernel
theorem cd_i88_15 : cd_I 88 15 = some (.invokevirtual 31, 59, 0) := by decide +kernel
theorem cd_i88_18 : cd_I 88 18 = some (.ifCond .eq 7, 25, 0) := by decide +kernel
theorem cd_i88_21 : cd_I 88 21 = some (.iload_n 1, 0, 0) := by decide +kernel
theorem cd_i88_22 : cd_I 88 22 = some (.goto 4, 26, 0) := by decide +kernel
theorem cd_i88_25 : cd_I 88 25 = some (.iconst (-1), 0, 0) := by decide +kernel
theorem cd_i88_26 : cd_I 88 26 = some (.ireturn, 0, 0) := by decide +kernel
theorem cd_i89_0 : cd_I 89 0 = some (.iload_n 1, 0, 0) := by decide +kernel
theorem cd_i89_1 : cd_I 89 1 = some (.bipush 6, 0, 0) := by decide +kernel
theorem cd_i89_3 : cd_I 89 3 = some (.if_icmp .le 5, 8, 0) := by decide +kernel
theorem cd_i89_6 : cd_I 89 6 = some (.iconst (-1), 0, 0) := by decide +kernel
theorem cd_i89_7 : cd_I 89 7 = some (.ireturn, 0, 0) := by decide +kernel
theorem cd_i89_8 : cd_I 89 8 = some (.aload_n 0, 0, 0) := by decide +kernel
theorem cd_i89_9 : cd_I 89 9 = some (.iload_n 1, 0, 0) := by decide +kernel
theorem cd_i89_10 : cd_I 89 10 = some (.invokevirtual 37, 90, 1) := by decide +kernel
theorem cd_i89_13 : cd_I 89 13 = some (.istore_n 2, 0, 0) := by decide +kernel
theorem cd_i89_14 : cd_I 89 14 = some (.iconst 0, 0, 0) := by decide +kernel
theorem cd_i89_15 : cd_I 89 15 = some (.istore_n 3, 0, 0) := by decide +kernel
theorem cd_i89_16 : cd_I 89 16 = some (.iload_n 3, 0, 0) := by decide +kernel
theorem cd_i89_17 : cd_I 89 17 = some (.bipush 120, 0, 0) := by decide +kernel
theorem cd_i89_19 : cd_I 89 19 = some (.if_icmp .ge 33, 52, 0) := by decide +kernel
theorem cd_i89_22 : cd_I 89 22 = some (.iload_n 2, 0, 0) := by decide +kernel
theorem cd_i89_23 : cd_I 89 23 = some (.iconst (-1), 0, 0) := by decide +kernel
theorem cd_i89_24 : cd_I 89 24 = some (.if_icmp .eq 28, 52, 0) := by decide +kernel
theorem cd_i89_27 : cd_I 89 27 = some (.aload_n 0, 0, 0) := by decide +kernel
theorem cd_i89_28 : cd_I 89 28 = some (.getfield 9, 6, 0) := by decide +kernel
theorem cd_i89_31 : cd_I 89 31 = some (.bipush 46, 0, 0) := by decide +kernel
theorem cd_i89_33 : cd_I 89 33 = some (.invokevirtual 40, 34, 1) := by decide +kernel
theorem cd_i89_36 : cd_I 89 36 = some (.ifCond .eq 16, 52, 0) := by decide +kernel
theorem cd_i89_39 : cd_I 89 39 = some (.aload_n 0, 0, 0) := by decide +kernel
theorem cd_i89_40 : cd_I 89 40 = some (.iload_n 2, 0, 0) := by decide +kernel
theorem cd_i89_41 : cd_I 89 41 = some (.iload_n 1, 0, 0) := by decide +kernel
theorem cd_i89_42 : cd_I 89 42 = some (.invokevirtual 44, 97, 2) := by decide +kernel
theorem cd_i89_45 : cd_I 89 45 = some (.istore_n 2, 0, 0) := by decide +kernel
theorem cd_i89_46 : cd_I 89 46 = some (.iinc 3 1, 0, 0) := by decide +kernel
theorem cd_i89_49 : cd_I 89 49 = some (.goto (-33), 16, 0) := by decide +kernel
theorem cd_i89_52 : cd_I 89 52 = some (.iload_n 2, 0, 0) := by decide +kernel
theorem cd_i89_53 : cd_I 89 53 = some (.ireturn, 0, 0) := by decide +kernel
theorem cd_i90_0 : cd_I 90 0 = some (.aload_n 0, 0, 0) := by decide +kernel
theorem cd_i90_1 : cd_I 90 1 = some (.getfield 9, 6, 0) := by decide +kernel
theorem cd_i90_4 : cd_I 90 4 = some (.ldc 48, 13, 0) := by decide +kernel
theorem cd_i90_6 : cd_I 90 6 = some (.invokevirtual 50, 39, 1) := by decide +kernel
theorem cd_i90_9 : cd_I 90 9 = some (.ifCond .eq 23, 32, 0) := by decide +kernel
theorem cd_i90_12 : cd_I 90 12 = some (.aload_n 0, 0, 0) := by decide +kernel
theorem cd_i90_13 : cd_I 90 13 = some (.aload_n 0, 0, 0) := by decide +kernel
theorem cd_i90_14 : cd_I 90 14 = some (.getfield 15, 6, 1) := by decide +kernel
theorem cd_i90_17 : cd_I 90 17 = some (.aload_n 0, 0, 0) := by decide +kernel
theorem cd_i90_18 : cd_I 90 18 = some (.getfield 9, 6, 0) := by decide +kernel
theorem cd_i90_21 : cd_I 90 21 = some (.invokevirtual 54, 33, 0) := by decide +kernel
theorem cd_i90_24 : cd_I 90 24 = some (.invokevirtual 58, 91, 1) := by decide +kernel
theorem cd_i90_27 : cd_I 90 27 = some (.iload_n 1, 0, 0) := by decide +kernel
theorem cd_i90_28 : cd_I 90 28 = some (.invokevirtual 64, 93, 2) := by decide +kernel
theorem cd_i90_31 : cd_I 90 31 = some (.ireturn, 0, 0) := by decide +kernel
theorem cd_i90_32 : cd_I 90 32 = some (.aload_n 0, 0, 0) := by decide +kernel
theorem cd_i90_33 : cd_I 90 33 = some (.getfield 9, 6, 0) := by decide +kernel
theorem cd_i90_36 : cd_I 90 36 = some (.invokevirtual 54, 33, 0) := by decide +kernel
theorem cd_i90_39 : cd_I 90 39 = some (.istore_n 2, 0, 0) := by decide +kernel
theorem cd_i90_40 : cd_I 90 40 = some (.iload_n 2, 0, 0) := by decide +kernel
theorem cd_i90_41 : cd_I 90 41 = some (.iconst (-1), 0, 0) := by decide +kernel
theorem cd_i90_42 : cd_I 90 42 = some (.if_icmp .ne 18, 60, 0) := by decide +kernel
theorem cd_i90_45 : cd_I 90 45 = some (.aload_n 0, 0, 0) := by decide +kernel
theorem cd_i90_46 : cd_I 90 46 = some (.getfield 19, 6, 2) := by decide +kernel
theorem cd_i90_49 : cd_I 90 49 = some (.aload_n 0, 0, 0) := by decide +kernel
theorem cd_i90_50 : cd_I 90 50 = some (.getfield 9, 6, 0) := by decide +kernel
theorem cd_i90_53 : cd_I 90 53 = some (.invokevirtual 68, 54, 0) := by decide +kernel
theorem cd_i90_56 : cd_I 90 56 = some (.invokevirtual 71, 66, 1) := by decide +kernel
theorem cd_i90_59 : cd_I 90 59 = some (.ireturn, 0, 0) := by decide +kernel
theorem cd_i90_60 : cd_I 90 60 = some (.aload_n 0, 0, 0) := by decide +kernel
theorem cd_i90_61 : cd_I 90 61 = some (.getfield 9, 6, 0) := by decide +kernel
theorem cd_i90_64 : cd_I 90 64 = some (.bipush 46, 0, 0) := by decide +kernel
theorem cd_i90_66 : cd_I 90 66 = some (.invokevirtual 40, 34, 1) := by decide +kernel
theorem cd_i90_69 : cd_I 90 69 = some (.ifCond .ne 5, 74, 0) := by decide +kernel
theorem cd_i90_72 : cd_I 90 72 = some (.iconst (-1), 0, 0) := by decide +kernel
theorem cd_i90_73 : cd_I 90 73 = some (.ireturn, 0, 0) := by decide +kernel
theorem cd_i90_74 : cd_I 90 74 = some (.aload_n 0, 0, 0) := by decide +kernel
theorem cd_i90_75 : cd_I 90 75 = some (.getfield 9, 6, 0) := by decide +kernel
theorem cd_i90_78 : cd_I 90 78 = some (.invokevirtual 68, 54, 0) := by decide +kernel
theorem cd_i90_81 : cd_I 90 81 = some (.istore_n 3, 0, 0) := by decide +kernel
theorem cd_i90_82 : cd_I 90 82 = some (.aload_n 0, 0, 0) := by decide +kernel
theorem cd_i90_83 : cd_I 90 83 = some (.aload_n 0, 0, 0) := by decide +kernel
theorem cd_i90_84 : cd_I 90 84 = some (.getfield 15, 6, 1) := by decide +kernel
theorem cd_i90_87 : cd_I 90 87 = some (.iload_n 2, 0, 0) := by decide +kernel
theorem cd_i90_88 : cd_I 90 88 = some (.aload_n 0, 0, 0) := by decide +kernel
theorem cd_i90_89 : cd_I 90 89 = some (.invokevirtual 76, 95, 0) := by decide +kernel
theorem cd_i90_92 : cd_I 90 92 = some (.iload_n 3, 0, 0) := by decide +kernel
theorem cd_i90_93 : cd_I 90 93 = some (.invokevirtual 80, 96, 3) := by decide +kernel
theorem cd_i90_96 : cd_I 90 96 = some (.iload_n 1, 0, 0) := by decide +kernel
theorem cd_i90_97 : cd_I 90 97 = some (.invokevirtual 64, 93, 2) := by decide +kernel
theorem cd_i90_100 : cd_I 90 100 = some (.ireturn, 0, 0) := by decide +kernel
theorem cd_i91_0 : cd_I 91 0 = some (.aload_n 0, 0, 0) := by decide +kernel
theorem cd_i91_1 : cd_I 91 1 = some (.iload_n 1, 0, 0) := by decide +kernel
theorem cd_i91_2 : cd_I 91 2 = some (.getstatic 57, 2, 0) := by decide +kernel
theorem cd_i91_5 : cd_I 91 5 = some (.iconst 0, 0, 0) := by decide +kernel
theorem cd_i91_6 : cd_I 91 6 = some (.invokevirtual 80, 92, 3) := by decide +kernel
theorem cd_i91_9 : cd_I 91 9 = some (.areturn, 0, 0) := by decide +kernel
theorem cd_i92_0 : cd_I 92 0 = some (.aload_n 0, 0, 0) := by decide +kernel
theorem cd_i92_1 : cd_I 92 1 = some (.iload_n 1, 0, 0) := by decide +kernel
theorem cd_i92_2 : cd_I 92 2 = some (.invokevirtual 28, 22, 1) := by decide +kernel
theorem cd_i92_5 : cd_I 92 5 = some (.astore 4, 0, 0) := by decide +kernel
theorem cd_i92_7 : cd_I 92 7 = some (.aload 4, 0, 0) := by decide +kernel
theorem cd_i92_9 : cd_I 92 9 = some (.ifnonnull 5, 14, 0) := by decide +kernel
theorem cd_i92_12 : cd_I 92 12 = some (.aconst_null, 0, 0) := by decide +kernel
theorem cd_i92_13 : cd_I 92 13 = some (.areturn, 0, 0) := by decide +kernel
theorem cd_i92_14 : cd_I 92 14 = some (.aload 4, 0, 0) := by decide +kernel
theorem cd_i92_16 : cd_I 92 16 = some (.aload_n 2, 0, 0) := by decide +kernel
theorem cd_i92_17 : cd_I 92 17 = some (.iload_n 3, 0, 0) := by decide +kernel
theorem cd_i92_18 : cd_I 92 18 = some (.invokevirtual 42, 28, 2) := by decide +kernel
theorem cd_i92_21 : cd_I 92 21 = some (.astore 5, 0, 0) := by decide +kernel
theorem cd_i92_23 : cd_I 92 23 = some (.aload 5, 0, 0) := by decide +kernel
theorem cd_i92_25 : cd_I 92 25 = some (.ifnull 19, 44, 0) := by decide +kernel
theorem cd_i92_28 : cd_I 92 28 = some (.aload_n 0, 0, 0) := by decide +kernel
theorem cd_i92_29 : cd_I 92 29 = some (.aload 4, 0, 0) := by decide +kernel
theorem cd_i92_31 : cd_I 92 31 = some (.aload 5, 0, 0) := by decide +kernel
theorem cd_i92_33 : cd_I 92 33 = some (.invokevirtual 49, 30, 2) := by decide +kernel
theorem cd_i92_36 : cd_I 92 36 = some (.ifCond .eq 8, 44, 0) := by decide +kernel
theorem cd_i92_39 : cd_I 92 39 = some (.aload 5, 0, 0) := by decide +kernel
theorem cd_i92_41 : cd_I 92 41 = some (.goto 4, 45, 0) := by decide +kernel
theorem cd_i92_44 : cd_I 92 44 = some (.aconst_null, 0, 0) := by decide +kernel
theorem cd_i92_45 : cd_I 92 45 = some (.areturn, 0, 0) := by decide +kernel
theorem cd_i93_0 : cd_I 93 0 = some (.aload_n 1, 0, 0) := by decide +kernel
theorem cd_i93_1 : cd_I 93 1 = some (.ifnonnull 5, 6, 0) := by decide +kernel
theorem cd_i93_4 : cd_I 93 4 = some (.iconst (-1), 0, 0) := by decide +kernel
theorem cd_i93_5 : cd_I 93 5 = some (.ireturn, 0, 0) := by decide +kernel
theorem cd_i93_6 : cd_I 93 6 = some (.aload_n 0, 0, 0) := by decide +kernel
theorem cd_i93_7 : cd_I 93 7 = some (.dup, 0, 0) := by decide +kernel
theorem cd_i93_8 : cd_I 93 8 = some (.getfield 23, 6, 3) := by decide +kernel
theorem cd_i93_11 : cd_I 93 11 = some (.iconst 1, 0, 0) := by decide +kernel
theorem cd_i93_12 : cd_I 93 12 = some (.iadd, 0, 0) := by decide +kernel
theorem cd_i93_13 : cd_I 93 13 = some (.putfield 23, 6, 3) := by decide +kernel
theorem cd_i93_16 : cd_I 93 16 = some (.aload_n 1, 0, 0) := by decide +kernel
theorem cd_i93_17 : cd_I 93 17 = some (.getfield 99, 7, 0) := by decide +kernel
theorem cd_i93_20 : cd_I 93 20 = some (.getstatic 96, 0, 0) := by decide +kernel
theorem cd_i93_23 : cd_I 93 23 = some (.if_acmp .eq 14, 37, 0) := by decide +kernel
theorem cd_i93_26 : cd_I 93 26 = some (.aload_n 0, 0, 0) := by decide +kernel
theorem cd_i93_27 : cd_I 93 27 = some (.aload_n 1, 0, 0) := by decide +kernel
theorem cd_i93_28 : cd_I 93 28 = some (.iload_n 2, 0, 0) := by decide +kernel
theorem cd_i93_29 : cd_I 93 29 = some (.invokevirtual 104, 94, 2) := by decide +kernel
theorem cd_i93_32 : cd_I 93 32 = some (.ifCond .ne 5, 37, 0) := by decide +kernel
theorem cd_i93_35 : cd_I 93 35 = some (.iconst (-1), 0, 0) := by decide +kernel
theorem cd_i93_36 : cd_I 93 36 = some (.ireturn, 0, 0) := by decide +kernel
theorem cd_i93_37 : cd_I 93 37 = some (.aload_n 1, 0, 0) := by decide +kernel
theorem cd_i93_38 : cd_I 93 38 = some (.getfield 108, 7, 6) := by decide +kernel
theorem cd_i93_41 : cd_I 93 41 = some (.ireturn, 0, 0) := by decide +kernel
theorem cd_i94_0 : cd_I 94 0 = some (.aload_n 0, 0, 0) := by decide +kernel
theorem cd_i94_1 : cd_I 94 1 = some (.getfield 9, 6, 0) := by decide +kernel
theorem cd_i94_4 : cd_I 94 4 = some (.bipush 40, 0, 0) := by decide +kernel
theorem cd_i94_6 : cd_I 94 6 = some (.invokevirtual 40, 34, 1) := by decide +kernel
theorem cd_i94_9 : cd_I 94 9 = some (.ifCond .ne 5, 14, 0) := by decide +kernel
theorem cd_i94_12 : cd_I 94 12 = some (.iconst 0, 0, 0) := by decide +kernel
theorem cd_i94_13 : cd_I 94 13 = some (.ireturn, 0, 0) := by decide +kernel
theorem cd_i94_14 : cd_I 94 14 = some (.iconst 0, 0, 0) := by decide +kernel
theorem cd_i94_15 : cd_I 94 15 = some (.istore_n 3, 0, 0) := by decide +kernel
theorem cd_i94_16 : cd_I 94 16 = some (.iload_n 3, 0, 0) := by decide +kernel
theorem cd_i94_17 : cd_I 94 17 = some (.aload_n 1, 0, 0) := by decide +kernel
theorem cd_i94_18 : cd_I 94 18 = some (.getfield 111, 7, 5) := by decide +kernel
theorem cd_i94_21 : cd_I 94 21 = some (.if_icmp .ge 62, 83, 0) := by decide +kernel
theorem cd_i94_24 : cd_I 94 24 = some (.iload_n 3, 0, 0) := by decide +kernel
theorem cd_i94_25 : cd_I 94 25 = some (.ifCond .le 17, 42, 0) := by decide +kernel
theorem cd_i94_28 : cd_I 94 28 = some (.aload_n 0, 0, 0) := by decide +kernel
theorem cd_i94_29 : cd_I 94 29 = some (.getfield 9, 6, 0) := by decide +kernel
theorem cd_i94_32 : cd_I 94 32 = some (.bipush 44, 0, 0) := by decide +kernel
theorem cd_i94_34 : cd_I 94 34 = some (.invokevirtual 40, 34, 1) := by decide +kernel
theorem cd_i94_37 : cd_I 94 37 = some (.ifCond .ne 5, 42, 0) := by decide +kernel
theorem cd_i94_40 : cd_I 94 40 = some (.iconst 0, 0, 0) := by decide +kernel
theorem cd_i94_41 : cd_I 94 41 = some (.ireturn, 0, 0) := by decide +kernel
theorem cd_i94_42 : cd_I 94 42 = some (.aload_n 0, 0, 0) := by decide +kernel
theorem cd_i94_43 : cd_I 94 43 = some (.iload_n 2, 0, 0) := by decide +kernel
theorem cd_i94_44 : cd_I 94 44 = some (.iconst 1, 0, 0) := by decide +kernel
theorem cd_i94_45 : cd_I 94 45 = some (.iadd, 0, 0) := by decide +kernel
theorem cd_i94_46 : cd_I 94 46 = some (.invokevirtual 27, 89, 1) := by decide +kernel
theorem cd_i94_49 : cd_I 94 49 = some (.istore 4, 0, 0) := by decide +kernel
theorem cd_i94_51 : cd_I 94 51 = some (.iload 4, 0, 0) := by decide +kernel
theorem cd_i94_53 : cd_I 94 53 = some (.iconst (-1), 0, 0) := by decide +kernel
theorem cd_i94_54 : cd_I 94 54 = some (.if_icmp .eq 21, 75, 0) := by decide +kernel
theorem cd_i94_57 : cd_I 94 57 = some (.aload_n 0, 0, 0) := by decide +kernel
theorem cd_i94_58 : cd_I 94 58 = some (.getfield 15, 6, 1) := by decide +kernel
theorem cd_i94_61 : cd_I 94 61 = some (.iload 4, 0, 0) := by decide +kernel
theorem cd_i94_63 : cd_I 94 63 = some (.aload_n 1, 0, 0) := by decide +kernel
theorem cd_i94_64 : cd_I 94 64 = some (.getfield 114, 7, 4) := by decide +kernel
theorem cd_i94_67 : cd_I 94 67 = some (.iload_n 3, 0, 0) := by decide +kernel
theorem cd_i94_68 : cd_I 94 68 = some (.iaload, 0, 0) := by decide +kernel
theorem cd_i94_69 : cd_I 94 69 = some (.invokevirtual 118, 16, 2) := by decide +kernel
theorem cd_i94_72 : cd_I 94 72 = some (.ifCond .ne 5, 77, 0) := by decide +kernel
theorem cd_i94_75 : cd_I 94 75 = some (.iconst 0, 0, 0) := by decide +kernel
theorem cd_i94_76 : cd_I 94 76 = some (.ireturn, 0, 0) := by decide +kernel
theorem cd_i94_77 : cd_I 94 77 = some (.iinc 3 1, 0, 0) := by decide +kernel
theorem cd_i94_80 : cd_I 94 80 = some (.goto (-64), 16, 0) := by decide +kernel
theorem cd_i94_83 : cd_I 94 83 = some (.aload_n 0, 0, 0) := by decide +kernel
theorem cd_i94_84 : cd_I 94 84 = some (.getfield 9, 6, 0) := by decide +kernel
theorem cd_i94_87 : cd_I 94 87 = some (.bipush 41, 0, 0) := by decide +kernel
theorem cd_i94_89 : cd_I 94 89 = some (.invokevirtual 40, 34, 1) := by decide +kernel
theorem cd_i94_92 : cd_I 94 92 = some (.ireturn, 0, 0) := by decide +kernel
theorem cd_i95_0 : cd_I 95 0 = some (.aload_n 0, 0, 0) := by decide +kernel
theorem cd_i95_1 : cd_I 95 1 = some (.getfield 9, 6, 0) := by decide +kernel
theorem cd_i95_4 : cd_I 95 4 = some (.bipush 40, 0, 0) := by decide +kernel
theorem cd_i95_6 : cd_I 95 6 = some (.invokevirtual 87, 35, 1) := by decide +kernel
theorem cd_i95_9 : cd_I 95 9 = some (.ifCond .eq 9, 18, 0) := by decide +kernel
theorem cd_i95_12 : cd_I 95 12 = some (.getstatic 90, 1, 0) := by decide +kernel
theorem cd_i95_15 : cd_I 95 15 = some (.goto 6, 21, 0) := by decide +kernel
theorem cd_i95_18 : cd_I 95 18 = some (.getstatic 96, 0, 0) := by decide +kernel
theorem cd_i95_21 : cd_I 95 21 = some (.areturn, 0, 0) := by decide +kernel
theorem cd_i96_0 : cd_I 96 0 = some (.aload_n 0, 0, 0) := by decide +kernel
theorem cd_i96_1 : cd_I 96 1 = some (.iload_n 1, 0, 0) := by decide +kernel
theorem cd_i96_2 : cd_I 96 2 = some (.aload_n 2, 0, 0) := by decide +kernel
theorem cd_i96_3 : cd_I 96 3 = some (.iload_n 3, 0, 0) := by decide +kernel
theorem cd_i96_4 : cd_I 96 4 = some (.invokevirtual 80, 92, 3) := by decide +kernel
theorem cd_i96_7 : cd_I 96 7 = some (.astore 4, 0, 0) := by decide +kernel
theorem cd_i96_9 : cd_I 96 9 = some (.aload 4, 0, 0) := by decide +kernel
theorem cd_i96_11 : cd_I 96 11 = some (.ifnull 16, 27, 0) := by decide +kernel
theorem cd_i96_14 : cd_I 96 14 = some (.aload 4, 0, 0) := by decide +kernel
theorem cd_i96_16 : cd_I 96 16 = some (.getfield 46, 7, 2) := by decide +kernel
theorem cd_i96_19 : cd_I 96 19 = some (.ifCond .eq 8, 27, 0) := by decide +kernel
theorem cd_i96_22 : cd_I 96 22 = some (.aload 4, 0, 0) := by decide +kernel
theorem cd_i96_24 : cd_I 96 24 = some (.goto 4, 28, 0) := by decide +kernel
theorem cd_i96_27 : cd_I 96 27 = some (.aconst_null, 0, 0) := by decide +kernel
theorem cd_i96_28 : cd_I 96 28 = some (.areturn, 0, 0) := by decide +kernel
theorem cd_i97_0 : cd_I 97 0 = some (.aload_n 0, 0, 0) := by decide +kernel
theorem cd_i97_1 : cd_I 97 1 = some (.getfield 9, 6, 0) := by decide +kernel
theorem cd_i97_4 : cd_I 97 4 = some (.invokevirtual 68, 54, 0) := by decide +kernel
theorem cd_i97_7 : cd_I 97 7 = some (.istore_n 3, 0, 0) := by decide +kernel
theorem cd_i97_8 : cd_I 97 8 = some (.aload_n 0, 0, 0) := by decide +kernel
theorem cd_i97_9 : cd_I 97 9 = some (.aload_n 0, 0, 0) := by decide +kernel
theorem cd_i97_10 : cd_I 97 10 = some (.getfield 15, 6, 1) := by decide +kernel
theorem cd_i97_13 : cd_I 97 13 = some (.iload_n 1, 0, 0) := by decide +kernel
theorem cd_i97_14 : cd_I 97 14 = some (.iconst 3, 0, 0) := by decide +kernel
theorem cd_i97_15 : cd_I 97 15 = some (.isub, 0, 0) := by decide +kernel
theorem cd_i97_16 : cd_I 97 16 = some (.aload_n 0, 0, 0) := by decide +kernel
theorem cd_i97_17 : cd_I 97 17 = some (.invokevirtual 76, 95, 0) := by decide +kernel
theorem cd_i97_20 : cd_I 97 20 = some (.iload_n 3, 0, 0) := by decide +kernel
theorem cd_i97_21 : cd_I 97 21 = some (.invokevirtual 84, 27, 3) := by decide +kernel
theorem cd_i97_24 : cd_I 97 24 = some (.iload_n 2, 0, 0) := by decide +kernel
theorem cd_i97_25 : cd_I 97 25 = some (.invokevirtual 64, 93, 2) := by decide +kernel
theorem cd_i97_28 : cd_I 97 28 = some (.ireturn, 0, 0) := by decide +kernel
theorem cd_i98_0 : cd_I 98 0 = some (.aload_n 0, 0, 0) := by decide +kernel
theorem cd_i98_1 : cd_I 98 1 = some (.invokespecial 1, 1000, 0) := by decide +kernel
theorem cd_i98_4 : cd_I 98 4 = some (.aload_n 0, 0, 0) := by decide +kernel
theorem cd_i98_5 : cd_I 98 5 = some (.bipush 120, 0, 0) := by decide +kernel
theorem cd_i98_7 : cd_I 98 7 = some (.newarray .char, 0, 0) := by decide +kernel
theorem cd_i98_9 : cd_I 98 9 = some (.putfield 7, 11, 1) := by decide +kernel
theorem cd_i98_12 : cd_I 98 12 = some (.aload_n 0, 0, 0) := by decide +kernel
theorem cd_i98_13 : cd_I 98 13 = some (.bipush 10, 0, 0) := by decide +kernel
theorem cd_i98_15 : cd_I 98 15 = some (.newarray .boolean, 0, 0) := by decide +kernel
theorem cd_i98_17 : cd_I 98 17 = some (.putfield 13, 11, 5) := by decide +kernel
theorem cd_i98_20 : cd_I 98 20 = some (.aload_n 0, 0, 0) := by decide +kernel
theorem cd_i98_21 : cd_I 98 21 = some (.bipush 10, 0, 0) := by decide +kernel
theorem cd_i98_23 : cd_I 98 23 = some (.newarray .int, 0, 0) := by decide +kernel
theorem cd_i98_25 : cd_I 98 25 = some (.putfield 17, 11, 6) := by decide +kernel
theorem cd_i98_28 : cd_I 98 28 = some (.aload_n 0, 0, 0) := by decide +kernel
theorem cd_i98_29 : cd_I 98 29 = some (.bipush 10, 0, 0) := by decide +kernel
theorem cd_i98_31 : cd_I 98 31 = some (.newarray .int, 0, 0) := by decide +kernel
theorem cd_i98_33 : cd_I 98 33 = some (.putfield 21, 11, 7) := by decide +kernel
theorem cd_i98_36 : cd_I 98 36 = some (.aload_n 0, 0, 0) := by decide +kernel
theorem cd_i98_37 : cd_I 98 37 = some (.bipush 66, 0, 0) := by decide +kernel
theorem cd_i98_39 : cd_I 98 39 = some (.newarray .int, 0, 0) := by decide +kernel
theorem cd_i98_41 : cd_I 98 41 = some (.putfield 24, 11, 8) := by decide +kernel
theorem cd_i98_44 : cd_I 98 44 = some (.aload_n 0, 0, 0) := by decide +kernel
theorem cd_i98_45 : cd_I 98 45 = some (.bipush 66, 0, 0) := by decide +kernel
theorem cd_i98_47 : cd_I 98 47 = some (.newarray .boolean, 0, 0) := by decide +kernel
theorem cd_i98_49 : cd_I 98 49 = some (.putfield 27, 11, 9) := by decide +kernel
theorem cd_i98_52 : cd_I 98 52 = some (.aload_n 0, 0, 0) := by decide +kernel
theorem cd_i98_53 : cd_I 98 53 = some (.bipush 66, 0, 0) := by decide +kernel
theorem cd_i98_55 : cd_I 98 55 = some (.newarray .boolean, 0, 0) := by decide +kernel
theorem cd_i98_57 : cd_I 98 57 = some (.putfield 30, 11, 10) := by decide +kernel
theorem cd_i98_60 : cd_I 98 60 = some (.aload_n 0, 0, 0) := by decide +kernel
theorem cd_i98_61 : cd_I 98 61 = some (.bipush 66, 0, 0) := by decide +kernel
theorem cd_i98_63 : cd_I 98 63 = some (.newarray .int, 0, 0) := by decide +kernel
theorem cd_i98_65 : cd_I 98 65 = some (.putfield 33, 11, 11) := by decide +kernel
theorem cd_i98_68 : cd_I 98 68 = some (.aload_n 0, 0, 0) := by decide +kernel
theorem cd_i98_69 : cd_I 98 69 = some (.bipush 66, 0, 0) := by decide +kernel
theorem cd_i98_71 : cd_I 98 71 = some (.newarray .int, 0, 0) := by decide +kernel
theorem cd_i98_73 : cd_I 98 73 = some (.putfield 36, 11, 12) := by decide +kernel
theorem cd_i98_76 : cd_I 98 76 = some (.aload_n 0, 0, 0) := by decide +kernel
theorem cd_i98_77 : cd_I 98 77 = some (.bipush 66, 0, 0) := by decide +kernel
theorem cd_i98_79 : cd_I 98 79 = some (.newarray .int, 0, 0) := by decide +kernel
theorem cd_i98_81 : cd_I 98 81 = some (.putfield 39, 11, 13) := by decide +kernel
theorem cd_i98_84 : cd_I 98 84 = some (.aload_n 0, 0, 0) := by decide +kernel
theorem cd_i98_85 : cd_I 98 85 = some (.sipush 132, 0, 0) := by decide +kernel
theorem cd_i98_88 : cd_I 98 88 = some (.newarray .int, 0, 0) := by decide +kernel
theorem cd_i98_90 : cd_I 98 90 = some (.putfield 42, 11, 14) := by decide +kernel
theorem cd_i98_93 : cd_I 98 93 = some (.aload_n 0, 0, 0) := by decide +kernel
theorem cd_i98_94 : cd_I 98 94 = some (.iconst 5, 0, 0) := by decide +kernel
theorem cd_i98_95 : cd_I 98 95 = some (.newarray .int, 0, 0) := by decide +kernel
theorem cd_i98_97 : cd_I 98 97 = some (.putfield 45, 11, 16) := by decide +kernel
theorem cd_i98_100 : cd_I 98 100 = some (.aload_n 0, 0, 0) := by decide +kernel
theorem cd_i98_101 : cd_I 98 101 = some (.iconst 5, 0, 0) := by decide +kernel
theorem cd_i98_102 : cd_I 98 102 = some (.newarray .int, 0, 0) := by decide +kernel
theorem cd_i98_104 : cd_I 98 104 = some (.putfield 48, 11, 17) := by decide +kernel
theorem cd_i98_107 : cd_I 98 107 = some (.aload_n 0, 0, 0) := by decide +kernel
theorem cd_i98_108 : cd_I 98 108 = some (.iconst (-1), 0, 0) := by decide +kernel
theorem cd_i98_109 : cd_I 98 109 = some (.putfield 51, 11, 18) := by decide +kernel
theorem cd_i98_112 : cd_I 98 112 = some (.aload_n 0, 0, 0) := by decide +kernel
theorem cd_i98_113 : cd_I 98 113 = some (.bipush 33, 0, 0) := by decide +kernel
theorem cd_i98_115 : cd_I 98 115 = some (.newarray .int, 0, 0) := by decide +kernel
theorem cd_i98_117 : cd_I 98 117 = some (.putfield 55, 11, 20) := by decide +kernel
theorem cd_i98_120 : cd_I 98 120 = some (.aload_n 0, 0, 0) := by decide +kernel
theorem cd_i98_121 : cd_I 98 121 = some (.bipush 33, 0, 0) := by decide +kernel
theorem cd_i98_123 : cd_I 98 123 = some (.newarray .int, 0, 0) := by decide +kernel
theorem cd_i98_125 : cd_I 98 125 = some (.putfield 58, 11, 21) := by decide +kernel
theorem cd_i98_128 : cd_I 98 128 = some (.aload_n 0, 0, 0) := by decide +kernel
theorem cd_i98_129 : cd_I 98 129 = some (.bipush 33, 0, 0) := by decide +kernel
theorem cd_i98_131 : cd_I 98 131 = some (.newarray .int, 0, 0) := by decide +kernel
theorem cd_i98_133 : cd_I 98 133 = some (.putfield 61, 11, 22) := by decide +kernel
theorem cd_i98_136 : cd_I 98 136 = some (.aload_n 0, 0, 0) := by decide +kernel
theorem cd_i98_137 : cd_I 98 137 = some (.sipush 792, 0, 0) := by decide +kernel
theorem cd_i98_140 : cd_I 98 140 = some (.newarray .char, 0, 0) := by decide +kernel
theorem cd_i98_142 : cd_I 98 142 = some (.putfield 64, 11, 23) := by decide +kernel
theorem cd_i98_145 : cd_I 98 145 = some (.aload_n 0, 0, 0) := by decide +kernel
theorem cd_i98_146 : cd_I 98 146 = some (.sipush 200, 0, 0) := by decide +kernel
theorem cd_i98_149 : cd_I 98 149 = some (.newarray .char, 0, 0) := by decide +kernel
theorem cd_i98_151 : cd_I 98 151 = some (.putfield 67, 11, 26) := by decide +kernel
theorem cd_i98_154 : cd_I 98 154 = some (.aload_n 0, 0, 0) := by decide +kernel
theorem cd_i98_155 : cd_I 98 155 = some (.bipush 10, 0, 0) := by decide +kernel
theorem cd_i98_157 : cd_I 98 157 = some (.newarray .int, 0, 0) := by decide +kernel
theorem cd_i98_159 : cd_I 98 159 = some (.putfield 70, 11, 28) := by decide +kernel
theorem cd_i98_162 : cd_I 98 162 = some (.aload_n 0, 0, 0) := by decide +kernel
theorem cd_i98_163 : cd_I 98 163 = some (.bipush 10, 0, 0) := by decide +kernel
theorem cd_i98_165 : cd_I 98 165 = some (.newarray .int, 0, 0) := by decide +kernel
theorem cd_i98_167 : cd_I 98 167 = some (.putfield 73, 11, 29) := by decide +kernel
theorem cd_i98_170 : cd_I 98 170 = some (.aload_n 0, 0, 0) := by decide +kernel
theorem cd_i98_171 : cd_I 98 171 = some (.bipush 10, 0, 0) := by decide +kernel
theorem cd_i98_173 : cd_I 98 173 = some (.newarray .int, 0, 0) := by decide +kernel
theorem cd_i98_175 : cd_I 98 175 = some (.putfield 76, 11, 30) := by decide +kernel
theorem cd_i98_178 : cd_I 98 178 = some (.aload_n 0, 0, 0) := by decide +kernel
theorem cd_i98_179 : cd_I 98 179 = some (.sipush 240, 0, 0) := by decide +kernel
theorem cd_i98_182 : cd_I 98 182 = some (.newarray .char, 0, 0) := by decide +kernel
theorem cd_i98_184 : cd_I 98 184 = some (.putfield 79, 11, 31) := by decide +kernel
theorem cd_i98_187 : cd_I 98 187 = some (.aload_n 0, 0, 0) := by decide +kernel
theorem cd_i98_188 : cd_I 98 188 = some (.sipush 130, 0, 0) := by decide +kernel
theorem cd_i98_191 : cd_I 98 191 = some (.newarray .int, 0, 0) := by decide +kernel
theorem cd_i98_193 : cd_I 98 193 = some (.putfield 82, 11, 34) := by decide +kernel
theorem cd_i98_196 : cd_I 98 196 = some (.aload_n 0, 0, 0) := by decide +kernel
theorem cd_i98_197 : cd_I 98 197 = some (.sipush 130, 0, 0) := by decide +kernel
theorem cd_i98_200 : cd_I 98 200 = some (.newarray .int, 0, 0) := by decide +kernel
theorem cd_i98_202 : cd_I 98 202 = some (.putfield 85, 11, 35) := by decide +kernel
theorem cd_i98_205 : cd_I 98 205 = some (.return_, 0, 0) := by decide +kernel
end
section
theorem cd_i99_0 : cd_I 99 0 = some (.aload_n 0, 0, 0) := by decide +kernel
theorem cd_i99_1 : cd_I 99 1 = some (.getfield 88, 11, 0) := by decide +kernel
theorem cd_i99_4 : cd_I 99 4 = some (.ireturn, 0, 0) := by decide +kernel
theorem cd_i100_0 : cd_I 100 0 = some (.aload_n 0, 0, 0) := by decide +kernel
theorem cd_i100_1 : cd_I 100 1 = some (.iconst 0, 0, 0) := by decide +kernel
theorem cd_i100_2 : cd_I 100 2 = some (.putfield 88, 11, 0) := by decide +kernel
theorem cd_i100_5 : cd_I 100 5 = some (.iload_n 2, 0, 0) := by decide +kernel
theorem cd_i100_6 : cd_I 100 6 = some (.iconst 1, 0, 0) := by decide +kernel
theorem cd_i100_7 : cd_I 100 7 = some (.iconst 4, 0, 0) := by decide +kernel
theorem cd_i100_8 : cd_I 100 8 = some (.invokestatic 91, 101, 3) := by decide +kernel
theorem cd_i100_11 : cd_I 100 11 = some (.ifCond .ne 14, 25, 0) := by decide +kernel
theorem cd_i100_14 : cd_I 100 14 = some (.aload_n 0, 0, 0) := by decide +kernel
theorem cd_i100_15 : cd_I 100 15 = some (.getfield 95, 11, 2) := by decide +kernel
theorem cd_i100_18 : cd_I 100 18 = some (.iload_n 2, 0, 0) := by decide +kernel
theorem cd_i100_19 : cd_I 100 19 = some (.iadd, 0, 0) := by decide +kernel
theorem cd_i100_20 : cd_I 100 20 = some (.bipush 120, 0, 0) := by decide +kernel
theorem cd_i100_22 : cd_I 100 22 = some (.if_icmp .le 5, 27, 0) := by decide +kernel
theorem cd_i100_25 : cd_I 100 25 = some (.iconst 0, 0, 0) := by decide +kernel
theorem cd_i100_26 : cd_I 100 26 = some (.ireturn, 0, 0) := by decide +kernel
theorem cd_i100_27 : cd_I 100 27 = some (.iconst 0, 0, 0) := by decide +kernel
theorem cd_i100_28 : cd_I 100 28 = some (.istore_n 3, 0, 0) := by decide +kernel
theorem cd_i100_29 : cd_I 100 29 = some (.iload_n 3, 0, 0) := by decide +kernel
theorem cd_i100_30 : cd_I 100 30 = some (.iload_n 2, 0, 0) := by decide +kernel
theorem cd_i100_31 : cd_I 100 31 = some (.if_icmp .ge 31, 62, 0) := by decide +kernel
theorem cd_i100_34 : cd_I 100 34 = some (.iload_n 1, 0, 0) := by decide +kernel
theorem cd_i100_35 : cd_I 100 35 = some (.bipush 8, 0, 0) := by decide +kernel
theorem cd_i100_37 : cd_I 100 37 = some (.iload_n 3, 0, 0) := by decide +kernel
theorem cd_i100_38 : cd_I 100 38 = some (.imul, 0, 0) := by decide +kernel
theorem cd_i100_39 : cd_I 100 39 = some (.ishr, 0, 0) := by decide +kernel
theorem cd_i100_40 : cd_I 100 40 = some (.sipush 255, 0, 0) := by decide +kernel
theorem cd_i100_43 : cd_I 100 43 = some (.iand, 0, 0) := by decide +kernel
theorem cd_i100_44 : cd_I 100 44 = some (.bipush 32, 0, 0) := by decide +kernel
theorem cd_i100_46 : cd_I 100 46 = some (.bipush 126, 0, 0) := by decide +kernel
theorem cd_i100_48 : cd_I 100 48 = some (.invokestatic 91, 101, 3) := by decide +kernel
theorem cd_i100_51 : cd_I 100 51 = some (.ifCond .eq 5, 56, 0) := by decide +kernel
theorem cd_i100_54 : cd_I 100 54 = some (.iconst 0, 0, 0) := by decide +kernel
theorem cd_i100_55 : cd_I 100 55 = some (.ireturn, 0, 0) := by decide +kernel
theorem cd_i100_56 : cd_I 100 56 = some (.iinc 3 1, 0, 0) := by decide +kernel
theorem cd_i100_59 : cd_I 100 59 = some (.goto (-30), 29, 0) := by decide +kernel
theorem cd_i100_62 : cd_I 100 62 = some (.iload_n 2, 0, 0) := by decide +kernel
theorem cd_i100_63 : cd_I 100 63 = some (.iconst 1, 0, 0) := by decide +kernel
theorem cd_i100_64 : cd_I 100 64 = some (.isub, 0, 0) := by decide +kernel
theorem cd_i100_65 : cd_I 100 65 = some (.istore_n 3, 0, 0) := by decide +kernel
theorem cd_i100_66 : cd_I 100 66 = some (.iload_n 3, 0, 0) := by decide +kernel
theorem cd_i100_67 : cd_I 100 67 = some (.ifCond .lt 39, 106, 0) := by decide +kernel
theorem cd_i100_70 : cd_I 100 70 = some (.aload_n 0, 0, 0) := by decide +kernel
theorem cd_i100_71 : cd_I 100 71 = some (.getfield 7, 11, 1) := by decide +kernel
theorem cd_i100_74 : cd_I 100 74 = some (.aload_n 0, 0, 0) := by decide +kernel
theorem cd_i100_75 : cd_I 100 75 = some (.getfield 95, 11, 2) := by decide +kernel
theorem cd_i100_78 : cd_I 100 78 = some (.iload_n 1, 0, 0) := by decide +kernel
theorem cd_i100_79 : cd_I 100 79 = some (.bipush 8, 0, 0) := by decide +kernel
theorem cd_i100_81 : cd_I 100 81 = some (.iload_n 3, 0, 0) := by decide +kernel
theorem cd_i100_82 : cd_I 100 82 = some (.imul, 0, 0) := by decide +kernel
theorem cd_i100_83 : cd_I 100 83 = some (.ishr, 0, 0) := by decide +kernel
theorem cd_i100_84 : cd_I 100 84 = some (.sipush 255, 0, 0) := by decide +kernel
theorem cd_i100_87 : cd_I 100 87 = some (.iand, 0, 0) := by decide +kernel
theorem cd_i100_88 : cd_I 100 88 = some (.i2c, 0, 0) := by decide +kernel
theorem cd_i100_89 : cd_I 100 89 = some (.castore, 0, 0) := by decide +kernel
theorem cd_i100_90 : cd_I 100 90 = some (.aload_n 0, 0, 0) := by decide +kernel
theorem cd_i100_91 : cd_I 100 91 = some (.dup, 0, 0) := by decide +kernel
theorem cd_i100_92 : cd_I 100 92 = some (.getfield 95, 11, 2) := by decide +kernel
theorem cd_i100_95 : cd_I 100 95 = some (.iconst 1, 0, 0) := by decide +kernel
theorem cd_i100_96 : cd_I 100 96 = some (.iadd, 0, 0) := by decide +kernel
theorem cd_i100_97 : cd_I 100 97 = some (.putfield 95, 11, 2) := by decide +kernel
theorem cd_i100_100 : cd_I 100 100 = some (.iinc 3 (-1), 0, 0) := by decide +kernel
theorem cd_i100_103 : cd_I 100 103 = some (.goto (-37), 66, 0) := by decide +kernel
theorem cd_i100_106 : cd_I 100 106 = some (.iconst 1, 0, 0) := by decide +kernel
theorem cd_i100_107 : cd_I 100 107 = some (.ireturn, 0, 0) := by decide +kernel
theorem cd_i101_0 : cd_I 101 0 = some (.iload_n 0, 0, 0) := by decide +kernel
theorem cd_i101_1 : cd_I 101 1 = some (.iload_n 1, 0, 0) := by decide +kernel
theorem cd_i101_2 : cd_I 101 2 = some (.if_icmp .lt 8, 10, 0) := by decide +kernel
theorem cd_i101_5 : cd_I 101 5 = some (.iload_n 0, 0, 0) := by decide +kernel
theorem cd_i101_6 : cd_I 101 6 = some (.iload_n 2, 0, 0) := by decide +kernel
theorem cd_i101_7 : cd_I 101 7 = some (.if_icmp .le 7, 14, 0) := by decide +kernel
theorem cd_i101_10 : cd_I 101 10 = some (.iconst 1, 0, 0) := by decide +kernel
theorem cd_i101_11 : cd_I 101 11 = some (.goto 4, 15, 0) := by decide +kernel
theorem cd_i101_14 : cd_I 101 14 = some (.iconst 0, 0, 0) := by decide +kernel
theorem cd_i101_15 : cd_I 101 15 = some (.ireturn, 0, 0) := by decide +kernel
theorem cd_i102_0 : cd_I 102 0 = some (.aload_n 0, 0, 0) := by decide +kernel
theorem cd_i102_1 : cd_I 102 1 = some (.iconst 0, 0, 0) := by decide +kernel
theorem cd_i102_2 : cd_I 102 2 = some (.putfield 98, 11, 3) := by decide +kernel
theorem cd_i102_5 : cd_I 102 5 = some (.aload_n 0, 0, 0) := by decide +kernel
theorem cd_i102_6 : cd_I 102 6 = some (.iconst 1, 0, 0) := by decide +kernel
theorem cd_i102_7 : cd_I 102 7 = some (.putfield 101, 11, 4) := by decide +kernel
theorem cd_i102_10 : cd_I 102 10 = some (.aload_n 0, 0, 0) := by decide +kernel
theorem cd_i102_11 : cd_I 102 11 = some (.invokevirtual 173, 103, 0) := by decide +kernel
theorem cd_i102_14 : cd_I 102 14 = some (.istore_n 1, 0, 0) := by decide +kernel
theorem cd_i102_15 : cd_I 102 15 = some (.aload_n 0, 0, 0) := by decide +kernel
theorem cd_i102_16 : cd_I 102 16 = some (.iconst 0, 0, 0) := by decide +kernel
theorem cd_i102_17 : cd_I 102 17 = some (.putfield 95, 11, 2) := by decide +kernel
theorem cd_i102_20 : cd_I 102 20 = some (.aload_n 0, 0, 0) := by decide +kernel
theorem cd_i102_21 : cd_I 102 21 = some (.getfield 101, 11, 4) := by decide +kernel
theorem cd_i102_24 : cd_I 102 24 = some (.ifCond .ne 9, 33, 0) := by decide +kernel
theorem cd_i102_27 : cd_I 102 27 = some (.aload_n 0, 0, 0) := by decide +kernel
theorem cd_i102_28 : cd_I 102 28 = some (.iconst 1, 0, 0) := by decide +kernel
theorem cd_i102_29 : cd_I 102 29 = some (.invokevirtual 176, 121, 1) := by decide +kernel
theorem cd_i102_32 : cd_I 102 32 = some (.ireturn, 0, 0) := by decide +kernel
theorem cd_i102_33 : cd_I 102 33 = some (.aload_n 0, 0, 0) := by decide +kernel
theorem cd_i102_34 : cd_I 102 34 = some (.getfield 13, 11, 5) := by decide +kernel
theorem cd_i102_37 : cd_I 102 37 = some (.iload_n 1, 0, 0) := by decide +kernel
theorem cd_i102_38 : cd_I 102 38 = some (.baload, 0, 0) := by decide +kernel
theorem cd_i102_39 : cd_I 102 39 = some (.ifCond .eq 9, 48, 0) := by decide +kernel
theorem cd_i102_42 : cd_I 102 42 = some (.aload_n 0, 0, 0) := by decide +kernel
theorem cd_i102_43 : cd_I 102 43 = some (.iconst 2, 0, 0) := by decide +kernel
theorem cd_i102_44 : cd_I 102 44 = some (.invokevirtual 176, 121, 1) := by decide +kernel
theorem cd_i102_47 : cd_I 102 47 = some (.ireturn, 0, 0) := by decide +kernel
theorem cd_i102_48 : cd_I 102 48 = some (.aload_n 0, 0, 0) := by decide +kernel
theorem cd_i102_49 : cd_I 102 49 = some (.iconst 0, 0, 0) := by decide +kernel
theorem cd_i102_50 : cd_I 102 50 = some (.putfield 88, 11, 0) := by decide +kernel
theorem cd_i102_53 : cd_I 102 53 = some (.aload_n 0, 0, 0) := by decide +kernel
theorem cd_i102_54 : cd_I 102 54 = some (.getfield 13, 11, 5) := by decide +kernel
theorem cd_i102_57 : cd_I 102 57 = some (.iload_n 1, 0, 0) := by decide +kernel
theorem cd_i102_58 : cd_I 102 58 = some (.iconst 1, 0, 0) := by decide +kernel
theorem cd_i102_59 : cd_I 102 59 = some (.bastore, 0, 0) := by decide +kernel
theorem cd_i102_60 : cd_I 102 60 = some (.aload_n 0, 0, 0) := by decide +kernel
theorem cd_i102_61 : cd_I 102 61 = some (.getfield 17, 11, 6) := by decide +kernel
theorem cd_i102_64 : cd_I 102 64 = some (.iload_n 1, 0, 0) := by decide +kernel
theorem cd_i102_65 : cd_I 102 65 = some (.aload_n 0, 0, 0) := by decide +kernel
theorem cd_i102_66 : cd_I 102 66 = some (.getfield 160, 11, 37) := by decide +kernel
theorem cd_i102_69 : cd_I 102 69 = some (.iastore, 0, 0) := by decide +kernel
theorem cd_i102_70 : cd_I 102 70 = some (.aload_n 0, 0, 0) := by decide +kernel
theorem cd_i102_71 : cd_I 102 71 = some (.getfield 21, 11, 7) := by decide +kernel
theorem cd_i102_74 : cd_I 102 74 = some (.iload_n 1, 0, 0) := by decide +kernel
theorem cd_i102_75 : cd_I 102 75 = some (.aload_n 0, 0, 0) := by decide +kernel
theorem cd_i102_76 : cd_I 102 76 = some (.getfield 163, 11, 38) := by decide +kernel
theorem cd_i102_79 : cd_I 102 79 = some (.iastore, 0, 0) := by decide +kernel
theorem cd_i102_80 : cd_I 102 80 = some (.iconst 0, 0, 0) := by decide +kernel
theorem cd_i102_81 : cd_I 102 81 = some (.istore_n 2, 0, 0) := by decide +kernel
theorem cd_i102_82 : cd_I 102 82 = some (.iload_n 2, 0, 0) := by decide +kernel
theorem cd_i102_83 : cd_I 102 83 = some (.aload_n 0, 0, 0) := by decide +kernel
theorem cd_i102_84 : cd_I 102 84 = some (.getfield 163, 11, 38) := by decide +kernel
theorem cd_i102_87 : cd_I 102 87 = some (.if_icmp .ge 23, 110, 0) := by decide +kernel
theorem cd_i102_90 : cd_I 102 90 = some (.aload_n 0, 0, 0) := by decide +kernel
theorem cd_i102_91 : cd_I 102 91 = some (.bipush 60, 0, 0) := by decide +kernel
theorem cd_i102_93 : cd_I 102 93 = some (.iload_n 2, 0, 0) := by decide +kernel
theorem cd_i102_94 : cd_I 102 94 = some (.iadd, 0, 0) := by decide +kernel
theorem cd_i102_95 : cd_I 102 95 = some (.bipush 6, 0, 0) := by decide +kernel
theorem cd_i102_97 : cd_I 102 97 = some (.iload_n 1, 0, 0) := by decide +kernel
theorem cd_i102_98 : cd_I 102 98 = some (.imul, 0, 0) := by decide +kernel
theorem cd_i102_99 : cd_I 102 99 = some (.iload_n 2, 0, 0) := by decide +kernel
theorem cd_i102_100 : cd_I 102 100 = some (.iadd, 0, 0) := by decide +kernel
theorem cd_i102_101 : cd_I 102 101 = some (.invokevirtual 180, 122, 2) := by decide +kernel
theorem cd_i102_104 : cd_I 102 104 = some (.iinc 2 1, 0, 0) := by decide +kernel
theorem cd_i102_107 : cd_I 102 107 = some (.goto (-25), 82, 0) := by decide +kernel
theorem cd_i102_110 : cd_I 102 110 = some (.aload_n 0, 0, 0) := by decide +kernel
theorem cd_i102_111 : cd_I 102 111 = some (.getfield 163, 11, 38) := by decide +kernel
theorem cd_i102_114 : cd_I 102 114 = some (.ireturn, 0, 0) := by decide +kernel
theorem cd_i103_0 : cd_I 103 0 = some (.aload_n 0, 0, 0) := by decide +kernel
theorem cd_i103_1 : cd_I 103 1 = some (.invokevirtual 135, 104, 0) := by decide +kernel
theorem cd_i103_4 : cd_I 103 4 = some (.istore_n 1, 0, 0) := by decide +kernel
theorem cd_i103_5 : cd_I 103 5 = some (.aload_n 0, 0, 0) := by decide +kernel
theorem cd_i103_6 : cd_I 103 6 = some (.iconst (-1), 0, 0) := by decide +kernel
theorem cd_i103_7 : cd_I 103 7 = some (.putfield 160, 11, 37) := by decide +kernel
theorem cd_i103_10 : cd_I 103 10 = some (.aload_n 0, 0, 0) := by decide +kernel
theorem cd_i103_11 : cd_I 103 11 = some (.getfield 101, 11, 4) := by decide +kernel
theorem cd_i103_14 : cd_I 103 14 = some (.ifCond .eq 48, 62, 0) := by decide +kernel
theorem cd_i103_17 : cd_I 103 17 = some (.aload_n 0, 0, 0) := by decide +kernel
theorem cd_i103_18 : cd_I 103 18 = some (.bipush 58, 0, 0) := by decide +kernel
theorem cd_i103_20 : cd_I 103 20 = some (.invokevirtual 109, 108, 1) := by decide +kernel
theorem cd_i103_23 : cd_I 103 23 = some (.ifCond .eq 39, 62, 0) := by decide +kernel
theorem cd_i103_26 : cd_I 103 26 = some (.aload_n 0, 0, 0) := by decide +kernel
theorem cd_i103_27 : cd_I 103 27 = some (.aload_n 0, 0, 0) := by decide +kernel
theorem cd_i103_28 : cd_I 103 28 = some (.invokevirtual 135, 104, 0) := by decide +kernel
theorem cd_i103_31 : cd_I 103 31 = some (.putfield 160, 11, 37) := by decide +kernel
theorem cd_i103_34 : cd_I 103 34 = some (.aload_n 0, 0, 0) := by decide +kernel
theorem cd_i103_35 : cd_I 103 35 = some (.aload_n 0, 0, 0) := by decide +kernel
theorem cd_i103_36 : cd_I 103 36 = some (.getfield 101, 11, 4) := by decide +kernel
theorem cd_i103_39 : cd_I 103 39 = some (.ifCond .eq 19, 58, 0) := by decide +kernel
theorem cd_i103_42 : cd_I 103 42 = some (.aload_n 0, 0, 0) := by decide +kernel
theorem cd_i103_43 : cd_I 103 43 = some (.getfield 13, 11, 5) := by decide +kernel
theorem cd_i103_46 : cd_I 103 46 = some (.aload_n 0, 0, 0) := by decide +kernel
theorem cd_i103_47 : cd_I 103 47 = some (.getfield 160, 11, 37) := by decide +kernel
theorem cd_i103_50 : cd_I 103 50 = some (.baload, 0, 0) := by decide +kernel
theorem cd_i103_51 : cd_I 103 51 = some (.ifCond .eq 7, 58, 0) := by decide +kernel
theorem cd_i103_54 : cd_I 103 54 = some (.iconst 1, 0, 0) := by decide +kernel
theorem cd_i103_55 : cd_I 103 55 = some (.goto 4, 59, 0) := by decide +kernel
theorem cd_i103_58 : cd_I 103 58 = some (.iconst 0, 0, 0) := by decide +kernel
theorem cd_i103_59 : cd_I 103 59 = some (.invokevirtual 113, 107, 1) := by decide +kernel
theorem cd_i103_62 : cd_I 103 62 = some (.aload_n 0, 0, 0) := by decide +kernel
theorem cd_i103_63 : cd_I 103 63 = some (.iconst 0, 0, 0) := by decide +kernel
theorem cd_i103_64 : cd_I 103 64 = some (.putfield 163, 11, 38) := by decide +kernel
theorem cd_i103_67 : cd_I 103 67 = some (.aload_n 0, 0, 0) := by decide +kernel
theorem cd_i103_68 : cd_I 103 68 = some (.bipush 123, 0, 0) := by decide +kernel
theorem cd_i103_70 : cd_I 103 70 = some (.invokevirtual 138, 109, 1) := by decide +kernel
theorem cd_i103_73 : cd_I 103 73 = some (.aload_n 0, 0, 0) := by decide +kernel
theorem cd_i103_74 : cd_I 103 74 = some (.getfield 101, 11, 4) := by decide +kernel
theorem cd_i103_77 : cd_I 103 77 = some (.ifCond .eq 165, 242, 0) := by decide +kernel
theorem cd_i103_80 : cd_I 103 80 = some (.aload_n 0, 0, 0) := by decide +kernel
theorem cd_i103_81 : cd_I 103 81 = some (.bipush 125, 0, 0) := by decide +kernel
theorem cd_i103_83 : cd_I 103 83 = some (.invokevirtual 109, 108, 1) := by decide +kernel
theorem cd_i103_86 : cd_I 103 86 = some (.ifCond .ne 156, 242, 0) := by decide +kernel
theorem cd_i103_89 : cd_I 103 89 = some (.aload_n 0, 0, 0) := by decide +kernel
theorem cd_i103_90 : cd_I 103 90 = some (.getfield 163, 11, 38) := by decide +kernel
theorem cd_i103_93 : cd_I 103 93 = some (.ifCond .le 9, 102, 0) := by decide +kernel
theorem cd_i103_96 : cd_I 103 96 = some (.aload_n 0, 0, 0) := by decide +kernel
theorem cd_i103_97 : cd_I 103 97 = some (.bipush 59, 0, 0) := by decide +kernel
theorem cd_i103_99 : cd_I 103 99 = some (.invokevirtual 138, 109, 1) := by decide +kernel
theorem cd_i103_102 : cd_I 103 102 = some (.aload_n 0, 0, 0) := by decide +kernel
theorem cd_i103_103 : cd_I 103 103 = some (.aload_n 0, 0, 0) := by decide +kernel
theorem cd_i103_104 : cd_I 103 104 = some (.getfield 163, 11, 38) := by decide +kernel
theorem cd_i103_107 : cd_I 103 107 = some (.bipush 6, 0, 0) := by decide +kernel
theorem cd_i103_109 : cd_I 103 109 = some (.if_icmp .ge 7, 116, 0) := by decide +kernel
theorem cd_i103_112 : cd_I 103 112 = some (.iconst 1, 0, 0) := by decide +kernel
theorem cd_i103_113 : cd_I 103 113 = some (.goto 4, 117, 0) := by decide +kernel
theorem cd_i103_116 : cd_I 103 116 = some (.iconst 0, 0, 0) := by decide +kernel
theorem cd_i103_117 : cd_I 103 117 = some (.invokevirtual 113, 107, 1) := by decide +kernel
theorem cd_i103_120 : cd_I 103 120 = some (.bipush 60, 0, 0) := by decide +kernel
theorem cd_i103_122 : cd_I 103 122 = some (.aload_n 0, 0, 0) := by decide +kernel
theorem cd_i103_123 : cd_I 103 123 = some (.getfield 163, 11, 38) := by decide +kernel
theorem cd_i103_126 : cd_I 103 126 = some (.iadd, 0, 0) := by decide +kernel
theorem cd_i103_127 : cd_I 103 127 = some (.istore_n 2, 0, 0) := by decide +kernel
theorem cd_i103_128 : cd_I 103 128 = some (.aload_n 0, 0, 0) := by decide +kernel
theorem cd_i103_129 : cd_I 103 129 = some (.getfield 101, 11, 4) := by decide +kernel
theorem cd_i103_132 : cd_I 103 132 = some (.ifCond .eq 9, 141, 0) := by decide +kernel
theorem cd_i103_135 : cd_I 103 135 = some (.aload_n 0, 0, 0) := by decide +kernel
theorem cd_i103_136 : cd_I 103 136 = some (.iload_n 2, 0, 0) := by decide +kernel
theorem cd_i103_137 : cd_I 103 137 = some (.iload_n 1, 0, 0) := by decide +kernel
theorem cd_i103_138 : cd_I 103 138 = some (.invokevirtual 166, 110, 2) := by decide +kernel
theorem cd_i103_141 : cd_I 103 141 = some (.bipush 60, 0, 0) := by decide +kernel
theorem cd_i103_143 : cd_I 103 143 = some (.istore_n 3, 0, 0) := by decide +kernel
theorem cd_i103_144 : cd_I 103 144 = some (.iload_n 3, 0, 0) := by decide +kernel
theorem cd_i103_145 : cd_I 103 145 = some (.iload_n 2, 0, 0) := by decide +kernel
theorem cd_i103_146 : cd_I 103 146 = some (.if_icmp .ge 55, 201, 0) := by decide +kernel
theorem cd_i103_149 : cd_I 103 149 = some (.aload_n 0, 0, 0) := by decide +kernel
theorem cd_i103_150 : cd_I 103 150 = some (.getfield 101, 11, 4) := by decide +kernel
theorem cd_i103_153 : cd_I 103 153 = some (.ifCond .eq 48, 201, 0) := by decide +kernel
theorem cd_i103_156 : cd_I 103 156 = some (.aload_n 0, 0, 0) := by decide +kernel
theorem cd_i103_157 : cd_I 103 157 = some (.aload_n 0, 0, 0) := by decide +kernel
theorem cd_i103_158 : cd_I 103 158 = some (.getfield 24, 11, 8) := by decide +kernel
theorem cd_i103_161 : cd_I 103 161 = some (.iload_n 3, 0, 0) := by decide +kernel
theorem cd_i103_162 : cd_I 103 162 = some (.iaload, 0, 0) := by decide +kernel
theorem cd_i103_163 : cd_I 103 163 = some (.aload_n 0, 0, 0) := by decide +kernel
theorem cd_i103_164 : cd_I 103 164 = some (.getfield 24, 11, 8) := by decide +kernel
theorem cd_i103_167 : cd_I 103 167 = some (.iload_n 2, 0, 0) := by decide +kernel
theorem cd_i103_168 : cd_I 103 168 = some (.iaload, 0, 0) := by decide +kernel
theorem cd_i103_169 : cd_I 103 169 = some (.if_icmp .ne 18, 187, 0) := by decide +kernel
theorem cd_i103_172 : cd_I 103 172 = some (.aload_n 0, 0, 0) := by decide +kernel
theorem cd_i103_173 : cd_I 103 173 = some (.getfield 33, 11, 11) := by decide +kernel
theorem cd_i103_176 : cd_I 103 176 = some (.iload_n 3, 0, 0) := by decide +kernel
theorem cd_i103_177 : cd_I 103 177 = some (.iaload, 0, 0) := by decide +kernel
theorem cd_i103_178 : cd_I 103 178 = some (.aload_n 0, 0, 0) := by decide +kernel
theorem cd_i103_179 : cd_I 103 179 = some (.getfield 33, 11, 11) := by decide +kernel
theorem cd_i103_182 : cd_I 103 182 = some (.iload_n 2, 0, 0) := by decide +kernel
theorem cd_i103_183 : cd_I 103 183 = some (.iaload, 0, 0) := by decide +kernel
theorem cd_i103_184 : cd_I 103 184 = some (.if_icmp .eq 7, 191, 0) := by decide +kernel
theorem cd_i103_187 : cd_I 103 187 = some (.iconst 1, 0, 0) := by decide +kernel
theorem cd_i103_188 : cd_I 103 188 = some (.goto 4, 192, 0) := by decide +kernel
theorem cd_i103_191 : cd_I 103 191 = some (.iconst 0, 0, 0) := by decide +kernel
theorem cd_i103_192 : cd_I 103 192 = some (.invokevirtual 113, 107, 1) := by decide +kernel
theorem cd_i103_195 : cd_I 103 195 = some (.iinc 3 1, 0, 0) := by decide +kernel
theorem cd_i103_198 : cd_I 103 198 = some (.goto (-54), 144, 0) := by decide +kernel
theorem cd_i103_201 : cd_I 103 201 = some (.aload_n 0, 0, 0) := by decide +kernel
theorem cd_i103_202 : cd_I 103 202 = some (.aload_n 0, 0, 0) := by decide +kernel
theorem cd_i103_203 : cd_I 103 203 = some (.getfield 101, 11, 4) := by decide +kernel
theorem cd_i103_206 : cd_I 103 206 = some (.ifCond .eq 15, 221, 0) := by decide +kernel
theorem cd_i103_209 : cd_I 103 209 = some (.aload_n 0, 0, 0) := by decide +kernel
theorem cd_i103_210 : cd_I 103 210 = some (.iload_n 2, 0, 0) := by decide +kernel
theorem cd_i103_211 : cd_I 103 211 = some (.aload_n 0, 0, 0) := by decide +kernel
theorem cd_i103_212 : cd_I 103 212 = some (.getfield 160, 11, 37) := by decide +kernel
theorem cd_i103_215 : cd_I 103 215 = some (.invokevirtual 170, 119, 2) := by decide +kernel
theorem cd_i103_218 : cd_I 103 218 = some (.ifCond .eq 7, 225, 0) := by decide +kernel
theorem cd_i103_221 : cd_I 103 221 = some (.iconst 1, 0, 0) := by decide +kernel
theorem cd_i103_222 : cd_I 103 222 = some (.goto 4, 226, 0) := by decide +kernel
theorem cd_i103_225 : cd_I 103 225 = some (.iconst 0, 0, 0) := by decide +kernel
theorem cd_i103_226 : cd_I 103 226 = some (.invokevirtual 113, 107, 1) := by decide +kernel
theorem cd_i103_229 : cd_I 103 229 = some (.aload_n 0, 0, 0) := by decide +kernel
theorem cd_i103_230 : cd_I 103 230 = some (.dup, 0, 0) := by decide +kernel
theorem cd_i103_231 : cd_I 103 231 = some (.getfield 163, 11, 38) := by decide +kernel
theorem cd_i103_234 : cd_I 103 234 = some (.iconst 1, 0, 0) := by decide +kernel
theorem cd_i103_235 : cd_I 103 235 = some (.iadd, 0, 0) := by decide +kernel
theorem cd_i103_236 : cd_I 103 236 = some (.putfield 163, 11, 38) := by decide +kernel
theorem cd_i103_239 : cd_I 103 239 = some (.goto (-166), 73, 0) := by decide +kernel
theorem cd_i103_242 : cd_I 103 242 = some (.aload_n 0, 0, 0) := by decide +kernel
theorem cd_i103_243 : cd_I 103 243 = some (.aload_n 0, 0, 0) := by decide +kernel
theorem cd_i103_244 : cd_I 103 244 = some (.getfield 98, 11, 3) := by decide +kernel
theorem cd_i103_247 : cd_I 103 247 = some (.aload_n 0, 0, 0) := by decide +kernel
theorem cd_i103_248 : cd_I 103 248 = some (.getfield 95, 11, 2) := by decide +kernel
theorem cd_i103_251 : cd_I 103 251 = some (.if_icmp .ne 7, 258, 0) := by decide +kernel
theorem cd_i103_254 : cd_I 103 254 = some (.iconst 1, 0, 0) := by decide +kernel
theorem cd_i103_255 : cd_I 103 255 = some (.goto 4, 259, 0) := by decide +kernel
theorem cd_i103_258 : cd_I 103 258 = some (.iconst 0, 0, 0) := by decide +kernel
theorem cd_i103_259 : cd_I 103 259 = some (.invokevirtual 113, 107, 1) := by decide +kernel
theorem cd_i103_262 : cd_I 103 262 = some (.iload_n 1, 0, 0) := by decide +kernel
theorem cd_i103_263 : cd_I 103 263 = some (.ireturn, 0, 0) := by decide +kernel
theorem cd_i104_0 : cd_I 104 0 = some (.aload_n 0, 0, 0) := by decide +kernel
theorem cd_i104_1 : cd_I 104 1 = some (.aload_n 0, 0, 0) := by decide +kernel
theorem cd_i104_2 : cd_I 104 2 = some (.iconst 0, 0, 0) := by decide +kernel
theorem cd_i104_3 : cd_I 104 3 = some (.invokevirtual 105, 105, 1) := by decide +kernel
theorem cd_i104_6 : cd_I 104 6 = some (.invokestatic 132, 106, 1) := by decide +kernel
theorem cd_i104_9 : cd_I 104 9 = some (.invokevirtual 113, 107, 1) := by decide +kernel
theorem cd_i104_12 : cd_I 104 12 = some (.aload_n 0, 0, 0) := by decide +kernel
theorem cd_i104_13 : cd_I 104 13 = some (.dup, 0, 0) := by decide +kernel
theorem cd_i104_14 : cd_I 104 14 = some (.getfield 98, 11, 3) := by decide +kernel
theorem cd_i104_17 : cd_I 104 17 = some (.iconst 1, 0, 0) := by decide +kernel
theorem cd_i104_18 : cd_I 104 18 = some (.iadd, 0, 0) := by decide +kernel
theorem cd_i104_19 : cd_I 104 19 = some (.putfield 98, 11, 3) := by decide +kernel
theorem cd_i104_22 : cd_I 104 22 = some (.aload_n 0, 0, 0) := by decide +kernel
theorem cd_i104_23 : cd_I 104 23 = some (.getfield 101, 11, 4) := by decide +kernel
theorem cd_i104_26 : cd_I 104 26 = some (.ifCond .eq 20, 46, 0) := by decide +kernel
theorem cd_i104_29 : cd_I 104 29 = some (.aload_n 0, 0, 0) := by decide +kernel
theorem cd_i104_30 : cd_I 104 30 = some (.getfield 7, 11, 1) := by decide +kernel
theorem cd_i104_33 : cd_I 104 33 = some (.aload_n 0, 0, 0) := by decide +kernel
theorem cd_i104_34 : cd_I 104 34 = some (.getfield 98, 11, 3) := by decide +kernel
theorem cd_i104_37 : cd_I 104 37 = some (.iconst 1, 0, 0) := by decide +kernel
theorem cd_i104_38 : cd_I 104 38 = some (.isub, 0, 0) := by decide +kernel
theorem cd_i104_39 : cd_I 104 39 = some (.caload, 0, 0) := by decide +kernel
theorem cd_i104_40 : cd_I 104 40 = some (.bipush 65, 0, 0) := by decide +kernel
theorem cd_i104_42 : cd_I 104 42 = some (.isub, 0, 0) := by decide +kernel
theorem cd_i104_43 : cd_I 104 43 = some (.goto 4, 47, 0) := by decide +kernel
theorem cd_i104_46 : cd_I 104 46 = some (.iconst 0, 0, 0) := by decide +kernel
theorem cd_i104_47 : cd_I 104 47 = some (.ireturn, 0, 0) := by decide +kernel
theorem cd_i105_0 : cd_I 105 0 = some (.aload_n 0, 0, 0) := by decide +kernel
theorem cd_i105_1 : cd_I 105 1 = some (.getfield 98, 11, 3) := by decide +kernel
theorem cd_i105_4 : cd_I 105 4 = some (.iload_n 1, 0, 0) := by decide +kernel
theorem cd_i105_5 : cd_I 105 5 = some (.iadd, 0, 0) := by decide +kernel
theorem cd_i105_6 : cd_I 105 6 = some (.aload_n 0, 0, 0) := by decide +kernel
theorem cd_i105_7 : cd_I 105 7 = some (.getfield 95, 11, 2) := by decide +kernel
theorem cd_i105_10 : cd_I 105 10 = some (.if_icmp .ge 17, 27, 0) := by decide +kernel
theorem cd_i105_13 : cd_I 105 13 = some (.aload_n 0, 0, 0) := by decide +kernel
theorem cd_i105_14 : cd_I 105 14 = some (.getfield 7, 11, 1) := by decide +kernel
theorem cd_i105_17 : cd_I 105 17 = some (.aload_n 0, 0, 0) := by decide +kernel
theorem cd_i105_18 : cd_I 105 18 = some (.getfield 98, 11, 3) := by decide +kernel
theorem cd_i105_21 : cd_I 105 21 = some (.iload_n 1, 0, 0) := by decide +kernel
theorem cd_i105_22 : cd_I 105 22 = some (.iadd, 0, 0) := by decide +kernel
theorem cd_i105_23 : cd_I 105 23 = some (.caload, 0, 0) := by decide +kernel
theorem cd_i105_24 : cd_I 105 24 = some (.goto 4, 28, 0) := by decide +kernel
theorem cd_i105_27 : cd_I 105 27 = some (.iconst 0, 0, 0) := by decide +kernel
theorem cd_i105_28 : cd_I 105 28 = some (.ireturn, 0, 0) := by decide +kernel
theorem cd_i106_0 : cd_I 106 0 = some (.iload_n 0, 0, 0) := by decide +kernel
theorem cd_i106_1 : cd_I 106 1 = some (.bipush 65, 0, 0) := by decide +kernel
theorem cd_i106_3 : cd_I 106 3 = some (.if_icmp .lt 13, 16, 0) := by decide +kernel
theorem cd_i106_6 : cd_I 106 6 = some (.iload_n 0, 0, 0) := by decide +kernel
theorem cd_i106_7 : cd_I 106 7 = some (.bipush 74, 0, 0) := by decide +kernel
theorem cd_i106_9 : cd_I 106 9 = some (.if_icmp .gt 7, 16, 0) := by decide +kernel
theorem cd_i106_12 : cd_I 106 12 = some (.iconst 1, 0, 0) := by decide +kernel
theorem cd_i106_13 : cd_I 106 13 = some (.goto 4, 17, 0) := by decide +kernel
theorem cd_i106_16 : cd_I 106 16 = some (.iconst 0, 0, 0) := by decide +kernel
theorem cd_i106_17 : cd_I 106 17 = some (.ireturn, 0, 0) := by decide +kernel
theorem cd_i107_0 : cd_I 107 0 = some (.aload_n 0, 0, 0) := by decide +kernel
theorem cd_i107_1 : cd_I 107 1 = some (.aload_n 0, 0, 0) := by decide +kernel
theorem cd_i107_2 : cd_I 107 2 = some (.getfield 101, 11, 4) := by decide +kernel
theorem cd_i107_5 : cd_I 107 5 = some (.ifCond .eq 11, 16, 0) := by decide +kernel
theorem cd_i107_8 : cd_I 107 8 = some (.iload_n 1, 0, 0) := by decide +kernel
theorem cd_i107_9 : cd_I 107 9 = some (.ifCond .eq 7, 16, 0) := by decide +kernel
theorem cd_i107_12 : cd_I 107 12 = some (.iconst 1, 0, 0) := by decide +kernel
theorem cd_i107_13 : cd_I 107 13 = some (.goto 4, 17, 0) := by decide +kernel
theorem cd_i107_16 : cd_I 107 16 = some (.iconst 0, 0, 0) := by decide +kernel
theorem cd_i107_17 : cd_I 107 17 = some (.putfield 101, 11, 4) := by decide +kernel
theorem cd_i107_20 : cd_I 107 20 = some (.return_, 0, 0) := by decide +kernel
theorem cd_i108_0 : cd_I 108 0 = some (.aload_n 0, 0, 0) := by decide +kernel
theorem cd_i108_1 : cd_I 108 1 = some (.iconst 0, 0, 0) := by decide +kernel
theorem cd_i108_2 : cd_I 108 2 = some (.invokevirtual 105, 105, 1) := by decide +kernel
theorem cd_i108_5 : cd_I 108 5 = some (.iload_n 1, 0, 0) := by decide +kernel
theorem cd_i108_6 : cd_I 108 6 = some (.if_icmp .ne 7, 13, 0) := by decide +kernel
theorem cd_i108_9 : cd_I 108 9 = some (.iconst 1, 0, 0) := by decide +kernel
theorem cd_i108_10 : cd_I 108 10 = some (.goto 4, 14, 0) := by decide +kernel
theorem cd_i108_13 : cd_I 108 13 = some (.iconst 0, 0, 0) := by decide +kernel
theorem cd_i108_14 : cd_I 108 14 = some (.istore_n 2, 0, 0) := by decide +kernel
theorem cd_i108_15 : cd_I 108 15 = some (.aload_n 0, 0, 0) := by decide +kernel
theorem cd_i108_16 : cd_I 108 16 = some (.iload_n 2, 0, 0) := by decide +kernel
theorem cd_i108_17 : cd_I 108 17 = some (.ifCond .eq 12, 29, 0) := by decide +kernel
theorem cd_i108_20 : cd_I 108 20 = some (.aload_n 0, 0, 0) := by decide +kernel
theorem cd_i108_21 : cd_I 108 21 = some (.getfield 98, 11, 3) := by decide +kernel
theorem cd_i108_24 : cd_I 108 24 = some (.iconst 1, 0, 0) := by decide +kernel
theorem cd_i108_25 : cd_I 108 25 = some (.iadd, 0, 0) := by decide +kernel
theorem cd_i108_26 : cd_I 108 26 = some (.goto 7, 33, 0) := by decide +kernel
theorem cd_i108_29 : cd_I 108 29 = some (.aload_n 0, 0, 0) := by decide +kernel
theorem cd_i108_30 : cd_I 108 30 = some (.getfield 98, 11, 3) := by decide +kernel
theorem cd_i108_33 : cd_I 108 33 = some (.putfield 98, 11, 3) := by decide +kernel
theorem cd_i108_36 : cd_I 108 36 = some (.iload_n 2, 0, 0) := by decide +kernel
theorem cd_i108_37 : cd_I 108 37 = some (.ireturn, 0, 0) := by decide +kernel
theorem cd_i109_0 : cd_I 109 0 = some (.aload_n 0, 0, 0) := by decide +kernel
theorem cd_i109_1 : cd_I 109 1 = some (.aload_n 0, 0, 0) := by decide +kernel
theorem cd_i109_2 : cd_I 109 2 = some (.iload_n 1, 0, 0) := by decide +kernel
theorem cd_i109_3 : cd_I 109 3 = some (.invokevirtual 109, 108, 1) := by decide +kernel
theorem cd_i109_6 : cd_I 109 6 = some (.invokevirtual 113, 107, 1) := by decide +kernel
theorem cd_i109_9 : cd_I 109 9 = some (.return_, 0, 0) := by decide +kernel
theorem cd_i110_0 : cd_I 110 0 = some (.aload_n 0, 0, 0) := by decide +kernel
theorem cd_i110_1 : cd_I 110 1 = some (.getfield 30, 11, 10) := by decide +kernel
theorem cd_i110_4 : cd_I 110 4 = some (.iload_n 1, 0, 0) := by decide +kernel
theorem cd_i110_5 : cd_I 110 5 = some (.aload_n 0, 0, 0) := by decide +kernel
theorem cd_i110_6 : cd_I 110 6 = some (.bipush 8, 0, 0) := by decide +kernel
theorem cd_i110_8 : cd_I 110 8 = some (.bipush 112, 0, 0) := by decide +kernel
theorem cd_i110_10 : cd_I 110 10 = some (.bipush 114, 0, 0) := by decide +kernel
theorem cd_i110_12 : cd_I 110 12 = some (.bipush 105, 0, 0) := by decide +kernel
theorem cd_i110_14 : cd_I 110 14 = some (.bipush 118, 0, 0) := by decide +kernel
theorem cd_i110_16 : cd_I 110 16 = some (.bipush 97, 0, 0) := by decide +kernel
theorem cd_i110_18 : cd_I 110 18 = some (.bipush 116, 0, 0) := by decide +kernel
theorem cd_i110_20 : cd_I 110 20 = some (.invokevirtual 145, 111, 7) := by decide +kernel
theorem cd_i110_23 : cd_I 110 23 = some (.bastore, 0, 0) := by decide +kernel
theorem cd_i110_24 : cd_I 110 24 = some (.aload_n 0, 0, 0) := by decide +kernel
theorem cd_i110_25 : cd_I 110 25 = some (.getfield 27, 11, 9) := by decide +kernel
theorem cd_i110_28 : cd_I 110 28 = some (.iload_n 1, 0, 0) := by decide +kernel
theorem cd_i110_29 : cd_I 110 29 = some (.iconst 1, 0, 0) := by decide +kernel
theorem cd_i110_30 : cd_I 110 30 = some (.bastore, 0, 0) := by decide +kernel
theorem cd_i110_31 : cd_I 110 31 = some (.aload_n 0, 0, 0) := by decide +kernel
theorem cd_i110_32 : cd_I 110 32 = some (.getfield 33, 11, 11) := by decide +kernel
theorem cd_i110_35 : cd_I 110 35 = some (.iload_n 1, 0, 0) := by decide +kernel
theorem cd_i110_36 : cd_I 110 36 = some (.iconst 0, 0, 0) := by decide +kernel
theorem cd_i110_37 : cd_I 110 37 = some (.iastore, 0, 0) := by decide +kernel
theorem cd_i110_38 : cd_I 110 38 = some (.aload_n 0, 0, 0) := by decide +kernel
theorem cd_i110_39 : cd_I 110 39 = some (.iconst 4, 0, 0) := by decide +kernel
theorem cd_i110_40 : cd_I 110 40 = some (.bipush 110, 0, 0) := by decide +kernel
theorem cd_i110_42 : cd_I 110 42 = some (.bipush 101, 0, 0) := by decide +kernel
theorem cd_i110_44 : cd_I 110 44 = some (.bipush 119, 0, 0) := by decide +kernel
theorem cd_i110_46 : cd_I 110 46 = some (.bipush 40, 0, 0) := by decide +kernel
theorem cd_i110_48 : cd_I 110 48 = some (.iconst 0, 0, 0) := by decide +kernel
theorem cd_i110_49 : cd_I 110 49 = some (.iconst 0, 0, 0) := by decide +kernel
theorem cd_i110_50 : cd_I 110 50 = some (.invokevirtual 145, 111, 7) := by decide +kernel
theorem cd_i110_53 : cd_I 110 53 = some (.ifCond .eq 35, 88, 0) := by decide +kernel
theorem cd_i110_56 : cd_I 110 56 = some (.aload_n 0, 0, 0) := by decide +kernel
theorem cd_i110_57 : cd_I 110 57 = some (.dup, 0, 0) := by decide +kernel
theorem cd_i110_58 : cd_I 110 58 = some (.getfield 98, 11, 3) := by decide +kernel
theorem cd_i110_61 : cd_I 110 61 = some (.iconst 1, 0, 0) := by decide +kernel
theorem cd_i110_62 : cd_I 110 62 = some (.isub, 0, 0) := by decide +kernel
theorem cd_i110_63 : cd_I 110 63 = some (.putfield 98, 11, 3) := by decide +kernel
theorem cd_i110_66 : cd_I 110 66 = some (.aload_n 0, 0, 0) := by decide +kernel
theorem cd_i110_67 : cd_I 110 67 = some (.getfield 24, 11, 8) := by decide +kernel
theorem cd_i110_70 : cd_I 110 70 = some (.iload_n 1, 0, 0) := by decide +kernel
theorem cd_i110_71 : cd_I 110 71 = some (.iconst 2, 0, 0) := by decide +kernel
theorem cd_i110_72 : cd_I 110 72 = some (.iastore, 0, 0) := by decide +kernel
theorem cd_i110_73 : cd_I 110 73 = some (.aload_n 0, 0, 0) := by decide +kernel
theorem cd_i110_74 : cd_I 110 74 = some (.getfield 36, 11, 12) := by decide +kernel
theorem cd_i110_77 : cd_I 110 77 = some (.iload_n 1, 0, 0) := by decide +kernel
theorem cd_i110_78 : cd_I 110 78 = some (.iconst 3, 0, 0) := by decide +kernel
theorem cd_i110_79 : cd_I 110 79 = some (.iload_n 2, 0, 0) := by decide +kernel
theorem cd_i110_80 : cd_I 110 80 = some (.iadd, 0, 0) := by decide +kernel
theorem cd_i110_81 : cd_I 110 81 = some (.iastore, 0, 0) := by decide +kernel
theorem cd_i110_82 : cd_I 110 82 = some (.aload_n 0, 0, 0) := by decide +kernel
theorem cd_i110_83 : cd_I 110 83 = some (.iload_n 1, 0, 0) := by decide +kernel
theorem cd_i110_84 : cd_I 110 84 = some (.invokevirtual 149, 112, 1) := by decide +kernel
theorem cd_i110_87 : cd_I 110 87 = some (.return_, 0, 0) := by decide +kernel
theorem cd_i110_88 : cd_I 110 88 = some (.aload_n 0, 0, 0) := by decide +kernel
theorem cd_i110_89 : cd_I 110 89 = some (.getfield 27, 11, 9) := by decide +kernel
theorem cd_i110_92 : cd_I 110 92 = some (.iload_n 1, 0, 0) := by decide +kernel
theorem cd_i110_93 : cd_I 110 93 = some (.aload_n 0, 0, 0) := by decide +kernel
theorem cd_i110_94 : cd_I 110 94 = some (.bipush 7, 0, 0) := by decide +kernel
theorem cd_i110_96 : cd_I 110 96 = some (.bipush 115, 0, 0) := by decide +kernel
theorem cd_i110_98 : cd_I 110 98 = some (.bipush 116, 0, 0) := by decide +kernel
theorem cd_i110_100 : cd_I 110 100 = some (.bipush 97, 0, 0) := by decide +kernel
theorem cd_i110_102 : cd_I 110 102 = some (.bipush 116, 0, 0) := by decide +kernel
theorem cd_i110_104 : cd_I 110 104 = some (.bipush 105, 0, 0) := by decide +kernel
theorem cd_i110_106 : cd_I 110 106 = some (.bipush 99, 0, 0) := by decide +kernel
theorem cd_i110_108 : cd_I 110 108 = some (.invokevirtual 145, 111, 7) := by decide +kernel
theorem cd_i110_111 : cd_I 110 111 = some (.bastore, 0, 0) := by decide +kernel
theorem cd_i110_112 : cd_I 110 112 = some (.aload_n 0, 0, 0) := by decide +kernel
theorem cd_i110_113 : cd_I 110 113 = some (.getfield 33, 11, 11) := by decide +kernel
theorem cd_i110_116 : cd_I 110 116 = some (.iload_n 1, 0, 0) := by decide +kernel
theorem cd_i110_117 : cd_I 110 117 = some (.aload_n 0, 0, 0) := by decide +kernel
theorem cd_i110_118 : cd_I 110 118 = some (.invokevirtual 153, 117, 0) := by decide +kernel
theorem cd_i110_121 : cd_I 110 121 = some (.iastore, 0, 0) := by decide +kernel
theorem cd_i110_122 : cd_I 110 122 = some (.aload_n 0, 0, 0) := by decide +kernel
theorem cd_i110_123 : cd_I 110 123 = some (.getfield 24, 11, 8) := by decide +kernel
theorem cd_i110_126 : cd_I 110 126 = some (.iload_n 1, 0, 0) := by decide +kernel
theorem cd_i110_127 : cd_I 110 127 = some (.aload_n 0, 0, 0) := by decide +kernel
theorem cd_i110_128 : cd_I 110 128 = some (.iconst 0, 0, 0) := by decide +kernel
theorem cd_i110_129 : cd_I 110 129 = some (.invokevirtual 105, 105, 1) := by decide +kernel
theorem cd_i110_132 : cd_I 110 132 = some (.bipush 40, 0, 0) := by decide +kernel
theorem cd_i110_134 : cd_I 110 134 = some (.if_icmp .ne 7, 141, 0) := by decide +kernel
theorem cd_i110_137 : cd_I 110 137 = some (.iconst 1, 0, 0) := by decide +kernel
theorem cd_i110_138 : cd_I 110 138 = some (.goto 4, 142, 0) := by decide +kernel
theorem cd_i110_141 : cd_I 110 141 = some (.iconst 0, 0, 0) := by decide +kernel
theorem cd_i110_142 : cd_I 110 142 = some (.iastore, 0, 0) := by decide +kernel
theorem cd_i110_143 : cd_I 110 143 = some (.aload_n 0, 0, 0) := by decide +kernel
theorem cd_i110_144 : cd_I 110 144 = some (.getfield 39, 11, 13) := by decide +kernel
theorem cd_i110_147 : cd_I 110 147 = some (.iload_n 1, 0, 0) := by decide +kernel
theorem cd_i110_148 : cd_I 110 148 = some (.iconst 0, 0, 0) := by decide +kernel
theorem cd_i110_149 : cd_I 110 149 = some (.iastore, 0, 0) := by decide +kernel
theorem cd_i110_150 : cd_I 110 150 = some (.aload_n 0, 0, 0) := by decide +kernel
theorem cd_i110_151 : cd_I 110 151 = some (.getfield 24, 11, 8) := by decide +kernel
theorem cd_i110_154 : cd_I 110 154 = some (.iload_n 1, 0, 0) := by decide +kernel
theorem cd_i110_155 : cd_I 110 155 = some (.iaload, 0, 0) := by decide +kernel
theorem cd_i110_156 : cd_I 110 156 = some (.iconst 1, 0, 0) := by decide +kernel
theorem cd_i110_157 : cd_I 110 157 = some (.if_icmp .ne 8, 165, 0) := by decide +kernel
theorem cd_i110_160 : cd_I 110 160 = some (.aload_n 0, 0, 0) := by decide +kernel
theorem cd_i110_161 : cd_I 110 161 = some (.iload_n 1, 0, 0) := by decide +kernel
theorem cd_i110_162 : cd_I 110 162 = some (.invokevirtual 149, 112, 1) := by decide +kernel
theorem cd_i110_165 : cd_I 110 165 = some (.aload_n 0, 0, 0) := by decide +kernel
theorem cd_i110_166 : cd_I 110 166 = some (.bipush 58, 0, 0) := by decide +kernel
theorem cd_i110_168 : cd_I 110 168 = some (.invokevirtual 138, 109, 1) := by decide +kernel
theorem cd_i110_171 : cd_I 110 171 = some (.aload_n 0, 0, 0) := by decide +kernel
theorem cd_i110_172 : cd_I 110 172 = some (.getfield 36, 11, 12) := by decide +kernel
theorem cd_i110_175 : cd_I 110 175 = some (.iload_n 1, 0, 0) := by decide +kernel
theorem cd_i110_176 : cd_I 110 176 = some (.aload_n 0, 0, 0) := by decide +kernel
theorem cd_i110_177 : cd_I 110 177 = some (.getfield 101, 11, 4) := by decide +kernel
theorem cd_i110_180 : cd_I 110 180 = some (.ifCond .eq 10, 190, 0) := by decide +kernel
theorem cd_i110_183 : cd_I 110 183 = some (.aload_n 0, 0, 0) := by decide +kernel
theorem cd_i110_184 : cd_I 110 184 = some (.invokevirtual 142, 113, 0) := by decide +kernel
theorem cd_i110_187 : cd_I 110 187 = some (.goto 4, 191, 0) := by decide +kernel
theorem cd_i110_190 : cd_I 110 190 = some (.iconst 0, 0, 0) := by decide +kernel
theorem cd_i110_191 : cd_I 110 191 = some (.iastore, 0, 0) := by decide +kernel
theorem cd_i110_192 : cd_I 110 192 = some (.return_, 0, 0) := by decide +kernel
theorem cd_i111_0 : cd_I 111 0 = some (.aload_n 0, 0, 0) := by decide +kernel
theorem cd_i111_1 : cd_I 111 1 = some (.iconst 0, 0, 0) := by decide +kernel
theorem cd_i111_2 : cd_I 111 2 = some (.invokevirtual 105, 105, 1) := by decide +kernel
theorem cd_i111_5 : cd_I 111 5 = some (.iload_n 2, 0, 0) := by decide +kernel
theorem cd_i111_6 : cd_I 111 6 = some (.if_icmp .ne 36, 42, 0) := by decide +kernel
theorem cd_i111_9 : cd_I 111 9 = some (.aload_n 0, 0, 0) := by decide +kernel
theorem cd_i111_10 : cd_I 111 10 = some (.iconst 1, 0, 0) := by decide +kernel
theorem cd_i111_11 : cd_I 111 11 = some (.invokevirtual 105, 105, 1) := by decide +kernel
theorem cd_i111_14 : cd_I 111 14 = some (.iload_n 3, 0, 0) := by decide +kernel
theorem cd_i111_15 : cd_I 111 15 = some (.if_icmp .ne 27, 42, 0) := by decide +kernel
theorem cd_i111_18 : cd_I 111 18 = some (.aload_n 0, 0, 0) := by decide +kernel
theorem cd_i111_19 : cd_I 111 19 = some (.iconst 2, 0, 0) := by decide +kernel
theorem cd_i111_20 : cd_I 111 20 = some (.invokevirtual 105, 105, 1) := by decide +kernel
theorem cd_i111_23 : cd_I 111 23 = some (.iload 4, 0, 0) := by decide +kernel
theorem cd_i111_25 : cd_I 111 25 = some (.if_icmp .ne 17, 42, 0) := by decide +kernel
theorem cd_i111_28 : cd_I 111 28 = some (.aload_n 0, 0, 0) := by decide +kernel
theorem cd_i111_29 : cd_I 111 29 = some (.iconst 3, 0, 0) := by decide +kernel
theorem cd_i111_30 : cd_I 111 30 = some (.invokevirtual 105, 105, 1) := by decide +kernel
theorem cd_i111_33 : cd_I 111 33 = some (.iload 5, 0, 0) := by decide +kernel
theorem cd_i111_35 : cd_I 111 35 = some (.if_icmp .ne 7, 42, 0) := by decide +kernel
theorem cd_i111_38 : cd_I 111 38 = some (.iconst 1, 0, 0) := by decide +kernel
theorem cd_i111_39 : cd_I 111 39 = some (.goto 4, 43, 0) := by decide +kernel
theorem cd_i111_42 : cd_I 111 42 = some (.iconst 0, 0, 0) := by decide +kernel
theorem cd_i111_43 : cd_I 111 43 = some (.istore 8, 0, 0) := by decide +kernel
theorem cd_i111_45 : cd_I 111 45 = some (.iload 8, 0, 0) := by decide +kernel
theorem cd_i111_47 : cd_I 111 47 = some (.ifCond .eq 38, 85, 0) := by decide +kernel
theorem cd_i111_50 : cd_I 111 50 = some (.iload_n 1, 0, 0) := by decide +kernel
theorem cd_i111_51 : cd_I 111 51 = some (.iconst 5, 0, 0) := by decide +kernel
theorem cd_i111_52 : cd_I 111 52 = some (.if_icmp .lt 13, 65, 0) := by decide +kernel
theorem cd_i111_55 : cd_I 111 55 = some (.aload_n 0, 0, 0) := by decide +kernel
theorem cd_i111_56 : cd_I 111 56 = some (.iconst 4, 0, 0) := by decide +kernel
theorem cd_i111_57 : cd_I 111 57 = some (.invokevirtual 105, 105, 1) := by decide +kernel
theorem cd_i111_60 : cd_I 111 60 = some (.iload 6, 0, 0) := by decide +kernel
theorem cd_i111_62 : cd_I 111 62 = some (.if_icmp .ne 23, 85, 0) := by decide +kernel
theorem cd_i111_65 : cd_I 111 65 = some (.iload_n 1, 0, 0) := by decide +kernel
theorem cd_i111_66 : cd_I 111 66 = some (.bipush 6, 0, 0) := by decide +kernel
theorem cd_i111_68 : cd_I 111 68 = some (.if_icmp .lt 13, 81, 0) := by decide +kernel
theorem cd_i111_71 : cd_I 111 71 = some (.aload_n 0, 0, 0) := by decide +kernel
theorem cd_i111_72 : cd_I 111 72 = some (.iconst 5, 0, 0) := by decide +kernel
theorem cd_i111_73 : cd_I 111 73 = some (.invokevirtual 105, 105, 1) := by decide +kernel
theorem cd_i111_76 : cd_I 111 76 = some (.iload 7, 0, 0) := by decide +kernel
theorem cd_i111_78 : cd_I 111 78 = some (.if_icmp .ne 7, 85, 0) := by decide +kernel
theorem cd_i111_81 : cd_I 111 81 = some (.iconst 1, 0, 0) := by decide +kernel
theorem cd_i111_82 : cd_I 111 82 = some (.goto 4, 86, 0) := by decide +kernel
theorem cd_i111_85 : cd_I 111 85 = some (.iconst 0, 0, 0) := by decide +kernel
theorem cd_i111_86 : cd_I 111 86 = some (.istore 8, 0, 0) := by decide +kernel
theorem cd_i111_88 : cd_I 111 88 = some (.iload 8, 0, 0) := by decide +kernel
theorem cd_i111_90 : cd_I 111 90 = some (.ifCond .eq 52, 142, 0) := by decide +kernel
theorem cd_i111_93 : cd_I 111 93 = some (.iload_n 1, 0, 0) := by decide +kernel
theorem cd_i111_94 : cd_I 111 94 = some (.bipush 7, 0, 0) := by decide +kernel
theorem cd_i111_96 : cd_I 111 96 = some (.if_icmp .lt 42, 138, 0) := by decide +kernel
theorem cd_i111_99 : cd_I 111 99 = some (.aload_n 0, 0, 0) := by decide +kernel
theorem cd_i111_100 : cd_I 111 100 = some (.bipush 6, 0, 0) := by decide +kernel
theorem cd_i111_102 : cd_I 111 102 = some (.invokevirtual 105, 105, 1) := by decide +kernel
theorem cd_i111_105 : cd_I 111 105 = some (.iload_n 1, 0, 0) := by decide +kernel
theorem cd_i111_106 : cd_I 111 106 = some (.bipush 7, 0, 0) := by decide +kernel
theorem cd_i111_108 : cd_I 111 108 = some (.if_icmp .ne 8, 116, 0) := by decide +kernel
theorem cd_i111_111 : cd_I 111 111 = some (.bipush 32, 0, 0) := by decide +kernel
theorem cd_i111_113 : cd_I 111 113 = some (.goto 5, 118, 0) := by decide +kernel
theorem cd_i111_116 : cd_I 111 116 = some (.bipush 101, 0, 0) := by decide +kernel
theorem cd_i111_118 : cd_I 111 118 = some (.if_icmp .ne 24, 142, 0) := by decide +kernel
theorem cd_i111_121 : cd_I 111 121 = some (.iload_n 1, 0, 0) := by decide +kernel
theorem cd_i111_122 : cd_I 111 122 = some (.bipush 8, 0, 0) := by decide +kernel
theorem cd_i111_124 : cd_I 111 124 = some (.if_icmp .lt 14, 138, 0) := by decide +kernel
theorem cd_i111_127 : cd_I 111 127 = some (.aload_n 0, 0, 0) := by decide +kernel
theorem cd_i111_128 : cd_I 111 128 = some (.bipush 7, 0, 0) := by decide +kernel
theorem cd_i111_130 : cd_I 111 130 = some (.invokevirtual 105, 105, 1) := by decide +kernel
theorem cd_i111_133 : cd_I 111 133 = some (.bipush 32, 0, 0) := by decide +kernel
theorem cd_i111_135 : cd_I 111 135 = some (.if_icmp .ne 7, 142, 0) := by decide +kernel
theorem cd_i111_138 : cd_I 111 138 = some (.iconst 1, 0, 0) := by decide +kernel
theorem cd_i111_139 : cd_I 111 139 = some (.goto 4, 143, 0) := by decide +kernel
theorem cd_i111_142 : cd_I 111 142 = some (.iconst 0, 0, 0) := by decide +kernel
theorem cd_i111_143 : cd_I 111 143 = some (.istore 8, 0, 0) := by decide +kernel
theorem cd_i111_145 : cd_I 111 145 = some (.aload_n 0, 0, 0) := by decide +kernel
theorem cd_i111_146 : cd_I 111 146 = some (.iload 8, 0, 0) := by decide +kernel
theorem cd_i111_148 : cd_I 111 148 = some (.ifCond .eq 12, 160, 0) := by decide +kernel
theorem cd_i111_151 : cd_I 111 151 = some (.aload_n 0, 0, 0) := by decide +kernel
theorem cd_i111_152 : cd_I 111 152 = some (.getfield 98, 11, 3) := by decide +kernel
theorem cd_i111_155 : cd_I 111 155 = some (.iload_n 1, 0, 0) := by decide +kernel
theorem cd_i111_156 : cd_I 111 156 = some (.iadd, 0, 0) := by decide +kernel
theorem cd_i111_157 : cd_I 111 157 = some (.goto 7, 164, 0) := by decide +kernel
theorem cd_i111_160 : cd_I 111 160 = some (.aload_n 0, 0, 0) := by decide +kernel
theorem cd_i111_161 : cd_I 111 161 = some (.getfield 98, 11, 3) := by decide +kernel
theorem cd_i111_164 : cd_I 111 164 = some (.putfield 98, 11, 3) := by decide +kernel
theorem cd_i111_167 : cd_I 111 167 = some (.iload 8, 0, 0) := by decide +kernel
theorem cd_i111_169 : cd_I 111 169 = some (.ireturn, 0, 0) := by decide +kernel
theorem cd_i112_0 : cd_I 112 0 = some (.aload_n 0, 0, 0) := by decide +kernel
theorem cd_i112_1 : cd_I 112 1 = some (.getfield 39, 11, 13) := by decide +kernel
theorem cd_i112_4 : cd_I 112 4 = some (.iload_n 1, 0, 0) := by decide +kernel
theorem cd_i112_5 : cd_I 112 5 = some (.iconst 0, 0, 0) := by decide +kernel
theorem cd_i112_6 : cd_I 112 6 = some (.iastore, 0, 0) := by decide +kernel
theorem cd_i112_7 : cd_I 112 7 = some (.aload_n 0, 0, 0) := by decide +kernel
theorem cd_i112_8 : cd_I 112 8 = some (.bipush 40, 0, 0) := by decide +kernel
theorem cd_i112_10 : cd_I 112 10 = some (.invokevirtual 138, 109, 1) := by decide +kernel
theorem cd_i112_13 : cd_I 112 13 = some (.aload_n 0, 0, 0) := by decide +kernel
theorem cd_i112_14 : cd_I 112 14 = some (.getfield 101, 11, 4) := by decide +kernel
theorem cd_i112_17 : cd_I 112 17 = some (.ifCond .eq 98, 115, 0) := by decide +kernel
theorem cd_i112_20 : cd_I 112 20 = some (.aload_n 0, 0, 0) := by decide +kernel
theorem cd_i112_21 : cd_I 112 21 = some (.bipush 41, 0, 0) := by decide +kernel
theorem cd_i112_23 : cd_I 112 23 = some (.invokevirtual 109, 108, 1) := by decide +kernel
theorem cd_i112_26 : cd_I 112 26 = some (.ifCond .ne 89, 115, 0) := by decide +kernel
theorem cd_i112_29 : cd_I 112 29 = some (.aload_n 0, 0, 0) := by decide +kernel
theorem cd_i112_30 : cd_I 112 30 = some (.getfield 39, 11, 13) := by decide +kernel
theorem cd_i112_33 : cd_I 112 33 = some (.iload_n 1, 0, 0) := by decide +kernel
theorem cd_i112_34 : cd_I 112 34 = some (.iaload, 0, 0) := by decide +kernel
theorem cd_i112_35 : cd_I 112 35 = some (.ifCond .le 9, 44, 0) := by decide +kernel
theorem cd_i112_38 : cd_I 112 38 = some (.aload_n 0, 0, 0) := by decide +kernel
theorem cd_i112_39 : cd_I 112 39 = some (.bipush 44, 0, 0) := by decide +kernel
theorem cd_i112_41 : cd_I 112 41 = some (.invokevirtual 138, 109, 1) := by decide +kernel
theorem cd_i112_44 : cd_I 112 44 = some (.aload_n 0, 0, 0) := by decide +kernel
theorem cd_i112_45 : cd_I 112 45 = some (.aload_n 0, 0, 0) := by decide +kernel
theorem cd_i112_46 : cd_I 112 46 = some (.getfield 39, 11, 13) := by decide +kernel
theorem cd_i112_49 : cd_I 112 49 = some (.iload_n 1, 0, 0) := by decide +kernel
theorem cd_i112_50 : cd_I 112 50 = some (.iaload, 0, 0) := by decide +kernel
theorem cd_i112_51 : cd_I 112 51 = some (.iconst 2, 0, 0) := by decide +kernel
theorem cd_i112_52 : cd_I 112 52 = some (.if_icmp .ge 7, 59, 0) := by decide +kernel
theorem cd_i112_55 : cd_I 112 55 = some (.iconst 1, 0, 0) := by decide +kernel
theorem cd_i112_56 : cd_I 112 56 = some (.goto 4, 60, 0) := by decide +kernel
theorem cd_i112_59 : cd_I 112 59 = some (.iconst 0, 0, 0) := by decide +kernel
theorem cd_i112_60 : cd_I 112 60 = some (.invokevirtual 113, 107, 1) := by decide +kernel
theorem cd_i112_63 : cd_I 112 63 = some (.aload_n 0, 0, 0) := by decide +kernel
theorem cd_i112_64 : cd_I 112 64 = some (.getfield 101, 11, 4) := by decide +kernel
theorem cd_i112_67 : cd_I 112 67 = some (.ifCond .eq 10, 77, 0) := by decide +kernel
theorem cd_i112_70 : cd_I 112 70 = some (.aload_n 0, 0, 0) := by decide +kernel
theorem cd_i112_71 : cd_I 112 71 = some (.invokevirtual 142, 113, 0) := by decide +kernel
theorem cd_i112_74 : cd_I 112 74 = some (.goto 4, 78, 0) := by decide +kernel
theorem cd_i112_77 : cd_I 112 77 = some (.iconst 0, 0, 0) := by decide +kernel
theorem cd_i112_78 : cd_I 112 78 = some (.istore_n 2, 0, 0) := by decide +kernel
theorem cd_i112_79 : cd_I 112 79 = some (.aload_n 0, 0, 0) := by decide +kernel
theorem cd_i112_80 : cd_I 112 80 = some (.getfield 101, 11, 4) := by decide +kernel
theorem cd_i112_83 : cd_I 112 83 = some (.ifCond .eq 19, 102, 0) := by decide +kernel
theorem cd_i112_86 : cd_I 112 86 = some (.aload_n 0, 0, 0) := by decide +kernel
theorem cd_i112_87 : cd_I 112 87 = some (.getfield 42, 11, 14) := by decide +kernel
theorem cd_i112_90 : cd_I 112 90 = some (.iconst 2, 0, 0) := by decide +kernel
theorem cd_i112_91 : cd_I 112 91 = some (.iload_n 1, 0, 0) := by decide +kernel
theorem cd_i112_92 : cd_I 112 92 = some (.imul, 0, 0) := by decide +kernel
theorem cd_i112_93 : cd_I 112 93 = some (.aload_n 0, 0, 0) := by decide +kernel
theorem cd_i112_94 : cd_I 112 94 = some (.getfield 39, 11, 13) := by decide +kernel
theorem cd_i112_97 : cd_I 112 97 = some (.iload_n 1, 0, 0) := by decide +kernel
theorem cd_i112_98 : cd_I 112 98 = some (.iaload, 0, 0) := by decide +kernel
theorem cd_i112_99 : cd_I 112 99 = some (.iadd, 0, 0) := by decide +kernel
theorem cd_i112_100 : cd_I 112 100 = some (.iload_n 2, 0, 0) := by decide +kernel
theorem cd_i112_101 : cd_I 112 101 = some (.iastore, 0, 0) := by decide +kernel
theorem cd_i112_102 : cd_I 112 102 = some (.aload_n 0, 0, 0) := by decide +kernel
theorem cd_i112_103 : cd_I 112 103 = some (.getfield 39, 11, 13) := by decide +kernel
theorem cd_i112_106 : cd_I 112 106 = some (.iload_n 1, 0, 0) := by decide +kernel
theorem cd_i112_107 : cd_I 112 107 = some (.dup2, 0, 0) := by decide +kernel
theorem cd_i112_108 : cd_I 112 108 = some (.iaload, 0, 0) := by decide +kernel
theorem cd_i112_109 : cd_I 112 109 = some (.iconst 1, 0, 0) := by decide +kernel
theorem cd_i112_110 : cd_I 112 110 = some (.iadd, 0, 0) := by decide +kernel
theorem cd_i112_111 : cd_I 112 111 = some (.iastore, 0, 0) := by decide +kernel
theorem cd_i112_112 : cd_I 112 112 = some (.goto (-99), 13, 0) := by decide +kernel
theorem cd_i112_115 : cd_I 112 115 = some (.return_, 0, 0) := by decide +kernel
theorem cd_i113_0 : cd_I 113 0 = some (.aload_n 0, 0, 0) := by decide +kernel
theorem cd_i113_1 : cd_I 113 1 = some (.iconst 0, 0, 0) := by decide +kernel
theorem cd_i113_2 : cd_I 113 2 = some (.invokevirtual 105, 105, 1) := by decide +kernel
theorem cd_i113_5 : cd_I 113 5 = some (.invokestatic 132, 106, 1) := by decide +kernel
theorem cd_i113_8 : cd_I 113 8 = some (.ifCond .eq 10, 18, 0) := by decide +kernel
theorem cd_i113_11 : cd_I 113 11 = some (.iconst 3, 0, 0) := by decide +kernel
theorem cd_i113_12 : cd_I 113 12 = some (.aload_n 0, 0, 0) := by decide +kernel
theorem cd_i113_13 : cd_I 113 13 = some (.invokevirtual 135, 104, 0) := by decide +kernel
theorem cd_i113_16 : cd_I 113 16 = some (.iadd, 0, 0) := by decide +kernel
theorem cd_i113_17 : cd_I 113 17 = some (.ireturn, 0, 0) := by decide +kernel
theorem cd_i113_18 : cd_I 113 18 = some (.aload_n 0, 0, 0) := by decide +kernel
theorem cd_i113_19 : cd_I 113 19 = some (.invokevirtual 124, 114, 0) := by decide +kernel
theorem cd_i113_22 : cd_I 113 22 = some (.istore_n 1, 0, 0) := by decide +kernel
theorem cd_i113_23 : cd_I 113 23 = some (.iload_n 1, 0, 0) := by decide +kernel
theorem cd_i113_24 : cd_I 113 24 = some (.bipush 105, 0, 0) := by decide +kernel
theorem cd_i113_26 : cd_I 113 26 = some (.bipush 110, 0, 0) := by decide +kernel
theorem cd_i113_28 : cd_I 113 28 = some (.bipush 116, 0, 0) := by decide +kernel
theorem cd_i113_30 : cd_I 113 30 = some (.iconst 0, 0, 0) := by decide +kernel
theorem cd_i113_31 : cd_I 113 31 = some (.invokestatic 120, 116, 4) := by decide +kernel
theorem cd_i113_34 : cd_I 113 34 = some (.if_icmp .ne 7, 41, 0) := by decide +kernel
theorem cd_i113_37 : cd_I 113 37 = some (.iconst 0, 0, 0) := by decide +kernel
theorem cd_i113_38 : cd_I 113 38 = some (.goto 42, 80, 0) := by decide +kernel
theorem cd_i113_41 : cd_I 113 41 = some (.iload_n 1, 0, 0) := by decide +kernel
theorem cd_i113_42 : cd_I 113 42 = some (.bipush 108, 0, 0) := by decide +kernel
theorem cd_i113_44 : cd_I 113 44 = some (.bipush 111, 0, 0) := by decide +kernel
theorem cd_i113_46 : cd_I 113 46 = some (.bipush 110, 0, 0) := by decide +kernel
theorem cd_i113_48 : cd_I 113 48 = some (.bipush 103, 0, 0) := by decide +kernel
theorem cd_i113_50 : cd_I 113 50 = some (.invokestatic 120, 116, 4) := by decide +kernel
theorem cd_i113_53 : cd_I 113 53 = some (.if_icmp .ne 7, 60, 0) := by decide +kernel
theorem cd_i113_56 : cd_I 113 56 = some (.iconst 1, 0, 0) := by decide +kernel
theorem cd_i113_57 : cd_I 113 57 = some (.goto 23, 80, 0) := by decide +kernel
theorem cd_i113_60 : cd_I 113 60 = some (.iload_n 1, 0, 0) := by decide +kernel
theorem cd_i113_61 : cd_I 113 61 = some (.bipush 98, 0, 0) := by decide +kernel
theorem cd_i113_63 : cd_I 113 63 = some (.bipush 111, 0, 0) := by decide +kernel
theorem cd_i113_65 : cd_I 113 65 = some (.bipush 111, 0, 0) := by decide +kernel
theorem cd_i113_67 : cd_I 113 67 = some (.bipush 108, 0, 0) := by decide +kernel
theorem cd_i113_69 : cd_I 113 69 = some (.invokestatic 120, 116, 4) := by decide +kernel
theorem cd_i113_72 : cd_I 113 72 = some (.if_icmp .ne 7, 79, 0) := by decide +kernel
theorem cd_i113_75 : cd_I 113 75 = some (.iconst 2, 0, 0) := by decide +kernel
theorem cd_i113_76 : cd_I 113 76 = some (.goto 4, 80, 0) := by decide +kernel
theorem cd_i113_79 : cd_I 113 79 = some (.iconst (-1), 0, 0) := by decide +kernel
theorem cd_i113_80 : cd_I 113 80 = some (.istore_n 2, 0, 0) := by decide +kernel
theorem cd_i113_81 : cd_I 113 81 = some (.aload_n 0, 0, 0) := by decide +kernel
theorem cd_i113_82 : cd_I 113 82 = some (.iload_n 2, 0, 0) := by decide +kernel
theorem cd_i113_83 : cd_I 113 83 = some (.iconst (-1), 0, 0) := by decide +kernel
theorem cd_i113_84 : cd_I 113 84 = some (.if_icmp .eq 7, 91, 0) := by decide +kernel
theorem cd_i113_87 : cd_I 113 87 = some (.iconst 1, 0, 0) := by decide +kernel
theorem cd_i113_88 : cd_I 113 88 = some (.goto 4, 92, 0) := by decide +kernel
theorem cd_i113_91 : cd_I 113 91 = some (.iconst 0, 0, 0) := by decide +kernel
theorem cd_i113_92 : cd_I 113 92 = some (.invokevirtual 113, 107, 1) := by decide +kernel
theorem cd_i113_95 : cd_I 113 95 = some (.iload_n 2, 0, 0) := by decide +kernel
theorem cd_i113_96 : cd_I 113 96 = some (.ireturn, 0, 0) := by decide +kernel
theorem cd_i114_0 : cd_I 114 0 = some (.iconst 0, 0, 0) := by decide +kernel
theorem cd_i114_1 : cd_I 114 1 = some (.istore_n 1, 0, 0) := by decide +kernel
theorem cd_i114_2 : cd_I 114 2 = some (.iconst 0, 0, 0) := by decide +kernel
theorem cd_i114_3 : cd_I 114 3 = some (.istore_n 2, 0, 0) := by decide +kernel
theorem cd_i114_4 : cd_I 114 4 = some (.aload_n 0, 0, 0) := by decide +kernel
theorem cd_i114_5 : cd_I 114 5 = some (.iconst 0, 0, 0) := by decide +kernel
theorem cd_i114_6 : cd_I 114 6 = some (.invokevirtual 105, 105, 1) := by decide +kernel
theorem cd_i114_9 : cd_I 114 9 = some (.invokestatic 117, 115, 1) := by decide +kernel
theorem cd_i114_12 : cd_I 114 12 = some (.ifCond .eq 42, 54, 0) := by decide +kernel
theorem cd_i114_15 : cd_I 114 15 = some (.iload_n 2, 0, 0) := by decide +kernel
theorem cd_i114_16 : cd_I 114 16 = some (.iconst 4, 0, 0) := by decide +kernel
theorem cd_i114_17 : cd_I 114 17 = some (.if_icmp .ge 19, 36, 0) := by decide +kernel
theorem cd_i114_20 : cd_I 114 20 = some (.bipush 27, 0, 0) := by decide +kernel
theorem cd_i114_22 : cd_I 114 22 = some (.iload_n 1, 0, 0) := by decide +kernel
theorem cd_i114_23 : cd_I 114 23 = some (.imul, 0, 0) := by decide +kernel
theorem cd_i114_24 : cd_I 114 24 = some (.aload_n 0, 0, 0) := by decide +kernel
theorem cd_i114_25 : cd_I 114 25 = some (.iconst 0, 0, 0) := by decide +kernel
theorem cd_i114_26 : cd_I 114 26 = some (.invokevirtual 105, 105, 1) := by decide +kernel
theorem cd_i114_29 : cd_I 114 29 = some (.iadd, 0, 0) := by decide +kernel
theorem cd_i114_30 : cd_I 114 30 = some (.bipush 96, 0, 0) := by decide +kernel
theorem cd_i114_32 : cd_I 114 32 = some (.isub, 0, 0) := by decide +kernel
theorem cd_i114_33 : cd_I 114 33 = some (.goto 4, 37, 0) := by decide +kernel
theorem cd_i114_36 : cd_I 114 36 = some (.iconst 0, 0, 0) := by decide +kernel
theorem cd_i114_37 : cd_I 114 37 = some (.istore_n 1, 0, 0) := by decide +kernel
theorem cd_i114_38 : cd_I 114 38 = some (.iinc 2 1, 0, 0) := by decide +kernel
theorem cd_i114_41 : cd_I 114 41 = some (.aload_n 0, 0, 0) := by decide +kernel
theorem cd_i114_42 : cd_I 114 42 = some (.dup, 0, 0) := by decide +kernel
theorem cd_i114_43 : cd_I 114 43 = some (.getfield 98, 11, 3) := by decide +kernel
theorem cd_i114_46 : cd_I 114 46 = some (.iconst 1, 0, 0) := by decide +kernel
theorem cd_i114_47 : cd_I 114 47 = some (.iadd, 0, 0) := by decide +kernel
theorem cd_i114_48 : cd_I 114 48 = some (.putfield 98, 11, 3) := by decide +kernel
theorem cd_i114_51 : cd_I 114 51 = some (.goto (-47), 4, 0) := by decide +kernel
theorem cd_i114_54 : cd_I 114 54 = some (.iload_n 2, 0, 0) := by decide +kernel
theorem cd_i114_55 : cd_I 114 55 = some (.iconst 4, 0, 0) := by decide +kernel
theorem cd_i114_56 : cd_I 114 56 = some (.if_icmp .le 7, 63, 0) := by decide +kernel
theorem cd_i114_59 : cd_I 114 59 = some (.iconst 0, 0, 0) := by decide +kernel
theorem cd_i114_60 : cd_I 114 60 = some (.goto 4, 64, 0) := by decide +kernel
theorem cd_i114_63 : cd_I 114 63 = some (.iload_n 1, 0, 0) := by decide +kernel
theorem cd_i114_64 : cd_I 114 64 = some (.ireturn, 0, 0) := by decide +kernel
theorem cd_i115_0 : cd_I 115 0 = some (.iload_n 0, 0, 0) := by decide +kernel
theorem cd_i115_1 : cd_I 115 1 = some (.bipush 97, 0, 0) := by decide +kernel
theorem cd_i115_3 : cd_I 115 3 = some (.if_icmp .lt 13, 16, 0) := by decide +kernel
theorem cd_i115_6 : cd_I 115 6 = some (.iload_n 0, 0, 0) := by decide +kernel
theorem cd_i115_7 : cd_I 115 7 = some (.bipush 122, 0, 0) := by decide +kernel
theorem cd_i115_9 : cd_I 115 9 = some (.if_icmp .gt 7, 16, 0) := by decide +kernel
theorem cd_i115_12 : cd_I 115 12 = some (.iconst 1, 0, 0) := by decide +kernel
theorem cd_i115_13 : cd_I 115 13 = some (.goto 4, 17, 0) := by decide +kernel
theorem cd_i115_16 : cd_I 115 16 = some (.iconst 0, 0, 0) := by decide +kernel
theorem cd_i115_17 : cd_I 115 17 = some (.ireturn, 0, 0) := by decide +kernel
theorem cd_i116_0 : cd_I 116 0 = some (.iload_n 0, 0, 0) := by decide +kernel
theorem cd_i116_1 : cd_I 116 1 = some (.bipush 96, 0, 0) := by decide +kernel
theorem cd_i116_3 : cd_I 116 3 = some (.isub, 0, 0) := by decide +kernel
theorem cd_i116_4 : cd_I 116 4 = some (.istore 4, 0, 0) := by decide +kernel
theorem cd_i116_6 : cd_I 116 6 = some (.iload_n 1, 0, 0) := by decide +kernel
theorem cd_i116_7 : cd_I 116 7 = some (.ifCond .le 16, 23, 0) := by decide +kernel
theorem cd_i116_10 : cd_I 116 10 = some (.bipush 27, 0, 0) := by decide +kernel
theorem cd_i116_12 : cd_I 116 12 = some (.iload 4, 0, 0) := by decide +kernel
theorem cd_i116_14 : cd_I 116 14 = some (.imul, 0, 0) := by decide +kernel
theorem cd_i116_15 : cd_I 116 15 = some (.iload_n 1, 0, 0) := by decide +kernel
theorem cd_i116_16 : cd_I 116 16 = some (.iadd, 0, 0) := by decide +kernel
theorem cd_i116_17 : cd_I 116 17 = some (.bipush 96, 0, 0) := by decide +kernel
theorem cd_i116_19 : cd_I 116 19 = some (.isub, 0, 0) := by decide +kernel
theorem cd_i116_20 : cd_I 116 20 = some (.goto 5, 25, 0) := by decide +kernel
theorem cd_i116_23 : cd_I 116 23 = some (.iload 4, 0, 0) := by decide +kernel
theorem cd_i116_25 : cd_I 116 25 = some (.istore 4, 0, 0) := by decide +kernel
theorem cd_i116_27 : cd_I 116 27 = some (.iload_n 2, 0, 0) := by decide +kernel
theorem cd_i116_28 : cd_I 116 28 = some (.ifCond .le 16, 44, 0) := by decide +kernel
theorem cd_i116_31 : cd_I 116 31 = some (.bipush 27, 0, 0) := by decide +kernel
theorem cd_i116_33 : cd_I 116 33 = some (.iload 4, 0, 0) := by decide +kernel
theorem cd_i116_35 : cd_I 116 35 = some (.imul, 0, 0) := by decide +kernel
theorem cd_i116_36 : cd_I 116 36 = some (.iload_n 2, 0, 0) := by decide +kernel
theorem cd_i116_37 : cd_I 116 37 = some (.iadd, 0, 0) := by decide +kernel
theorem cd_i116_38 : cd_I 116 38 = some (.bipush 96, 0, 0) := by decide +kernel
theorem cd_i116_40 : cd_I 116 40 = some (.isub, 0, 0) := by decide +kernel
theorem cd_i116_41 : cd_I 116 41 = some (.goto 5, 46, 0) := by decide +kernel
theorem cd_i116_44 : cd_I 116 44 = some (.iload 4, 0, 0) := by decide +kernel
theorem cd_i116_46 : cd_I 116 46 = some (.istore 4, 0, 0) := by decide +kernel
theorem cd_i116_48 : cd_I 116 48 = some (.iload_n 3, 0, 0) := by decide +kernel
theorem cd_i116_49 : cd_I 116 49 = some (.ifCond .le 16, 65, 0) := by decide +kernel
theorem cd_i116_52 : cd_I 116 52 = some (.bipush 27, 0, 0) := by decide +kernel
theorem cd_i116_54 : cd_I 116 54 = some (.iload 4, 0, 0) := by decide +kernel
theorem cd_i116_56 : cd_I 116 56 = some (.imul, 0, 0) := by decide +kernel
theorem cd_i116_57 : cd_I 116 57 = some (.iload_n 3, 0, 0) := by decide +kernel
theorem cd_i116_58 : cd_I 116 58 = some (.iadd, 0, 0) := by decide +kernel
theorem cd_i116_59 : cd_I 116 59 = some (.bipush 96, 0, 0) := by decide +kernel
theorem cd_i116_61 : cd_I 116 61 = some (.isub, 0, 0) := by decide +kernel
theorem cd_i116_62 : cd_I 116 62 = some (.goto 5, 67, 0) := by decide +kernel
theorem cd_i116_65 : cd_I 116 65 = some (.iload 4, 0, 0) := by decide +kernel
theorem cd_i116_67 : cd_I 116 67 = some (.ireturn, 0, 0) := by decide +kernel
theorem cd_i117_0 : cd_I 117 0 = some (.aload_n 0, 0, 0) := by decide +kernel
theorem cd_i117_1 : cd_I 117 1 = some (.invokevirtual 124, 114, 0) := by decide +kernel
theorem cd_i117_4 : cd_I 117 4 = some (.istore_n 1, 0, 0) := by decide +kernel
theorem cd_i117_5 : cd_I 117 5 = some (.aload_n 0, 0, 0) := by decide +kernel
theorem cd_i117_6 : cd_I 117 6 = some (.iload_n 1, 0, 0) := by decide +kernel
theorem cd_i117_7 : cd_I 117 7 = some (.ifCond .le 14, 21, 0) := by decide +kernel
theorem cd_i117_10 : cd_I 117 10 = some (.iload_n 1, 0, 0) := by decide +kernel
theorem cd_i117_11 : cd_I 117 11 = some (.invokestatic 128, 118, 1) := by decide +kernel
theorem cd_i117_14 : cd_I 117 14 = some (.ifCond .ne 7, 21, 0) := by decide +kernel
theorem cd_i117_17 : cd_I 117 17 = some (.iconst 1, 0, 0) := by decide +kernel
theorem cd_i117_18 : cd_I 117 18 = some (.goto 4, 22, 0) := by decide +kernel
theorem cd_i117_21 : cd_I 117 21 = some (.iconst 0, 0, 0) := by decide +kernel
theorem cd_i117_22 : cd_I 117 22 = some (.invokevirtual 113, 107, 1) := by decide +kernel
theorem cd_i117_25 : cd_I 117 25 = some (.iload_n 1, 0, 0) := by decide +kernel
theorem cd_i117_26 : cd_I 117 26 = some (.ireturn, 0, 0) := by decide +kernel
theorem cd_i118_0 : cd_I 118 0 = some (.iload_n 0, 0, 0) := by decide +kernel
theorem cd_i118_1 : cd_I 118 1 = some (.bipush 110, 0, 0) := by decide +kernel
theorem cd_i118_3 : cd_I 118 3 = some (.bipush 101, 0, 0) := by decide +kernel
theorem cd_i118_5 : cd_I 118 5 = some (.bipush 119, 0, 0) := by decide +kernel
theorem cd_i118_7 : cd_I 118 7 = some (.iconst 0, 0, 0) := by decide +kernel
theorem cd_i118_8 : cd_I 118 8 = some (.invokestatic 120, 116, 4) := by decide +kernel
theorem cd_i118_11 : cd_I 118 11 = some (.if_icmp .eq 47, 58, 0) := by decide +kernel
theorem cd_i118_14 : cd_I 118 14 = some (.iload_n 0, 0, 0) := by decide +kernel
theorem cd_i118_15 : cd_I 118 15 = some (.bipush 105, 0, 0) := by decide +kernel
theorem cd_i118_17 : cd_I 118 17 = some (.bipush 110, 0, 0) := by decide +kernel
theorem cd_i118_19 : cd_I 118 19 = some (.bipush 116, 0, 0) := by decide +kernel
theorem cd_i118_21 : cd_I 118 21 = some (.iconst 0, 0, 0) := by decide +kernel
theorem cd_i118_22 : cd_I 118 22 = some (.invokestatic 120, 116, 4) := by decide +kernel
theorem cd_i118_25 : cd_I 118 25 = some (.if_icmp .eq 33, 58, 0) := by decide +kernel
theorem cd_i118_28 : cd_I 118 28 = some (.iload_n 0, 0, 0) := by decide +kernel
theorem cd_i118_29 : cd_I 118 29 = some (.bipush 108, 0, 0) := by decide +kernel
theorem cd_i118_31 : cd_I 118 31 = some (.bipush 111, 0, 0) := by decide +kernel
theorem cd_i118_33 : cd_I 118 33 = some (.bipush 110, 0, 0) := by decide +kernel
theorem cd_i118_35 : cd_I 118 35 = some (.bipush 103, 0, 0) := by decide +kernel
theorem cd_i118_37 : cd_I 118 37 = some (.invokestatic 120, 116, 4) := by decide +kernel
theorem cd_i118_40 : cd_I 118 40 = some (.if_icmp .eq 18, 58, 0) := by decide +kernel
theorem cd_i118_43 : cd_I 118 43 = some (.iload_n 0, 0, 0) := by decide +kernel
theorem cd_i118_44 : cd_I 118 44 = some (.bipush 98, 0, 0) := by decide +kernel
theorem cd_i118_46 : cd_I 118 46 = some (.bipush 111, 0, 0) := by decide +kernel
theorem cd_i118_48 : cd_I 118 48 = some (.bipush 111, 0, 0) := by decide +kernel
theorem cd_i118_50 : cd_I 118 50 = some (.bipush 108, 0, 0) := by decide +kernel
theorem cd_i118_52 : cd_I 118 52 = some (.invokestatic 120, 116, 4) := by decide +kernel
theorem cd_i118_55 : cd_I 118 55 = some (.if_icmp .ne 7, 62, 0) := by decide +kernel
theorem cd_i118_58 : cd_I 118 58 = some (.iconst 1, 0, 0) := by decide +kernel
theorem cd_i118_59 : cd_I 118 59 = some (.goto 4, 63, 0) := by decide +kernel
theorem cd_i118_62 : cd_I 118 62 = some (.iconst 0, 0, 0) := by decide +kernel
theorem cd_i118_63 : cd_I 118 63 = some (.ireturn, 0, 0) := by decide +kernel
theorem cd_i119_0 : cd_I 119 0 = some (.iload_n 2, 0, 0) := by decide +kernel
theorem cd_i119_1 : cd_I 119 1 = some (.istore_n 3, 0, 0) := by decide +kernel
theorem cd_i119_2 : cd_I 119 2 = some (.iload_n 3, 0, 0) := by decide +kernel
theorem cd_i119_3 : cd_I 119 3 = some (.iconst (-1), 0, 0) := by decide +kernel
theorem cd_i119_4 : cd_I 119 4 = some (.if_icmp .eq 131, 135, 0) := by decide +kernel
theorem cd_i119_7 : cd_I 119 7 = some (.bipush 6, 0, 0) := by decide +kernel
theorem cd_i119_9 : cd_I 119 9 = some (.iload_n 3, 0, 0) := by decide +kernel
theorem cd_i119_10 : cd_I 119 10 = some (.imul, 0, 0) := by decide +kernel
theorem cd_i119_11 : cd_I 119 11 = some (.istore 4, 0, 0) := by decide +kernel
theorem cd_i119_13 : cd_I 119 13 = some (.iload 4, 0, 0) := by decide +kernel
theorem cd_i119_15 : cd_I 119 15 = some (.bipush 6, 0, 0) := by decide +kernel
theorem cd_i119_17 : cd_I 119 17 = some (.iload_n 3, 0, 0) := by decide +kernel
theorem cd_i119_18 : cd_I 119 18 = some (.imul, 0, 0) := by decide +kernel
theorem cd_i119_19 : cd_I 119 19 = some (.aload_n 0, 0, 0) := by decide +kernel
theorem cd_i119_20 : cd_I 119 20 = some (.getfield 21, 11, 7) := by decide +kernel
theorem cd_i119_23 : cd_I 119 23 = some (.iload_n 3, 0, 0) := by decide +kernel
theorem cd_i119_24 : cd_I 119 24 = some (.iaload, 0, 0) := by decide +kernel
theorem cd_i119_25 : cd_I 119 25 = some (.iadd, 0, 0) := by decide +kernel
theorem cd_i119_26 : cd_I 119 26 = some (.if_icmp .ge 99, 125, 0) := by decide +kernel
theorem cd_i119_29 : cd_I 119 29 = some (.aload_n 0, 0, 0) := by decide +kernel
theorem cd_i119_30 : cd_I 119 30 = some (.getfield 24, 11, 8) := by decide +kernel
theorem cd_i119_33 : cd_I 119 33 = some (.iload_n 1, 0, 0) := by decide +kernel
theorem cd_i119_34 : cd_I 119 34 = some (.iaload, 0, 0) := by decide +kernel
theorem cd_i119_35 : cd_I 119 35 = some (.iconst 1, 0, 0) := by decide +kernel
theorem cd_i119_36 : cd_I 119 36 = some (.if_icmp .ne 44, 80, 0) := by decide +kernel
theorem cd_i119_39 : cd_I 119 39 = some (.aload_n 0, 0, 0) := by decide +kernel
theorem cd_i119_40 : cd_I 119 40 = some (.getfield 24, 11, 8) := by decide +kernel
theorem cd_i119_43 : cd_I 119 43 = some (.iload 4, 0, 0) := by decide +kernel
theorem cd_i119_45 : cd_I 119 45 = some (.iaload, 0, 0) := by decide +kernel
theorem cd_i119_46 : cd_I 119 46 = some (.iconst 1, 0, 0) := by decide +kernel
theorem cd_i119_47 : cd_I 119 47 = some (.if_icmp .ne 33, 80, 0) := by decide +kernel
theorem cd_i119_50 : cd_I 119 50 = some (.aload_n 0, 0, 0) := by decide +kernel
theorem cd_i119_51 : cd_I 119 51 = some (.getfield 33, 11, 11) := by decide +kernel
theorem cd_i119_54 : cd_I 119 54 = some (.iload_n 1, 0, 0) := by decide +kernel
theorem cd_i119_55 : cd_I 119 55 = some (.iaload, 0, 0) := by decide +kernel
theorem cd_i119_56 : cd_I 119 56 = some (.aload_n 0, 0, 0) := by decide +kernel
theorem cd_i119_57 : cd_I 119 57 = some (.getfield 33, 11, 11) := by decide +kernel
theorem cd_i119_60 : cd_I 119 60 = some (.iload 4, 0, 0) := by decide +kernel
theorem cd_i119_62 : cd_I 119 62 = some (.iaload, 0, 0) := by decide +kernel
theorem cd_i119_63 : cd_I 119 63 = some (.if_icmp .ne 17, 80, 0) := by decide +kernel
theorem cd_i119_66 : cd_I 119 66 = some (.aload_n 0, 0, 0) := by decide +kernel
theorem cd_i119_67 : cd_I 119 67 = some (.getfield 30, 11, 10) := by decide +kernel
theorem cd_i119_70 : cd_I 119 70 = some (.iload 4, 0, 0) := by decide +kernel
theorem cd_i119_72 : cd_I 119 72 = some (.baload, 0, 0) := by decide +kernel
theorem cd_i119_73 : cd_I 119 73 = some (.ifCond .ne 7, 80, 0) := by decide +kernel
theorem cd_i119_76 : cd_I 119 76 = some (.iconst 1, 0, 0) := by decide +kernel
theorem cd_i119_77 : cd_I 119 77 = some (.goto 4, 81, 0) := by decide +kernel
theorem cd_i119_80 : cd_I 119 80 = some (.iconst 0, 0, 0) := by decide +kernel
theorem cd_i119_81 : cd_I 119 81 = some (.istore 5, 0, 0) := by decide +kernel
theorem cd_i119_83 : cd_I 119 83 = some (.iload 5, 0, 0) := by decide +kernel
theorem cd_i119_85 : cd_I 119 85 = some (.ifCond .eq 34, 119, 0) := by decide +kernel
theorem cd_i119_88 : cd_I 119 88 = some (.aload_n 0, 0, 0) := by decide +kernel
theorem cd_i119_89 : cd_I 119 89 = some (.getfield 27, 11, 9) := by decide +kernel
theorem cd_i119_92 : cd_I 119 92 = some (.iload_n 1, 0, 0) := by decide +kernel
theorem cd_i119_93 : cd_I 119 93 = some (.baload, 0, 0) := by decide +kernel
theorem cd_i119_94 : cd_I 119 94 = some (.ifCond .ne 23, 117, 0) := by decide +kernel
theorem cd_i119_97 : cd_I 119 97 = some (.aload_n 0, 0, 0) := by decide +kernel
theorem cd_i119_98 : cd_I 119 98 = some (.getfield 27, 11, 9) := by decide +kernel
theorem cd_i119_101 : cd_I 119 101 = some (.iload 4, 0, 0) := by decide +kernel
theorem cd_i119_103 : cd_I 119 103 = some (.baload, 0, 0) := by decide +kernel
theorem cd_i119_104 : cd_I 119 104 = some (.ifCond .ne 13, 117, 0) := by decide +kernel
theorem cd_i119_107 : cd_I 119 107 = some (.aload_n 0, 0, 0) := by decide +kernel
theorem cd_i119_108 : cd_I 119 108 = some (.iload_n 1, 0, 0) := by decide +kernel
theorem cd_i119_109 : cd_I 119 109 = some (.iload 4, 0, 0) := by decide +kernel
theorem cd_i119_111 : cd_I 119 111 = some (.invokevirtual 156, 120, 2) := by decide +kernel
theorem cd_i119_114 : cd_I 119 114 = some (.ifCond .ne 5, 119, 0) := by decide +kernel
theorem cd_i119_117 : cd_I 119 117 = some (.iconst 0, 0, 0) := by decide +kernel
theorem cd_i119_118 : cd_I 119 118 = some (.ireturn, 0, 0) := by decide +kernel
theorem cd_i119_119 : cd_I 119 119 = some (.iinc 4 1, 0, 0) := by decide +kernel
theorem cd_i119_122 : cd_I 119 122 = some (.goto (-109), 13, 0) := by decide +kernel
theorem cd_i119_125 : cd_I 119 125 = some (.aload_n 0, 0, 0) := by decide +kernel
theorem cd_i119_126 : cd_I 119 126 = some (.getfield 17, 11, 6) := by decide +kernel
theorem cd_i119_129 : cd_I 119 129 = some (.iload_n 3, 0, 0) := by decide +kernel
theorem cd_i119_130 : cd_I 119 130 = some (.iaload, 0, 0) := by decide +kernel
theorem cd_i119_131 : cd_I 119 131 = some (.istore_n 3, 0, 0) := by decide +kernel
theorem cd_i119_132 : cd_I 119 132 = some (.goto (-130), 2, 0) := by decide +kernel
theorem cd_i119_135 : cd_I 119 135 = some (.iconst 1, 0, 0) := by decide +kernel
theorem cd_i119_136 : cd_I 119 136 = some (.ireturn, 0, 0) := by decide +kernel
end
section
theorem cd_i120_0 : cd_I 120 0 = some (.aload_n 0, 0, 0) := by decide +kernel
theorem cd_i120_1 : cd_I 120 1 = some (.getfield 36, 11, 12) := by decide +kernel
theorem cd_i120_4 : cd_I 120 4 = some (.iload_n 1, 0, 0) := by decide +kernel
theorem cd_i120_5 : cd_I 120 5 = some (.iaload, 0, 0) := by decide +kernel
theorem cd_i120_6 : cd_I 120 6 = some (.aload_n 0, 0, 0) := by decide +kernel
theorem cd_i120_7 : cd_I 120 7 = some (.getfield 36, 11, 12) := by decide +kernel
theorem cd_i120_10 : cd_I 120 10 = some (.iload_n 2, 0, 0) := by decide +kernel
theorem cd_i120_11 : cd_I 120 11 = some (.iaload, 0, 0) := by decide +kernel
theorem cd_i120_12 : cd_I 120 12 = some (.if_icmp .ne 22, 34, 0) := by decide +kernel
theorem cd_i120_15 : cd_I 120 15 = some (.aload_n 0, 0, 0) := by decide +kernel
theorem cd_i120_16 : cd_I 120 16 = some (.getfield 39, 11, 13) := by decide +kernel
theorem cd_i120_19 : cd_I 120 19 = some (.iload_n 1, 0, 0) := by decide +kernel
theorem cd_i120_20 : cd_I 120 20 = some (.iaload, 0, 0) := by decide +kernel
theorem cd_i120_21 : cd_I 120 21 = some (.aload_n 0, 0, 0) := by decide +kernel
theorem cd_i120_22 : cd_I 120 22 = some (.getfield 39, 11, 13) := by decide +kernel
theorem cd_i120_25 : cd_I 120 25 = some (.iload_n 2, 0, 0) := by decide +kernel
theorem cd_i120_26 : cd_I 120 26 = some (.iaload, 0, 0) := by decide +kernel
theorem cd_i120_27 : cd_I 120 27 = some (.if_icmp .ne 7, 34, 0) := by decide +kernel
theorem cd_i120_30 : cd_I 120 30 = some (.iconst 1, 0, 0) := by decide +kernel
theorem cd_i120_31 : cd_I 120 31 = some (.goto 4, 35, 0) := by decide +kernel
theorem cd_i120_34 : cd_I 120 34 = some (.iconst 0, 0, 0) := by decide +kernel
theorem cd_i120_35 : cd_I 120 35 = some (.istore_n 3, 0, 0) := by decide +kernel
theorem cd_i120_36 : cd_I 120 36 = some (.iconst 0, 0, 0) := by decide +kernel
theorem cd_i120_37 : cd_I 120 37 = some (.istore 4, 0, 0) := by decide +kernel
theorem cd_i120_39 : cd_I 120 39 = some (.iload 4, 0, 0) := by decide +kernel
theorem cd_i120_41 : cd_I 120 41 = some (.aload_n 0, 0, 0) := by decide +kernel
theorem cd_i120_42 : cd_I 120 42 = some (.getfield 39, 11, 13) := by decide +kernel
theorem cd_i120_45 : cd_I 120 45 = some (.iload_n 1, 0, 0) := by decide +kernel
theorem cd_i120_46 : cd_I 120 46 = some (.iaload, 0, 0) := by decide +kernel
theorem cd_i120_47 : cd_I 120 47 = some (.if_icmp .ge 44, 91, 0) := by decide +kernel
theorem cd_i120_50 : cd_I 120 50 = some (.iload_n 3, 0, 0) := by decide +kernel
theorem cd_i120_51 : cd_I 120 51 = some (.ifCond .eq 40, 91, 0) := by decide +kernel
theorem cd_i120_54 : cd_I 120 54 = some (.aload_n 0, 0, 0) := by decide +kernel
theorem cd_i120_55 : cd_I 120 55 = some (.getfield 42, 11, 14) := by decide +kernel
theorem cd_i120_58 : cd_I 120 58 = some (.iconst 2, 0, 0) := by decide +kernel
theorem cd_i120_59 : cd_I 120 59 = some (.iload_n 1, 0, 0) := by decide +kernel
theorem cd_i120_60 : cd_I 120 60 = some (.imul, 0, 0) := by decide +kernel
theorem cd_i120_61 : cd_I 120 61 = some (.iload 4, 0, 0) := by decide +kernel
theorem cd_i120_63 : cd_I 120 63 = some (.iadd, 0, 0) := by decide +kernel
theorem cd_i120_64 : cd_I 120 64 = some (.iaload, 0, 0) := by decide +kernel
theorem cd_i120_65 : cd_I 120 65 = some (.aload_n 0, 0, 0) := by decide +kernel
theorem cd_i120_66 : cd_I 120 66 = some (.getfield 42, 11, 14) := by decide +kernel
theorem cd_i120_69 : cd_I 120 69 = some (.iconst 2, 0, 0) := by decide +kernel
theorem cd_i120_70 : cd_I 120 70 = some (.iload_n 2, 0, 0) := by decide +kernel
theorem cd_i120_71 : cd_I 120 71 = some (.imul, 0, 0) := by decide +kernel
theorem cd_i120_72 : cd_I 120 72 = some (.iload 4, 0, 0) := by decide +kernel
theorem cd_i120_74 : cd_I 120 74 = some (.iadd, 0, 0) := by decide +kernel
theorem cd_i120_75 : cd_I 120 75 = some (.iaload, 0, 0) := by decide +kernel
theorem cd_i120_76 : cd_I 120 76 = some (.if_icmp .ne 7, 83, 0) := by decide +kernel
theorem cd_i120_79 : cd_I 120 79 = some (.iconst 1, 0, 0) := by decide +kernel
theorem cd_i120_80 : cd_I 120 80 = some (.goto 4, 84, 0) := by decide +kernel
theorem cd_i120_83 : cd_I 120 83 = some (.iconst 0, 0, 0) := by decide +kernel
theorem cd_i120_84 : cd_I 120 84 = some (.istore_n 3, 0, 0) := by decide +kernel
theorem cd_i120_85 : cd_I 120 85 = some (.iinc 4 1, 0, 0) := by decide +kernel
theorem cd_i120_88 : cd_I 120 88 = some (.goto (-49), 39, 0) := by decide +kernel
theorem cd_i120_91 : cd_I 120 91 = some (.iload_n 3, 0, 0) := by decide +kernel
theorem cd_i120_92 : cd_I 120 92 = some (.ireturn, 0, 0) := by decide +kernel
theorem cd_i121_0 : cd_I 121 0 = some (.aload_n 0, 0, 0) := by decide +kernel
theorem cd_i121_1 : cd_I 121 1 = some (.iload_n 1, 0, 0) := by decide +kernel
theorem cd_i121_2 : cd_I 121 2 = some (.putfield 88, 11, 0) := by decide +kernel
theorem cd_i121_5 : cd_I 121 5 = some (.iconst 0, 0, 0) := by decide +kernel
theorem cd_i121_6 : cd_I 121 6 = some (.ireturn, 0, 0) := by decide +kernel
theorem cd_i122_0 : cd_I 122 0 = some (.aload_n 0, 0, 0) := by decide +kernel
theorem cd_i122_1 : cd_I 122 1 = some (.getfield 24, 11, 8) := by decide +kernel
theorem cd_i122_4 : cd_I 122 4 = some (.iload_n 2, 0, 0) := by decide +kernel
theorem cd_i122_5 : cd_I 122 5 = some (.aload_n 0, 0, 0) := by decide +kernel
theorem cd_i122_6 : cd_I 122 6 = some (.getfield 24, 11, 8) := by decide +kernel
theorem cd_i122_9 : cd_I 122 9 = some (.iload_n 1, 0, 0) := by decide +kernel
theorem cd_i122_10 : cd_I 122 10 = some (.iaload, 0, 0) := by decide +kernel
theorem cd_i122_11 : cd_I 122 11 = some (.iastore, 0, 0) := by decide +kernel
theorem cd_i122_12 : cd_I 122 12 = some (.aload_n 0, 0, 0) := by decide +kernel
theorem cd_i122_13 : cd_I 122 13 = some (.getfield 27, 11, 9) := by decide +kernel
theorem cd_i122_16 : cd_I 122 16 = some (.iload_n 2, 0, 0) := by decide +kernel
theorem cd_i122_17 : cd_I 122 17 = some (.aload_n 0, 0, 0) := by decide +kernel
theorem cd_i122_18 : cd_I 122 18 = some (.getfield 27, 11, 9) := by decide +kernel
theorem cd_i122_21 : cd_I 122 21 = some (.iload_n 1, 0, 0) := by decide +kernel
theorem cd_i122_22 : cd_I 122 22 = some (.baload, 0, 0) := by decide +kernel
theorem cd_i122_23 : cd_I 122 23 = some (.bastore, 0, 0) := by decide +kernel
theorem cd_i122_24 : cd_I 122 24 = some (.aload_n 0, 0, 0) := by decide +kernel
theorem cd_i122_25 : cd_I 122 25 = some (.getfield 30, 11, 10) := by decide +kernel
theorem cd_i122_28 : cd_I 122 28 = some (.iload_n 2, 0, 0) := by decide +kernel
theorem cd_i122_29 : cd_I 122 29 = some (.aload_n 0, 0, 0) := by decide +kernel
theorem cd_i122_30 : cd_I 122 30 = some (.getfield 30, 11, 10) := by decide +kernel
theorem cd_i122_33 : cd_I 122 33 = some (.iload_n 1, 0, 0) := by decide +kernel
theorem cd_i122_34 : cd_I 122 34 = some (.baload, 0, 0) := by decide +kernel
theorem cd_i122_35 : cd_I 122 35 = some (.bastore, 0, 0) := by decide +kernel
theorem cd_i122_36 : cd_I 122 36 = some (.aload_n 0, 0, 0) := by decide +kernel
theorem cd_i122_37 : cd_I 122 37 = some (.getfield 33, 11, 11) := by decide +kernel
theorem cd_i122_40 : cd_I 122 40 = some (.iload_n 2, 0, 0) := by decide +kernel
theorem cd_i122_41 : cd_I 122 41 = some (.aload_n 0, 0, 0) := by decide +kernel
theorem cd_i122_42 : cd_I 122 42 = some (.getfield 33, 11, 11) := by decide +kernel
theorem cd_i122_45 : cd_I 122 45 = some (.iload_n 1, 0, 0) := by decide +kernel
theorem cd_i122_46 : cd_I 122 46 = some (.iaload, 0, 0) := by decide +kernel
theorem cd_i122_47 : cd_I 122 47 = some (.iastore, 0, 0) := by decide +kernel
theorem cd_i122_48 : cd_I 122 48 = some (.aload_n 0, 0, 0) := by decide +kernel
theorem cd_i122_49 : cd_I 122 49 = some (.getfield 36, 11, 12) := by decide +kernel
theorem cd_i122_52 : cd_I 122 52 = some (.iload_n 2, 0, 0) := by decide +kernel
theorem cd_i122_53 : cd_I 122 53 = some (.aload_n 0, 0, 0) := by decide +kernel
theorem cd_i122_54 : cd_I 122 54 = some (.getfield 36, 11, 12) := by decide +kernel
theorem cd_i122_57 : cd_I 122 57 = some (.iload_n 1, 0, 0) := by decide +kernel
theorem cd_i122_58 : cd_I 122 58 = some (.iaload, 0, 0) := by decide +kernel
theorem cd_i122_59 : cd_I 122 59 = some (.iastore, 0, 0) := by decide +kernel
theorem cd_i122_60 : cd_I 122 60 = some (.aload_n 0, 0, 0) := by decide +kernel
theorem cd_i122_61 : cd_I 122 61 = some (.getfield 39, 11, 13) := by decide +kernel
theorem cd_i122_64 : cd_I 122 64 = some (.iload_n 2, 0, 0) := by decide +kernel
theorem cd_i122_65 : cd_I 122 65 = some (.aload_n 0, 0, 0) := by decide +kernel
theorem cd_i122_66 : cd_I 122 66 = some (.getfield 39, 11, 13) := by decide +kernel
theorem cd_i122_69 : cd_I 122 69 = some (.iload_n 1, 0, 0) := by decide +kernel
theorem cd_i122_70 : cd_I 122 70 = some (.iaload, 0, 0) := by decide +kernel
theorem cd_i122_71 : cd_I 122 71 = some (.iastore, 0, 0) := by decide +kernel
theorem cd_i122_72 : cd_I 122 72 = some (.aload_n 0, 0, 0) := by decide +kernel
theorem cd_i122_73 : cd_I 122 73 = some (.getfield 42, 11, 14) := by decide +kernel
theorem cd_i122_76 : cd_I 122 76 = some (.iconst 2, 0, 0) := by decide +kernel
theorem cd_i122_77 : cd_I 122 77 = some (.iload_n 2, 0, 0) := by decide +kernel
theorem cd_i122_78 : cd_I 122 78 = some (.imul, 0, 0) := by decide +kernel
theorem cd_i122_79 : cd_I 122 79 = some (.aload_n 0, 0, 0) := by decide +kernel
theorem cd_i122_80 : cd_I 122 80 = some (.getfield 42, 11, 14) := by decide +kernel
theorem cd_i122_83 : cd_I 122 83 = some (.iconst 2, 0, 0) := by decide +kernel
theorem cd_i122_84 : cd_I 122 84 = some (.iload_n 1, 0, 0) := by decide +kernel
theorem cd_i122_85 : cd_I 122 85 = some (.imul, 0, 0) := by decide +kernel
theorem cd_i122_86 : cd_I 122 86 = some (.iaload, 0, 0) := by decide +kernel
theorem cd_i122_87 : cd_I 122 87 = some (.iastore, 0, 0) := by decide +kernel
theorem cd_i122_88 : cd_I 122 88 = some (.aload_n 0, 0, 0) := by decide +kernel
theorem cd_i122_89 : cd_I 122 89 = some (.getfield 42, 11, 14) := by decide +kernel
theorem cd_i122_92 : cd_I 122 92 = some (.iconst 2, 0, 0) := by decide +kernel
theorem cd_i122_93 : cd_I 122 93 = some (.iload_n 2, 0, 0) := by decide +kernel
theorem cd_i122_94 : cd_I 122 94 = some (.imul, 0, 0) := by decide +kernel
theorem cd_i122_95 : cd_I 122 95 = some (.iconst 1, 0, 0) := by decide +kernel
theorem cd_i122_96 : cd_I 122 96 = some (.iadd, 0, 0) := by decide +kernel
theorem cd_i122_97 : cd_I 122 97 = some (.aload_n 0, 0, 0) := by decide +kernel
theorem cd_i122_98 : cd_I 122 98 = some (.getfield 42, 11, 14) := by decide +kernel
theorem cd_i122_101 : cd_I 122 101 = some (.iconst 2, 0, 0) := by decide +kernel
theorem cd_i122_102 : cd_I 122 102 = some (.iload_n 1, 0, 0) := by decide +kernel
theorem cd_i122_103 : cd_I 122 103 = some (.imul, 0, 0) := by decide +kernel
theorem cd_i122_104 : cd_I 122 104 = some (.iconst 1, 0, 0) := by decide +kernel
theorem cd_i122_105 : cd_I 122 105 = some (.iadd, 0, 0) := by decide +kernel
theorem cd_i122_106 : cd_I 122 106 = some (.iaload, 0, 0) := by decide +kernel
theorem cd_i122_107 : cd_I 122 107 = some (.iastore, 0, 0) := by decide +kernel
theorem cd_i122_108 : cd_I 122 108 = some (.return_, 0, 0) := by decide +kernel
theorem cd_i123_0 : cd_I 123 0 = some (.aload_n 0, 0, 0) := by decide +kernel
theorem cd_i123_1 : cd_I 123 1 = some (.getfield 183, 11, 15) := by decide +kernel
theorem cd_i123_4 : cd_I 123 4 = some (.iconst 5, 0, 0) := by decide +kernel
theorem cd_i123_5 : cd_I 123 5 = some (.if_icmp .ne 14, 19, 0) := by decide +kernel
theorem cd_i123_8 : cd_I 123 8 = some (.aload_n 0, 0, 0) := by decide +kernel
theorem cd_i123_9 : cd_I 123 9 = some (.iconst 0, 0, 0) := by decide +kernel
theorem cd_i123_10 : cd_I 123 10 = some (.putfield 95, 11, 2) := by decide +kernel
theorem cd_i123_13 : cd_I 123 13 = some (.aload_n 0, 0, 0) := by decide +kernel
theorem cd_i123_14 : cd_I 123 14 = some (.iconst 2, 0, 0) := by decide +kernel
theorem cd_i123_15 : cd_I 123 15 = some (.invokevirtual 176, 121, 1) := by decide +kernel
theorem cd_i123_18 : cd_I 123 18 = some (.ireturn, 0, 0) := by decide +kernel
theorem cd_i123_19 : cd_I 123 19 = some (.aload_n 0, 0, 0) := by decide +kernel
theorem cd_i123_20 : cd_I 123 20 = some (.iconst 0, 0, 0) := by decide +kernel
theorem cd_i123_21 : cd_I 123 21 = some (.putfield 98, 11, 3) := by decide +kernel
theorem cd_i123_24 : cd_I 123 24 = some (.aload_n 0, 0, 0) := by decide +kernel
theorem cd_i123_25 : cd_I 123 25 = some (.iconst 1, 0, 0) := by decide +kernel
theorem cd_i123_26 : cd_I 123 26 = some (.putfield 101, 11, 4) := by decide +kernel
theorem cd_i123_29 : cd_I 123 29 = some (.aload_n 0, 0, 0) := by decide +kernel
theorem cd_i123_30 : cd_I 123 30 = some (.invokevirtual 153, 117, 0) := by decide +kernel
theorem cd_i123_33 : cd_I 123 33 = some (.istore_n 1, 0, 0) := by decide +kernel
theorem cd_i123_34 : cd_I 123 34 = some (.aload_n 0, 0, 0) := by decide +kernel
theorem cd_i123_35 : cd_I 123 35 = some (.bipush 58, 0, 0) := by decide +kernel
theorem cd_i123_37 : cd_I 123 37 = some (.invokevirtual 138, 109, 1) := by decide +kernel
theorem cd_i123_40 : cd_I 123 40 = some (.aload_n 0, 0, 0) := by decide +kernel
theorem cd_i123_41 : cd_I 123 41 = some (.getfield 101, 11, 4) := by decide +kernel
theorem cd_i123_44 : cd_I 123 44 = some (.ifCond .eq 10, 54, 0) := by decide +kernel
theorem cd_i123_47 : cd_I 123 47 = some (.aload_n 0, 0, 0) := by decide +kernel
theorem cd_i123_48 : cd_I 123 48 = some (.invokevirtual 142, 113, 0) := by decide +kernel
theorem cd_i123_51 : cd_I 123 51 = some (.goto 4, 55, 0) := by decide +kernel
theorem cd_i123_54 : cd_I 123 54 = some (.iconst 0, 0, 0) := by decide +kernel
theorem cd_i123_55 : cd_I 123 55 = some (.istore_n 2, 0, 0) := by decide +kernel
theorem cd_i123_56 : cd_I 123 56 = some (.aload_n 0, 0, 0) := by decide +kernel
theorem cd_i123_57 : cd_I 123 57 = some (.aload_n 0, 0, 0) := by decide +kernel
theorem cd_i123_58 : cd_I 123 58 = some (.getfield 98, 11, 3) := by decide +kernel
theorem cd_i123_61 : cd_I 123 61 = some (.aload_n 0, 0, 0) := by decide +kernel
theorem cd_i123_62 : cd_I 123 62 = some (.getfield 95, 11, 2) := by decide +kernel
theorem cd_i123_65 : cd_I 123 65 = some (.if_icmp .ne 16, 81, 0) := by decide +kernel
theorem cd_i123_68 : cd_I 123 68 = some (.aload_n 0, 0, 0) := by decide +kernel
theorem cd_i123_69 : cd_I 123 69 = some (.iload_n 1, 0, 0) := by decide +kernel
theorem cd_i123_70 : cd_I 123 70 = some (.invokevirtual 186, 124, 1) := by decide +kernel
theorem cd_i123_73 : cd_I 123 73 = some (.iconst (-1), 0, 0) := by decide +kernel
theorem cd_i123_74 : cd_I 123 74 = some (.if_icmp .ne 7, 81, 0) := by decide +kernel
theorem cd_i123_77 : cd_I 123 77 = some (.iconst 1, 0, 0) := by decide +kernel
theorem cd_i123_78 : cd_I 123 78 = some (.goto 4, 82, 0) := by decide +kernel
theorem cd_i123_81 : cd_I 123 81 = some (.iconst 0, 0, 0) := by decide +kernel
theorem cd_i123_82 : cd_I 123 82 = some (.invokevirtual 113, 107, 1) := by decide +kernel
theorem cd_i123_85 : cd_I 123 85 = some (.aload_n 0, 0, 0) := by decide +kernel
theorem cd_i123_86 : cd_I 123 86 = some (.iconst 0, 0, 0) := by decide +kernel
theorem cd_i123_87 : cd_I 123 87 = some (.putfield 95, 11, 2) := by decide +kernel
theorem cd_i123_90 : cd_I 123 90 = some (.aload_n 0, 0, 0) := by decide +kernel
theorem cd_i123_91 : cd_I 123 91 = some (.getfield 101, 11, 4) := by decide +kernel
theorem cd_i123_94 : cd_I 123 94 = some (.ifCond .ne 9, 103, 0) := by decide +kernel
theorem cd_i123_97 : cd_I 123 97 = some (.aload_n 0, 0, 0) := by decide +kernel
theorem cd_i123_98 : cd_I 123 98 = some (.iconst 1, 0, 0) := by decide +kernel
theorem cd_i123_99 : cd_I 123 99 = some (.invokevirtual 176, 121, 1) := by decide +kernel
theorem cd_i123_102 : cd_I 123 102 = some (.ireturn, 0, 0) := by decide +kernel
theorem cd_i123_103 : cd_I 123 103 = some (.aload_n 0, 0, 0) := by decide +kernel
theorem cd_i123_104 : cd_I 123 104 = some (.iconst 0, 0, 0) := by decide +kernel
theorem cd_i123_105 : cd_I 123 105 = some (.putfield 88, 11, 0) := by decide +kernel
theorem cd_i123_108 : cd_I 123 108 = some (.aload_n 0, 0, 0) := by decide +kernel
theorem cd_i123_109 : cd_I 123 109 = some (.getfield 45, 11, 16) := by decide +kernel
theorem cd_i123_112 : cd_I 123 112 = some (.aload_n 0, 0, 0) := by decide +kernel
theorem cd_i123_113 : cd_I 123 113 = some (.getfield 183, 11, 15) := by decide +kernel
theorem cd_i123_116 : cd_I 123 116 = some (.iload_n 1, 0, 0) := by decide +kernel
theorem cd_i123_117 : cd_I 123 117 = some (.iastore, 0, 0) := by decide +kernel
theorem cd_i123_118 : cd_I 123 118 = some (.aload_n 0, 0, 0) := by decide +kernel
theorem cd_i123_119 : cd_I 123 119 = some (.getfield 48, 11, 17) := by decide +kernel
theorem cd_i123_122 : cd_I 123 122 = some (.aload_n 0, 0, 0) := by decide +kernel
theorem cd_i123_123 : cd_I 123 123 = some (.getfield 183, 11, 15) := by decide +kernel
theorem cd_i123_126 : cd_I 123 126 = some (.iload_n 2, 0, 0) := by decide +kernel
theorem cd_i123_127 : cd_I 123 127 = some (.iastore, 0, 0) := by decide +kernel
theorem cd_i123_128 : cd_I 123 128 = some (.aload_n 0, 0, 0) := by decide +kernel
theorem cd_i123_129 : cd_I 123 129 = some (.dup, 0, 0) := by decide +kernel
theorem cd_i123_130 : cd_I 123 130 = some (.getfield 183, 11, 15) := by decide +kernel
theorem cd_i123_133 : cd_I 123 133 = some (.iconst 1, 0, 0) := by decide +kernel
theorem cd_i123_134 : cd_I 123 134 = some (.iadd, 0, 0) := by decide +kernel
theorem cd_i123_135 : cd_I 123 135 = some (.putfield 183, 11, 15) := by decide +kernel
theorem cd_i123_138 : cd_I 123 138 = some (.aload_n 0, 0, 0) := by decide +kernel
theorem cd_i123_139 : cd_I 123 139 = some (.getfield 183, 11, 15) := by decide +kernel
theorem cd_i123_142 : cd_I 123 142 = some (.ireturn, 0, 0) := by decide +kernel
theorem cd_i124_0 : cd_I 124 0 = some (.iconst (-1), 0, 0) := by decide +kernel
theorem cd_i124_1 : cd_I 124 1 = some (.istore_n 2, 0, 0) := by decide +kernel
theorem cd_i124_2 : cd_I 124 2 = some (.iconst 0, 0, 0) := by decide +kernel
theorem cd_i124_3 : cd_I 124 3 = some (.istore_n 3, 0, 0) := by decide +kernel
theorem cd_i124_4 : cd_I 124 4 = some (.iload_n 3, 0, 0) := by decide +kernel
theorem cd_i124_5 : cd_I 124 5 = some (.aload_n 0, 0, 0) := by decide +kernel
theorem cd_i124_6 : cd_I 124 6 = some (.getfield 183, 11, 15) := by decide +kernel
theorem cd_i124_9 : cd_I 124 9 = some (.if_icmp .ge 25, 34, 0) := by decide +kernel
theorem cd_i124_12 : cd_I 124 12 = some (.aload_n 0, 0, 0) := by decide +kernel
theorem cd_i124_13 : cd_I 124 13 = some (.getfield 45, 11, 16) := by decide +kernel
theorem cd_i124_16 : cd_I 124 16 = some (.iload_n 3, 0, 0) := by decide +kernel
theorem cd_i124_17 : cd_I 124 17 = some (.iaload, 0, 0) := by decide +kernel
theorem cd_i124_18 : cd_I 124 18 = some (.iload_n 1, 0, 0) := by decide +kernel
theorem cd_i124_19 : cd_I 124 19 = some (.if_icmp .ne 7, 26, 0) := by decide +kernel
theorem cd_i124_22 : cd_I 124 22 = some (.iload_n 3, 0, 0) := by decide +kernel
theorem cd_i124_23 : cd_I 124 23 = some (.goto 4, 27, 0) := by decide +kernel
theorem cd_i124_26 : cd_I 124 26 = some (.iload_n 2, 0, 0) := by decide +kernel
theorem cd_i124_27 : cd_I 124 27 = some (.istore_n 2, 0, 0) := by decide +kernel
theorem cd_i124_28 : cd_I 124 28 = some (.iinc 3 1, 0, 0) := by decide +kernel
theorem cd_i124_31 : cd_I 124 31 = some (.goto (-27), 4, 0) := by decide +kernel
theorem cd_i124_34 : cd_I 124 34 = some (.iload_n 2, 0, 0) := by decide +kernel
theorem cd_i124_35 : cd_I 124 35 = some (.ireturn, 0, 0) := by decide +kernel
theorem cd_i125_0 : cd_I 125 0 = some (.aload_n 0, 0, 0) := by decide +kernel
theorem cd_i125_1 : cd_I 125 1 = some (.iconst 0, 0, 0) := by decide +kernel
theorem cd_i125_2 : cd_I 125 2 = some (.putfield 88, 11, 0) := by decide +kernel
theorem cd_i125_5 : cd_I 125 5 = some (.aload_n 0, 0, 0) := by decide +kernel
theorem cd_i125_6 : cd_I 125 6 = some (.iconst 0, 0, 0) := by decide +kernel
theorem cd_i125_7 : cd_I 125 7 = some (.putfield 183, 11, 15) := by decide +kernel
theorem cd_i125_10 : cd_I 125 10 = some (.return_, 0, 0) := by decide +kernel
theorem cd_i126_0 : cd_I 126 0 = some (.aload_n 0, 0, 0) := by decide +kernel
theorem cd_i126_1 : cd_I 126 1 = some (.iload_n 1, 0, 0) := by decide +kernel
theorem cd_i126_2 : cd_I 126 2 = some (.iconst (-1), 0, 0) := by decide +kernel
theorem cd_i126_3 : cd_I 126 3 = some (.bipush 9, 0, 0) := by decide +kernel
theorem cd_i126_5 : cd_I 126 5 = some (.invokestatic 91, 101, 3) := by decide +kernel
theorem cd_i126_8 : cd_I 126 8 = some (.ifCond .eq 7, 15, 0) := by decide +kernel
theorem cd_i126_11 : cd_I 126 11 = some (.iconst 1, 0, 0) := by decide +kernel
theorem cd_i126_12 : cd_I 126 12 = some (.goto 4, 16, 0) := by decide +kernel
theorem cd_i126_15 : cd_I 126 15 = some (.iconst 0, 0, 0) := by decide +kernel
theorem cd_i126_16 : cd_I 126 16 = some (.putfield 88, 11, 0) := by decide +kernel
theorem cd_i126_19 : cd_I 126 19 = some (.aload_n 0, 0, 0) := by decide +kernel
theorem cd_i126_20 : cd_I 126 20 = some (.aload_n 0, 0, 0) := by decide +kernel
theorem cd_i126_21 : cd_I 126 21 = some (.getfield 88, 11, 0) := by decide +kernel
theorem cd_i126_24 : cd_I 126 24 = some (.ifCond .ne 7, 31, 0) := by decide +kernel
theorem cd_i126_27 : cd_I 126 27 = some (.iload_n 1, 0, 0) := by decide +kernel
theorem cd_i126_28 : cd_I 126 28 = some (.goto 7, 35, 0) := by decide +kernel
theorem cd_i126_31 : cd_I 126 31 = some (.aload_n 0, 0, 0) := by decide +kernel
theorem cd_i126_32 : cd_I 126 32 = some (.getfield 51, 11, 18) := by decide +kernel
theorem cd_i126_35 : cd_I 126 35 = some (.putfield 51, 11, 18) := by decide +kernel
theorem cd_i126_38 : cd_I 126 38 = some (.return_, 0, 0) := by decide +kernel
theorem cd_i127_0 : cd_I 127 0 = some (.aload_n 0, 0, 0) := by decide +kernel
theorem cd_i127_1 : cd_I 127 1 = some (.iconst 0, 0, 0) := by decide +kernel
theorem cd_i127_2 : cd_I 127 2 = some (.putfield 88, 11, 0) := by decide +kernel
theorem cd_i127_5 : cd_I 127 5 = some (.iload_n 1, 0, 0) := by decide +kernel
theorem cd_i127_6 : cd_I 127 6 = some (.iconst 0, 0, 0) := by decide +kernel
theorem cd_i127_7 : cd_I 127 7 = some (.bipush 12, 0, 0) := by decide +kernel
theorem cd_i127_9 : cd_I 127 9 = some (.invokestatic 91, 101, 3) := by decide +kernel
theorem cd_i127_12 : cd_I 127 12 = some (.ifCond .ne 26, 38, 0) := by decide +kernel
theorem cd_i127_15 : cd_I 127 15 = some (.iload_n 2, 0, 0) := by decide +kernel
theorem cd_i127_16 : cd_I 127 16 = some (.iconst 0, 0, 0) := by decide +kernel
theorem cd_i127_17 : cd_I 127 17 = some (.bipush 12, 0, 0) := by decide +kernel
theorem cd_i127_19 : cd_I 127 19 = some (.invokestatic 91, 101, 3) := by decide +kernel
theorem cd_i127_22 : cd_I 127 22 = some (.ifCond .ne 16, 38, 0) := by decide +kernel
theorem cd_i127_25 : cd_I 127 25 = some (.aload_n 0, 0, 0) := by decide +kernel
theorem cd_i127_26 : cd_I 127 26 = some (.iload_n 1, 0, 0) := by decide +kernel
theorem cd_i127_27 : cd_I 127 27 = some (.iload_n 2, 0, 0) := by decide +kernel
theorem cd_i127_28 : cd_I 127 28 = some (.invokevirtual 192, 128, 2) := by decide +kernel
theorem cd_i127_31 : cd_I 127 31 = some (.ifCond .eq 7, 38, 0) := by decide +kernel
theorem cd_i127_34 : cd_I 127 34 = some (.iconst 1, 0, 0) := by decide +kernel
theorem cd_i127_35 : cd_I 127 35 = some (.goto 4, 39, 0) := by decide +kernel
theorem cd_i127_38 : cd_I 127 38 = some (.iconst 0, 0, 0) := by decide +kernel
theorem cd_i127_39 : cd_I 127 39 = some (.ireturn, 0, 0) := by decide +kernel
theorem cd_i128_0 : cd_I 128 0 = some (.iload_n 1, 0, 0) := by decide +kernel
theorem cd_i128_1 : cd_I 128 1 = some (.iload_n 2, 0, 0) := by decide +kernel
theorem cd_i128_2 : cd_I 128 2 = some (.if_icmp .eq 12, 14, 0) := by decide +kernel
theorem cd_i128_5 : cd_I 128 5 = some (.iload_n 1, 0, 0) := by decide +kernel
theorem cd_i128_6 : cd_I 128 6 = some (.ifCond .ne 12, 18, 0) := by decide +kernel
theorem cd_i128_9 : cd_I 128 9 = some (.iload_n 2, 0, 0) := by decide +kernel
theorem cd_i128_10 : cd_I 128 10 = some (.iconst 1, 0, 0) := by decide +kernel
theorem cd_i128_11 : cd_I 128 11 = some (.if_icmp .ne 7, 18, 0) := by decide +kernel
theorem cd_i128_14 : cd_I 128 14 = some (.iconst 1, 0, 0) := by decide +kernel
theorem cd_i128_15 : cd_I 128 15 = some (.goto 4, 19, 0) := by decide +kernel
theorem cd_i128_18 : cd_I 128 18 = some (.iconst 0, 0, 0) := by decide +kernel
theorem cd_i128_19 : cd_I 128 19 = some (.istore_n 3, 0, 0) := by decide +kernel
theorem cd_i128_20 : cd_I 128 20 = some (.iload_n 1, 0, 0) := by decide +kernel
theorem cd_i128_21 : cd_I 128 21 = some (.iconst 3, 0, 0) := by decide +kernel
theorem cd_i128_22 : cd_I 128 22 = some (.if_icmp .ge 7, 29, 0) := by decide +kernel
theorem cd_i128_25 : cd_I 128 25 = some (.iconst (-1), 0, 0) := by decide +kernel
theorem cd_i128_26 : cd_I 128 26 = some (.goto 6, 32, 0) := by decide +kernel
theorem cd_i128_29 : cd_I 128 29 = some (.iload_n 1, 0, 0) := by decide +kernel
theorem cd_i128_30 : cd_I 128 30 = some (.iconst 3, 0, 0) := by decide +kernel
theorem cd_i128_31 : cd_I 128 31 = some (.isub, 0, 0) := by decide +kernel
theorem cd_i128_32 : cd_I 128 32 = some (.istore 4, 0, 0) := by decide +kernel
theorem cd_i128_34 : cd_I 128 34 = some (.iload 4, 0, 0) := by decide +kernel
theorem cd_i128_36 : cd_I 128 36 = some (.iconst (-1), 0, 0) := by decide +kernel
theorem cd_i128_37 : cd_I 128 37 = some (.if_icmp .eq 32, 69, 0) := by decide +kernel
theorem cd_i128_40 : cd_I 128 40 = some (.iload_n 3, 0, 0) := by decide +kernel
theorem cd_i128_41 : cd_I 128 41 = some (.ifCond .ne 11, 52, 0) := by decide +kernel
theorem cd_i128_44 : cd_I 128 44 = some (.iconst 3, 0, 0) := by decide +kernel
theorem cd_i128_45 : cd_I 128 45 = some (.iload 4, 0, 0) := by decide +kernel
theorem cd_i128_47 : cd_I 128 47 = some (.iadd, 0, 0) := by decide +kernel
theorem cd_i128_48 : cd_I 128 48 = some (.iload_n 2, 0, 0) := by decide +kernel
theorem cd_i128_49 : cd_I 128 49 = some (.if_icmp .ne 7, 56, 0) := by decide +kernel
theorem cd_i128_52 : cd_I 128 52 = some (.iconst 1, 0, 0) := by decide +kernel
theorem cd_i128_53 : cd_I 128 53 = some (.goto 4, 57, 0) := by decide +kernel
theorem cd_i128_56 : cd_I 128 56 = some (.iconst 0, 0, 0) := by decide +kernel
theorem cd_i128_57 : cd_I 128 57 = some (.istore_n 3, 0, 0) := by decide +kernel
theorem cd_i128_58 : cd_I 128 58 = some (.aload_n 0, 0, 0) := by decide +kernel
theorem cd_i128_59 : cd_I 128 59 = some (.iload 4, 0, 0) := by decide +kernel
theorem cd_i128_61 : cd_I 128 61 = some (.invokevirtual 189, 129, 1) := by decide +kernel
theorem cd_i128_64 : cd_I 128 64 = some (.istore 4, 0, 0) := by decide +kernel
theorem cd_i128_66 : cd_I 128 66 = some (.goto (-32), 34, 0) := by decide +kernel
theorem cd_i128_69 : cd_I 128 69 = some (.iload_n 3, 0, 0) := by decide +kernel
theorem cd_i128_70 : cd_I 128 70 = some (.ireturn, 0, 0) := by decide +kernel
theorem cd_i129_0 : cd_I 129 0 = some (.aload_n 0, 0, 0) := by decide +kernel
theorem cd_i129_1 : cd_I 129 1 = some (.getfield 13, 11, 5) := by decide +kernel
theorem cd_i129_4 : cd_I 129 4 = some (.iload_n 1, 0, 0) := by decide +kernel
theorem cd_i129_5 : cd_I 129 5 = some (.baload, 0, 0) := by decide +kernel
theorem cd_i129_6 : cd_I 129 6 = some (.ifCond .eq 12, 18, 0) := by decide +kernel
theorem cd_i129_9 : cd_I 129 9 = some (.aload_n 0, 0, 0) := by decide +kernel
theorem cd_i129_10 : cd_I 129 10 = some (.getfield 17, 11, 6) := by decide +kernel
theorem cd_i129_13 : cd_I 129 13 = some (.iload_n 1, 0, 0) := by decide +kernel
theorem cd_i129_14 : cd_I 129 14 = some (.iaload, 0, 0) := by decide +kernel
theorem cd_i129_15 : cd_I 129 15 = some (.goto 4, 19, 0) := by decide +kernel
theorem cd_i129_18 : cd_I 129 18 = some (.iconst (-1), 0, 0) := by decide +kernel
theorem cd_i129_19 : cd_I 129 19 = some (.ireturn, 0, 0) := by decide +kernel
theorem cd_i130_0 : cd_I 130 0 = some (.iload_n 1, 0, 0) := by decide +kernel
theorem cd_i130_1 : cd_I 130 1 = some (.iconst 0, 0, 0) := by decide +kernel
theorem cd_i130_2 : cd_I 130 2 = some (.bipush 12, 0, 0) := by decide +kernel
theorem cd_i130_4 : cd_I 130 4 = some (.invokestatic 91, 101, 3) := by decide +kernel
theorem cd_i130_7 : cd_I 130 7 = some (.ifCond .ne 12, 19, 0) := by decide +kernel
theorem cd_i130_10 : cd_I 130 10 = some (.iload_n 2, 0, 0) := by decide +kernel
theorem cd_i130_11 : cd_I 130 11 = some (.iconst 0, 0, 0) := by decide +kernel
theorem cd_i130_12 : cd_I 130 12 = some (.iconst 3, 0, 0) := by decide +kernel
theorem cd_i130_13 : cd_I 130 13 = some (.invokestatic 91, 101, 3) := by decide +kernel
theorem cd_i130_16 : cd_I 130 16 = some (.ifCond .eq 9, 25, 0) := by decide +kernel
theorem cd_i130_19 : cd_I 130 19 = some (.aload_n 0, 0, 0) := by decide +kernel
theorem cd_i130_20 : cd_I 130 20 = some (.iconst 1, 0, 0) := by decide +kernel
theorem cd_i130_21 : cd_I 130 21 = some (.invokevirtual 176, 121, 1) := by decide +kernel
theorem cd_i130_24 : cd_I 130 24 = some (.ireturn, 0, 0) := by decide +kernel
theorem cd_i130_25 : cd_I 130 25 = some (.aload_n 0, 0, 0) := by decide +kernel
theorem cd_i130_26 : cd_I 130 26 = some (.iconst 0, 0, 0) := by decide +kernel
theorem cd_i130_27 : cd_I 130 27 = some (.putfield 88, 11, 0) := by decide +kernel
theorem cd_i130_30 : cd_I 130 30 = some (.aload_n 0, 0, 0) := by decide +kernel
theorem cd_i130_31 : cd_I 130 31 = some (.iconst 0, 0, 0) := by decide +kernel
theorem cd_i130_32 : cd_I 130 32 = some (.putfield 207, 11, 19) := by decide +kernel
theorem cd_i130_35 : cd_I 130 35 = some (.iconst 0, 0, 0) := by decide +kernel
theorem cd_i130_36 : cd_I 130 36 = some (.istore_n 3, 0, 0) := by decide +kernel
theorem cd_i130_37 : cd_I 130 37 = some (.iload_n 3, 0, 0) := by decide +kernel
theorem cd_i130_38 : cd_I 130 38 = some (.iload_n 2, 0, 0) := by decide +kernel
theorem cd_i130_39 : cd_I 130 39 = some (.if_icmp .gt 33, 72, 0) := by decide +kernel
theorem cd_i130_42 : cd_I 130 42 = some (.aload_n 0, 0, 0) := by decide +kernel
theorem cd_i130_43 : cd_I 130 43 = some (.aload_n 0, 0, 0) := by decide +kernel
theorem cd_i130_44 : cd_I 130 44 = some (.getfield 207, 11, 19) := by decide +kernel
theorem cd_i130_47 : cd_I 130 47 = some (.putfield 210, 11, 24) := by decide +kernel
theorem cd_i130_50 : cd_I 130 50 = some (.iload_n 3, 0, 0) := by decide +kernel
theorem cd_i130_51 : cd_I 130 51 = some (.ifCond .ne 10, 61, 0) := by decide +kernel
theorem cd_i130_54 : cd_I 130 54 = some (.aload_n 0, 0, 0) := by decide +kernel
theorem cd_i130_55 : cd_I 130 55 = some (.invokevirtual 241, 131, 0) := by decide +kernel
theorem cd_i130_58 : cd_I 130 58 = some (.goto 8, 66, 0) := by decide +kernel
theorem cd_i130_61 : cd_I 130 61 = some (.aload_n 0, 0, 0) := by decide +kernel
theorem cd_i130_62 : cd_I 130 62 = some (.iload_n 3, 0, 0) := by decide +kernel
theorem cd_i130_63 : cd_I 130 63 = some (.invokevirtual 244, 137, 1) := by decide +kernel
theorem cd_i130_66 : cd_I 130 66 = some (.iinc 3 1, 0, 0) := by decide +kernel
theorem cd_i130_69 : cd_I 130 69 = some (.goto (-32), 37, 0) := by decide +kernel
theorem cd_i130_72 : cd_I 130 72 = some (.aload_n 0, 0, 0) := by decide +kernel
theorem cd_i130_73 : cd_I 130 73 = some (.iconst 0, 0, 0) := by decide +kernel
theorem cd_i130_74 : cd_I 130 74 = some (.putfield 247, 11, 27) := by decide +kernel
theorem cd_i130_77 : cd_I 130 77 = some (.iconst 0, 0, 0) := by decide +kernel
theorem cd_i130_78 : cd_I 130 78 = some (.istore_n 3, 0, 0) := by decide +kernel
theorem cd_i130_79 : cd_I 130 79 = some (.iload_n 3, 0, 0) := by decide +kernel
theorem cd_i130_80 : cd_I 130 80 = some (.aload_n 0, 0, 0) := by decide +kernel
theorem cd_i130_81 : cd_I 130 81 = some (.getfield 207, 11, 19) := by decide +kernel
theorem cd_i130_84 : cd_I 130 84 = some (.if_icmp .ge 37, 121, 0) := by decide +kernel
theorem cd_i130_87 : cd_I 130 87 = some (.aload_n 0, 0, 0) := by decide +kernel
theorem cd_i130_88 : cd_I 130 88 = some (.getfield 247, 11, 27) := by decide +kernel
theorem cd_i130_91 : cd_I 130 91 = some (.bipush 10, 0, 0) := by decide +kernel
theorem cd_i130_93 : cd_I 130 93 = some (.if_icmp .ge 28, 121, 0) := by decide +kernel
theorem cd_i130_96 : cd_I 130 96 = some (.aload_n 0, 0, 0) := by decide +kernel
theorem cd_i130_97 : cd_I 130 97 = some (.aload_n 0, 0, 0) := by decide +kernel
theorem cd_i130_98 : cd_I 130 98 = some (.getfield 58, 11, 21) := by decide +kernel
theorem cd_i130_101 : cd_I 130 101 = some (.iload_n 3, 0, 0) := by decide +kernel
theorem cd_i130_102 : cd_I 130 102 = some (.iaload, 0, 0) := by decide +kernel
theorem cd_i130_103 : cd_I 130 103 = some (.iload_n 1, 0, 0) := by decide +kernel
theorem cd_i130_104 : cd_I 130 104 = some (.invokevirtual 192, 128, 2) := by decide +kernel
theorem cd_i130_107 : cd_I 130 107 = some (.ifCond .eq 8, 115, 0) := by decide +kernel
theorem cd_i130_110 : cd_I 130 110 = some (.aload_n 0, 0, 0) := by decide +kernel
theorem cd_i130_111 : cd_I 130 111 = some (.iload_n 3, 0, 0) := by decide +kernel
theorem cd_i130_112 : cd_I 130 112 = some (.invokevirtual 250, 145, 1) := by decide +kernel
theorem cd_i130_115 : cd_I 130 115 = some (.iinc 3 1, 0, 0) := by decide +kernel
theorem cd_i130_118 : cd_I 130 118 = some (.goto (-39), 79, 0) := by decide +kernel
theorem cd_i130_121 : cd_I 130 121 = some (.aload_n 0, 0, 0) := by decide +kernel
theorem cd_i130_122 : cd_I 130 122 = some (.getfield 247, 11, 27) := by decide +kernel
theorem cd_i130_125 : cd_I 130 125 = some (.ireturn, 0, 0) := by decide +kernel
theorem cd_i131_0 : cd_I 131 0 = some (.iconst 0, 0, 0) := by decide +kernel
theorem cd_i131_1 : cd_I 131 1 = some (.istore_n 1, 0, 0) := by decide +kernel
theorem cd_i131_2 : cd_I 131 2 = some (.iload_n 1, 0, 0) := by decide +kernel
theorem cd_i131_3 : cd_I 131 3 = some (.aload_n 0, 0, 0) := by decide +kernel
theorem cd_i131_4 : cd_I 131 4 = some (.getfield 183, 11, 15) := by decide +kernel
theorem cd_i131_7 : cd_I 131 7 = some (.if_icmp .ge 35, 42, 0) := by decide +kernel
theorem cd_i131_10 : cd_I 131 10 = some (.aload_n 0, 0, 0) := by decide +kernel
theorem cd_i131_11 : cd_I 131 11 = some (.iconst 0, 0, 0) := by decide +kernel
theorem cd_i131_12 : cd_I 131 12 = some (.putfield 201, 11, 25) := by decide +kernel
theorem cd_i131_15 : cd_I 131 15 = some (.aload_n 0, 0, 0) := by decide +kernel
theorem cd_i131_16 : cd_I 131 16 = some (.aload_n 0, 0, 0) := by decide +kernel
theorem cd_i131_17 : cd_I 131 17 = some (.getfield 45, 11, 16) := by decide +kernel
theorem cd_i131_20 : cd_I 131 20 = some (.iload_n 1, 0, 0) := by decide +kernel
theorem cd_i131_21 : cd_I 131 21 = some (.iaload, 0, 0) := by decide +kernel
theorem cd_i131_22 : cd_I 131 22 = some (.invokevirtual 222, 132, 1) := by decide +kernel
theorem cd_i131_25 : cd_I 131 25 = some (.aload_n 0, 0, 0) := by decide +kernel
theorem cd_i131_26 : cd_I 131 26 = some (.iconst 0, 0, 0) := by decide +kernel
theorem cd_i131_27 : cd_I 131 27 = some (.aload_n 0, 0, 0) := by decide +kernel
theorem cd_i131_28 : cd_I 131 28 = some (.getfield 48, 11, 17) := by decide +kernel
theorem cd_i131_31 : cd_I 131 31 = some (.iload_n 1, 0, 0) := by decide +kernel
theorem cd_i131_32 : cd_I 131 32 = some (.iaload, 0, 0) := by decide +kernel
theorem cd_i131_33 : cd_I 131 33 = some (.invokevirtual 232, 134, 2) := by decide +kernel
theorem cd_i131_36 : cd_I 131 36 = some (.iinc 1 1, 0, 0) := by decide +kernel
theorem cd_i131_39 : cd_I 131 39 = some (.goto (-37), 2, 0) := by decide +kernel
theorem cd_i131_42 : cd_I 131 42 = some (.return_, 0, 0) := by decide +kernel
theorem cd_i132_0 : cd_I 132 0 = some (.iconst 1, 0, 0) := by decide +kernel
theorem cd_i132_1 : cd_I 132 1 = some (.istore_n 2, 0, 0) := by decide +kernel
theorem cd_i132_2 : cd_I 132 2 = some (.iload_n 2, 0, 0) := by decide +kernel
theorem cd_i132_3 : cd_I 132 3 = some (.iload_n 1, 0, 0) := by decide +kernel
theorem cd_i132_4 : cd_I 132 4 = some (.bipush 27, 0, 0) := by decide +kernel
theorem cd_i132_6 : cd_I 132 6 = some (.idiv, 0, 0) := by decide +kernel
theorem cd_i132_7 : cd_I 132 7 = some (.if_icmp .gt 11, 18, 0) := by decide +kernel
theorem cd_i132_10 : cd_I 132 10 = some (.iload_n 2, 0, 0) := by decide +kernel
theorem cd_i132_11 : cd_I 132 11 = some (.bipush 27, 0, 0) := by decide +kernel
theorem cd_i132_13 : cd_I 132 13 = some (.imul, 0, 0) := by decide +kernel
theorem cd_i132_14 : cd_I 132 14 = some (.istore_n 2, 0, 0) := by decide +kernel
theorem cd_i132_15 : cd_I 132 15 = some (.goto (-13), 2, 0) := by decide +kernel
theorem cd_i132_18 : cd_I 132 18 = some (.iload_n 2, 0, 0) := by decide +kernel
theorem cd_i132_19 : cd_I 132 19 = some (.istore_n 3, 0, 0) := by decide +kernel
theorem cd_i132_20 : cd_I 132 20 = some (.iload_n 3, 0, 0) := by decide +kernel
theorem cd_i132_21 : cd_I 132 21 = some (.ifCond .le 25, 46, 0) := by decide +kernel
theorem cd_i132_24 : cd_I 132 24 = some (.aload_n 0, 0, 0) := by decide +kernel
theorem cd_i132_25 : cd_I 132 25 = some (.bipush 96, 0, 0) := by decide +kernel
theorem cd_i132_27 : cd_I 132 27 = some (.iload_n 1, 0, 0) := by decide +kernel
theorem cd_i132_28 : cd_I 132 28 = some (.iload_n 3, 0, 0) := by decide +kernel
theorem cd_i132_29 : cd_I 132 29 = some (.idiv, 0, 0) := by decide +kernel
theorem cd_i132_30 : cd_I 132 30 = some (.bipush 27, 0, 0) := by decide +kernel
theorem cd_i132_32 : cd_I 132 32 = some (.irem, 0, 0) := by decide +kernel
theorem cd_i132_33 : cd_I 132 33 = some (.iadd, 0, 0) := by decide +kernel
theorem cd_i132_34 : cd_I 132 34 = some (.i2c, 0, 0) := by decide +kernel
theorem cd_i132_35 : cd_I 132 35 = some (.invokevirtual 204, 133, 1) := by decide +kernel
theorem cd_i132_38 : cd_I 132 38 = some (.iload_n 3, 0, 0) := by decide +kernel
theorem cd_i132_39 : cd_I 132 39 = some (.bipush 27, 0, 0) := by decide +kernel
theorem cd_i132_41 : cd_I 132 41 = some (.idiv, 0, 0) := by decide +kernel
theorem cd_i132_42 : cd_I 132 42 = some (.istore_n 3, 0, 0) := by decide +kernel
theorem cd_i132_43 : cd_I 132 43 = some (.goto (-23), 20, 0) := by decide +kernel
theorem cd_i132_46 : cd_I 132 46 = some (.return_, 0, 0) := by decide +kernel
theorem cd_i133_0 : cd_I 133 0 = some (.aload_n 0, 0, 0) := by decide +kernel
theorem cd_i133_1 : cd_I 133 1 = some (.getfield 201, 11, 25) := by decide +kernel
theorem cd_i133_4 : cd_I 133 4 = some (.sipush 200, 0, 0) := by decide +kernel
theorem cd_i133_7 : cd_I 133 7 = some (.if_icmp .ge 13, 20, 0) := by decide +kernel
theorem cd_i133_10 : cd_I 133 10 = some (.aload_n 0, 0, 0) := by decide +kernel
theorem cd_i133_11 : cd_I 133 11 = some (.getfield 67, 11, 26) := by decide +kernel
theorem cd_i133_14 : cd_I 133 14 = some (.aload_n 0, 0, 0) := by decide +kernel
theorem cd_i133_15 : cd_I 133 15 = some (.getfield 201, 11, 25) := by decide +kernel
theorem cd_i133_18 : cd_I 133 18 = some (.iload_n 1, 0, 0) := by decide +kernel
theorem cd_i133_19 : cd_I 133 19 = some (.castore, 0, 0) := by decide +kernel
theorem cd_i133_20 : cd_I 133 20 = some (.aload_n 0, 0, 0) := by decide +kernel
theorem cd_i133_21 : cd_I 133 21 = some (.dup, 0, 0) := by decide +kernel
theorem cd_i133_22 : cd_I 133 22 = some (.getfield 201, 11, 25) := by decide +kernel
theorem cd_i133_25 : cd_I 133 25 = some (.iconst 1, 0, 0) := by decide +kernel
theorem cd_i133_26 : cd_I 133 26 = some (.iadd, 0, 0) := by decide +kernel
theorem cd_i133_27 : cd_I 133 27 = some (.putfield 201, 11, 25) := by decide +kernel
theorem cd_i133_30 : cd_I 133 30 = some (.return_, 0, 0) := by decide +kernel
theorem cd_i134_0 : cd_I 134 0 = some (.aload_n 0, 0, 0) := by decide +kernel
theorem cd_i134_1 : cd_I 134 1 = some (.getfield 201, 11, 25) := by decide +kernel
theorem cd_i134_4 : cd_I 134 4 = some (.bipush 24, 0, 0) := by decide +kernel
theorem cd_i134_6 : cd_I 134 6 = some (.if_icmp .le 4, 10, 0) := by decide +kernel
theorem cd_i134_9 : cd_I 134 9 = some (.return_, 0, 0) := by decide +kernel
theorem cd_i134_10 : cd_I 134 10 = some (.aload_n 0, 0, 0) := by decide +kernel
theorem cd_i134_11 : cd_I 134 11 = some (.getfield 207, 11, 19) := by decide +kernel
theorem cd_i134_14 : cd_I 134 14 = some (.istore_n 3, 0, 0) := by decide +kernel
theorem cd_i134_15 : cd_I 134 15 = some (.iload_n 3, 0, 0) := by decide +kernel
theorem cd_i134_16 : cd_I 134 16 = some (.aload_n 0, 0, 0) := by decide +kernel
theorem cd_i134_17 : cd_I 134 17 = some (.getfield 210, 11, 24) := by decide +kernel
theorem cd_i134_20 : cd_I 134 20 = some (.if_icmp .le 19, 39, 0) := by decide +kernel
theorem cd_i134_23 : cd_I 134 23 = some (.aload_n 0, 0, 0) := by decide +kernel
theorem cd_i134_24 : cd_I 134 24 = some (.iload_n 3, 0, 0) := by decide +kernel
theorem cd_i134_25 : cd_I 134 25 = some (.iconst 1, 0, 0) := by decide +kernel
theorem cd_i134_26 : cd_I 134 26 = some (.isub, 0, 0) := by decide +kernel
theorem cd_i134_27 : cd_I 134 27 = some (.invokevirtual 213, 135, 1) := by decide +kernel
theorem cd_i134_30 : cd_I 134 30 = some (.ifCond .eq 9, 39, 0) := by decide +kernel
theorem cd_i134_33 : cd_I 134 33 = some (.iinc 3 (-1), 0, 0) := by decide +kernel
theorem cd_i134_36 : cd_I 134 36 = some (.goto (-21), 15, 0) := by decide +kernel
theorem cd_i134_39 : cd_I 134 39 = some (.iload_n 3, 0, 0) := by decide +kernel
theorem cd_i134_40 : cd_I 134 40 = some (.aload_n 0, 0, 0) := by decide +kernel
theorem cd_i134_41 : cd_I 134 41 = some (.getfield 210, 11, 24) := by decide +kernel
theorem cd_i134_44 : cd_I 134 44 = some (.isub, 0, 0) := by decide +kernel
theorem cd_i134_45 : cd_I 134 45 = some (.bipush 7, 0, 0) := by decide +kernel
theorem cd_i134_47 : cd_I 134 47 = some (.if_icmp .le 4, 51, 0) := by decide +kernel
theorem cd_i134_50 : cd_I 134 50 = some (.return_, 0, 0) := by decide +kernel
theorem cd_i134_51 : cd_I 134 51 = some (.aload_n 0, 0, 0) := by decide +kernel
theorem cd_i134_52 : cd_I 134 52 = some (.getfield 207, 11, 19) := by decide +kernel
theorem cd_i134_55 : cd_I 134 55 = some (.istore 4, 0, 0) := by decide +kernel
theorem cd_i134_57 : cd_I 134 57 = some (.iload 4, 0, 0) := by decide +kernel
theorem cd_i134_59 : cd_I 134 59 = some (.iload_n 3, 0, 0) := by decide +kernel
theorem cd_i134_60 : cd_I 134 60 = some (.if_icmp .le 19, 79, 0) := by decide +kernel
theorem cd_i134_63 : cd_I 134 63 = some (.aload_n 0, 0, 0) := by decide +kernel
theorem cd_i134_64 : cd_I 134 64 = some (.iload 4, 0, 0) := by decide +kernel
theorem cd_i134_66 : cd_I 134 66 = some (.iconst 1, 0, 0) := by decide +kernel
theorem cd_i134_67 : cd_I 134 67 = some (.isub, 0, 0) := by decide +kernel
theorem cd_i134_68 : cd_I 134 68 = some (.iload 4, 0, 0) := by decide +kernel
theorem cd_i134_70 : cd_I 134 70 = some (.invokevirtual 216, 136, 2) := by decide +kernel
theorem cd_i134_73 : cd_I 134 73 = some (.iinc 4 (-1), 0, 0) := by decide +kernel
theorem cd_i134_76 : cd_I 134 76 = some (.goto (-19), 57, 0) := by decide +kernel
theorem cd_i134_79 : cd_I 134 79 = some (.aload_n 0, 0, 0) := by decide +kernel
theorem cd_i134_80 : cd_I 134 80 = some (.getfield 55, 11, 20) := by decide +kernel
theorem cd_i134_83 : cd_I 134 83 = some (.iload_n 3, 0, 0) := by decide +kernel
theorem cd_i134_84 : cd_I 134 84 = some (.iload_n 1, 0, 0) := by decide +kernel
theorem cd_i134_85 : cd_I 134 85 = some (.iastore, 0, 0) := by decide +kernel
theorem cd_i134_86 : cd_I 134 86 = some (.aload_n 0, 0, 0) := by decide +kernel
theorem cd_i134_87 : cd_I 134 87 = some (.getfield 58, 11, 21) := by decide +kernel
theorem cd_i134_90 : cd_I 134 90 = some (.iload_n 3, 0, 0) := by decide +kernel
theorem cd_i134_91 : cd_I 134 91 = some (.iload_n 2, 0, 0) := by decide +kernel
theorem cd_i134_92 : cd_I 134 92 = some (.iastore, 0, 0) := by decide +kernel
theorem cd_i134_93 : cd_I 134 93 = some (.aload_n 0, 0, 0) := by decide +kernel
theorem cd_i134_94 : cd_I 134 94 = some (.getfield 61, 11, 22) := by decide +kernel
theorem cd_i134_97 : cd_I 134 97 = some (.iload_n 3, 0, 0) := by decide +kernel
theorem cd_i134_98 : cd_I 134 98 = some (.aload_n 0, 0, 0) := by decide +kernel
theorem cd_i134_99 : cd_I 134 99 = some (.getfield 201, 11, 25) := by decide +kernel
theorem cd_i134_102 : cd_I 134 102 = some (.iastore, 0, 0) := by decide +kernel
theorem cd_i134_103 : cd_I 134 103 = some (.iconst 0, 0, 0) := by decide +kernel
theorem cd_i134_104 : cd_I 134 104 = some (.istore 4, 0, 0) := by decide +kernel
theorem cd_i134_106 : cd_I 134 106 = some (.iload 4, 0, 0) := by decide +kernel
theorem cd_i134_108 : cd_I 134 108 = some (.aload_n 0, 0, 0) := by decide +kernel
theorem cd_i134_109 : cd_I 134 109 = some (.getfield 201, 11, 25) := by decide +kernel
theorem cd_i134_112 : cd_I 134 112 = some (.if_icmp .ge 28, 140, 0) := by decide +kernel
theorem cd_i134_115 : cd_I 134 115 = some (.aload_n 0, 0, 0) := by decide +kernel
theorem cd_i134_116 : cd_I 134 116 = some (.getfield 64, 11, 23) := by decide +kernel
theorem cd_i134_119 : cd_I 134 119 = some (.bipush 24, 0, 0) := by decide +kernel
theorem cd_i134_121 : cd_I 134 121 = some (.iload_n 3, 0, 0) := by decide +kernel
theorem cd_i134_122 : cd_I 134 122 = some (.imul, 0, 0) := by decide +kernel
theorem cd_i134_123 : cd_I 134 123 = some (.iload 4, 0, 0) := by decide +kernel
theorem cd_i134_125 : cd_I 134 125 = some (.iadd, 0, 0) := by decide +kernel
theorem cd_i134_126 : cd_I 134 126 = some (.aload_n 0, 0, 0) := by decide +kernel
theorem cd_i134_127 : cd_I 134 127 = some (.getfield 67, 11, 26) := by decide +kernel
theorem cd_i134_130 : cd_I 134 130 = some (.iload 4, 0, 0) := by decide +kernel
theorem cd_i134_132 : cd_I 134 132 = some (.caload, 0, 0) := by decide +kernel
theorem cd_i134_133 : cd_I 134 133 = some (.castore, 0, 0) := by decide +kernel
theorem cd_i134_134 : cd_I 134 134 = some (.iinc 4 1, 0, 0) := by decide +kernel
theorem cd_i134_137 : cd_I 134 137 = some (.goto (-31), 106, 0) := by decide +kernel
theorem cd_i134_140 : cd_I 134 140 = some (.aload_n 0, 0, 0) := by decide +kernel
theorem cd_i134_141 : cd_I 134 141 = some (.aload_n 0, 0, 0) := by decide +kernel
theorem cd_i134_142 : cd_I 134 142 = some (.getfield 207, 11, 19) := by decide +kernel
theorem cd_i134_145 : cd_I 134 145 = some (.aload_n 0, 0, 0) := by decide +kernel
theorem cd_i134_146 : cd_I 134 146 = some (.getfield 210, 11, 24) := by decide +kernel
theorem cd_i134_149 : cd_I 134 149 = some (.isub, 0, 0) := by decide +kernel
theorem cd_i134_150 : cd_I 134 150 = some (.bipush 8, 0, 0) := by decide +kernel
theorem cd_i134_152 : cd_I 134 152 = some (.if_icmp .ge 12, 164, 0) := by decide +kernel
theorem cd_i134_155 : cd_I 134 155 = some (.aload_n 0, 0, 0) := by decide +kernel
theorem cd_i134_156 : cd_I 134 156 = some (.getfield 207, 11, 19) := by decide +kernel
theorem cd_i134_159 : cd_I 134 159 = some (.iconst 1, 0, 0) := by decide +kernel
theorem cd_i134_160 : cd_I 134 160 = some (.iadd, 0, 0) := by decide +kernel
theorem cd_i134_161 : cd_I 134 161 = some (.goto 7, 168, 0) := by decide +kernel
theorem cd_i134_164 : cd_I 134 164 = some (.aload_n 0, 0, 0) := by decide +kernel
theorem cd_i134_165 : cd_I 134 165 = some (.getfield 207, 11, 19) := by decide +kernel
theorem cd_i134_168 : cd_I 134 168 = some (.putfield 207, 11, 19) := by decide +kernel
theorem cd_i134_171 : cd_I 134 171 = some (.return_, 0, 0) := by decide +kernel
theorem cd_i135_0 : cd_I 135 0 = some (.iconst 0, 0, 0) := by decide +kernel
theorem cd_i135_1 : cd_I 135 1 = some (.istore_n 2, 0, 0) := by decide +kernel
theorem cd_i135_2 : cd_I 135 2 = some (.iload_n 2, 0, 0) := by decide +kernel
theorem cd_i135_3 : cd_I 135 3 = some (.aload_n 0, 0, 0) := by decide +kernel
theorem cd_i135_4 : cd_I 135 4 = some (.getfield 201, 11, 25) := by decide +kernel
theorem cd_i135_7 : cd_I 135 7 = some (.if_icmp .ge 65, 72, 0) := by decide +kernel
theorem cd_i135_10 : cd_I 135 10 = some (.iload_n 2, 0, 0) := by decide +kernel
theorem cd_i135_11 : cd_I 135 11 = some (.aload_n 0, 0, 0) := by decide +kernel
theorem cd_i135_12 : cd_I 135 12 = some (.getfield 61, 11, 22) := by decide +kernel
theorem cd_i135_15 : cd_I 135 15 = some (.iload_n 1, 0, 0) := by decide +kernel
theorem cd_i135_16 : cd_I 135 16 = some (.iaload, 0, 0) := by decide +kernel
theorem cd_i135_17 : cd_I 135 17 = some (.if_icmp .ge 55, 72, 0) := by decide +kernel
theorem cd_i135_20 : cd_I 135 20 = some (.aload_n 0, 0, 0) := by decide +kernel
theorem cd_i135_21 : cd_I 135 21 = some (.getfield 67, 11, 26) := by decide +kernel
theorem cd_i135_24 : cd_I 135 24 = some (.iload_n 2, 0, 0) := by decide +kernel
theorem cd_i135_25 : cd_I 135 25 = some (.caload, 0, 0) := by decide +kernel
theorem cd_i135_26 : cd_I 135 26 = some (.aload_n 0, 0, 0) := by decide +kernel
theorem cd_i135_27 : cd_I 135 27 = some (.getfield 64, 11, 23) := by decide +kernel
theorem cd_i135_30 : cd_I 135 30 = some (.bipush 24, 0, 0) := by decide +kernel
theorem cd_i135_32 : cd_I 135 32 = some (.iload_n 1, 0, 0) := by decide +kernel
theorem cd_i135_33 : cd_I 135 33 = some (.imul, 0, 0) := by decide +kernel
theorem cd_i135_34 : cd_I 135 34 = some (.iload_n 2, 0, 0) := by decide +kernel
theorem cd_i135_35 : cd_I 135 35 = some (.iadd, 0, 0) := by decide +kernel
theorem cd_i135_36 : cd_I 135 36 = some (.caload, 0, 0) := by decide +kernel
theorem cd_i135_37 : cd_I 135 37 = some (.if_icmp .eq 29, 66, 0) := by decide +kernel
theorem cd_i135_40 : cd_I 135 40 = some (.aload_n 0, 0, 0) := by decide +kernel
theorem cd_i135_41 : cd_I 135 41 = some (.getfield 67, 11, 26) := by decide +kernel
theorem cd_i135_44 : cd_I 135 44 = some (.iload_n 2, 0, 0) := by decide +kernel
theorem cd_i135_45 : cd_I 135 45 = some (.caload, 0, 0) := by decide +kernel
theorem cd_i135_46 : cd_I 135 46 = some (.aload_n 0, 0, 0) := by decide +kernel
theorem cd_i135_47 : cd_I 135 47 = some (.getfield 64, 11, 23) := by decide +kernel
theorem cd_i135_50 : cd_I 135 50 = some (.bipush 24, 0, 0) := by decide +kernel
theorem cd_i135_52 : cd_I 135 52 = some (.iload_n 1, 0, 0) := by decide +kernel
theorem cd_i135_53 : cd_I 135 53 = some (.imul, 0, 0) := by decide +kernel
theorem cd_i135_54 : cd_I 135 54 = some (.iload_n 2, 0, 0) := by decide +kernel
theorem cd_i135_55 : cd_I 135 55 = some (.iadd, 0, 0) := by decide +kernel
theorem cd_i135_56 : cd_I 135 56 = some (.caload, 0, 0) := by decide +kernel
theorem cd_i135_57 : cd_I 135 57 = some (.if_icmp .ge 7, 64, 0) := by decide +kernel
theorem cd_i135_60 : cd_I 135 60 = some (.iconst 1, 0, 0) := by decide +kernel
theorem cd_i135_61 : cd_I 135 61 = some (.goto 4, 65, 0) := by decide +kernel
theorem cd_i135_64 : cd_I 135 64 = some (.iconst 0, 0, 0) := by decide +kernel
theorem cd_i135_65 : cd_I 135 65 = some (.ireturn, 0, 0) := by decide +kernel
theorem cd_i135_66 : cd_I 135 66 = some (.iinc 2 1, 0, 0) := by decide +kernel
theorem cd_i135_69 : cd_I 135 69 = some (.goto (-67), 2, 0) := by decide +kernel
theorem cd_i135_72 : cd_I 135 72 = some (.aload_n 0, 0, 0) := by decide +kernel
theorem cd_i135_73 : cd_I 135 73 = some (.getfield 201, 11, 25) := by decide +kernel
theorem cd_i135_76 : cd_I 135 76 = some (.aload_n 0, 0, 0) := by decide +kernel
theorem cd_i135_77 : cd_I 135 77 = some (.getfield 61, 11, 22) := by decide +kernel
theorem cd_i135_80 : cd_I 135 80 = some (.iload_n 1, 0, 0) := by decide +kernel
theorem cd_i135_81 : cd_I 135 81 = some (.iaload, 0, 0) := by decide +kernel
theorem cd_i135_82 : cd_I 135 82 = some (.if_icmp .ge 7, 89, 0) := by decide +kernel
theorem cd_i135_85 : cd_I 135 85 = some (.iconst 1, 0, 0) := by decide +kernel
theorem cd_i135_86 : cd_I 135 86 = some (.goto 4, 90, 0) := by decide +kernel
theorem cd_i135_89 : cd_I 135 89 = some (.iconst 0, 0, 0) := by decide +kernel
theorem cd_i135_90 : cd_I 135 90 = some (.ireturn, 0, 0) := by decide +kernel
theorem cd_i136_0 : cd_I 136 0 = some (.aload_n 0, 0, 0) := by decide +kernel
theorem cd_i136_1 : cd_I 136 1 = some (.getfield 55, 11, 20) := by decide +kernel
theorem cd_i136_4 : cd_I 136 4 = some (.iload_n 2, 0, 0) := by decide +kernel
theorem cd_i136_5 : cd_I 136 5 = some (.aload_n 0, 0, 0) := by decide +kernel
theorem cd_i136_6 : cd_I 136 6 = some (.getfield 55, 11, 20) := by decide +kernel
theorem cd_i136_9 : cd_I 136 9 = some (.iload_n 1, 0, 0) := by decide +kernel
theorem cd_i136_10 : cd_I 136 10 = some (.iaload, 0, 0) := by decide +kernel
theorem cd_i136_11 : cd_I 136 11 = some (.iastore, 0, 0) := by decide +kernel
theorem cd_i136_12 : cd_I 136 12 = some (.aload_n 0, 0, 0) := by decide +kernel
theorem cd_i136_13 : cd_I 136 13 = some (.getfield 58, 11, 21) := by decide +kernel
theorem cd_i136_16 : cd_I 136 16 = some (.iload_n 2, 0, 0) := by decide +kernel
theorem cd_i136_17 : cd_I 136 17 = some (.aload_n 0, 0, 0) := by decide +kernel
theorem cd_i136_18 : cd_I 136 18 = some (.getfield 58, 11, 21) := by decide +kernel
theorem cd_i136_21 : cd_I 136 21 = some (.iload_n 1, 0, 0) := by decide +kernel
theorem cd_i136_22 : cd_I 136 22 = some (.iaload, 0, 0) := by decide +kernel
theorem cd_i136_23 : cd_I 136 23 = some (.iastore, 0, 0) := by decide +kernel
theorem cd_i136_24 : cd_I 136 24 = some (.aload_n 0, 0, 0) := by decide +kernel
theorem cd_i136_25 : cd_I 136 25 = some (.getfield 61, 11, 22) := by decide +kernel
theorem cd_i136_28 : cd_I 136 28 = some (.iload_n 2, 0, 0) := by decide +kernel
theorem cd_i136_29 : cd_I 136 29 = some (.aload_n 0, 0, 0) := by decide +kernel
theorem cd_i136_30 : cd_I 136 30 = some (.getfield 61, 11, 22) := by decide +kernel
theorem cd_i136_33 : cd_I 136 33 = some (.iload_n 1, 0, 0) := by decide +kernel
theorem cd_i136_34 : cd_I 136 34 = some (.iaload, 0, 0) := by decide +kernel
theorem cd_i136_35 : cd_I 136 35 = some (.iastore, 0, 0) := by decide +kernel
theorem cd_i136_36 : cd_I 136 36 = some (.iconst 0, 0, 0) := by decide +kernel
theorem cd_i136_37 : cd_I 136 37 = some (.istore_n 3, 0, 0) := by decide +kernel
theorem cd_i136_38 : cd_I 136 38 = some (.iload_n 3, 0, 0) := by decide +kernel
theorem cd_i136_39 : cd_I 136 39 = some (.bipush 24, 0, 0) := by decide +kernel
theorem cd_i136_41 : cd_I 136 41 = some (.if_icmp .ge 31, 72, 0) := by decide +kernel
theorem cd_i136_44 : cd_I 136 44 = some (.aload_n 0, 0, 0) := by decide +kernel
theorem cd_i136_45 : cd_I 136 45 = some (.getfield 64, 11, 23) := by decide +kernel
theorem cd_i136_48 : cd_I 136 48 = some (.bipush 24, 0, 0) := by decide +kernel
theorem cd_i136_50 : cd_I 136 50 = some (.iload_n 2, 0, 0) := by decide +kernel
theorem cd_i136_51 : cd_I 136 51 = some (.imul, 0, 0) := by decide +kernel
theorem cd_i136_52 : cd_I 136 52 = some (.iload_n 3, 0, 0) := by decide +kernel
theorem cd_i136_53 : cd_I 136 53 = some (.iadd, 0, 0) := by decide +kernel
theorem cd_i136_54 : cd_I 136 54 = some (.aload_n 0, 0, 0) := by decide +kernel
theorem cd_i136_55 : cd_I 136 55 = some (.getfield 64, 11, 23) := by decide +kernel
theorem cd_i136_58 : cd_I 136 58 = some (.bipush 24, 0, 0) := by decide +kernel
theorem cd_i136_60 : cd_I 136 60 = some (.iload_n 1, 0, 0) := by decide +kernel
theorem cd_i136_61 : cd_I 136 61 = some (.imul, 0, 0) := by decide +kernel
theorem cd_i136_62 : cd_I 136 62 = some (.iload_n 3, 0, 0) := by decide +kernel
theorem cd_i136_63 : cd_I 136 63 = some (.iadd, 0, 0) := by decide +kernel
theorem cd_i136_64 : cd_I 136 64 = some (.caload, 0, 0) := by decide +kernel
theorem cd_i136_65 : cd_I 136 65 = some (.castore, 0, 0) := by decide +kernel
theorem cd_i136_66 : cd_I 136 66 = some (.iinc 3 1, 0, 0) := by decide +kernel
theorem cd_i136_69 : cd_I 136 69 = some (.goto (-31), 38, 0) := by decide +kernel
theorem cd_i136_72 : cd_I 136 72 = some (.return_, 0, 0) := by decide +kernel
theorem cd_i137_0 : cd_I 137 0 = some (.aload_n 0, 0, 0) := by decide +kernel
theorem cd_i137_1 : cd_I 137 1 = some (.getfield 207, 11, 19) := by decide +kernel
theorem cd_i137_4 : cd_I 137 4 = some (.istore_n 2, 0, 0) := by decide +kernel
theorem cd_i137_5 : cd_I 137 5 = some (.iconst 0, 0, 0) := by decide +kernel
theorem cd_i137_6 : cd_I 137 6 = some (.istore_n 3, 0, 0) := by decide +kernel
theorem cd_i137_7 : cd_I 137 7 = some (.iload_n 3, 0, 0) := by decide +kernel
theorem cd_i137_8 : cd_I 137 8 = some (.bipush 60, 0, 0) := by decide +kernel
theorem cd_i137_10 : cd_I 137 10 = some (.if_icmp .ge 129, 139, 0) := by decide +kernel
theorem cd_i137_13 : cd_I 137 13 = some (.aload_n 0, 0, 0) := by decide +kernel
theorem cd_i137_14 : cd_I 137 14 = some (.getfield 13, 11, 5) := by decide +kernel
theorem cd_i137_17 : cd_I 137 17 = some (.iload_n 3, 0, 0) := by decide +kernel
theorem cd_i137_18 : cd_I 137 18 = some (.bipush 6, 0, 0) := by decide +kernel
theorem cd_i137_20 : cd_I 137 20 = some (.idiv, 0, 0) := by decide +kernel
theorem cd_i137_21 : cd_I 137 21 = some (.baload, 0, 0) := by decide +kernel
theorem cd_i137_22 : cd_I 137 22 = some (.ifCond .eq 23, 45, 0) := by decide +kernel
theorem cd_i137_25 : cd_I 137 25 = some (.iload_n 3, 0, 0) := by decide +kernel
theorem cd_i137_26 : cd_I 137 26 = some (.bipush 6, 0, 0) := by decide +kernel
theorem cd_i137_28 : cd_I 137 28 = some (.irem, 0, 0) := by decide +kernel
theorem cd_i137_29 : cd_I 137 29 = some (.aload_n 0, 0, 0) := by decide +kernel
theorem cd_i137_30 : cd_I 137 30 = some (.getfield 21, 11, 7) := by decide +kernel
theorem cd_i137_33 : cd_I 137 33 = some (.iload_n 3, 0, 0) := by decide +kernel
theorem cd_i137_34 : cd_I 137 34 = some (.bipush 6, 0, 0) := by decide +kernel
theorem cd_i137_36 : cd_I 137 36 = some (.idiv, 0, 0) := by decide +kernel
theorem cd_i137_37 : cd_I 137 37 = some (.iaload, 0, 0) := by decide +kernel
theorem cd_i137_38 : cd_I 137 38 = some (.if_icmp .ge 7, 45, 0) := by decide +kernel
theorem cd_i137_41 : cd_I 137 41 = some (.iconst 1, 0, 0) := by decide +kernel
theorem cd_i137_42 : cd_I 137 42 = some (.goto 4, 46, 0) := by decide +kernel
theorem cd_i137_45 : cd_I 137 45 = some (.iconst 0, 0, 0) := by decide +kernel
theorem cd_i137_46 : cd_I 137 46 = some (.istore 4, 0, 0) := by decide +kernel
theorem cd_i137_48 : cd_I 137 48 = some (.iload 4, 0, 0) := by decide +kernel
theorem cd_i137_50 : cd_I 137 50 = some (.ifCond .eq 28, 78, 0) := by decide +kernel
theorem cd_i137_53 : cd_I 137 53 = some (.aload_n 0, 0, 0) := by decide +kernel
theorem cd_i137_54 : cd_I 137 54 = some (.getfield 27, 11, 9) := by decide +kernel
theorem cd_i137_57 : cd_I 137 57 = some (.iload_n 3, 0, 0) := by decide +kernel
theorem cd_i137_58 : cd_I 137 58 = some (.baload, 0, 0) := by decide +kernel
theorem cd_i137_59 : cd_I 137 59 = some (.ifCond .eq 19, 78, 0) := by decide +kernel
theorem cd_i137_62 : cd_I 137 62 = some (.aload_n 0, 0, 0) := by decide +kernel
theorem cd_i137_63 : cd_I 137 63 = some (.iload_n 3, 0, 0) := by decide +kernel
theorem cd_i137_64 : cd_I 137 64 = some (.invokevirtual 195, 138, 1) := by decide +kernel
theorem cd_i137_67 : cd_I 137 67 = some (.ifCond .eq 11, 78, 0) := by decide +kernel
theorem cd_i137_70 : cd_I 137 70 = some (.aload_n 0, 0, 0) := by decide +kernel
theorem cd_i137_71 : cd_I 137 71 = some (.iload_n 3, 0, 0) := by decide +kernel
theorem cd_i137_72 : cd_I 137 72 = some (.iconst (-1), 0, 0) := by decide +kernel
theorem cd_i137_73 : cd_I 137 73 = some (.iload_n 1, 0, 0) := by decide +kernel
theorem cd_i137_74 : cd_I 137 74 = some (.iload_n 2, 0, 0) := by decide +kernel
theorem cd_i137_75 : cd_I 137 75 = some (.invokevirtual 235, 139, 4) := by decide +kernel
theorem cd_i137_78 : cd_I 137 78 = some (.iconst 0, 0, 0) := by decide +kernel
theorem cd_i137_79 : cd_I 137 79 = some (.istore 5, 0, 0) := by decide +kernel
theorem cd_i137_81 : cd_I 137 81 = some (.iload 5, 0, 0) := by decide +kernel
theorem cd_i137_83 : cd_I 137 83 = some (.iload_n 2, 0, 0) := by decide +kernel
theorem cd_i137_84 : cd_I 137 84 = some (.if_icmp .ge 49, 133, 0) := by decide +kernel
theorem cd_i137_87 : cd_I 137 87 = some (.iload 4, 0, 0) := by decide +kernel
theorem cd_i137_89 : cd_I 137 89 = some (.ifCond .eq 44, 133, 0) := by decide +kernel
theorem cd_i137_92 : cd_I 137 92 = some (.aload_n 0, 0, 0) := by decide +kernel
theorem cd_i137_93 : cd_I 137 93 = some (.getfield 55, 11, 20) := by decide +kernel
theorem cd_i137_96 : cd_I 137 96 = some (.iload 5, 0, 0) := by decide +kernel
theorem cd_i137_98 : cd_I 137 98 = some (.iaload, 0, 0) := by decide +kernel
theorem cd_i137_99 : cd_I 137 99 = some (.iload_n 1, 0, 0) := by decide +kernel
theorem cd_i137_100 : cd_I 137 100 = some (.if_icmp .ge 27, 127, 0) := by decide +kernel
theorem cd_i137_103 : cd_I 137 103 = some (.aload_n 0, 0, 0) := by decide +kernel
theorem cd_i137_104 : cd_I 137 104 = some (.aload_n 0, 0, 0) := by decide +kernel
theorem cd_i137_105 : cd_I 137 105 = some (.getfield 58, 11, 21) := by decide +kernel
theorem cd_i137_108 : cd_I 137 108 = some (.iload 5, 0, 0) := by decide +kernel
theorem cd_i137_110 : cd_I 137 110 = some (.iaload, 0, 0) := by decide +kernel
theorem cd_i137_111 : cd_I 137 111 = some (.iload_n 3, 0, 0) := by decide +kernel
theorem cd_i137_112 : cd_I 137 112 = some (.invokevirtual 238, 143, 2) := by decide +kernel
theorem cd_i137_115 : cd_I 137 115 = some (.ifCond .eq 12, 127, 0) := by decide +kernel
theorem cd_i137_118 : cd_I 137 118 = some (.aload_n 0, 0, 0) := by decide +kernel
theorem cd_i137_119 : cd_I 137 119 = some (.iload_n 3, 0, 0) := by decide +kernel
theorem cd_i137_120 : cd_I 137 120 = some (.iload 5, 0, 0) := by decide +kernel
theorem cd_i137_122 : cd_I 137 122 = some (.iload_n 1, 0, 0) := by decide +kernel
theorem cd_i137_123 : cd_I 137 123 = some (.iload_n 2, 0, 0) := by decide +kernel
theorem cd_i137_124 : cd_I 137 124 = some (.invokevirtual 235, 139, 4) := by decide +kernel
theorem cd_i137_127 : cd_I 137 127 = some (.iinc 5 1, 0, 0) := by decide +kernel
theorem cd_i137_130 : cd_I 137 130 = some (.goto (-49), 81, 0) := by decide +kernel
theorem cd_i137_133 : cd_I 137 133 = some (.iinc 3 1, 0, 0) := by decide +kernel
theorem cd_i137_136 : cd_I 137 136 = some (.goto (-129), 7, 0) := by decide +kernel
theorem cd_i137_139 : cd_I 137 139 = some (.return_, 0, 0) := by decide +kernel
theorem cd_i138_0 : cd_I 138 0 = some (.aload_n 0, 0, 0) := by decide +kernel
theorem cd_i138_1 : cd_I 138 1 = some (.getfield 30, 11, 10) := by decide +kernel
theorem cd_i138_4 : cd_I 138 4 = some (.iload_n 1, 0, 0) := by decide +kernel
theorem cd_i138_5 : cd_I 138 5 = some (.baload, 0, 0) := by decide +kernel
theorem cd_i138_6 : cd_I 138 6 = some (.ifCond .eq 14, 20, 0) := by decide +kernel
theorem cd_i138_9 : cd_I 138 9 = some (.aload_n 0, 0, 0) := by decide +kernel
theorem cd_i138_10 : cd_I 138 10 = some (.getfield 51, 11, 18) := by decide +kernel
theorem cd_i138_13 : cd_I 138 13 = some (.iload_n 1, 0, 0) := by decide +kernel
theorem cd_i138_14 : cd_I 138 14 = some (.bipush 6, 0, 0) := by decide +kernel
theorem cd_i138_16 : cd_I 138 16 = some (.idiv, 0, 0) := by decide +kernel
theorem cd_i138_17 : cd_I 138 17 = some (.if_icmp .ne 7, 24, 0) := by decide +kernel
theorem cd_i138_20 : cd_I 138 20 = some (.iconst 1, 0, 0) := by decide +kernel
theorem cd_i138_21 : cd_I 138 21 = some (.goto 4, 25, 0) := by decide +kernel
theorem cd_i138_24 : cd_I 138 24 = some (.iconst 0, 0, 0) := by decide +kernel
theorem cd_i138_25 : cd_I 138 25 = some (.ireturn, 0, 0) := by decide +kernel
theorem cd_i139_0 : cd_I 139 0 = some (.iload_n 3, 0, 0) := by decide +kernel
theorem cd_i139_1 : cd_I 139 1 = some (.iconst 1, 0, 0) := by decide +kernel
theorem cd_i139_2 : cd_I 139 2 = some (.isub, 0, 0) := by decide +kernel
theorem cd_i139_3 : cd_I 139 3 = some (.aload_n 0, 0, 0) := by decide +kernel
theorem cd_i139_4 : cd_I 139 4 = some (.iload_n 2, 0, 0) := by decide +kernel
theorem cd_i139_5 : cd_I 139 5 = some (.invokevirtual 225, 140, 1) := by decide +kernel
theorem cd_i139_8 : cd_I 139 8 = some (.isub, 0, 0) := by decide +kernel
theorem cd_i139_9 : cd_I 139 9 = some (.istore 5, 0, 0) := by decide +kernel
theorem cd_i139_11 : cd_I 139 11 = some (.aload_n 0, 0, 0) := by decide +kernel
theorem cd_i139_12 : cd_I 139 12 = some (.getfield 39, 11, 13) := by decide +kernel
theorem cd_i139_15 : cd_I 139 15 = some (.iload_n 1, 0, 0) := by decide +kernel
theorem cd_i139_16 : cd_I 139 16 = some (.iaload, 0, 0) := by decide +kernel
theorem cd_i139_17 : cd_I 139 17 = some (.ifCond .le 8, 25, 0) := by decide +kernel
theorem cd_i139_20 : cd_I 139 20 = some (.iload 4, 0, 0) := by decide +kernel
theorem cd_i139_22 : cd_I 139 22 = some (.goto 4, 26, 0) := by decide +kernel
theorem cd_i139_25 : cd_I 139 25 = some (.iconst 1, 0, 0) := by decide +kernel
theorem cd_i139_26 : cd_I 139 26 = some (.istore 6, 0, 0) := by decide +kernel
theorem cd_i139_28 : cd_I 139 28 = some (.aload_n 0, 0, 0) := by decide +kernel
theorem cd_i139_29 : cd_I 139 29 = some (.getfield 39, 11, 13) := by decide +kernel
theorem cd_i139_32 : cd_I 139 32 = some (.iload_n 1, 0, 0) := by decide +kernel
theorem cd_i139_33 : cd_I 139 33 = some (.iaload, 0, 0) := by decide +kernel
theorem cd_i139_34 : cd_I 139 34 = some (.iconst 1, 0, 0) := by decide +kernel
theorem cd_i139_35 : cd_I 139 35 = some (.if_icmp .le 8, 43, 0) := by decide +kernel
theorem cd_i139_38 : cd_I 139 38 = some (.iload 4, 0, 0) := by decide +kernel
theorem cd_i139_40 : cd_I 139 40 = some (.goto 4, 44, 0) := by decide +kernel
theorem cd_i139_43 : cd_I 139 43 = some (.iconst 1, 0, 0) := by decide +kernel
theorem cd_i139_44 : cd_I 139 44 = some (.istore 7, 0, 0) := by decide +kernel
theorem cd_i139_46 : cd_I 139 46 = some (.iconst 0, 0, 0) := by decide +kernel
theorem cd_i139_47 : cd_I 139 47 = some (.istore 8, 0, 0) := by decide +kernel
theorem cd_i139_49 : cd_I 139 49 = some (.iload 8, 0, 0) := by decide +kernel
theorem cd_i139_51 : cd_I 139 51 = some (.iload 6, 0, 0) := by decide +kernel
theorem cd_i139_53 : cd_I 139 53 = some (.if_icmp .ge 172, 225, 0) := by decide +kernel
theorem cd_i139_56 : cd_I 139 56 = some (.aload_n 0, 0, 0) := by decide +kernel
theorem cd_i139_57 : cd_I 139 57 = some (.getfield 39, 11, 13) := by decide +kernel
theorem cd_i139_60 : cd_I 139 60 = some (.iload_n 1, 0, 0) := by decide +kernel
theorem cd_i139_61 : cd_I 139 61 = some (.iaload, 0, 0) := by decide +kernel
theorem cd_i139_62 : cd_I 139 62 = some (.ifCond .le 8, 70, 0) := by decide +kernel
theorem cd_i139_65 : cd_I 139 65 = some (.iload 8, 0, 0) := by decide +kernel
theorem cd_i139_67 : cd_I 139 67 = some (.goto 4, 71, 0) := by decide +kernel
theorem cd_i139_70 : cd_I 139 70 = some (.iconst (-1), 0, 0) := by decide +kernel
theorem cd_i139_71 : cd_I 139 71 = some (.istore 9, 0, 0) := by decide +kernel
theorem cd_i139_73 : cd_I 139 73 = some (.iload 9, 0, 0) := by decide +kernel
theorem cd_i139_75 : cd_I 139 75 = some (.iconst (-1), 0, 0) := by decide +kernel
theorem cd_i139_76 : cd_I 139 76 = some (.if_icmp .eq 25, 101, 0) := by decide +kernel
theorem cd_i139_79 : cd_I 139 79 = some (.aload_n 0, 0, 0) := by decide +kernel
theorem cd_i139_80 : cd_I 139 80 = some (.aload_n 0, 0, 0) := by decide +kernel
theorem cd_i139_81 : cd_I 139 81 = some (.getfield 58, 11, 21) := by decide +kernel
theorem cd_i139_84 : cd_I 139 84 = some (.iload 9, 0, 0) := by decide +kernel
theorem cd_i139_86 : cd_I 139 86 = some (.iaload, 0, 0) := by decide +kernel
theorem cd_i139_87 : cd_I 139 87 = some (.aload_n 0, 0, 0) := by decide +kernel
theorem cd_i139_88 : cd_I 139 88 = some (.getfield 42, 11, 14) := by decide +kernel
theorem cd_i139_91 : cd_I 139 91 = some (.iconst 2, 0, 0) := by decide +kernel
theorem cd_i139_92 : cd_I 139 92 = some (.iload_n 1, 0, 0) := by decide +kernel
theorem cd_i139_93 : cd_I 139 93 = some (.imul, 0, 0) := by decide +kernel
theorem cd_i139_94 : cd_I 139 94 = some (.iaload, 0, 0) := by decide +kernel
theorem cd_i139_95 : cd_I 139 95 = some (.invokevirtual 192, 128, 2) := by decide +kernel
theorem cd_i139_98 : cd_I 139 98 = some (.ifCond .eq 7, 105, 0) := by decide +kernel
theorem cd_i139_101 : cd_I 139 101 = some (.iconst 1, 0, 0) := by decide +kernel
theorem cd_i139_102 : cd_I 139 102 = some (.goto 4, 106, 0) := by decide +kernel
theorem cd_i139_105 : cd_I 139 105 = some (.iconst 0, 0, 0) := by decide +kernel
theorem cd_i139_106 : cd_I 139 106 = some (.istore 10, 0, 0) := by decide +kernel
theorem cd_i139_108 : cd_I 139 108 = some (.iconst 0, 0, 0) := by decide +kernel
theorem cd_i139_109 : cd_I 139 109 = some (.istore 11, 0, 0) := by decide +kernel
theorem cd_i139_111 : cd_I 139 111 = some (.iload 11, 0, 0) := by decide +kernel
theorem cd_i139_113 : cd_I 139 113 = some (.iload 7, 0, 0) := by decide +kernel
theorem cd_i139_115 : cd_I 139 115 = some (.if_icmp .ge 104, 219, 0) := by decide +kernel
theorem cd_i139_118 : cd_I 139 118 = some (.iload 10, 0, 0) := by decide +kernel
theorem cd_i139_120 : cd_I 139 120 = some (.ifCond .eq 99, 219, 0) := by decide +kernel
theorem cd_i139_123 : cd_I 139 123 = some (.aload_n 0, 0, 0) := by decide +kernel
theorem cd_i139_124 : cd_I 139 124 = some (.getfield 39, 11, 13) := by decide +kernel
theorem cd_i139_127 : cd_I 139 127 = some (.iload_n 1, 0, 0) := by decide +kernel
theorem cd_i139_128 : cd_I 139 128 = some (.iaload, 0, 0) := by decide +kernel
theorem cd_i139_129 : cd_I 139 129 = some (.iconst 1, 0, 0) := by decide +kernel
theorem cd_i139_130 : cd_I 139 130 = some (.if_icmp .le 8, 138, 0) := by decide +kernel
theorem cd_i139_133 : cd_I 139 133 = some (.iload 11, 0, 0) := by decide +kernel
theorem cd_i139_135 : cd_I 139 135 = some (.goto 4, 139, 0) := by decide +kernel
theorem cd_i139_138 : cd_I 139 138 = some (.iconst (-1), 0, 0) := by decide +kernel
theorem cd_i139_139 : cd_I 139 139 = some (.istore 12, 0, 0) := by decide +kernel
theorem cd_i139_141 : cd_I 139 141 = some (.aload_n 0, 0, 0) := by decide +kernel
theorem cd_i139_142 : cd_I 139 142 = some (.iload 9, 0, 0) := by decide +kernel
theorem cd_i139_144 : cd_I 139 144 = some (.invokevirtual 225, 140, 1) := by decide +kernel
theorem cd_i139_147 : cd_I 139 147 = some (.aload_n 0, 0, 0) := by decide +kernel
theorem cd_i139_148 : cd_I 139 148 = some (.iload 12, 0, 0) := by decide +kernel
theorem cd_i139_150 : cd_I 139 150 = some (.invokevirtual 225, 140, 1) := by decide +kernel
theorem cd_i139_153 : cd_I 139 153 = some (.iadd, 0, 0) := by decide +kernel
theorem cd_i139_154 : cd_I 139 154 = some (.iload 5, 0, 0) := by decide +kernel
theorem cd_i139_156 : cd_I 139 156 = some (.if_icmp .ne 57, 213, 0) := by decide +kernel
theorem cd_i139_159 : cd_I 139 159 = some (.iload 12, 0, 0) := by decide +kernel
theorem cd_i139_161 : cd_I 139 161 = some (.iconst (-1), 0, 0) := by decide +kernel
theorem cd_i139_162 : cd_I 139 162 = some (.if_icmp .eq 30, 192, 0) := by decide +kernel
theorem cd_i139_165 : cd_I 139 165 = some (.aload_n 0, 0, 0) := by decide +kernel
theorem cd_i139_166 : cd_I 139 166 = some (.aload_n 0, 0, 0) := by decide +kernel
theorem cd_i139_167 : cd_I 139 167 = some (.getfield 58, 11, 21) := by decide +kernel
theorem cd_i139_170 : cd_I 139 170 = some (.iload 12, 0, 0) := by decide +kernel
theorem cd_i139_172 : cd_I 139 172 = some (.iaload, 0, 0) := by decide +kernel
theorem cd_i139_173 : cd_I 139 173 = some (.aload_n 0, 0, 0) := by decide +kernel
theorem cd_i139_174 : cd_I 139 174 = some (.getfield 42, 11, 14) := by decide +kernel
theorem cd_i139_177 : cd_I 139 177 = some (.iconst 2, 0, 0) := by decide +kernel
theorem cd_i139_178 : cd_I 139 178 = some (.iload_n 1, 0, 0) := by decide +kernel
theorem cd_i139_179 : cd_I 139 179 = some (.imul, 0, 0) := by decide +kernel
theorem cd_i139_180 : cd_I 139 180 = some (.iconst 1, 0, 0) := by decide +kernel
theorem cd_i139_181 : cd_I 139 181 = some (.iadd, 0, 0) := by decide +kernel
theorem cd_i139_182 : cd_I 139 182 = some (.iaload, 0, 0) := by decide +kernel
theorem cd_i139_183 : cd_I 139 183 = some (.invokevirtual 192, 128, 2) := by decide +kernel
theorem cd_i139_186 : cd_I 139 186 = some (.ifCond .ne 6, 192, 0) := by decide +kernel
theorem cd_i139_189 : cd_I 139 189 = some (.goto 24, 213, 0) := by decide +kernel
theorem cd_i139_192 : cd_I 139 192 = some (.aload_n 0, 0, 0) := by decide +kernel
theorem cd_i139_193 : cd_I 139 193 = some (.iload_n 1, 0, 0) := by decide +kernel
theorem cd_i139_194 : cd_I 139 194 = some (.iload_n 2, 0, 0) := by decide +kernel
theorem cd_i139_195 : cd_I 139 195 = some (.iload 9, 0, 0) := by decide +kernel
theorem cd_i139_197 : cd_I 139 197 = some (.iload 12, 0, 0) := by decide +kernel
theorem cd_i139_199 : cd_I 139 199 = some (.invokevirtual 228, 141, 4) := by decide +kernel
theorem cd_i139_202 : cd_I 139 202 = some (.aload_n 0, 0, 0) := by decide +kernel
theorem cd_i139_203 : cd_I 139 203 = some (.iload_n 3, 0, 0) := by decide +kernel
theorem cd_i139_204 : cd_I 139 204 = some (.aload_n 0, 0, 0) := by decide +kernel
theorem cd_i139_205 : cd_I 139 205 = some (.getfield 36, 11, 12) := by decide +kernel
theorem cd_i139_208 : cd_I 139 208 = some (.iload_n 1, 0, 0) := by decide +kernel
theorem cd_i139_209 : cd_I 139 209 = some (.iaload, 0, 0) := by decide +kernel
theorem cd_i139_210 : cd_I 139 210 = some (.invokevirtual 232, 134, 2) := by decide +kernel
theorem cd_i139_213 : cd_I 139 213 = some (.iinc 11 1, 0, 0) := by decide +kernel
theorem cd_i139_216 : cd_I 139 216 = some (.goto (-105), 111, 0) := by decide +kernel
theorem cd_i139_219 : cd_I 139 219 = some (.iinc 8 1, 0, 0) := by decide +kernel
theorem cd_i139_222 : cd_I 139 222 = some (.goto (-173), 49, 0) := by decide +kernel
theorem cd_i139_225 : cd_I 139 225 = some (.return_, 0, 0) := by decide +kernel
theorem cd_i140_0 : cd_I 140 0 = some (.iload_n 1, 0, 0) := by decide +kernel
theorem cd_i140_1 : cd_I 140 1 = some (.iconst (-1), 0, 0) := by decide +kernel
theorem cd_i140_2 : cd_I 140 2 = some (.if_icmp .ne 7, 9, 0) := by decide +kernel
theorem cd_i140_5 : cd_I 140 5 = some (.iconst 0, 0, 0) := by decide +kernel
theorem cd_i140_6 : cd_I 140 6 = some (.goto 9, 15, 0) := by decide +kernel
theorem cd_i140_9 : cd_I 140 9 = some (.aload_n 0, 0, 0) := by decide +kernel
theorem cd_i140_10 : cd_I 140 10 = some (.getfield 55, 11, 20) := by decide +kernel
theorem cd_i140_13 : cd_I 140 13 = some (.iload_n 1, 0, 0) := by decide +kernel
theorem cd_i140_14 : cd_I 140 14 = some (.iaload, 0, 0) := by decide +kernel
theorem cd_i140_15 : cd_I 140 15 = some (.ireturn, 0, 0) := by decide +kernel
end
section
theorem cd_i141_0 : cd_I 141 0 = some (.aload_n 0, 0, 0) := by decide +kernel
theorem cd_i141_1 : cd_I 141 1 = some (.iconst 0, 0, 0) := by decide +kernel
theorem cd_i141_2 : cd_I 141 2 = some (.putfield 201, 11, 25) := by decide +kernel
theorem cd_i141_5 : cd_I 141 5 = some (.aload_n 0, 0, 0) := by decide +kernel
theorem cd_i141_6 : cd_I 141 6 = some (.getfield 24, 11, 8) := by decide +kernel
theorem cd_i141_9 : cd_I 141 9 = some (.iload_n 1, 0, 0) := by decide +kernel
theorem cd_i141_10 : cd_I 141 10 = some (.iaload, 0, 0) := by decide +kernel
theorem cd_i141_11 : cd_I 141 11 = some (.iconst 2, 0, 0) := by decide +kernel
theorem cd_i141_12 : cd_I 141 12 = some (.if_icmp .ne 27, 39, 0) := by decide +kernel
theorem cd_i141_15 : cd_I 141 15 = some (.aload_n 0, 0, 0) := by decide +kernel
theorem cd_i141_16 : cd_I 141 16 = some (.bipush 110, 0, 0) := by decide +kernel
theorem cd_i141_18 : cd_I 141 18 = some (.invokevirtual 204, 133, 1) := by decide +kernel
theorem cd_i141_21 : cd_I 141 21 = some (.aload_n 0, 0, 0) := by decide +kernel
theorem cd_i141_22 : cd_I 141 22 = some (.bipush 101, 0, 0) := by decide +kernel
theorem cd_i141_24 : cd_I 141 24 = some (.invokevirtual 204, 133, 1) := by decide +kernel
theorem cd_i141_27 : cd_I 141 27 = some (.aload_n 0, 0, 0) := by decide +kernel
theorem cd_i141_28 : cd_I 141 28 = some (.bipush 119, 0, 0) := by decide +kernel
theorem cd_i141_30 : cd_I 141 30 = some (.invokevirtual 204, 133, 1) := by decide +kernel
theorem cd_i141_33 : cd_I 141 33 = some (.aload_n 0, 0, 0) := by decide +kernel
theorem cd_i141_34 : cd_I 141 34 = some (.bipush 32, 0, 0) := by decide +kernel
theorem cd_i141_36 : cd_I 141 36 = some (.invokevirtual 204, 133, 1) := by decide +kernel
theorem cd_i141_39 : cd_I 141 39 = some (.iload_n 2, 0, 0) := by decide +kernel
theorem cd_i141_40 : cd_I 141 40 = some (.iconst (-1), 0, 0) := by decide +kernel
theorem cd_i141_41 : cd_I 141 41 = some (.if_icmp .ne 18, 59, 0) := by decide +kernel
theorem cd_i141_44 : cd_I 141 44 = some (.aload_n 0, 0, 0) := by decide +kernel
theorem cd_i141_45 : cd_I 141 45 = some (.bipush 65, 0, 0) := by decide +kernel
theorem cd_i141_47 : cd_I 141 47 = some (.iload_n 1, 0, 0) := by decide +kernel
theorem cd_i141_48 : cd_I 141 48 = some (.bipush 6, 0, 0) := by decide +kernel
theorem cd_i141_50 : cd_I 141 50 = some (.idiv, 0, 0) := by decide +kernel
theorem cd_i141_51 : cd_I 141 51 = some (.iadd, 0, 0) := by decide +kernel
theorem cd_i141_52 : cd_I 141 52 = some (.i2c, 0, 0) := by decide +kernel
theorem cd_i141_53 : cd_I 141 53 = some (.invokevirtual 204, 133, 1) := by decide +kernel
theorem cd_i141_56 : cd_I 141 56 = some (.goto 8, 64, 0) := by decide +kernel
theorem cd_i141_59 : cd_I 141 59 = some (.aload_n 0, 0, 0) := by decide +kernel
theorem cd_i141_60 : cd_I 141 60 = some (.iload_n 2, 0, 0) := by decide +kernel
theorem cd_i141_61 : cd_I 141 61 = some (.invokevirtual 219, 142, 1) := by decide +kernel
theorem cd_i141_64 : cd_I 141 64 = some (.aload_n 0, 0, 0) := by decide +kernel
theorem cd_i141_65 : cd_I 141 65 = some (.getfield 24, 11, 8) := by decide +kernel
theorem cd_i141_68 : cd_I 141 68 = some (.iload_n 1, 0, 0) := by decide +kernel
theorem cd_i141_69 : cd_I 141 69 = some (.iaload, 0, 0) := by decide +kernel
theorem cd_i141_70 : cd_I 141 70 = some (.iconst 2, 0, 0) := by decide +kernel
theorem cd_i141_71 : cd_I 141 71 = some (.if_icmp .eq 19, 90, 0) := by decide +kernel
theorem cd_i141_74 : cd_I 141 74 = some (.aload_n 0, 0, 0) := by decide +kernel
theorem cd_i141_75 : cd_I 141 75 = some (.bipush 46, 0, 0) := by decide +kernel
theorem cd_i141_77 : cd_I 141 77 = some (.invokevirtual 204, 133, 1) := by decide +kernel
theorem cd_i141_80 : cd_I 141 80 = some (.aload_n 0, 0, 0) := by decide +kernel
theorem cd_i141_81 : cd_I 141 81 = some (.aload_n 0, 0, 0) := by decide +kernel
theorem cd_i141_82 : cd_I 141 82 = some (.getfield 33, 11, 11) := by decide +kernel
theorem cd_i141_85 : cd_I 141 85 = some (.iload_n 1, 0, 0) := by decide +kernel
theorem cd_i141_86 : cd_I 141 86 = some (.iaload, 0, 0) := by decide +kernel
theorem cd_i141_87 : cd_I 141 87 = some (.invokevirtual 222, 132, 1) := by decide +kernel
theorem cd_i141_90 : cd_I 141 90 = some (.aload_n 0, 0, 0) := by decide +kernel
theorem cd_i141_91 : cd_I 141 91 = some (.getfield 24, 11, 8) := by decide +kernel
theorem cd_i141_94 : cd_I 141 94 = some (.iload_n 1, 0, 0) := by decide +kernel
theorem cd_i141_95 : cd_I 141 95 = some (.iaload, 0, 0) := by decide +kernel
theorem cd_i141_96 : cd_I 141 96 = some (.ifCond .ne 4, 100, 0) := by decide +kernel
theorem cd_i141_99 : cd_I 141 99 = some (.return_, 0, 0) := by decide +kernel
theorem cd_i141_100 : cd_I 141 100 = some (.aload_n 0, 0, 0) := by decide +kernel
theorem cd_i141_101 : cd_I 141 101 = some (.bipush 40, 0, 0) := by decide +kernel
theorem cd_i141_103 : cd_I 141 103 = some (.invokevirtual 204, 133, 1) := by decide +kernel
theorem cd_i141_106 : cd_I 141 106 = some (.iload_n 3, 0, 0) := by decide +kernel
theorem cd_i141_107 : cd_I 141 107 = some (.iconst (-1), 0, 0) := by decide +kernel
theorem cd_i141_108 : cd_I 141 108 = some (.if_icmp .eq 8, 116, 0) := by decide +kernel
theorem cd_i141_111 : cd_I 141 111 = some (.aload_n 0, 0, 0) := by decide +kernel
theorem cd_i141_112 : cd_I 141 112 = some (.iload_n 3, 0, 0) := by decide +kernel
theorem cd_i141_113 : cd_I 141 113 = some (.invokevirtual 219, 142, 1) := by decide +kernel
theorem cd_i141_116 : cd_I 141 116 = some (.iload 4, 0, 0) := by decide +kernel
theorem cd_i141_118 : cd_I 141 118 = some (.iconst (-1), 0, 0) := by decide +kernel
theorem cd_i141_119 : cd_I 141 119 = some (.if_icmp .eq 15, 134, 0) := by decide +kernel
theorem cd_i141_122 : cd_I 141 122 = some (.aload_n 0, 0, 0) := by decide +kernel
theorem cd_i141_123 : cd_I 141 123 = some (.bipush 44, 0, 0) := by decide +kernel
theorem cd_i141_125 : cd_I 141 125 = some (.invokevirtual 204, 133, 1) := by decide +kernel
theorem cd_i141_128 : cd_I 141 128 = some (.aload_n 0, 0, 0) := by decide +kernel
theorem cd_i141_129 : cd_I 141 129 = some (.iload 4, 0, 0) := by decide +kernel
theorem cd_i141_131 : cd_I 141 131 = some (.invokevirtual 219, 142, 1) := by decide +kernel
theorem cd_i141_134 : cd_I 141 134 = some (.aload_n 0, 0, 0) := by decide +kernel
theorem cd_i141_135 : cd_I 141 135 = some (.bipush 41, 0, 0) := by decide +kernel
theorem cd_i141_137 : cd_I 141 137 = some (.invokevirtual 204, 133, 1) := by decide +kernel
theorem cd_i141_140 : cd_I 141 140 = some (.return_, 0, 0) := by decide +kernel
theorem cd_i142_0 : cd_I 142 0 = some (.iconst 0, 0, 0) := by decide +kernel
theorem cd_i142_1 : cd_I 142 1 = some (.istore_n 2, 0, 0) := by decide +kernel
theorem cd_i142_2 : cd_I 142 2 = some (.iload_n 2, 0, 0) := by decide +kernel
theorem cd_i142_3 : cd_I 142 3 = some (.aload_n 0, 0, 0) := by decide +kernel
theorem cd_i142_4 : cd_I 142 4 = some (.getfield 61, 11, 22) := by decide +kernel
theorem cd_i142_7 : cd_I 142 7 = some (.iload_n 1, 0, 0) := by decide +kernel
theorem cd_i142_8 : cd_I 142 8 = some (.iaload, 0, 0) := by decide +kernel
theorem cd_i142_9 : cd_I 142 9 = some (.if_icmp .ge 24, 33, 0) := by decide +kernel
theorem cd_i142_12 : cd_I 142 12 = some (.aload_n 0, 0, 0) := by decide +kernel
theorem cd_i142_13 : cd_I 142 13 = some (.aload_n 0, 0, 0) := by decide +kernel
theorem cd_i142_14 : cd_I 142 14 = some (.getfield 64, 11, 23) := by decide +kernel
theorem cd_i142_17 : cd_I 142 17 = some (.bipush 24, 0, 0) := by decide +kernel
theorem cd_i142_19 : cd_I 142 19 = some (.iload_n 1, 0, 0) := by decide +kernel
theorem cd_i142_20 : cd_I 142 20 = some (.imul, 0, 0) := by decide +kernel
theorem cd_i142_21 : cd_I 142 21 = some (.iload_n 2, 0, 0) := by decide +kernel
theorem cd_i142_22 : cd_I 142 22 = some (.iadd, 0, 0) := by decide +kernel
theorem cd_i142_23 : cd_I 142 23 = some (.caload, 0, 0) := by decide +kernel
theorem cd_i142_24 : cd_I 142 24 = some (.invokevirtual 204, 133, 1) := by decide +kernel
theorem cd_i142_27 : cd_I 142 27 = some (.iinc 2 1, 0, 0) := by decide +kernel
theorem cd_i142_30 : cd_I 142 30 = some (.goto (-28), 2, 0) := by decide +kernel
theorem cd_i142_33 : cd_I 142 33 = some (.return_, 0, 0) := by decide +kernel
theorem cd_i143_0 : cd_I 143 0 = some (.iload_n 1, 0, 0) := by decide +kernel
theorem cd_i143_1 : cd_I 143 1 = some (.iconst 3, 0, 0) := by decide +kernel
theorem cd_i143_2 : cd_I 143 2 = some (.if_icmp .lt 11, 13, 0) := by decide +kernel
theorem cd_i143_5 : cd_I 143 5 = some (.aload_n 0, 0, 0) := by decide +kernel
theorem cd_i143_6 : cd_I 143 6 = some (.iload_n 2, 0, 0) := by decide +kernel
theorem cd_i143_7 : cd_I 143 7 = some (.invokevirtual 198, 144, 1) := by decide +kernel
theorem cd_i143_10 : cd_I 143 10 = some (.ifCond .ne 5, 15, 0) := by decide +kernel
theorem cd_i143_13 : cd_I 143 13 = some (.iconst 0, 0, 0) := by decide +kernel
theorem cd_i143_14 : cd_I 143 14 = some (.ireturn, 0, 0) := by decide +kernel
theorem cd_i143_15 : cd_I 143 15 = some (.iload_n 1, 0, 0) := by decide +kernel
theorem cd_i143_16 : cd_I 143 16 = some (.iconst 3, 0, 0) := by decide +kernel
theorem cd_i143_17 : cd_I 143 17 = some (.isub, 0, 0) := by decide +kernel
theorem cd_i143_18 : cd_I 143 18 = some (.istore_n 3, 0, 0) := by decide +kernel
theorem cd_i143_19 : cd_I 143 19 = some (.iload_n 3, 0, 0) := by decide +kernel
theorem cd_i143_20 : cd_I 143 20 = some (.iconst (-1), 0, 0) := by decide +kernel
theorem cd_i143_21 : cd_I 143 21 = some (.if_icmp .eq 103, 124, 0) := by decide +kernel
theorem cd_i143_24 : cd_I 143 24 = some (.aload_n 0, 0, 0) := by decide +kernel
theorem cd_i143_25 : cd_I 143 25 = some (.getfield 13, 11, 5) := by decide +kernel
theorem cd_i143_28 : cd_I 143 28 = some (.iload_n 3, 0, 0) := by decide +kernel
theorem cd_i143_29 : cd_I 143 29 = some (.baload, 0, 0) := by decide +kernel
theorem cd_i143_30 : cd_I 143 30 = some (.ifCond .eq 94, 124, 0) := by decide +kernel
theorem cd_i143_33 : cd_I 143 33 = some (.iload_n 2, 0, 0) := by decide +kernel
theorem cd_i143_34 : cd_I 143 34 = some (.bipush 6, 0, 0) := by decide +kernel
theorem cd_i143_36 : cd_I 143 36 = some (.idiv, 0, 0) := by decide +kernel
theorem cd_i143_37 : cd_I 143 37 = some (.iload_n 3, 0, 0) := by decide +kernel
theorem cd_i143_38 : cd_I 143 38 = some (.if_icmp .ne 5, 43, 0) := by decide +kernel
theorem cd_i143_41 : cd_I 143 41 = some (.iconst 1, 0, 0) := by decide +kernel
theorem cd_i143_42 : cd_I 143 42 = some (.ireturn, 0, 0) := by decide +kernel
theorem cd_i143_43 : cd_I 143 43 = some (.bipush 6, 0, 0) := by decide +kernel
theorem cd_i143_45 : cd_I 143 45 = some (.iload_n 3, 0, 0) := by decide +kernel
theorem cd_i143_46 : cd_I 143 46 = some (.imul, 0, 0) := by decide +kernel
theorem cd_i143_47 : cd_I 143 47 = some (.istore 4, 0, 0) := by decide +kernel
theorem cd_i143_49 : cd_I 143 49 = some (.iload 4, 0, 0) := by decide +kernel
theorem cd_i143_51 : cd_I 143 51 = some (.bipush 6, 0, 0) := by decide +kernel
theorem cd_i143_53 : cd_I 143 53 = some (.iload_n 3, 0, 0) := by decide +kernel
theorem cd_i143_54 : cd_I 143 54 = some (.imul, 0, 0) := by decide +kernel
theorem cd_i143_55 : cd_I 143 55 = some (.aload_n 0, 0, 0) := by decide +kernel
theorem cd_i143_56 : cd_I 143 56 = some (.getfield 21, 11, 7) := by decide +kernel
theorem cd_i143_59 : cd_I 143 59 = some (.iload_n 3, 0, 0) := by decide +kernel
theorem cd_i143_60 : cd_I 143 60 = some (.iaload, 0, 0) := by decide +kernel
theorem cd_i143_61 : cd_I 143 61 = some (.iadd, 0, 0) := by decide +kernel
theorem cd_i143_62 : cd_I 143 62 = some (.if_icmp .ge 52, 114, 0) := by decide +kernel
theorem cd_i143_65 : cd_I 143 65 = some (.aload_n 0, 0, 0) := by decide +kernel
theorem cd_i143_66 : cd_I 143 66 = some (.iload 4, 0, 0) := by decide +kernel
theorem cd_i143_68 : cd_I 143 68 = some (.invokevirtual 198, 144, 1) := by decide +kernel
theorem cd_i143_71 : cd_I 143 71 = some (.ifCond .eq 37, 108, 0) := by decide +kernel
theorem cd_i143_74 : cd_I 143 74 = some (.aload_n 0, 0, 0) := by decide +kernel
theorem cd_i143_75 : cd_I 143 75 = some (.getfield 24, 11, 8) := by decide +kernel
theorem cd_i143_78 : cd_I 143 78 = some (.iload 4, 0, 0) := by decide +kernel
theorem cd_i143_80 : cd_I 143 80 = some (.iaload, 0, 0) := by decide +kernel
theorem cd_i143_81 : cd_I 143 81 = some (.aload_n 0, 0, 0) := by decide +kernel
theorem cd_i143_82 : cd_I 143 82 = some (.getfield 24, 11, 8) := by decide +kernel
theorem cd_i143_85 : cd_I 143 85 = some (.iload_n 2, 0, 0) := by decide +kernel
theorem cd_i143_86 : cd_I 143 86 = some (.iaload, 0, 0) := by decide +kernel
theorem cd_i143_87 : cd_I 143 87 = some (.if_icmp .ne 21, 108, 0) := by decide +kernel
theorem cd_i143_90 : cd_I 143 90 = some (.aload_n 0, 0, 0) := by decide +kernel
theorem cd_i143_91 : cd_I 143 91 = some (.getfield 33, 11, 11) := by decide +kernel
theorem cd_i143_94 : cd_I 143 94 = some (.iload 4, 0, 0) := by decide +kernel
theorem cd_i143_96 : cd_I 143 96 = some (.iaload, 0, 0) := by decide +kernel
theorem cd_i143_97 : cd_I 143 97 = some (.aload_n 0, 0, 0) := by decide +kernel
theorem cd_i143_98 : cd_I 143 98 = some (.getfield 33, 11, 11) := by decide +kernel
theorem cd_i143_101 : cd_I 143 101 = some (.iload_n 2, 0, 0) := by decide +kernel
theorem cd_i143_102 : cd_I 143 102 = some (.iaload, 0, 0) := by decide +kernel
theorem cd_i143_103 : cd_I 143 103 = some (.if_icmp .ne 5, 108, 0) := by decide +kernel
theorem cd_i143_106 : cd_I 143 106 = some (.iconst 0, 0, 0) := by decide +kernel
theorem cd_i143_107 : cd_I 143 107 = some (.ireturn, 0, 0) := by decide +kernel
theorem cd_i143_108 : cd_I 143 108 = some (.iinc 4 1, 0, 0) := by decide +kernel
theorem cd_i143_111 : cd_I 143 111 = some (.goto (-62), 49, 0) := by decide +kernel
theorem cd_i143_114 : cd_I 143 114 = some (.aload_n 0, 0, 0) := by decide +kernel
theorem cd_i143_115 : cd_I 143 115 = some (.getfield 17, 11, 6) := by decide +kernel
theorem cd_i143_118 : cd_I 143 118 = some (.iload_n 3, 0, 0) := by decide +kernel
theorem cd_i143_119 : cd_I 143 119 = some (.iaload, 0, 0) := by decide +kernel
theorem cd_i143_120 : cd_I 143 120 = some (.istore_n 3, 0, 0) := by decide +kernel
theorem cd_i143_121 : cd_I 143 121 = some (.goto (-102), 19, 0) := by decide +kernel
theorem cd_i143_124 : cd_I 143 124 = some (.iconst 0, 0, 0) := by decide +kernel
theorem cd_i143_125 : cd_I 143 125 = some (.ireturn, 0, 0) := by decide +kernel
theorem cd_i144_0 : cd_I 144 0 = some (.aload_n 0, 0, 0) := by decide +kernel
theorem cd_i144_1 : cd_I 144 1 = some (.getfield 24, 11, 8) := by decide +kernel
theorem cd_i144_4 : cd_I 144 4 = some (.iload_n 1, 0, 0) := by decide +kernel
theorem cd_i144_5 : cd_I 144 5 = some (.iaload, 0, 0) := by decide +kernel
theorem cd_i144_6 : cd_I 144 6 = some (.iconst 2, 0, 0) := by decide +kernel
theorem cd_i144_7 : cd_I 144 7 = some (.if_icmp .eq 24, 31, 0) := by decide +kernel
theorem cd_i144_10 : cd_I 144 10 = some (.aload_n 0, 0, 0) := by decide +kernel
theorem cd_i144_11 : cd_I 144 11 = some (.getfield 27, 11, 9) := by decide +kernel
theorem cd_i144_14 : cd_I 144 14 = some (.iload_n 1, 0, 0) := by decide +kernel
theorem cd_i144_15 : cd_I 144 15 = some (.baload, 0, 0) := by decide +kernel
theorem cd_i144_16 : cd_I 144 16 = some (.ifCond .ne 15, 31, 0) := by decide +kernel
theorem cd_i144_19 : cd_I 144 19 = some (.aload_n 0, 0, 0) := by decide +kernel
theorem cd_i144_20 : cd_I 144 20 = some (.iload_n 1, 0, 0) := by decide +kernel
theorem cd_i144_21 : cd_I 144 21 = some (.invokevirtual 195, 138, 1) := by decide +kernel
theorem cd_i144_24 : cd_I 144 24 = some (.ifCond .eq 7, 31, 0) := by decide +kernel
theorem cd_i144_27 : cd_I 144 27 = some (.iconst 1, 0, 0) := by decide +kernel
theorem cd_i144_28 : cd_I 144 28 = some (.goto 4, 32, 0) := by decide +kernel
theorem cd_i144_31 : cd_I 144 31 = some (.iconst 0, 0, 0) := by decide +kernel
theorem cd_i144_32 : cd_I 144 32 = some (.ireturn, 0, 0) := by decide +kernel
theorem cd_i145_0 : cd_I 145 0 = some (.aload_n 0, 0, 0) := by decide +kernel
theorem cd_i145_1 : cd_I 145 1 = some (.getfield 70, 11, 28) := by decide +kernel
theorem cd_i145_4 : cd_I 145 4 = some (.aload_n 0, 0, 0) := by decide +kernel
theorem cd_i145_5 : cd_I 145 5 = some (.getfield 247, 11, 27) := by decide +kernel
theorem cd_i145_8 : cd_I 145 8 = some (.aload_n 0, 0, 0) := by decide +kernel
theorem cd_i145_9 : cd_I 145 9 = some (.getfield 55, 11, 20) := by decide +kernel
theorem cd_i145_12 : cd_I 145 12 = some (.iload_n 1, 0, 0) := by decide +kernel
theorem cd_i145_13 : cd_I 145 13 = some (.iaload, 0, 0) := by decide +kernel
theorem cd_i145_14 : cd_I 145 14 = some (.iastore, 0, 0) := by decide +kernel
theorem cd_i145_15 : cd_I 145 15 = some (.aload_n 0, 0, 0) := by decide +kernel
theorem cd_i145_16 : cd_I 145 16 = some (.getfield 73, 11, 29) := by decide +kernel
theorem cd_i145_19 : cd_I 145 19 = some (.aload_n 0, 0, 0) := by decide +kernel
theorem cd_i145_20 : cd_I 145 20 = some (.getfield 247, 11, 27) := by decide +kernel
theorem cd_i145_23 : cd_I 145 23 = some (.aload_n 0, 0, 0) := by decide +kernel
theorem cd_i145_24 : cd_I 145 24 = some (.getfield 58, 11, 21) := by decide +kernel
theorem cd_i145_27 : cd_I 145 27 = some (.iload_n 1, 0, 0) := by decide +kernel
theorem cd_i145_28 : cd_I 145 28 = some (.iaload, 0, 0) := by decide +kernel
theorem cd_i145_29 : cd_I 145 29 = some (.iastore, 0, 0) := by decide +kernel
theorem cd_i145_30 : cd_I 145 30 = some (.aload_n 0, 0, 0) := by decide +kernel
theorem cd_i145_31 : cd_I 145 31 = some (.getfield 76, 11, 30) := by decide +kernel
theorem cd_i145_34 : cd_I 145 34 = some (.aload_n 0, 0, 0) := by decide +kernel
theorem cd_i145_35 : cd_I 145 35 = some (.getfield 247, 11, 27) := by decide +kernel
theorem cd_i145_38 : cd_I 145 38 = some (.aload_n 0, 0, 0) := by decide +kernel
theorem cd_i145_39 : cd_I 145 39 = some (.getfield 61, 11, 22) := by decide +kernel
theorem cd_i145_42 : cd_I 145 42 = some (.iload_n 1, 0, 0) := by decide +kernel
theorem cd_i145_43 : cd_I 145 43 = some (.iaload, 0, 0) := by decide +kernel
theorem cd_i145_44 : cd_I 145 44 = some (.iastore, 0, 0) := by decide +kernel
theorem cd_i145_45 : cd_I 145 45 = some (.iconst 0, 0, 0) := by decide +kernel
theorem cd_i145_46 : cd_I 145 46 = some (.istore_n 2, 0, 0) := by decide +kernel
theorem cd_i145_47 : cd_I 145 47 = some (.iload_n 2, 0, 0) := by decide +kernel
theorem cd_i145_48 : cd_I 145 48 = some (.bipush 24, 0, 0) := by decide +kernel
theorem cd_i145_50 : cd_I 145 50 = some (.if_icmp .ge 34, 84, 0) := by decide +kernel
theorem cd_i145_53 : cd_I 145 53 = some (.aload_n 0, 0, 0) := by decide +kernel
theorem cd_i145_54 : cd_I 145 54 = some (.getfield 79, 11, 31) := by decide +kernel
theorem cd_i145_57 : cd_I 145 57 = some (.bipush 24, 0, 0) := by decide +kernel
theorem cd_i145_59 : cd_I 145 59 = some (.aload_n 0, 0, 0) := by decide +kernel
theorem cd_i145_60 : cd_I 145 60 = some (.getfield 247, 11, 27) := by decide +kernel
theorem cd_i145_63 : cd_I 145 63 = some (.imul, 0, 0) := by decide +kernel
theorem cd_i145_64 : cd_I 145 64 = some (.iload_n 2, 0, 0) := by decide +kernel
theorem cd_i145_65 : cd_I 145 65 = some (.iadd, 0, 0) := by decide +kernel
theorem cd_i145_66 : cd_I 145 66 = some (.aload_n 0, 0, 0) := by decide +kernel
theorem cd_i145_67 : cd_I 145 67 = some (.getfield 64, 11, 23) := by decide +kernel
theorem cd_i145_70 : cd_I 145 70 = some (.bipush 24, 0, 0) := by decide +kernel
theorem cd_i145_72 : cd_I 145 72 = some (.iload_n 1, 0, 0) := by decide +kernel
theorem cd_i145_73 : cd_I 145 73 = some (.imul, 0, 0) := by decide +kernel
theorem cd_i145_74 : cd_I 145 74 = some (.iload_n 2, 0, 0) := by decide +kernel
theorem cd_i145_75 : cd_I 145 75 = some (.iadd, 0, 0) := by decide +kernel
theorem cd_i145_76 : cd_I 145 76 = some (.caload, 0, 0) := by decide +kernel
theorem cd_i145_77 : cd_I 145 77 = some (.castore, 0, 0) := by decide +kernel
theorem cd_i145_78 : cd_I 145 78 = some (.iinc 2 1, 0, 0) := by decide +kernel
theorem cd_i145_81 : cd_I 145 81 = some (.goto (-34), 47, 0) := by decide +kernel
theorem cd_i145_84 : cd_I 145 84 = some (.aload_n 0, 0, 0) := by decide +kernel
theorem cd_i145_85 : cd_I 145 85 = some (.dup, 0, 0) := by decide +kernel
theorem cd_i145_86 : cd_I 145 86 = some (.getfield 247, 11, 27) := by decide +kernel
theorem cd_i145_89 : cd_I 145 89 = some (.iconst 1, 0, 0) := by decide +kernel
theorem cd_i145_90 : cd_I 145 90 = some (.iadd, 0, 0) := by decide +kernel
theorem cd_i145_91 : cd_I 145 91 = some (.putfield 247, 11, 27) := by decide +kernel
theorem cd_i145_94 : cd_I 145 94 = some (.return_, 0, 0) := by decide +kernel
theorem cd_i146_0 : cd_I 146 0 = some (.aload_n 0, 0, 0) := by decide +kernel
theorem cd_i146_1 : cd_I 146 1 = some (.iconst 0, 0, 0) := by decide +kernel
theorem cd_i146_2 : cd_I 146 2 = some (.putfield 98, 11, 3) := by decide +kernel
theorem cd_i146_5 : cd_I 146 5 = some (.aload_n 0, 0, 0) := by decide +kernel
theorem cd_i146_6 : cd_I 146 6 = some (.iconst 1, 0, 0) := by decide +kernel
theorem cd_i146_7 : cd_I 146 7 = some (.putfield 101, 11, 4) := by decide +kernel
theorem cd_i146_10 : cd_I 146 10 = some (.aload_n 0, 0, 0) := by decide +kernel
theorem cd_i146_11 : cd_I 146 11 = some (.iconst 0, 0, 0) := by decide +kernel
theorem cd_i146_12 : cd_I 146 12 = some (.putfield 256, 11, 33) := by decide +kernel
theorem cd_i146_15 : cd_I 146 15 = some (.aload_n 0, 0, 0) := by decide +kernel
theorem cd_i146_16 : cd_I 146 16 = some (.iconst 0, 0, 0) := by decide +kernel
theorem cd_i146_17 : cd_I 146 17 = some (.putfield 253, 11, 36) := by decide +kernel
theorem cd_i146_20 : cd_I 146 20 = some (.aload_n 0, 0, 0) := by decide +kernel
theorem cd_i146_21 : cd_I 146 21 = some (.invokevirtual 269, 147, 0) := by decide +kernel
theorem cd_i146_24 : cd_I 146 24 = some (.istore_n 1, 0, 0) := by decide +kernel
theorem cd_i146_25 : cd_I 146 25 = some (.aload_n 0, 0, 0) := by decide +kernel
theorem cd_i146_26 : cd_I 146 26 = some (.getfield 101, 11, 4) := by decide +kernel
theorem cd_i146_29 : cd_I 146 29 = some (.ifCond .eq 46, 75, 0) := by decide +kernel
theorem cd_i146_32 : cd_I 146 32 = some (.iload_n 1, 0, 0) := by decide +kernel
theorem cd_i146_33 : cd_I 146 33 = some (.iconst (-1), 0, 0) := by decide +kernel
theorem cd_i146_34 : cd_I 146 34 = some (.if_icmp .eq 20, 54, 0) := by decide +kernel
theorem cd_i146_37 : cd_I 146 37 = some (.aload_n 0, 0, 0) := by decide +kernel
theorem cd_i146_38 : cd_I 146 38 = some (.getfield 256, 11, 33) := by decide +kernel
theorem cd_i146_41 : cd_I 146 41 = some (.ifCond .gt 13, 54, 0) := by decide +kernel
theorem cd_i146_44 : cd_I 146 44 = some (.aload_n 0, 0, 0) := by decide +kernel
theorem cd_i146_45 : cd_I 146 45 = some (.iconst 0, 0, 0) := by decide +kernel
theorem cd_i146_46 : cd_I 146 46 = some (.invokevirtual 105, 105, 1) := by decide +kernel
theorem cd_i146_49 : cd_I 146 49 = some (.bipush 46, 0, 0) := by decide +kernel
theorem cd_i146_51 : cd_I 146 51 = some (.if_icmp .ne 24, 75, 0) := by decide +kernel
theorem cd_i146_54 : cd_I 146 54 = some (.iload_n 1, 0, 0) := by decide +kernel
theorem cd_i146_55 : cd_I 146 55 = some (.iconst (-1), 0, 0) := by decide +kernel
theorem cd_i146_56 : cd_I 146 56 = some (.if_icmp .ne 10, 66, 0) := by decide +kernel
theorem cd_i146_59 : cd_I 146 59 = some (.aload_n 0, 0, 0) := by decide +kernel
theorem cd_i146_60 : cd_I 146 60 = some (.invokevirtual 269, 147, 0) := by decide +kernel
theorem cd_i146_63 : cd_I 146 63 = some (.goto 8, 71, 0) := by decide +kernel
theorem cd_i146_66 : cd_I 146 66 = some (.aload_n 0, 0, 0) := by decide +kernel
theorem cd_i146_67 : cd_I 146 67 = some (.iload_n 1, 0, 0) := by decide +kernel
theorem cd_i146_68 : cd_I 146 68 = some (.invokevirtual 272, 151, 1) := by decide +kernel
theorem cd_i146_71 : cd_I 146 71 = some (.istore_n 1, 0, 0) := by decide +kernel
theorem cd_i146_72 : cd_I 146 72 = some (.goto (-47), 25, 0) := by decide +kernel
theorem cd_i146_75 : cd_I 146 75 = some (.aload_n 0, 0, 0) := by decide +kernel
theorem cd_i146_76 : cd_I 146 76 = some (.aload_n 0, 0, 0) := by decide +kernel
theorem cd_i146_77 : cd_I 146 77 = some (.getfield 98, 11, 3) := by decide +kernel
theorem cd_i146_80 : cd_I 146 80 = some (.aload_n 0, 0, 0) := by decide +kernel
theorem cd_i146_81 : cd_I 146 81 = some (.getfield 95, 11, 2) := by decide +kernel
theorem cd_i146_84 : cd_I 146 84 = some (.if_icmp .ne 7, 91, 0) := by decide +kernel
theorem cd_i146_87 : cd_I 146 87 = some (.iconst 1, 0, 0) := by decide +kernel
theorem cd_i146_88 : cd_I 146 88 = some (.goto 4, 92, 0) := by decide +kernel
theorem cd_i146_91 : cd_I 146 91 = some (.iconst 0, 0, 0) := by decide +kernel
theorem cd_i146_92 : cd_I 146 92 = some (.invokevirtual 113, 107, 1) := by decide +kernel
theorem cd_i146_95 : cd_I 146 95 = some (.aload_n 0, 0, 0) := by decide +kernel
theorem cd_i146_96 : cd_I 146 96 = some (.iconst 0, 0, 0) := by decide +kernel
theorem cd_i146_97 : cd_I 146 97 = some (.putfield 95, 11, 2) := by decide +kernel
theorem cd_i146_100 : cd_I 146 100 = some (.aload_n 0, 0, 0) := by decide +kernel
theorem cd_i146_101 : cd_I 146 101 = some (.getfield 101, 11, 4) := by decide +kernel
theorem cd_i146_104 : cd_I 146 104 = some (.ifCond .ne 9, 113, 0) := by decide +kernel
theorem cd_i146_107 : cd_I 146 107 = some (.aload_n 0, 0, 0) := by decide +kernel
theorem cd_i146_108 : cd_I 146 108 = some (.iconst 1, 0, 0) := by decide +kernel
theorem cd_i146_109 : cd_I 146 109 = some (.invokevirtual 176, 121, 1) := by decide +kernel
theorem cd_i146_112 : cd_I 146 112 = some (.ireturn, 0, 0) := by decide +kernel
theorem cd_i146_113 : cd_I 146 113 = some (.aload_n 0, 0, 0) := by decide +kernel
theorem cd_i146_114 : cd_I 146 114 = some (.iconst 0, 0, 0) := by decide +kernel
theorem cd_i146_115 : cd_I 146 115 = some (.putfield 88, 11, 0) := by decide +kernel
theorem cd_i146_118 : cd_I 146 118 = some (.aload_n 0, 0, 0) := by decide +kernel
theorem cd_i146_119 : cd_I 146 119 = some (.aload_n 0, 0, 0) := by decide +kernel
theorem cd_i146_120 : cd_I 146 120 = some (.getfield 253, 11, 36) := by decide +kernel
theorem cd_i146_123 : cd_I 146 123 = some (.putfield 275, 11, 32) := by decide +kernel
theorem cd_i146_126 : cd_I 146 126 = some (.iload_n 1, 0, 0) := by decide +kernel
theorem cd_i146_127 : cd_I 146 127 = some (.ireturn, 0, 0) := by decide +kernel
theorem cd_i147_0 : cd_I 147 0 = some (.aload_n 0, 0, 0) := by decide +kernel
theorem cd_i147_1 : cd_I 147 1 = some (.iconst 4, 0, 0) := by decide +kernel
theorem cd_i147_2 : cd_I 147 2 = some (.bipush 110, 0, 0) := by decide +kernel
theorem cd_i147_4 : cd_I 147 4 = some (.bipush 101, 0, 0) := by decide +kernel
theorem cd_i147_6 : cd_I 147 6 = some (.bipush 119, 0, 0) := by decide +kernel
theorem cd_i147_8 : cd_I 147 8 = some (.bipush 32, 0, 0) := by decide +kernel
theorem cd_i147_10 : cd_I 147 10 = some (.iconst 0, 0, 0) := by decide +kernel
theorem cd_i147_11 : cd_I 147 11 = some (.iconst 0, 0, 0) := by decide +kernel
theorem cd_i147_12 : cd_I 147 12 = some (.invokevirtual 145, 111, 7) := by decide +kernel
theorem cd_i147_15 : cd_I 147 15 = some (.ifCond .eq 29, 44, 0) := by decide +kernel
theorem cd_i147_18 : cd_I 147 18 = some (.aload_n 0, 0, 0) := by decide +kernel
theorem cd_i147_19 : cd_I 147 19 = some (.invokevirtual 135, 104, 0) := by decide +kernel
theorem cd_i147_22 : cd_I 147 22 = some (.istore_n 1, 0, 0) := by decide +kernel
theorem cd_i147_23 : cd_I 147 23 = some (.aload_n 0, 0, 0) := by decide +kernel
theorem cd_i147_24 : cd_I 147 24 = some (.getfield 101, 11, 4) := by decide +kernel
theorem cd_i147_27 : cd_I 147 27 = some (.ifCond .eq 15, 42, 0) := by decide +kernel
theorem cd_i147_30 : cd_I 147 30 = some (.aload_n 0, 0, 0) := by decide +kernel
theorem cd_i147_31 : cd_I 147 31 = some (.aload_n 0, 0, 0) := by decide +kernel
theorem cd_i147_32 : cd_I 147 32 = some (.iload_n 1, 0, 0) := by decide +kernel
theorem cd_i147_33 : cd_I 147 33 = some (.invokevirtual 259, 148, 1) := by decide +kernel
theorem cd_i147_36 : cd_I 147 36 = some (.invokevirtual 262, 149, 1) := by decide +kernel
theorem cd_i147_39 : cd_I 147 39 = some (.goto 4, 43, 0) := by decide +kernel
theorem cd_i147_42 : cd_I 147 42 = some (.iconst (-1), 0, 0) := by decide +kernel
theorem cd_i147_43 : cd_I 147 43 = some (.ireturn, 0, 0) := by decide +kernel
theorem cd_i147_44 : cd_I 147 44 = some (.aload_n 0, 0, 0) := by decide +kernel
theorem cd_i147_45 : cd_I 147 45 = some (.iconst 0, 0, 0) := by decide +kernel
theorem cd_i147_46 : cd_I 147 46 = some (.invokevirtual 105, 105, 1) := by decide +kernel
theorem cd_i147_49 : cd_I 147 49 = some (.invokestatic 132, 106, 1) := by decide +kernel
theorem cd_i147_52 : cd_I 147 52 = some (.ifCond .eq 58, 110, 0) := by decide +kernel
theorem cd_i147_55 : cd_I 147 55 = some (.aload_n 0, 0, 0) := by decide +kernel
theorem cd_i147_56 : cd_I 147 56 = some (.invokevirtual 135, 104, 0) := by decide +kernel
theorem cd_i147_59 : cd_I 147 59 = some (.istore_n 1, 0, 0) := by decide +kernel
theorem cd_i147_60 : cd_I 147 60 = some (.aload_n 0, 0, 0) := by decide +kernel
theorem cd_i147_61 : cd_I 147 61 = some (.bipush 46, 0, 0) := by decide +kernel
theorem cd_i147_63 : cd_I 147 63 = some (.invokevirtual 138, 109, 1) := by decide +kernel
theorem cd_i147_66 : cd_I 147 66 = some (.aload_n 0, 0, 0) := by decide +kernel
theorem cd_i147_67 : cd_I 147 67 = some (.invokevirtual 153, 117, 0) := by decide +kernel
theorem cd_i147_70 : cd_I 147 70 = some (.istore_n 2, 0, 0) := by decide +kernel
theorem cd_i147_71 : cd_I 147 71 = some (.aload_n 0, 0, 0) := by decide +kernel
theorem cd_i147_72 : cd_I 147 72 = some (.getfield 101, 11, 4) := by decide +kernel
theorem cd_i147_75 : cd_I 147 75 = some (.ifCond .eq 33, 108, 0) := by decide +kernel
theorem cd_i147_78 : cd_I 147 78 = some (.aload_n 0, 0, 0) := by decide +kernel
theorem cd_i147_79 : cd_I 147 79 = some (.aload_n 0, 0, 0) := by decide +kernel
theorem cd_i147_80 : cd_I 147 80 = some (.iconst (-1), 0, 0) := by decide +kernel
theorem cd_i147_81 : cd_I 147 81 = some (.iload_n 1, 0, 0) := by decide +kernel
theorem cd_i147_82 : cd_I 147 82 = some (.isub, 0, 0) := by decide +kernel
theorem cd_i147_83 : cd_I 147 83 = some (.iload_n 2, 0, 0) := by decide +kernel
theorem cd_i147_84 : cd_I 147 84 = some (.aload_n 0, 0, 0) := by decide +kernel
theorem cd_i147_85 : cd_I 147 85 = some (.iconst 0, 0, 0) := by decide +kernel
theorem cd_i147_86 : cd_I 147 86 = some (.invokevirtual 105, 105, 1) := by decide +kernel
theorem cd_i147_89 : cd_I 147 89 = some (.bipush 40, 0, 0) := by decide +kernel
theorem cd_i147_91 : cd_I 147 91 = some (.if_icmp .ne 7, 98, 0) := by decide +kernel
theorem cd_i147_94 : cd_I 147 94 = some (.iconst 1, 0, 0) := by decide +kernel
theorem cd_i147_95 : cd_I 147 95 = some (.goto 4, 99, 0) := by decide +kernel
theorem cd_i147_98 : cd_I 147 98 = some (.iconst 0, 0, 0) := by decide +kernel
theorem cd_i147_99 : cd_I 147 99 = some (.invokevirtual 265, 150, 3) := by decide +kernel
theorem cd_i147_102 : cd_I 147 102 = some (.invokevirtual 262, 149, 1) := by decide +kernel
theorem cd_i147_105 : cd_I 147 105 = some (.goto 4, 109, 0) := by decide +kernel
theorem cd_i147_108 : cd_I 147 108 = some (.iconst (-1), 0, 0) := by decide +kernel
theorem cd_i147_109 : cd_I 147 109 = some (.ireturn, 0, 0) := by decide +kernel
theorem cd_i147_110 : cd_I 147 110 = some (.aload_n 0, 0, 0) := by decide +kernel
theorem cd_i147_111 : cd_I 147 111 = some (.aload_n 0, 0, 0) := by decide +kernel
theorem cd_i147_112 : cd_I 147 112 = some (.invokevirtual 153, 117, 0) := by decide +kernel
theorem cd_i147_115 : cd_I 147 115 = some (.invokevirtual 186, 124, 1) := by decide +kernel
theorem cd_i147_118 : cd_I 147 118 = some (.istore_n 1, 0, 0) := by decide +kernel
theorem cd_i147_119 : cd_I 147 119 = some (.aload_n 0, 0, 0) := by decide +kernel
theorem cd_i147_120 : cd_I 147 120 = some (.iload_n 1, 0, 0) := by decide +kernel
theorem cd_i147_121 : cd_I 147 121 = some (.iconst (-1), 0, 0) := by decide +kernel
theorem cd_i147_122 : cd_I 147 122 = some (.if_icmp .eq 7, 129, 0) := by decide +kernel
theorem cd_i147_125 : cd_I 147 125 = some (.iconst 1, 0, 0) := by decide +kernel
theorem cd_i147_126 : cd_I 147 126 = some (.goto 4, 130, 0) := by decide +kernel
theorem cd_i147_129 : cd_I 147 129 = some (.iconst 0, 0, 0) := by decide +kernel
theorem cd_i147_130 : cd_I 147 130 = some (.invokevirtual 113, 107, 1) := by decide +kernel
theorem cd_i147_133 : cd_I 147 133 = some (.aload_n 0, 0, 0) := by decide +kernel
theorem cd_i147_134 : cd_I 147 134 = some (.getfield 101, 11, 4) := by decide +kernel
theorem cd_i147_137 : cd_I 147 137 = some (.ifCond .eq 12, 149, 0) := by decide +kernel
theorem cd_i147_140 : cd_I 147 140 = some (.aload_n 0, 0, 0) := by decide +kernel
theorem cd_i147_141 : cd_I 147 141 = some (.getfield 48, 11, 17) := by decide +kernel
theorem cd_i147_144 : cd_I 147 144 = some (.iload_n 1, 0, 0) := by decide +kernel
theorem cd_i147_145 : cd_I 147 145 = some (.iaload, 0, 0) := by decide +kernel
theorem cd_i147_146 : cd_I 147 146 = some (.goto 4, 150, 0) := by decide +kernel
theorem cd_i147_149 : cd_I 147 149 = some (.iconst (-1), 0, 0) := by decide +kernel
theorem cd_i147_150 : cd_I 147 150 = some (.ireturn, 0, 0) := by decide +kernel
theorem cd_i148_0 : cd_I 148 0 = some (.iconst (-1), 0, 0) := by decide +kernel
theorem cd_i148_1 : cd_I 148 1 = some (.istore_n 2, 0, 0) := by decide +kernel
theorem cd_i148_2 : cd_I 148 2 = some (.bipush 6, 0, 0) := by decide +kernel
theorem cd_i148_4 : cd_I 148 4 = some (.iload_n 1, 0, 0) := by decide +kernel
theorem cd_i148_5 : cd_I 148 5 = some (.imul, 0, 0) := by decide +kernel
theorem cd_i148_6 : cd_I 148 6 = some (.istore_n 3, 0, 0) := by decide +kernel
theorem cd_i148_7 : cd_I 148 7 = some (.iload_n 3, 0, 0) := by decide +kernel
theorem cd_i148_8 : cd_I 148 8 = some (.bipush 6, 0, 0) := by decide +kernel
theorem cd_i148_10 : cd_I 148 10 = some (.iload_n 1, 0, 0) := by decide +kernel
theorem cd_i148_11 : cd_I 148 11 = some (.imul, 0, 0) := by decide +kernel
theorem cd_i148_12 : cd_I 148 12 = some (.aload_n 0, 0, 0) := by decide +kernel
theorem cd_i148_13 : cd_I 148 13 = some (.getfield 21, 11, 7) := by decide +kernel
theorem cd_i148_16 : cd_I 148 16 = some (.iload_n 1, 0, 0) := by decide +kernel
theorem cd_i148_17 : cd_I 148 17 = some (.iaload, 0, 0) := by decide +kernel
theorem cd_i148_18 : cd_I 148 18 = some (.iadd, 0, 0) := by decide +kernel
theorem cd_i148_19 : cd_I 148 19 = some (.if_icmp .ge 33, 52, 0) := by decide +kernel
theorem cd_i148_22 : cd_I 148 22 = some (.aload_n 0, 0, 0) := by decide +kernel
theorem cd_i148_23 : cd_I 148 23 = some (.getfield 24, 11, 8) := by decide +kernel
theorem cd_i148_26 : cd_I 148 26 = some (.iload_n 3, 0, 0) := by decide +kernel
theorem cd_i148_27 : cd_I 148 27 = some (.iaload, 0, 0) := by decide +kernel
theorem cd_i148_28 : cd_I 148 28 = some (.iconst 2, 0, 0) := by decide +kernel
theorem cd_i148_29 : cd_I 148 29 = some (.if_icmp .ne 15, 44, 0) := by decide +kernel
theorem cd_i148_32 : cd_I 148 32 = some (.aload_n 0, 0, 0) := by decide +kernel
theorem cd_i148_33 : cd_I 148 33 = some (.iload_n 3, 0, 0) := by decide +kernel
theorem cd_i148_34 : cd_I 148 34 = some (.invokevirtual 195, 138, 1) := by decide +kernel
theorem cd_i148_37 : cd_I 148 37 = some (.ifCond .eq 7, 44, 0) := by decide +kernel
theorem cd_i148_40 : cd_I 148 40 = some (.iload_n 3, 0, 0) := by decide +kernel
theorem cd_i148_41 : cd_I 148 41 = some (.goto 4, 45, 0) := by decide +kernel
theorem cd_i148_44 : cd_I 148 44 = some (.iload_n 2, 0, 0) := by decide +kernel
theorem cd_i148_45 : cd_I 148 45 = some (.istore_n 2, 0, 0) := by decide +kernel
theorem cd_i148_46 : cd_I 148 46 = some (.iinc 3 1, 0, 0) := by decide +kernel
theorem cd_i148_49 : cd_I 148 49 = some (.goto (-42), 7, 0) := by decide +kernel
theorem cd_i148_52 : cd_I 148 52 = some (.iload_n 2, 0, 0) := by decide +kernel
theorem cd_i148_53 : cd_I 148 53 = some (.ireturn, 0, 0) := by decide +kernel
theorem cd_i149_0 : cd_I 149 0 = some (.aload_n 0, 0, 0) := by decide +kernel
theorem cd_i149_1 : cd_I 149 1 = some (.iload_n 1, 0, 0) := by decide +kernel
theorem cd_i149_2 : cd_I 149 2 = some (.iconst (-1), 0, 0) := by decide +kernel
theorem cd_i149_3 : cd_I 149 3 = some (.if_icmp .eq 7, 10, 0) := by decide +kernel
theorem cd_i149_6 : cd_I 149 6 = some (.iconst 1, 0, 0) := by decide +kernel
theorem cd_i149_7 : cd_I 149 7 = some (.goto 4, 11, 0) := by decide +kernel
theorem cd_i149_10 : cd_I 149 10 = some (.iconst 0, 0, 0) := by decide +kernel
theorem cd_i149_11 : cd_I 149 11 = some (.invokevirtual 113, 107, 1) := by decide +kernel
theorem cd_i149_14 : cd_I 149 14 = some (.aload_n 0, 0, 0) := by decide +kernel
theorem cd_i149_15 : cd_I 149 15 = some (.getfield 101, 11, 4) := by decide +kernel
theorem cd_i149_18 : cd_I 149 18 = some (.ifCond .ne 5, 23, 0) := by decide +kernel
theorem cd_i149_21 : cd_I 149 21 = some (.iconst (-1), 0, 0) := by decide +kernel
theorem cd_i149_22 : cd_I 149 22 = some (.ireturn, 0, 0) := by decide +kernel
theorem cd_i149_23 : cd_I 149 23 = some (.aload_n 0, 0, 0) := by decide +kernel
theorem cd_i149_24 : cd_I 149 24 = some (.dup, 0, 0) := by decide +kernel
theorem cd_i149_25 : cd_I 149 25 = some (.getfield 253, 11, 36) := by decide +kernel
theorem cd_i149_28 : cd_I 149 28 = some (.iconst 1, 0, 0) := by decide +kernel
theorem cd_i149_29 : cd_I 149 29 = some (.iadd, 0, 0) := by decide +kernel
theorem cd_i149_30 : cd_I 149 30 = some (.putfield 253, 11, 36) := by decide +kernel
theorem cd_i149_33 : cd_I 149 33 = some (.aload_n 0, 0, 0) := by decide +kernel
theorem cd_i149_34 : cd_I 149 34 = some (.getfield 24, 11, 8) := by decide +kernel
theorem cd_i149_37 : cd_I 149 37 = some (.iload_n 1, 0, 0) := by decide +kernel
theorem cd_i149_38 : cd_I 149 38 = some (.iaload, 0, 0) := by decide +kernel
theorem cd_i149_39 : cd_I 149 39 = some (.ifCond .ne 10, 49, 0) := by decide +kernel
theorem cd_i149_42 : cd_I 149 42 = some (.aload_n 0, 0, 0) := by decide +kernel
theorem cd_i149_43 : cd_I 149 43 = some (.getfield 36, 11, 12) := by decide +kernel
theorem cd_i149_46 : cd_I 149 46 = some (.iload_n 1, 0, 0) := by decide +kernel
theorem cd_i149_47 : cd_I 149 47 = some (.iaload, 0, 0) := by decide +kernel
theorem cd_i149_48 : cd_I 149 48 = some (.ireturn, 0, 0) := by decide +kernel
theorem cd_i149_49 : cd_I 149 49 = some (.aload_n 0, 0, 0) := by decide +kernel
theorem cd_i149_50 : cd_I 149 50 = some (.bipush 40, 0, 0) := by decide +kernel
theorem cd_i149_52 : cd_I 149 52 = some (.invokevirtual 138, 109, 1) := by decide +kernel
theorem cd_i149_55 : cd_I 149 55 = some (.aload_n 0, 0, 0) := by decide +kernel
theorem cd_i149_56 : cd_I 149 56 = some (.getfield 39, 11, 13) := by decide +kernel
theorem cd_i149_59 : cd_I 149 59 = some (.iload_n 1, 0, 0) := by decide +kernel
theorem cd_i149_60 : cd_I 149 60 = some (.iaload, 0, 0) := by decide +kernel
theorem cd_i149_61 : cd_I 149 61 = some (.ifCond .ne 16, 77, 0) := by decide +kernel
theorem cd_i149_64 : cd_I 149 64 = some (.aload_n 0, 0, 0) := by decide +kernel
theorem cd_i149_65 : cd_I 149 65 = some (.bipush 41, 0, 0) := by decide +kernel
theorem cd_i149_67 : cd_I 149 67 = some (.invokevirtual 138, 109, 1) := by decide +kernel
theorem cd_i149_70 : cd_I 149 70 = some (.aload_n 0, 0, 0) := by decide +kernel
theorem cd_i149_71 : cd_I 149 71 = some (.getfield 36, 11, 12) := by decide +kernel
theorem cd_i149_74 : cd_I 149 74 = some (.iload_n 1, 0, 0) := by decide +kernel
theorem cd_i149_75 : cd_I 149 75 = some (.iaload, 0, 0) := by decide +kernel
theorem cd_i149_76 : cd_I 149 76 = some (.ireturn, 0, 0) := by decide +kernel
theorem cd_i149_77 : cd_I 149 77 = some (.aload_n 0, 0, 0) := by decide +kernel
theorem cd_i149_78 : cd_I 149 78 = some (.aload_n 0, 0, 0) := by decide +kernel
theorem cd_i149_79 : cd_I 149 79 = some (.getfield 256, 11, 33) := by decide +kernel
theorem cd_i149_82 : cd_I 149 82 = some (.bipush 6, 0, 0) := by decide +kernel
theorem cd_i149_84 : cd_I 149 84 = some (.if_icmp .ge 7, 91, 0) := by decide +kernel
theorem cd_i149_87 : cd_I 149 87 = some (.iconst 1, 0, 0) := by decide +kernel
theorem cd_i149_88 : cd_I 149 88 = some (.goto 4, 92, 0) := by decide +kernel
theorem cd_i149_91 : cd_I 149 91 = some (.iconst 0, 0, 0) := by decide +kernel
theorem cd_i149_92 : cd_I 149 92 = some (.invokevirtual 113, 107, 1) := by decide +kernel
theorem cd_i149_95 : cd_I 149 95 = some (.aload_n 0, 0, 0) := by decide +kernel
theorem cd_i149_96 : cd_I 149 96 = some (.getfield 82, 11, 34) := by decide +kernel
theorem cd_i149_99 : cd_I 149 99 = some (.aload_n 0, 0, 0) := by decide +kernel
theorem cd_i149_100 : cd_I 149 100 = some (.getfield 256, 11, 33) := by decide +kernel
theorem cd_i149_103 : cd_I 149 103 = some (.iload_n 1, 0, 0) := by decide +kernel
theorem cd_i149_104 : cd_I 149 104 = some (.iastore, 0, 0) := by decide +kernel
theorem cd_i149_105 : cd_I 149 105 = some (.aload_n 0, 0, 0) := by decide +kernel
theorem cd_i149_106 : cd_I 149 106 = some (.getfield 85, 11, 35) := by decide +kernel
theorem cd_i149_109 : cd_I 149 109 = some (.aload_n 0, 0, 0) := by decide +kernel
theorem cd_i149_110 : cd_I 149 110 = some (.getfield 256, 11, 33) := by decide +kernel
theorem cd_i149_113 : cd_I 149 113 = some (.iconst 0, 0, 0) := by decide +kernel
theorem cd_i149_114 : cd_I 149 114 = some (.iastore, 0, 0) := by decide +kernel
theorem cd_i149_115 : cd_I 149 115 = some (.aload_n 0, 0, 0) := by decide +kernel
theorem cd_i149_116 : cd_I 149 116 = some (.dup, 0, 0) := by decide +kernel
theorem cd_i149_117 : cd_I 149 117 = some (.getfield 256, 11, 33) := by decide +kernel
theorem cd_i149_120 : cd_I 149 120 = some (.iconst 1, 0, 0) := by decide +kernel
theorem cd_i149_121 : cd_I 149 121 = some (.iadd, 0, 0) := by decide +kernel
theorem cd_i149_122 : cd_I 149 122 = some (.putfield 256, 11, 33) := by decide +kernel
theorem cd_i149_125 : cd_I 149 125 = some (.iconst (-1), 0, 0) := by decide +kernel
theorem cd_i149_126 : cd_I 149 126 = some (.ireturn, 0, 0) := by decide +kernel
theorem cd_i150_0 : cd_I 150 0 = some (.iconst (-1), 0, 0) := by decide +kernel
theorem cd_i150_1 : cd_I 150 1 = some (.istore 4, 0, 0) := by decide +kernel
theorem cd_i150_3 : cd_I 150 3 = some (.iconst 0, 0, 0) := by decide +kernel
theorem cd_i150_4 : cd_I 150 4 = some (.istore 5, 0, 0) := by decide +kernel
theorem cd_i150_6 : cd_I 150 6 = some (.iload 5, 0, 0) := by decide +kernel
theorem cd_i150_8 : cd_I 150 8 = some (.bipush 60, 0, 0) := by decide +kernel
theorem cd_i150_10 : cd_I 150 10 = some (.if_icmp .ge 133, 143, 0) := by decide +kernel
theorem cd_i150_13 : cd_I 150 13 = some (.aload_n 0, 0, 0) := by decide +kernel
theorem cd_i150_14 : cd_I 150 14 = some (.getfield 13, 11, 5) := by decide +kernel
theorem cd_i150_17 : cd_I 150 17 = some (.iload 5, 0, 0) := by decide +kernel
theorem cd_i150_19 : cd_I 150 19 = some (.bipush 6, 0, 0) := by decide +kernel
theorem cd_i150_21 : cd_I 150 21 = some (.idiv, 0, 0) := by decide +kernel
theorem cd_i150_22 : cd_I 150 22 = some (.baload, 0, 0) := by decide +kernel
theorem cd_i150_23 : cd_I 150 23 = some (.ifCond .eq 55, 78, 0) := by decide +kernel
theorem cd_i150_26 : cd_I 150 26 = some (.iload 5, 0, 0) := by decide +kernel
theorem cd_i150_28 : cd_I 150 28 = some (.bipush 6, 0, 0) := by decide +kernel
theorem cd_i150_30 : cd_I 150 30 = some (.irem, 0, 0) := by decide +kernel
theorem cd_i150_31 : cd_I 150 31 = some (.aload_n 0, 0, 0) := by decide +kernel
theorem cd_i150_32 : cd_I 150 32 = some (.getfield 21, 11, 7) := by decide +kernel
theorem cd_i150_35 : cd_I 150 35 = some (.iload 5, 0, 0) := by decide +kernel
theorem cd_i150_37 : cd_I 150 37 = some (.bipush 6, 0, 0) := by decide +kernel
theorem cd_i150_39 : cd_I 150 39 = some (.idiv, 0, 0) := by decide +kernel
theorem cd_i150_40 : cd_I 150 40 = some (.iaload, 0, 0) := by decide +kernel
theorem cd_i150_41 : cd_I 150 41 = some (.if_icmp .ge 37, 78, 0) := by decide +kernel
theorem cd_i150_44 : cd_I 150 44 = some (.aload_n 0, 0, 0) := by decide +kernel
theorem cd_i150_45 : cd_I 150 45 = some (.getfield 24, 11, 8) := by decide +kernel
theorem cd_i150_48 : cd_I 150 48 = some (.iload 5, 0, 0) := by decide +kernel
theorem cd_i150_50 : cd_I 150 50 = some (.iaload, 0, 0) := by decide +kernel
theorem cd_i150_51 : cd_I 150 51 = some (.iload_n 3, 0, 0) := by decide +kernel
theorem cd_i150_52 : cd_I 150 52 = some (.ifCond .eq 7, 59, 0) := by decide +kernel
theorem cd_i150_55 : cd_I 150 55 = some (.iconst 1, 0, 0) := by decide +kernel
theorem cd_i150_56 : cd_I 150 56 = some (.goto 4, 60, 0) := by decide +kernel
theorem cd_i150_59 : cd_I 150 59 = some (.iconst 0, 0, 0) := by decide +kernel
theorem cd_i150_60 : cd_I 150 60 = some (.if_icmp .ne 18, 78, 0) := by decide +kernel
theorem cd_i150_63 : cd_I 150 63 = some (.aload_n 0, 0, 0) := by decide +kernel
theorem cd_i150_64 : cd_I 150 64 = some (.getfield 33, 11, 11) := by decide +kernel
theorem cd_i150_67 : cd_I 150 67 = some (.iload 5, 0, 0) := by decide +kernel
theorem cd_i150_69 : cd_I 150 69 = some (.iaload, 0, 0) := by decide +kernel
theorem cd_i150_70 : cd_I 150 70 = some (.iload_n 2, 0, 0) := by decide +kernel
theorem cd_i150_71 : cd_I 150 71 = some (.if_icmp .ne 7, 78, 0) := by decide +kernel
theorem cd_i150_74 : cd_I 150 74 = some (.iconst 1, 0, 0) := by decide +kernel
theorem cd_i150_75 : cd_I 150 75 = some (.goto 4, 79, 0) := by decide +kernel
theorem cd_i150_78 : cd_I 150 78 = some (.iconst 0, 0, 0) := by decide +kernel
theorem cd_i150_79 : cd_I 150 79 = some (.istore 6, 0, 0) := by decide +kernel
theorem cd_i150_81 : cd_I 150 81 = some (.iload 6, 0, 0) := by decide +kernel
theorem cd_i150_83 : cd_I 150 83 = some (.ifCond .eq 54, 137, 0) := by decide +kernel
theorem cd_i150_86 : cd_I 150 86 = some (.iload_n 1, 0, 0) := by decide +kernel
theorem cd_i150_87 : cd_I 150 87 = some (.ifCond .lt 16, 103, 0) := by decide +kernel
theorem cd_i150_90 : cd_I 150 90 = some (.aload_n 0, 0, 0) := by decide +kernel
theorem cd_i150_91 : cd_I 150 91 = some (.iload_n 1, 0, 0) := by decide +kernel
theorem cd_i150_92 : cd_I 150 92 = some (.iload 5, 0, 0) := by decide +kernel
theorem cd_i150_94 : cd_I 150 94 = some (.invokevirtual 238, 143, 2) := by decide +kernel
theorem cd_i150_97 : cd_I 150 97 = some (.ifCond .eq 40, 137, 0) := by decide +kernel
theorem cd_i150_100 : cd_I 150 100 = some (.goto 33, 133, 0) := by decide +kernel
theorem cd_i150_103 : cd_I 150 103 = some (.iload 5, 0, 0) := by decide +kernel
theorem cd_i150_105 : cd_I 150 105 = some (.bipush 6, 0, 0) := by decide +kernel
theorem cd_i150_107 : cd_I 150 107 = some (.idiv, 0, 0) := by decide +kernel
theorem cd_i150_108 : cd_I 150 108 = some (.iconst (-1), 0, 0) := by decide +kernel
theorem cd_i150_109 : cd_I 150 109 = some (.iload_n 1, 0, 0) := by decide +kernel
theorem cd_i150_110 : cd_I 150 110 = some (.isub, 0, 0) := by decide +kernel
theorem cd_i150_111 : cd_I 150 111 = some (.if_icmp .ne 26, 137, 0) := by decide +kernel
theorem cd_i150_114 : cd_I 150 114 = some (.aload_n 0, 0, 0) := by decide +kernel
theorem cd_i150_115 : cd_I 150 115 = some (.getfield 27, 11, 9) := by decide +kernel
theorem cd_i150_118 : cd_I 150 118 = some (.iload 5, 0, 0) := by decide +kernel
theorem cd_i150_120 : cd_I 150 120 = some (.baload, 0, 0) := by decide +kernel
theorem cd_i150_121 : cd_I 150 121 = some (.ifCond .eq 16, 137, 0) := by decide +kernel
theorem cd_i150_124 : cd_I 150 124 = some (.aload_n 0, 0, 0) := by decide +kernel
theorem cd_i150_125 : cd_I 150 125 = some (.iload 5, 0, 0) := by decide +kernel
theorem cd_i150_127 : cd_I 150 127 = some (.invokevirtual 195, 138, 1) := by decide +kernel
theorem cd_i150_130 : cd_I 150 130 = some (.ifCond .eq 7, 137, 0) := by decide +kernel
theorem cd_i150_133 : cd_I 150 133 = some (.iload 5, 0, 0) := by decide +kernel
theorem cd_i150_135 : cd_I 150 135 = some (.istore 4, 0, 0) := by decide +kernel
theorem cd_i150_137 : cd_I 150 137 = some (.iinc 5 1, 0, 0) := by decide +kernel
theorem cd_i150_140 : cd_I 150 140 = some (.goto (-134), 6, 0) := by decide +kernel
theorem cd_i150_143 : cd_I 150 143 = some (.iload 4, 0, 0) := by decide +kernel
theorem cd_i150_145 : cd_I 150 145 = some (.ireturn, 0, 0) := by decide +kernel
theorem cd_i151_0 : cd_I 151 0 = some (.aload_n 0, 0, 0) := by decide +kernel
theorem cd_i151_1 : cd_I 151 1 = some (.bipush 46, 0, 0) := by decide +kernel
theorem cd_i151_3 : cd_I 151 3 = some (.invokevirtual 109, 108, 1) := by decide +kernel
theorem cd_i151_6 : cd_I 151 6 = some (.ifCond .eq 45, 51, 0) := by decide +kernel
theorem cd_i151_9 : cd_I 151 9 = some (.aload_n 0, 0, 0) := by decide +kernel
theorem cd_i151_10 : cd_I 151 10 = some (.invokevirtual 153, 117, 0) := by decide +kernel
theorem cd_i151_13 : cd_I 151 13 = some (.istore_n 2, 0, 0) := by decide +kernel
theorem cd_i151_14 : cd_I 151 14 = some (.aload_n 0, 0, 0) := by decide +kernel
theorem cd_i151_15 : cd_I 151 15 = some (.getfield 101, 11, 4) := by decide +kernel
theorem cd_i151_18 : cd_I 151 18 = some (.ifCond .eq 31, 49, 0) := by decide +kernel
theorem cd_i151_21 : cd_I 151 21 = some (.aload_n 0, 0, 0) := by decide +kernel
theorem cd_i151_22 : cd_I 151 22 = some (.aload_n 0, 0, 0) := by decide +kernel
theorem cd_i151_23 : cd_I 151 23 = some (.iload_n 1, 0, 0) := by decide +kernel
theorem cd_i151_24 : cd_I 151 24 = some (.iload_n 2, 0, 0) := by decide +kernel
theorem cd_i151_25 : cd_I 151 25 = some (.aload_n 0, 0, 0) := by decide +kernel
theorem cd_i151_26 : cd_I 151 26 = some (.iconst 0, 0, 0) := by decide +kernel
theorem cd_i151_27 : cd_I 151 27 = some (.invokevirtual 105, 105, 1) := by decide +kernel
theorem cd_i151_30 : cd_I 151 30 = some (.bipush 40, 0, 0) := by decide +kernel
theorem cd_i151_32 : cd_I 151 32 = some (.if_icmp .ne 7, 39, 0) := by decide +kernel
theorem cd_i151_35 : cd_I 151 35 = some (.iconst 1, 0, 0) := by decide +kernel
theorem cd_i151_36 : cd_I 151 36 = some (.goto 4, 40, 0) := by decide +kernel
theorem cd_i151_39 : cd_I 151 39 = some (.iconst 0, 0, 0) := by decide +kernel
theorem cd_i151_40 : cd_I 151 40 = some (.invokevirtual 265, 150, 3) := by decide +kernel
theorem cd_i151_43 : cd_I 151 43 = some (.invokevirtual 262, 149, 1) := by decide +kernel
theorem cd_i151_46 : cd_I 151 46 = some (.goto 4, 50, 0) := by decide +kernel
theorem cd_i151_49 : cd_I 151 49 = some (.iconst (-1), 0, 0) := by decide +kernel
theorem cd_i151_50 : cd_I 151 50 = some (.ireturn, 0, 0) := by decide +kernel
theorem cd_i151_51 : cd_I 151 51 = some (.aload_n 0, 0, 0) := by decide +kernel
theorem cd_i151_52 : cd_I 151 52 = some (.getfield 82, 11, 34) := by decide +kernel
theorem cd_i151_55 : cd_I 151 55 = some (.aload_n 0, 0, 0) := by decide +kernel
theorem cd_i151_56 : cd_I 151 56 = some (.getfield 256, 11, 33) := by decide +kernel
theorem cd_i151_59 : cd_I 151 59 = some (.iconst 1, 0, 0) := by decide +kernel
theorem cd_i151_60 : cd_I 151 60 = some (.isub, 0, 0) := by decide +kernel
theorem cd_i151_61 : cd_I 151 61 = some (.iaload, 0, 0) := by decide +kernel
theorem cd_i151_62 : cd_I 151 62 = some (.istore_n 2, 0, 0) := by decide +kernel
theorem cd_i151_63 : cd_I 151 63 = some (.aload_n 0, 0, 0) := by decide +kernel
theorem cd_i151_64 : cd_I 151 64 = some (.getfield 85, 11, 35) := by decide +kernel
theorem cd_i151_67 : cd_I 151 67 = some (.aload_n 0, 0, 0) := by decide +kernel
theorem cd_i151_68 : cd_I 151 68 = some (.getfield 256, 11, 33) := by decide +kernel
theorem cd_i151_71 : cd_I 151 71 = some (.iconst 1, 0, 0) := by decide +kernel
theorem cd_i151_72 : cd_I 151 72 = some (.isub, 0, 0) := by decide +kernel
theorem cd_i151_73 : cd_I 151 73 = some (.iaload, 0, 0) := by decide +kernel
theorem cd_i151_74 : cd_I 151 74 = some (.istore_n 3, 0, 0) := by decide +kernel
theorem cd_i151_75 : cd_I 151 75 = some (.aload_n 0, 0, 0) := by decide +kernel
theorem cd_i151_76 : cd_I 151 76 = some (.aload_n 0, 0, 0) := by decide +kernel
theorem cd_i151_77 : cd_I 151 77 = some (.iload_n 1, 0, 0) := by decide +kernel
theorem cd_i151_78 : cd_I 151 78 = some (.aload_n 0, 0, 0) := by decide +kernel
theorem cd_i151_79 : cd_I 151 79 = some (.getfield 42, 11, 14) := by decide +kernel
theorem cd_i151_82 : cd_I 151 82 = some (.iconst 2, 0, 0) := by decide +kernel
theorem cd_i151_83 : cd_I 151 83 = some (.iload_n 2, 0, 0) := by decide +kernel
theorem cd_i151_84 : cd_I 151 84 = some (.imul, 0, 0) := by decide +kernel
theorem cd_i151_85 : cd_I 151 85 = some (.iload_n 3, 0, 0) := by decide +kernel
theorem cd_i151_86 : cd_I 151 86 = some (.iadd, 0, 0) := by decide +kernel
theorem cd_i151_87 : cd_I 151 87 = some (.iaload, 0, 0) := by decide +kernel
theorem cd_i151_88 : cd_I 151 88 = some (.invokevirtual 192, 128, 2) := by decide +kernel
theorem cd_i151_91 : cd_I 151 91 = some (.invokevirtual 113, 107, 1) := by decide +kernel
theorem cd_i151_94 : cd_I 151 94 = some (.aload_n 0, 0, 0) := by decide +kernel
theorem cd_i151_95 : cd_I 151 95 = some (.getfield 85, 11, 35) := by decide +kernel
theorem cd_i151_98 : cd_I 151 98 = some (.aload_n 0, 0, 0) := by decide +kernel
theorem cd_i151_99 : cd_I 151 99 = some (.getfield 256, 11, 33) := by decide +kernel
theorem cd_i151_102 : cd_I 151 102 = some (.iconst 1, 0, 0) := by decide +kernel
theorem cd_i151_103 : cd_I 151 103 = some (.isub, 0, 0) := by decide +kernel
theorem cd_i151_104 : cd_I 151 104 = some (.dup2, 0, 0) := by decide +kernel
theorem cd_i151_105 : cd_I 151 105 = some (.iaload, 0, 0) := by decide +kernel
theorem cd_i151_106 : cd_I 151 106 = some (.iconst 1, 0, 0) := by decide +kernel
theorem cd_i151_107 : cd_I 151 107 = some (.iadd, 0, 0) := by decide +kernel
theorem cd_i151_108 : cd_I 151 108 = some (.iastore, 0, 0) := by decide +kernel
theorem cd_i151_109 : cd_I 151 109 = some (.iload_n 3, 0, 0) := by decide +kernel
theorem cd_i151_110 : cd_I 151 110 = some (.iconst 1, 0, 0) := by decide +kernel
theorem cd_i151_111 : cd_I 151 111 = some (.iadd, 0, 0) := by decide +kernel
theorem cd_i151_112 : cd_I 151 112 = some (.aload_n 0, 0, 0) := by decide +kernel
theorem cd_i151_113 : cd_I 151 113 = some (.getfield 39, 11, 13) := by decide +kernel
theorem cd_i151_116 : cd_I 151 116 = some (.iload_n 2, 0, 0) := by decide +kernel
theorem cd_i151_117 : cd_I 151 117 = some (.iaload, 0, 0) := by decide +kernel
theorem cd_i151_118 : cd_I 151 118 = some (.if_icmp .ge 11, 129, 0) := by decide +kernel
theorem cd_i151_121 : cd_I 151 121 = some (.aload_n 0, 0, 0) := by decide +kernel
theorem cd_i151_122 : cd_I 151 122 = some (.bipush 44, 0, 0) := by decide +kernel
theorem cd_i151_124 : cd_I 151 124 = some (.invokevirtual 138, 109, 1) := by decide +kernel
theorem cd_i151_127 : cd_I 151 127 = some (.iconst (-1), 0, 0) := by decide +kernel
theorem cd_i151_128 : cd_I 151 128 = some (.ireturn, 0, 0) := by decide +kernel
theorem cd_i151_129 : cd_I 151 129 = some (.aload_n 0, 0, 0) := by decide +kernel
theorem cd_i151_130 : cd_I 151 130 = some (.bipush 41, 0, 0) := by decide +kernel
theorem cd_i151_132 : cd_I 151 132 = some (.invokevirtual 138, 109, 1) := by decide +kernel
theorem cd_i151_135 : cd_I 151 135 = some (.aload_n 0, 0, 0) := by decide +kernel
theorem cd_i151_136 : cd_I 151 136 = some (.dup, 0, 0) := by decide +kernel
theorem cd_i151_137 : cd_I 151 137 = some (.getfield 256, 11, 33) := by decide +kernel
theorem cd_i151_140 : cd_I 151 140 = some (.iconst 1, 0, 0) := by decide +kernel
theorem cd_i151_141 : cd_I 151 141 = some (.isub, 0, 0) := by decide +kernel
theorem cd_i151_142 : cd_I 151 142 = some (.putfield 256, 11, 33) := by decide +kernel
theorem cd_i151_145 : cd_I 151 145 = some (.aload_n 0, 0, 0) := by decide +kernel
theorem cd_i151_146 : cd_I 151 146 = some (.getfield 36, 11, 12) := by decide +kernel
theorem cd_i151_149 : cd_I 151 149 = some (.iload_n 2, 0, 0) := by decide +kernel
theorem cd_i151_150 : cd_I 151 150 = some (.iaload, 0, 0) := by decide +kernel
theorem cd_i151_151 : cd_I 151 151 = some (.ireturn, 0, 0) := by decide +kernel
theorem cd_i152_0 : cd_I 152 0 = some (.aload_n 0, 0, 0) := by decide +kernel
theorem cd_i152_1 : cd_I 152 1 = some (.iconst 0, 0, 0) := by decide +kernel
theorem cd_i152_2 : cd_I 152 2 = some (.putfield 88, 11, 0) := by decide +kernel
theorem cd_i152_5 : cd_I 152 5 = some (.aload_n 0, 0, 0) := by decide +kernel
theorem cd_i152_6 : cd_I 152 6 = some (.getfield 275, 11, 32) := by decide +kernel
theorem cd_i152_9 : cd_I 152 9 = some (.ireturn, 0, 0) := by decide +kernel
theorem cd_i153_0 : cd_I 153 0 = some (.aload_n 0, 0, 0) := by decide +kernel
theorem cd_i153_1 : cd_I 153 1 = some (.iconst 0, 0, 0) := by decide +kernel
theorem cd_i153_2 : cd_I 153 2 = some (.putfield 88, 11, 0) := by decide +kernel
theorem cd_i153_5 : cd_I 153 5 = some (.iload_n 1, 0, 0) := by decide +kernel
theorem cd_i153_6 : cd_I 153 6 = some (.iconst 0, 0, 0) := by decide +kernel
theorem cd_i153_7 : cd_I 153 7 = some (.aload_n 0, 0, 0) := by decide +kernel
theorem cd_i153_8 : cd_I 153 8 = some (.getfield 247, 11, 27) := by decide +kernel
theorem cd_i153_11 : cd_I 153 11 = some (.iconst 1, 0, 0) := by decide +kernel
theorem cd_i153_12 : cd_I 153 12 = some (.isub, 0, 0) := by decide +kernel
theorem cd_i153_13 : cd_I 153 13 = some (.invokestatic 91, 101, 3) := by decide +kernel
theorem cd_i153_16 : cd_I 153 16 = some (.ifCond .ne 12, 28, 0) := by decide +kernel
theorem cd_i153_19 : cd_I 153 19 = some (.iload_n 2, 0, 0) := by decide +kernel
theorem cd_i153_20 : cd_I 153 20 = some (.iconst 0, 0, 0) := by decide +kernel
theorem cd_i153_21 : cd_I 153 21 = some (.iconst 2, 0, 0) := by decide +kernel
theorem cd_i153_22 : cd_I 153 22 = some (.invokestatic 91, 101, 3) := by decide +kernel
theorem cd_i153_25 : cd_I 153 25 = some (.ifCond .eq 5, 30, 0) := by decide +kernel
theorem cd_i153_28 : cd_I 153 28 = some (.iconst (-1), 0, 0) := by decide +kernel
theorem cd_i153_29 : cd_I 153 29 = some (.ireturn, 0, 0) := by decide +kernel
theorem cd_i153_30 : cd_I 153 30 = some (.iload_n 2, 0, 0) := by decide +kernel
theorem cd_i153_31 : cd_I 153 31 = some (.ifCond .ne 12, 43, 0) := by decide +kernel
theorem cd_i153_34 : cd_I 153 34 = some (.aload_n 0, 0, 0) := by decide +kernel
theorem cd_i153_35 : cd_I 153 35 = some (.getfield 76, 11, 30) := by decide +kernel
theorem cd_i153_38 : cd_I 153 38 = some (.iload_n 1, 0, 0) := by decide +kernel
theorem cd_i153_39 : cd_I 153 39 = some (.iaload, 0, 0) := by decide +kernel
theorem cd_i153_40 : cd_I 153 40 = some (.goto 23, 63, 0) := by decide +kernel
theorem cd_i153_43 : cd_I 153 43 = some (.iload_n 2, 0, 0) := by decide +kernel
theorem cd_i153_44 : cd_I 153 44 = some (.iconst 1, 0, 0) := by decide +kernel
theorem cd_i153_45 : cd_I 153 45 = some (.if_icmp .ne 12, 57, 0) := by decide +kernel
theorem cd_i153_48 : cd_I 153 48 = some (.aload_n 0, 0, 0) := by decide +kernel
theorem cd_i153_49 : cd_I 153 49 = some (.getfield 70, 11, 28) := by decide +kernel
theorem cd_i153_52 : cd_I 153 52 = some (.iload_n 1, 0, 0) := by decide +kernel
theorem cd_i153_53 : cd_I 153 53 = some (.iaload, 0, 0) := by decide +kernel
theorem cd_i153_54 : cd_I 153 54 = some (.goto 9, 63, 0) := by decide +kernel
theorem cd_i153_57 : cd_I 153 57 = some (.aload_n 0, 0, 0) := by decide +kernel
theorem cd_i153_58 : cd_I 153 58 = some (.getfield 73, 11, 29) := by decide +kernel
theorem cd_i153_61 : cd_I 153 61 = some (.iload_n 1, 0, 0) := by decide +kernel
theorem cd_i153_62 : cd_I 153 62 = some (.iaload, 0, 0) := by decide +kernel
theorem cd_i153_63 : cd_I 153 63 = some (.ireturn, 0, 0) := by decide +kernel
theorem cd_i154_0 : cd_I 154 0 = some (.aload_n 0, 0, 0) := by decide +kernel
theorem cd_i154_1 : cd_I 154 1 = some (.iconst 0, 0, 0) := by decide +kernel
theorem cd_i154_2 : cd_I 154 2 = some (.putfield 88, 11, 0) := by decide +kernel
theorem cd_i154_5 : cd_I 154 5 = some (.iload_n 1, 0, 0) := by decide +kernel
theorem cd_i154_6 : cd_I 154 6 = some (.iconst 0, 0, 0) := by decide +kernel
theorem cd_i154_7 : cd_I 154 7 = some (.aload_n 0, 0, 0) := by decide +kernel
theorem cd_i154_8 : cd_I 154 8 = some (.getfield 247, 11, 27) := by decide +kernel
theorem cd_i154_11 : cd_I 154 11 = some (.iconst 1, 0, 0) := by decide +kernel
theorem cd_i154_12 : cd_I 154 12 = some (.isub, 0, 0) := by decide +kernel
theorem cd_i154_13 : cd_I 154 13 = some (.invokestatic 91, 101, 3) := by decide +kernel
theorem cd_i154_16 : cd_I 154 16 = some (.ifCond .ne 19, 35, 0) := by decide +kernel
theorem cd_i154_19 : cd_I 154 19 = some (.iload_n 2, 0, 0) := by decide +kernel
theorem cd_i154_20 : cd_I 154 20 = some (.iconst 0, 0, 0) := by decide +kernel
theorem cd_i154_21 : cd_I 154 21 = some (.aload_n 0, 0, 0) := by decide +kernel
theorem cd_i154_22 : cd_I 154 22 = some (.getfield 76, 11, 30) := by decide +kernel
theorem cd_i154_25 : cd_I 154 25 = some (.iload_n 1, 0, 0) := by decide +kernel
theorem cd_i154_26 : cd_I 154 26 = some (.iaload, 0, 0) := by decide +kernel
theorem cd_i154_27 : cd_I 154 27 = some (.iconst 1, 0, 0) := by decide +kernel
theorem cd_i154_28 : cd_I 154 28 = some (.isub, 0, 0) := by decide +kernel
theorem cd_i154_29 : cd_I 154 29 = some (.invokestatic 91, 101, 3) := by decide +kernel
theorem cd_i154_32 : cd_I 154 32 = some (.ifCond .eq 7, 39, 0) := by decide +kernel
theorem cd_i154_35 : cd_I 154 35 = some (.iconst 0, 0, 0) := by decide +kernel
theorem cd_i154_36 : cd_I 154 36 = some (.goto 14, 50, 0) := by decide +kernel
theorem cd_i154_39 : cd_I 154 39 = some (.aload_n 0, 0, 0) := by decide +kernel
theorem cd_i154_40 : cd_I 154 40 = some (.getfield 79, 11, 31) := by decide +kernel
theorem cd_i154_43 : cd_I 154 43 = some (.bipush 24, 0, 0) := by decide +kernel
theorem cd_i154_45 : cd_I 154 45 = some (.iload_n 1, 0, 0) := by decide +kernel
theorem cd_i154_46 : cd_I 154 46 = some (.imul, 0, 0) := by decide +kernel
theorem cd_i154_47 : cd_I 154 47 = some (.iload_n 2, 0, 0) := by decide +kernel
theorem cd_i154_48 : cd_I 154 48 = some (.iadd, 0, 0) := by decide +kernel
theorem cd_i154_49 : cd_I 154 49 = some (.caload, 0, 0) := by decide +kernel
theorem cd_i154_50 : cd_I 154 50 = some (.ireturn, 0, 0) := by decide +kernel
theorem cd_i155_0 : cd_I 155 0 = some (.aload_n 0, 0, 0) := by decide +kernel
theorem cd_i155_1 : cd_I 155 1 = some (.iconst 0, 0, 0) := by decide +kernel
theorem cd_i155_2 : cd_I 155 2 = some (.putfield 88, 11, 0) := by decide +kernel
theorem cd_i155_5 : cd_I 155 5 = some (.iload_n 1, 0, 0) := by decide +kernel
theorem cd_i155_6 : cd_I 155 6 = some (.iconst 0, 0, 0) := by decide +kernel
theorem cd_i155_7 : cd_I 155 7 = some (.bipush 9, 0, 0) := by decide +kernel
theorem cd_i155_9 : cd_I 155 9 = some (.invokestatic 91, 101, 3) := by decide +kernel
theorem cd_i155_12 : cd_I 155 12 = some (.ifCond .ne 12, 24, 0) := by decide +kernel
theorem cd_i155_15 : cd_I 155 15 = some (.aload_n 0, 0, 0) := by decide +kernel
theorem cd_i155_16 : cd_I 155 16 = some (.getfield 13, 11, 5) := by decide +kernel
theorem cd_i155_19 : cd_I 155 19 = some (.iload_n 1, 0, 0) := by decide +kernel
theorem cd_i155_20 : cd_I 155 20 = some (.baload, 0, 0) := by decide +kernel
theorem cd_i155_21 : cd_I 155 21 = some (.ifCond .ne 7, 28, 0) := by decide +kernel
theorem cd_i155_24 : cd_I 155 24 = some (.iconst (-1), 0, 0) := by decide +kernel
theorem cd_i155_25 : cd_I 155 25 = some (.goto 9, 34, 0) := by decide +kernel
theorem cd_i155_28 : cd_I 155 28 = some (.aload_n 0, 0, 0) := by decide +kernel
theorem cd_i155_29 : cd_I 155 29 = some (.getfield 21, 11, 7) := by decide +kernel
theorem cd_i155_32 : cd_I 155 32 = some (.iload_n 1, 0, 0) := by decide +kernel
theorem cd_i155_33 : cd_I 155 33 = some (.iaload, 0, 0) := by decide +kernel
theorem cd_i155_34 : cd_I 155 34 = some (.ireturn, 0, 0) := by decide +kernel
theorem cd_i156_0 : cd_I 156 0 = some (.aload_n 0, 0, 0) := by decide +kernel
theorem cd_i156_1 : cd_I 156 1 = some (.iconst 0, 0, 0) := by decide +kernel
theorem cd_i156_2 : cd_I 156 2 = some (.putfield 88, 11, 0) := by decide +kernel
theorem cd_i156_5 : cd_I 156 5 = some (.iload_n 1, 0, 0) := by decide +kernel
theorem cd_i156_6 : cd_I 156 6 = some (.iconst 0, 0, 0) := by decide +kernel
theorem cd_i156_7 : cd_I 156 7 = some (.bipush 9, 0, 0) := by decide +kernel
theorem cd_i156_9 : cd_I 156 9 = some (.invokestatic 91, 101, 3) := by decide +kernel
theorem cd_i156_12 : cd_I 156 12 = some (.ifCond .ne 12, 24, 0) := by decide +kernel
theorem cd_i156_15 : cd_I 156 15 = some (.iload_n 2, 0, 0) := by decide +kernel
theorem cd_i156_16 : cd_I 156 16 = some (.iconst 0, 0, 0) := by decide +kernel
theorem cd_i156_17 : cd_I 156 17 = some (.iconst 1, 0, 0) := by decide +kernel
theorem cd_i156_18 : cd_I 156 18 = some (.invokestatic 91, 101, 3) := by decide +kernel
theorem cd_i156_21 : cd_I 156 21 = some (.ifCond .eq 5, 26, 0) := by decide +kernel
theorem cd_i156_24 : cd_I 156 24 = some (.iconst (-1), 0, 0) := by decide +kernel
theorem cd_i156_25 : cd_I 156 25 = some (.ireturn, 0, 0) := by decide +kernel
theorem cd_i156_26 : cd_I 156 26 = some (.iconst 0, 0, 0) := by decide +kernel
theorem cd_i156_27 : cd_I 156 27 = some (.istore_n 3, 0, 0) := by decide +kernel
theorem cd_i156_28 : cd_I 156 28 = some (.iconst 0, 0, 0) := by decide +kernel
theorem cd_i156_29 : cd_I 156 29 = some (.istore 4, 0, 0) := by decide +kernel
theorem cd_i156_31 : cd_I 156 31 = some (.iload 4, 0, 0) := by decide +kernel
theorem cd_i156_33 : cd_I 156 33 = some (.bipush 60, 0, 0) := by decide +kernel
theorem cd_i156_35 : cd_I 156 35 = some (.if_icmp .ge 71, 106, 0) := by decide +kernel
theorem cd_i156_38 : cd_I 156 38 = some (.aload_n 0, 0, 0) := by decide +kernel
theorem cd_i156_39 : cd_I 156 39 = some (.getfield 13, 11, 5) := by decide +kernel
theorem cd_i156_42 : cd_I 156 42 = some (.iload 4, 0, 0) := by decide +kernel
theorem cd_i156_44 : cd_I 156 44 = some (.bipush 6, 0, 0) := by decide +kernel
theorem cd_i156_46 : cd_I 156 46 = some (.idiv, 0, 0) := by decide +kernel
theorem cd_i156_47 : cd_I 156 47 = some (.baload, 0, 0) := by decide +kernel
theorem cd_i156_48 : cd_I 156 48 = some (.ifCond .eq 50, 98, 0) := by decide +kernel
theorem cd_i156_51 : cd_I 156 51 = some (.iload 4, 0, 0) := by decide +kernel
theorem cd_i156_53 : cd_I 156 53 = some (.bipush 6, 0, 0) := by decide +kernel
theorem cd_i156_55 : cd_I 156 55 = some (.irem, 0, 0) := by decide +kernel
theorem cd_i156_56 : cd_I 156 56 = some (.aload_n 0, 0, 0) := by decide +kernel
theorem cd_i156_57 : cd_I 156 57 = some (.getfield 21, 11, 7) := by decide +kernel
theorem cd_i156_60 : cd_I 156 60 = some (.iload 4, 0, 0) := by decide +kernel
theorem cd_i156_62 : cd_I 156 62 = some (.bipush 6, 0, 0) := by decide +kernel
theorem cd_i156_64 : cd_I 156 64 = some (.idiv, 0, 0) := by decide +kernel
theorem cd_i156_65 : cd_I 156 65 = some (.iaload, 0, 0) := by decide +kernel
theorem cd_i156_66 : cd_I 156 66 = some (.if_icmp .ge 32, 98, 0) := by decide +kernel
theorem cd_i156_69 : cd_I 156 69 = some (.aload_n 0, 0, 0) := by decide +kernel
theorem cd_i156_70 : cd_I 156 70 = some (.getfield 24, 11, 8) := by decide +kernel
theorem cd_i156_73 : cd_I 156 73 = some (.iload 4, 0, 0) := by decide +kernel
theorem cd_i156_75 : cd_I 156 75 = some (.iaload, 0, 0) := by decide +kernel
theorem cd_i156_76 : cd_I 156 76 = some (.iload_n 2, 0, 0) := by decide +kernel
theorem cd_i156_77 : cd_I 156 77 = some (.if_icmp .ne 21, 98, 0) := by decide +kernel
theorem cd_i156_80 : cd_I 156 80 = some (.aload_n 0, 0, 0) := by decide +kernel
theorem cd_i156_81 : cd_I 156 81 = some (.iconst 3, 0, 0) := by decide +kernel
theorem cd_i156_82 : cd_I 156 82 = some (.iload_n 1, 0, 0) := by decide +kernel
theorem cd_i156_83 : cd_I 156 83 = some (.iadd, 0, 0) := by decide +kernel
theorem cd_i156_84 : cd_I 156 84 = some (.iload 4, 0, 0) := by decide +kernel
theorem cd_i156_86 : cd_I 156 86 = some (.invokevirtual 238, 143, 2) := by decide +kernel
theorem cd_i156_89 : cd_I 156 89 = some (.ifCond .eq 9, 98, 0) := by decide +kernel
theorem cd_i156_92 : cd_I 156 92 = some (.iload_n 3, 0, 0) := by decide +kernel
theorem cd_i156_93 : cd_I 156 93 = some (.iconst 1, 0, 0) := by decide +kernel
theorem cd_i156_94 : cd_I 156 94 = some (.iadd, 0, 0) := by decide +kernel
theorem cd_i156_95 : cd_I 156 95 = some (.goto 4, 99, 0) := by decide +kernel
theorem cd_i156_98 : cd_I 156 98 = some (.iload_n 3, 0, 0) := by decide +kernel
theorem cd_i156_99 : cd_I 156 99 = some (.istore_n 3, 0, 0) := by decide +kernel
theorem cd_i156_100 : cd_I 156 100 = some (.iinc 4 1, 0, 0) := by decide +kernel
theorem cd_i156_103 : cd_I 156 103 = some (.goto (-72), 31, 0) := by decide +kernel
theorem cd_i156_106 : cd_I 156 106 = some (.iload_n 3, 0, 0) := by decide +kernel
theorem cd_i156_107 : cd_I 156 107 = some (.ireturn, 0, 0) := by decide +kernel
theorem cd_i157_0 : cd_I 157 0 = some (.aload_n 1, 0, 0) := by decide +kernel
theorem cd_i157_1 : cd_I 157 1 = some (.iconst 0, 0, 0) := by decide +kernel
theorem cd_i157_2 : cd_I 157 2 = some (.aload_n 0, 0, 0) := by decide +kernel
theorem cd_i157_3 : cd_I 157 3 = some (.invokevirtual 7, 31, 0) := by decide +kernel
theorem cd_i157_6 : cd_I 157 6 = some (.i2l, 0, 0) := by decide +kernel
theorem cd_i157_7 : cd_I 157 7 = some (.lastore, 0, 0) := by decide +kernel
theorem cd_i157_8 : cd_I 157 8 = some (.goto 9, 17, 0) := by decide +kernel
theorem cd_i157_11 : cd_I 157 11 = some (.astore_n 2, 0, 0) := by decide +kernel
theorem cd_i157_12 : cd_I 157 12 = some (.iconst 1, 0, 0) := by decide +kernel
theorem cd_i157_13 : cd_I 157 13 = some (.ireturn, 0, 0) := by decide +kernel
theorem cd_i157_14 : cd_I 157 14 = some (.astore_n 2, 0, 0) := by decide +kernel
theorem cd_i157_15 : cd_I 157 15 = some (.iconst 2, 0, 0) := by decide +kernel
theorem cd_i157_16 : cd_I 157 16 = some (.ireturn, 0, 0) := by decide +kernel
theorem cd_i157_17 : cd_I 157 17 = some (.iconst 0, 0, 0) := by decide +kernel
theorem cd_i157_18 : cd_I 157 18 = some (.ireturn, 0, 0) := by decide +kernel
theorem cd_i158_0 : cd_I 158 0 = some (.aload_n 1, 0, 0) := by decide +kernel
theorem cd_i158_1 : cd_I 158 1 = some (.iconst 0, 0, 0) := by decide +kernel
theorem cd_i158_2 : cd_I 158 2 = some (.aload_n 0, 0, 0) := by decide +kernel
theorem cd_i158_3 : cd_I 158 3 = some (.invokevirtual 17, 62, 0) := by decide +kernel
theorem cd_i158_6 : cd_I 158 6 = some (.i2l, 0, 0) := by decide +kernel
theorem cd_i158_7 : cd_I 158 7 = some (.lastore, 0, 0) := by decide +kernel
theorem cd_i158_8 : cd_I 158 8 = some (.goto 9, 17, 0) := by decide +kernel
theorem cd_i158_11 : cd_I 158 11 = some (.astore_n 2, 0, 0) := by decide +kernel
theorem cd_i158_12 : cd_I 158 12 = some (.iconst 1, 0, 0) := by decide +kernel
theorem cd_i158_13 : cd_I 158 13 = some (.ireturn, 0, 0) := by decide +kernel
theorem cd_i158_14 : cd_I 158 14 = some (.astore_n 2, 0, 0) := by decide +kernel
theorem cd_i158_15 : cd_I 158 15 = some (.iconst 2, 0, 0) := by decide +kernel
theorem cd_i158_16 : cd_I 158 16 = some (.ireturn, 0, 0) := by decide +kernel
theorem cd_i158_17 : cd_I 158 17 = some (.iconst 0, 0, 0) := by decide +kernel
theorem cd_i158_18 : cd_I 158 18 = some (.ireturn, 0, 0) := by decide +kernel
theorem cd_i159_0 : cd_I 159 0 = some (.aload_n 0, 0, 0) := by decide +kernel
theorem cd_i159_1 : cd_I 159 1 = some (.iload_n 1, 0, 0) := by decide +kernel
theorem cd_i159_2 : cd_I 159 2 = some (.invokevirtual 20, 67, 1) := by decide +kernel
theorem cd_i159_5 : cd_I 159 5 = some (.goto 6, 11, 0) := by decide +kernel
theorem cd_i159_8 : cd_I 159 8 = some (.astore_n 2, 0, 0) := by decide +kernel
theorem cd_i159_9 : cd_I 159 9 = some (.iconst 1, 0, 0) := by decide +kernel
theorem cd_i159_10 : cd_I 159 10 = some (.ireturn, 0, 0) := by decide +kernel
theorem cd_i159_11 : cd_I 159 11 = some (.iconst 0, 0, 0) := by decide +kernel
theorem cd_i159_12 : cd_I 159 12 = some (.ireturn, 0, 0) := by decide +kernel
theorem cd_i160_0 : cd_I 160 0 = some (.aload_n 3, 0, 0) := by decide +kernel
theorem cd_i160_1 : cd_I 160 1 = some (.iconst 0, 0, 0) := by decide +kernel
theorem cd_i160_2 : cd_I 160 2 = some (.aload_n 0, 0, 0) := by decide +kernel
theorem cd_i160_3 : cd_I 160 3 = some (.iload_n 1, 0, 0) := by decide +kernel
theorem cd_i160_4 : cd_I 160 4 = some (.iload_n 2, 0, 0) := by decide +kernel
theorem cd_i160_5 : cd_I 160 5 = some (.invokevirtual 24, 68, 2) := by decide +kernel
theorem cd_i160_8 : cd_I 160 8 = some (.i2l, 0, 0) := by decide +kernel
theorem cd_i160_9 : cd_I 160 9 = some (.lastore, 0, 0) := by decide +kernel
theorem cd_i160_10 : cd_I 160 10 = some (.goto 7, 17, 0) := by decide +kernel
theorem cd_i160_13 : cd_I 160 13 = some (.astore 4, 0, 0) := by decide +kernel
theorem cd_i160_15 : cd_I 160 15 = some (.iconst 1, 0, 0) := by decide +kernel
theorem cd_i160_16 : cd_I 160 16 = some (.ireturn, 0, 0) := by decide +kernel
theorem cd_i160_17 : cd_I 160 17 = some (.iconst 0, 0, 0) := by decide +kernel
theorem cd_i160_18 : cd_I 160 18 = some (.ireturn, 0, 0) := by decide +kernel
theorem cd_i161_0 : cd_I 161 0 = some (.aload_n 1, 0, 0) := by decide +kernel
theorem cd_i161_1 : cd_I 161 1 = some (.iconst 0, 0, 0) := by decide +kernel
theorem cd_i161_2 : cd_I 161 2 = some (.aload_n 0, 0, 0) := by decide +kernel
theorem cd_i161_3 : cd_I 161 3 = some (.invokevirtual 28, 87, 0) := by decide +kernel
theorem cd_i161_6 : cd_I 161 6 = some (.i2l, 0, 0) := by decide +kernel
theorem cd_i161_7 : cd_I 161 7 = some (.lastore, 0, 0) := by decide +kernel
theorem cd_i161_8 : cd_I 161 8 = some (.goto 6, 14, 0) := by decide +kernel
theorem cd_i161_11 : cd_I 161 11 = some (.astore_n 2, 0, 0) := by decide +kernel
theorem cd_i161_12 : cd_I 161 12 = some (.iconst 1, 0, 0) := by decide +kernel
theorem cd_i161_13 : cd_I 161 13 = some (.ireturn, 0, 0) := by decide +kernel
theorem cd_i161_14 : cd_I 161 14 = some (.iconst 0, 0, 0) := by decide +kernel
theorem cd_i161_15 : cd_I 161 15 = some (.ireturn, 0, 0) := by decide +kernel
end
