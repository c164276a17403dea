section
-- ===== PART A: goes FIRST, ahead of the names: the tables' words, and 'selects' of the private methods out of them =====
/-- a private method of a class that the tables say can be made, by its rows of tables_1 -/
def lw_okq (q : MethodName × Nat) : Prop := (q.1.cls ≠ "java/lang/invoke/MethodHandle" ∧ q.1.cls ≠ "java/lang/invoke/VarHandle") ∧ Cond.instantiable q.1.cls q.2 ∈ tables_1 ∧ Cond.privateMethod q.1 ∈ tables_1 ∧ Cond.instanceMethod q.1 ∈ tables_1
theorem lw_p0 : lw_okq (⟨"ChainDesk$DeclarationReader", "readMember", "(LChainDesk$Declaration;)Z"⟩, 2) := ⟨⟨by decide +kernel, by decide +kernel⟩, List.mem_of_getElem? (i := 92) (by decide +kernel), List.mem_of_getElem? (i := 369) (by decide +kernel), List.mem_of_getElem? (i := 370) (by decide +kernel)⟩
theorem lw_p1 : lw_okq (⟨"ChainDesk$DeclarationReader", "readMaker", "(ZI)LChainDesk$Member;"⟩, 2) := ⟨⟨by decide +kernel, by decide +kernel⟩, List.mem_of_getElem? (i := 92) (by decide +kernel), List.mem_of_getElem? (i := 427) (by decide +kernel), List.mem_of_getElem? (i := 428) (by decide +kernel)⟩
theorem lw_p2 : lw_okq (⟨"ChainDesk$DeclarationReader", "readParameters", "(LChainDesk$Member;)Z"⟩, 2) := ⟨⟨by decide +kernel, by decide +kernel⟩, List.mem_of_getElem? (i := 92) (by decide +kernel), List.mem_of_getElem? (i := 480) (by decide +kernel), List.mem_of_getElem? (i := 481) (by decide +kernel)⟩
theorem lw_p3 : lw_okq (⟨"ChainDesk$Buffer", "takeWord", "()I"⟩, 3) := ⟨⟨by decide +kernel, by decide +kernel⟩, List.mem_of_getElem? (i := 35) (by decide +kernel), List.mem_of_getElem? (i := 489) (by decide +kernel), List.mem_of_getElem? (i := 490) (by decide +kernel)⟩
theorem lw_p4 : lw_okq (⟨"ChainDesk$DeclarationReader", "readNamed", "(Z)LChainDesk$Member;"⟩, 2) := ⟨⟨by decide +kernel, by decide +kernel⟩, List.mem_of_getElem? (i := 92) (by decide +kernel), List.mem_of_getElem? (i := 497) (by decide +kernel), List.mem_of_getElem? (i := 498) (by decide +kernel)⟩
theorem lw_p5 : lw_okq (⟨"ChainDesk$Declaration", "allowsOverride", "(LChainDesk$Member;)Z"⟩, 4) := ⟨⟨by decide +kernel, by decide +kernel⟩, List.mem_of_getElem? (i := 335) (by decide +kernel), List.mem_of_getElem? (i := 514) (by decide +kernel), List.mem_of_getElem? (i := 515) (by decide +kernel)⟩
theorem lw_p6 : lw_okq (⟨"java/lang/Throwable", "fillInStackTrace", "(I)Ljava/lang/Throwable;"⟩, 6) := ⟨⟨by decide +kernel, by decide +kernel⟩, List.mem_of_getElem? (i := 571) (by decide +kernel), List.mem_of_getElem? (i := 569) (by decide +kernel), List.mem_of_getElem? (i := 570) (by decide +kernel)⟩
theorem lw_p7 : lw_okq (⟨"ChainDesk", "readVariable", "()Z"⟩, 7) := ⟨⟨by decide +kernel, by decide +kernel⟩, List.mem_of_getElem? (i := 27) (by decide +kernel), List.mem_of_getElem? (i := 626) (by decide +kernel), List.mem_of_getElem? (i := 627) (by decide +kernel)⟩
theorem lw_p8 : lw_okq (⟨"ChainDesk$Completer", "startShelf", "(I)V"⟩, 7) := ⟨⟨by decide +kernel, by decide +kernel⟩, List.mem_of_getElem? (i := 125) (by decide +kernel), List.mem_of_getElem? (i := 660) (by decide +kernel), List.mem_of_getElem? (i := 661) (by decide +kernel)⟩
theorem lw_p9 : lw_okq (⟨"ChainDesk$Completer", "keepOfClass", "(II)V"⟩, 7) := ⟨⟨by decide +kernel, by decide +kernel⟩, List.mem_of_getElem? (i := 125) (by decide +kernel), List.mem_of_getElem? (i := 699) (by decide +kernel), List.mem_of_getElem? (i := 700) (by decide +kernel)⟩
theorem lw_p10 : lw_okq (⟨"ChainDesk$Completer", "keepUses", "(LChainDesk$Member;I)V"⟩, 7) := ⟨⟨by decide +kernel, by decide +kernel⟩, List.mem_of_getElem? (i := 125) (by decide +kernel), List.mem_of_getElem? (i := 718) (by decide +kernel), List.mem_of_getElem? (i := 719) (by decide +kernel)⟩
theorem lw_p11 : lw_okq (⟨"ChainDesk$Completer", "keepCalls", "(LChainDesk$Member;II)V"⟩, 7) := ⟨⟨by decide +kernel, by decide +kernel⟩, List.mem_of_getElem? (i := 125) (by decide +kernel), List.mem_of_getElem? (i := 723) (by decide +kernel), List.mem_of_getElem? (i := 724) (by decide +kernel)⟩
theorem lw_p12 : lw_okq (⟨"ChainDesk$Completer", "keepSelections", "(LChainDesk$Phrase;I)V"⟩, 7) := ⟨⟨by decide +kernel, by decide +kernel⟩, List.mem_of_getElem? (i := 125) (by decide +kernel), List.mem_of_getElem? (i := 736) (by decide +kernel), List.mem_of_getElem? (i := 737) (by decide +kernel)⟩
theorem lw_p13 : lw_okq (⟨"ChainDesk$ExpressionReader", "readExpression", "(I)I"⟩, 4) := ⟨⟨by decide +kernel, by decide +kernel⟩, List.mem_of_getElem? (i := 105) (by decide +kernel), List.mem_of_getElem? (i := 756) (by decide +kernel), List.mem_of_getElem? (i := 757) (by decide +kernel)⟩
theorem lw_p14 : lw_okq (⟨"ChainDesk$ExpressionReader", "readHead", "(I)I"⟩, 4) := ⟨⟨by decide +kernel, by decide +kernel⟩, List.mem_of_getElem? (i := 105) (by decide +kernel), List.mem_of_getElem? (i := 760) (by decide +kernel), List.mem_of_getElem? (i := 761) (by decide +kernel)⟩
theorem lw_p15 : lw_okq (⟨"ChainDesk$Catalog", "findOwn", "(ILChainDesk$Kind;I)LChainDesk$Member;"⟩, 3) := ⟨⟨by decide +kernel, by decide +kernel⟩, List.mem_of_getElem? (i := 52) (by decide +kernel), List.mem_of_getElem? (i := 771) (by decide +kernel), List.mem_of_getElem? (i := 772) (by decide +kernel)⟩
def lw_privs_1 : List (MethodName × Nat) := [(⟨"ChainDesk$DeclarationReader", "readMember", "(LChainDesk$Declaration;)Z"⟩, 2), (⟨"ChainDesk$DeclarationReader", "readMaker", "(ZI)LChainDesk$Member;"⟩, 2), (⟨"ChainDesk$DeclarationReader", "readParameters", "(LChainDesk$Member;)Z"⟩, 2), (⟨"ChainDesk$Buffer", "takeWord", "()I"⟩, 3), (⟨"ChainDesk$DeclarationReader", "readNamed", "(Z)LChainDesk$Member;"⟩, 2), (⟨"ChainDesk$Declaration", "allowsOverride", "(LChainDesk$Member;)Z"⟩, 4), (⟨"java/lang/Throwable", "fillInStackTrace", "(I)Ljava/lang/Throwable;"⟩, 6), (⟨"ChainDesk", "readVariable", "()Z"⟩, 7), (⟨"ChainDesk$Completer", "startShelf", "(I)V"⟩, 7), (⟨"ChainDesk$Completer", "keepOfClass", "(II)V"⟩, 7), (⟨"ChainDesk$Completer", "keepUses", "(LChainDesk$Member;I)V"⟩, 7), (⟨"ChainDesk$Completer", "keepCalls", "(LChainDesk$Member;II)V"⟩, 7), (⟨"ChainDesk$Completer", "keepSelections", "(LChainDesk$Phrase;I)V"⟩, 7), (⟨"ChainDesk$ExpressionReader", "readExpression", "(I)I"⟩, 4), (⟨"ChainDesk$ExpressionReader", "readHead", "(I)I"⟩, 4), (⟨"ChainDesk$Catalog", "findOwn", "(ILChainDesk$Kind;I)LChainDesk$Member;"⟩, 3)]
theorem lw_r1 : ∀ q ∈ lw_privs_1, lw_okq q := List.forall_mem_cons.mpr ⟨lw_p0, List.forall_mem_cons.mpr ⟨lw_p1, List.forall_mem_cons.mpr ⟨lw_p2, List.forall_mem_cons.mpr ⟨lw_p3, List.forall_mem_cons.mpr ⟨lw_p4, List.forall_mem_cons.mpr ⟨lw_p5, List.forall_mem_cons.mpr ⟨lw_p6, List.forall_mem_cons.mpr ⟨lw_p7, List.forall_mem_cons.mpr ⟨lw_p8, List.forall_mem_cons.mpr ⟨lw_p9, List.forall_mem_cons.mpr ⟨lw_p10, List.forall_mem_cons.mpr ⟨lw_p11, List.forall_mem_cons.mpr ⟨lw_p12, List.forall_mem_cons.mpr ⟨lw_p13, List.forall_mem_cons.mpr ⟨lw_p14, List.forall_mem_cons.mpr ⟨lw_p15, fun _ h => absurd h List.not_mem_nil⟩⟩⟩⟩⟩⟩⟩⟩⟩⟩⟩⟩⟩⟩⟩⟩
theorem lw_p16 : lw_okq (⟨"ChainDesk$ExpressionReader", "readUse", "(LChainDesk$Member;I)I"⟩, 4) := ⟨⟨by decide +kernel, by decide +kernel⟩, List.mem_of_getElem? (i := 105) (by decide +kernel), List.mem_of_getElem? (i := 775) (by decide +kernel), List.mem_of_getElem? (i := 776) (by decide +kernel)⟩
theorem lw_p17 : lw_okq (⟨"ChainDesk$ExpressionReader", "readArguments", "(LChainDesk$Member;I)Z"⟩, 4) := ⟨⟨by decide +kernel, by decide +kernel⟩, List.mem_of_getElem? (i := 105) (by decide +kernel), List.mem_of_getElem? (i := 780) (by decide +kernel), List.mem_of_getElem? (i := 781) (by decide +kernel)⟩
theorem lw_p18 : lw_okq (⟨"ChainDesk$ExpressionReader", "kindAhead", "()LChainDesk$Kind;"⟩, 4) := ⟨⟨by decide +kernel, by decide +kernel⟩, List.mem_of_getElem? (i := 105) (by decide +kernel), List.mem_of_getElem? (i := 788) (by decide +kernel), List.mem_of_getElem? (i := 789) (by decide +kernel)⟩
theorem lw_p19 : lw_okq (⟨"ChainDesk$ExpressionReader", "readSelection", "(II)I"⟩, 4) := ⟨⟨by decide +kernel, by decide +kernel⟩, List.mem_of_getElem? (i := 105) (by decide +kernel), List.mem_of_getElem? (i := 798) (by decide +kernel), List.mem_of_getElem? (i := 799) (by decide +kernel)⟩
theorem lw_p20 : lw_okq (⟨"ChainDeskModel", "readDeclaration", "()I"⟩, 39) := ⟨⟨by decide +kernel, by decide +kernel⟩, List.mem_of_getElem? (i := 804) (by decide +kernel), List.mem_of_getElem? (i := 944) (by decide +kernel), List.mem_of_getElem? (i := 945) (by decide +kernel)⟩
theorem lw_p21 : lw_okq (⟨"ChainDeskModel", "readClass", "()I"⟩, 39) := ⟨⟨by decide +kernel, by decide +kernel⟩, List.mem_of_getElem? (i := 804) (by decide +kernel), List.mem_of_getElem? (i := 948) (by decide +kernel), List.mem_of_getElem? (i := 949) (by decide +kernel)⟩
theorem lw_p22 : lw_okq (⟨"ChainDeskModel", "look", "(I)C"⟩, 39) := ⟨⟨by decide +kernel, by decide +kernel⟩, List.mem_of_getElem? (i := 804) (by decide +kernel), List.mem_of_getElem? (i := 952) (by decide +kernel), List.mem_of_getElem? (i := 953) (by decide +kernel)⟩
theorem lw_p23 : lw_okq (⟨"ChainDeskModel", "must", "(Z)V"⟩, 39) := ⟨⟨by decide +kernel, by decide +kernel⟩, List.mem_of_getElem? (i := 804) (by decide +kernel), List.mem_of_getElem? (i := 959) (by decide +kernel), List.mem_of_getElem? (i := 960) (by decide +kernel)⟩
theorem lw_p24 : lw_okq (⟨"ChainDeskModel", "pass", "(C)Z"⟩, 39) := ⟨⟨by decide +kernel, by decide +kernel⟩, List.mem_of_getElem? (i := 804) (by decide +kernel), List.mem_of_getElem? (i := 963) (by decide +kernel), List.mem_of_getElem? (i := 964) (by decide +kernel)⟩
theorem lw_p25 : lw_okq (⟨"ChainDeskModel", "expect", "(C)V"⟩, 39) := ⟨⟨by decide +kernel, by decide +kernel⟩, List.mem_of_getElem? (i := 804) (by decide +kernel), List.mem_of_getElem? (i := 967) (by decide +kernel), List.mem_of_getElem? (i := 968) (by decide +kernel)⟩
theorem lw_p26 : lw_okq (⟨"ChainDeskModel", "readMember", "(II)V"⟩, 39) := ⟨⟨by decide +kernel, by decide +kernel⟩, List.mem_of_getElem? (i := 804) (by decide +kernel), List.mem_of_getElem? (i := 971) (by decide +kernel), List.mem_of_getElem? (i := 972) (by decide +kernel)⟩
theorem lw_p27 : lw_okq (⟨"ChainDeskModel", "word", "(ICCCCCC)Z"⟩, 39) := ⟨⟨by decide +kernel, by decide +kernel⟩, List.mem_of_getElem? (i := 804) (by decide +kernel), List.mem_of_getElem? (i := 975) (by decide +kernel), List.mem_of_getElem? (i := 976) (by decide +kernel)⟩
theorem lw_p28 : lw_okq (⟨"ChainDeskModel", "readList", "(I)V"⟩, 39) := ⟨⟨by decide +kernel, by decide +kernel⟩, List.mem_of_getElem? (i := 804) (by decide +kernel), List.mem_of_getElem? (i := 979) (by decide +kernel), List.mem_of_getElem? (i := 980) (by decide +kernel)⟩
theorem lw_p29 : lw_okq (⟨"ChainDeskModel", "readType", "()I"⟩, 39) := ⟨⟨by decide +kernel, by decide +kernel⟩, List.mem_of_getElem? (i := 804) (by decide +kernel), List.mem_of_getElem? (i := 983) (by decide +kernel), List.mem_of_getElem? (i := 984) (by decide +kernel)⟩
theorem lw_p30 : lw_okq (⟨"ChainDeskModel", "letters", "()I"⟩, 39) := ⟨⟨by decide +kernel, by decide +kernel⟩, List.mem_of_getElem? (i := 804) (by decide +kernel), List.mem_of_getElem? (i := 987) (by decide +kernel), List.mem_of_getElem? (i := 988) (by decide +kernel)⟩
theorem lw_p31 : lw_okq (⟨"ChainDeskModel", "readName", "()I"⟩, 39) := ⟨⟨by decide +kernel, by decide +kernel⟩, List.mem_of_getElem? (i := 804) (by decide +kernel), List.mem_of_getElem? (i := 997) (by decide +kernel), List.mem_of_getElem? (i := 998) (by decide +kernel)⟩
def lw_privs_2 : List (MethodName × Nat) := [(⟨"ChainDesk$ExpressionReader", "readUse", "(LChainDesk$Member;I)I"⟩, 4), (⟨"ChainDesk$ExpressionReader", "readArguments", "(LChainDesk$Member;I)Z"⟩, 4), (⟨"ChainDesk$ExpressionReader", "kindAhead", "()LChainDesk$Kind;"⟩, 4), (⟨"ChainDesk$ExpressionReader", "readSelection", "(II)I"⟩, 4), (⟨"ChainDeskModel", "readDeclaration", "()I"⟩, 39), (⟨"ChainDeskModel", "readClass", "()I"⟩, 39), (⟨"ChainDeskModel", "look", "(I)C"⟩, 39), (⟨"ChainDeskModel", "must", "(Z)V"⟩, 39), (⟨"ChainDeskModel", "pass", "(C)Z"⟩, 39), (⟨"ChainDeskModel", "expect", "(C)V"⟩, 39), (⟨"ChainDeskModel", "readMember", "(II)V"⟩, 39), (⟨"ChainDeskModel", "word", "(ICCCCCC)Z"⟩, 39), (⟨"ChainDeskModel", "readList", "(I)V"⟩, 39), (⟨"ChainDeskModel", "readType", "()I"⟩, 39), (⟨"ChainDeskModel", "letters", "()I"⟩, 39), (⟨"ChainDeskModel", "readName", "()I"⟩, 39)]
theorem lw_r2 : ∀ q ∈ lw_privs_2, lw_okq q := List.forall_mem_cons.mpr ⟨lw_p16, List.forall_mem_cons.mpr ⟨lw_p17, List.forall_mem_cons.mpr ⟨lw_p18, List.forall_mem_cons.mpr ⟨lw_p19, List.forall_mem_cons.mpr ⟨lw_p20, List.forall_mem_cons.mpr ⟨lw_p21, List.forall_mem_cons.mpr ⟨lw_p22, List.forall_mem_cons.mpr ⟨lw_p23, List.forall_mem_cons.mpr ⟨lw_p24, List.forall_mem_cons.mpr ⟨lw_p25, List.forall_mem_cons.mpr ⟨lw_p26, List.forall_mem_cons.mpr ⟨lw_p27, List.forall_mem_cons.mpr ⟨lw_p28, List.forall_mem_cons.mpr ⟨lw_p29, List.forall_mem_cons.mpr ⟨lw_p30, List.forall_mem_cons.mpr ⟨lw_p31, fun _ h => absurd h List.not_mem_nil⟩⟩⟩⟩⟩⟩⟩⟩⟩⟩⟩⟩⟩⟩⟩⟩
theorem lw_p32 : lw_okq (⟨"ChainDeskModel", "allowed", "(II)Z"⟩, 39) := ⟨⟨by decide +kernel, by decide +kernel⟩, List.mem_of_getElem? (i := 804) (by decide +kernel), List.mem_of_getElem? (i := 1004) (by decide +kernel), List.mem_of_getElem? (i := 1005) (by decide +kernel)⟩
theorem lw_p33 : lw_okq (⟨"ChainDeskModel", "sameTypes", "(II)Z"⟩, 39) := ⟨⟨by decide +kernel, by decide +kernel⟩, List.mem_of_getElem? (i := 804) (by decide +kernel), List.mem_of_getElem? (i := 1008) (by decide +kernel), List.mem_of_getElem? (i := 1009) (by decide +kernel)⟩
theorem lw_p34 : lw_okq (⟨"ChainDeskModel", "refuse", "(I)I"⟩, 39) := ⟨⟨by decide +kernel, by decide +kernel⟩, List.mem_of_getElem? (i := 804) (by decide +kernel), List.mem_of_getElem? (i := 1012) (by decide +kernel), List.mem_of_getElem? (i := 1013) (by decide +kernel)⟩
theorem lw_p35 : lw_okq (⟨"ChainDeskModel", "copyMember", "(II)V"⟩, 39) := ⟨⟨by decide +kernel, by decide +kernel⟩, List.mem_of_getElem? (i := 804) (by decide +kernel), List.mem_of_getElem? (i := 1016) (by decide +kernel), List.mem_of_getElem? (i := 1017) (by decide +kernel)⟩
theorem lw_p36 : lw_okq (⟨"ChainDeskModel", "variableOf", "(I)I"⟩, 39) := ⟨⟨by decide +kernel, by decide +kernel⟩, List.mem_of_getElem? (i := 804) (by decide +kernel), List.mem_of_getElem? (i := 1024) (by decide +kernel), List.mem_of_getElem? (i := 1025) (by decide +kernel)⟩
theorem lw_p37 : lw_okq (⟨"ChainDeskModel", "fit", "(II)Z"⟩, 39) := ⟨⟨by decide +kernel, by decide +kernel⟩, List.mem_of_getElem? (i := 804) (by decide +kernel), List.mem_of_getElem? (i := 1040) (by decide +kernel), List.mem_of_getElem? (i := 1041) (by decide +kernel)⟩
theorem lw_p38 : lw_okq (⟨"ChainDeskModel", "aboveOf", "(I)I"⟩, 39) := ⟨⟨by decide +kernel, by decide +kernel⟩, List.mem_of_getElem? (i := 804) (by decide +kernel), List.mem_of_getElem? (i := 1044) (by decide +kernel), List.mem_of_getElem? (i := 1045) (by decide +kernel)⟩
theorem lw_p39 : lw_okq (⟨"ChainDeskModel", "keepVariables", "()V"⟩, 39) := ⟨⟨by decide +kernel, by decide +kernel⟩, List.mem_of_getElem? (i := 804) (by decide +kernel), List.mem_of_getElem? (i := 1052) (by decide +kernel), List.mem_of_getElem? (i := 1053) (by decide +kernel)⟩
theorem lw_p40 : lw_okq (⟨"ChainDeskModel", "writeName", "(I)V"⟩, 39) := ⟨⟨by decide +kernel, by decide +kernel⟩, List.mem_of_getElem? (i := 804) (by decide +kernel), List.mem_of_getElem? (i := 1056) (by decide +kernel), List.mem_of_getElem? (i := 1057) (by decide +kernel)⟩
theorem lw_p41 : lw_okq (⟨"ChainDeskModel", "write", "(C)V"⟩, 39) := ⟨⟨by decide +kernel, by decide +kernel⟩, List.mem_of_getElem? (i := 804) (by decide +kernel), List.mem_of_getElem? (i := 1060) (by decide +kernel), List.mem_of_getElem? (i := 1061) (by decide +kernel)⟩
theorem lw_p42 : lw_okq (⟨"ChainDeskModel", "keep", "(II)V"⟩, 39) := ⟨⟨by decide +kernel, by decide +kernel⟩, List.mem_of_getElem? (i := 804) (by decide +kernel), List.mem_of_getElem? (i := 1064) (by decide +kernel), List.mem_of_getElem? (i := 1065) (by decide +kernel)⟩
theorem lw_p43 : lw_okq (⟨"ChainDeskModel", "before", "(I)Z"⟩, 39) := ⟨⟨by decide +kernel, by decide +kernel⟩, List.mem_of_getElem? (i := 804) (by decide +kernel), List.mem_of_getElem? (i := 1068) (by decide +kernel), List.mem_of_getElem? (i := 1069) (by decide +kernel)⟩
theorem lw_p44 : lw_okq (⟨"ChainDeskModel", "copyKept", "(II)V"⟩, 39) := ⟨⟨by decide +kernel, by decide +kernel⟩, List.mem_of_getElem? (i := 804) (by decide +kernel), List.mem_of_getElem? (i := 1072) (by decide +kernel), List.mem_of_getElem? (i := 1073) (by decide +kernel)⟩
theorem lw_p45 : lw_okq (⟨"ChainDeskModel", "keepCost", "(I)V"⟩, 39) := ⟨⟨by decide +kernel, by decide +kernel⟩, List.mem_of_getElem? (i := 804) (by decide +kernel), List.mem_of_getElem? (i := 1076) (by decide +kernel), List.mem_of_getElem? (i := 1077) (by decide +kernel)⟩
theorem lw_p46 : lw_okq (⟨"ChainDeskModel", "usable", "(I)Z"⟩, 39) := ⟨⟨by decide +kernel, by decide +kernel⟩, List.mem_of_getElem? (i := 804) (by decide +kernel), List.mem_of_getElem? (i := 1080) (by decide +kernel), List.mem_of_getElem? (i := 1081) (by decide +kernel)⟩
theorem lw_p47 : lw_okq (⟨"ChainDeskModel", "offer", "(IIII)V"⟩, 39) := ⟨⟨by decide +kernel, by decide +kernel⟩, List.mem_of_getElem? (i := 804) (by decide +kernel), List.mem_of_getElem? (i := 1084) (by decide +kernel), List.mem_of_getElem? (i := 1085) (by decide +kernel)⟩
def lw_privs_3 : List (MethodName × Nat) := [(⟨"ChainDeskModel", "allowed", "(II)Z"⟩, 39), (⟨"ChainDeskModel", "sameTypes", "(II)Z"⟩, 39), (⟨"ChainDeskModel", "refuse", "(I)I"⟩, 39), (⟨"ChainDeskModel", "copyMember", "(II)V"⟩, 39), (⟨"ChainDeskModel", "variableOf", "(I)I"⟩, 39), (⟨"ChainDeskModel", "fit", "(II)Z"⟩, 39), (⟨"ChainDeskModel", "aboveOf", "(I)I"⟩, 39), (⟨"ChainDeskModel", "keepVariables", "()V"⟩, 39), (⟨"ChainDeskModel", "writeName", "(I)V"⟩, 39), (⟨"ChainDeskModel", "write", "(C)V"⟩, 39), (⟨"ChainDeskModel", "keep", "(II)V"⟩, 39), (⟨"ChainDeskModel", "before", "(I)Z"⟩, 39), (⟨"ChainDeskModel", "copyKept", "(II)V"⟩, 39), (⟨"ChainDeskModel", "keepCost", "(I)V"⟩, 39), (⟨"ChainDeskModel", "usable", "(I)Z"⟩, 39), (⟨"ChainDeskModel", "offer", "(IIII)V"⟩, 39)]
theorem lw_r3 : ∀ q ∈ lw_privs_3, lw_okq q := List.forall_mem_cons.mpr ⟨lw_p32, List.forall_mem_cons.mpr ⟨lw_p33, List.forall_mem_cons.mpr ⟨lw_p34, List.forall_mem_cons.mpr ⟨lw_p35, List.forall_mem_cons.mpr ⟨lw_p36, List.forall_mem_cons.mpr ⟨lw_p37, List.forall_mem_cons.mpr ⟨lw_p38, List.forall_mem_cons.mpr ⟨lw_p39, List.forall_mem_cons.mpr ⟨lw_p40, List.forall_mem_cons.mpr ⟨lw_p41, List.forall_mem_cons.mpr ⟨lw_p42, List.forall_mem_cons.mpr ⟨lw_p43, List.forall_mem_cons.mpr ⟨lw_p44, List.forall_mem_cons.mpr ⟨lw_p45, List.forall_mem_cons.mpr ⟨lw_p46, List.forall_mem_cons.mpr ⟨lw_p47, fun _ h => absurd h List.not_mem_nil⟩⟩⟩⟩⟩⟩⟩⟩⟩⟩⟩⟩⟩⟩⟩⟩
theorem lw_p48 : lw_okq (⟨"ChainDeskModel", "costOf", "(I)I"⟩, 39) := ⟨⟨by decide +kernel, by decide +kernel⟩, List.mem_of_getElem? (i := 804) (by decide +kernel), List.mem_of_getElem? (i := 1088) (by decide +kernel), List.mem_of_getElem? (i := 1089) (by decide +kernel)⟩
theorem lw_p49 : lw_okq (⟨"ChainDeskModel", "make", "(IIII)V"⟩, 39) := ⟨⟨by decide +kernel, by decide +kernel⟩, List.mem_of_getElem? (i := 804) (by decide +kernel), List.mem_of_getElem? (i := 1092) (by decide +kernel), List.mem_of_getElem? (i := 1093) (by decide +kernel)⟩
theorem lw_p50 : lw_okq (⟨"ChainDeskModel", "writeKept", "(I)V"⟩, 39) := ⟨⟨by decide +kernel, by decide +kernel⟩, List.mem_of_getElem? (i := 804) (by decide +kernel), List.mem_of_getElem? (i := 1096) (by decide +kernel), List.mem_of_getElem? (i := 1097) (by decide +kernel)⟩
theorem lw_p51 : lw_okq (⟨"ChainDeskModel", "sees", "(II)Z"⟩, 39) := ⟨⟨by decide +kernel, by decide +kernel⟩, List.mem_of_getElem? (i := 804) (by decide +kernel), List.mem_of_getElem? (i := 1100) (by decide +kernel), List.mem_of_getElem? (i := 1101) (by decide +kernel)⟩
theorem lw_p52 : lw_okq (⟨"ChainDeskModel", "behind", "(I)Z"⟩, 39) := ⟨⟨by decide +kernel, by decide +kernel⟩, List.mem_of_getElem? (i := 804) (by decide +kernel), List.mem_of_getElem? (i := 1104) (by decide +kernel), List.mem_of_getElem? (i := 1105) (by decide +kernel)⟩
theorem lw_p53 : lw_okq (⟨"ChainDeskModel", "propose", "(I)V"⟩, 39) := ⟨⟨by decide +kernel, by decide +kernel⟩, List.mem_of_getElem? (i := 804) (by decide +kernel), List.mem_of_getElem? (i := 1108) (by decide +kernel), List.mem_of_getElem? (i := 1109) (by decide +kernel)⟩
theorem lw_p54 : lw_okq (⟨"ChainDeskModel", "primary", "()I"⟩, 39) := ⟨⟨by decide +kernel, by decide +kernel⟩, List.mem_of_getElem? (i := 804) (by decide +kernel), List.mem_of_getElem? (i := 1116) (by decide +kernel), List.mem_of_getElem? (i := 1117) (by decide +kernel)⟩
theorem lw_p55 : lw_okq (⟨"ChainDeskModel", "makerOf", "(I)I"⟩, 39) := ⟨⟨by decide +kernel, by decide +kernel⟩, List.mem_of_getElem? (i := 804) (by decide +kernel), List.mem_of_getElem? (i := 1120) (by decide +kernel), List.mem_of_getElem? (i := 1121) (by decide +kernel)⟩
theorem lw_p56 : lw_okq (⟨"ChainDeskModel", "use", "(I)I"⟩, 39) := ⟨⟨by decide +kernel, by decide +kernel⟩, List.mem_of_getElem? (i := 804) (by decide +kernel), List.mem_of_getElem? (i := 1124) (by decide +kernel), List.mem_of_getElem? (i := 1125) (by decide +kernel)⟩
theorem lw_p57 : lw_okq (⟨"ChainDeskModel", "memberOf", "(IIZ)I"⟩, 39) := ⟨⟨by decide +kernel, by decide +kernel⟩, List.mem_of_getElem? (i := 804) (by decide +kernel), List.mem_of_getElem? (i := 1128) (by decide +kernel), List.mem_of_getElem? (i := 1129) (by decide +kernel)⟩
theorem lw_p58 : lw_okq (⟨"ChainDeskModel", "further", "(I)I"⟩, 39) := ⟨⟨by decide +kernel, by decide +kernel⟩, List.mem_of_getElem? (i := 804) (by decide +kernel), List.mem_of_getElem? (i := 1132) (by decide +kernel), List.mem_of_getElem? (i := 1133) (by decide +kernel)⟩
def lw_privs_4 : List (MethodName × Nat) := [(⟨"ChainDeskModel", "costOf", "(I)I"⟩, 39), (⟨"ChainDeskModel", "make", "(IIII)V"⟩, 39), (⟨"ChainDeskModel", "writeKept", "(I)V"⟩, 39), (⟨"ChainDeskModel", "sees", "(II)Z"⟩, 39), (⟨"ChainDeskModel", "behind", "(I)Z"⟩, 39), (⟨"ChainDeskModel", "propose", "(I)V"⟩, 39), (⟨"ChainDeskModel", "primary", "()I"⟩, 39), (⟨"ChainDeskModel", "makerOf", "(I)I"⟩, 39), (⟨"ChainDeskModel", "use", "(I)I"⟩, 39), (⟨"ChainDeskModel", "memberOf", "(IIZ)I"⟩, 39), (⟨"ChainDeskModel", "further", "(I)I"⟩, 39)]
theorem lw_r4 : ∀ q ∈ lw_privs_4, lw_okq q := List.forall_mem_cons.mpr ⟨lw_p48, List.forall_mem_cons.mpr ⟨lw_p49, List.forall_mem_cons.mpr ⟨lw_p50, List.forall_mem_cons.mpr ⟨lw_p51, List.forall_mem_cons.mpr ⟨lw_p52, List.forall_mem_cons.mpr ⟨lw_p53, List.forall_mem_cons.mpr ⟨lw_p54, List.forall_mem_cons.mpr ⟨lw_p55, List.forall_mem_cons.mpr ⟨lw_p56, List.forall_mem_cons.mpr ⟨lw_p57, List.forall_mem_cons.mpr ⟨lw_p58, fun _ h => absurd h List.not_mem_nil⟩⟩⟩⟩⟩⟩⟩⟩⟩⟩⟩
def lw_privs : List (MethodName × Nat) := lw_privs_1 ++ (lw_privs_2 ++ (lw_privs_3 ++ (lw_privs_4)))
def lw_tbl : List Cond := k2_sels lw_privs ++ tables_1
theorem lw_privs_ok : ∀ q ∈ lw_privs, lw_okq q := by
  show ∀ q ∈ lw_privs_1 ++ (lw_privs_2 ++ (lw_privs_3 ++ (lw_privs_4))), lw_okq q
  exact List.forall_mem_append.mpr ⟨lw_r1, List.forall_mem_append.mpr ⟨lw_r2, List.forall_mem_append.mpr ⟨lw_r3, lw_r4⟩⟩⟩
end
section
/-! an abstract machine over the decoded instructions: cells are arrays, objects, or constants; a frame's variables are a list -/
abbrev am_C : Type := (FieldType × vp_A) ⊕ ((Nat × List Value) ⊕ (Nat × Nat × (Nat → Int32)))
abbrev am_H : Type := Nat → Option am_C
abbrev am_V : Type := List (Option Value)
/-- pc, variables, stack, heap, next address, slots used -/
abbrev am_X : Type := Nat × am_V × List Value × am_H × Nat × Nat
abbrev am_O : Type := Option am_X
abbrev am_R : Type := (Option Value ⊕ Nat) × am_H × Nat × Nat
def am_n (pc : Nat) (lv : am_V) (st : List Value) (σ : am_H) (top sl : Nat) : am_O := some (pc, lv, st, σ, top, sl)
def am_get (lv : am_V) (i : Nat) : Option Value := match lv[i]? with
  | some (some v) => some v
  | _ => none
def am_up (σ : am_H) (a : Nat) (e : am_C) : am_H := fun q => if q = a then some e else σ q
def am_rv (v : Value) : Option (Option Nat) := match v with
  | .null => some none
  | .ref a => some (some a)
  | _ => none
def am_c1 (v : Value) : Bool := match v with
  | .long _ => false
  | .double _ => false
  | _ => true
def am_i1 (st : List Value) (k : Int32 → List Value → am_O) : am_O := match st with
  | .int x :: r => k x r
  | _ => none
def am_i2 (st : List Value) (k : Int32 → Int32 → List Value → am_O) : am_O := match st with
  | .int y :: .int x :: r => k x y r
  | _ => none
def am_l2 (st : List Value) (k : Int64 → Int64 → List Value → am_O) : am_O := match st with
  | .long y :: .long x :: r => k x y r
  | _ => none
def am_a1 (st : List Value) (k : Nat → List Value → am_O) : am_O := match st with
  | .ref a :: r => k a r
  | _ => none
def am_q1 (st : List Value) (k : Option Nat → List Value → am_O) : am_O := match st with
  | .ref a :: r => k (some a) r
  | .null :: r => k none r
  | _ => none
def am_q2 (st : List Value) (k : Option Nat → Option Nat → List Value → am_O) : am_O := match st with
  | .ref b :: .ref a :: r => k (some a) (some b) r
  | .ref b :: .null :: r => k none (some b) r
  | .null :: .ref a :: r => k (some a) none r
  | .null :: .null :: r => k none none r
  | _ => none
def am_v1 (st : List Value) (k : Value → List Value → am_O) : am_O := match st with
  | v :: r => if am_c1 v = true then k v r else none
  | _ => none
def am_v2 (st : List Value) (k : Value → Value → List Value → am_O) : am_O := match st with
  | v :: w :: r => if am_c1 v = true ∧ am_c1 w = true then k v w r else none
  | _ => none
def am_ia (st : List Value) (k : Int32 → Nat → List Value → am_O) : am_O := match st with
  | .int i :: .ref a :: r => k i a r
  | _ => none
def am_iia (st : List Value) (k : Int32 → Int32 → Nat → List Value → am_O) : am_O := match st with
  | .int x :: .int i :: .ref a :: r => k x i a r
  | _ => none
def am_lia (st : List Value) (k : Int64 → Int32 → Nat → List Value → am_O) : am_O := match st with
  | .long x :: .int i :: .ref a :: r => k x i a r
  | _ => none
def am_qia (st : List Value) (k : Option Nat → Int32 → Nat → List Value → am_O) : am_O := match st with
  | .ref x :: .int i :: .ref a :: r => k (some x) i a r
  | .null :: .int i :: .ref a :: r => k none i a r
  | _ => none
def am_va (st : List Value) (k : Value → Nat → List Value → am_O) : am_O := match st with
  | v :: .ref a :: r => k v a r
  | _ => none
theorem am_i1_inv {st : List Value} {k : Int32 → List Value → am_O} {o : am_X} (h : am_i1 st k = some o) : ∃ x r, st = .int x :: r ∧ k x r = some o := by
  unfold am_i1 at h
  split at h
  · exact ⟨_, _, rfl, h⟩
  · cases h
theorem am_i2_inv {st : List Value} {k : Int32 → Int32 → List Value → am_O} {o : am_X} (h : am_i2 st k = some o) : ∃ x y r, st = .int y :: .int x :: r ∧ k x y r = some o := by
  unfold am_i2 at h
  split at h
  · exact ⟨_, _, _, rfl, h⟩
  · cases h
theorem am_l2_inv {st : List Value} {k : Int64 → Int64 → List Value → am_O} {o : am_X} (h : am_l2 st k = some o) : ∃ x y r, st = .long y :: .long x :: r ∧ k x y r = some o := by
  unfold am_l2 at h
  split at h
  · exact ⟨_, _, _, rfl, h⟩
  · cases h
theorem am_a1_inv {st : List Value} {k : Nat → List Value → am_O} {o : am_X} (h : am_a1 st k = some o) : ∃ a r, st = .ref a :: r ∧ k a r = some o := by
  unfold am_a1 at h
  split at h
  · exact ⟨_, _, rfl, h⟩
  · cases h
theorem am_q1_inv {st : List Value} {k : Option Nat → List Value → am_O} {o : am_X} (h : am_q1 st k = some o) : ∃ a r, st = va_rf a :: r ∧ k a r = some o := by
  unfold am_q1 at h
  split at h
  · exact ⟨some _, _, rfl, h⟩
  · exact ⟨none, _, rfl, h⟩
  · cases h
theorem am_q2_inv {st : List Value} {k : Option Nat → Option Nat → List Value → am_O} {o : am_X} (h : am_q2 st k = some o) : ∃ x y r, st = va_rf y :: va_rf x :: r ∧ k x y r = some o := by
  unfold am_q2 at h
  split at h
  · exact ⟨some _, some _, _, rfl, h⟩
  · exact ⟨none, some _, _, rfl, h⟩
  · exact ⟨some _, none, _, rfl, h⟩
  · exact ⟨none, none, _, rfl, h⟩
  · cases h
theorem am_c1_cat {v : Value} (h : am_c1 v = true) : v.category = 1 := by
  cases v <;> first | rfl | cases h
theorem am_v1_inv {st : List Value} {k : Value → List Value → am_O} {o : am_X} (h : am_v1 st k = some o) : ∃ v r, st = v :: r ∧ v.category = 1 ∧ k v r = some o := by
  unfold am_v1 at h
  split at h
  · split at h
    · next hc => exact ⟨_, _, rfl, am_c1_cat hc, h⟩
    · cases h
  · cases h
theorem am_v2_inv {st : List Value} {k : Value → Value → List Value → am_O} {o : am_X} (h : am_v2 st k = some o) : ∃ v w r, st = v :: w :: r ∧ v.category = 1 ∧ w.category = 1 ∧ k v w r = some o := by
  unfold am_v2 at h
  split at h
  · split at h
    · next hc => exact ⟨_, _, _, rfl, am_c1_cat hc.1, am_c1_cat hc.2, h⟩
    · cases h
  · cases h
theorem am_ia_inv {st : List Value} {k : Int32 → Nat → List Value → am_O} {o : am_X} (h : am_ia st k = some o) : ∃ i a r, st = .int i :: .ref a :: r ∧ k i a r = some o := by
  unfold am_ia at h
  split at h
  · exact ⟨_, _, _, rfl, h⟩
  · cases h
theorem am_iia_inv {st : List Value} {k : Int32 → Int32 → Nat → List Value → am_O} {o : am_X} (h : am_iia st k = some o) : ∃ x i a r, st = .int x :: .int i :: .ref a :: r ∧ k x i a r = some o := by
  unfold am_iia at h
  split at h
  · exact ⟨_, _, _, _, rfl, h⟩
  · cases h
theorem am_lia_inv {st : List Value} {k : Int64 → Int32 → Nat → List Value → am_O} {o : am_X} (h : am_lia st k = some o) : ∃ x i a r, st = .long x :: .int i :: .ref a :: r ∧ k x i a r = some o := by
  unfold am_lia at h
  split at h
  · exact ⟨_, _, _, _, rfl, h⟩
  · cases h
theorem am_qia_inv {st : List Value} {k : Option Nat → Int32 → Nat → List Value → am_O} {o : am_X} (h : am_qia st k = some o) : ∃ x i a r, st = va_rf x :: .int i :: .ref a :: r ∧ k x i a r = some o := by
  unfold am_qia at h
  split at h
  · exact ⟨some _, _, _, _, rfl, h⟩
  · exact ⟨none, _, _, _, rfl, h⟩
  · cases h
theorem am_va_inv {st : List Value} {k : Value → Nat → List Value → am_O} {o : am_X} (h : am_va st k = some o) : ∃ v a r, st = v :: .ref a :: r ∧ k v a r = some o := by
  unfold am_va at h
  split at h
  · exact ⟨_, _, _, rfl, h⟩
  · cases h
def am_cb (cd : ClassFile.Cond) (x y : Int32) : Bool := match cd with
  | .eq => decide (x = y)
  | .ne => decide (¬ x = y)
  | .lt => decide (x < y)
  | .ge => decide (y ≤ x)
  | .gt => decide (y < x)
  | .le => decide (x ≤ y)
/-- what a field or an answer of that type takes as it is -/
def am_fv (ty : FieldType) (v : Value) : Bool := match ty, v with
  | .int, .int _ => true
  | .boolean, .int x => x == 0 || x == 1
  | .object _, .ref _ => true
  | .object _, .null => true
  | .array _, .ref _ => true
  | .array _, .null => true
  | _, _ => false
def am_fr (ty : FieldType) (v : Value) : Bool := match ty, v with
  | .char, .int x => decide (vp_nar .char x = x)
  | .byte, .int x => decide (vp_nar .byte x = x)
  | _, _ => am_fv ty v
/-- what an instruction that is no call of ours does; u, v: what its pool entry names -/
def am_step (cs : Nat → Value) (ft : Nat → Nat → FieldType) (df : Nat → List Value) (ns : Nat → Nat) (nm : Nat → String) (d pc : Nat) (lv : am_V) (st : List Value) (σ : am_H) (top sl : Nat) (i : Instr) (u v : Nat) : am_O := match i with
  | .aconst_null => am_n (pc + 1) lv (.null :: st) σ top sl
  | .iconst n => am_n (pc + 1) lv (.int (Int32.ofInt n) :: st) σ top sl
  | .bipush n => am_n (pc + 2) lv (.int (Int8.ofInt n).toInt32 :: st) σ top sl
  | .sipush n => am_n (pc + 3) lv (.int (Int16.ofInt n).toInt32 :: st) σ top sl
  | .ldc _ => am_n (pc + 2) lv (cs u :: st) σ top sl
  | .getstatic _ => am_n (pc + 3) lv (cs u :: st) σ top sl
  | .iload k => match am_get lv k with
    | some (.int x) => am_n (pc + 2) lv (.int x :: st) σ top sl
    | _ => none
  | .iload_n k => match am_get lv k with
    | some (.int x) => am_n (pc + 1) lv (.int x :: st) σ top sl
    | _ => none
  | .aload k => match am_get lv k with
    | some (.ref x) => am_n (pc + 2) lv (.ref x :: st) σ top sl
    | some .null => am_n (pc + 2) lv (.null :: st) σ top sl
    | _ => none
  | .aload_n k => match am_get lv k with
    | some (.ref x) => am_n (pc + 1) lv (.ref x :: st) σ top sl
    | some .null => am_n (pc + 1) lv (.null :: st) σ top sl
    | _ => none
  | .istore k => am_i1 st fun x r => if k < lv.length then am_n (pc + 2) (lv.set k (some (.int x))) r σ top sl else none
  | .istore_n k => am_i1 st fun x r => if (k : Nat) < lv.length then am_n (pc + 1) (lv.set k (some (.int x))) r σ top sl else none
  | .astore k => am_q1 st fun x r => if k < lv.length then am_n (pc + 2) (lv.set k (some (va_rf x))) r σ top sl else none
  | .astore_n k => am_q1 st fun x r => if (k : Nat) < lv.length then am_n (pc + 1) (lv.set k (some (va_rf x))) r σ top sl else none
  | .iinc k n => match am_get lv k with
    | some (.int x) => if k < lv.length then am_n (pc + 3) (lv.set k (some (.int (x + Int32.ofInt n)))) st σ top sl else none
    | _ => none
  | .iadd => am_i2 st fun x y r => am_n (pc + 1) lv (.int (x + y) :: r) σ top sl
  | .isub => am_i2 st fun x y r => am_n (pc + 1) lv (.int (x - y) :: r) σ top sl
  | .imul => am_i2 st fun x y r => am_n (pc + 1) lv (.int (x * y) :: r) σ top sl
  | .idiv => am_i2 st fun x y r => if y = 0 then none else am_n (pc + 1) lv (.int (x / y) :: r) σ top sl
  | .irem => am_i2 st fun x y r => if y = 0 then none else am_n (pc + 1) lv (.int (x - x / y * y) :: r) σ top sl
  | .iand => am_i2 st fun x y r => am_n (pc + 1) lv (.int (x &&& y) :: r) σ top sl
  | .ior => am_i2 st fun x y r => am_n (pc + 1) lv (.int (x ||| y) :: r) σ top sl
  | .ishl => am_i2 st fun x y r => am_n (pc + 1) lv (.int (x <<< (y &&& 31)) :: r) σ top sl
  | .ishr => am_i2 st fun x y r => am_n (pc + 1) lv (.int (x >>> (y &&& 31)) :: r) σ top sl
  | .i2c => am_i1 st fun x r => am_n (pc + 1) lv (.int (x.toUInt32 % 65536).toInt32 :: r) σ top sl
  | .i2l => am_i1 st fun x r => am_n (pc + 1) lv (.long x.toInt64 :: r) σ top sl
  | .lcmp => am_l2 st fun x y r => am_n (pc + 1) lv (.int (lg_cmp x y) :: r) σ top sl
  | .dup => am_v1 st fun x r => am_n (pc + 1) lv (x :: x :: r) σ top sl
  | .pop => am_v1 st fun _ r => am_n (pc + 1) lv r σ top sl
  | .dup_x1 => am_v2 st fun x y r => am_n (pc + 1) lv (x :: y :: x :: r) σ top sl
  | .dup2 => am_v2 st fun x y r => am_n (pc + 1) lv (x :: y :: x :: y :: r) σ top sl
  | .goto _ => am_n u lv st σ top sl
  | .ifCond cd _ => am_i1 st fun x r => if am_cb cd x 0 = true then am_n u lv r σ top sl else am_n (pc + 3) lv r σ top sl
  | .if_icmp cd _ => am_i2 st fun x y r => if am_cb cd x y = true then am_n u lv r σ top sl else am_n (pc + 3) lv r σ top sl
  | .if_acmp .eq _ => am_q2 st fun x y r => if x = y then am_n u lv r σ top sl else am_n (pc + 3) lv r σ top sl
  | .if_acmp .ne _ => am_q2 st fun x y r => if x = y then am_n (pc + 3) lv r σ top sl else am_n u lv r σ top sl
  | .ifnull _ => am_q1 st fun x r => match x with
    | none => am_n u lv r σ top sl
    | some _ => am_n (pc + 3) lv r σ top sl
  | .ifnonnull _ => am_q1 st fun x r => match x with
    | none => am_n (pc + 3) lv r σ top sl
    | some _ => am_n u lv r σ top sl
  | .tableswitch dflt lo hi offs => am_i1 st fun x r =>
    if x.toInt < lo ∨ hi < x.toInt then (if 0 ≤ (pc : Int) + dflt then am_n ((pc : Int) + dflt).toNat lv r σ top sl else none)
    else match offs[(x.toInt - lo).toNat]? with
      | some off => if 0 ≤ (pc : Int) + off then am_n ((pc : Int) + off).toNat lv r σ top sl else none
      | none => none
  | .lookupswitch dflt ps => am_i1 st fun x r =>
    if (ps.toList.zip (ps.toList.drop 1)).all (fun (a, next) => a.1 < next.1) = true ∧ 0 ≤ (pc : Int) + Op.lookupswitch.offset ps.toList dflt x.toInt then am_n ((pc : Int) + Op.lookupswitch.offset ps.toList dflt x.toInt).toNat lv r σ top sl else none
  | .getfield _ => am_a1 st fun a r => match σ a with
    | some (.inr (.inl (c, fs))) => if c = u ∧ ¬ u = 50 then (match fs[v]? with
      | some w => am_n (pc + 3) lv (w :: r) σ top sl
      | none => none) else none
    | some (.inr (.inr (1, av, _))) => if u = 50 then (if v = 0 then am_n (pc + 3) lv (.ref av :: r) σ top sl else am_n (pc + 3) lv (.int 0 :: r) σ top sl) else none
    | _ => none
  | .putfield _ => am_va st fun w a r => match σ a with
    | some (.inr (.inl (c, fs))) => if c = u ∧ v < fs.length ∧ am_fv (ft u v) w = true then am_n (pc + 3) lv r (am_up σ a (.inr (.inl (c, fs.set v w)))) top sl else none
    | _ => none
  | .new _ => am_n (pc + 3) lv (.ref top :: st) (am_up σ top (.inr (.inl (u, df u)))) (top + 1) (sl + ns u)
  | .newarray at_ => am_i1 st fun n r => if n < 0 ∨ 100000 < n.toNatClampNeg then none else match at_ with
    | .int => am_n (pc + 2) lv (.ref top :: r) (am_up σ top (.inl (.int, n.toNatClampNeg, .inl fun _ => 0))) (top + 1) (sl + n.toNatClampNeg)
    | .char => am_n (pc + 2) lv (.ref top :: r) (am_up σ top (.inl (.char, n.toNatClampNeg, .inl fun _ => 0))) (top + 1) (sl + n.toNatClampNeg)
    | .boolean => am_n (pc + 2) lv (.ref top :: r) (am_up σ top (.inl (.boolean, n.toNatClampNeg, .inl fun _ => 0))) (top + 1) (sl + n.toNatClampNeg)
    | .long => am_n (pc + 2) lv (.ref top :: r) (am_up σ top (.inl (.long, n.toNatClampNeg, .inr (.inl fun _ => 0)))) (top + 1) (sl + n.toNatClampNeg)
    | _ => none
  | .anewarray _ => am_i1 st fun n r => if n < 0 ∨ 100000 < n.toNatClampNeg then none else
    am_n (pc + 3) lv (.ref top :: r) (am_up σ top (.inl (.object (nm u), n.toNatClampNeg, .inr (.inr (.inr (.inr fun _ => none)))))) (top + 1) (sl + n.toNatClampNeg)
  | .arraylength => am_a1 st fun a r => match σ a with
    | some (.inl (_, n, _)) => am_n (pc + 1) lv (.int (Int32.ofNat n) :: r) σ top sl
    | some (.inr (.inr (0, n, _))) => am_n (pc + 1) lv (.int (Int32.ofNat n) :: r) σ top sl
    | some (.inr (.inr (2, n, _))) => am_n (pc + 1) lv (.int (Int32.ofNat n) :: r) σ top sl
    | _ => none
  | .iaload => am_ia st fun i a r => match σ a with
    | some (.inl (.int, n, .inl f)) => if i < 0 ∨ n ≤ i.toNatClampNeg then none else am_n (pc + 1) lv (.int (f i.toNatClampNeg) :: r) σ top sl
    | some (.inr (.inr (0, n, f))) => if i < 0 ∨ n ≤ i.toNatClampNeg then none else am_n (pc + 1) lv (.int (f i.toNatClampNeg) :: r) σ top sl
    | _ => none
  | .baload => am_ia st fun i a r => match σ a with
    | some (.inl (.boolean, n, .inl f)) => if i < 0 ∨ n ≤ i.toNatClampNeg then none else am_n (pc + 1) lv (.int (f i.toNatClampNeg) :: r) σ top sl
    | some (.inr (.inr (2, n, f))) => if i < 0 ∨ n ≤ i.toNatClampNeg then none else am_n (pc + 1) lv (.int (f i.toNatClampNeg) :: r) σ top sl
    | _ => none
  | .caload => am_ia st fun i a r => match σ a with
    | some (.inl (.char, n, .inl f)) => if i < 0 ∨ n ≤ i.toNatClampNeg then none else am_n (pc + 1) lv (.int (f i.toNatClampNeg) :: r) σ top sl
    | _ => none
  | .laload => am_ia st fun i a r => match σ a with
    | some (.inl (.long, n, .inr (.inl f))) => if i < 0 ∨ n ≤ i.toNatClampNeg then none else am_n (pc + 1) lv (.long (f i.toNatClampNeg) :: r) σ top sl
    | _ => none
  | .aaload => am_ia st fun i a r => match σ a with
    | some (.inl (.object _, n, .inr (.inr (.inr (.inr f))))) => if i < 0 ∨ n ≤ i.toNatClampNeg then none else am_n (pc + 1) lv (va_rf (f i.toNatClampNeg) :: r) σ top sl
    | _ => none
  | .iastore => am_iia st fun x i a r => match σ a with
    | some (.inl (.int, n, .inl f)) => if i < 0 ∨ n ≤ i.toNatClampNeg then none else am_n (pc + 1) lv r (am_up σ a (.inl (.int, n, .inl (upd f i.toNatClampNeg x)))) top sl
    | _ => none
  | .bastore => am_iia st fun x i a r => match σ a with
    | some (.inl (.boolean, n, .inl f)) => if i < 0 ∨ n ≤ i.toNatClampNeg then none else am_n (pc + 1) lv r (am_up σ a (.inl (.boolean, n, .inl (upd f i.toNatClampNeg (vp_nar .boolean x))))) top sl
    | _ => none
  | .castore => am_iia st fun x i a r => match σ a with
    | some (.inl (.char, n, .inl f)) => if i < 0 ∨ n ≤ i.toNatClampNeg then none else am_n (pc + 1) lv r (am_up σ a (.inl (.char, n, .inl (upd f i.toNatClampNeg (vp_nar .char x))))) top sl
    | _ => none
  | .lastore => am_lia st fun x i a r => match σ a with
    | some (.inl (.long, n, .inr (.inl f))) => if i < 0 ∨ n ≤ i.toNatClampNeg then none else am_n (pc + 1) lv r (am_up σ a (.inl (.long, n, .inr (.inl (vp_updL f i.toNatClampNeg x))))) top sl
    | _ => none
  | .aastore => am_qia st fun x i a r => match σ a with
    | some (.inl (.object C, n, .inr (.inr (.inr (.inr f))))) => if i < 0 ∨ n ≤ i.toNatClampNeg then none else (match x with
      | none => am_n (pc + 1) lv r (am_up σ a (.inl (.object C, n, .inr (.inr (.inr (.inr (va_up f i.toNatClampNeg none))))))) top sl
      | some b => match σ b with
        | some (.inr (.inl (c, _))) => if nm c = C then am_n (pc + 1) lv r (am_up σ a (.inl (.object C, n, .inr (.inr (.inr (.inr (va_up f i.toNatClampNeg (some b)))))))) top sl else none
        | _ => none)
    | _ => none
  | .invokespecial _ => if d = 0 ∨ ¬ u = 1000 then none else am_a1 st fun _ r => if (r.map fun w => w.category).sum ≤ 8 then am_n (pc + 3) lv r σ top sl else none
  | _ => none
/-- 0: an instruction that goes on, 1: a call, 2: an end, 3: an exception is made and thrown -/
def am_kind (i : Instr) (u : Nat) : Nat := match i with
  | .invokestatic _ => 1
  | .invokevirtual _ => 1
  | .invokespecial _ => if u = 1000 then 0 else 1
  | .new _ => if 12 ≤ u then 3 else 0
  | .ireturn => 2
  | .areturn => 2
  | .return_ => 2
  | .athrow => 2
  | _ => 0
/-- a call's arguments, and the rest of the stack -/
def am_call (mc : Nat → Nat) (d : Nat) (st : List Value) (σ : am_H) (i : Instr) (u v : Nat) : Option (List Value × List Value) := match i with
  | .invokestatic _ => if d = 0 ∨ st.length < v then none else some ((st.take v).reverse, st.drop v)
  | .invokespecial _ => if d = 0 then none else match st.drop v with
    | .ref b :: r => some (.ref b :: (st.take v).reverse, r)
    | _ => none
  | .invokevirtual _ => if d = 0 then none else match st.drop v with
    | .ref b :: r => match σ b with
      | some (.inr (.inl (c, _))) => if c = mc u then some (.ref b :: (st.take v).reverse, r) else none
      | some (.inr (.inr (1, _, _))) => if mc u = 50 then some (.ref b :: (st.take v).reverse, r) else none
      | _ => none
    | _ => none
  | _ => none
/-- a method's end: its answer, or the address of what it throws -/
def am_end (rt : FieldType) (st : List Value) (i : Instr) : Option (Option Value ⊕ Nat) := match i with
  | .ireturn => match st with
    | [.int x] => if am_fr rt (.int x) = true then some (.inl (some (.int x))) else none
    | _ => none
  | .areturn => match st with
    | [.ref a] => if am_fr rt (.ref a) = true then some (.inl (some (.ref a))) else none
    | [.null] => if am_fr rt .null = true then some (.inl (some .null)) else none
    | _ => none
  | .return_ => match st with
    | [] => some (.inl none)
    | _ => none
  | _ => none
/-- the library's members that are reached: the smaller of two, the copying of letters, an exception's start -/
def am_bi (u : Nat) (as : List Value) (σ : am_H) : Option (Option Value × am_H) := match u, as with
  | 1003, [.int x, .int y] => some (some (.int (if y < x then y else x)), σ)
  | 1004, [.ref a, .int sp, .ref b, .int dp, .int n] => match σ a, σ b with
    | some (.inl (.char, n0, .inl f)), some (.inl (.char, n1, .inl g)) =>
      if sp < 0 ∨ dp < 0 ∨ n < 0 ∨ n0 < sp.toNatClampNeg + n.toNatClampNeg ∨ n1 < dp.toNatClampNeg + n.toNatClampNeg then none
      else some (none, am_up σ b (.inl (.char, n1, .inl (va_cpy f g sp.toNatClampNeg dp.toNatClampNeg n.toNatClampNeg))))
    | _, _ => none
  | _, _ => none
/-- tables: instructions, variables of a method, what it answers, a field's type, an object's fields at first, its slots, a class's name, a method's class, handlers -/
abbrev am_T : Type := (Nat → Nat → Option (Instr × Nat × Nat)) × (Nat → Nat) × (Nat → FieldType) × (Nat → Nat → FieldType) × (Nat → List Value) × (Nat → Nat) × (Nat → String) × (Nat → Nat) × (Nat → List ((Nat × Nat × Nat × Nat) × Nat))
def am_ent (ml : Nat) (as : List Value) : am_V := as.map some ++ List.replicate (ml - as.length) none
/-- a method's handlers: (from, to, handler, entry), class -/
def am_hs (t : am_T) (y : Nat) : List ((Nat × Nat × Nat × Nat) × Nat) := t.2.2.2.2.2.2.2.2 y
def am_hw (c pc : Nat) : List ((Nat × Nat × Nat × Nat) × Nat) → Option Nat
  | [] => none
  | x :: r => if x.1.1 ≤ pc ∧ pc < x.1.2.1 then (if c = x.2 then some x.1.2.2.1 else am_hw c pc r) else am_hw c pc r
/-- where what the callee u threw is caught -/
def am_hd (t : am_T) (y u pc : Nat) (σ : am_H) (a : Nat) : Option Nat := match am_hs t u, σ a with
  | [], some (.inr (.inl (c, _))) => if 12 ≤ c then am_hw c pc (am_hs t y) else none
  | _, _ => none
/-- n: fuel; d: frames that may be laid on this one -/
def am_run (t : am_T) (cs : Nat → Value) : Nat → Nat → Nat → Nat → am_V → List Value → am_H → Nat → Nat → Option am_R
  | 0, _, _, _, _, _, _, _, _ => none
  | n + 1, d, y, pc, lv, st, σ, top, sl =>
    match t.1 y pc with
    | none => none
    | some (i, u, v) =>
      match am_kind i u with
      | 0 => match am_step cs t.2.2.2.1 t.2.2.2.2.1 t.2.2.2.2.2.1 t.2.2.2.2.2.2.1 d pc lv st σ top sl i u v with
        | none => none
        | some (pc', lv', st', σ', top', sl') => am_run t cs n d y pc' lv' st' σ' top' sl'
      | 1 => match am_call t.2.2.2.2.2.2.2.1 d st σ i u v with
        | none => none
        | some (as, rest) =>
          if (rest.map fun w => w.category).sum ≤ 8 then
            if 1000 < u then
              match am_bi u as σ with
              | none => none
              | some (r, σ1) => am_run t cs n d y (pc + 3) lv (r.toList ++ rest) σ1 top sl
            else if as.length ≤ t.2.1 u ∧ as.all am_c1 = true then
              match am_run t cs n (d - 1) u 0 (am_ent (t.2.1 u) as) [] σ top sl with
              | none => none
              | some (.inl r, σ1, top1, sl1) => am_run t cs n d y (pc + 3) lv (r.toList ++ rest) σ1 top1 sl1
              | some (.inr a, σ1, top1, sl1) => match am_hd t y u pc σ1 a with
                | some h => am_run t cs n d y h lv [.ref a] σ1 top1 sl1
                | none => none
            else none
          else none
      | 3 => if 6 ≤ d ∧ (st.map fun w => w.category).sum ≤ 8 then some (.inr top, am_up σ top (.inr (.inl (u, []))), top + 1, sl + t.2.2.2.2.2.1 u) else none
      | _ => match am_end (t.2.2.1 y) st i with
        | none => none
        | some r => some (r, σ, top, sl)
end
section
theorem am_fv_ok {ty : FieldType} {v : Value} (h : am_fv ty v = true) : narrow ty v = v ∧ fits ty v = true := by
  unfold am_fv at h
  split at h
  · exact ⟨rfl, rfl⟩
  · next x =>
    rw [Bool.or_eq_true, beq_iff_eq, beq_iff_eq] at h
    rcases h with h | h <;> subst h <;> decide
  · exact ⟨rfl, rfl⟩
  · exact ⟨rfl, rfl⟩
  · exact ⟨rfl, rfl⟩
  · exact ⟨rfl, rfl⟩
  · cases h
theorem am_fr_ok {ty : FieldType} {x : Int32} (h : am_fr ty (.int x) = true) : narrow ty (.int x) = .int x := by
  unfold am_fr at h
  split at h
  · next y e =>
    cases e
    have h1 := of_decide_eq_true h
    show Value.int _ = _
    rw [vp_nar_char] at h1
    exact congrArg Value.int h1
  · next y e =>
    cases e
    have h1 := of_decide_eq_true h
    show Value.int _ = _
    rw [vp_nar_byte] at h1
    exact congrArg Value.int h1
  · exact (am_fv_ok h).1
def am_as (lv : am_V) : List (Nat × Value) := (List.range lv.length).filterMap (fun i => (am_get lv i).map (fun v => (i, v)))
theorem am_get_lt {lv : am_V} {j : Nat} {w : Value} (h : am_get lv j = some w) : j < lv.length := by
  unfold am_get at h
  split at h
  · next v e => exact (List.getElem?_eq_some_iff.mp e).1
  · cases h
theorem am_as_mem {lv : am_V} {j : Nat} {w : Value} : (j, w) ∈ am_as lv ↔ am_get lv j = some w := by
  unfold am_as
  rw [List.mem_filterMap]
  constructor
  · rintro ⟨a, -, h⟩
    cases h1 : am_get lv a with
    | none => rw [h1] at h; cases h
    | some v => rw [h1] at h; cases h; exact h1
  · intro h
    exact ⟨j, List.mem_range.mpr (am_get_lt h), by rw [h]; rfl⟩
theorem am_get_set {lv : am_V} {i j : Nat} {v : Value} (hi : i < lv.length) : am_get (lv.set i (some v)) j = if i = j then some v else am_get lv j := by
  unfold am_get
  rw [List.getElem?_set]
  by_cases h : i = j
  · rw [if_pos h, if_pos h, if_pos hi]
  · rw [if_neg h, if_neg h]
/-- the frame's variables are the list's, all of one word -/
def am_ls (ls : Array Slot) (nL : Nat) (lv : am_V) : Prop := lv_has ls nL (am_as lv) ∧ lv.length = nL ∧ ∀ i v, am_get lv i = some v → v.category = 1
theorem am_ls.at {ls : Array Slot} {nL : Nat} {lv : am_V} (h : am_ls ls nL lv) {i : Nat} {v : Value} (hg : am_get lv i = some v) : ls[i]? = some (.val v) := h.1.2.2 (i, v) (am_as_mem.mpr hg)
theorem am_ls.st {ls ls' : Array Slot} {nL : Nat} {lv : am_V} (h : am_ls ls nL lv) {i : Nat} {v : Value} (hi : i < lv.length) (hv : v.category = 1)
    (h' : lv_has ls' nL ((i, v) :: (am_as lv).filter (fun q => !(q.1 == i) && !(q.1 + 1 == i && q.2.category == 2)))) : am_ls ls' nL (lv.set i (some v)) := by
  refine ⟨⟨h'.1, h'.2.1, ?_⟩, by rw [List.length_set]; exact h.2.1, ?_⟩
  · rintro ⟨j, w⟩ hq
    have hq := am_as_mem.mp hq
    rw [am_get_set hi] at hq
    by_cases hj : i = j
    · rw [if_pos hj] at hq
      cases hq
      subst hj
      exact h'.2.2 (i, v) List.mem_cons_self
    · rw [if_neg hj] at hq
      refine h'.2.2 (j, w) (List.mem_cons_of_mem _ (List.mem_filter.mpr ⟨am_as_mem.mpr hq, ?_⟩))
      have hc := h.2.2 j w hq
      simp [hc, Ne.symm hj]
  · intro j w hq
    rw [am_get_set hi] at hq
    by_cases hj : i = j
    · rw [if_pos hj] at hq
      cases hq
      exact hv
    · rw [if_neg hj] at hq
      exact h.2.2 j w hq
theorem am_rf_cat (r : Option Nat) : (va_rf r).category = 1 := by cases r <;> rfl
def am_fitA (ty : FieldType) (ar : vp_A) : Prop := match ar.2 with
  | .inl f => ∀ j, fits ty (.int (f j)) = true
  | _ => True
/-- a text that is a constant; its bytes lie at av -/
def am_str (b0 av a : Nat) (U : State) (H : Heap) : Prop := va_O "java/lang/String" a (fun q => b0 ≤ q) U H ∧ va_OF "java/lang/String" "coder" "B" (.int 0) a (fun q => b0 ≤ q) U H ∧ va_OF "java/lang/String" "value" "[B" (.ref av) a (fun q => b0 ≤ q) U H
theorem am_str.kept {b0 av a : Nat} {U : State} {H H1 : Heap} (h : am_str b0 av a U H) (hq : ∀ q : Nat, q < H.size → ¬ b0 ≤ q → H1[q]? = H[q]?) : am_str b0 av a U H1 := by
  obtain ⟨h1, h2, h3⟩ := h
  exact ⟨h1.kept hq, h2.kept hq, h3.kept hq⟩
theorem am_str.moved {b0 av a : Nat} {u U : State} {H : Heap} (hvm : u.vm.Alike U.vm) (h : am_str b0 av a u H) : am_str b0 av a U H := by
  obtain ⟨h1, h2, h3⟩ := h
  exact ⟨h1.moved hvm, h2.moved hvm, h3.moved hvm⟩
/-- what a cell of ours is on the machine's heap -/
def am_at (D : va_G) (cl : List vw_C) (b0 : Nat) (tys : List (ClassId × FieldType)) (U : State) (a : Nat) (e : am_C) (H : Heap) : Prop := match e with
  | .inl (ty, ar) => b0 ≤ a ∧ am_fitA ty ar ∧ ∃ cA, (cA, ty) ∈ tys ∧ H[a]? = some (vp_cell cA ar)
  | .inr (.inl (c, fs)) => b0 ≤ a ∧ ∃ r : vw_C, cl[c]? = some r ∧ fs.length = r.2.2 ∧ t_OB a (D.1 c) r.2.2 (D.2 c) H (vp_V fs)
  | .inr (.inr (0, n, f)) => a < b0 ∧ va_X a n f U H
  | .inr (.inr (1, av, _)) => a < b0 ∧ am_str b0 av a U H
  | .inr (.inr (_ + 2, n, f)) => a < b0 ∧ va_T .byte a n (fun j => .int (f j)) (fun q => b0 ≤ q) U H
theorem am_at.kept {D : va_G} {cl : List vw_C} {b0 : Nat} {tys : List (ClassId × FieldType)} {U : State} {a : Nat} {e : am_C} {H H1 : Heap} (h : am_at D cl b0 tys U a e H) (hq : H1[a]? = H[a]?) (hl : ∀ q : Nat, q < H.size → ¬ b0 ≤ q → H1[q]? = H[q]?) : am_at D cl b0 tys U a e H1 := by
  match e, h with
  | .inl (ty, ar), ⟨h1, h2, cA, h3, h4⟩ => exact ⟨h1, h2, cA, h3, by rw [hq]; exact h4⟩
  | .inr (.inl (c, fs)), ⟨h1, r, h2, h3, h4⟩ => exact ⟨h1, r, h2, h3, h4.kept hq⟩
  | .inr (.inr (0, n, f)), ⟨h1, h2⟩ => exact ⟨h1, h2.kept hq⟩
  | .inr (.inr (1, av, _)), ⟨h1, h2⟩ => exact ⟨h1, h2.kept hl⟩
  | .inr (.inr (_ + 2, n, f)), ⟨h1, h2⟩ => exact ⟨h1, h2.kept hl⟩
theorem am_at.moved {D : va_G} {cl : List vw_C} {b0 : Nat} {tys : List (ClassId × FieldType)} {u U : State} {a : Nat} {e : am_C} {H : Heap} (hvm : u.vm.Alike U.vm) (h : am_at D cl b0 tys u a e H) : am_at D cl b0 tys U a e H := by
  match e, h with
  | .inl (ty, ar), h => exact h
  | .inr (.inl (c, fs)), h => exact h
  | .inr (.inr (0, n, f)), ⟨h1, h2⟩ => exact ⟨h1, h2.moved hvm⟩
  | .inr (.inr (1, av, _)), ⟨h1, h2⟩ => exact ⟨h1, h2.moved hvm⟩
  | .inr (.inr (_ + 2, n, f)), ⟨h1, h2⟩ => exact ⟨h1, h2.moved hvm⟩
theorem am_at.more {D : va_G} {cl : List vw_C} {b0 : Nat} {tys tys' : List (ClassId × FieldType)} {U : State} {a : Nat} {e : am_C} {H : Heap} (h : am_at D cl b0 tys U a e H) (hq : ∀ x ∈ tys, x ∈ tys') : am_at D cl b0 tys' U a e H := by
  match e, h with
  | .inl (ty, ar), ⟨h1, h2, cA, h3, h4⟩ => exact ⟨h1, h2, cA, hq _ h3, h4⟩
  | .inr (.inl (c, fs)), h => exact h
  | .inr (.inr (0, n, f)), h => exact h
  | .inr (.inr (1, av, _)), h => exact h
  | .inr (.inr (_ + 2, n, f)), h => exact h
/-- the moving cells: the heap's size is 'top', every cell of σ is there -/
def am_dy (D : va_G) (cl : List vw_C) (b0 : Nat) (U : State) (σ : am_H) (top : Nat) (H : Heap) : Prop := H.size = top ∧ b0 ≤ top ∧ ∃ tys : List (ClassId × FieldType), va_K D cl tys U ∧ ∀ a e, σ a = some e → a < top ∧ am_at D cl b0 tys U a e H
theorem am_dy.moved {D : va_G} {cl : List vw_C} {b0 : Nat} {u U : State} {σ : am_H} {top : Nat} {H : Heap} (hvm : u.vm.Alike U.vm) (h : am_dy D cl b0 u σ top H) : am_dy D cl b0 U σ top H := by
  obtain ⟨h1, h0, tys, h2, h3⟩ := h
  exact ⟨h1, h0, tys, va_K.moved hvm h2, fun a e q => ⟨(h3 a e q).1, (h3 a e q).2.moved hvm⟩⟩
theorem am_dy_upd {D : va_G} {cl : List vw_C} {b0 : Nat} {U : State} {σ : am_H} {top : Nat} {H H1 : Heap} {tys : List (ClassId × FieldType)} (hsz : H.size = top) (hbt : b0 ≤ top) (hK : va_K D cl tys U) (hc : ∀ a e, σ a = some e → a < top ∧ am_at D cl b0 tys U a e H)
    {a : Nat} {e : am_C} (z : H1.size = H.size) (oq : ∀ q : Nat, q ≠ a → H1[q]? = H[q]?) (ha : a < top) (hba : b0 ≤ a) (he : am_at D cl b0 tys U a e H1) : am_dy D cl b0 U (am_up σ a e) top H1 := by
  refine ⟨z.trans hsz, hbt, tys, hK, fun q x hq => ?_⟩
  unfold am_up at hq
  by_cases h : q = a
  · rw [if_pos h] at hq
    cases hq
    subst h
    exact ⟨ha, he⟩
  · rw [if_neg h] at hq
    exact ⟨(hc q x hq).1, (hc q x hq).2.kept (oq q h) (fun y _ hy => oq y (fun z => hy (by rw [z]; exact hba)))⟩
theorem am_dy_push {D : va_G} {cl : List vw_C} {b0 : Nat} {U : State} {σ : am_H} {top : Nat} {H H1 : Heap} {tys tys' : List (ClassId × FieldType)} (hsz : H.size = top) (hbt : b0 ≤ top) (hK : va_K D cl tys' U) (hty : ∀ x ∈ tys, x ∈ tys') (hc : ∀ a e, σ a = some e → a < top ∧ am_at D cl b0 tys U a e H)
    {e : am_C} (z : H1.size = top + 1) (oq : ∀ q : Nat, q < top → H1[q]? = H[q]?) (he : am_at D cl b0 tys' U top e H1) : am_dy D cl b0 U (am_up σ top e) (top + 1) H1 := by
  refine ⟨z, Nat.le_succ_of_le hbt, tys', hK, fun q x hq => ?_⟩
  unfold am_up at hq
  by_cases h : q = top
  · rw [if_pos h] at hq
    cases hq
    subst h
    exact ⟨Nat.lt_succ_self _, he⟩
  · rw [if_neg h] at hq
    have := (hc q x hq).1
    exact ⟨Nat.lt_succ_of_lt this, ((hc q x hq).2.kept (oq q this) (fun y h1 _ => oq y (by rw [← hsz]; exact h1))).more hty⟩
theorem am_P1 {D : va_G} {cl : List vw_C} {q : Nat × va_E} {H : Heap} (h : va_at D cl q H) : va_P D cl [q] H := by
  intro k x hx
  have hz : k < 1 := (List.getElem?_eq_some_iff.mp hx).1
  rw [show k = 0 by omega] at hx
  cases hx
  exact h
theorem am_S_put {b0 : Nat} {H0 H H1 : Heap} {locs : List Loc} {a k : Nat} (h : va_S (fun q => b0 ≤ q) H0 H locs) (z : H1.size = H.size) (oq : ∀ q : Nat, q ≠ a → H1[q]? = H[q]?) (ha : b0 ≤ a) : va_S (fun q => b0 ≤ q) H0 H1 (locs ++ [⟨a, k⟩]) := h.put z oq ha
theorem am_S_push {b0 : Nat} {H0 H H1 : Heap} {locs : List Loc} (h : va_S (fun q => b0 ≤ q) H0 H locs) (z : H1.size = H.size + 1) (oq : ∀ q : Nat, q < H.size → H1[q]? = H[q]?) : va_S (fun q => b0 ≤ q) H0 H1 locs :=
  ⟨Nat.le_trans h.1 (by omega), fun q h1 h2 => (oq q (Nat.lt_of_lt_of_le h1 h.1)).trans (h.2.1 q h1 h2), h.2.2⟩
end
section
/-- the frame's state stands for the abstract one -/
def am_inv (D : va_G) (cl : List vw_C) (b0 : Nat) (s : State) (nL c0 s0 : Nat) (lv : am_V) (σ : am_H) (top sl : Nat) (ls : Array Slot) (H : Heap) (locs : List Loc) (cells slots : Nat) : Prop :=
  am_ls ls nL lv ∧ am_dy D cl b0 s σ top H ∧ va_S (fun q => b0 ≤ q) s.heap H locs ∧ cells + c0 = top ∧ slots + s0 = sl
/-- from every state that stands for this abstract one the machine comes to Q -/
def am_W (p : Program) (l : Launch) (e : Env) (R : Room) (s : State) (m : MethodId) (args : Array Value) (below : List Frame) (meth : Method) (c : Code) (Q : State → Prop) (D : va_G) (cl : List vw_C) (b0 nL c0 s0 pc : Nat) (lv : am_V) (st : List Value) (σ : am_H) (top sl : Nat) : Prop :=
  ∀ (ls : Array Slot) (H : Heap) (locs : List Loc) (cells slots : Nat), am_inv D cl b0 s nL c0 s0 lv σ top sl ls H locs cells slots → W p l e R s m args below meth c H locs cells slots Q (F0 m pc ls st)
section AMS
variable {p : Program} {l : Launch} {e : Env} {R : Room} {s : State} {m : MethodId} {args : Array Value} {below : List Frame} {meth : Method} {c : Code} {Q : State → Prop}
variable {cc : ByteArray} {D : va_G} {cl : List vw_C} {b0 nL c0 s0 : Nat} {pc top sl : Nat} {lv : am_V} {st rest : List Value} {σ : am_H}
theorem am_w_null (hx : p.tables.exec = Jvm.exec) (hb : c.code = cc) (hd : decode cc pc = .ok (.aconst_null, 1)) (k : am_W p l e R s m args below meth c Q D cl b0 nL c0 s0 (pc + 1) lv (.null :: st) σ top sl) : am_W p l e R s m args below meth c Q D cl b0 nL c0 s0 pc lv st σ top sl :=
  fun ls H locs cells slots h => lv_null hx hb hd (k ls H locs cells slots h)
theorem am_w_iconst (hx : p.tables.exec = Jvm.exec) (hb : c.code = cc) {n : Int} (hd : decode cc pc = .ok (.iconst n, 1)) (k : am_W p l e R s m args below meth c Q D cl b0 nL c0 s0 (pc + 1) lv (.int (Int32.ofInt n) :: st) σ top sl) : am_W p l e R s m args below meth c Q D cl b0 nL c0 s0 pc lv st σ top sl :=
  fun ls H locs cells slots h => lv_iconst hx hb hd rfl (k ls H locs cells slots h)
theorem am_w_bipush (hx : p.tables.exec = Jvm.exec) (hb : c.code = cc) {n : Int} (hd : decode cc pc = .ok (.bipush n, 2)) (k : am_W p l e R s m args below meth c Q D cl b0 nL c0 s0 (pc + 2) lv (.int (Int8.ofInt n).toInt32 :: st) σ top sl) : am_W p l e R s m args below meth c Q D cl b0 nL c0 s0 pc lv st σ top sl :=
  fun ls H locs cells slots h => lv_bipush hx hb hd rfl (k ls H locs cells slots h)
theorem am_w_sipush (hx : p.tables.exec = Jvm.exec) (hb : c.code = cc) {n : Int} (hd : decode cc pc = .ok (.sipush n, 3)) (k : am_W p l e R s m args below meth c Q D cl b0 nL c0 s0 (pc + 3) lv (.int (Int16.ofInt n).toInt32 :: st) σ top sl) : am_W p l e R s m args below meth c Q D cl b0 nL c0 s0 pc lv st σ top sl :=
  fun ls H locs cells slots h => lv_sipush hx hb hd rfl (k ls H locs cells slots h)
theorem am_w_iload (hx : p.tables.exec = Jvm.exec) (hb : c.code = cc) {i : Nat} {x : Int32} (hd : decode cc pc = .ok (.iload i, 2)) (hg : am_get lv i = some (.int x)) (k : am_W p l e R s m args below meth c Q D cl b0 nL c0 s0 (pc + 2) lv (.int x :: st) σ top sl) : am_W p l e R s m args below meth c Q D cl b0 nL c0 s0 pc lv st σ top sl :=
  fun ls H locs cells slots h => lv_iload hx hb hd (h.1.at hg) (k ls H locs cells slots h)
theorem am_w_iload_n (hx : p.tables.exec = Jvm.exec) (hb : c.code = cc) {i : Fin 4} {x : Int32} (hd : decode cc pc = .ok (.iload_n i, 1)) (hg : am_get lv i = some (.int x)) (k : am_W p l e R s m args below meth c Q D cl b0 nL c0 s0 (pc + 1) lv (.int x :: st) σ top sl) : am_W p l e R s m args below meth c Q D cl b0 nL c0 s0 pc lv st σ top sl :=
  fun ls H locs cells slots h => lv_iload_n hx hb hd rfl (h.1.at hg) (k ls H locs cells slots h)
theorem am_w_aload (hx : p.tables.exec = Jvm.exec) (hb : c.code = cc) {i : Nat} {x : Option Nat} (hd : decode cc pc = .ok (.aload i, 2)) (hg : am_get lv i = some (va_rf x)) (k : am_W p l e R s m args below meth c Q D cl b0 nL c0 s0 (pc + 2) lv (va_rf x :: st) σ top sl) : am_W p l e R s m args below meth c Q D cl b0 nL c0 s0 pc lv st σ top sl := by
  intro ls H locs cells slots h
  cases x with
  | none => exact lv_aloadN hx hb hd (h.1.at hg) (k ls H locs cells slots h)
  | some a => exact lv_aload hx hb hd (h.1.at hg) (k ls H locs cells slots h)
theorem am_w_aload_n (hx : p.tables.exec = Jvm.exec) (hb : c.code = cc) {i : Fin 4} {x : Option Nat} (hd : decode cc pc = .ok (.aload_n i, 1)) (hg : am_get lv i = some (va_rf x)) (k : am_W p l e R s m args below meth c Q D cl b0 nL c0 s0 (pc + 1) lv (va_rf x :: st) σ top sl) : am_W p l e R s m args below meth c Q D cl b0 nL c0 s0 pc lv st σ top sl := by
  intro ls H locs cells slots h
  cases x with
  | none => exact lv_aload_nN hx hb hd rfl (h.1.at hg) (k ls H locs cells slots h)
  | some a => exact lv_aload_n hx hb hd rfl (h.1.at hg) (k ls H locs cells slots h)
theorem am_w_istore (hx : p.tables.exec = Jvm.exec) (hb : c.code = cc) {i : Nat} {x : Int32} (hd : decode cc pc = .ok (.istore i, 2)) (hi : i < lv.length) (k : am_W p l e R s m args below meth c Q D cl b0 nL c0 s0 (pc + 2) (lv.set i (some (.int x))) rest σ top sl) : am_W p l e R s m args below meth c Q D cl b0 nL c0 s0 pc lv (.int x :: rest) σ top sl :=
  fun ls H locs cells slots h => lv_istore hx hb hd h.1.1 (by rw [← h.1.2.1]; exact hi) rfl (fun ls' h' => k ls' H locs cells slots ⟨h.1.st hi rfl h', h.2⟩)
theorem am_w_istore_n (hx : p.tables.exec = Jvm.exec) (hb : c.code = cc) {i : Fin 4} {x : Int32} (hd : decode cc pc = .ok (.istore_n i, 1)) (hi : (i : Nat) < lv.length) (k : am_W p l e R s m args below meth c Q D cl b0 nL c0 s0 (pc + 1) (lv.set i (some (.int x))) rest σ top sl) : am_W p l e R s m args below meth c Q D cl b0 nL c0 s0 pc lv (.int x :: rest) σ top sl :=
  fun ls H locs cells slots h => lv_istore_n hx hb hd rfl h.1.1 (by rw [← h.1.2.1]; exact hi) rfl (fun ls' h' => k ls' H locs cells slots ⟨h.1.st hi rfl h', h.2⟩)
theorem am_w_astore (hx : p.tables.exec = Jvm.exec) (hb : c.code = cc) {i : Nat} {x : Option Nat} (hd : decode cc pc = .ok (.astore i, 2)) (hi : i < lv.length) (k : am_W p l e R s m args below meth c Q D cl b0 nL c0 s0 (pc + 2) (lv.set i (some (va_rf x))) rest σ top sl) : am_W p l e R s m args below meth c Q D cl b0 nL c0 s0 pc lv (va_rf x :: rest) σ top sl := by
  intro ls H locs cells slots h
  cases x with
  | none => exact lv_astoreN hx hb hd h.1.1 (by rw [← h.1.2.1]; exact hi) rfl (fun ls' h' => k ls' H locs cells slots ⟨h.1.st hi rfl h', h.2⟩)
  | some a => exact lv_astore hx hb hd h.1.1 (by rw [← h.1.2.1]; exact hi) rfl (fun ls' h' => k ls' H locs cells slots ⟨h.1.st hi rfl h', h.2⟩)
theorem am_w_astore_n (hx : p.tables.exec = Jvm.exec) (hb : c.code = cc) {i : Fin 4} {x : Option Nat} (hd : decode cc pc = .ok (.astore_n i, 1)) (hi : (i : Nat) < lv.length) (k : am_W p l e R s m args below meth c Q D cl b0 nL c0 s0 (pc + 1) (lv.set i (some (va_rf x))) rest σ top sl) : am_W p l e R s m args below meth c Q D cl b0 nL c0 s0 pc lv (va_rf x :: rest) σ top sl := by
  intro ls H locs cells slots h
  cases x with
  | none => exact lv_astore_nN hx hb hd rfl h.1.1 (by rw [← h.1.2.1]; exact hi) rfl (fun ls' h' => k ls' H locs cells slots ⟨h.1.st hi rfl h', h.2⟩)
  | some a => exact lv_astore_n hx hb hd rfl h.1.1 (by rw [← h.1.2.1]; exact hi) rfl (fun ls' h' => k ls' H locs cells slots ⟨h.1.st hi rfl h', h.2⟩)
theorem am_w_iinc (hx : p.tables.exec = Jvm.exec) (hb : c.code = cc) {i : Nat} {n : Int} {x : Int32} (hd : decode cc pc = .ok (.iinc i n, 3)) (hg : am_get lv i = some (.int x)) (k : am_W p l e R s m args below meth c Q D cl b0 nL c0 s0 (pc + 3) (lv.set i (some (.int (x + Int32.ofInt n)))) st σ top sl) : am_W p l e R s m args below meth c Q D cl b0 nL c0 s0 pc lv st σ top sl := by
  intro ls H locs cells slots h
  have hi := am_get_lt hg
  obtain ⟨kk, hk⟩ := List.getElem?_of_mem (am_as_mem.mpr hg)
  exact lv_iinc hx hb hd h.1.1 hk rfl (by rw [← h.1.2.1]; exact hi) rfl (fun ls' h' => k ls' H locs cells slots ⟨h.1.st hi rfl h', h.2⟩)
theorem am_w_iadd (hx : p.tables.exec = Jvm.exec) (hb : c.code = cc) {x y : Int32} (hd : decode cc pc = .ok (.iadd, 1)) (k : am_W p l e R s m args below meth c Q D cl b0 nL c0 s0 (pc + 1) lv (.int (x + y) :: rest) σ top sl) : am_W p l e R s m args below meth c Q D cl b0 nL c0 s0 pc lv (.int y :: .int x :: rest) σ top sl :=
  fun ls H locs cells slots h => lv_iadd hx hb hd (k ls H locs cells slots h)
theorem am_w_isub (hx : p.tables.exec = Jvm.exec) (hb : c.code = cc) {x y : Int32} (hd : decode cc pc = .ok (.isub, 1)) (k : am_W p l e R s m args below meth c Q D cl b0 nL c0 s0 (pc + 1) lv (.int (x - y) :: rest) σ top sl) : am_W p l e R s m args below meth c Q D cl b0 nL c0 s0 pc lv (.int y :: .int x :: rest) σ top sl :=
  fun ls H locs cells slots h => lv_isub hx hb hd (k ls H locs cells slots h)
theorem am_w_imul (hx : p.tables.exec = Jvm.exec) (hb : c.code = cc) {x y : Int32} (hd : decode cc pc = .ok (.imul, 1)) (k : am_W p l e R s m args below meth c Q D cl b0 nL c0 s0 (pc + 1) lv (.int (x * y) :: rest) σ top sl) : am_W p l e R s m args below meth c Q D cl b0 nL c0 s0 pc lv (.int y :: .int x :: rest) σ top sl :=
  fun ls H locs cells slots h => lv_imul hx hb hd (k ls H locs cells slots h)
theorem am_w_iand (hx : p.tables.exec = Jvm.exec) (hb : c.code = cc) {x y : Int32} (hd : decode cc pc = .ok (.iand, 1)) (k : am_W p l e R s m args below meth c Q D cl b0 nL c0 s0 (pc + 1) lv (.int (x &&& y) :: rest) σ top sl) : am_W p l e R s m args below meth c Q D cl b0 nL c0 s0 pc lv (.int y :: .int x :: rest) σ top sl :=
  fun ls H locs cells slots h => lv_iand hx hb hd (k ls H locs cells slots h)
theorem am_w_ior (hx : p.tables.exec = Jvm.exec) (hb : c.code = cc) {x y : Int32} (hd : decode cc pc = .ok (.ior, 1)) (k : am_W p l e R s m args below meth c Q D cl b0 nL c0 s0 (pc + 1) lv (.int (x ||| y) :: rest) σ top sl) : am_W p l e R s m args below meth c Q D cl b0 nL c0 s0 pc lv (.int y :: .int x :: rest) σ top sl :=
  fun ls H locs cells slots h => lv_ior hx hb hd (k ls H locs cells slots h)
theorem am_w_ishl (hx : p.tables.exec = Jvm.exec) (hb : c.code = cc) {x y : Int32} (hd : decode cc pc = .ok (.ishl, 1)) (k : am_W p l e R s m args below meth c Q D cl b0 nL c0 s0 (pc + 1) lv (.int (x <<< (y &&& 31)) :: rest) σ top sl) : am_W p l e R s m args below meth c Q D cl b0 nL c0 s0 pc lv (.int y :: .int x :: rest) σ top sl :=
  fun ls H locs cells slots h => lv_ishl hx hb hd (k ls H locs cells slots h)
theorem am_w_ishr (hx : p.tables.exec = Jvm.exec) (hb : c.code = cc) {x y : Int32} (hd : decode cc pc = .ok (.ishr, 1)) (k : am_W p l e R s m args below meth c Q D cl b0 nL c0 s0 (pc + 1) lv (.int (x >>> (y &&& 31)) :: rest) σ top sl) : am_W p l e R s m args below meth c Q D cl b0 nL c0 s0 pc lv (.int y :: .int x :: rest) σ top sl :=
  fun ls H locs cells slots h => lv_ishr hx hb hd (k ls H locs cells slots h)
theorem am_w_idiv (hx : p.tables.exec = Jvm.exec) (hb : c.code = cc) {x y : Int32} (hd : decode cc pc = .ok (.idiv, 1)) (hy : ¬ y = 0) (k : am_W p l e R s m args below meth c Q D cl b0 nL c0 s0 (pc + 1) lv (.int (x / y) :: rest) σ top sl) : am_W p l e R s m args below meth c Q D cl b0 nL c0 s0 pc lv (.int y :: .int x :: rest) σ top sl :=
  fun ls H locs cells slots h => lv_idiv hx hb hd hy (k ls H locs cells slots h)
theorem am_w_irem (hx : p.tables.exec = Jvm.exec) (hb : c.code = cc) {x y : Int32} (hd : decode cc pc = .ok (.irem, 1)) (hy : ¬ y = 0) (k : am_W p l e R s m args below meth c Q D cl b0 nL c0 s0 (pc + 1) lv (.int (x - x / y * y) :: rest) σ top sl) : am_W p l e R s m args below meth c Q D cl b0 nL c0 s0 pc lv (.int y :: .int x :: rest) σ top sl :=
  fun ls H locs cells slots h => lv_irem hx hb hd hy (k ls H locs cells slots h)
theorem am_w_i2c (hx : p.tables.exec = Jvm.exec) (hb : c.code = cc) {x : Int32} (hd : decode cc pc = .ok (.i2c, 1)) (k : am_W p l e R s m args below meth c Q D cl b0 nL c0 s0 (pc + 1) lv (.int (x.toUInt32 % 65536).toInt32 :: rest) σ top sl) : am_W p l e R s m args below meth c Q D cl b0 nL c0 s0 pc lv (.int x :: rest) σ top sl :=
  fun ls H locs cells slots h => lv_i2c hx hb hd rfl (k ls H locs cells slots h)
theorem am_w_i2l (hx : p.tables.exec = Jvm.exec) (hb : c.code = cc) {x : Int32} (hd : decode cc pc = .ok (.i2l, 1)) (k : am_W p l e R s m args below meth c Q D cl b0 nL c0 s0 (pc + 1) lv (.long x.toInt64 :: rest) σ top sl) : am_W p l e R s m args below meth c Q D cl b0 nL c0 s0 pc lv (.int x :: rest) σ top sl :=
  fun ls H locs cells slots h => lv_i2l hx hb hd rfl (k ls H locs cells slots h)
theorem am_w_lcmp (hx : p.tables.exec = Jvm.exec) (hb : c.code = cc) {x y : Int64} (hd : decode cc pc = .ok (.lcmp, 1)) (k : am_W p l e R s m args below meth c Q D cl b0 nL c0 s0 (pc + 1) lv (.int (lg_cmp x y) :: rest) σ top sl) : am_W p l e R s m args below meth c Q D cl b0 nL c0 s0 pc lv (.long y :: .long x :: rest) σ top sl :=
  fun ls H locs cells slots h => W.lcmp hx hb hd (k ls H locs cells slots h)
theorem am_w_dup (hx : p.tables.exec = Jvm.exec) (hb : c.code = cc) {x : Value} (hd : decode cc pc = .ok (.dup, 1)) (hc : x.category = 1) (k : am_W p l e R s m args below meth c Q D cl b0 nL c0 s0 (pc + 1) lv (x :: x :: rest) σ top sl) : am_W p l e R s m args below meth c Q D cl b0 nL c0 s0 pc lv (x :: rest) σ top sl :=
  fun ls H locs cells slots h => lv_dup hx hb hd hc (k ls H locs cells slots h)
theorem am_w_pop (hx : p.tables.exec = Jvm.exec) (hb : c.code = cc) {x : Value} (hd : decode cc pc = .ok (.pop, 1)) (hc : x.category = 1) (k : am_W p l e R s m args below meth c Q D cl b0 nL c0 s0 (pc + 1) lv rest σ top sl) : am_W p l e R s m args below meth c Q D cl b0 nL c0 s0 pc lv (x :: rest) σ top sl :=
  fun ls H locs cells slots h => lv_pop hx hb hd hc (k ls H locs cells slots h)
theorem am_w_dup_x1 (hx : p.tables.exec = Jvm.exec) (hb : c.code = cc) {x y : Value} (hd : decode cc pc = .ok (.dup_x1, 1)) (hc : x.category = 1) (hc2 : y.category = 1) (k : am_W p l e R s m args below meth c Q D cl b0 nL c0 s0 (pc + 1) lv (x :: y :: x :: rest) σ top sl) : am_W p l e R s m args below meth c Q D cl b0 nL c0 s0 pc lv (x :: y :: rest) σ top sl :=
  fun ls H locs cells slots h => lv_dup_x1 hx hb hd hc hc2 (k ls H locs cells slots h)
theorem am_w_dup2 (hx : p.tables.exec = Jvm.exec) (hb : c.code = cc) {x y : Value} (hd : decode cc pc = .ok (.dup2, 1)) (hc : x.category = 1) (hc2 : y.category = 1) (k : am_W p l e R s m args below meth c Q D cl b0 nL c0 s0 (pc + 1) lv (x :: y :: x :: y :: rest) σ top sl) : am_W p l e R s m args below meth c Q D cl b0 nL c0 s0 pc lv (x :: y :: rest) σ top sl :=
  fun ls H locs cells slots h => lv_dup2_11 hx hb hd hc hc2 (k ls H locs cells slots h)
theorem am_w_goto (hx : p.tables.exec = Jvm.exec) (hb : c.code = cc) {off : Int} {u : Nat} (hd : decode cc pc = .ok (.goto off, 3)) (ht : (pc : Int) + off = (u : Int)) (k : am_W p l e R s m args below meth c Q D cl b0 nL c0 s0 u lv st σ top sl) : am_W p l e R s m args below meth c Q D cl b0 nL c0 s0 pc lv st σ top sl :=
  fun ls H locs cells slots h => lv_goto hx hb hd ht (k ls H locs cells slots h)
theorem am_w_if (hx : p.tables.exec = Jvm.exec) (hb : c.code = cc) {cd : ClassFile.Cond} {off : Int} {u : Nat} {x : Int32} (hd : decode cc pc = .ok (.ifCond cd off, 3)) (ht : (pc : Int) + off = (u : Int)) (kt : am_cb cd x 0 = true → am_W p l e R s m args below meth c Q D cl b0 nL c0 s0 u lv rest σ top sl) (kf : ¬ am_cb cd x 0 = true → am_W p l e R s m args below meth c Q D cl b0 nL c0 s0 (pc + 3) lv rest σ top sl) : am_W p l e R s m args below meth c Q D cl b0 nL c0 s0 pc lv (.int x :: rest) σ top sl := by
  intro ls H locs cells slots h
  cases cd with
  | eq => exact lv_if_eq hx hb hd ht (fun q => kt (decide_eq_true q) ls H locs cells slots h) (fun q => kf (fun z => q (of_decide_eq_true z)) ls H locs cells slots h)
  | ne => exact lv_if_ne hx hb hd ht (fun q => kt (decide_eq_true q) ls H locs cells slots h) (fun q => kf (fun z => of_decide_eq_true z q) ls H locs cells slots h)
  | lt => exact lv_if_lt hx hb hd ht (fun q => kt (decide_eq_true q) ls H locs cells slots h) (fun q => kf (fun z => q (of_decide_eq_true z)) ls H locs cells slots h)
  | ge => exact lv_if_ge hx hb hd ht (fun q => kt (decide_eq_true q) ls H locs cells slots h) (fun q => kf (fun z => q (of_decide_eq_true z)) ls H locs cells slots h)
  | gt => exact lv_if_gt hx hb hd ht (fun q => kt (decide_eq_true q) ls H locs cells slots h) (fun q => kf (fun z => q (of_decide_eq_true z)) ls H locs cells slots h)
  | le => exact lv_if_le hx hb hd ht (fun q => kt (decide_eq_true q) ls H locs cells slots h) (fun q => kf (fun z => q (of_decide_eq_true z)) ls H locs cells slots h)
theorem am_w_icmp (hx : p.tables.exec = Jvm.exec) (hb : c.code = cc) {cd : ClassFile.Cond} {off : Int} {u : Nat} {x y : Int32} (hd : decode cc pc = .ok (.if_icmp cd off, 3)) (ht : (pc : Int) + off = (u : Int)) (kt : am_cb cd x y = true → am_W p l e R s m args below meth c Q D cl b0 nL c0 s0 u lv rest σ top sl) (kf : ¬ am_cb cd x y = true → am_W p l e R s m args below meth c Q D cl b0 nL c0 s0 (pc + 3) lv rest σ top sl) : am_W p l e R s m args below meth c Q D cl b0 nL c0 s0 pc lv (.int y :: .int x :: rest) σ top sl := by
  intro ls H locs cells slots h
  cases cd with
  | eq => exact lv_icmp_eq hx hb hd ht (fun q => kt (decide_eq_true q) ls H locs cells slots h) (fun q => kf (fun z => q (of_decide_eq_true z)) ls H locs cells slots h)
  | ne => exact lv_icmp_ne hx hb hd ht (fun q => kt (decide_eq_true q) ls H locs cells slots h) (fun q => kf (fun z => of_decide_eq_true z q) ls H locs cells slots h)
  | lt => exact lv_icmp_lt hx hb hd ht (fun q => kt (decide_eq_true q) ls H locs cells slots h) (fun q => kf (fun z => q (of_decide_eq_true z)) ls H locs cells slots h)
  | ge => exact lv_icmp_ge hx hb hd ht (fun q => kt (decide_eq_true q) ls H locs cells slots h) (fun q => kf (fun z => q (of_decide_eq_true z)) ls H locs cells slots h)
  | gt => exact lv_icmp_gt hx hb hd ht (fun q => kt (decide_eq_true q) ls H locs cells slots h) (fun q => kf (fun z => q (of_decide_eq_true z)) ls H locs cells slots h)
  | le => exact lv_icmp_le hx hb hd ht (fun q => kt (decide_eq_true q) ls H locs cells slots h) (fun q => kf (fun z => q (of_decide_eq_true z)) ls H locs cells slots h)
theorem am_w_acmp_eq (hx : p.tables.exec = Jvm.exec) (hb : c.code = cc) {off : Int} {u : Nat} {x y : Option Nat} (hd : decode cc pc = .ok (.if_acmp .eq off, 3)) (ht : (pc : Int) + off = (u : Int)) (kt : x = y → am_W p l e R s m args below meth c Q D cl b0 nL c0 s0 u lv rest σ top sl) (kf : ¬ x = y → am_W p l e R s m args below meth c Q D cl b0 nL c0 s0 (pc + 3) lv rest σ top sl) : am_W p l e R s m args below meth c Q D cl b0 nL c0 s0 pc lv (va_rf y :: va_rf x :: rest) σ top sl :=
  fun ls H locs cells slots h => lv_acmp_eq hx hb hd ht (fun q => kt q ls H locs cells slots h) (fun q => kf q ls H locs cells slots h)
theorem am_w_acmp_ne (hx : p.tables.exec = Jvm.exec) (hb : c.code = cc) {off : Int} {u : Nat} {x y : Option Nat} (hd : decode cc pc = .ok (.if_acmp .ne off, 3)) (ht : (pc : Int) + off = (u : Int)) (kt : ¬ x = y → am_W p l e R s m args below meth c Q D cl b0 nL c0 s0 u lv rest σ top sl) (kf : x = y → am_W p l e R s m args below meth c Q D cl b0 nL c0 s0 (pc + 3) lv rest σ top sl) : am_W p l e R s m args below meth c Q D cl b0 nL c0 s0 pc lv (va_rf y :: va_rf x :: rest) σ top sl :=
  fun ls H locs cells slots h => lv_acmp_ne hx hb hd ht (fun q => kt q ls H locs cells slots h) (fun q => kf q ls H locs cells slots h)
theorem am_w_ifnull (hx : p.tables.exec = Jvm.exec) (hb : c.code = cc) {off : Int} {u : Nat} {x : Option Nat} (hd : decode cc pc = .ok (.ifnull off, 3)) (ht : (pc : Int) + off = (u : Int)) (kt : x = none → am_W p l e R s m args below meth c Q D cl b0 nL c0 s0 u lv rest σ top sl) (kf : ∀ a, x = some a → am_W p l e R s m args below meth c Q D cl b0 nL c0 s0 (pc + 3) lv rest σ top sl) : am_W p l e R s m args below meth c Q D cl b0 nL c0 s0 pc lv (va_rf x :: rest) σ top sl := by
  intro ls H locs cells slots h
  cases x with
  | none => exact lv_ifnullN hx hb hd ht (kt rfl ls H locs cells slots h)
  | some a => exact lv_ifnull hx hb hd (kf a rfl ls H locs cells slots h)
theorem am_w_ifnonnull (hx : p.tables.exec = Jvm.exec) (hb : c.code = cc) {off : Int} {u : Nat} {x : Option Nat} (hd : decode cc pc = .ok (.ifnonnull off, 3)) (ht : (pc : Int) + off = (u : Int)) (kt : ∀ a, x = some a → am_W p l e R s m args below meth c Q D cl b0 nL c0 s0 u lv rest σ top sl) (kf : x = none → am_W p l e R s m args below meth c Q D cl b0 nL c0 s0 (pc + 3) lv rest σ top sl) : am_W p l e R s m args below meth c Q D cl b0 nL c0 s0 pc lv (va_rf x :: rest) σ top sl := by
  intro ls H locs cells slots h
  cases x with
  | none => exact lv_ifnonnullN hx hb hd (kf rfl ls H locs cells slots h)
  | some a => exact lv_ifnonnull hx hb hd ht (kt a rfl ls H locs cells slots h)
theorem am_w_tsw (hx : p.tables.exec = Jvm.exec) (hb : c.code = cc) {dflt lo hi : Int} {offs : Array Int} {len : Nat} {x : Int32} (hd : decode cc pc = .ok (.tableswitch dflt lo hi offs, len)) (h0 : x.toInt < lo ∨ hi < x.toInt) (ht : 0 ≤ (pc : Int) + dflt) (k : am_W p l e R s m args below meth c Q D cl b0 nL c0 s0 (((pc : Int) + dflt).toNat) lv rest σ top sl) : am_W p l e R s m args below meth c Q D cl b0 nL c0 s0 pc lv (.int x :: rest) σ top sl :=
  fun ls H locs cells slots h => lv_tableOut hx hb hd h0 (Int.toNat_of_nonneg ht).symm (k ls H locs cells slots h)
theorem am_w_tsw2 (hx : p.tables.exec = Jvm.exec) (hb : c.code = cc) {dflt lo hi off : Int} {offs : Array Int} {len : Nat} {x : Int32} (hd : decode cc pc = .ok (.tableswitch dflt lo hi offs, len)) (h0 : ¬ (x.toInt < lo ∨ hi < x.toInt)) (ho : offs[(x.toInt - lo).toNat]? = some off) (ht : 0 ≤ (pc : Int) + off) (k : am_W p l e R s m args below meth c Q D cl b0 nL c0 s0 (((pc : Int) + off).toNat) lv rest σ top sl) : am_W p l e R s m args below meth c Q D cl b0 nL c0 s0 pc lv (.int x :: rest) σ top sl :=
  fun ls H locs cells slots h => lv_tableIn hx hb hd (fun q => h0 (Or.inl q)) (fun q => h0 (Or.inr q)) ho (Int.toNat_of_nonneg ht).symm (k ls H locs cells slots h)
theorem am_w_lsw (hx : p.tables.exec = Jvm.exec) (hb : c.code = cc) {dflt : Int} {ps : Array (Int × Int)} {len : Nat} {x : Int32} (hd : decode cc pc = .ok (.lookupswitch dflt ps, len)) (hp : (ps.toList.zip (ps.toList.drop 1)).all (fun (a, next) => a.1 < next.1) = true) (ht : 0 ≤ (pc : Int) + Op.lookupswitch.offset ps.toList dflt x.toInt) (k : am_W p l e R s m args below meth c Q D cl b0 nL c0 s0 (((pc : Int) + Op.lookupswitch.offset ps.toList dflt x.toInt).toNat) lv rest σ top sl) : am_W p l e R s m args below meth c Q D cl b0 nL c0 s0 pc lv (.int x :: rest) σ top sl :=
  fun ls H locs cells slots h => lv_lookup hx hb hd hp rfl (Int.toNat_of_nonneg ht).symm (k ls H locs cells slots h)
theorem am_w_ldc (hx : p.tables.exec = Jvm.exec) (hb : c.code = cc) {own tx : String} {index q : Nat} (hown : s.vm.findClass own = some m.cls) (hZ : vk_R own index tx q s) (hd : decode cc pc = .ok (.ldc index, 2)) (k : am_W p l e R s m args below meth c Q D cl b0 nL c0 s0 (pc + 2) lv (.ref q :: st) σ top sl) : am_W p l e R s m args below meth c Q D cl b0 nL c0 s0 pc lv st σ top sl :=
  fun ls H locs cells slots h => va_ldcS hx hb hown hZ hd (k ls H locs cells slots h)
theorem am_w_gets (hx : p.tables.exec = Jvm.exec) (hb : c.code = cc) {C n d own : String} {index : Nat} {v : Value} (hown : s.vm.findClass own = some m.cls) (hZ : va_Z C n d v (fun q => b0 ≤ q) s s.heap) (hl : (Cond.fieldLink own index C n d).before args s = true) (hd : decode cc pc = .ok (.getstatic index, 3)) (k : am_W p l e R s m args below meth c Q D cl b0 nL c0 s0 (pc + 3) lv (v :: st) σ top sl) : am_W p l e R s m args below meth c Q D cl b0 nL c0 s0 pc lv st σ top sl :=
  fun ls H locs cells slots h => va_gets hx hb hZ h.2.2.1 hown hl (fun _ q => q) hd (k ls H locs cells slots h)
theorem am_w_getf (hx : p.tables.exec = Jvm.exec) (hb : c.code = cc) {own C : String} {T : u_T} {N u index : Nat} (hown : s.vm.findClass own = some m.cls) (hts : ∀ w ∈ u_ws C T N, w.before args s = true) (hc : cl[u]? = some (C, T, N)) (hdecl : ∀ k, k < N → (T k).1 = C) {v : Nat} (hv : v < N)
    (hl : (Cond.fieldLink own index C (T v).2.1 (T v).2.2.1).before args s = true ∨ ∃ host, (Cond.fieldLinkNest own index C (T v).2.1 (T v).2.2.1 host).before args s = true) (hd : decode cc pc = .ok (.getfield index, 3)) {a : Nat} {fs : List Value} {w : Value} (ha : σ a = some (.inr (.inl (u, fs)))) (hw : fs[v]? = some w)
    (k : am_W p l e R s m args below meth c Q D cl b0 nL c0 s0 (pc + 3) lv (w :: rest) σ top sl) : am_W p l e R s m args below meth c Q D cl b0 nL c0 s0 pc lv (.ref a :: rest) σ top sl := by
  intro ls H locs cells slots h
  obtain ⟨hsz, hbt, tys, hK, hcl⟩ := h.2.1
  obtain ⟨-, -, r, hr, -, hob⟩ := hcl a _ ha
  have hP : va_P D cl [(a, .inr (u, fs))] H := am_P1 ⟨r, hr, hob⟩
  rcases hl with hl | ⟨host, hl⟩
  · exact va_get hx hb hts (fun _ z => z) hown hK hP 0 rfl hc v hv hl (fun x q => by rw [hdecl v hv] at q; exact q) hw hd (k ls H locs cells slots h)
  · exact va_getN hx hb hts (fun _ z => z) hown hK hP 0 rfl hc v hv hl (fun x q => by rw [hdecl v hv] at q; exact q) hw hd (k ls H locs cells slots h)
theorem am_w_putf (hx : p.tables.exec = Jvm.exec) (hb : c.code = cc) {own C : String} {T : u_T} {N u index : Nat} (hown : s.vm.findClass own = some m.cls) (hts : ∀ w ∈ u_ws C T N, w.before args s = true) (hc : cl[u]? = some (C, T, N)) (hdecl : ∀ k, k < N → (T k).1 = C) (ty : Nat → FieldType) (hty : ∀ k, k < N → parseFieldDescriptor (T k).2.2.1 = some (ty k)) (hnm : ∀ a, a < N → ∀ b, b < N → a ≠ b → (T a).2.1 ≠ (T b).2.1) {v : Nat} (hv : v < N)
    (hl : (Cond.fieldLink own index C (T v).2.1 (T v).2.2.1).before args s = true ∧ ((T v).2.2.2 = false ∨ ((T v).2.2.2 = true ∧ meth.name = "<init>" ∧ own = C)) ∨ (T v).2.2.2 = false ∧ ∃ host, (Cond.fieldLinkNest own index C (T v).2.1 (T v).2.2.1 host).before args s = true) (hd : decode cc pc = .ok (.putfield index, 3)) {a : Nat} {fs : List Value} {w : Value} (ha : σ a = some (.inr (.inl (u, fs)))) (hw : am_fv (ty v) w = true)
    (k : am_W p l e R s m args below meth c Q D cl b0 nL c0 s0 (pc + 3) lv rest (am_up σ a (.inr (.inl (u, fs.set v w)))) top sl) : am_W p l e R s m args below meth c Q D cl b0 nL c0 s0 pc lv (w :: .ref a :: rest) σ top sl := by
  intro ls H locs cells slots h
  obtain ⟨hsz, hbt, tys, hK, hcl⟩ := h.2.1
  obtain ⟨hlt, hb0, r, hr, hfl, cell, q1, q2, q3, q4⟩ := hcl a _ ha
  have hap := va_apart (own := own) hts (fun _ z => z) ty hty hnm hK hc
  have hr2 : r = (C, T, N) := Option.some.inj (hr.symm.trans hc)
  subst hr2
  obtain ⟨hSl, hfc, kC, hkC, hkind⟩ := hK.1 u _ hc
  obtain ⟨cf, kf, fi, f, hi, hsl⟩ := hSl v hv
  have hi2 : s.fieldFound? C (T v).2.1 (T v).2.2.1 = some (cf, kf, fi, f) := by rw [hdecl v hv] at hi; exact hi
  have hst := (u_facts hfc hkC (u_lays hts (fun _ z => z) hv) hi).1
  have hok := am_fv_ok hw
  have hfin : ∀ (H' : Heap), H'[a]? = some (cell.setSlot f.slot w) → H'.size = H.size → (∀ q, q ≠ a → H'[q]? = H[q]?) → W p l e R s m args below meth c H' (locs ++ [⟨a, f.slot⟩]) cells slots Q (F0 m (pc + 3) ls rest) := by
    intro H' e1 e2 e3
    refine k ls H' _ cells slots ⟨h.1, am_dy_upd hsz hbt hK hcl e2 e3 hlt hb0 ⟨hb0, (C, T, N), hc, by rw [List.length_set]; exact hfl, ?_⟩, am_S_put h.2.2.1 e2 e3 hb0, h.2.2.2⟩
    rw [hsl] at e1
    exact t_OB.to (V := updV (vp_V fs) v w) ⟨_, e1, q2, q3, t_set q4 hap hv w⟩ (fun j _ => vp_updV_set (by rw [hfl]; exact hv) w j)
  rcases hl with ⟨hl, hf | ⟨hf, hm, ho⟩⟩ | ⟨hf, host, hl⟩
  · have hlay := hts _ (u_in_lay hv)
    unfold u_lay at hlay
    rw [if_neg (by rw [hf]; decide)] at hlay
    have h6 := u_store hfc hkC hkind hlay hi (hty v hv) hok.1 hok.2
    exact W.putK hx hb (f := f) ⟨hown, hl, ⟨_, _, _, hi2⟩, hst⟩ (by rw [q2]; exact h6) q1 q3 (by rw [hsl]; exact k2_hasslot (q4 v hv)) rfl rfl hd hfin
  · have hlay := hts _ (u_in_lay hv)
    unfold u_lay at hlay
    rw [if_pos hf] at hlay
    have hcf : m.cls = cf := by
      obtain ⟨_, _, c', _, _, _, -, -, hf', -, -, -, hown2, -⟩ := Cond.laysFinal_spec hlay
      have e1 : c' = cf := by have := hi.symm.trans hf'; simp at this; exact this.1.symm
      rw [hdecl v hv, ← ho] at hown2
      rw [← e1]; exact Option.some.inj (hown.symm.trans hown2)
    have h6 := u_fits hfc hkC hkind (Or.inr hlay) hi (hty v hv) hok.1 hok.2
    exact W.putFinK hx hb hown hl hi2 hst hcf hm (by rw [q2]; exact h6) q1 q3 (by rw [hsl]; exact k2_hasslot (q4 v hv)) rfl rfl hd hfin
  · have hlay := hts _ (u_in_lay hv)
    unfold u_lay at hlay
    rw [if_neg (by rw [hf]; decide)] at hlay
    have h6 := u_store hfc hkC hkind hlay hi (hty v hv) hok.1 hok.2
    exact va_WputK hx hb (f := f) hown hl hi2 hst (by rw [q2]; exact h6) q1 q3 (by rw [hsl]; exact k2_hasslot (q4 v hv)) rfl rfl hd hfin
end AMS
end
section
theorem am_set_i (cA : ClassId) (n : Nat) (f : Nat → Int32) (k : Nat) (x : Int32) : (vp_cell cA (n, .inl f)).setSlot k (.int x) = vp_cell cA (n, .inl (upd f k x)) := by
  rw [vp_cell_i, vp_cell_i, arrV_store]
  congr 1
  funext q
  by_cases hq : q = k
  · subst hq
    simp [updV, upd]
  · simp [updV, upd, hq]
theorem am_set_l (cA : ClassId) (n : Nat) (f : Nat → Int64) (k : Nat) (x : Int64) : (vp_cell cA (n, .inr (.inl f))).setSlot k (.long x) = vp_cell cA (n, .inr (.inl (vp_updL f k x))) := by
  rw [vp_cell_l, vp_cell_l, arrV_store]
  congr 1
  funext q
  by_cases hq : q = k
  · subst hq
    simp [updV, vp_updL]
  · simp [updV, vp_updL, hq]
theorem am_set_q (cA : ClassId) (n : Nat) (f : Nat → Option Nat) (k : Nat) (x : Option Nat) : (vp_cell cA (n, .inr (.inr (.inr (.inr f))))).setSlot k (va_rf x) = vp_cell cA (n, .inr (.inr (.inr (.inr (va_up f k x))))) := by
  rw [vp_cell_q, vp_cell_q, arrV_store]
  congr 1
  funext q
  by_cases hq : q = k
  · subst hq
    simp [updV, va_up]
  · simp [updV, va_up, hq]
theorem am_fitU {ty : FieldType} {n : Nat} {f : Nat → Int32} {k : Nat} {x : Int32} (h : am_fitA ty (n, .inl f)) (hx : fits ty (.int x) = true) : am_fitA ty (n, .inl (upd f k x)) := by
  intro j
  show fits ty (.int (if j = k then x else f j)) = true
  by_cases hj : j = k
  · rw [if_pos hj]; exact hx
  · rw [if_neg hj]; exact h j
theorem am_narC (x : Int32) : fits .char (.int (vp_nar .char x)) = true := by
  have e : vp_nar .char x = nI (x.toBitVec.toNat % 65536) := by
    rw [vp_nar_char]
    apply Int32.toBitVec_inj.mp
    apply BitVec.eq_of_toNat_eq
    rw [pk_tn (by omega)]
    show x.toUInt32.toUInt16.toUInt32.toNat = _
    rw [UInt16.toNat_toUInt32, UInt32.toNat_toUInt16]
    rfl
  rw [e]
  exact (pk_charN (Nat.mod_lt _ (by decide))).2
theorem am_narZ (x : Int32) : fits .boolean (.int (vp_nar .boolean x)) = true := by
  have e : vp_nar .boolean x = x &&& 1 := rfl
  have h : x &&& 1 = nI (x.toBitVec.toNat % 2 ^ 1) := pk_and x 1 (by decide)
  have h2 : x.toBitVec.toNat % 2 ^ 1 < 2 := Nat.mod_lt _ (by decide)
  rw [e, h]
  generalize x.toBitVec.toNat % 2 ^ 1 = j at h2
  rcases (show j = 0 ∨ j = 1 by omega) with rfl | rfl <;> decide
theorem am_kapp {D : va_G} {cl : List vw_C} {tys : List (ClassId × FieldType)} {U : State} {cA : ClassId} {ty : FieldType} (hK : va_K D cl tys U) (h1 : ArrOfT U cA ty) (h2 : va_RA U cA ty) : va_K D cl (tys ++ [(cA, ty)]) U := by
  refine ⟨hK.1, fun k x hx => ?_⟩
  by_cases hl : k < tys.length
  · rw [List.getElem?_append_left hl] at hx
    exact hK.2 k x hx
  · rw [List.getElem?_append_right (by omega)] at hx
    have hz : k - tys.length < 1 := (List.getElem?_eq_some_iff.mp hx).1
    rw [show k - tys.length = 0 by omega] at hx
    cases hx
    exact ⟨h1, h2⟩
section AMA
variable {p : Program} {l : Launch} {e : Env} {R : Room} {s : State} {m : MethodId} {args : Array Value} {below : List Frame} {meth : Method} {c : Code} {Q : State → Prop}
variable {cc : ByteArray} {D : va_G} {cl : List vw_C} {b0 nL c0 s0 : Nat} {pc top sl : Nat} {lv : am_V} {st rest : List Value} {σ : am_H}
theorem am_w_alen (hx : p.tables.exec = Jvm.exec) (hb : c.code = cc) (hd : decode cc pc = .ok (.arraylength, 1)) {a : Nat} {ty : FieldType} {ar : vp_A} (ha : σ a = some (.inl (ty, ar))) (k : am_W p l e R s m args below meth c Q D cl b0 nL c0 s0 (pc + 1) lv (.int (Int32.ofNat ar.1) :: rest) σ top sl) : am_W p l e R s m args below meth c Q D cl b0 nL c0 s0 pc lv (.ref a :: rest) σ top sl := by
  intro ls H locs cells slots h
  obtain ⟨hsz, hbt, tys, hK, hcl⟩ := h.2.1
  obtain ⟨hlt, hb0, hft, cA, hin, hH⟩ := hcl a _ ha
  obtain ⟨t0, ht0⟩ := List.getElem?_of_mem hin
  have hP : va_P D cl [(a, .inl (cA, ar))] H := am_P1 hH
  exact va_alen hx hb hK hP 0 t0 rfl ht0 rfl hd (k ls H locs cells slots h)
theorem am_w_slen (hx : p.tables.exec = Jvm.exec) (hb : c.code = cc) (hd : decode cc pc = .ok (.arraylength, 1)) {a n : Nat} {f : Nat → Int32} (ha : σ a = some (.inr (.inr (0, n, f)))) (k : am_W p l e R s m args below meth c Q D cl b0 nL c0 s0 (pc + 1) lv (.int (Int32.ofNat n) :: rest) σ top sl) : am_W p l e R s m args below meth c Q D cl b0 nL c0 s0 pc lv (.ref a :: rest) σ top sl := by
  intro ls H locs cells slots h
  obtain ⟨hsz, hbt, tys, hK, hcl⟩ := h.2.1
  obtain ⟨hlt, hb0, hX⟩ := hcl a _ ha
  exact va_slen (A := fun q => b0 ≤ q) (H0 := H) hx hb hX (by rw [hsz]; exact hlt) (Nat.not_le.mpr hb0) ⟨Nat.le_refl _, fun _ _ _ => rfl, h.2.2.1.2.2⟩ hd (k ls H locs cells slots h)
theorem am_w_sald (hx : p.tables.exec = Jvm.exec) (hb : c.code = cc) (hd : decode cc pc = .ok (.iaload, 1)) {a n : Nat} {f : Nat → Int32} {i : Int32} (ha : σ a = some (.inr (.inr (0, n, f)))) (hi : ¬ (i < 0 ∨ n ≤ i.toNatClampNeg)) (k : am_W p l e R s m args below meth c Q D cl b0 nL c0 s0 (pc + 1) lv (.int (f i.toNatClampNeg) :: rest) σ top sl) : am_W p l e R s m args below meth c Q D cl b0 nL c0 s0 pc lv (.int i :: .ref a :: rest) σ top sl := by
  intro ls H locs cells slots h
  obtain ⟨hsz, hbt, tys, hK, hcl⟩ := h.2.1
  obtain ⟨hlt, hb0, hX⟩ := hcl a _ ha
  exact va_sld (A := fun q => b0 ≤ q) (H0 := H) hx hb hX (by rw [hsz]; exact hlt) (Nat.not_le.mpr hb0) ⟨Nat.le_refl _, fun _ _ _ => rfl, h.2.2.1.2.2⟩ hi hd (k ls H locs cells slots h)
theorem am_w_iald (hx : p.tables.exec = Jvm.exec) (hb : c.code = cc) (hd : decode cc pc = .ok (.iaload, 1)) {a n : Nat} {f : Nat → Int32} {i : Int32} (ha : σ a = some (.inl (.int, n, .inl f))) (hi : ¬ (i < 0 ∨ n ≤ i.toNatClampNeg)) (k : am_W p l e R s m args below meth c Q D cl b0 nL c0 s0 (pc + 1) lv (.int (f i.toNatClampNeg) :: rest) σ top sl) : am_W p l e R s m args below meth c Q D cl b0 nL c0 s0 pc lv (.int i :: .ref a :: rest) σ top sl := by
  intro ls H locs cells slots h
  obtain ⟨hsz, hbt, tys, hK, hcl⟩ := h.2.1
  obtain ⟨hlt, hb0, hft, cA, hin, hH⟩ := hcl a _ ha
  obtain ⟨t0, ht0⟩ := List.getElem?_of_mem hin
  have hP : va_P D cl [(a, .inl (cA, n, .inl f))] H := am_P1 hH
  exact va_iald hx hb hK hP 0 t0 rfl ht0 hi hd (k ls H locs cells slots h)
theorem am_w_cald (hx : p.tables.exec = Jvm.exec) (hb : c.code = cc) (hd : decode cc pc = .ok (.caload, 1)) {a n : Nat} {f : Nat → Int32} {i : Int32} (ha : σ a = some (.inl (.char, n, .inl f))) (hi : ¬ (i < 0 ∨ n ≤ i.toNatClampNeg)) (k : am_W p l e R s m args below meth c Q D cl b0 nL c0 s0 (pc + 1) lv (.int (f i.toNatClampNeg) :: rest) σ top sl) : am_W p l e R s m args below meth c Q D cl b0 nL c0 s0 pc lv (.int i :: .ref a :: rest) σ top sl := by
  intro ls H locs cells slots h
  obtain ⟨hsz, hbt, tys, hK, hcl⟩ := h.2.1
  obtain ⟨hlt, hb0, hft, cA, hin, hH⟩ := hcl a _ ha
  obtain ⟨t0, ht0⟩ := List.getElem?_of_mem hin
  have hP : va_P D cl [(a, .inl (cA, n, .inl f))] H := am_P1 hH
  exact va_cald hx hb hK hP 0 t0 rfl ht0 hi hd (k ls H locs cells slots h)
theorem am_w_zald (hx : p.tables.exec = Jvm.exec) (hb : c.code = cc) (hd : decode cc pc = .ok (.baload, 1)) {a n : Nat} {f : Nat → Int32} {i : Int32} (ha : σ a = some (.inl (.boolean, n, .inl f))) (hi : ¬ (i < 0 ∨ n ≤ i.toNatClampNeg)) (k : am_W p l e R s m args below meth c Q D cl b0 nL c0 s0 (pc + 1) lv (.int (f i.toNatClampNeg) :: rest) σ top sl) : am_W p l e R s m args below meth c Q D cl b0 nL c0 s0 pc lv (.int i :: .ref a :: rest) σ top sl := by
  intro ls H locs cells slots h
  obtain ⟨hsz, hbt, tys, hK, hcl⟩ := h.2.1
  obtain ⟨hlt, hb0, hft, cA, hin, hH⟩ := hcl a _ ha
  obtain ⟨t0, ht0⟩ := List.getElem?_of_mem hin
  have hP : va_P D cl [(a, .inl (cA, n, .inl f))] H := am_P1 hH
  exact va_zald hx hb hK hP 0 t0 rfl ht0 hi hd (k ls H locs cells slots h)
theorem am_w_getS (hx : p.tables.exec = Jvm.exec) (hb : c.code = cc) {own : String} {index : Nat} (hd : decode cc pc = .ok (.getfield index, 3)) (hown : s.vm.findClass own = some m.cls) {n d : String} {w : Value} {a av : Nat} {f : Nat → Int32} (hl : (Cond.fieldLink own index "java/lang/String" n d).before args s = true) (ha : σ a = some (.inr (.inr (1, av, f))))
    (hw : (n = "value" ∧ d = "[B" ∧ w = .ref av) ∨ (n = "coder" ∧ d = "B" ∧ w = .int 0)) (k : am_W p l e R s m args below meth c Q D cl b0 nL c0 s0 (pc + 3) lv (w :: rest) σ top sl) : am_W p l e R s m args below meth c Q D cl b0 nL c0 s0 pc lv (.ref a :: rest) σ top sl := by
  intro ls H locs cells slots h
  obtain ⟨hsz, hbt, tys, hK, hcl⟩ := h.2.1
  obtain ⟨hlt, hb0, h1, h2, h3⟩ := hcl a _ ha
  rcases hw with ⟨rfl, rfl, rfl⟩ | ⟨rfl, rfl, rfl⟩
  · obtain ⟨cf, kk, i, f1, cell, g1, g2, g3, g4, g5, -⟩ := h3
    exact W.getf hx hb hown hl g1 g2 g3 g4 g5 rfl rfl hd (k ls H locs cells slots h)
  · obtain ⟨cf, kk, i, f1, cell, g1, g2, g3, g4, g5, -⟩ := h2
    exact W.getf hx hb hown hl g1 g2 g3 g4 g5 rfl rfl hd (k ls H locs cells slots h)
theorem am_w_tlen (hx : p.tables.exec = Jvm.exec) (hb : c.code = cc) (hd : decode cc pc = .ok (.arraylength, 1)) {a n : Nat} {f : Nat → Int32} (ha : σ a = some (.inr (.inr (2, n, f)))) (k : am_W p l e R s m args below meth c Q D cl b0 nL c0 s0 (pc + 1) lv (.int (Int32.ofNat n) :: rest) σ top sl) : am_W p l e R s m args below meth c Q D cl b0 nL c0 s0 pc lv (.ref a :: rest) σ top sl := by
  intro ls H locs cells slots h
  obtain ⟨hsz, hbt, tys, hK, hcl⟩ := h.2.1
  obtain ⟨hlt, hb0, cell, g1, g2, g3, g4, g5, g6, -⟩ := hcl a _ ha
  exact W.alen hx hb g1 g2 g5 rfl rfl hd (k ls H locs cells slots h)
theorem am_w_tb (hx : p.tables.exec = Jvm.exec) (hb : c.code = cc) (hd : decode cc pc = .ok (.baload, 1)) {a n : Nat} {f : Nat → Int32} {i : Int32} (ha : σ a = some (.inr (.inr (2, n, f)))) (hi : ¬ (i < 0 ∨ n ≤ i.toNatClampNeg)) (k : am_W p l e R s m args below meth c Q D cl b0 nL c0 s0 (pc + 1) lv (.int (f i.toNatClampNeg) :: rest) σ top sl) : am_W p l e R s m args below meth c Q D cl b0 nL c0 s0 pc lv (.int i :: .ref a :: rest) σ top sl := by
  intro ls H locs cells slots h
  obtain ⟨hsz, hbt, tys, hK, hcl⟩ := h.2.1
  obtain ⟨hlt, hb0, cell, g1, g2, g3, g4, g5, g6, -⟩ := hcl a _ ha
  exact W.bald hx hb g1 g2 g3 (fun z => hi (z.imp id (fun y => Nat.le_trans g4 y))) (g6 _ (Nat.not_le.mp fun z => hi (Or.inr z))) rfl rfl hd (k ls H locs cells slots h)
theorem am_w_lald (hx : p.tables.exec = Jvm.exec) (hb : c.code = cc) (hd : decode cc pc = .ok (.laload, 1)) {a n : Nat} {f : Nat → Int64} {i : Int32} (ha : σ a = some (.inl (.long, n, .inr (.inl f)))) (hi : ¬ (i < 0 ∨ n ≤ i.toNatClampNeg)) (k : am_W p l e R s m args below meth c Q D cl b0 nL c0 s0 (pc + 1) lv (.long (f i.toNatClampNeg) :: rest) σ top sl) : am_W p l e R s m args below meth c Q D cl b0 nL c0 s0 pc lv (.int i :: .ref a :: rest) σ top sl := by
  intro ls H locs cells slots h
  obtain ⟨hsz, hbt, tys, hK, hcl⟩ := h.2.1
  obtain ⟨hlt, hb0, hft, cA, hin, hH⟩ := hcl a _ ha
  obtain ⟨t0, ht0⟩ := List.getElem?_of_mem hin
  have hP : va_P D cl [(a, .inl (cA, n, .inr (.inl f)))] H := am_P1 hH
  exact va_lald hx hb hK hP 0 t0 rfl ht0 hi hd (k ls H locs cells slots h)
theorem am_w_aald (hx : p.tables.exec = Jvm.exec) (hb : c.code = cc) (hd : decode cc pc = .ok (.aaload, 1)) {a n : Nat} {C : String} {f : Nat → Option Nat} {i : Int32} (ha : σ a = some (.inl (.object C, n, .inr (.inr (.inr (.inr f)))))) (hi : ¬ (i < 0 ∨ n ≤ i.toNatClampNeg)) (k : am_W p l e R s m args below meth c Q D cl b0 nL c0 s0 (pc + 1) lv (va_rf (f i.toNatClampNeg) :: rest) σ top sl) : am_W p l e R s m args below meth c Q D cl b0 nL c0 s0 pc lv (.int i :: .ref a :: rest) σ top sl := by
  intro ls H locs cells slots h
  obtain ⟨hsz, hbt, tys, hK, hcl⟩ := h.2.1
  obtain ⟨hlt, hb0, hft, cA, hin, hH⟩ := hcl a _ ha
  obtain ⟨t0, ht0⟩ := List.getElem?_of_mem hin
  have hP : va_P D cl [(a, .inl (cA, n, .inr (.inr (.inr (.inr f)))))] H := am_P1 hH
  exact va_aldq hx hb hK hP 0 t0 rfl ht0 hi hd (k ls H locs cells slots h)
theorem am_w_iast (hx : p.tables.exec = Jvm.exec) (hb : c.code = cc) (hd : decode cc pc = .ok (.iastore, 1)) {a n : Nat} {f : Nat → Int32} {i x : Int32} (ha : σ a = some (.inl (.int, n, .inl f))) (hi : ¬ (i < 0 ∨ n ≤ i.toNatClampNeg)) (k : am_W p l e R s m args below meth c Q D cl b0 nL c0 s0 (pc + 1) lv rest (am_up σ a (.inl (.int, n, .inl (upd f i.toNatClampNeg x)))) top sl) : am_W p l e R s m args below meth c Q D cl b0 nL c0 s0 pc lv (.int x :: .int i :: .ref a :: rest) σ top sl := by
  intro ls H locs cells slots h
  obtain ⟨hsz, hbt, tys, hK, hcl⟩ := h.2.1
  obtain ⟨hlt, hb0, hft, cA, hin, hH⟩ := hcl a _ ha
  obtain ⟨t0, ht0⟩ := List.getElem?_of_mem hin
  refine W.iast hx hb hH ((hK.2 t0 _ ht0).1 n (fun j => .int (f j))) (fun q => by cases q) (by show ¬ (i < 0 ∨ (arrV _ _ _).slots.size ≤ _); rw [arrV_size]; exact hi) rfl rfl hd fun H1 e1 z oq => ?_
  exact k ls H1 _ cells slots ⟨h.1, am_dy_upd hsz hbt hK hcl z oq hlt hb0 ⟨hb0, am_fitU hft rfl, cA, hin, e1.trans (congrArg some (am_set_i cA n f i.toNatClampNeg x))⟩, am_S_put h.2.2.1 z oq hb0, h.2.2.2⟩
theorem am_w_cast (hx : p.tables.exec = Jvm.exec) (hb : c.code = cc) (hd : decode cc pc = .ok (.castore, 1)) {a n : Nat} {f : Nat → Int32} {i x : Int32} (ha : σ a = some (.inl (.char, n, .inl f))) (hi : ¬ (i < 0 ∨ n ≤ i.toNatClampNeg)) (k : am_W p l e R s m args below meth c Q D cl b0 nL c0 s0 (pc + 1) lv rest (am_up σ a (.inl (.char, n, .inl (upd f i.toNatClampNeg (vp_nar .char x))))) top sl) : am_W p l e R s m args below meth c Q D cl b0 nL c0 s0 pc lv (.int x :: .int i :: .ref a :: rest) σ top sl := by
  intro ls H locs cells slots h
  obtain ⟨hsz, hbt, tys, hK, hcl⟩ := h.2.1
  obtain ⟨hlt, hb0, hft, cA, hin, hH⟩ := hcl a _ ha
  obtain ⟨t0, ht0⟩ := List.getElem?_of_mem hin
  refine W.cast hx hb hH ((hK.2 t0 _ ht0).1 n (fun j => .int (f j))) (fun q => by cases q) (by show ¬ (i < 0 ∨ (arrV _ _ _).slots.size ≤ _); rw [arrV_size]; exact hi) rfl rfl hd fun H1 e1 z oq => ?_
  exact k ls H1 _ cells slots ⟨h.1, am_dy_upd hsz hbt hK hcl z oq hlt hb0 ⟨hb0, am_fitU hft (am_narC x), cA, hin, e1.trans (congrArg some (am_set_i cA n f i.toNatClampNeg (vp_nar .char x)))⟩, am_S_put h.2.2.1 z oq hb0, h.2.2.2⟩
theorem am_w_zast (hx : p.tables.exec = Jvm.exec) (hb : c.code = cc) (hd : decode cc pc = .ok (.bastore, 1)) {a n : Nat} {f : Nat → Int32} {i x : Int32} (ha : σ a = some (.inl (.boolean, n, .inl f))) (hi : ¬ (i < 0 ∨ n ≤ i.toNatClampNeg)) (k : am_W p l e R s m args below meth c Q D cl b0 nL c0 s0 (pc + 1) lv rest (am_up σ a (.inl (.boolean, n, .inl (upd f i.toNatClampNeg (vp_nar .boolean x))))) top sl) : am_W p l e R s m args below meth c Q D cl b0 nL c0 s0 pc lv (.int x :: .int i :: .ref a :: rest) σ top sl := by
  intro ls H locs cells slots h
  obtain ⟨hsz, hbt, tys, hK, hcl⟩ := h.2.1
  obtain ⟨hlt, hb0, hft, cA, hin, hH⟩ := hcl a _ ha
  obtain ⟨t0, ht0⟩ := List.getElem?_of_mem hin
  refine W.zast hx hb hH ((hK.2 t0 _ ht0).1 n (fun j => .int (f j))) (fun q => by cases q) (by show ¬ (i < 0 ∨ (arrV _ _ _).slots.size ≤ _); rw [arrV_size]; exact hi) rfl rfl hd fun H1 e1 z oq => ?_
  exact k ls H1 _ cells slots ⟨h.1, am_dy_upd hsz hbt hK hcl z oq hlt hb0 ⟨hb0, am_fitU hft (am_narZ x), cA, hin, e1.trans (congrArg some (am_set_i cA n f i.toNatClampNeg (vp_nar .boolean x)))⟩, am_S_put h.2.2.1 z oq hb0, h.2.2.2⟩
theorem am_w_last (hx : p.tables.exec = Jvm.exec) (hb : c.code = cc) (hd : decode cc pc = .ok (.lastore, 1)) {a n : Nat} {f : Nat → Int64} {i : Int32} {x : Int64} (ha : σ a = some (.inl (.long, n, .inr (.inl f)))) (hi : ¬ (i < 0 ∨ n ≤ i.toNatClampNeg)) (k : am_W p l e R s m args below meth c Q D cl b0 nL c0 s0 (pc + 1) lv rest (am_up σ a (.inl (.long, n, .inr (.inl (vp_updL f i.toNatClampNeg x))))) top sl) : am_W p l e R s m args below meth c Q D cl b0 nL c0 s0 pc lv (.long x :: .int i :: .ref a :: rest) σ top sl := by
  intro ls H locs cells slots h
  obtain ⟨hsz, hbt, tys, hK, hcl⟩ := h.2.1
  obtain ⟨hlt, hb0, hft, cA, hin, hH⟩ := hcl a _ ha
  obtain ⟨t0, ht0⟩ := List.getElem?_of_mem hin
  refine W.last hx hb hH ((hK.2 t0 _ ht0).1 n (fun j => .long (f j))) (fun q => by cases q) (by show ¬ (i < 0 ∨ (arrV _ _ _).slots.size ≤ _); rw [arrV_size]; exact hi) rfl rfl hd fun H1 e1 z oq => ?_
  exact k ls H1 _ cells slots ⟨h.1, am_dy_upd hsz hbt hK hcl z oq hlt hb0 ⟨hb0, trivial, cA, hin, e1.trans (congrArg some (am_set_l cA n f i.toNatClampNeg x))⟩, am_S_put h.2.2.1 z oq hb0, h.2.2.2⟩
theorem am_w_aastN (hx : p.tables.exec = Jvm.exec) (hb : c.code = cc) (hd : decode cc pc = .ok (.aastore, 1)) {a n : Nat} {C : String} {f : Nat → Option Nat} {i : Int32} (ha : σ a = some (.inl (.object C, n, .inr (.inr (.inr (.inr f)))))) (hi : ¬ (i < 0 ∨ n ≤ i.toNatClampNeg)) (k : am_W p l e R s m args below meth c Q D cl b0 nL c0 s0 (pc + 1) lv rest (am_up σ a (.inl (.object C, n, .inr (.inr (.inr (.inr (va_up f i.toNatClampNeg none))))))) top sl) : am_W p l e R s m args below meth c Q D cl b0 nL c0 s0 pc lv (.null :: .int i :: .ref a :: rest) σ top sl := by
  intro ls H locs cells slots h
  obtain ⟨hsz, hbt, tys, hK, hcl⟩ := h.2.1
  obtain ⟨hlt, hb0, hft, cA, hin, hH⟩ := hcl a _ ha
  obtain ⟨t0, ht0⟩ := List.getElem?_of_mem hin
  refine va_WaastN hx hb hH ((hK.2 t0 _ ht0).1 n (fun j => va_rf (f j))) (fun q => by cases q) (by show ¬ (i < 0 ∨ (arrV _ _ _).slots.size ≤ _); rw [arrV_size]; exact hi) rfl rfl hd fun H1 e1 z oq => ?_
  exact k ls H1 _ cells slots ⟨h.1, am_dy_upd hsz hbt hK hcl z oq hlt hb0 ⟨hb0, trivial, cA, hin, e1.trans (congrArg some (am_set_q cA n f i.toNatClampNeg none))⟩, am_S_put h.2.2.1 z oq hb0, h.2.2.2⟩
theorem am_w_aast (hx : p.tables.exec = Jvm.exec) (hb : c.code = cc) (hd : decode cc pc = .ok (.aastore, 1)) {a b n u : Nat} {C : String} {f : Nat → Option Nat} {fs : List Value} {i : Int32} (hnm : ∀ r, cl[u]? = some r → r.1 = C) (ha : σ a = some (.inl (.object C, n, .inr (.inr (.inr (.inr f)))))) (hbv : σ b = some (.inr (.inl (u, fs)))) (hi : ¬ (i < 0 ∨ n ≤ i.toNatClampNeg)) (k : am_W p l e R s m args below meth c Q D cl b0 nL c0 s0 (pc + 1) lv rest (am_up σ a (.inl (.object C, n, .inr (.inr (.inr (.inr (va_up f i.toNatClampNeg (some b)))))))) top sl) : am_W p l e R s m args below meth c Q D cl b0 nL c0 s0 pc lv (.ref b :: .int i :: .ref a :: rest) σ top sl := by
  intro ls H locs cells slots h
  obtain ⟨hsz, hbt, tys, hK, hcl⟩ := h.2.1
  obtain ⟨hlt, hb0, hft, cA, hin, hH⟩ := hcl a _ ha
  obtain ⟨-, -, r, hr, -, cellV, g1, g2, g3, -⟩ := hcl b _ hbv
  obtain ⟨t0, ht0⟩ := List.getElem?_of_mem hin
  have hcls := (hK.1 u r hr).2
  rw [hnm r hr] at hcls
  obtain ⟨kA, comp, k1, k2, k3, -⟩ := (hK.2 t0 _ ht0).2
  have hcomp : comp = D.1 u := Option.some.inj (k3.symm.trans hcls.1)
  subst hcomp
  obtain ⟨kC, hkC, -⟩ := hcls.2
  have hlt2 : i.toNatClampNeg < n := Nat.not_le.mp fun q => hi (Or.inr q)
  refine W.aast hx hb hH (fun q h => by cases h) (fun h => by cases h) k1 k2 rfl hkC ⟨fun q => hi (Or.inl q), by show _ < (arrV _ _ _).slots.size; rw [arrV_size]; exact hlt2⟩ g1 (fun q h => by rw [g3] at h; cases h) (by rw [g2]; exact hkC) (by rw [g2]; exact va_assign hcls) rfl rfl hd fun H1 e1 z oq => ?_
  exact k ls H1 _ cells slots ⟨h.1, am_dy_upd hsz hbt hK hcl z oq hlt hb0 ⟨hb0, trivial, cA, hin, e1.trans (congrArg some (am_set_q cA n f i.toNatClampNeg (some b)))⟩, am_S_put h.2.2.1 z oq hb0, h.2.2.2⟩
theorem am_w_newarr (hx : p.tables.exec = Jvm.exec) (hb : c.code = cc) {at_ : ArrayType} (hd : decode cc pc = .ok (.newarray at_, 2)) (harr : (Cond.arrayClass (newarray.typeOf at_)).before args s = true) {n : Int32} {ar : vp_A} (ha : ∀ cA : ClassId, vp_cell cA ar = arrV cA n.toNatClampNeg (fun _ => defaultValue (newarray.typeOf at_))) (hft : am_fitA (newarray.typeOf at_) ar)
    (hn : ¬ n < 0) (hby : n.toNatClampNeg * componentBytes (newarray.typeOf at_) ≤ 536870912) (hr1 : top + 1 ≤ R.cells + c0) (hr2 : sl + n.toNatClampNeg ≤ R.slots + s0) (k : am_W p l e R s m args below meth c Q D cl b0 nL c0 s0 (pc + 2) lv (.ref top :: rest) (am_up σ top (.inl (newarray.typeOf at_, ar))) (top + 1) (sl + n.toNatClampNeg)) : am_W p l e R s m args below meth c Q D cl b0 nL c0 s0 pc lv (.int n :: rest) σ top sl := by
  intro ls H locs cells slots h
  obtain ⟨hsz, hbt, tys, hK, hcl⟩ := h.2.1
  obtain ⟨hc, hs⟩ := h.2.2.2
  refine va_newaK hx hb harr rfl hd rfl hn rfl hby (by omega) (by omega) hsz fun H1 cA e1 z1 o1 hAr hNm => ?_
  refine k ls H1 locs (cells + 1) (slots + n.toNatClampNeg) ⟨h.1, am_dy_push hsz hbt (am_kapp hK hAr (by cases at_ <;> exact hNm)) (fun x hx => List.mem_append_left _ hx) hcl z1 o1 ⟨hbt, hft, cA, List.mem_append_right _ List.mem_cons_self, by rw [ha]; exact e1⟩, am_S_push h.2.2.1 (by rw [hsz]; exact z1) (fun q hq => o1 q (by rw [← hsz]; exact hq)), by omega, by omega⟩
theorem am_w_anew (hx : p.tables.exec = Jvm.exec) (hb : c.code = cc) {own C : String} {index : Nat} (hd : decode cc pc = .ok (.anewarray index, 3)) (hown : s.vm.findClass own = some m.cls) (hl : (Cond.classLink own index C).before args s = true) (hover : va_AO C s) {n : Int32}
    (hn : ¬ n < 0) (hby : n.toNatClampNeg * 4 ≤ 536870912) (hr1 : top + 1 ≤ R.cells + c0) (hr2 : sl + n.toNatClampNeg ≤ R.slots + s0) (k : am_W p l e R s m args below meth c Q D cl b0 nL c0 s0 (pc + 3) lv (.ref top :: rest) (am_up σ top (.inl (.object C, n.toNatClampNeg, .inr (.inr (.inr (.inr fun _ => none)))))) (top + 1) (sl + n.toNatClampNeg)) : am_W p l e R s m args below meth c Q D cl b0 nL c0 s0 pc lv (.int n :: rest) σ top sl := by
  intro ls H locs cells slots h
  obtain ⟨hsz, hbt, tys, hK, hcl⟩ := h.2.1
  obtain ⟨hc, hs⟩ := h.2.2.2
  refine W.anew hx hb hown hl (va_AO.use hover) rfl hd rfl hn hby (by omega) (by omega) fun cA kA comp f1 f2 f3 f4 => ?_
  rw [hsz]
  generalize hH1 : H.push ({ cls := cA, slots := Array.replicate n.toNatClampNeg .null, vm := .none } : Cell) = H1
  have z1 : H1.size = top + 1 := by rw [← hH1, Array.size_push, hsz]
  have e1 : H1[top]? = some (arrV cA n.toNatClampNeg (fun _ => .null)) := by rw [← hH1, ← hsz, Array.getElem?_push_size, ← arrV_new]
  have o1 : ∀ q : Nat, q < top → H1[q]? = H[q]? := fun q hq => by rw [← hH1, Array.getElem?_push, if_neg (by rw [hsz]; exact Nat.ne_of_lt hq)]
  have hAr : ArrOfT s cA (.object C) := fun N z => ⟨(fun k h => by cases h), kA, f2, comp, f3⟩
  refine k ls H1 locs (cells + 1) (slots + n.toNatClampNeg) ⟨h.1, am_dy_push hsz hbt (am_kapp hK hAr ⟨kA, comp, f2, f3, f4, f1⟩) (fun x hx => List.mem_append_left _ hx) hcl z1 o1 ⟨hbt, trivial, cA, List.mem_append_right _ List.mem_cons_self, ?_⟩, am_S_push h.2.2.1 (by rw [hsz]; exact z1) (fun q hq => o1 q (by rw [← hsz]; exact hq)), by omega, by omega⟩
  rw [vp_cell_q]
  exact e1
theorem am_w_new (hx : p.tables.exec = Jvm.exec) (hb : c.code = cc) {own C : String} {T : u_T} {N u index n : Nat} (hd : decode cc pc = .ok (.new index, 3)) (hown : s.vm.findClass own = some m.cls) (hts : ∀ w ∈ u_ws C T N, w.before args s = true) (hc : cl[u]? = some (C, T, N)) (ty : Nat → FieldType) (hty : ∀ k, k < N → parseFieldDescriptor (T k).2.2.1 = some (ty k))
    (hl : (Cond.classLink own index C).before args s = true) (hins : (Cond.instantiable C n).before args s = true) (hini : (Cond.initialized C).before args s = true) {fs : List Value} (hfs : ∀ j, j < N → defaultValue (ty j) = vp_V fs j) (hfl : fs.length = N) (hr1 : top + 1 ≤ R.cells + c0) (hr2 : sl + n ≤ R.slots + s0)
    (k : am_W p l e R s m args below meth c Q D cl b0 nL c0 s0 (pc + 3) lv (.ref top :: st) (am_up σ top (.inr (.inl (u, fs)))) (top + 1) (sl + n)) : am_W p l e R s m args below meth c Q D cl b0 nL c0 s0 pc lv st σ top sl := by
  intro ls H locs cells slots h
  obtain ⟨hsz, hbt, tys, hK, hcl⟩ := h.2.1
  obtain ⟨hcc, hs⟩ := h.2.2.2
  have hKn := hK.1 u _ hc
  refine W.newcK hx hb hown hl hins hini rfl hd (by omega) (by omega) hKn.2.1 hsz fun H1 kC hkC e1 z1 o1 => ?_
  exact k ls H1 locs (cells + 1) (slots + n) ⟨h.1, am_dy_push hsz hbt hK (fun x hx => hx) hcl z1 o1 ⟨hbt, (C, T, N), hc, hfl, (u_born ty hts (fun _ z => z) hKn hkC e1 hty).to hfs⟩, am_S_push h.2.2.1 (by rw [hsz]; exact z1) (fun q hq => o1 q (by rw [← hsz]; exact hq)), by omega, by omega⟩
theorem am_w_objinit (hx : p.tables.exec = Jvm.exec) (hb : c.code = cc) (hml : c.maxLocals = nL) {own : String} {index : Nat} (hd : decode cc pc = .ok (.invokespecial index, 3)) (hown : s.vm.findClass own = some m.cls) (hl : (Cond.methodLink own index objectInit).before args s = true) (hin : (Cond.instanceMethod objectInit).before args s = true) (hco : (Cond.code objectInit ⟨#[0xb1]⟩ 1 none).before args s = true)
    {a : Nat} (hfr : 1 ≤ R.frames) (hw : (rest.map fun v => v.category).sum ≤ 8) (hlo : 20 ≤ R.locals) (k : am_W p l e R s m args below meth c Q D cl b0 nL c0 s0 (pc + 3) lv rest σ top sl) : am_W p l e R s m args below meth c Q D cl b0 nL c0 s0 pc lv (.ref a :: rest) σ top sl := by
  intro ls H locs cells slots h
  refine W.objInit hx hb hown hl hin hco rfl (by rw [hml]; exact h.1.1.1) rfl hd hfr ?_ (k ls H locs cells slots h)
  show 2 * 0 + _ + 12 ≤ _
  omega
end AMA
end
section
def am_len (i : Instr) : Nat := match i with
  | .aload _ => 2
  | .iload _ => 2
  | .istore _ => 2
  | .astore _ => 2
  | .bipush _ => 2
  | .ldc _ => 2
  | .newarray _ => 2
  | .sipush _ => 3
  | .iinc _ _ => 3
  | .goto _ => 3
  | .ifCond _ _ => 3
  | .if_icmp _ _ => 3
  | .if_acmp _ _ => 3
  | .ifnull _ => 3
  | .ifnonnull _ => 3
  | .getfield _ => 3
  | .putfield _ => 3
  | .getstatic _ => 3
  | .new _ => 3
  | .anewarray _ => 3
  | .invokespecial _ => 3
  | .invokestatic _ => 3
  | .invokevirtual _ => 3
  | _ => 1
def am_sw (i : Instr) : Bool := match i with
  | .tableswitch _ _ _ _ => true
  | .lookupswitch _ _ => true
  | _ => false
def am_dec (cc : ByteArray) (pc : Nat) (i : Instr) : Prop := (am_sw i = true ∧ ∃ len, decode cc pc = .ok (i, len)) ∨ (am_sw i = false ∧ decode cc pc = .ok (i, am_len i))
theorem am_dec1 {cc : ByteArray} {pc : Nat} {i : Instr} (h : am_dec cc pc i) (hs : am_sw i = false) : decode cc pc = .ok (i, am_len i) := by
  rcases h with ⟨h, -⟩ | ⟨-, h⟩
  · rw [hs] at h
    cases h
  · exact h
theorem am_dec2 {cc : ByteArray} {pc : Nat} {i : Instr} (h : am_dec cc pc i) (hs : am_sw i = true) : ∃ len, decode cc pc = .ok (i, len) := by
  rcases h with ⟨-, h⟩ | ⟨h, -⟩
  · exact h
  · rw [hs] at h
    cases h
theorem am_n_inv {pc : Nat} {lv : am_V} {st : List Value} {σ : am_H} {top sl : Nat} {x : am_X} (h : am_n pc lv st σ top sl = some x) : x = (pc, lv, st, σ, top, sl) := (Option.some.inj h).symm
/-- what the tables say of the instruction at pc, whose pool entry u, v name -/
def am_fact (cs : Nat → Value) (ft : Nat → Nat → FieldType) (df : Nat → List Value) (ns : Nat → Nat) (nm : Nat → String) (cl : List vw_C) (b0 : Nat) (s : State) (args : Array Value) (meth : Method) (own : String) (pc : Nat) (i : Instr) (u v : Nat) : Prop := match i with
  | .ldc idx => ∃ tx a, cs u = .ref a ∧ vk_R own idx tx a s
  | .getstatic idx => ∃ C n d, va_Z C n d (cs u) (fun q => b0 ≤ q) s s.heap ∧ (Cond.fieldLink own idx C n d).before args s = true
  | .goto off => (pc : Int) + off = (u : Int)
  | .ifCond _ off => (pc : Int) + off = (u : Int)
  | .if_icmp _ off => (pc : Int) + off = (u : Int)
  | .if_acmp _ off => (pc : Int) + off = (u : Int)
  | .ifnull off => (pc : Int) + off = (u : Int)
  | .ifnonnull off => (pc : Int) + off = (u : Int)
  | .getfield idx => if u = 50 then (if v = 0 then (Cond.fieldLink own idx "java/lang/String" "value" "[B").before args s = true else (Cond.fieldLink own idx "java/lang/String" "coder" "B").before args s = true) else ∃ C T N, cl[u]? = some (C, T, N) ∧ (∀ w ∈ u_ws C T N, w.before args s = true) ∧ (∀ k, k < N → (T k).1 = C) ∧ v < N ∧ ((Cond.fieldLink own idx C (T v).2.1 (T v).2.2.1).before args s = true ∨ ∃ host, (Cond.fieldLinkNest own idx C (T v).2.1 (T v).2.2.1 host).before args s = true)
  | .putfield idx => ∃ C T N, cl[u]? = some (C, T, N) ∧ (∀ w ∈ u_ws C T N, w.before args s = true) ∧ (∀ k, k < N → (T k).1 = C) ∧ v < N ∧ (∀ k, k < N → parseFieldDescriptor (T k).2.2.1 = some (ft u k)) ∧ (∀ a, a < N → ∀ b, b < N → a ≠ b → (T a).2.1 ≠ (T b).2.1) ∧
      ((Cond.fieldLink own idx C (T v).2.1 (T v).2.2.1).before args s = true ∧ ((T v).2.2.2 = false ∨ ((T v).2.2.2 = true ∧ meth.name = "<init>" ∧ own = C)) ∨ (T v).2.2.2 = false ∧ ∃ host, (Cond.fieldLinkNest own idx C (T v).2.1 (T v).2.2.1 host).before args s = true)
  | .new idx => ∃ C T N, cl[u]? = some (C, T, N) ∧ (∀ w ∈ u_ws C T N, w.before args s = true) ∧ (∀ k, k < N → parseFieldDescriptor (T k).2.2.1 = some (ft u k)) ∧ (Cond.classLink own idx C).before args s = true ∧ (Cond.instantiable C (ns u)).before args s = true ∧ (Cond.initialized C).before args s = true ∧ (∀ j, j < N → defaultValue (ft u j) = vp_V (df u) j) ∧ (df u).length = N
  | .newarray at_ => (Cond.arrayClass (newarray.typeOf at_)).before args s = true
  | .anewarray idx => (Cond.classLink own idx (nm u)).before args s = true ∧ va_AO (nm u) s
  | .invokespecial idx => u = 1000 → (Cond.methodLink own idx objectInit).before args s = true ∧ (Cond.instanceMethod objectInit).before args s = true ∧ (Cond.code objectInit ⟨#[0xb1]⟩ 1 none).before args s = true
  | _ => True
section AMT
variable {p : Program} {l : Launch} {e : Env} {R : Room} {s : State} {m : MethodId} {args : Array Value} {below : List Frame} {meth : Method} {c : Code} {Q : State → Prop}
variable {cc : ByteArray} {D : va_G} {cl : List vw_C} {b0 nL c0 s0 : Nat} {pc top sl : Nat} {lv : am_V} {st rest : List Value} {σ : am_H}
set_option maxHeartbeats 4000000 in
theorem am_step_W {cs : Nat → Value} {ft : Nat → Nat → FieldType} {df : Nat → List Value} {ns : Nat → Nat} {nm : Nat → String} {d : Nat} {own : String} {i : Instr} {u v : Nat} {x : am_X}
    (hx : p.tables.exec = Jvm.exec) (hb : c.code = cc) (hml : c.maxLocals = nL) (hown : s.vm.findClass own = some m.cls) (hnm : ∀ k r, cl[k]? = some r → r.1 = nm k) (hfr : d ≤ R.frames) (hlo : 64 * d ≤ R.locals)
    (hd : am_dec cc pc i) (hf : am_fact cs ft df ns nm cl b0 s args meth own pc i u v) (h : am_step cs ft df ns nm d pc lv st σ top sl i u v = some x) (hr1 : x.2.2.2.2.1 ≤ R.cells + c0) (hr2 : x.2.2.2.2.2 ≤ R.slots + s0)
    (k : am_W p l e R s m args below meth c Q D cl b0 nL c0 s0 (x.1) (x.2.1) (x.2.2.1) (x.2.2.2.1) (x.2.2.2.2.1) (x.2.2.2.2.2)) : am_W p l e R s m args below meth c Q D cl b0 nL c0 s0 pc lv st σ top sl := by
  cases i with
  | aconst_null => obtain rfl := am_n_inv h; exact am_w_null hx hb (am_dec1 hd rfl) k
  | iconst n => obtain rfl := am_n_inv h; exact am_w_iconst hx hb (am_dec1 hd rfl) k
  | bipush n => obtain rfl := am_n_inv h; exact am_w_bipush hx hb (am_dec1 hd rfl) k
  | sipush n => obtain rfl := am_n_inv h; exact am_w_sipush hx hb (am_dec1 hd rfl) k
  | ldc idx =>
    obtain rfl := am_n_inv h
    obtain ⟨tx, a, h1, h2⟩ := hf
    dsimp only at k
    rw [h1] at k
    exact am_w_ldc hx hb hown h2 (am_dec1 hd rfl) k
  | getstatic idx =>
    obtain rfl := am_n_inv h
    obtain ⟨C, n, d, h1, h2⟩ := hf
    exact am_w_gets hx hb hown h1 h2 (am_dec1 hd rfl) k
  | iload j =>
    have h : (match am_get lv j with | some (.int x) => am_n (pc + 2) lv (.int x :: st) σ top sl | _ => none) = some x := h
    split at h
    · next y hg => obtain rfl := am_n_inv h; exact am_w_iload hx hb (am_dec1 hd rfl) hg k
    · cases h
  | iload_n j =>
    have h : (match am_get lv j with | some (.int x) => am_n (pc + 1) lv (.int x :: st) σ top sl | _ => none) = some x := h
    split at h
    · next y hg => obtain rfl := am_n_inv h; exact am_w_iload_n hx hb (am_dec1 hd rfl) hg k
    · cases h
  | aload j =>
    have h : (match am_get lv j with | some (.ref x) => am_n (pc + 2) lv (.ref x :: st) σ top sl | some .null => am_n (pc + 2) lv (.null :: st) σ top sl | _ => none) = some x := h
    split at h
    · next y hg => obtain rfl := am_n_inv h; exact am_w_aload (x := some y) hx hb (am_dec1 hd rfl) hg k
    · next hg => obtain rfl := am_n_inv h; exact am_w_aload (x := none) hx hb (am_dec1 hd rfl) hg k
    · cases h
  | aload_n j =>
    have h : (match am_get lv j with | some (.ref x) => am_n (pc + 1) lv (.ref x :: st) σ top sl | some .null => am_n (pc + 1) lv (.null :: st) σ top sl | _ => none) = some x := h
    split at h
    · next y hg => obtain rfl := am_n_inv h; exact am_w_aload_n (x := some y) hx hb (am_dec1 hd rfl) hg k
    · next hg => obtain rfl := am_n_inv h; exact am_w_aload_n (x := none) hx hb (am_dec1 hd rfl) hg k
    · cases h
  | istore j =>
    (try dsimp only [am_step] at h); have h9 := am_i1_inv h; clear h; obtain ⟨y, r, rfl, h⟩ := h9
    split at h
    · next hj => obtain rfl := am_n_inv h; exact am_w_istore hx hb (am_dec1 hd rfl) hj k
    · cases h
  | istore_n j =>
    (try dsimp only [am_step] at h); have h9 := am_i1_inv h; clear h; obtain ⟨y, r, rfl, h⟩ := h9
    split at h
    · next hj => obtain rfl := am_n_inv h; exact am_w_istore_n hx hb (am_dec1 hd rfl) hj k
    · cases h
  | astore j =>
    (try dsimp only [am_step] at h); have h9 := am_q1_inv h; clear h; obtain ⟨y, r, rfl, h⟩ := h9
    split at h
    · next hj => obtain rfl := am_n_inv h; exact am_w_astore hx hb (am_dec1 hd rfl) hj k
    · cases h
  | astore_n j =>
    (try dsimp only [am_step] at h); have h9 := am_q1_inv h; clear h; obtain ⟨y, r, rfl, h⟩ := h9
    split at h
    · next hj => obtain rfl := am_n_inv h; exact am_w_astore_n hx hb (am_dec1 hd rfl) hj k
    · cases h
  | iinc j n =>
    have h : (match am_get lv j with | some (.int x) => if j < lv.length then am_n (pc + 3) (lv.set j (some (.int (x + Int32.ofInt n)))) st σ top sl else none | _ => none) = some x := h
    split at h
    · next y hg =>
      rw [if_pos (am_get_lt hg)] at h
      obtain rfl := am_n_inv h
      exact am_w_iinc hx hb (am_dec1 hd rfl) hg k
    · cases h
  | iadd => (try dsimp only [am_step] at h); have h9 := am_i2_inv h; clear h; obtain ⟨y, z, r, rfl, h⟩ := h9; obtain rfl := am_n_inv h; exact am_w_iadd hx hb (am_dec1 hd rfl) k
  | isub => (try dsimp only [am_step] at h); have h9 := am_i2_inv h; clear h; obtain ⟨y, z, r, rfl, h⟩ := h9; obtain rfl := am_n_inv h; exact am_w_isub hx hb (am_dec1 hd rfl) k
  | imul => (try dsimp only [am_step] at h); have h9 := am_i2_inv h; clear h; obtain ⟨y, z, r, rfl, h⟩ := h9; obtain rfl := am_n_inv h; exact am_w_imul hx hb (am_dec1 hd rfl) k
  | iand => (try dsimp only [am_step] at h); have h9 := am_i2_inv h; clear h; obtain ⟨y, z, r, rfl, h⟩ := h9; obtain rfl := am_n_inv h; exact am_w_iand hx hb (am_dec1 hd rfl) k
  | ior => (try dsimp only [am_step] at h); have h9 := am_i2_inv h; clear h; obtain ⟨y, z, r, rfl, h⟩ := h9; obtain rfl := am_n_inv h; exact am_w_ior hx hb (am_dec1 hd rfl) k
  | ishl => (try dsimp only [am_step] at h); have h9 := am_i2_inv h; clear h; obtain ⟨y, z, r, rfl, h⟩ := h9; obtain rfl := am_n_inv h; exact am_w_ishl hx hb (am_dec1 hd rfl) k
  | ishr => (try dsimp only [am_step] at h); have h9 := am_i2_inv h; clear h; obtain ⟨y, z, r, rfl, h⟩ := h9; obtain rfl := am_n_inv h; exact am_w_ishr hx hb (am_dec1 hd rfl) k
  | idiv =>
    (try dsimp only [am_step] at h); have h9 := am_i2_inv h; clear h; obtain ⟨y, z, r, rfl, h⟩ := h9
    split at h
    · cases h
    · next hz => obtain rfl := am_n_inv h; exact am_w_idiv hx hb (am_dec1 hd rfl) hz k
  | irem =>
    (try dsimp only [am_step] at h); have h9 := am_i2_inv h; clear h; obtain ⟨y, z, r, rfl, h⟩ := h9
    split at h
    · cases h
    · next hz => obtain rfl := am_n_inv h; exact am_w_irem hx hb (am_dec1 hd rfl) hz k
  | i2c => (try dsimp only [am_step] at h); have h9 := am_i1_inv h; clear h; obtain ⟨y, r, rfl, h⟩ := h9; obtain rfl := am_n_inv h; exact am_w_i2c hx hb (am_dec1 hd rfl) k
  | i2l => (try dsimp only [am_step] at h); have h9 := am_i1_inv h; clear h; obtain ⟨y, r, rfl, h⟩ := h9; obtain rfl := am_n_inv h; exact am_w_i2l hx hb (am_dec1 hd rfl) k
  | lcmp => (try dsimp only [am_step] at h); have h9 := am_l2_inv h; clear h; obtain ⟨y, z, r, rfl, h⟩ := h9; obtain rfl := am_n_inv h; exact am_w_lcmp hx hb (am_dec1 hd rfl) k
  | dup => (try dsimp only [am_step] at h); have h9 := am_v1_inv h; clear h; obtain ⟨y, r, rfl, hc, h⟩ := h9; obtain rfl := am_n_inv h; exact am_w_dup hx hb (am_dec1 hd rfl) hc k
  | pop => (try dsimp only [am_step] at h); have h9 := am_v1_inv h; clear h; obtain ⟨y, r, rfl, hc, h⟩ := h9; obtain rfl := am_n_inv h; exact am_w_pop hx hb (am_dec1 hd rfl) hc k
  | dup_x1 => (try dsimp only [am_step] at h); have h9 := am_v2_inv h; clear h; obtain ⟨y, z, r, rfl, hc, hc2, h⟩ := h9; obtain rfl := am_n_inv h; exact am_w_dup_x1 hx hb (am_dec1 hd rfl) hc hc2 k
  | dup2 => (try dsimp only [am_step] at h); have h9 := am_v2_inv h; clear h; obtain ⟨y, z, r, rfl, hc, hc2, h⟩ := h9; obtain rfl := am_n_inv h; exact am_w_dup2 hx hb (am_dec1 hd rfl) hc hc2 k
  | goto off => obtain rfl := am_n_inv h; exact am_w_goto hx hb (am_dec1 hd rfl) hf k
  | ifCond cd off =>
    (try dsimp only [am_step] at h); have h9 := am_i1_inv h; clear h; obtain ⟨y, r, rfl, h⟩ := h9
    split at h
    · next hc => obtain rfl := am_n_inv h; exact am_w_if hx hb (am_dec1 hd rfl) hf (fun _ => k) (fun z => absurd hc z)
    · next hc => obtain rfl := am_n_inv h; exact am_w_if hx hb (am_dec1 hd rfl) hf (fun z => absurd z hc) (fun _ => k)
  | if_icmp cd off =>
    (try dsimp only [am_step] at h); have h9 := am_i2_inv h; clear h; obtain ⟨y, z, r, rfl, h⟩ := h9
    split at h
    · next hc => obtain rfl := am_n_inv h; exact am_w_icmp hx hb (am_dec1 hd rfl) hf (fun _ => k) (fun z => absurd hc z)
    · next hc => obtain rfl := am_n_inv h; exact am_w_icmp hx hb (am_dec1 hd rfl) hf (fun z => absurd z hc) (fun _ => k)
  | if_acmp cd off =>
    cases cd with
    | eq =>
      (try dsimp only [am_step] at h); have h9 := am_q2_inv h; clear h; obtain ⟨y, z, r, rfl, h⟩ := h9
      split at h
      · next hc => obtain rfl := am_n_inv h; exact am_w_acmp_eq hx hb (am_dec1 hd rfl) hf (fun _ => k) (fun z => absurd hc z)
      · next hc => obtain rfl := am_n_inv h; exact am_w_acmp_eq hx hb (am_dec1 hd rfl) hf (fun z => absurd z hc) (fun _ => k)
    | ne =>
      (try dsimp only [am_step] at h); have h9 := am_q2_inv h; clear h; obtain ⟨y, z, r, rfl, h⟩ := h9
      split at h
      · next hc => obtain rfl := am_n_inv h; exact am_w_acmp_ne hx hb (am_dec1 hd rfl) hf (fun z => absurd hc z) (fun _ => k)
      · next hc => obtain rfl := am_n_inv h; exact am_w_acmp_ne hx hb (am_dec1 hd rfl) hf (fun _ => k) (fun z => absurd z hc)
  | ifnull off =>
    (try dsimp only [am_step] at h); have h9 := am_q1_inv h; clear h; obtain ⟨y, r, rfl, h⟩ := h9
    cases y with
    | none => obtain rfl := am_n_inv h; exact am_w_ifnull hx hb (am_dec1 hd rfl) hf (fun _ => k) (fun a z => by cases z)
    | some a => obtain rfl := am_n_inv h; exact am_w_ifnull hx hb (am_dec1 hd rfl) hf (fun z => by cases z) (fun _ _ => k)
  | ifnonnull off =>
    (try dsimp only [am_step] at h); have h9 := am_q1_inv h; clear h; obtain ⟨y, r, rfl, h⟩ := h9
    cases y with
    | none => obtain rfl := am_n_inv h; exact am_w_ifnonnull hx hb (am_dec1 hd rfl) hf (fun a z => by cases z) (fun _ => k)
    | some a => obtain rfl := am_n_inv h; exact am_w_ifnonnull hx hb (am_dec1 hd rfl) hf (fun _ _ => k) (fun z => by cases z)
  | tableswitch dflt lo hi offs =>
    (try dsimp only [am_step] at h); have h9 := am_i1_inv h; clear h; obtain ⟨y, r, rfl, h⟩ := h9
    obtain ⟨len, hd⟩ := am_dec2 hd rfl
    split at h
    · next h0 =>
      split at h
      · next h1 => obtain rfl := am_n_inv h; exact am_w_tsw hx hb hd h0 h1 k
      · cases h
    · next h0 =>
      split at h
      · next off ho =>
        split at h
        · next h1 => obtain rfl := am_n_inv h; exact am_w_tsw2 hx hb hd h0 ho h1 k
        · cases h
      · cases h
  | lookupswitch dflt ps =>
    (try dsimp only [am_step] at h); have h9 := am_i1_inv h; clear h; obtain ⟨y, r, rfl, h⟩ := h9
    obtain ⟨len, hd⟩ := am_dec2 hd rfl
    split at h
    · next h0 => obtain rfl := am_n_inv h; exact am_w_lsw hx hb hd h0.1 h0.2 k
    · cases h
  | getfield idx =>
    (try dsimp only [am_step] at h); have h9 := am_a1_inv h; clear h; obtain ⟨a, r, rfl, h⟩ := h9
    split at h
    · next c1 fs ha =>
      split at h
      · next hc =>
        obtain ⟨hc, h50⟩ := hc
        subst hc
        split at h
        · next w hw =>
          obtain rfl := am_n_inv h
          have hf : if c1 = 50 then _ else _ := hf
          rw [if_neg h50] at hf
          obtain ⟨C, T, N, h1, h2, h3, h4, h5⟩ := hf
          exact am_w_getf hx hb hown h2 h1 h3 h4 h5 (am_dec1 hd rfl) ha hw k
        · cases h
      · cases h
    · next av f1 ha =>
      split at h
      · next hu =>
        have hf : if u = 50 then (if v = 0 then _ else _) else _ := hf
        rw [if_pos hu] at hf
        split at h
        · next hv =>
          rw [if_pos hv] at hf
          obtain rfl := am_n_inv h
          exact am_w_getS hx hb (am_dec1 hd rfl) hown hf ha (Or.inl ⟨rfl, rfl, rfl⟩) k
        · next hv =>
          rw [if_neg hv] at hf
          obtain rfl := am_n_inv h
          exact am_w_getS hx hb (am_dec1 hd rfl) hown hf ha (Or.inr ⟨rfl, rfl, rfl⟩) k
      · cases h
    · cases h
  | putfield idx =>
    (try dsimp only [am_step] at h); have h9 := am_va_inv h; clear h; obtain ⟨w, a, r, rfl, h⟩ := h9
    split at h
    · next c1 fs ha =>
      split at h
      · next hc =>
        obtain ⟨hc, -, hw⟩ := hc
        subst hc
        obtain rfl := am_n_inv h
        obtain ⟨C, T, N, h1, h2, h3, h4, h5, h6, h7⟩ := hf
        exact am_w_putf hx hb hown h2 h1 h3 (ft c1) h5 h6 h4 h7 (am_dec1 hd rfl) ha hw k
      · cases h
    · cases h
  | new idx =>
    obtain rfl := am_n_inv h
    obtain ⟨C, T, N, h1, h2, h3, h4, h5, h6, h7, h8⟩ := hf
    exact am_w_new hx hb (am_dec1 hd rfl) hown h2 h1 (ft u) h3 h4 h5 h6 h7 h8 hr1 hr2 k
  | newarray at_ =>
    (try dsimp only [am_step] at h); have h9 := am_i1_inv h; clear h; obtain ⟨n, r, rfl, h⟩ := h9
    split at h
    · cases h
    · next hn =>
      have hn1 : ¬ n < 0 := fun z => hn (Or.inl z)
      have hn2 : n.toNatClampNeg ≤ 100000 := Nat.not_lt.mp fun z => hn (Or.inr z)
      cases at_ with
      | int => obtain rfl := am_n_inv h; exact am_w_newarr (ar := (n.toNatClampNeg, .inl fun _ => 0)) hx hb (am_dec1 hd rfl) hf (fun _ => rfl) (fun _ => rfl) hn1 (by show n.toNatClampNeg * 4 ≤ _; omega) hr1 hr2 k
      | char => obtain rfl := am_n_inv h; exact am_w_newarr (ar := (n.toNatClampNeg, .inl fun _ => 0)) hx hb (am_dec1 hd rfl) hf (fun _ => rfl) (fun _ => show fits .char (.int 0) = true by decide) hn1 (by show n.toNatClampNeg * 2 ≤ _; omega) hr1 hr2 k
      | boolean => obtain rfl := am_n_inv h; exact am_w_newarr (ar := (n.toNatClampNeg, .inl fun _ => 0)) hx hb (am_dec1 hd rfl) hf (fun _ => rfl) (fun _ => show fits .boolean (.int 0) = true by decide) hn1 (by show n.toNatClampNeg * 1 ≤ _; omega) hr1 hr2 k
      | long => obtain rfl := am_n_inv h; exact am_w_newarr (ar := (n.toNatClampNeg, .inr (.inl fun _ => 0))) hx hb (am_dec1 hd rfl) hf (fun _ => rfl) trivial hn1 (by show n.toNatClampNeg * 8 ≤ _; omega) hr1 hr2 k
      | _ => cases h
  | anewarray idx =>
    (try dsimp only [am_step] at h); have h9 := am_i1_inv h; clear h; obtain ⟨n, r, rfl, h⟩ := h9
    split at h
    · cases h
    · next hn =>
      obtain rfl := am_n_inv h
      exact am_w_anew hx hb (am_dec1 hd rfl) hown hf.1 hf.2 (fun z => hn (Or.inl z)) (by have := Nat.not_lt.mp fun z => hn (Or.inr z); omega) hr1 hr2 k
  | arraylength =>
    (try dsimp only [am_step] at h); have h9 := am_a1_inv h; clear h; obtain ⟨a, r, rfl, h⟩ := h9
    split at h
    · next ha => obtain rfl := am_n_inv h; exact am_w_alen hx hb (am_dec1 hd rfl) ha k
    · next ha => obtain rfl := am_n_inv h; exact am_w_slen hx hb (am_dec1 hd rfl) ha k
    · next ha => obtain rfl := am_n_inv h; exact am_w_tlen hx hb (am_dec1 hd rfl) ha k
    · cases h
  | iaload =>
    (try dsimp only [am_step] at h); have h9 := am_ia_inv h; clear h; obtain ⟨j, a, r, rfl, h⟩ := h9
    split at h
    · next ha =>
      split at h
      · cases h
      · next hi => obtain rfl := am_n_inv h; exact am_w_iald hx hb (am_dec1 hd rfl) ha hi k
    · next ha =>
      split at h
      · cases h
      · next hi => obtain rfl := am_n_inv h; exact am_w_sald hx hb (am_dec1 hd rfl) ha hi k
    · cases h
  | baload =>
    (try dsimp only [am_step] at h); have h9 := am_ia_inv h; clear h; obtain ⟨j, a, r, rfl, h⟩ := h9
    split at h
    · next ha =>
      split at h
      · cases h
      · next hi => obtain rfl := am_n_inv h; exact am_w_zald hx hb (am_dec1 hd rfl) ha hi k
    · next ha =>
      split at h
      · cases h
      · next hi => obtain rfl := am_n_inv h; exact am_w_tb hx hb (am_dec1 hd rfl) ha hi k
    · cases h
  | caload =>
    (try dsimp only [am_step] at h); have h9 := am_ia_inv h; clear h; obtain ⟨j, a, r, rfl, h⟩ := h9
    split at h
    · next ha =>
      split at h
      · cases h
      · next hi => obtain rfl := am_n_inv h; exact am_w_cald hx hb (am_dec1 hd rfl) ha hi k
    · cases h
  | laload =>
    (try dsimp only [am_step] at h); have h9 := am_ia_inv h; clear h; obtain ⟨j, a, r, rfl, h⟩ := h9
    split at h
    · next ha =>
      split at h
      · cases h
      · next hi => obtain rfl := am_n_inv h; exact am_w_lald hx hb (am_dec1 hd rfl) ha hi k
    · cases h
  | aaload =>
    (try dsimp only [am_step] at h); have h9 := am_ia_inv h; clear h; obtain ⟨j, a, r, rfl, h⟩ := h9
    split at h
    · next ha =>
      split at h
      · cases h
      · next hi => obtain rfl := am_n_inv h; exact am_w_aald hx hb (am_dec1 hd rfl) ha hi k
    · cases h
  | iastore =>
    (try dsimp only [am_step] at h); have h9 := am_iia_inv h; clear h; obtain ⟨y, j, a, r, rfl, h⟩ := h9
    split at h
    · next ha =>
      split at h
      · cases h
      · next hi => obtain rfl := am_n_inv h; exact am_w_iast hx hb (am_dec1 hd rfl) ha hi k
    · cases h
  | bastore =>
    (try dsimp only [am_step] at h); have h9 := am_iia_inv h; clear h; obtain ⟨y, j, a, r, rfl, h⟩ := h9
    split at h
    · next ha =>
      split at h
      · cases h
      · next hi => obtain rfl := am_n_inv h; exact am_w_zast hx hb (am_dec1 hd rfl) ha hi k
    · cases h
  | castore =>
    (try dsimp only [am_step] at h); have h9 := am_iia_inv h; clear h; obtain ⟨y, j, a, r, rfl, h⟩ := h9
    split at h
    · next ha =>
      split at h
      · cases h
      · next hi => obtain rfl := am_n_inv h; exact am_w_cast hx hb (am_dec1 hd rfl) ha hi k
    · cases h
  | lastore =>
    (try dsimp only [am_step] at h); have h9 := am_lia_inv h; clear h; obtain ⟨y, j, a, r, rfl, h⟩ := h9
    split at h
    · next ha =>
      split at h
      · cases h
      · next hi => obtain rfl := am_n_inv h; exact am_w_last hx hb (am_dec1 hd rfl) ha hi k
    · cases h
  | aastore =>
    (try dsimp only [am_step] at h); have h9 := am_qia_inv h; clear h; obtain ⟨y, j, a, r, rfl, h⟩ := h9
    split at h
    · next ha =>
      split at h
      · cases h
      · next hi =>
        cases y with
        | none => obtain rfl := am_n_inv h; exact am_w_aastN hx hb (am_dec1 hd rfl) ha hi k
        | some b =>
          dsimp only at h
          split at h
          · next c1 fs hbv =>
            split at h
            · next hC => obtain rfl := am_n_inv h; exact am_w_aast hx hb (am_dec1 hd rfl) (fun r hr => (hnm c1 r hr).trans hC) ha hbv hi k
            · cases h
          · cases h
    · cases h
  | invokespecial idx =>
    replace h : (if d = 0 ∨ ¬ u = 1000 then none else am_a1 st fun _ r => if (r.map fun w => w.category).sum ≤ 8 then am_n (pc + 3) lv r σ top sl else none) = some x := h
    split at h
    · cases h
    · next hd0 =>
      (try dsimp only [am_step] at h); have h9 := am_a1_inv h; clear h; obtain ⟨a, r, rfl, h⟩ := h9
      split at h
      · next hw =>
        obtain rfl := am_n_inv h
        obtain ⟨h1, h2, h3⟩ := hf (Decidable.not_not.mp fun z => hd0 (Or.inr z))
        have hd1 : ¬ d = 0 := fun z => hd0 (Or.inl z)
        exact am_w_objinit hx hb hml (am_dec1 hd rfl) hown h1 h2 h3 (by omega) hw (by omega) k
      · cases h
  | _ => exact absurd (show (none : am_O) = some x from h) (fun z => by cases z)
end AMT
end
section
set_option maxHeartbeats 4000000 in
theorem am_step_mono {cs : Nat → Value} {ft : Nat → Nat → FieldType} {df : Nat → List Value} {ns : Nat → Nat} {nm : Nat → String} {d pc : Nat} {lv : am_V} {st : List Value} {σ : am_H} {top sl : Nat} {i : Instr} {u v : Nat} {x : am_X}
    (h : am_step cs ft df ns nm d pc lv st σ top sl i u v = some x) : top ≤ x.2.2.2.2.1 ∧ sl ≤ x.2.2.2.2.2 := by
  have key : ∀ (pc' : Nat) (lv' : am_V) (st' : List Value) (σ' : am_H), am_n pc' lv' st' σ' top sl = some x → top ≤ x.2.2.2.2.1 ∧ sl ≤ x.2.2.2.2.2 := by
    intro pc' lv' st' σ' h
    obtain rfl := am_n_inv h
    exact ⟨Nat.le_refl _, Nat.le_refl _⟩
  have key2 : ∀ (pc' : Nat) (lv' : am_V) (st' : List Value) (σ' : am_H) (n : Nat), am_n pc' lv' st' σ' (top + 1) (sl + n) = some x → top ≤ x.2.2.2.2.1 ∧ sl ≤ x.2.2.2.2.2 := by
    intro pc' lv' st' σ' n h
    obtain rfl := am_n_inv h
    exact ⟨Nat.le_succ _, Nat.le_add_right _ _⟩
  cases i <;> (dsimp only [am_step, am_i1, am_i2, am_l2, am_a1, am_q1, am_q2, am_v1, am_v2, am_ia, am_iia, am_lia, am_qia, am_va] at h; (repeat' (split at h)) <;> first | exact key _ _ _ _ h | exact key2 _ _ _ _ _ h | cases h)
theorem am_run_mono {t : am_T} {cs : Nat → Value} : ∀ (n d y pc : Nat) (lv : am_V) (st : List Value) (σ : am_H) (top sl : Nat) (res : am_R), am_run t cs n d y pc lv st σ top sl = some res → top ≤ res.2.2.1 ∧ sl ≤ res.2.2.2
  | 0, d, y, pc, lv, st, σ, top, sl, res, h => by cases h
  | n + 1, d, y, pc, lv, st, σ, top, sl, res, h => by
    unfold am_run at h
    split at h
    · cases h
    · next i u v hI =>
      split at h
      · split at h
        · cases h
        · next pc' lv' st' σ' top' sl' hs =>
          have h1 := am_step_mono hs
          have h2 := am_run_mono n _ _ _ _ _ _ _ _ _ h
          dsimp only at h1
          exact ⟨Nat.le_trans h1.1 h2.1, Nat.le_trans h1.2 h2.2⟩
      · split at h
        · cases h
        · split at h
          · split at h
            · split at h
              · cases h
              · exact am_run_mono n _ _ _ _ _ _ _ _ _ h
            · split at h
              · split at h
                · cases h
                · next hs =>
                  have h1 := am_run_mono n _ _ _ _ _ _ _ _ _ hs
                  have h2 := am_run_mono n _ _ _ _ _ _ _ _ _ h
                  dsimp only at h1
                  exact ⟨Nat.le_trans h1.1 h2.1, Nat.le_trans h1.2 h2.2⟩
                · next hs =>
                  split at h
                  · have h1 := am_run_mono n _ _ _ _ _ _ _ _ _ hs
                    have h2 := am_run_mono n _ _ _ _ _ _ _ _ _ h
                    dsimp only at h1
                    exact ⟨Nat.le_trans h1.1 h2.1, Nat.le_trans h1.2 h2.2⟩
                  · cases h
              · cases h
          · cases h
      · split at h
        · cases h
          exact ⟨Nat.le_succ _, Nat.le_add_right _ _⟩
        · cases h
      · split at h
        · cases h
        · cases h
          exact ⟨Nat.le_refl _, Nat.le_refl _⟩
end
section
theorem am_args_mem : ∀ (as : List Value) (k j : Nat) (w : Value), as.all am_c1 = true → as[j]? = some w → (k + j, w) ∈ lv_args k as
  | [], k, j, w, _, h => by simp at h
  | v :: vs, k, j, w, hc, h => by
    simp only [List.all_cons, Bool.and_eq_true] at hc
    have hv : ¬ v.category = 2 := by rw [am_c1_cat hc.1]; decide
    show _ ∈ (k, v) :: lv_args (if v.category = 2 then k + 2 else k + 1) vs
    rw [if_neg hv]
    cases j with
    | zero =>
      rw [List.getElem?_cons_zero] at h
      cases h
      exact List.mem_cons_self
    | succ j =>
      rw [List.getElem?_cons_succ] at h
      have := am_args_mem vs (k + 1) j w hc.2 h
      rw [show k + (j + 1) = k + 1 + j by omega]
      exact List.mem_cons_of_mem _ this
theorem am_sl_len : ∀ (as : List Value), as.all am_c1 = true → (lg_sl as).length = as.length
  | [], _ => rfl
  | v :: vs, hc => by
    simp only [List.all_cons, Bool.and_eq_true] at hc
    have hv : ¬ v.category = 2 := by rw [am_c1_cat hc.1]; decide
    have ih := am_sl_len vs hc.2
    unfold lg_sl at ih ⊢
    rw [List.flatMap_cons, if_neg hv, List.length_append, ih]
    simp
    omega
theorem am_ent_get {ml : Nat} {as : List Value} {j : Nat} {w : Value} (h : am_get (am_ent ml as) j = some w) : as[j]? = some w := by
  unfold am_get at h
  split at h
  · next v e =>
    cases h
    unfold am_ent at e
    by_cases hj : j < as.length
    · rw [List.getElem?_append_left (by rw [List.length_map]; exact hj), List.getElem?_map] at e
      cases h2 : as[j]? with
      | none => rw [h2] at e; cases e
      | some z => rw [h2] at e; cases e; rfl
    · rw [List.getElem?_append_right (by rw [List.length_map]; omega), List.getElem?_replicate] at e
      split at e
      · cases e
      · cases e
  · cases h
theorem am_ent_ls {ls : Array Slot} {n : Nat} {as : List Value} (h : as.length ≤ n) (hc : as.all am_c1 = true) (hl : lv_has ls n (lv_args 0 as)) : am_ls ls n (am_ent n as) := by
  refine ⟨⟨hl.1, hl.2.1, ?_⟩, ?_, ?_⟩
  · rintro ⟨j, w⟩ hq
    have := am_args_mem as 0 j w hc (am_ent_get (am_as_mem.mp hq))
    rw [Nat.zero_add] at this
    exact hl.2.2 (j, w) this
  · unfold am_ent
    rw [List.length_append, List.length_map, List.length_replicate]
    omega
  · intro i v hv
    exact am_c1_cat (List.all_eq_true.mp hc v (List.mem_of_getElem? (am_ent_get hv)))
/-- a method's start and end, by the abstract heap -/
def am_Pc (D : va_G) (cl : List vw_C) (b0 : Nat) (GL : State → Prop) (as : List Value) (σ : am_H) (top : Nat) : Array Value → State → Prop := va_Pc as (fun U => am_dy D cl b0 U σ top U.heap ∧ GL U)
def am_Qc (D : va_G) (cl : List vw_C) (b0 : Nat) (res : am_R) : Array Value → State → Outcome → State → Prop := fun _ st oc t => (∃ v, res.1 = .inl v ∧ oc = .returned v) ∧ am_dy D cl b0 t res.2.1 res.2.2.1 t.heap ∧ va_F (fun q => b0 ≤ q) st t
/-- the facts that move with the tables, as long as the cells below b0 stay -/
def am_mv (b0 : Nat) (GL : State → Prop) : Prop := ∀ s U : State, s.WarmedH U.vm → s.heap.size ≤ U.heap.size → (∀ q : Nat, q < s.heap.size → ¬ b0 ≤ q → U.heap[q]? = s.heap[q]?) → GL s → GL U
theorem am_blind {D : va_G} {cl : List vw_C} {b0 : Nat} {GL : State → Prop} (hmv : am_mv b0 GL) (as : List Value) (σ : am_H) (top : Nat) : FrameBlind (am_Pc D cl b0 GL as σ top) := by
  intro a U g mk h
  obtain ⟨h1, h2, h3⟩ := h
  exact ⟨h1, h2.moved (U := U.calling g mk a) (Vm.Alike.refl U.vm), hmv U (U.calling g mk a) (State.WarmedH.refl U) (Nat.le_refl _) (fun _ _ _ => rfl) h3⟩
section AMR
variable {p : Program} {l : Launch} {e : Env} {R : Room} {s : State} {m : MethodId} {args : Array Value} {below : List Frame} {meth : Method} {c : Code} {Q : State → Prop}
variable {cc : ByteArray} {D : va_G} {cl : List vw_C} {b0 nL c0 s0 : Nat} {pc top sl : Nat} {lv : am_V} {st rest : List Value} {σ : am_H}
theorem am_w_run {mc ms : Nat} {res : am_R} {r : Option Value} {ar : Array Value} (hres : res.1 = .inl r) (htop : res.2.2.1 = top + mc) (hsl : res.2.2.2 = sl + ms)
    (hr : ∀ (ls : Array Slot) (H : Heap) (locs : List Loc) (cells slots : Nat), am_inv D cl b0 s nL c0 s0 lv σ top sl ls H locs cells slots → va_Run p l e R s m args below meth c H locs cells slots mc ms (F0 m pc ls st) rest (am_Qc D cl b0 res ar) (fun q => b0 ≤ q))
    (k : am_W p l e R s m args below meth c Q D cl b0 nL c0 s0 (pc + 3) lv (r.toList ++ rest) (res.2.1) (res.2.2.1) (res.2.2.2)) : am_W p l e R s m args below meth c Q D cl b0 nL c0 s0 pc lv st σ top sl := by
  intro ls H locs cells slots h T hT X
  obtain ⟨v, st₀, t, T', L, h0, X', hL, e1, e2, ⟨⟨v2, hv, hv2⟩, hdy, hz, hk⟩, stp⟩ := hr ls H locs cells slots h T hT X
  rw [hres] at hv
  cases hv
  cases hv2
  have hal : s.vm.Alike t.vm := by rw [← e2]; exact X'.warmed.alike
  have hS := h.2.2.1
  obtain ⟨hc, hs⟩ := h.2.2.2
  rw [h0] at hz hk
  obtain ⟨t2, a1, b1⟩ := k ls T'.heap (locs ++ L) (cells + mc) (slots + ms) ⟨h.1, by rw [e1]; exact hdy.moved hal.symm, ⟨Nat.le_trans hS.1 (by rw [e1]; exact hz), fun q h1 h2 => by
      rw [e1, hk q (Nat.lt_of_lt_of_le h1 hS.1) h2]
      exact hS.2.1 q h1 h2, fun q hq => by
      rcases List.mem_append.mp hq with z | z
      · exact hS.2.2 q z
      · exact hL q z⟩, by omega, by omega⟩ T' rfl X'
  exact ⟨t2, stp t2 a1, b1⟩
/-- what the tables say of a call -/
def am_cc (t : am_T) (yn : Nat → MethodName) (ws : Nat → List Cond) (s : State) (args : Array Value) (y u v : Nat) : Prop :=
  (∀ w ∈ ws u, ∀ (a' : Array Value) (U : State), s.WarmedH U.vm → w.before a' U = true) ∧ (Cond.initialized (yn u).cls).before args s = true ∧ ((yn u).cls ≠ "java/lang/invoke/MethodHandle" ∧ (yn u).cls ≠ "java/lang/invoke/VarHandle") ∧ (parseMethodDescriptor (yn u).desc).map (fun d => d.parameters.length) = some v ∧ t.2.1 u ≤ 45
def am_lk (yn : Nat → MethodName) (s : State) (args : Array Value) (own : String) (idx u : Nat) : Prop := (Cond.methodLink own idx (yn u)).before args s = true ∨ ∃ host, (Cond.methodLinkNest own idx (yn u) host).before args s = true
def am_cf (t : am_T) (yn : Nat → MethodName) (rtt : Nat → Option FieldType) (ws : Nat → List Cond) (s : State) (args : Array Value) (y : Nat) (i : Instr) (u v : Nat) : Prop := match i with
  | .invokevirtual idx => u < 1000 → am_cc t yn ws s args y u v ∧ am_lk yn s args (yn y).cls idx u ∧ (Cond.instanceMethod (yn u)).before args s = true ∧ (Cond.selects (yn u).cls (yn u) (yn u)).before args s = true ∧ t.2.2.2.2.2.2.1 (t.2.2.2.2.2.2.2.1 u) = (yn u).cls ∧ am_hs t u = [] ∧ (am_hs t y = [] ∨ (Cond.methodLink (yn y).cls idx (yn u)).before args s = true)
  | .invokespecial idx => u < 1000 → am_cc t yn ws s args y u v ∧ am_lk yn s args (yn y).cls idx u ∧ (Cond.instanceMethod (yn u)).before args s = true ∧ (yn u).name = "<init>" ∧ rtt u = none ∧ am_hs t u = [] ∧ am_hs t y = []
  | .invokestatic idx => u < 1000 → am_cc t yn ws s args y u v ∧ am_lk yn s args (yn y).cls idx u ∧ (Cond.static (yn u)).before args s = true ∧ am_hs t y = [] ∧ (am_hs t u = [] ∨ (Cond.methodLink (yn y).cls idx (yn u)).before args s = true)
  | _ => True
theorem am_callB {t : am_T} {yn : Nat → MethodName} {bt : Nat → ByteArray} {rtt : Nat → Option FieldType} {ws : Nat → List Cond} {y u v d mc ms : Nat} {ws' : List Cond} (hws : ws u = .code (yn u) (bt u) (t.2.1 u) (rtt u) :: ws') (h : am_cc t yn ws s args y u v) (hfr : d + 1 ≤ R.frames) (hlo : 64 * (d + 1) ≤ R.locals) {own : String} {idx : Nat}
    (hl : (Cond.methodLink own idx (yn u)).before args s = true) : CallB R s args own idx (yn u) (bt u) (t.2.1 u) (rtt u) (ws u) { frames := d, cells := mc, slots := ms, locals := 64 * d } mc ms v := by
  obtain ⟨h1, h2, h3, h4, h5⟩ := h
  have hc : Cond.code (yn u) (bt u) (t.2.1 u) (rtt u) ∈ ws u := by rw [hws]; exact List.mem_cons_self
  refine ⟨rfl, rfl, hfr, by show 8 + (t.2.1 u + 11) + 64 * d ≤ _; omega, h1, hc, h1 _ hc args s (State.WarmedH.refl s), h2, h3, fun sig hs => ?_, hl⟩
  rw [hs] at h4
  exact (Option.some.inj h4).symm
theorem am_callN {t : am_T} {yn : Nat → MethodName} {bt : Nat → ByteArray} {rtt : Nat → Option FieldType} {ws : Nat → List Cond} {y u v d mc ms : Nat} {ws' : List Cond} (hws : ws u = .code (yn u) (bt u) (t.2.1 u) (rtt u) :: ws') (h : am_cc t yn ws s args y u v) (hfr : d + 1 ≤ R.frames) (hlo : 64 * (d + 1) ≤ R.locals) {own host : String} {idx : Nat}
    (hl : (Cond.methodLinkNest own idx (yn u) host).before args s = true) : va_CN R s args own idx (yn u) host (bt u) (t.2.1 u) (rtt u) (ws u) { frames := d, cells := mc, slots := ms, locals := 64 * d } mc ms v := by
  obtain ⟨h1, h2, h3, h4, h5⟩ := h
  have hc : Cond.code (yn u) (bt u) (t.2.1 u) (rtt u) ∈ ws u := by rw [hws]; exact List.mem_cons_self
  refine ⟨⟨rfl, rfl, hfr, by show 8 + (t.2.1 u + 11) + 64 * d ≤ _; omega, h1, hc⟩, h1 _ hc args s (State.WarmedH.refl s), h2, h3, fun sig hs => ?_, hl⟩
  rw [hs] at h4
  exact (Option.some.inj h4).symm
end AMR
end
section
/-- the same place of a walk, seen as if the method had been entered with the heap as it is now -/
theorem am_rebase {p : Program} {l : Launch} {e : Env} {R : Room} {s : State} {m : MethodId} {args : Array Value} {below : List Frame} {meth : Method} {c : Code} {T : State} {locs : List Loc} {cells slots : Nat} (X : Stand p l e R s m args below meth c T locs cells slots) (hc : cells ≤ R.cells) (hs : slots ≤ R.slots) :
    Stand p l e { frames := R.frames, cells := R.cells - cells, slots := R.slots - slots, locals := R.locals } (T.setFrames (.invoking m args :: below)) m args below meth c T [] 0 0 := by
  have hcurT : T.cur < T.threads.size := by
    obtain ⟨g₀, hr⟩ := X.frames_eq
    obtain ⟨th, hth, -⟩ := State.frames_cons hr
    exact (Array.getElem?_eq_some_iff.mp hth).1
  have hfr : (T.setFrames (.invoking m args :: below)).frames = .invoking m args :: below := State.frames_setFrames _ hcurT
  obtain ⟨g₀, hr⟩ := X.frames_eq
  obtain ⟨th, hth, -⟩ := State.frames_cons hr
  have hmeth : T.vm.method? m = some meth := X.method'
  have hroom := X.room
  have hb := X.bytes
  have hl := X.limits
  have hsz := X.heapSize
  have hus := X.used
  have hbk := X.book
  refine ⟨X.admits, X.cas, X.clock, hfr, ?_, ?_, hmeth, X.code, X.here, X.tail, State.WarmedH.refl _, by rw [State.stackLimits_setFrames], by rw [State.stackBytes_setFrames], ?_⟩
  · have e1 : s.localsInUse = _ := State.localsInUse_invoking X.frames X.method X.code
    have e2 : (T.setFrames (.invoking m args :: below)).localsInUse = _ := State.localsInUse_invoking hfr hmeth X.code
    simp only [State.hasRoom, Bool.and_eq_true, decide_eq_true_eq] at hroom ⊢
    rw [e1, X.frames] at hroom
    rw [e2, hfr, State.stackLimits_setFrames, State.stackBytes_setFrames, hb, hl]
    refine ⟨⟨⟨⟨hroom.1.1.1.1, hroom.1.1.1.2⟩, ?_⟩, ?_⟩, hbk⟩
    · show T.heap.size + (R.cells - cells) ≤ _
      have := hroom.1.1.2
      omega
    · show T.slotsUsed + (R.slots - slots) ≤ _
      have := hroom.1.2
      omega
  · have hh := X.hears
    cases below with
    | nil =>
      simp only [State.hears, X.method] at hh
      simp only [State.hears]
      rw [show (T.setFrames (.invoking m args :: [])).vm.method? m = some meth from hmeth]
      exact hh
    | cons f r =>
      cases f with
      | java g =>
        simp only [State.hears] at hh ⊢
        rw [State.code?_eq] at hh ⊢
        cases hmg : s.vm.method? g.method with
        | none => rw [hmg] at hh; cases hh
        | some mg =>
          rw [hmg] at hh
          rw [show (T.setFrames (.invoking m args :: .java g :: r)).vm.method? g.method = some mg from X.warmed.methodAt hmg]
          exact hh
      | native _ => rfl
      | proc _ => rfl
      | _ =>
        simp only [State.hears, X.method] at hh
        simp only [State.hears]
        first
          | (rw [show (T.setFrames _).vm.method? m = some meth from hmeth]; exact hh)
          | (simp only [hmeth]; exact hh)
  · have h := (State.sameButNew.refl T hth)
    have h2 : (T.setFrames (.invoking m args :: below)).threads[(T.setFrames (.invoking m args :: below)).cur]? = _ := (State.frames_cons hfr).choose_spec.1
    have h3 := (State.sameButNew.refl (T.setFrames (.invoking m args :: below)) h2).setFrames T.frames (State.cur_lt_of_frames hfr)
    rw [State.setFrames_setFrames, State.setFrames_self hth] at h3
    exact h3
end
section
def am_QcT (D : va_G) (cl : List vw_C) (b0 : Nat) (res : am_R) : Array Value → State → Outcome → State → Prop := fun _ st oc t => (∃ a, res.1 = .inr a ∧ oc = .threw a) ∧ am_dy D cl b0 t res.2.1 res.2.2.1 t.heap ∧ va_F (fun q => b0 ≤ q) st t
/-- the end of a method that throws -/
def am_MQT (below : List Frame) (Qc : Array Value → State → Outcome → State → Prop) (a : Array Value) (s : State) (mc ms : Nat) (free : Addr → Prop) : State → Prop := fun t =>
  ∃ o, t.status = .running ∧ Ended t below o ∧ Qc a s o t ∧ (∃ x, o = .threw x) ∧ s.WarmedH t.vm ∧ ∃ L, s.sameButNew ({ t with vm := s.vm } : State) L mc ms ∧ ∀ q ∈ L, free q.base
def am_sup : List String := ["java/lang/RuntimeException", "java/lang/Exception"]
/-- what the tables say where an exception is made and thrown -/
def am_tf (s : State) (args : Array Value) (cc : ByteArray) (own C : String) (pc idx ic : Nat) : Prop :=
  decode cc pc = .ok (.new idx, 3) ∧ decode cc (pc + 3) = .ok (.dup, 1) ∧ decode cc (pc + 4) = .ok (.invokespecial ic, 3) ∧ decode cc (pc + 7) = .ok (.athrow, 1) ∧ (Cond.classLink own idx C).before args s = true ∧ (Cond.initialized C).before args s = true ∧
  Bundle.fit C = true ∧ (∀ w ∈ Bundle.ownAtoms0 own ic C am_sup, w.before args s = true)
theorem am_w_throw {p : Program} {l : Launch} {e : Env} {R : Room} {s : State} {m : MethodId} {args : Array Value} {below : List Frame} {meth : Method} {c : Code} {cc : ByteArray} {D : va_G} {cl : List vw_C} {b0 nL c0 s0 pc top sl : Nat} {lv : am_V} {st : List Value} {σ : am_H} {GL : State → Prop} {own C : String} {T0 : u_T} {u idx ic : Nat} {res : am_R}
    (hx : p.tables.exec = Jvm.exec) (hb : c.code = cc) (hml : c.maxLocals = nL) (hfl : l.flags = pinnedFlags ++ [noTraceFlag]) (hlocks : meth.locks = false) (hmt : c.exceptionTable.isEmpty = true) (hown : s.vm.findClass own = some m.cls) (hmv : am_mv b0 GL) (hgl : GL s) (htf : ∀ s' : State, GL s' → am_tf s' args cc own C pc idx ic)
    (hc : cl[u]? = some (C, T0, 0)) (hfr : 6 ≤ R.frames) (hlo : 200 ≤ R.locals) (hw : (st.map fun w => w.category).sum ≤ 8) (hr1 : top + 1 ≤ R.cells + c0) (hr2 : sl + 6 ≤ R.slots + s0) (hres : res = (.inr top, am_up σ top (.inr (.inl (u, []))), top + 1, sl + 6)) :
    am_W p l e R s m args below meth c (am_MQT below (am_QcT D cl b0 res) args s (res.2.2.1 - c0) (res.2.2.2 - s0) (fun q => b0 ≤ q)) D cl b0 nL c0 s0 pc lv st σ top sl := by
  intro ls H locs cells slots h T hT X
  obtain ⟨hcc, hss⟩ := h.2.2.2
  have X0 := am_rebase X (by omega) (by omega)
  have hS := h.2.2.1
  generalize hs' : T.setFrames (.invoking m args :: below) = s' at X0
  have hh : s'.heap = H := by rw [← hs']; exact hT
  have hvm : s'.vm = T.vm := by rw [← hs']; rfl
  have hW' : s.WarmedH s'.vm := by rw [hvm]; exact X.warmed
  have hgl' : GL s' := hmv s s' hW' (by rw [hh]; exact hS.1) (fun q h1 h2 => by rw [hh]; exact hS.2.1 q h1 h2) hgl
  obtain ⟨d0, d3, d4, d7, hcl, hini, hfit, hat⟩ := htf s' hgl'
  have hins : (Cond.instantiable C 6).before args s' = true := hat _ (by simp [Bundle.ownAtoms0])
  have hown' : s'.vm.findClass own = some m.cls := by rw [hW'.alike.findClass]; exact hown
  obtain ⟨hsz, hbt, tys, hK, hcells⟩ := h.2.1
  have hfc : s'.vm.findClass C = some (D.1 u) := by rw [hW'.alike.findClass]; exact (hK.1 u _ hc).2.1
  have hsame1 : s.sameButNew (s'.setVm s.vm) locs cells slots := by
    have h1 := X.same.setFrames (.invoking m args :: below) X.cur
    rw [← hs']
    exact h1
  have key : W p l e { frames := R.frames, cells := R.cells - cells, slots := R.slots - slots, locals := R.locals } s' m args below meth c H [] 0 0 (am_MQT below (am_QcT D cl b0 res) args s (res.2.2.1 - c0) (res.2.2.2 - s0) (fun q => b0 ≤ q)) (F0 m pc ls st) := by
    refine W.newcK hx hb hown' hcl hins hini rfl d0 (by show 0 + 1 ≤ R.cells - cells; omega) (by show 0 + 6 ≤ R.slots - slots; omega) hfc hsz fun H1 kC hkC e1 z1 o1 => ?_
    refine lv_dup hx hb d3 rfl ?_
    intro T2 hT2 X2
    obtain ⟨U, st1, hrun, hend, hWU, hsame, ce, hce, hoc⟩ := X2.ctorThrow0 hx (Launch.traces_off hfl X.admits) hown' hfit (names := am_sup) (by decide +kernel) hat (fun x hx => by cases hx) hfc hkC (by rw [hT2]; exact e1) (by rw [hh, hsz]; exact Nat.le_refl _)
      (g := F0 m (pc + 3 + 1) ls (.ref top :: .ref top :: st)) rfl (by rw [hml]; exact h.1.1.1) rfl rfl (rest := st) rfl (by rw [hb]; exact d4) (by rw [hb]; exact d7) (fun x hx => by
        have : c.exceptionTable.toList = [] := by
          have := Array.isEmpty_iff.mp hmt
          rw [this]
        rw [this] at hx
        cases hx) (by show 2 + 3 < R.frames; omega) (by
        show 2 * 0 + ((Value.ref top :: st).map fun v => v.category).sum + (13 * (2 + 1) + 41) ≤ R.locals
        rw [List.map_cons, List.sum_cons]
        show 2 * 0 + (1 + _) + _ ≤ _
        omega) hlocks
    have hlt : top < U.heap.size := (Array.getElem?_eq_some_iff.mp hce).1
    have hle : U.heap.size ≤ s'.heap.size + (0 + 1) := hsame.2.2.1
    rw [hh, hsz] at hle
    have hsize : U.heap.size = top + 1 := by omega
    have oq : ∀ q : Nat, q < top → U.heap[q]? = H[q]? := by
      intro q hq
      have hq2 : q < H.size := by rw [hsz]; exact hq
      have h3 : H[q]? = some H[q] := Array.getElem?_eq_getElem hq2
      have h4 : s'.heap[q]? = some H[q] := by rw [hh]; exact h3
      rw [h3]
      exact State.sameButNew.old_cell hsame h4
    have hWs : s.WarmedH U.vm := State.WarmedH.trans hW' hWU
    obtain ⟨a1, a2, tys', a3, a4⟩ := h.2.1.moved (U := U) hWs.alike
    refine ⟨U, st1, .threw top, hrun, hend, ⟨⟨top, by rw [hres], rfl⟩, ?_, ?_, ?_⟩, ⟨top, rfl⟩, hWs, locs ++ [], ?_, ?_⟩
    · rw [hres]
      refine am_dy_push a1 a2 a3 (fun _ z => z) a4 hsize oq ⟨hbt, (C, T0, 0), hc, rfl, ce, hce, ?_, hoc.vm, fun k hk => absurd hk (Nat.not_lt_zero k)⟩
      exact Option.some.inj (hoc.cls.symm.trans hfc)
    · rw [hsize]
      have := hS.1
      omega
    · intro q h1 h2
      have h3 : q < top := by rw [← hsz]; exact Nat.lt_of_lt_of_le h1 hS.1
      rw [oq q h3]
      exact hS.2.1 q h1 h2
    · have h5 := hsame1.trans (hsame.setVm s.vm)
      rw [hres]
      rw [show top + 1 - c0 = cells + (0 + 1) by omega, show sl + 6 - s0 = slots + (0 + 6) by omega]
      exact h5
    · intro q hq
      rw [List.append_nil] at hq
      exact hS.2.2 q hq
  exact key T hT X0
end
section
/-! a handler is sought: the class of an entry may be linked only now -/
section AMF
variable {Q : Handler → Pre} {E : CtlPost} {e : Env} {d : Bool} {acts : List Action} {s : State} {f : JFrame} {a : Addr}
theorem am_seek {x : ExceptionTableEntry} {t : List ExceptionTableEntry} {k : ClassId} {cell : Cell} (hx : covers x f.pc = true) (h0 : x.catchType ≠ 0) (hl : s.vm.ClassLinks e.platform f.method.cls x.catchType k) (hcell : s.heap[a]? = some cell) (hobj : ∀ z, cell.vm ≠ .statics z)
    (h1 : ∃ z, s.vm.classes[cell.cls]? = some z) (h2 : ∃ z, s.vm.classes[k]? = some z) : wp (findHandler.go f a (x :: t)) Q E e d acts s ↔ (if s.vm.assignable cell.cls k = true then Q (.found x.handlerPc) d acts (s.setVm (s.vm.noted f.method.cls x.catchType (.cls k))) else wp (findHandler.go f a t) Q E e d acts (s.setVm (s.vm.noted f.method.cls x.catchType (.cls k)))) := by
  simp only [covers] at hx
  obtain ⟨g1, g2⟩ := (resolveClass_links e.toSetting hl).op (op := VmOp.resolveClass f.method.cls x.catchType) rfl
  have hal : s.vm.Alike (s.vm.noted f.method.cls x.catchType (.cls k)) := (Vm.Alike.refl s.vm).noted _ _ _
  obtain ⟨z1, hz1⟩ := h1
  obtain ⟨z2, hz2⟩ := h2
  obtain ⟨w1, hw1, -⟩ := hal.2.2 _ _ hz1
  obtain ⟨w2, hw2, -⟩ := hal.2.2 _ _ hz2
  have hasg : (s.vm.noted f.method.cls x.catchType (.cls k)).assignable cell.cls k = s.vm.assignable cell.cls k := hal.assignable _ _
  by_cases hy : s.vm.assignable cell.cls k = true
  · rw [if_pos hy]
    rw [hy] at hasg
    simp [findHandler.go, hx, h0, g1, g2, hcell, hobj, hw1, hw2, hasg, VmOp.dirties, VmOp.acts]
  · rw [if_neg hy]
    have hy2 : s.vm.assignable cell.cls k = false := by simpa using hy
    rw [hy2] at hasg
    simp [findHandler.go, hx, h0, g1, g2, hcell, hobj, hw1, hw2, hasg, VmOp.dirties, VmOp.acts]
end AMF
/-- the search ends at a handler; the tables may be warmer behind it -/
theorem am_caught {tb : Tables} {e : Env} {s target : State} {g : JFrame} {c : Code} {below : List Frame} {a : Addr} (h : At s g.method c below) {pc : Nat} {vm' : Vm}
    (hfind : ∀ (Q : Handler → Pre) (E : CtlPost) (d : Bool) (acts : List Action), wp (findHandler g a) Q E e d acts ((s.setTop g).pushFrame (.throwing a)) ↔ Q (.found pc) d acts (((s.setTop g).pushFrame (.throwing a)).setVm vm'))
    (hrest : Steps tb e below ((s.setVm vm').setTop { g with pc := pc, stack := [.ref a] }) target) : Steps tb e below ((s.setTop g).pushFrame (.throwing a)) target := by
  obtain ⟨hgo, hw⟩ := h.throwing a
  refine Steps.head hgo hw ?_
  rw [stepThread_throwing (frames_entered h.top _)]
  have hst : ∀ r, (stepThrowing e ((s.setTop g).pushFrame (.throwing a)) a (.java g :: r)).Is ((((s.setTop g).pushFrame (.throwing a)).setVm vm').setFrames (.java { g with pc := pc, stack := [.ref a] } :: r)) [] := by
    intro r
    simp only [stepThrowing, searchFrame, vmDo]
    generalize hr : Sem.go _ e false [] _ = res
    obtain ⟨as, rfl, ha⟩ := Sem.eq_ok_of hr (a := Handler.found pc) (s' := ((s.setTop g).pushFrame (.throwing a)).setVm vm') (acts' := []) (by simp [hfind _ _ _ _])
    exact ⟨rfl, ha⟩
  rw [(hst _).1]
  obtain ⟨g₀, hg⟩ := Option.isSome_iff_exists.mp h.top
  obtain ⟨r, hr⟩ := State.topJava?_eq_some.mp hg
  have hr' : (s.setVm vm').frames = .java g₀ :: r := hr
  rw [State.setTop_of_frames _ hr'] at hrest
  rw [hr, List.tail_cons, State.pushFrame, State.setTop_of_frames _ hr]
  have key : ∀ (u : State) (F G K : List Frame), (((u.setFrames F).setFrames G).setVm vm').setFrames K = (u.setVm vm').setFrames K := by
    intro u F G K
    rw [State.setFrames_setFrames]
    have h1 : (u.setFrames G).setVm vm' = (u.setVm vm').setFrames G := rfl
    rw [h1, State.setFrames_setFrames]
  rw [key]
  exact hrest
end
section
section AMX
variable {p : Program} {l : Launch} {e : Env} {R : Room} {s : State} {m : MethodId} {args : Array Value} {below : List Frame} {meth : Method} {c : Code} {T : State} {locs : List Loc} {cells slots : Nat}
/-- an entry's class, as it is linked -/
theorem am_ent_link (X : Stand p l e R s m args below meth c T locs cells slots) {own N : String} {i : Nat} (hown : s.vm.findClass own = some m.cls) (hl : (Cond.classLink own i N).before args s = true) {kN : ClassId} (hN : s.vm.findClass N = some kN) {vm1 : Vm} (hW : s.WarmedH vm1) :
    vm1.ClassLinks e.platform m.cls i kN ∧ s.WarmedH (vm1.noted m.cls i (.cls kN)) ∧ ∃ z, vm1.classes[kN]? = some z := by
  have hpl : e.platform.magicAccessors = ({} : Platform).magicAccessors := by rw [X.admits.platform]
  obtain ⟨c', hc', hcl⟩ := Cond.classLink_spec hown hl e.platform hpl
  cases hN.symm.trans hc'
  obtain ⟨dk, _, _, kt, hd, _, _, _, _, hkt, _, hopen⟩ := hcl.here
  obtain ⟨kt', hkt', -⟩ := hW.alike.2.2 _ _ hkt
  exact ⟨hW.classLinks hcl, hW.noted hd hopen (State.rightAt_cls hcl), kt', hkt'⟩
theorem am_find1 (X : Stand p l e R s m args below meth c T locs cells slots) {g : JFrame} (hg : g.method = m) {a : Addr} {cell : Cell} {own N : String} {kN : ClassId} {x : ExceptionTableEntry} {tl : List ExceptionTableEntry} (hown : s.vm.findClass own = some m.cls) (htab : c.exceptionTable.toList = x :: tl)
    (hx : covers x g.pc = true) (h0 : x.catchType ≠ 0) (hl : (Cond.classLink own x.catchType N).before args s = true) (hN : s.vm.findClass N = some kN) (hcell : T.heap[a]? = some cell) (hobj : ∀ z, cell.vm ≠ .statics z) (hcc : ∃ z, s.vm.classes[cell.cls]? = some z) (hasg : s.vm.assignable cell.cls kN = true) :
    ∃ vm', s.WarmedH vm' ∧ ∀ (Q : Handler → Pre) (E : CtlPost) (d : Bool) (acts : List Action), wp (findHandler g a) Q E e d acts ((T.setTop g).pushFrame (.throwing a)) ↔ Q (.found x.handlerPc) d acts (((T.setTop g).pushFrame (.throwing a)).setVm vm') := by
  subst hg
  obtain ⟨k1, k2, k3⟩ := am_ent_link X hown hl hN X.warmed
  obtain ⟨z, hz⟩ := hcc
  obtain ⟨z', hz', -⟩ := X.warmed.alike.2.2 _ _ hz
  refine ⟨_, k2, fun Q E d acts => ?_⟩
  rw [W.findHandler_eq (s := (T.setTop g).pushFrame (.throwing a)) (f := g) X.method' X.code, htab]
  rw [am_seek (s := (T.setTop g).pushFrame (.throwing a)) (f := g) (k := kN) (cell := cell) hx h0 k1 hcell hobj ⟨z', hz'⟩ k3]
  rw [if_pos (show ((T.setTop g).pushFrame (.throwing a)).vm.assignable cell.cls kN = true from (X.warmed.alike.assignable _ _).trans hasg)]
  exact Iff.rfl
theorem am_find2 (X : Stand p l e R s m args below meth c T locs cells slots) {g : JFrame} (hg : g.method = m) {a : Addr} {cell : Cell} {own N N1 : String} {kN k1N : ClassId} {x x1 : ExceptionTableEntry} {tl : List ExceptionTableEntry} (hown : s.vm.findClass own = some m.cls) (htab : c.exceptionTable.toList = x1 :: x :: tl)
    (hx1 : covers x1 g.pc = true) (h01 : x1.catchType ≠ 0) (hl1 : (Cond.classLink own x1.catchType N1).before args s = true) (hN1 : s.vm.findClass N1 = some k1N) (hno : s.vm.assignable cell.cls k1N = false)
    (hx : covers x g.pc = true) (h0 : x.catchType ≠ 0) (hl : (Cond.classLink own x.catchType N).before args s = true) (hN : s.vm.findClass N = some kN) (hcell : T.heap[a]? = some cell) (hobj : ∀ z, cell.vm ≠ .statics z) (hcc : ∃ z, s.vm.classes[cell.cls]? = some z) (hasg : s.vm.assignable cell.cls kN = true) :
    ∃ vm', s.WarmedH vm' ∧ ∀ (Q : Handler → Pre) (E : CtlPost) (d : Bool) (acts : List Action), wp (findHandler g a) Q E e d acts ((T.setTop g).pushFrame (.throwing a)) ↔ Q (.found x.handlerPc) d acts (((T.setTop g).pushFrame (.throwing a)).setVm vm') := by
  subst hg
  obtain ⟨k1, k2, k3⟩ := am_ent_link X hown hl1 hN1 X.warmed
  obtain ⟨j1, j2, j3⟩ := am_ent_link X hown hl hN k2
  obtain ⟨z, hz⟩ := hcc
  obtain ⟨z', hz', -⟩ := X.warmed.alike.2.2 _ _ hz
  obtain ⟨z2, hz2, -⟩ := k2.alike.2.2 _ _ hz
  refine ⟨_, j2, fun Q E d acts => ?_⟩
  rw [W.findHandler_eq (s := (T.setTop g).pushFrame (.throwing a)) (f := g) X.method' X.code, htab]
  rw [am_seek (s := (T.setTop g).pushFrame (.throwing a)) (f := g) (k := k1N) (cell := cell) hx1 h01 k1 hcell hobj ⟨z', hz'⟩ k3]
  rw [if_neg (show ¬ ((T.setTop g).pushFrame (.throwing a)).vm.assignable cell.cls k1N = true from fun hh => by
    have := (X.warmed.alike.assignable cell.cls k1N).symm.trans hh
    rw [hno] at this
    cases this)]
  erw [am_seek (s := ((T.setTop g).pushFrame (.throwing a)).setVm (T.vm.noted g.method.cls x1.catchType (.cls k1N))) (f := g) (k := kN) (cell := cell) hx h0 j1 hcell hobj ⟨z2, hz2⟩ j3]
  rw [if_pos (show (((T.setTop g).pushFrame (.throwing a)).setVm (T.vm.noted g.method.cls x1.catchType (.cls k1N))).vm.assignable cell.cls kN = true from (k2.alike.assignable _ _).trans hasg)]
  exact Iff.rfl
/-- the contract of a method that throws -/
def am_MT (l : Launch) (y : MethodName) (ws : List Cond) (rm : Room) (Pc : Array Value → State → Prop) (Qc : Array Value → State → Outcome → State → Prop) (mc ms : Nat) (free : Addr → Prop) : Prop :=
  MetFree l y (headSpec ws rm) Pc (fun _ _ _ _ _ => True) (fun a st o t => Qc a st o t ∧ (∃ x, o = .threw x) ∧ st.WarmedH t.vm ∧ ∃ L, st.sameButNew ({ t with vm := st.vm } : State) L mc ms ∧ ∀ q ∈ L, free q.base)
theorem am_MT_ofW {y : MethodName} {ws ws' : List Cond} {rm : Room} {Pc : Array Value → State → Prop} {Qc : Array Value → State → Outcome → State → Prop} {mc ms : Nat} {free : Addr → Prop} {cc : ByteArray} {maxL : Nat} {ret : Option FieldType} (hy : plainName y.cls = true) (hw : ws = Cond.code y cc maxL ret :: ws')
    (body : ∀ p e s m args below meth c s₁, BodyLoose p l y (headSpec ws rm) cc maxL ret e s m args below meth c s₁ → c.maxLocals = maxL → Pc args s →
      W p l e (headSpec ws rm).room s m args below meth c s.heap [] 0 0 (am_MQT below Qc args s mc ms free) (entryFrame m args maxL)) : am_MT l y ws rm Pc Qc mc ms free := by
  refine MetFree.of_bodyS (code := cc) (maxLocals := maxL) (ret := ret) hy ?_ ?_
  · intro args s m h hn
    obtain ⟨meth, c, h1, h2, h3, h4, h5, h6, -, -⟩ := Cond.code_spec hn (atoms_spec (ws := ws) h _ (by rw [hw]; exact List.mem_cons_self))
    exact ⟨meth, c, h1, h2, h3, h4, h5, h6⟩
  · intro p e s m args below meth c s₁ B hml hP _
    have hh0 : s₁.heap = s.heap := by rw [B.state]; rfl
    obtain ⟨t, a1, o, b1, b2, b3⟩ := body p e s m args below meth c s₁ B hml hP s₁ hh0 (Stand.of_body B)
    exact ⟨t, o, a1, b1, b2, b3⟩
/-- a call on an object, of a method that throws: the note lies over the caller's frame -/
theorem am_threw (X : Stand p l e R s m args below meth c T locs cells slots) (hx : p.tables.exec = Jvm.exec) {own C : String} {index mc ms n : Nat} {y : MethodName} {bytes : ByteArray} {maxL : Nat} {ret : Option FieldType} {ws : List Cond} {rm : Room} {Pc : Array Value → State → Prop} {Qc : Array Value → State → Outcome → State → Prop} {free : Addr → Prop}
    (hown : s.vm.findClass own = some m.cls) (hM : am_MT l y ws rm Pc Qc mc ms free) (cw : CallW R s args own C index y bytes maxL ret ws rm mc ms n) {H : Heap} (hT : T.heap = H) {b : Addr} {As rest : List Value} (hp : PreV s H C b Pc As)
    {g : JFrame} (hg : g.method = m) (hn : As.length = n) (hsize : g.locals.size = c.maxLocals) (hstack : g.stack = As.reverse ++ .ref b :: rest) (hW : 2 * g.monitorRoom + (rest.map fun v => v.category).sum ≤ 8) (hdg : decode c.code g.pc = .ok (.invokevirtual index, 3)) (hf : cells + mc ≤ R.cells ∧ slots + ms ≤ R.slots) :
    ∃ (x : Addr) (st₀ t T' : State) (L : List Loc), st₀.heap = H ∧ Stand p l e R s m args below meth c T' (locs ++ L) (cells + mc) (slots + ms) ∧ (∀ q ∈ L, free q.base) ∧ T'.heap = t.heap ∧ T'.vm = t.vm ∧ Qc (Value.ref b :: As).toArray st₀ (.threw x) t ∧
      ∀ tg, Steps p.tables e below ((T'.setTop { g with stack := rest }).pushFrame (.throwing x)) tg → Steps p.tables e below (T.setTop g) tg := by
  obtain ⟨⟨hrc, hrs, hfr, hlo, hws, hcw, hcode, hini, hy, hlen, hl⟩, hin, hsel⟩ := cw
  obtain ⟨hblind, ⟨cellB, hcB, hoB, hclB⟩, hPc⟩ := hp
  obtain ⟨mk, methM, hnamed, hmethM, hstM, habM⟩ := Cond.instanceMethod_spec hin
  obtain ⟨methM', cM, hmethM', hcM, -, hlM, -, -, -, hsigM⟩ := Cond.code_spec hnamed hcode
  cases hmethM.symm.trans hmethM'
  obtain ⟨c2, r2, m2, q1, q2, q3, q4, kP, hkP, hkPi⟩ := Cond.selects_spec hsel
  cases hclB.symm.trans q1
  cases (State.methodFound?_of_named hnamed hy).symm.trans q2
  cases hnamed.symm.trans q3
  have hselP : selectMethod e.platform s.vm cellB.cls mk = .method mk := by rw [Launch.admits_selectMethod X.admits]; exact q4
  obtain ⟨vm₁, X₁, hstep₁⟩ := X.invokevirtual hx hown hl hnamed hmethM hstM hkP hkPi hy (a := b) (cell := cellB) (by rw [hT]; exact hcB)
    (fun z h => by rw [h] at hoB; cases hoB) hselP hmethM habM hkP hkPi (g := g) hg (argsL := As) (rest := rest) (hn.trans (hlen _ hsigM)) hstack hdg
  have hnU : (T.setVm vm₁).methodNamed? y = some mk := X₁.named hnamed
  have hcodeU := hws _ hcw (Value.ref b :: As).toArray (T.setVm vm₁) X₁.warmed
  have hiniU : (Cond.initialized y.cls).before (Value.ref b :: As).toArray (T.setVm vm₁) = true := word_at X₁.warmed (Or.inl (by first | rfl | simp [Cond.onTables, Cond.keeps, Cond.steady])) hini
  obtain ⟨methY, cY, hmY, hcY, -, hlY, -, -, -, -⟩ := Cond.code_spec hnU hcodeU
  obtain ⟨kY, hkY, -⟩ := className_of_methodNamed hnU
  have hinitY : kY.init = .initialized := Cond.initialized_spec (findClass_of_methodNamed hnU) hkY hiniU
  have h : At (T.setVm vm₁) ({ g with stack := rest } : JFrame).method c below := by
    show At (T.setVm vm₁) g.method c below
    rw [hg]
    exact X₁.here
  have happ : (headSpec ws rm).appliesLoose y e.platform ((T.setVm vm₁).calling { g with stack := rest } mk (Value.ref b :: As).toArray) = true :=
    Spec.appliesLoose_calling (g := { g with stack := rest }) h hdg hnU hkY hinitY
      (X₁.room_calling (g := { g with stack := rest }) (R' := (headSpec ws rm).room) hsize hmY hcY hfr (by rw [hlY]; show 2 * g.monitorRoom + (rest.map fun v => v.category).sum + (maxL + 11) + rm.locals ≤ R.locals; omega) (by show cells + rm.cells ≤ _; rw [hrc]; exact hf.1) (by show slots + rm.slots ≤ _; rw [hrs]; exact hf.2))
      (atoms_intro fun w hw => hws w hw _ _ X₁.warmed)
  obtain ⟨mid, hmid⟩ := h.above
  have hfr2 : ((T.setVm vm₁).setTop { g with stack := rest }).frames = (.java { g with stack := rest } :: mid) ++ below := by rw [State.frames_setTop' _ h.top, hmid]; rfl
  obtain ⟨o, s₂, hsteps, -, hend, hq⟩ := Steps.callFree hM p X.admits X.cas X.clock (acts := []) hfr2 happ (hblind _ _ { g with stack := rest } mk (hPc (T.setVm vm₁) hT X₁.warmed)) trivial
  have hq' : _ ∧ _ := hq
  obtain ⟨hQ, ⟨x, rfl⟩, hWW, L, hsame, hL⟩ := hq'
  have hend' : Ended s₂ (.java { g with stack := rest } :: below) (.threw x) := by
    have e1 : ((T.setVm vm₁).setTop { g with stack := rest }).frames = .java { g with stack := rest } :: below := by
      obtain ⟨g₀, hr⟩ := X₁.frames_eq
      rw [State.frames_setTop' _ h.top, hr]
      rfl
    rw [e1] at hend
    exact hend
  obtain ⟨T', X', hW', -, ht⟩ := X₁.outOfThrown (g := { g with stack := rest }) hg (mk := mk) (a := (Value.ref b :: As).toArray) hend' hWW hsame
  refine ⟨x, (T.setVm vm₁).calling { g with stack := rest } mk (Value.ref b :: As).toArray, s₂, T', L, hT, X', hL, ?_, ?_, hQ, fun tg hs => ?_⟩
  · rw [ht]
    exact (Stand.throwing_heap T' _ x).symm
  · rw [ht]
    exact (Stand.throwing_vm T' _ x).symm
  · refine hstep₁ _ fun acts => ?_
    rw [doInvoke_state]
    rw [← ht] at hs
    exact hsteps.trans hs
end AMX
end
section
section AMY
variable {p : Program} {l : Launch} {e : Env} {R : Room} {s : State} {m : MethodId} {args : Array Value} {below : List Frame} {meth : Method} {c : Code} {T : State} {locs : List Loc} {cells slots : Nat}
def am_he (x : ExceptionTableEntry) : Nat × Nat × Nat × Nat := (x.startPc, x.endPc, x.handlerPc, x.catchType)
theorem am_skip {Q : Handler → Pre} {E : CtlPost} {d : Bool} {acts : List Action} {U : State} {f : JFrame} {a : Addr} {x : ExceptionTableEntry} {t : List ExceptionTableEntry} (hx : ¬ (x.startPc ≤ f.pc ∧ f.pc < x.endPc)) : wp (findHandler.go f a (x :: t)) Q E e d acts U ↔ wp (findHandler.go f a t) Q E e d acts U := by
  have h2 : (decide (x.startPc ≤ f.pc) && decide (f.pc < x.endPc)) = false := by
    rw [Bool.and_eq_false_iff, decide_eq_false_iff_not, decide_eq_false_iff_not]
    exact Decidable.not_and_iff_or_not.mp hx
  rw [findHandler.go]
  simp only [h2]
  rfl
/-- the handlers, one after another -/
theorem am_finds {g : JFrame} (X : Stand p l e R s g.method args below meth c T locs cells slots) {a : Addr} {cell : Cell} {own : String} {nm : Nat → String} {kN : Nat → ClassId} {cx r : Nat} (hown : s.vm.findClass own = some g.method.cls) (hcell : T.heap[a]? = some cell) (hobj : ∀ z, cell.vm ≠ .statics z) (hcc : ∃ z, s.vm.classes[cell.cls]? = some z) :
    ∀ (hs : List ((Nat × Nat × Nat × Nat) × Nat)) (xs : List ExceptionTableEntry) (vm1 : Vm), s.WarmedH vm1 → xs.map am_he = hs.map Prod.fst →
      (∀ h ∈ hs, h.1.2.2.2 ≠ 0 ∧ (Cond.classLink own h.1.2.2.2 (nm h.2)).before args s = true ∧ s.vm.findClass (nm h.2) = some (kN h.2) ∧ s.vm.assignable cell.cls (kN h.2) = decide (cx = h.2)) → am_hw cx g.pc hs = some r →
      ∃ vm', s.WarmedH vm' ∧ ∀ (Q : Handler → Pre) (E : CtlPost) (d : Bool) (acts : List Action), wp (findHandler.go g a xs) Q E e d acts (((T.setTop g).pushFrame (.throwing a)).setVm vm1) ↔ Q (.found r) d acts (((T.setTop g).pushFrame (.throwing a)).setVm vm')
  | [], xs, vm1, hW, hm, hf, h => by cases h
  | y :: hs, [], vm1, hW, hm, hf, h => by cases hm
  | y :: hs, x :: xs, vm1, hW, hm, hf, h => by
    rw [List.map_cons, List.map_cons] at hm
    have hx : am_he x = y.1 := (List.cons.inj hm).1
    have hm' := (List.cons.inj hm).2
    have e1 : x.startPc = y.1.1 := congrArg Prod.fst hx
    have e2 : x.endPc = y.1.2.1 := congrArg (fun z => z.2.1) hx
    have e3 : x.handlerPc = y.1.2.2.1 := congrArg (fun z => z.2.2.1) hx
    have e4 : x.catchType = y.1.2.2.2 := congrArg (fun z => z.2.2.2) hx
    obtain ⟨h0, hl, hN, hasg⟩ := hf y List.mem_cons_self
    unfold am_hw at h
    by_cases hc : y.1.1 ≤ g.pc ∧ g.pc < y.1.2.1
    · rw [if_pos hc] at h
      rw [← e4] at h0 hl
      obtain ⟨k1, k2, k3⟩ := am_ent_link X hown hl hN hW
      obtain ⟨z, hz⟩ := hcc
      obtain ⟨z', hz', -⟩ := hW.alike.2.2 _ _ hz
      have hcv : covers x g.pc = true := by
        show (decide (x.startPc ≤ g.pc) && decide (g.pc < x.endPc)) = true
        rw [e1, e2, Bool.and_eq_true, decide_eq_true_eq, decide_eq_true_eq]
        exact hc
      have hs := fun (Q : Handler → Pre) (E : CtlPost) (d : Bool) (acts : List Action) => am_seek (Q := Q) (E := E) (e := e) (d := d) (acts := acts) (s := ((T.setTop g).pushFrame (.throwing a)).setVm vm1) (f := g) (t := xs) (k := kN y.2) (cell := cell) hcv h0 k1 hcell hobj ⟨z', hz'⟩ k3
      have hasg1 : (((T.setTop g).pushFrame (.throwing a)).setVm vm1).vm.assignable cell.cls (kN y.2) = decide (cx = y.2) := (hW.alike.assignable _ _).trans hasg
      by_cases hcx : cx = y.2
      · rw [if_pos hcx] at h
        obtain rfl := Option.some.inj h
        refine ⟨_, k2, fun Q E d acts => ?_⟩
        rw [hs, if_pos (by rw [hasg1]; exact decide_eq_true hcx), ← e3]
        exact Iff.rfl
      · rw [if_neg hcx] at h
        obtain ⟨vm', q1, q2⟩ := am_finds X hown hcell hobj ⟨z, hz⟩ _ xs _ k2 hm' (fun h hh => hf h (List.mem_cons_of_mem _ hh)) h
        refine ⟨vm', q1, fun Q E d acts => ?_⟩
        rw [hs, if_neg (by rw [hasg1]; exact fun hh => hcx (of_decide_eq_true hh))]
        exact q2 Q E d acts
    · rw [if_neg hc] at h
      obtain ⟨vm', q1, q2⟩ := am_finds X hown hcell hobj hcc hs xs vm1 hW hm' (fun h hh => hf h (List.mem_cons_of_mem _ hh)) h
      refine ⟨vm', q1, fun Q E d acts => ?_⟩
      rw [am_skip (by rw [e1, e2]; exact hc)]
      exact q2 Q E d acts
end AMY
section AMZ
variable {p : Program} {l : Launch} {e : Env} {R : Room} {s : State} {m : MethodId} {args : Array Value} {below : List Frame} {meth : Method} {c : Code} {Q : State → Prop}
variable {cc : ByteArray} {D : va_G} {cl : List vw_C} {b0 nL c0 s0 : Nat} {pc top sl : Nat} {lv : am_V} {st rest : List Value} {σ : am_H}
theorem am_w_catch {mc ms n index : Nat} {res : am_R} {a b cx hp : Nat} {fs As : List Value} {own C : String} {y : MethodName} {bytes : ByteArray} {maxL : Nat} {ret : Option FieldType} {ws : List Cond} {rm : Room} {Pc : Array Value → State → Prop} {nm : Nat → String} {hs : List ((Nat × Nat × Nat × Nat) × Nat)}
    (hx : p.tables.exec = Jvm.exec) (hb : c.code = cc) (hml : c.maxLocals = nL) (hown : s.vm.findClass own = some m.cls) (htab : c.exceptionTable.toList.map am_he = hs.map Prod.fst) (hres : res.1 = .inr a) (htop : res.2.2.1 = top + mc) (hsl : res.2.2.2 = sl + ms) (hnm : ∀ k r, cl[k]? = some r → r.1 = nm k)
    (hM : am_MT l y ws rm Pc (am_QcT D cl b0 res) mc ms (fun q => b0 ≤ q)) (cw : CallW R s args own C index y bytes maxL ret ws rm mc ms n)
    (hpre : ∀ (ls : Array Slot) (H : Heap) (locs : List Loc) (cells slots : Nat), am_inv D cl b0 s nL c0 s0 lv σ top sl ls H locs cells slots → PreV s H C b Pc As ∧ cells + mc ≤ R.cells ∧ slots + ms ≤ R.slots) (hn : As.length = n) (hst : st = As.reverse ++ .ref b :: rest) (hsum : (rest.map fun w => w.category).sum ≤ 8) (hdg : decode cc pc = .ok (.invokevirtual index, 3))
    (hcell : res.2.1 a = some (.inr (.inl (cx, fs))))
    (hf : ∀ h ∈ hs, h.1.2.2.2 ≠ 0 ∧ (Cond.classLink own h.1.2.2.2 (nm h.2)).before args s = true ∧ (∃ r, cl[h.2]? = some r) ∧ ∀ r, cl[cx]? = some r → ∀ i j, s.vm.findClass (nm cx) = some i → s.vm.findClass (nm h.2) = some j → s.vm.assignable i j = decide (cx = h.2)) (hhw : am_hw cx pc hs = some hp)
    (k : am_W p l e R s m args below meth c Q D cl b0 nL c0 s0 hp lv ([.ref a]) (res.2.1) (res.2.2.1) (res.2.2.2)) : am_W p l e R s m args below meth c Q D cl b0 nL c0 s0 pc lv st σ top sl := by
  intro ls H locs cells slots h T hT X
  obtain ⟨hpv, hfc, hfs⟩ := hpre ls H locs cells slots h
  obtain ⟨x, st₀, t, T', L, h0, X', hL, e1, e2, ⟨⟨a', ha', hx'⟩, hdy, hz, hk⟩, stp⟩ := am_threw X hx hown hM cw hT hpv (rest := rest) (g := F0 m pc ls st) rfl hn (by rw [hml]; exact h.1.1.1) hst (by show 2 * 0 + _ ≤ 8; omega) (by rw [hb]; exact hdg) ⟨hfc, hfs⟩
  rw [hres] at ha'
  cases ha'
  cases hx'
  have hal : s.vm.Alike t.vm := by rw [← e2]; exact X'.warmed.alike
  have hdy2 := hdy
  obtain ⟨hsz, hbt, tys, hK, hcl⟩ := hdy2
  obtain ⟨-, -, r1, hr9, -, cell, q1, q2, q3, -⟩ := hcl a _ hcell
  have hKs := va_K.moved hal.symm hK
  have hfcx : s.vm.findClass (nm cx) = some (D.1 cx) := by
    have := (hKs.1 _ r1 hr9).2.1
    rw [hnm _ r1 hr9] at this
    exact this
  obtain ⟨zc, hzc⟩ : ∃ z, s.vm.classes[cell.cls]? = some z := by
    rw [q2]
    exact Vm.classAt_of_findClass hfcx
  obtain ⟨vm', hW', hfind⟩ := am_finds (g := F0 m pc ls rest) X' (a := a) (cell := cell) (nm := nm) (kN := D.1) (cx := cx) hown (by rw [e1]; exact q1) (fun z hh => by rw [q3] at hh; cases hh) ⟨zc, hzc⟩ hs c.exceptionTable.toList T'.vm X'.warmed htab
    (fun y hy => by
      obtain ⟨f1, f2, ⟨r2, f3⟩, f4⟩ := hf y hy
      have hfy : s.vm.findClass (nm y.2) = some (D.1 y.2) := by
        have := (hKs.1 _ r2 f3).2.1
        rw [hnm _ r2 f3] at this
        exact this
      exact ⟨f1, f2, hfy, by rw [q2]; exact f4 r1 hr9 _ _ hfcx hfy⟩) hhw
  have hS := h.2.2.1
  obtain ⟨hc, hs⟩ := h.2.2.2
  rw [h0] at hz hk
  obtain ⟨t2, a1, b1⟩ := k ls T'.heap (locs ++ L) (cells + mc) (slots + ms) ⟨h.1, by rw [e1]; exact hdy.moved hal.symm, ⟨Nat.le_trans hS.1 (by rw [e1]; exact hz), fun q h1 h2 => by
      rw [e1, hk q (Nat.lt_of_lt_of_le h1 hS.1) h2]
      exact hS.2.1 q h1 h2, fun q hq => by
      rcases List.mem_append.mp hq with z | z
      · exact hS.2.2 q z
      · exact hL q z⟩, by omega, by omega⟩ (T'.setVm vm') rfl (X'.noted hW')
  refine ⟨t2, stp t2 (am_caught (c := c) (g := F0 m pc ls rest) (vm' := vm') X'.here (fun Q E d acts => ?_) a1), b1⟩
  rw [W.findHandler_eq (s := (T'.setTop (F0 m pc ls rest)).pushFrame (.throwing a)) (f := F0 m pc ls rest) X'.method' X'.code]
  exact hfind Q E d acts
/-- a call of a method that has handlers of its own -/
theorem am_runSW {y : MethodName} {bytes : ByteArray} {maxL mc ms n index : Nat} {ret : Option FieldType} {hh : List (Nat × Nat × Nat × Nat)} {ws : List Cond} {rm : Room} {Pc : Array Value → State → Prop} {Qc : Array Value → State → Outcome → State → Prop} {free : Addr → Prop} {own : String} {As : List Value} {g : JFrame} {H : Heap} {locs : List Loc} {cells slots : Nat}
    (hx : p.tables.exec = Jvm.exec) (hb : c.code = cc) (hml : c.maxLocals = nL) (hown : s.vm.findClass own = some m.cls) (hM : Met l y ws rm Pc Qc mc ms free) (hrc : rm.cells = mc) (hrs : rm.slots = ms) (hfr : rm.frames + 1 ≤ R.frames) (hlo : 8 + (maxL + 11) + rm.locals ≤ R.locals)
    (hws : ∀ w ∈ ws, ∀ (a' : Array Value) (U : State), s.WarmedH U.vm → w.before a' U = true) (hcw : Cond.codeWith y bytes maxL ret hh ∈ ws) (hini : (Cond.initialized y.cls).before args s = true) (hy : y.cls ≠ "java/lang/invoke/MethodHandle" ∧ y.cls ≠ "java/lang/invoke/VarHandle") (hlen : ∀ sig, parseMethodDescriptor y.desc = some sig → n = sig.parameters.length)
    (hl : (Cond.methodLink own index y).before args s = true) (hstt : (Cond.static y).before args s = true) (hp : PreS s H Pc As)
    (hg : g.method = m) (hn : As.length = n) (hsize : g.locals.size = nL) (hstack : g.stack = As.reverse ++ rest) (hW : 2 * g.monitorRoom + (rest.map fun v => v.category).sum ≤ 8) (hdg : decode cc g.pc = .ok (.invokestatic index, 3)) (hf : cells + mc ≤ R.cells ∧ slots + ms ≤ R.slots) :
    va_Run p l e R s m args below meth c H locs cells slots mc ms g rest (Qc As.toArray) free := by
  have hK : Back l R p e below s args y 3 8 (PreOf R mc ms Pc) (PostOf Qc mc ms free) := va_backW hM hp.1 hrc hrs hfr hlo hws hcw (fun a' U hU => word_at hU (Or.inl (by first | rfl | simp [Cond.onTables, Cond.keeps, Cond.steady])) hini)
  intro T hT X
  obtain ⟨mk, methM, cM, hnamed, hmethM, -, -, -, -, -, -, hsigM⟩ := Cond.codeWith_spec (hws _ hcw args s (State.WarmedH.refl s))
  have hstatic : methM.isStatic = true := Cond.static_spec hnamed hmethM hstt
  obtain ⟨kP, hkP, -⟩ := className_of_methodNamed hnamed
  have hinitP : kP.init = .initialized := Cond.initialized_spec (findClass_of_methodNamed hnamed) hkP hini
  obtain ⟨vm₁, X₁, hstep₁⟩ := X.invokestatic hx hown hl hnamed hmethM hstatic hkP hinitP hy (g := g) hg (argsL := As) (rest := rest) (hn.trans (hlen _ hsigM)) hstack (by rw [hb]; exact hdg)
  obtain ⟨v, ⟨U', l2, c2, s2⟩, X', ⟨g', mk', t, L, e1, e2, hq, h1, hL, h2, h3⟩, hsteps⟩ := hK m meth c ⟨T.setVm vm₁, locs, cells, slots⟩ { g with stack := rest } (.invokestatic index) mk As.toArray X₁ hg (hsize.trans hml.symm) (by rw [hb]; exact hdg) hW (X₁.named hnamed) ⟨hf.1, hf.2, hp.2 (T.setVm vm₁) hT X₁.warmed⟩
  dsimp only [Pt.U, Pt.locs, Pt.cells, Pt.slots] at X' e1 e2 h1 h2 h3 hsteps
  subst h1; subst h2; subst h3
  exact ⟨v, (T.setVm vm₁).calling g' mk' As.toArray, t, U', L, hT, X', hL, e1, e2, hq, fun target h => hstep₁ _ fun acts => by rw [doInvoke_state]; exact hsteps.trans h⟩
end AMZ
end
section
/-- a call, told by its instruction -/
theorem am_call_inv {mc : Nat → Nat} {d : Nat} {st : List Value} {σ : am_H} {i : Instr} {u v : Nat} {as rest : List Value} (h : am_call mc d st σ i u v = some (as, rest)) :
    ¬ d = 0 ∧ st = as.reverse ++ rest ∧ ((∃ idx, i = .invokestatic idx ∧ as.length = v) ∨ (∃ idx b as', i = .invokespecial idx ∧ as = .ref b :: as' ∧ as'.length = v) ∨
      (∃ idx b as', i = .invokevirtual idx ∧ as = .ref b :: as' ∧ as'.length = v ∧ ((∃ fs, σ b = some (.inr (.inl (mc u, fs)))) ∨ ((∃ av f, σ b = some (.inr (.inr (1, av, f)))) ∧ mc u = 50)))) := by
  have hlen : ∀ (b : Nat) (r : List Value), st.drop v = .ref b :: r → st = (.ref b :: (st.take v).reverse).reverse ++ r ∧ ((st.take v).reverse).length = v := by
    intro b r hd
    constructor
    · rw [List.reverse_cons, List.reverse_reverse, List.append_assoc]
      show st = st.take v ++ (.ref b :: r)
      rw [← hd, List.take_append_drop]
    · rw [List.length_reverse, List.length_take]
      have : v < st.length := by
        have h2 : (st.drop v).length = r.length + 1 := by rw [hd]; rfl
        rw [List.length_drop] at h2
        omega
      omega
  cases i with
  | invokestatic idx =>
    dsimp only [am_call] at h
    split at h
    · cases h
    · next hd =>
      cases h
      refine ⟨fun z => hd (Or.inl z), by rw [List.reverse_reverse, List.take_append_drop], Or.inl ⟨idx, rfl, ?_⟩⟩
      rw [List.length_reverse, List.length_take]
      have : ¬ st.length < v := fun z => hd (Or.inr z)
      omega
  | invokespecial idx =>
    dsimp only [am_call] at h
    split at h
    · cases h
    · next hd =>
      split at h
      · next b r hdr =>
        cases h
        exact ⟨hd, (hlen _ _ hdr).1, Or.inr (Or.inl ⟨idx, b, _, rfl, rfl, (hlen _ _ hdr).2⟩)⟩
      · cases h
  | invokevirtual idx =>
    dsimp only [am_call] at h
    split at h
    · cases h
    · next hd =>
      split at h
      · next b r hdr =>
        split at h
        · next c1 fs hb =>
          split at h
          · next hc =>
            cases h
            subst hc
            exact ⟨hd, (hlen _ _ hdr).1, Or.inr (Or.inr ⟨idx, b, _, rfl, rfl, (hlen _ _ hdr).2, Or.inl ⟨fs, hb⟩⟩)⟩
          · cases h
        · next av f1 hb =>
          split at h
          · next hc =>
            cases h
            exact ⟨hd, (hlen _ _ hdr).1, Or.inr (Or.inr ⟨idx, b, _, rfl, rfl, (hlen _ _ hdr).2, Or.inr ⟨⟨av, f1, hb⟩, hc⟩⟩)⟩
          · cases h
        · cases h
      · cases h
  | _ => exact absurd (show (none : Option (List Value × List Value)) = some (as, rest) from h) (fun z => by cases z)
/-- what an end's instruction answers -/
def am_ro (i : Instr) (ro : Option FieldType) : Prop := match i with
  | .ireturn => ro ≠ none
  | .areturn => ro ≠ none
  | .return_ => ro = none
  | _ => True
/-- what a walk of method y needs of its frame -/
def am_cx (t : am_T) (yn : Nat → MethodName) (bt : Nat → ByteArray) (ws : Nat → List Cond) (GL : State → Prop) (p : Program) (R : Room) (s : State) (m : MethodId) (args : Array Value) (meth : Method) (c : Code) (y d : Nat) (res : am_R) (c0 s0 : Nat) : Prop :=
  p.tables.exec = Jvm.exec ∧ c.code = bt y ∧ c.maxLocals = t.2.1 y ∧ s.vm.findClass (yn y).cls = some m.cls ∧ (∀ w ∈ ws y, w.before args s = true) ∧ GL s ∧ meth.name = (yn y).name ∧ d ≤ R.frames ∧ 64 * d ≤ R.locals ∧ res.2.2.1 ≤ R.cells + c0 ∧ res.2.2.2 ≤ R.slots + s0 ∧ c.exceptionTable.toList.map am_he = (am_hs t y).map Prod.fst ∧ meth.locks = false
/-- a run of n steps that ends is the machine's -/
def am_Wp (t : am_T) (cs : Nat → Value) (D : va_G) (cl : List vw_C) (b0 : Nat) (yn : Nat → MethodName) (bt : Nat → ByteArray) (ws : Nat → List Cond) (GL : State → Prop) (l : Launch) (n : Nat) : Prop :=
  ∀ (d y pc : Nat) (lv : am_V) (st : List Value) (σ : am_H) (top sl : Nat) (res : am_R), am_run t cs n d y pc lv st σ top sl = some res → ∀ (p : Program) (e : Env) (R : Room) (s : State) (m : MethodId) (args : Array Value) (below : List Frame) (meth : Method) (c : Code) (Q : State → Prop) (c0 s0 : Nat), am_cx t yn bt ws GL p R s m args meth c y d res c0 s0 →
    (∀ (pc' : Nat) (lv' : am_V) (st' : List Value) (i : Instr) (u v : Nat), t.1 y pc' = some (i, u, v) → am_end (t.2.2.1 y) st' i = some res.1 → am_W p l e R s m args below meth c Q D cl b0 (t.2.1 y) c0 s0 pc' lv' st' res.2.1 res.2.2.1 res.2.2.2) →
    (∀ (pc' : Nat) (lv' : am_V) (st' : List Value) (σ' : am_H) (top' sl' : Nat) (i : Instr) (u v : Nat), t.1 y pc' = some (i, u, v) → am_kind i u = 3 → 6 ≤ d → (st'.map fun w => w.category).sum ≤ 8 → res = (.inr top', am_up σ' top' (.inr (.inl (u, []))), top' + 1, sl' + t.2.2.2.2.2.1 u) → am_W p l e R s m args below meth c Q D cl b0 (t.2.1 y) c0 s0 pc' lv' st' σ' top' sl') →
    am_W p l e R s m args below meth c Q D cl b0 (t.2.1 y) c0 s0 pc lv st σ top sl
/-- the word on a method's code -/
def am_hc (t : am_T) (yn : Nat → MethodName) (bt : Nat → ByteArray) (rtt : Nat → Option FieldType) (y : Nat) : Cond := match am_hs t y with
  | [] => .code (yn y) (bt y) (t.2.1 y) (rtt y)
  | h :: r => .codeWith (yn y) (bt y) (t.2.1 y) (rtt y) ((h :: r).map Prod.fst)
/-- what is known of the tables -/
def am_good (t : am_T) (cs : Nat → Value) (cl : List vw_C) (b0 : Nat) (yn : Nat → MethodName) (bt : Nat → ByteArray) (rtt : Nat → Option FieldType) (ws : Nat → List Cond) (GL : State → Prop) : Prop :=
  (∀ k r, cl[k]? = some r → r.1 = t.2.2.2.2.2.2.1 k) ∧ am_mv b0 GL ∧
  (∀ y pc x, t.1 y pc = some x → y < 1000 ∧ (y ≠ 0 → ∃ ws', ws y = am_hc t yn bt rtt y :: ws') ∧ plainName (yn y).cls = true ∧ (∀ ty, rtt y = some ty → t.2.2.1 y = ty)) ∧
  (∀ y pc i u v, t.1 y pc = some (i, u, v) → ∀ (s : State) (args : Array Value) (meth : Method), GL s → (∀ w ∈ ws y, w.before args s = true) → meth.name = (yn y).name →
    am_dec (bt y) pc i ∧ am_fact cs t.2.2.2.1 t.2.2.2.2.1 t.2.2.2.2.2.1 t.2.2.2.2.2.2.1 cl b0 s args meth (yn y).cls pc i u v ∧ am_cf t yn rtt ws s args y i u v ∧ am_ro i (rtt y)) ∧
  (∀ y pc i u v, t.1 y pc = some (i, u, v) → am_kind i u = 1 → u ≠ 0) ∧
  (∀ y pc i u v, t.1 y pc = some (i, u, v) → am_kind i u = 3 → ∃ idx T0, i = .new idx ∧ am_hs t y = [] ∧ t.2.2.2.2.2.1 u = 6 ∧ cl[u]? = some (t.2.2.2.2.2.2.1 u, T0, 0) ∧ ∀ (s : State) (args : Array Value), GL s → am_tf s args (bt y) (yn y).cls (t.2.2.2.2.2.2.1 u) pc idx v) ∧
  (∀ y h, h ∈ am_hs t y → h.1.2.2.2 ≠ 0 ∧ (∃ r, cl[h.2]? = some r) ∧ ∀ (s : State) (args : Array Value), GL s → (Cond.classLink (yn y).cls h.1.2.2.2 (t.2.2.2.2.2.2.1 h.2)).before args s = true ∧ ∀ (c : Nat) (r : vw_C), 12 ≤ c → cl[c]? = some r → ∀ i j, s.vm.findClass (t.2.2.2.2.2.2.1 c) = some i → s.vm.findClass (t.2.2.2.2.2.2.1 h.2) = some j → s.vm.assignable i j = decide (c = h.2))
/-- the library's members do what am_bi says -/
def am_bok (t : am_T) (cs : Nat → Value) (D : va_G) (cl : List vw_C) (b0 : Nat) (yn : Nat → MethodName) (bt : Nat → ByteArray) (ws : Nat → List Cond) (GL : State → Prop) (l : Launch) : Prop :=
  ∀ (d y pc : Nat) (lv : am_V) (σ σ1 : am_H) (top sl : Nat) (res : am_R) (i : Instr) (u v : Nat) (as rest : List Value) (r : Option Value), t.1 y pc = some (i, u, v) → 1000 < u → ¬ d = 0 → am_call t.2.2.2.2.2.2.2.1 d (as.reverse ++ rest) σ i u v = some (as, rest) → am_bi u as σ = some (r, σ1) → (rest.map fun w => w.category).sum ≤ 8 →
    ∀ (p : Program) (e : Env) (R : Room) (s : State) (m : MethodId) (args : Array Value) (below : List Frame) (meth : Method) (c : Code) (Q : State → Prop) (c0 s0 : Nat), am_cx t yn bt ws GL p R s m args meth c y d res c0 s0 → top ≤ res.2.2.1 → sl ≤ res.2.2.2 →
    am_W p l e R s m args below meth c Q D cl b0 (t.2.1 y) c0 s0 (pc + 3) lv (r.toList ++ rest) σ1 top sl → am_W p l e R s m args below meth c Q D cl b0 (t.2.1 y) c0 s0 pc lv (as.reverse ++ rest) σ top sl
section AMM
variable {t : am_T} {cs : Nat → Value} {D : va_G} {cl : List vw_C} {b0 : Nat} {yn : Nat → MethodName} {bt : Nat → ByteArray} {rtt : Nat → Option FieldType} {ws : Nat → List Cond} {GL : State → Prop} {l : Launch}
theorem am_w_ends {p : Program} {e : Env} {R : Room} {s : State} {m : MethodId} {args : Array Value} {below : List Frame} {meth : Method} {c : Code} {cc : ByteArray} {nL c0 s0 pc : Nat} {lv : am_V} {st : List Value} {res : am_R} {i : Instr} {ro : Option FieldType} {rt : FieldType} {vr : Option Value}
    (hx : p.tables.exec = Jvm.exec) (hb : c.code = cc) (hr : meth.sig.returnType = ro) (hrt : ∀ ty, ro = some ty → rt = ty) (hro : am_ro i ro) (hlocks : meth.locks = false) (hd : am_dec cc pc i) (he : am_end rt st i = some res.1) (hv : res.1 = .inl vr) :
    am_W p l e R s m args below meth c (MQ below (am_Qc D cl b0 res) args s (res.2.2.1 - c0) (res.2.2.2 - s0) (fun q => b0 ≤ q)) D cl b0 nL c0 s0 pc lv st res.2.1 res.2.2.1 res.2.2.2 := by
  intro ls H locs cells slots h
  obtain ⟨hc, hs⟩ := h.2.2.2
  have e1 : cells = res.2.2.1 - c0 := by omega
  have e2 : slots = res.2.2.2 - s0 := by omega
  rw [← e1, ← e2]
  have hq : ∀ t : State, t.heap = H → s.WarmedH t.vm → am_Qc D cl b0 res args s (.returned vr) t := fun t ht hW => ⟨⟨vr, hv, rfl⟩, by rw [ht]; exact h.2.1.moved hW.alike, h.2.2.1.F ht⟩
  rw [hv] at he
  cases i with
  | ireturn =>
    dsimp only [am_end] at he
    split at he
    · next x =>
      split at he
      · next hf =>
        cases he
        cases ro with
        | none => exact absurd rfl hro
        | some ty =>
          obtain rfl := hrt ty rfl
          exact W.zret hx hb hr (am_fr_ok hf) hq h.2.2.1.2.2 (am_dec1 hd rfl)
      · cases he
    · cases he
  | areturn =>
    dsimp only [am_end] at he
    have hrf : ∀ v : Value, (v = .null ∨ ∃ a, v = .ref a) → am_fr rt v = true → ((∃ n, rt = .object n) ∨ ∃ t, rt = .array t) := by
      intro v hv2 hf
      rcases hv2 with rfl | ⟨a, rfl⟩ <;> cases rt <;> first | exact Or.inl ⟨_, rfl⟩ | exact Or.inr ⟨_, rfl⟩ | cases hf
    split at he
    · next a =>
      split at he
      · next hf =>
        cases he
        cases ro with
        | none => exact absurd rfl hro
        | some ty =>
          obtain rfl := hrt ty rfl
          exact W.aret hx hb hr (hrf _ (Or.inr ⟨a, rfl⟩) hf) (Or.inr ⟨a, rfl⟩) hq h.2.2.1.2.2 (am_dec1 hd rfl)
      · cases he
    · split at he
      · next hf =>
        cases he
        cases ro with
        | none => exact absurd rfl hro
        | some ty =>
          obtain rfl := hrt ty rfl
          exact W.aret hx hb hr (hrf _ (Or.inl rfl) hf) (Or.inl rfl) hq h.2.2.1.2.2 (am_dec1 hd rfl)
      · cases he
    · cases he
  | return_ =>
    dsimp only [am_end] at he
    split at he
    · cases he
      exact W.vret hx hb (hr.trans hro) hq h.2.2.1.2.2 (am_dec1 hd rfl)
    · cases he
  | _ => exact absurd (show (none : Option (Option Value ⊕ Nat)) = some (.inl vr) from he) (fun z => by cases z)
theorem am_end_inl {rt : FieldType} {st : List Value} {i : Instr} {r : Option Value ⊕ Nat} (h : am_end rt st i = some r) : ∃ v, r = .inl v := by
  unfold am_end at h
  split at h
  · split at h
    · split at h
      · cases h; exact ⟨_, rfl⟩
      · cases h
    · cases h
  · split at h
    · split at h
      · cases h; exact ⟨_, rfl⟩
      · cases h
    · split at h
      · cases h; exact ⟨_, rfl⟩
      · cases h
    · cases h
  · split at h
    · cases h; exact ⟨_, rfl⟩
    · cases h
  · cases h
end AMM
end
section
section AMN
variable {t : am_T} {cs : Nat → Value} {D : va_G} {cl : List vw_C} {b0 : Nat} {yn : Nat → MethodName} {bt : Nat → ByteArray} {rtt : Nat → Option FieldType} {ws : Nat → List Cond} {GL : State → Prop} {l : Launch}
theorem am_run_has {n d y pc : Nat} {lv : am_V} {st : List Value} {σ : am_H} {top sl : Nat} {res : am_R} (h : am_run t cs n d y pc lv st σ top sl = some res) : ∃ x, t.1 y pc = some x := by
  cases n with
  | zero => exact absurd (show (none : Option am_R) = some res from h) (fun z => by cases z)
  | succ n =>
    unfold am_run at h
    split at h
    · cases h
    · next hI => exact ⟨_, hI⟩
/-- a run from a method's start, in its frame -/
theorem am_body (hG : am_good t cs cl b0 yn bt rtt ws GL) {n : Nat} (hW : am_Wp t cs D cl b0 yn bt ws GL l n) {d y : Nat} (hy0 : y ≠ 0) {as : List Value} {σ : am_H} {top sl : Nat} {res : am_R} (h : am_run t cs n d y 0 (am_ent (t.2.1 y) as) [] σ top sl = some res) (has : as.length ≤ t.2.1 y) (hc1 : as.all am_c1 = true)
    {p : Program} {e : Env} {s : State} {m : MethodId} {args : Array Value} {below : List Frame} {meth : Method} {c : Code} {s₁ : State} (B : BodyLoose p l (yn y) (headSpec (ws y) { frames := d, cells := res.2.2.1 - top, slots := res.2.2.2 - sl, locals := 64 * d }) (bt y) (t.2.1 y) (rtt y) e s m args below meth c s₁) (hml : c.maxLocals = t.2.1 y) (hP : am_Pc D cl b0 GL as σ top args s) {Q : State → Prop}
    (hend : ∀ (pc' : Nat) (lv' : am_V) (st' : List Value) (i : Instr) (u v : Nat), t.1 y pc' = some (i, u, v) → am_end (t.2.2.1 y) st' i = some res.1 → am_cx t yn bt ws GL p { frames := d, cells := res.2.2.1 - top, slots := res.2.2.2 - sl, locals := 64 * d } s m args meth c y d res top sl → am_W p l e { frames := d, cells := res.2.2.1 - top, slots := res.2.2.2 - sl, locals := 64 * d } s m args below meth c Q D cl b0 (t.2.1 y) top sl pc' lv' st' res.2.1 res.2.2.1 res.2.2.2)
    (hthr : ∀ (pc' : Nat) (lv' : am_V) (st' : List Value) (σ' : am_H) (top' sl' : Nat) (i : Instr) (u v : Nat), t.1 y pc' = some (i, u, v) → am_kind i u = 3 → 6 ≤ d → (st'.map fun w => w.category).sum ≤ 8 → res = (.inr top', am_up σ' top' (.inr (.inl (u, []))), top' + 1, sl' + t.2.2.2.2.2.1 u) → am_cx t yn bt ws GL p { frames := d, cells := res.2.2.1 - top, slots := res.2.2.2 - sl, locals := 64 * d } s m args meth c y d res top sl → am_W p l e { frames := d, cells := res.2.2.1 - top, slots := res.2.2.2 - sl, locals := 64 * d } s m args below meth c Q D cl b0 (t.2.1 y) top sl pc' lv' st' σ' top' sl') :
    W p l e (headSpec (ws y) { frames := d, cells := res.2.2.1 - top, slots := res.2.2.2 - sl, locals := 64 * d }).room s m args below meth c s.heap [] 0 0 Q (entryFrame m args (t.2.1 y)) := by
  obtain ⟨x, hx0⟩ := am_run_has h
  obtain ⟨hlt, hws, hpl, hrt⟩ := hG.2.2.1 y 0 x hx0
  obtain ⟨ws', hws⟩ := hws hy0
  have hm := am_run_mono _ _ _ _ _ _ _ _ _ _ h
  obtain ⟨rfl, hdy, hgl⟩ := hP
  have hts := atoms_spec (ws := ws y) B.pre
  have hl := lv_entry as (n := t.2.1 y) (by rw [am_sl_len as hc1]; exact has)
  have hmn : meth.name = (yn y).name := (name_of_methodNamed B.named B.method).1
  have hmc : meth.code = some c := (Stand.of_body B).code
  have htab : c.exceptionTable.toList.map am_he = (am_hs t y).map Prod.fst := by
    have h0 : (am_hc t yn bt rtt y).before as.toArray s = true := hts _ (by rw [hws]; exact List.mem_cons_self)
    unfold am_hc at h0
    cases he : am_hs t y with
    | nil =>
      rw [he] at h0
      obtain ⟨meth', c', h1, h2, -, -, -, -, h7, -⟩ := Cond.code_spec B.named h0
      cases h1.symm.trans B.method
      cases h2.symm.trans hmc
      have := Array.isEmpty_iff.mp h7
      rw [this]
      rfl
    | cons a r =>
      rw [he] at h0
      obtain ⟨m', meth', c', hn', h1, h2, -, -, h5, -⟩ := Cond.codeWith_spec h0
      cases hn'.symm.trans B.named
      cases h1.symm.trans B.method
      cases h2.symm.trans hmc
      exact h5
  have hcx : am_cx t yn bt ws GL p { frames := d, cells := res.2.2.1 - top, slots := res.2.2.2 - sl, locals := 64 * d } s m as.toArray meth c y d res top sl := ⟨B.exec, B.bytes, hml, findClass_of_methodNamed B.named, hts, hgl, hmn, Nat.le_refl d, Nat.le_refl (64 * d), by show res.2.2.1 ≤ (res.2.2.1 - top) + top; omega, by show res.2.2.2 ≤ (res.2.2.2 - sl) + sl; omega, htab, B.notSynchronized⟩
  rw [lg_entry_eq]
  exact hW d y 0 _ [] σ top sl res h p e _ s m as.toArray below meth c _ top sl hcx (fun pc' lv' st' i u v a1 a2 => hend pc' lv' st' i u v a1 a2 hcx) (fun pc' lv' st' σ' top' sl' i u v a1 a2 a3 a4 a5 => hthr pc' lv' st' σ' top' sl' i u v a1 a2 a3 a4 a5 hcx) _ s.heap [] 0 0 ⟨am_ent_ls has hc1 hl, hdy, va_S.rf, Nat.zero_add _, Nat.zero_add _⟩
/-- a run from a method's start is its contract -/
theorem am_met (hG : am_good t cs cl b0 yn bt rtt ws GL) {n : Nat} (hW : am_Wp t cs D cl b0 yn bt ws GL l n) {d y : Nat} (hy0 : y ≠ 0) {as : List Value} {σ : am_H} {top sl : Nat} {res : am_R} {vr : Option Value} (h : am_run t cs n d y 0 (am_ent (t.2.1 y) as) [] σ top sl = some res) (hv : res.1 = .inl vr) (has : as.length ≤ t.2.1 y) (hc1 : as.all am_c1 = true) :
    Met l (yn y) (ws y) { frames := d, cells := res.2.2.1 - top, slots := res.2.2.2 - sl, locals := 64 * d } (am_Pc D cl b0 GL as σ top) (am_Qc D cl b0 res) (res.2.2.1 - top) (res.2.2.2 - sl) (fun q => b0 ≤ q) := by
  obtain ⟨x, hx0⟩ := am_run_has h
  obtain ⟨hlt, hws, hpl, hrt⟩ := hG.2.2.1 y 0 x hx0
  obtain ⟨ws', hws⟩ := hws hy0
  have key : ∀ p e s m args below meth c s₁, BodyLoose p l (yn y) (headSpec (ws y) { frames := d, cells := res.2.2.1 - top, slots := res.2.2.2 - sl, locals := 64 * d }) (bt y) (t.2.1 y) (rtt y) e s m args below meth c s₁ → c.maxLocals = t.2.1 y → am_Pc D cl b0 GL as σ top args s →
      W p l e (headSpec (ws y) { frames := d, cells := res.2.2.1 - top, slots := res.2.2.2 - sl, locals := 64 * d }).room s m args below meth c s.heap [] 0 0 (MQ below (am_Qc D cl b0 res) args s (res.2.2.1 - top) (res.2.2.2 - sl) (fun q => b0 ≤ q)) (entryFrame m args (t.2.1 y)) := by
    intro p e s m args below meth c s₁ B hml hP
    refine am_body hG hW hy0 h has hc1 B hml hP ?_ ?_
    · intro pc' lv' st' i u v hI he hcx
      obtain ⟨hx, hb, hml, hown, hts, hgl, hmn, hfr, hlo, hr1, hr2, htab, hlk⟩ := hcx
      obtain ⟨hdec, -, -, hro⟩ := hG.2.2.2.1 y pc' i u v hI s args meth hgl hts hmn
      exact am_w_ends B.exec B.bytes B.returns hrt hro B.notSynchronized hdec he hv
    · intro pc' lv' st' σ' top' sl' i u v hI hk hd hs hres hcx
      rw [hres] at hv
      cases hv
  cases he : am_hs t y with
  | nil =>
    unfold am_hc at hws
    rw [he] at hws
    exact Met.ofW (cc := bt y) (maxL := t.2.1 y) (ret := rtt y) hpl hws key
  | cons a r =>
    unfold am_hc at hws
    rw [he] at hws
    exact va_MetW (cc := bt y) (maxL := t.2.1 y) (ret := rtt y) hpl hws key
/-- a run that ends in an exception -/
theorem am_metT (hG : am_good t cs cl b0 yn bt rtt ws GL) (hfl : l.flags = pinnedFlags ++ [noTraceFlag]) {n : Nat} (hW : am_Wp t cs D cl b0 yn bt ws GL l n) {d y : Nat} (hy0 : y ≠ 0) (hh : am_hs t y = []) {as : List Value} {σ : am_H} {top sl : Nat} {res : am_R} {a : Nat} (h : am_run t cs n d y 0 (am_ent (t.2.1 y) as) [] σ top sl = some res) (hv : res.1 = .inr a) (has : as.length ≤ t.2.1 y) (hc1 : as.all am_c1 = true) :
    am_MT l (yn y) (ws y) { frames := d, cells := res.2.2.1 - top, slots := res.2.2.2 - sl, locals := 64 * d } (am_Pc D cl b0 GL as σ top) (am_QcT D cl b0 res) (res.2.2.1 - top) (res.2.2.2 - sl) (fun q => b0 ≤ q) := by
  obtain ⟨x, hx0⟩ := am_run_has h
  obtain ⟨hlt, hws, hpl, hrt⟩ := hG.2.2.1 y 0 x hx0
  obtain ⟨ws', hws⟩ := hws hy0
  unfold am_hc at hws
  rw [hh] at hws
  refine am_MT_ofW (cc := bt y) (maxL := t.2.1 y) (ret := rtt y) hpl hws ?_
  intro p e s m args below meth c s₁ B hml hP
  refine am_body hG hW hy0 h has hc1 B hml hP ?_ ?_
  · intro pc' lv' st' i u v hI he hcx
    obtain ⟨w, hw⟩ := am_end_inl he
    rw [hv] at hw
    cases hw
  · intro pc' lv' st' σ' top' sl' i u v hI hk hd hs hres hcx
    obtain ⟨hx, hb, hml, hown, hts, hgl, hmn, hfr, hlo, hr1, hr2, htab, hlk⟩ := hcx
    obtain ⟨idx, T0, rfl, -, h6, hcu, htf⟩ := hG.2.2.2.2.2.1 y pc' i u v hI hk
    rw [h6] at hres
    rw [hh] at htab
    refine am_w_throw (GL := GL) (cc := bt y) (own := (yn y).cls) (C := t.2.2.2.2.2.2.1 u) (T0 := T0) (u := u) (idx := idx) (ic := v) hx hb hml hfl hlk ?_ hown hG.2.1 hgl (fun s' hs' => htf s' args hs') hcu (by omega) (by omega) hs ?_ ?_ hres
    · rw [Array.isEmpty_iff]
      have h2 := List.map_eq_nil_iff.mp htab
      exact Array.toList_eq_nil_iff.mp h2
    · have e1 : res.2.2.1 = top' + 1 := by rw [hres]
      rw [← e1]
      exact hr1
    · have e1 : res.2.2.2 = sl' + 6 := by rw [hres]
      rw [← e1]
      exact hr2
set_option maxHeartbeats 4000000 in
theorem am_sound (hG : am_good t cs cl b0 yn bt rtt ws GL) (hB : am_bok t cs D cl b0 yn bt ws GL l) (hfl : l.flags = pinnedFlags ++ [noTraceFlag]) (hG50 : t.2.2.2.2.2.2.1 50 = "java/lang/String") : ∀ n : Nat, am_Wp t cs D cl b0 yn bt ws GL l n
  | 0 => by
    intro d y pc lv st σ top sl res h
    exact absurd (show (none : Option am_R) = some res from h) (fun z => by cases z)
  | n + 1 => by
    have ih := am_sound hG hB hfl hG50 n
    intro d y pc lv st σ top sl res h p e R s m args below meth c Q c0 s0 hcx hend hthr
    have hcx' := hcx
    obtain ⟨hx, hb, hml, hown, hts, hgl, hmn, hfr, hlo, hr1, hr2, htab, hlocks⟩ := hcx'
    unfold am_run at h
    split at h
    · cases h
    · next i u v hI =>
      obtain ⟨hdec, hfact, hcf, hro⟩ := hG.2.2.2.1 y pc i u v hI s args meth hgl hts hmn
      split at h
      · split at h
        · cases h
        · next pc' lv' st' σ' top' sl' hs =>
          have hm := am_run_mono _ _ _ _ _ _ _ _ _ _ h
          exact am_step_W hx hb hml hown hG.1 hfr hlo hdec hfact hs (Nat.le_trans hm.1 hr1) (Nat.le_trans hm.2 hr2) (ih _ _ _ _ _ _ _ _ _ h p e R s m args below meth c Q c0 s0 hcx hend hthr)
      · next hk1 =>
        split at h
        · cases h
        · next as rest hcall =>
          obtain ⟨hd0, hst, hkind⟩ := am_call_inv hcall
          subst hst
          split at h
          · next hsum =>
            split at h
            · next hu =>
              split at h
              · cases h
              · next r σ1 hbi =>
                have hm := am_run_mono _ _ _ _ _ _ _ _ _ _ h
                exact hB d y pc lv σ σ1 top sl res i u v as rest r hI hu hd0 hcall hbi hsum p e R s m args below meth c Q c0 s0 hcx hm.1 hm.2 (ih _ _ _ _ _ _ _ _ _ h p e R s m args below meth c Q c0 s0 hcx hend hthr)
            · next hu =>
              split at h
              · next hlc =>
                split at h
                · cases h
                · next r σ1 top1 sl1 hrun =>
                  have hm := am_run_mono _ _ _ _ _ _ _ _ _ _ h
                  have hm1 := am_run_mono _ _ _ _ _ _ _ _ _ _ hrun
                  dsimp only at hm1
                  obtain ⟨x, hx0⟩ := am_run_has hrun
                  obtain ⟨hlt, hws, -, -⟩ := hG.2.2.1 u 0 x hx0
                  have hu0 : u ≠ 0 := hG.2.2.2.2.1 y pc i u v hI hk1
                  obtain ⟨ws', hws⟩ := hws hu0
                  have hM := am_met hG ih hu0 hrun rfl hlc.1 hlc.2
                  dsimp only at hM
                  have hk := ih _ _ _ _ _ _ _ _ _ h p e R s m args below meth c Q c0 s0 hcx hend hthr
                  refine am_w_run (res := (.inl r, σ1, top1, sl1)) (mc := top1 - top) (ms := sl1 - sl) (ar := as.toArray) rfl (by dsimp only; omega) (by dsimp only; omega) ?_ hk
                  intro ls H locs cells slots hinv
                  obtain ⟨hc, hs⟩ := hinv.2.2.2
                  have hS := hinv.2.2.1
                  have hpre : ∀ U : State, U.heap = H → s.WarmedH U.vm → am_Pc D cl b0 GL as σ top as.toArray U := fun U hU hW =>
                    ⟨rfl, by rw [hU]; exact hinv.2.1.moved hW.alike, hG.2.1 s U hW (by rw [hU]; exact hS.1) (fun q h1 h2 => by rw [hU]; exact hS.2.1 q h1 h2) hgl⟩
                  have hf : cells + (top1 - top) ≤ R.cells ∧ slots + (sl1 - sl) ≤ R.slots := by
                    constructor <;> omega
                  have hfr1 : d - 1 + 1 ≤ R.frames := by omega
                  have hlo1 : 64 * (d - 1 + 1) ≤ R.locals := by omega
                  have hmon : 2 * (F0 m pc ls (as.reverse ++ rest)).monitorRoom + (rest.map fun v => v.category).sum ≤ 8 := by
                    show 2 * 0 + _ ≤ 8
                    omega
                  rcases hkind with ⟨idx, rfl, hal⟩ | ⟨idx, b, as', rfl, rfl, hal⟩ | ⟨idx, b, as', rfl, rfl, hal, hbc⟩
                  · obtain ⟨hcc, hlk, hstc, -, hsw⟩ := hcf hlt
                    rcases List.eq_nil_or_concat (am_hs t u) with hnil | hcons
                    case inr =>
                      have hne : am_hs t u ≠ [] := by
                        obtain ⟨L, b, e⟩ := hcons
                        rw [e]
                        simp
                      obtain ⟨h1, h2, h3, h4, h5⟩ := hcc
                      have hl := hsw.resolve_left hne
                      have hwc : Cond.codeWith (yn u) (bt u) (t.2.1 u) (rtt u) ((am_hs t u).map Prod.fst) ∈ ws u := by
                        rw [hws]
                        unfold am_hc
                        cases he : am_hs t u with
                        | nil => exact absurd he hne
                        | cons a r => exact List.mem_cons_self
                      exact am_runSW (nL := t.2.1 y) (cc := bt y) hx hb hml hown hM rfl rfl hfr1 (by show 8 + (t.2.1 u + 11) + 64 * (d - 1) ≤ _; omega) h1 hwc h2 h3 (fun sig hs => by rw [hs] at h4; exact (Option.some.inj h4).symm) hl hstc ⟨am_blind hG.2.1 as σ top, hpre⟩ rfl hal hinv.1.1.1 rfl hmon (am_dec1 hdec rfl) hf
                    unfold am_hc at hws
                    rw [hnil] at hws
                    rcases hlk with hl | ⟨host, hl⟩
                    · exact va_runS ⟨hx, hb, hml, hown, hts⟩ hM ⟨am_callB hws hcc hfr1 hlo1 hl, hstc⟩ ⟨am_blind hG.2.1 as σ top, hpre⟩ rfl hal hinv.1.1.1 rfl hmon (am_dec1 hdec rfl) hf
                    · exact va_runSN ⟨hx, hb, hml, hown, hts⟩ hM ⟨am_callN hws hcc hfr1 hlo1 hl, hstc, trivial⟩ ⟨am_blind hG.2.1 as σ top, hpre⟩ rfl hal hinv.1.1.1 rfl hmon (am_dec1 hdec rfl) hf
                  · obtain ⟨hcc, hlk, hin, hnm, hrn, hnil, -⟩ := hcf hlt
                    unfold am_hc at hws
                    rw [hnil] at hws
                    rw [List.reverse_cons, List.append_assoc] at hmon ⊢
                    rcases hlk with hl | ⟨host, hl⟩
                    · have hcb := am_callB (mc := top1 - top) (ms := sl1 - sl) hws hcc hfr1 hlo1 hl
                      rw [hrn] at hcb
                      exact va_runI (As := as') ⟨hx, hb, hml, hown, hts⟩ hM ⟨hcb, hnm, hin⟩ ⟨am_blind hG.2.1 _ σ top, hpre⟩ rfl hal hinv.1.1.1 rfl hmon (am_dec1 hdec rfl) hf
                    · have hcb := am_callN (mc := top1 - top) (ms := sl1 - sl) hws hcc hfr1 hlo1 hl
                      rw [hrn] at hcb
                      exact va_runIN (As := as') ⟨hx, hb, hml, hown, hts⟩ hM ⟨hcb, hnm, hin⟩ ⟨am_blind hG.2.1 _ σ top, hpre⟩ rfl hal hinv.1.1.1 rfl hmon (am_dec1 hdec rfl) hf
                  · obtain ⟨hcc, hlk, hin, hsel, hcls, hnil, -⟩ := hcf hlt
                    unfold am_hc at hws
                    rw [hnil] at hws
                    rw [List.reverse_cons, List.append_assoc] at hmon ⊢
                    have hrec : ∃ cellB : Cell, H[b]? = some cellB ∧ cellB.vm.isStatics = false ∧ s.vm.findClass (yn u).cls = some cellB.cls := by
                      rcases hbc with ⟨fs, hb1⟩ | ⟨⟨av, f1, hb1⟩, h50⟩
                      · obtain ⟨hsz, hbt, tys, hK, hcl⟩ := hinv.2.1
                        obtain ⟨-, -, r1, hr9, -, cell, q1, q2, q3, -⟩ := hcl b _ hb1
                        refine ⟨cell, q1, by rw [q3]; rfl, ?_⟩
                        have := (hK.1 _ r1 hr9).2.1
                        rw [hG.1 _ r1 hr9, hcls] at this
                        rw [q2]
                        exact this
                      · obtain ⟨hsz, hbt, tys, hK, hcl⟩ := hinv.2.1
                        obtain ⟨-, -, ⟨cell, q1, q2, q3, -⟩, -⟩ := hcl b _ hb1
                        refine ⟨cell, q1, q2, ?_⟩
                        rw [← hcls, h50, hG50]
                        exact q3
                    rcases hlk with hl | ⟨host, hl⟩
                    · exact va_runV (As := as') ⟨hx, hb, hml, hown, hts⟩ hM ⟨am_callB hws hcc hfr1 hlo1 hl, hin, hsel⟩ ⟨am_blind hG.2.1 _ σ top, hrec, hpre⟩ rfl hal hinv.1.1.1 rfl hmon (am_dec1 hdec rfl) hf
                    · exact va_runVN (As := as') ⟨hx, hb, hml, hown, hts⟩ hM ⟨am_callN hws hcc hfr1 hlo1 hl, hin, hsel⟩ ⟨am_blind hG.2.1 _ σ top, hrec, hpre⟩ rfl hal hinv.1.1.1 rfl hmon (am_dec1 hdec rfl) hf
                · next a σ1 top1 sl1 hrun =>
                  split at h
                  · next hp hhd =>
                    have hm := am_run_mono _ _ _ _ _ _ _ _ _ _ h
                    have hm1 := am_run_mono _ _ _ _ _ _ _ _ _ _ hrun
                    dsimp only at hm1
                    obtain ⟨x, hx0⟩ := am_run_has hrun
                    obtain ⟨hlt, hws, -, -⟩ := hG.2.2.1 u 0 x hx0
                    have hu0 : u ≠ 0 := hG.2.2.2.2.1 y pc i u v hI hk1
                    obtain ⟨ws', hws⟩ := hws hu0
                    unfold am_hd at hhd
                    split at hhd
                    · next cx fs hnil hσ =>
                      split at hhd
                      · next h12 =>
                        unfold am_hc at hws
                        rw [hnil] at hws
                        have hne : am_hs t y ≠ [] := by
                          intro hn0
                          rw [hn0] at hhd
                          cases hhd
                        have hM := am_metT hG hfl ih hu0 hnil hrun rfl hlc.1 hlc.2
                        dsimp only at hM
                        have hk := ih _ _ _ _ _ _ _ _ _ h p e R s m args below meth c Q c0 s0 hcx hend hthr
                        have hfr1 : d - 1 + 1 ≤ R.frames := by omega
                        have hlo1 : 64 * (d - 1 + 1) ≤ R.locals := by omega
                        rcases hkind with ⟨idx, rfl, hal⟩ | ⟨idx, b, as', rfl, rfl, hal⟩ | ⟨idx, b, as', rfl, rfl, hal, hbc⟩
                        · obtain ⟨-, -, -, h9, -⟩ := hcf hlt
                          exact absurd h9 hne
                        · obtain ⟨-, -, -, -, -, -, h9⟩ := hcf hlt
                          exact absurd h9 hne
                        · obtain ⟨hcc, hlk, hin, hsel, hcls, -, h9⟩ := hcf hlt
                          have hl := h9.resolve_left hne
                          rw [List.reverse_cons, List.append_assoc]
                          refine am_w_catch (cc := bt y) (own := (yn y).cls) (C := (yn u).cls) (b := b) (As := as') (rest := rest) (nm := t.2.2.2.2.2.2.1) (res := (.inr a, σ1, top1, sl1)) (mc := top1 - top) (ms := sl1 - sl) (fs := fs) hx hb hml hown htab rfl (by dsimp only; omega) (by dsimp only; omega) hG.1 hM ⟨am_callB hws hcc hfr1 hlo1 hl, hin, hsel⟩ ?_ hal rfl hsum (am_dec1 hdec rfl) hσ ?_ hhd hk
                          · intro ls H locs cells slots hinv
                            obtain ⟨hc, hs⟩ := hinv.2.2.2
                            have hS := hinv.2.2.1
                            have hpre : ∀ U : State, U.heap = H → s.WarmedH U.vm → am_Pc D cl b0 GL (.ref b :: as') σ top (Value.ref b :: as').toArray U := fun U hU hW =>
                              ⟨rfl, by rw [hU]; exact hinv.2.1.moved hW.alike, hG.2.1 s U hW (by rw [hU]; exact hS.1) (fun q h1 h2 => by rw [hU]; exact hS.2.1 q h1 h2) hgl⟩
                            have hrec : ∃ cellB : Cell, H[b]? = some cellB ∧ cellB.vm.isStatics = false ∧ s.vm.findClass (yn u).cls = some cellB.cls := by
                              rcases hbc with ⟨fs, hb1⟩ | ⟨⟨av, f1, hb1⟩, h50⟩
                              · obtain ⟨hsz, hbt, tys, hK, hcl⟩ := hinv.2.1
                                obtain ⟨-, -, r1, hr9, -, cell, q1, q2, q3, -⟩ := hcl b _ hb1
                                refine ⟨cell, q1, by rw [q3]; rfl, ?_⟩
                                have := (hK.1 _ r1 hr9).2.1
                                rw [hG.1 _ r1 hr9, hcls] at this
                                rw [q2]
                                exact this
                              · obtain ⟨hsz, hbt, tys, hK, hcl⟩ := hinv.2.1
                                obtain ⟨-, -, ⟨cell, q1, q2, q3, -⟩, -⟩ := hcl b _ hb1
                                refine ⟨cell, q1, q2, ?_⟩
                                rw [← hcls, h50, hG50]
                                exact q3
                            exact ⟨⟨am_blind hG.2.1 _ σ top, hrec, hpre⟩, by omega, by omega⟩
                          · intro h' hh'
                            obtain ⟨g1, g2, g3⟩ := hG.2.2.2.2.2.2 y h' hh'
                            obtain ⟨g4, g5⟩ := g3 s args hgl
                            exact ⟨g1, g4, g2, fun r hr => g5 cx r h12 hr⟩
                      · cases hhd
                    · cases hhd
                  · cases h
              · cases h
          · cases h
      · next hk3 =>
        split at h
        · next hd6 =>
          cases h
          exact hthr pc lv st σ top sl i u v hI hk3 hd6.1 hd6.2 rfl
        · cases h
      · split at h
        · cases h
        · next r he =>
          cases h
          exact hend pc lv st i u v hI he
end AMN
end
section
section AMB
variable {p : Program} {l : Launch} {e : Env} {R : Room} {s : State} {m : MethodId} {args : Array Value} {below : List Frame} {meth : Method} {c : Code} {Q : State → Prop}
variable {cc : ByteArray} {D : va_G} {cl : List vw_C} {b0 nL c0 s0 : Nat} {pc top sl : Nat} {lv : am_V} {st rest : List Value} {σ : am_H}
theorem am_w_min (hx : p.tables.exec = Jvm.exec) (hb : c.code = cc) (hml : c.maxLocals = nL) {own : String} {index : Nat} (hown : s.vm.findClass own = some m.cls) (hl : (Cond.methodLink own index Lib.Math.min.name).before args s = true) (hst : (Cond.static Lib.Math.min.name).before args s = true) (hini : (Cond.initialized "java/lang/Math").before args s = true) (hco : (Cond.code Lib.Math.min.name Lib.Math.min.code 2 (some .int)).before args s = true)
    (hd : decode cc pc = .ok (.invokestatic index, 3)) (hfr : 1 ≤ R.frames) (hw : (rest.map fun v => v.category).sum ≤ 8) (hlo : 64 ≤ R.locals) (hr1 : top ≤ R.cells + c0) (hr2 : sl ≤ R.slots + s0) {x y : Int32} (k : am_W p l e R s m args below meth c Q D cl b0 nL c0 s0 (pc + 3) lv (.int (if y < x then y else x) :: rest) σ top sl) : am_W p l e R s m args below meth c Q D cl b0 nL c0 s0 pc lv (.int y :: .int x :: rest) σ top sl := by
  intro ls H locs cells slots h
  obtain ⟨hc, hs⟩ := h.2.2.2
  exact va_mmin hx hb (by rw [hml]; exact h.1.1.1.symm) hown hl hst hini hco hfr (by omega) (by omega) (by omega) hd (k ls H locs cells slots h)
theorem am_w_copy (hx : p.tables.exec = Jvm.exec) (hb : c.code = cc) (hml : c.maxLocals = nL) {own : String} {index : Nat} (hown : s.vm.findClass own = some m.cls) (hl : (Cond.methodLink own index arraycopyName).before args s = true) (hnat : (Cond.native arraycopyName).before args s = true) (hst : (Cond.static arraycopyName).before args s = true) (hini : (Cond.initialized "java/lang/System").before args s = true)
    (hd : decode cc pc = .ok (.invokestatic index, 3)) (hfr : 1 ≤ R.frames) (hw : (rest.map fun v => v.category).sum ≤ 8) (hlo : 8 + (nativeFrameWords "java/lang/System" "arraycopy" 5 + 11) ≤ R.locals) {a b n0 n1 : Nat} {f g : Nat → Int32} {sp dp n : Int32} (ha : σ a = some (.inl (.char, n0, .inl f))) (hbv : σ b = some (.inl (.char, n1, .inl g)))
    (h1 : ¬ sp < 0) (h2 : ¬ dp < 0) (h3 : ¬ n < 0) (h4 : sp.toNatClampNeg + n.toNatClampNeg ≤ n0) (h5 : dp.toNatClampNeg + n.toNatClampNeg ≤ n1)
    (k : am_W p l e R s m args below meth c Q D cl b0 nL c0 s0 (pc + 3) lv rest (am_up σ b (.inl (.char, n1, .inl (va_cpy f g sp.toNatClampNeg dp.toNatClampNeg n.toNatClampNeg)))) top sl) : am_W p l e R s m args below meth c Q D cl b0 nL c0 s0 pc lv (.int n :: .int dp :: .ref b :: .int sp :: .ref a :: rest) σ top sl := by
  have nn : ∀ z : Int32, ¬ z < 0 → z.toInt = (z.toNatClampNeg : Int) := by
    intro z hz
    have hz0 : (0 : Int) ≤ z.toInt := by
      have := Int32.not_lt.mp hz
      simpa using Int32.le_iff_toInt_le.mp this
    show z.toInt = ((z.toInt.toNat : Nat) : Int)
    omega
  intro ls H locs cells slots h T hT X
  obtain ⟨hsz, hbt, tys, hK, hcl⟩ := h.2.1
  obtain ⟨hlta, hb0a, hfta, cA, hina, hHa⟩ := hcl a _ ha
  obtain ⟨hltb, hb0b, hftb, cB, hinb, hHb⟩ := hcl b _ hbv
  obtain ⟨ta, hta⟩ := List.getElem?_of_mem hina
  obtain ⟨tb, htb⟩ := List.getElem?_of_mem hinb
  obtain ⟨-, k0, hk0, cm0, hkk0⟩ := (hK.2 ta _ hta).1 n0 (fun j => .int (f j))
  obtain ⟨-, k1, hk1, cm1, hkk1⟩ := (hK.2 tb _ htb).1 n1 (fun j => .int (g j))
  obtain ⟨vm', X', step⟩ := X.arraycopy hx hown hl hnat hst hini (src := a) (dst := b) (cs := vp_cell cA (n0, .inl f)) (cd := vp_cell cB (n1, .inl g)) (srcPos := sp) (destPos := dp) (n := n) (by rw [hT]; exact hHa) (by rw [hT]; exact hHb)
    (fun _ z => by cases z) (fun _ z => by cases z) (fun z => by cases z) (fun z => by cases z) hk0 hk1 hkk0 hkk1 (by simp [refKind]) h1 h2 h3
    (by rw [nn sp h1, nn n h3]; show ¬ _ > ((arrV cA n0 (fun j => .int (f j))).slots.size : Int); rw [arrV_size]; omega)
    (by rw [nn dp h2, nn n h3]; show ¬ _ > ((arrV cB n1 (fun j => .int (g j))).slots.size : Int); rw [arrV_size]; omega)
    (fun vm₁ _ i hi => by
      have e0 : (vp_cell cA (n0, .inl f)).slots.getD (sp.toNatClampNeg + i) .null = .int (f (sp.toNatClampNeg + i)) := by
        show (arrV cA n0 (fun j => .int (f j))).slots.getD _ _ = _
        rw [Array.getD_eq_getD_getElem?, arrV_read _ _ (by omega)]
        rfl
      refine ⟨?_, ?_⟩
      · rw [e0]
        exact hfta _
      · rw [e0]
        exact trivial)
    (g := F0 m pc ls (.int n :: .int dp :: .ref b :: .int sp :: .ref a :: rest)) rfl (by rw [hml]; exact h.1.1.1) (rest := rest) rfl (by rw [hb]; exact hd) hfr (by show 2 * 0 + _ + _ ≤ _; omega)
  have e1 : copied (vp_cell cA (n0, .inl f)) (vp_cell cB (n1, .inl g)) sp dp n = vp_cell cB (n1, .inl (va_cpy f g sp.toNatClampNeg dp.toNatClampNeg n.toNatClampNeg)) := va_copied (fun z => .int z) cA cB f g h4
  rw [e1] at X' step
  have hsl : b < H.size := by rw [hsz]; exact hltb
  have hheap : ((T.setVm vm').setCell b (vp_cell cB (n1, .inl (va_cpy f g sp.toNatClampNeg dp.toNatClampNeg n.toNatClampNeg)))).heap = H.setIfInBounds b (vp_cell cB (n1, .inl (va_cpy f g sp.toNatClampNeg dp.toNatClampNeg n.toNatClampNeg))) := by rw [← hT]; rfl
  have oq : ∀ q : Nat, q ≠ b → (H.setIfInBounds b (vp_cell cB (n1, .inl (va_cpy f g sp.toNatClampNeg dp.toNatClampNeg n.toNatClampNeg))))[q]? = H[q]? := fun q hq => by simp [Array.getElem?_setIfInBounds, Ne.symm hq]
  have hz : (H.setIfInBounds b (vp_cell cB (n1, .inl (va_cpy f g sp.toNatClampNeg dp.toNatClampNeg n.toNatClampNeg)))).size = H.size := by simp
  have hfit : am_fitA .char (n1, .inl (va_cpy f g sp.toNatClampNeg dp.toNatClampNeg n.toNatClampNeg)) := by
    intro j
    show fits .char (.int (va_cpy f g sp.toNatClampNeg dp.toNatClampNeg n.toNatClampNeg j)) = true
    unfold va_cpy
    split
    · exact hfta _
    · exact hftb _
  have hS := h.2.2.1
  obtain ⟨t2, a1, b1⟩ := k ls _ _ cells slots ⟨h.1, am_dy_upd hsz hbt hK hcl hz oq hltb hb0b ⟨hb0b, hfit, cB, hinb, by simp [Array.getElem?_setIfInBounds, hsl]⟩, ⟨by rw [hz]; exact hS.1, fun q g1 g2 => by
      rw [oq q (fun z => g2 (by rw [z]; exact hb0b))]
      exact hS.2.1 q g1 g2, fun q hq => by
      rcases List.mem_append.mp hq with z | z
      · exact hS.2.2 q z
      · obtain ⟨y, -, hy⟩ := List.mem_map.mp z
        rw [← hy]
        exact hb0b⟩, h.2.2.2⟩ _ hheap X'
  exact ⟨t2, step t2 a1, b1⟩
end AMB
end
section
/-- more fuel, the same end -/
theorem am_run_more {t : am_T} {cs : Nat → Value} : ∀ (n d y pc : Nat) (lv : am_V) (st : List Value) (σ : am_H) (top sl : Nat) (res : am_R), am_run t cs n d y pc lv st σ top sl = some res → ∀ k, am_run t cs (n + k) d y pc lv st σ top sl = some res
  | 0, d, y, pc, lv, st, σ, top, sl, res, h, k => absurd (show (none : Option am_R) = some res from h) (fun z => by cases z)
  | n + 1, d, y, pc, lv, st, σ, top, sl, res, h, k => by
    rw [show n + 1 + k = (n + k) + 1 by omega]
    unfold am_run at h ⊢
    cases hI : t.1 y pc with
    | none => rw [hI] at h; cases h
    | some x =>
      obtain ⟨i, u, v⟩ := x
      rw [hI] at h
      dsimp only at h ⊢
      split at h
      · next hk =>
        try rw [hk]
        try dsimp only
        split at h
        · cases h
        · next pc' lv' st' σ' top' sl' hs =>
          try rw [hs]
          exact am_run_more n _ _ _ _ _ _ _ _ _ h k
      · next hk =>
        try rw [hk]
        try dsimp only
        split at h
        · cases h
        · next as rest hc =>
          try rw [hc]
          try dsimp only
          split at h
          · next hsum =>
            try rw [if_pos hsum]
            split at h
            · next hu =>
              try rw [if_pos hu]
              split at h
              · cases h
              · next r σ1 hb =>
                try rw [hb]
                exact am_run_more n _ _ _ _ _ _ _ _ _ h k
            · next hu =>
              try rw [if_neg hu]
              split at h
              · next hl =>
                try rw [if_pos hl]
                split at h
                · cases h
                · next hr =>
                  rw [am_run_more n _ _ _ _ _ _ _ _ _ hr k]
                  exact am_run_more n _ _ _ _ _ _ _ _ _ h k
                · next hr =>
                  rw [am_run_more n _ _ _ _ _ _ _ _ _ hr k]
                  try dsimp only
                  split at h
                  · next hh =>
                    try rw [hh]
                    exact am_run_more n _ _ _ _ _ _ _ _ _ h k
                  · cases h
              · cases h
          · cases h
      · next hk =>
        try rw [hk]
        exact h
      · exact h
/-- the run from here ends so -/
def am_to (t : am_T) (cs : Nat → Value) (d y pc : Nat) (lv : am_V) (st : List Value) (σ : am_H) (top sl : Nat) (res : am_R) : Prop := ∃ n, am_run t cs n d y pc lv st σ top sl = some res
section AMTO
variable {t : am_T} {cs : Nat → Value} {d y pc : Nat} {lv : am_V} {st : List Value} {σ : am_H} {top sl : Nat} {res : am_R} {i : Instr} {u v : Nat}
theorem am_to_n {pc' : Nat} {lv' : am_V} {st' : List Value} {σ' : am_H} {top' sl' : Nat} (hI : t.1 y pc = some (i, u, v)) (hk : am_kind i u = 0) (hs : am_step cs t.2.2.2.1 t.2.2.2.2.1 t.2.2.2.2.2.1 t.2.2.2.2.2.2.1 d pc lv st σ top sl i u v = some (pc', lv', st', σ', top', sl')) (h : am_to t cs d y pc' lv' st' σ' top' sl' res) : am_to t cs d y pc lv st σ top sl res := by
  obtain ⟨n, h⟩ := h
  refine ⟨n + 1, ?_⟩
  unfold am_run
  rw [hI]
  try dsimp only
  rw [hk]
  try dsimp only
  rw [hs]
  exact h
theorem am_to_end {r : Option Value ⊕ Nat} (hI : t.1 y pc = some (i, u, v)) (hk : am_kind i u = 2) (he : am_end (t.2.2.1 y) st i = some r) : am_to t cs d y pc lv st σ top sl (r, σ, top, sl) := by
  refine ⟨1, ?_⟩
  unfold am_run
  rw [hI]
  try dsimp only
  rw [hk]
  try dsimp only
  rw [he]
  rfl
theorem am_to_call {as rest : List Value} {r : Option Value} {σ1 : am_H} {top1 sl1 : Nat} (hI : t.1 y pc = some (i, u, v)) (hk : am_kind i u = 1) (hc : am_call t.2.2.2.2.2.2.2.1 d st σ i u v = some (as, rest)) (hsum : (rest.map fun w => w.category).sum ≤ 8) (hu : ¬ 1000 < u) (hl : as.length ≤ t.2.1 u ∧ as.all am_c1 = true)
    (h1 : am_to t cs (d - 1) u 0 (am_ent (t.2.1 u) as) [] σ top sl (.inl r, σ1, top1, sl1)) (h2 : am_to t cs d y (pc + 3) lv (r.toList ++ rest) σ1 top1 sl1 res) : am_to t cs d y pc lv st σ top sl res := by
  obtain ⟨n1, h1⟩ := h1
  obtain ⟨n2, h2⟩ := h2
  refine ⟨(n1 + n2) + 1, ?_⟩
  unfold am_run
  rw [hI]
  try dsimp only
  rw [hk]
  try dsimp only
  rw [hc]
  try dsimp only
  rw [if_pos hsum, if_neg hu, if_pos hl, am_run_more _ _ _ _ _ _ _ _ _ _ h1 n2]
  try dsimp only
  rw [Nat.add_comm]
  exact am_run_more _ _ _ _ _ _ _ _ _ _ h2 n1
theorem am_to_bi {as rest : List Value} {r : Option Value} {σ1 : am_H} (hI : t.1 y pc = some (i, u, v)) (hk : am_kind i u = 1) (hc : am_call t.2.2.2.2.2.2.2.1 d st σ i u v = some (as, rest)) (hsum : (rest.map fun w => w.category).sum ≤ 8) (hu : 1000 < u)
    (h1 : am_bi u as σ = some (r, σ1)) (h2 : am_to t cs d y (pc + 3) lv (r.toList ++ rest) σ1 top sl res) : am_to t cs d y pc lv st σ top sl res := by
  obtain ⟨n2, h2⟩ := h2
  refine ⟨n2 + 1, ?_⟩
  unfold am_run
  rw [hI]
  try dsimp only
  rw [hk]
  try dsimp only
  rw [hc]
  try dsimp only
  rw [if_pos hsum, if_pos hu, h1]
  exact h2
theorem am_to_throw (hI : t.1 y pc = some (i, u, v)) (hk : am_kind i u = 3) (hd : 6 ≤ d) (hs : (st.map fun w => w.category).sum ≤ 8) : am_to t cs d y pc lv st σ top sl (.inr top, am_up σ top (.inr (.inl (u, []))), top + 1, sl + t.2.2.2.2.2.1 u) := by
  refine ⟨1, ?_⟩
  unfold am_run
  rw [hI]
  try dsimp only
  rw [hk]
  exact if_pos ⟨hd, hs⟩
theorem am_to_catch {as rest : List Value} {a h : Nat} {σ1 : am_H} {top1 sl1 : Nat} (hI : t.1 y pc = some (i, u, v)) (hk : am_kind i u = 1) (hc : am_call t.2.2.2.2.2.2.2.1 d st σ i u v = some (as, rest)) (hsum : (rest.map fun w => w.category).sum ≤ 8) (hu : ¬ 1000 < u) (hl : as.length ≤ t.2.1 u ∧ as.all am_c1 = true)
    (h1 : am_to t cs (d - 1) u 0 (am_ent (t.2.1 u) as) [] σ top sl (.inr a, σ1, top1, sl1)) (hh : am_hd t y u pc σ1 a = some h) (h2 : am_to t cs d y h lv [.ref a] σ1 top1 sl1 res) : am_to t cs d y pc lv st σ top sl res := by
  obtain ⟨n1, h1⟩ := h1
  obtain ⟨n2, h2⟩ := h2
  refine ⟨(n1 + n2) + 1, ?_⟩
  unfold am_run
  rw [hI]
  try dsimp only
  rw [hk]
  try dsimp only
  rw [hc]
  try dsimp only
  rw [if_pos hsum, if_neg hu, if_pos hl, am_run_more _ _ _ _ _ _ _ _ _ _ h1 n2]
  try dsimp only
  rw [hh]
  try dsimp only
  rw [Nat.add_comm]
  exact am_run_more _ _ _ _ _ _ _ _ _ _ h2 n1
end AMTO
/-- n instructions that go on, at once -/
def am_go (t : am_T) (cs : Nat → Value) (d y : Nat) : Nat → am_X → Option am_X
  | 0, x => some x
  | n + 1, x => match t.1 y x.1 with
    | none => none
    | some (i, u, v) => match am_kind i u with
      | 0 => match am_step cs t.2.2.2.1 t.2.2.2.2.1 t.2.2.2.2.2.1 t.2.2.2.2.2.2.1 d x.1 x.2.1 x.2.2.1 x.2.2.2.1 x.2.2.2.2.1 x.2.2.2.2.2 i u v with
        | none => none
        | some x' => am_go t cs d y n x'
      | _ => none
theorem am_to_go {t : am_T} {cs : Nat → Value} {d y : Nat} {res : am_R} : ∀ (n : Nat) (x x' : am_X), am_go t cs d y n x = some x' → am_to t cs d y x'.1 x'.2.1 x'.2.2.1 x'.2.2.2.1 x'.2.2.2.2.1 x'.2.2.2.2.2 res → am_to t cs d y x.1 x.2.1 x.2.2.1 x.2.2.2.1 x.2.2.2.2.1 x.2.2.2.2.2 res
  | 0, x, x', h, h2 => by
    obtain rfl := Option.some.inj (show some x = some x' from h)
    exact h2
  | n + 1, x, x', h, h2 => by
    unfold am_go at h
    split at h
    · cases h
    · next i u v hI =>
      split at h
      · next hk =>
        split at h
        · cases h
        · next x1 hs => exact am_to_n hI hk hs (am_to_go n x1 x' h h2)
      · cases h
theorem am_up_self (σ : am_H) (a : Nat) (e : am_C) : am_up σ a e a = some e := if_pos rfl
theorem am_up_ne (σ : am_H) {a q : Nat} (e : am_C) (h : ¬ q = a) : am_up σ a e q = σ q := if_neg h
end
