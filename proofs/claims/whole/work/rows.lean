section
-- ===== PART A: goes FIRST, ahead of the names: the tables' words, and 'selects' of the private methods out of them =====
/-- a private method of a class that the tables say can be made, by its rows of tables_1 -/
def lw_okq (q : MethodName × Nat) : Prop := (q.1.cls ≠ "java/lang/invoke/MethodHandle" ∧ q.1.cls ≠ "java/lang/invoke/VarHandle") ∧ Cond.instantiable q.1.cls q.2 ∈ tables_1 ∧ Cond.privateMethod q.1 ∈ tables_1 ∧ Cond.instanceMethod q.1 ∈ tables_1
theorem lw_p0 : lw_okq (⟨"ChainDesk$DeclarationReader", "readMember", "(LChainDesk$Declaration;)Z"⟩, 2) := ⟨⟨by decide +kernel, by decide +kernel⟩, List.mem_of_getElem? (i := 92) (by decide +kernel), List.mem_of_getElem? (i := 369) (by decide +kernel), List.mem_of_getElem? (i := 370) (by decide +kernel)⟩
theorem lw_p1 : lw_okq (⟨"ChainDesk$DeclarationReader", "readMaker", "(ZI)LChainDesk$Member;"⟩, 2) := ⟨⟨by decide +kernel, by decide +kernel⟩, List.mem_of_getElem? (i := 92) (by decide +kernel), List.mem_of_getElem? (i := 427) (by decide +kernel), List.mem_of_getElem? (i := 428) (by decide +kernel)⟩
theorem lw_p2 : lw_okq (⟨"ChainDesk$DeclarationReader", "readParameters", "(LChainDesk$Member;)Z"⟩, 2) := ⟨⟨by decide +kernel, by decide +kernel⟩, List.mem_of_getElem? (i := 92) (by decide +kernel), List.mem_of_getElem? (i := 480) (by decide +kernel), List.mem_of_getElem? (i := 481) (by decide +kernel)⟩
theorem lw_p3 : lw_okq (⟨"ChainDesk$Buffer", "takeWord", "()I"⟩, 3) := ⟨⟨by decide +kernel, by decide +kernel⟩, List.mem_of_getElem? (i := 35) (by decide +kernel), List.mem_of_getElem? (i := 489) (by decide +kernel), List.mem_of_getElem? (i := 490) (by decide +kernel)⟩
theorem lw_p4 : lw_okq (⟨"ChainDesk$DeclarationReader", "readNamed", "(Z)LChainDesk$Member;"⟩, 2) := ⟨⟨by decide +kernel, by decide +kernel⟩, List.mem_of_getElem? (i := 92) (by decide +kernel), List.mem_of_getElem? (i := 497) (by decide +kernel), List.mem_of_getElem? (i := 498) (by decide +kernel)⟩
theorem lw_p5 : lw_okq (⟨"ChainDesk$Declaration", "allowsOverride", "(LChainDesk$Member;)Z"⟩, 4) := ⟨⟨by decide +kernel, by decide +kernel⟩, List.mem_of_getElem? (i := 335) (by decide +kernel), List.mem_of_getElem? (i := 514) (by decide +kernel), List.mem_of_getElem? (i := 515) (by decide +kernel)⟩
theorem lw_p6 : lw_okq (⟨"java/lang/Throwable", "fillInStackTrace", "(I)Ljava/lang/Throwable;"⟩, 6) := ⟨⟨by decide +kernel, by decide +kernel⟩, List.mem_of_getElem? (i := 571) (by decide +kernel), List.mem_of_getElem? (i := 569) (by decide +kernel), List.mem_of_getElem? (i := 570) (by decide +kernel)⟩
theorem lw_p7 : lw_okq (⟨"ChainDesk", "readVariable", "()Z"⟩, 7) := ⟨⟨by decide +kernel, by decide +kernel⟩, List.mem_of_getElem? (i := 27) (by decide +kernel), List.mem_of_getElem? (i := 626) (by decide +kernel), List.mem_of_getElem? (i := 627) (by decide +kernel)⟩
theorem lw_p8 : lw_okq (⟨"ChainDesk$Completer", "startShelf", "(I)V"⟩, 7) := ⟨⟨by decide +kernel, by decide +kernel⟩, List.mem_of_getElem? (i := 125) (by decide +kernel), List.mem_of_getElem? (i := 660) (by decide +kernel), List.mem_of_getElem? (i := 661) (by decide +kernel)⟩
theorem lw_p9 : lw_okq (⟨"ChainDesk$Completer", "keepOfClass", "(II)V"⟩, 7) := ⟨⟨by decide +kernel, by decide +kernel⟩, List.mem_of_getElem? (i := 125) (by decide +kernel), List.mem_of_getElem? (i := 699) (by decide +kernel), List.mem_of_getElem? (i := 700) (by decide +kernel)⟩
theorem lw_p10 : lw_okq (⟨"ChainDesk$Completer", "keepUses", "(LChainDesk$Member;I)V"⟩, 7) := ⟨⟨by decide +kernel, by decide +kernel⟩, List.mem_of_getElem? (i := 125) (by decide +kernel), List.mem_of_getElem? (i := 718) (by decide +kernel), List.mem_of_getElem? (i := 719) (by decide +kernel)⟩
theorem lw_p11 : lw_okq (⟨"ChainDesk$Completer", "keepCalls", "(LChainDesk$Member;II)V"⟩, 7) := ⟨⟨by decide +kernel, by decide +kernel⟩, List.mem_of_getElem? (i := 125) (by decide +kernel), List.mem_of_getElem? (i := 723) (by decide +kernel), List.mem_of_getElem? (i := 724) (by decide +kernel)⟩
theorem lw_p12 : lw_okq (⟨"ChainDesk$Completer", "keepSelections", "(LChainDesk$Phrase;I)V"⟩, 7) := ⟨⟨by decide +kernel, by decide +kernel⟩, List.mem_of_getElem? (i := 125) (by decide +kernel), List.mem_of_getElem? (i := 736) (by decide +kernel), List.mem_of_getElem? (i := 737) (by decide +kernel)⟩
theorem lw_p13 : lw_okq (⟨"ChainDesk$ExpressionReader", "readExpression", "(I)I"⟩, 4) := ⟨⟨by decide +kernel, by decide +kernel⟩, List.mem_of_getElem? (i := 105) (by decide +kernel), List.mem_of_getElem? (i := 756) (by decide +kernel), List.mem_of_getElem? (i := 757) (by decide +kernel)⟩
theorem lw_p14 : lw_okq (⟨"ChainDesk$ExpressionReader", "readHead", "(I)I"⟩, 4) := ⟨⟨by decide +kernel, by decide +kernel⟩, List.mem_of_getElem? (i := 105) (by decide +kernel), List.mem_of_getElem? (i := 760) (by decide +kernel), List.mem_of_getElem? (i := 761) (by decide +kernel)⟩
theorem lw_p15 : lw_okq (⟨"ChainDesk$Catalog", "findOwn", "(ILChainDesk$Kind;I)LChainDesk$Member;"⟩, 3) := ⟨⟨by decide +kernel, by decide +kernel⟩, List.mem_of_getElem? (i := 52) (by decide +kernel), List.mem_of_getElem? (i := 771) (by decide +kernel), List.mem_of_getElem? (i := 772) (by decide +kernel)⟩
def lw_privs_1 : List (MethodName × Nat) := [(⟨"ChainDesk$DeclarationReader", "readMember", "(LChainDesk$Declaration;)Z"⟩, 2), (⟨"ChainDesk$DeclarationReader", "readMaker", "(ZI)LChainDesk$Member;"⟩, 2), (⟨"ChainDesk$DeclarationReader", "readParameters", "(LChainDesk$Member;)Z"⟩, 2), (⟨"ChainDesk$Buffer", "takeWord", "()I"⟩, 3), (⟨"ChainDesk$DeclarationReader", "readNamed", "(Z)LChainDesk$Member;"⟩, 2), (⟨"ChainDesk$Declaration", "allowsOverride", "(LChainDesk$Member;)Z"⟩, 4), (⟨"java/lang/Throwable", "fillInStackTrace", "(I)Ljava/lang/Throwable;"⟩, 6), (⟨"ChainDesk", "readVariable", "()Z"⟩, 7), (⟨"ChainDesk$Completer", "startShelf", "(I)V"⟩, 7), (⟨"ChainDesk$Completer", "keepOfClass", "(II)V"⟩, 7), (⟨"ChainDesk$Completer", "keepUses", "(LChainDesk$Member;I)V"⟩, 7), (⟨"ChainDesk$Completer", "keepCalls", "(LChainDesk$Member;II)V"⟩, 7), (⟨"ChainDesk$Completer", "keepSelections", "(LChainDesk$Phrase;I)V"⟩, 7), (⟨"ChainDesk$ExpressionReader", "readExpression", "(I)I"⟩, 4), (⟨"ChainDesk$ExpressionReader", "readHead", "(I)I"⟩, 4), (⟨"ChainDesk$Catalog", "findOwn", "(ILChainDesk$Kind;I)LChainDesk$Member;"⟩, 3)]
theorem lw_r1 : ∀ q ∈ lw_privs_1, lw_okq q := List.forall_mem_cons.mpr ⟨lw_p0, List.forall_mem_cons.mpr ⟨lw_p1, List.forall_mem_cons.mpr ⟨lw_p2, List.forall_mem_cons.mpr ⟨lw_p3, List.forall_mem_cons.mpr ⟨lw_p4, List.forall_mem_cons.mpr ⟨lw_p5, List.forall_mem_cons.mpr ⟨lw_p6, List.forall_mem_cons.mpr ⟨lw_p7, List.forall_mem_cons.mpr ⟨lw_p8, List.forall_mem_cons.mpr ⟨lw_p9, List.forall_mem_cons.mpr ⟨lw_p10, List.forall_mem_cons.mpr ⟨lw_p11, List.forall_mem_cons.mpr ⟨lw_p12, List.forall_mem_cons.mpr ⟨lw_p13, List.forall_mem_cons.mpr ⟨lw_p14, List.forall_mem_cons.mpr ⟨lw_p15, fun _ h => absurd h List.not_mem_nil⟩⟩⟩⟩⟩⟩⟩⟩⟩⟩⟩⟩⟩⟩⟩⟩
theorem lw_p16 : lw_okq (⟨"ChainDesk$ExpressionReader", "readUse", "(LChainDesk$Member;I)I"⟩, 4) := ⟨⟨by decide +kernel, by decide +kernel⟩, List.mem_of_getElem? (i := 105) (by decide +kernel), List.mem_of_getElem? (i := 775) (by decide +kernel), List.mem_of_getElem? (i := 776) (by decide +kernel)⟩
theorem lw_p17 : lw_okq (⟨"ChainDesk$ExpressionReader", "readArguments", "(LChainDesk$Member;I)Z"⟩, 4) := ⟨⟨by decide +kernel, by decide +kernel⟩, List.mem_of_getElem? (i := 105) (by decide +kernel), List.mem_of_getElem? (i := 780) (by decide +kernel), List.mem_of_getElem? (i := 781) (by decide +kernel)⟩
theorem lw_p18 : lw_okq (⟨"ChainDesk$ExpressionReader", "kindAhead", "()LChainDesk$Kind;"⟩, 4) := ⟨⟨by decide +kernel, by decide +kernel⟩, List.mem_of_getElem? (i := 105) (by decide +kernel), List.mem_of_getElem? (i := 788) (by decide +kernel), List.mem_of_getElem? (i := 789) (by decide +kernel)⟩
theorem lw_p19 : lw_okq (⟨"ChainDesk$ExpressionReader", "readSelection", "(II)I"⟩, 4) := ⟨⟨by decide +kernel, by decide +kernel⟩, List.mem_of_getElem? (i := 105) (by decide +kernel), List.mem_of_getElem? (i := 798) (by decide +kernel), List.mem_of_getElem? (i := 799) (by decide +kernel)⟩
theorem lw_p20 : lw_okq (⟨"ChainDeskModel", "readDeclaration", "()I"⟩, 39) := ⟨⟨by decide +kernel, by decide +kernel⟩, List.mem_of_getElem? (i := 804) (by decide +kernel), List.mem_of_getElem? (i := 944) (by decide +kernel), List.mem_of_getElem? (i := 945) (by decide +kernel)⟩
theorem lw_p21 : lw_okq (⟨"ChainDeskModel", "readClass", "()I"⟩, 39) := ⟨⟨by decide +kernel, by decide +kernel⟩, List.mem_of_getElem? (i := 804) (by decide +kernel), List.mem_of_getElem? (i := 948) (by decide +kernel), List.mem_of_getElem? (i := 949) (by decide +kernel)⟩
theorem lw_p22 : lw_okq (⟨"ChainDeskModel", "look", "(I)C"⟩, 39) := ⟨⟨by decide +kernel, by decide +kernel⟩, List.mem_of_getElem? (i := 804) (by decide +kernel), List.mem_of_getElem? (i := 952) (by decide +kernel), List.mem_of_getElem? (i := 953) (by decide +kernel)⟩
theorem lw_p23 : lw_okq (⟨"ChainDeskModel", "must", "(Z)V"⟩, 39) := ⟨⟨by decide +kernel, by decide +kernel⟩, List.mem_of_getElem? (i := 804) (by decide +kernel), List.mem_of_getElem? (i := 959) (by decide +kernel), List.mem_of_getElem? (i := 960) (by decide +kernel)⟩
theorem lw_p24 : lw_okq (⟨"ChainDeskModel", "pass", "(C)Z"⟩, 39) := ⟨⟨by decide +kernel, by decide +kernel⟩, List.mem_of_getElem? (i := 804) (by decide +kernel), List.mem_of_getElem? (i := 963) (by decide +kernel), List.mem_of_getElem? (i := 964) (by decide +kernel)⟩
theorem lw_p25 : lw_okq (⟨"ChainDeskModel", "expect", "(C)V"⟩, 39) := ⟨⟨by decide +kernel, by decide +kernel⟩, List.mem_of_getElem? (i := 804) (by decide +kernel), List.mem_of_getElem? (i := 967) (by decide +kernel), List.mem_of_getElem? (i := 968) (by decide +kernel)⟩
theorem lw_p26 : lw_okq (⟨"ChainDeskModel", "readMember", "(II)V"⟩, 39) := ⟨⟨by decide +kernel, by decide +kernel⟩, List.mem_of_getElem? (i := 804) (by decide +kernel), List.mem_of_getElem? (i := 971) (by decide +kernel), List.mem_of_getElem? (i := 972) (by decide +kernel)⟩
theorem lw_p27 : lw_okq (⟨"ChainDeskModel", "word", "(ICCCCCC)Z"⟩, 39) := ⟨⟨by decide +kernel, by decide +kernel⟩, List.mem_of_getElem? (i := 804) (by decide +kernel), List.mem_of_getElem? (i := 975) (by decide +kernel), List.mem_of_getElem? (i := 976) (by decide +kernel)⟩
theorem lw_p28 : lw_okq (⟨"ChainDeskModel", "readList", "(I)V"⟩, 39) := ⟨⟨by decide +kernel, by decide +kernel⟩, List.mem_of_getElem? (i := 804) (by decide +kernel), List.mem_of_getElem? (i := 979) (by decide +kernel), List.mem_of_getElem? (i := 980) (by decide +kernel)⟩
theorem lw_p29 : lw_okq (⟨"ChainDeskModel", "readType", "()I"⟩, 39) := ⟨⟨by decide +kernel, by decide +kernel⟩, List.mem_of_getElem? (i := 804) (by decide +kernel), List.mem_of_getElem? (i := 983) (by decide +kernel), List.mem_of_getElem? (i := 984) (by decide +kernel)⟩
theorem lw_p30 : lw_okq (⟨"ChainDeskModel", "letters", "()I"⟩, 39) := ⟨⟨by decide +kernel, by decide +kernel⟩, List.mem_of_getElem? (i := 804) (by decide +kernel), List.mem_of_getElem? (i := 987) (by decide +kernel), List.mem_of_getElem? (i := 988) (by decide +kernel)⟩
theorem lw_p31 : lw_okq (⟨"ChainDeskModel", "readName", "()I"⟩, 39) := ⟨⟨by decide +kernel, by decide +kernel⟩, List.mem_of_getElem? (i := 804) (by decide +kernel), List.mem_of_getElem? (i := 997) (by decide +kernel), List.mem_of_getElem? (i := 998) (by decide +kernel)⟩
def lw_privs_2 : List (MethodName × Nat) := [(⟨"ChainDesk$ExpressionReader", "readUse", "(LChainDesk$Member;I)I"⟩, 4), (⟨"ChainDesk$ExpressionReader", "readArguments", "(LChainDesk$Member;I)Z"⟩, 4), (⟨"ChainDesk$ExpressionReader", "kindAhead", "()LChainDesk$Kind;"⟩, 4), (⟨"ChainDesk$ExpressionReader", "readSelection", "(II)I"⟩, 4), (⟨"ChainDeskModel", "readDeclaration", "()I"⟩, 39), (⟨"ChainDeskModel", "readClass", "()I"⟩, 39), (⟨"ChainDeskModel", "look", "(I)C"⟩, 39), (⟨"ChainDeskModel", "must", "(Z)V"⟩, 39), (⟨"ChainDeskModel", "pass", "(C)Z"⟩, 39), (⟨"ChainDeskModel", "expect", "(C)V"⟩, 39), (⟨"ChainDeskModel", "readMember", "(II)V"⟩, 39), (⟨"ChainDeskModel", "word", "(ICCCCCC)Z"⟩, 39), (⟨"ChainDeskModel", "readList", "(I)V"⟩, 39), (⟨"ChainDeskModel", "readType", "()I"⟩, 39), (⟨"ChainDeskModel", "letters", "()I"⟩, 39), (⟨"ChainDeskModel", "readName", "()I"⟩, 39)]
theorem lw_r2 : ∀ q ∈ lw_privs_2, lw_okq q := List.forall_mem_cons.mpr ⟨lw_p16, List.forall_mem_cons.mpr ⟨lw_p17, List.forall_mem_cons.mpr ⟨lw_p18, List.forall_mem_cons.mpr ⟨lw_p19, List.forall_mem_cons.mpr ⟨lw_p20, List.forall_mem_cons.mpr ⟨lw_p21, List.forall_mem_cons.mpr ⟨lw_p22, List.forall_mem_cons.mpr ⟨lw_p23, List.forall_mem_cons.mpr ⟨lw_p24, List.forall_mem_cons.mpr ⟨lw_p25, List.forall_mem_cons.mpr ⟨lw_p26, List.forall_mem_cons.mpr ⟨lw_p27, List.forall_mem_cons.mpr ⟨lw_p28, List.forall_mem_cons.mpr ⟨lw_p29, List.forall_mem_cons.mpr ⟨lw_p30, List.forall_mem_cons.mpr ⟨lw_p31, fun _ h => absurd h List.not_mem_nil⟩⟩⟩⟩⟩⟩⟩⟩⟩⟩⟩⟩⟩⟩⟩⟩
theorem lw_p32 : lw_okq (⟨"ChainDeskModel", "allowed", "(II)Z"⟩, 39) := ⟨⟨by decide +kernel, by decide +kernel⟩, List.mem_of_getElem? (i := 804) (by decide +kernel), List.mem_of_getElem? (i := 1004) (by decide +kernel), List.mem_of_getElem? (i := 1005) (by decide +kernel)⟩
theorem lw_p33 : lw_okq (⟨"ChainDeskModel", "sameTypes", "(II)Z"⟩, 39) := ⟨⟨by decide +kernel, by decide +kernel⟩, List.mem_of_getElem? (i := 804) (by decide +kernel), List.mem_of_getElem? (i := 1008) (by decide +kernel), List.mem_of_getElem? (i := 1009) (by decide +kernel)⟩
theorem lw_p34 : lw_okq (⟨"ChainDeskModel", "refuse", "(I)I"⟩, 39) := ⟨⟨by decide +kernel, by decide +kernel⟩, List.mem_of_getElem? (i := 804) (by decide +kernel), List.mem_of_getElem? (i := 1012) (by decide +kernel), List.mem_of_getElem? (i := 1013) (by decide +kernel)⟩
theorem lw_p35 : lw_okq (⟨"ChainDeskModel", "copyMember", "(II)V"⟩, 39) := ⟨⟨by decide +kernel, by decide +kernel⟩, List.mem_of_getElem? (i := 804) (by decide +kernel), List.mem_of_getElem? (i := 1016) (by decide +kernel), List.mem_of_getElem? (i := 1017) (by decide +kernel)⟩
theorem lw_p36 : lw_okq (⟨"ChainDeskModel", "variableOf", "(I)I"⟩, 39) := ⟨⟨by decide +kernel, by decide +kernel⟩, List.mem_of_getElem? (i := 804) (by decide +kernel), List.mem_of_getElem? (i := 1024) (by decide +kernel), List.mem_of_getElem? (i := 1025) (by decide +kernel)⟩
theorem lw_p37 : lw_okq (⟨"ChainDeskModel", "fit", "(II)Z"⟩, 39) := ⟨⟨by decide +kernel, by decide +kernel⟩, List.mem_of_getElem? (i := 804) (by decide +kernel), List.mem_of_getElem? (i := 1040) (by decide +kernel), List.mem_of_getElem? (i := 1041) (by decide +kernel)⟩
theorem lw_p38 : lw_okq (⟨"ChainDeskModel", "aboveOf", "(I)I"⟩, 39) := ⟨⟨by decide +kernel, by decide +kernel⟩, List.mem_of_getElem? (i := 804) (by decide +kernel), List.mem_of_getElem? (i := 1044) (by decide +kernel), List.mem_of_getElem? (i := 1045) (by decide +kernel)⟩
theorem lw_p39 : lw_okq (⟨"ChainDeskModel", "keepVariables", "()V"⟩, 39) := ⟨⟨by decide +kernel, by decide +kernel⟩, List.mem_of_getElem? (i := 804) (by decide +kernel), List.mem_of_getElem? (i := 1052) (by decide +kernel), List.mem_of_getElem? (i := 1053) (by decide +kernel)⟩
theorem lw_p40 : lw_okq (⟨"ChainDeskModel", "writeName", "(I)V"⟩, 39) := ⟨⟨by decide +kernel, by decide +kernel⟩, List.mem_of_getElem? (i := 804) (by decide +kernel), List.mem_of_getElem? (i := 1056) (by decide +kernel), List.mem_of_getElem? (i := 1057) (by decide +kernel)⟩
theorem lw_p41 : lw_okq (⟨"ChainDeskModel", "write", "(C)V"⟩, 39) := ⟨⟨by decide +kernel, by decide +kernel⟩, List.mem_of_getElem? (i := 804) (by decide +kernel), List.mem_of_getElem? (i := 1060) (by decide +kernel), List.mem_of_getElem? (i := 1061) (by decide +kernel)⟩
theorem lw_p42 : lw_okq (⟨"ChainDeskModel", "keep", "(II)V"⟩, 39) := ⟨⟨by decide +kernel, by decide +kernel⟩, List.mem_of_getElem? (i := 804) (by decide +kernel), List.mem_of_getElem? (i := 1064) (by decide +kernel), List.mem_of_getElem? (i := 1065) (by decide +kernel)⟩
theorem lw_p43 : lw_okq (⟨"ChainDeskModel", "before", "(I)Z"⟩, 39) := ⟨⟨by decide +kernel, by decide +kernel⟩, List.mem_of_getElem? (i := 804) (by decide +kernel), List.mem_of_getElem? (i := 1068) (by decide +kernel), List.mem_of_getElem? (i := 1069) (by decide +kernel)⟩
theorem lw_p44 : lw_okq (⟨"ChainDeskModel", "copyKept", "(II)V"⟩, 39) := ⟨⟨by decide +kernel, by decide +kernel⟩, List.mem_of_getElem? (i := 804) (by decide +kernel), List.mem_of_getElem? (i := 1072) (by decide +kernel), List.mem_of_getElem? (i := 1073) (by decide +kernel)⟩
theorem lw_p45 : lw_okq (⟨"ChainDeskModel", "keepCost", "(I)V"⟩, 39) := ⟨⟨by decide +kernel, by decide +kernel⟩, List.mem_of_getElem? (i := 804) (by decide +kernel), List.mem_of_getElem? (i := 1076) (by decide +kernel), List.mem_of_getElem? (i := 1077) (by decide +kernel)⟩
theorem lw_p46 : lw_okq (⟨"ChainDeskModel", "usable", "(I)Z"⟩, 39) := ⟨⟨by decide +kernel, by decide +kernel⟩, List.mem_of_getElem? (i := 804) (by decide +kernel), List.mem_of_getElem? (i := 1080) (by decide +kernel), List.mem_of_getElem? (i := 1081) (by decide +kernel)⟩
theorem lw_p47 : lw_okq (⟨"ChainDeskModel", "offer", "(IIII)V"⟩, 39) := ⟨⟨by decide +kernel, by decide +kernel⟩, List.mem_of_getElem? (i := 804) (by decide +kernel), List.mem_of_getElem? (i := 1084) (by decide +kernel), List.mem_of_getElem? (i := 1085) (by decide +kernel)⟩
def lw_privs_3 : List (MethodName × Nat) := [(⟨"ChainDeskModel", "allowed", "(II)Z"⟩, 39), (⟨"ChainDeskModel", "sameTypes", "(II)Z"⟩, 39), (⟨"ChainDeskModel", "refuse", "(I)I"⟩, 39), (⟨"ChainDeskModel", "copyMember", "(II)V"⟩, 39), (⟨"ChainDeskModel", "variableOf", "(I)I"⟩, 39), (⟨"ChainDeskModel", "fit", "(II)Z"⟩, 39), (⟨"ChainDeskModel", "aboveOf", "(I)I"⟩, 39), (⟨"ChainDeskModel", "keepVariables", "()V"⟩, 39), (⟨"ChainDeskModel", "writeName", "(I)V"⟩, 39), (⟨"ChainDeskModel", "write", "(C)V"⟩, 39), (⟨"ChainDeskModel", "keep", "(II)V"⟩, 39), (⟨"ChainDeskModel", "before", "(I)Z"⟩, 39), (⟨"ChainDeskModel", "copyKept", "(II)V"⟩, 39), (⟨"ChainDeskModel", "keepCost", "(I)V"⟩, 39), (⟨"ChainDeskModel", "usable", "(I)Z"⟩, 39), (⟨"ChainDeskModel", "offer", "(IIII)V"⟩, 39)]
theorem lw_r3 : ∀ q ∈ lw_privs_3, lw_okq q := List.forall_mem_cons.mpr ⟨lw_p32, List.forall_mem_cons.mpr ⟨lw_p33, List.forall_mem_cons.mpr ⟨lw_p34, List.forall_mem_cons.mpr ⟨lw_p35, List.forall_mem_cons.mpr ⟨lw_p36, List.forall_mem_cons.mpr ⟨lw_p37, List.forall_mem_cons.mpr ⟨lw_p38, List.forall_mem_cons.mpr ⟨lw_p39, List.forall_mem_cons.mpr ⟨lw_p40, List.forall_mem_cons.mpr ⟨lw_p41, List.forall_mem_cons.mpr ⟨lw_p42, List.forall_mem_cons.mpr ⟨lw_p43, List.forall_mem_cons.mpr ⟨lw_p44, List.forall_mem_cons.mpr ⟨lw_p45, List.forall_mem_cons.mpr ⟨lw_p46, List.forall_mem_cons.mpr ⟨lw_p47, fun _ h => absurd h List.not_mem_nil⟩⟩⟩⟩⟩⟩⟩⟩⟩⟩⟩⟩⟩⟩⟩⟩
theorem lw_p48 : lw_okq (⟨"ChainDeskModel", "costOf", "(I)I"⟩, 39) := ⟨⟨by decide +kernel, by decide +kernel⟩, List.mem_of_getElem? (i := 804) (by decide +kernel), List.mem_of_getElem? (i := 1088) (by decide +kernel), List.mem_of_getElem? (i := 1089) (by decide +kernel)⟩
theorem lw_p49 : lw_okq (⟨"ChainDeskModel", "make", "(IIII)V"⟩, 39) := ⟨⟨by decide +kernel, by decide +kernel⟩, List.mem_of_getElem? (i := 804) (by decide +kernel), List.mem_of_getElem? (i := 1092) (by decide +kernel), List.mem_of_getElem? (i := 1093) (by decide +kernel)⟩
theorem lw_p50 : lw_okq (⟨"ChainDeskModel", "writeKept", "(I)V"⟩, 39) := ⟨⟨by decide +kernel, by decide +kernel⟩, List.mem_of_getElem? (i := 804) (by decide +kernel), List.mem_of_getElem? (i := 1096) (by decide +kernel), List.mem_of_getElem? (i := 1097) (by decide +kernel)⟩
theorem lw_p51 : lw_okq (⟨"ChainDeskModel", "sees", "(II)Z"⟩, 39) := ⟨⟨by decide +kernel, by decide +kernel⟩, List.mem_of_getElem? (i := 804) (by decide +kernel), List.mem_of_getElem? (i := 1100) (by decide +kernel), List.mem_of_getElem? (i := 1101) (by decide +kernel)⟩
theorem lw_p52 : lw_okq (⟨"ChainDeskModel", "behind", "(I)Z"⟩, 39) := ⟨⟨by decide +kernel, by decide +kernel⟩, List.mem_of_getElem? (i := 804) (by decide +kernel), List.mem_of_getElem? (i := 1104) (by decide +kernel), List.mem_of_getElem? (i := 1105) (by decide +kernel)⟩
theorem lw_p53 : lw_okq (⟨"ChainDeskModel", "propose", "(I)V"⟩, 39) := ⟨⟨by decide +kernel, by decide +kernel⟩, List.mem_of_getElem? (i := 804) (by decide +kernel), List.mem_of_getElem? (i := 1108) (by decide +kernel), List.mem_of_getElem? (i := 1109) (by decide +kernel)⟩
theorem lw_p54 : lw_okq (⟨"ChainDeskModel", "primary", "()I"⟩, 39) := ⟨⟨by decide +kernel, by decide +kernel⟩, List.mem_of_getElem? (i := 804) (by decide +kernel), List.mem_of_getElem? (i := 1116) (by decide +kernel), List.mem_of_getElem? (i := 1117) (by decide +kernel)⟩
theorem lw_p55 : lw_okq (⟨"ChainDeskModel", "makerOf", "(I)I"⟩, 39) := ⟨⟨by decide +kernel, by decide +kernel⟩, List.mem_of_getElem? (i := 804) (by decide +kernel), List.mem_of_getElem? (i := 1120) (by decide +kernel), List.mem_of_getElem? (i := 1121) (by decide +kernel)⟩
theorem lw_p56 : lw_okq (⟨"ChainDeskModel", "use", "(I)I"⟩, 39) := ⟨⟨by decide +kernel, by decide +kernel⟩, List.mem_of_getElem? (i := 804) (by decide +kernel), List.mem_of_getElem? (i := 1124) (by decide +kernel), List.mem_of_getElem? (i := 1125) (by decide +kernel)⟩
theorem lw_p57 : lw_okq (⟨"ChainDeskModel", "memberOf", "(IIZ)I"⟩, 39) := ⟨⟨by decide +kernel, by decide +kernel⟩, List.mem_of_getElem? (i := 804) (by decide +kernel), List.mem_of_getElem? (i := 1128) (by decide +kernel), List.mem_of_getElem? (i := 1129) (by decide +kernel)⟩
theorem lw_p58 : lw_okq (⟨"ChainDeskModel", "further", "(I)I"⟩, 39) := ⟨⟨by decide +kernel, by decide +kernel⟩, List.mem_of_getElem? (i := 804) (by decide +kernel), List.mem_of_getElem? (i := 1132) (by decide +kernel), List.mem_of_getElem? (i := 1133) (by decide +kernel)⟩
def lw_privs_4 : List (MethodName × Nat) := [(⟨"ChainDeskModel", "costOf", "(I)I"⟩, 39), (⟨"ChainDeskModel", "make", "(IIII)V"⟩, 39), (⟨"ChainDeskModel", "writeKept", "(I)V"⟩, 39), (⟨"ChainDeskModel", "sees", "(II)Z"⟩, 39), (⟨"ChainDeskModel", "behind", "(I)Z"⟩, 39), (⟨"ChainDeskModel", "propose", "(I)V"⟩, 39), (⟨"ChainDeskModel", "primary", "()I"⟩, 39), (⟨"ChainDeskModel", "makerOf", "(I)I"⟩, 39), (⟨"ChainDeskModel", "use", "(I)I"⟩, 39), (⟨"ChainDeskModel", "memberOf", "(IIZ)I"⟩, 39), (⟨"ChainDeskModel", "further", "(I)I"⟩, 39)]
theorem lw_r4 : ∀ q ∈ lw_privs_4, lw_okq q := List.forall_mem_cons.mpr ⟨lw_p48, List.forall_mem_cons.mpr ⟨lw_p49, List.forall_mem_cons.mpr ⟨lw_p50, List.forall_mem_cons.mpr ⟨lw_p51, List.forall_mem_cons.mpr ⟨lw_p52, List.forall_mem_cons.mpr ⟨lw_p53, List.forall_mem_cons.mpr ⟨lw_p54, List.forall_mem_cons.mpr ⟨lw_p55, List.forall_mem_cons.mpr ⟨lw_p56, List.forall_mem_cons.mpr ⟨lw_p57, List.forall_mem_cons.mpr ⟨lw_p58, fun _ h => absurd h List.not_mem_nil⟩⟩⟩⟩⟩⟩⟩⟩⟩⟩⟩
def lw_privs : List (MethodName × Nat) := lw_privs_1 ++ (lw_privs_2 ++ (lw_privs_3 ++ (lw_privs_4)))
def lw_tbl : List Cond := k2_sels lw_privs ++ tables_1
theorem lw_privs_ok : ∀ q ∈ lw_privs, lw_okq q := by
  show ∀ q ∈ lw_privs_1 ++ (lw_privs_2 ++ (lw_privs_3 ++ (lw_privs_4))), lw_okq q
  exact List.forall_mem_append.mpr ⟨lw_r1, List.forall_mem_append.mpr ⟨lw_r2, List.forall_mem_append.mpr ⟨lw_r3, lw_r4⟩⟩⟩
end
section
/-! an abstract machine over the decoded instructions: cells are arrays, objects, or constants; a frame's variables are a list -/
abbrev am_C : Type := (FieldType × vp_A) ⊕ ((Nat × List Value) ⊕ (Nat × Nat × (Nat → Int32)))
abbrev am_H : Type := Nat → Option am_C
abbrev am_V : Type := List (Option Value)
/-- pc, variables, stack, heap, next address, slots used -/
abbrev am_X : Type := Nat × am_V × List Value × am_H × Nat × Nat
abbrev am_O : Type := Option am_X
abbrev am_R : Type := (Option Value ⊕ Nat) × am_H × Nat × Nat
def am_n (pc : Nat) (lv : am_V) (st : List Value) (σ : am_H) (top sl : Nat) : am_O := some (pc, lv, st, σ, top, sl)
def am_get (lv : am_V) (i : Nat) : Option Value := match lv[i]? with
  | some (some v) => some v
  | _ => none
def am_up (σ : am_H) (a : Nat) (e : am_C) : am_H := fun q => if q = a then some e else σ q
def am_rv (v : Value) : Option (Option Nat) := match v with
  | .null => some none
  | .ref a => some (some a)
  | _ => none
def am_c1 (v : Value) : Bool := match v with
  | .long _ => false
  | .double _ => false
  | _ => true
def am_i1 (st : List Value) (k : Int32 → List Value → am_O) : am_O := match st with
  | .int x :: r => k x r
  | _ => none
def am_i2 (st : List Value) (k : Int32 → Int32 → List Value → am_O) : am_O := match st with
  | .int y :: .int x :: r => k x y r
  | _ => none
def am_l2 (st : List Value) (k : Int64 → Int64 → List Value → am_O) : am_O := match st with
  | .long y :: .long x :: r => k x y r
  | _ => none
def am_a1 (st : List Value) (k : Nat → List Value → am_O) : am_O := match st with
  | .ref a :: r => k a r
  | _ => none
def am_q1 (st : List Value) (k : Option Nat → List Value → am_O) : am_O := match st with
  | .ref a :: r => k (some a) r
  | .null :: r => k none r
  | _ => none
def am_q2 (st : List Value) (k : Option Nat → Option Nat → List Value → am_O) : am_O := match st with
  | .ref b :: .ref a :: r => k (some a) (some b) r
  | .ref b :: .null :: r => k none (some b) r
  | .null :: .ref a :: r => k (some a) none r
  | .null :: .null :: r => k none none r
  | _ => none
def am_v1 (st : List Value) (k : Value → List Value → am_O) : am_O := match st with
  | v :: r => if am_c1 v = true then k v r else none
  | _ => none
def am_v2 (st : List Value) (k : Value → Value → List Value → am_O) : am_O := match st with
  | v :: w :: r => if am_c1 v = true ∧ am_c1 w = true then k v w r else none
  | _ => none
def am_ia (st : List Value) (k : Int32 → Nat → List Value → am_O) : am_O := match st with
  | .int i :: .ref a :: r => k i a r
  | _ => none
def am_iia (st : List Value) (k : Int32 → Int32 → Nat → List Value → am_O) : am_O := match st with
  | .int x :: .int i :: .ref a :: r => k x i a r
  | _ => none
def am_lia (st : List Value) (k : Int64 → Int32 → Nat → List Value → am_O) : am_O := match st with
  | .long x :: .int i :: .ref a :: r => k x i a r
  | _ => none
def am_qia (st : List Value) (k : Option Nat → Int32 → Nat → List Value → am_O) : am_O := match st with
  | .ref x :: .int i :: .ref a :: r => k (some x) i a r
  | .null :: .int i :: .ref a :: r => k none i a r
  | _ => none
def am_va (st : List Value) (k : Value → Nat → List Value → am_O) : am_O := match st with
  | v :: .ref a :: r => k v a r
  | _ => none
theorem am_i1_inv {st : List Value} {k : Int32 → List Value → am_O} {o : am_X} (h : am_i1 st k = some o) : ∃ x r, st = .int x :: r ∧ k x r = some o := by
  unfold am_i1 at h
  split at h
  · exact ⟨_, _, rfl, h⟩
  · cases h
theorem am_i2_inv {st : List Value} {k : Int32 → Int32 → List Value → am_O} {o : am_X} (h : am_i2 st k = some o) : ∃ x y r, st = .int y :: .int x :: r ∧ k x y r = some o := by
  unfold am_i2 at h
  split at h
  · exact ⟨_, _, _, rfl, h⟩
  · cases h
theorem am_l2_inv {st : List Value} {k : Int64 → Int64 → List Value → am_O} {o : am_X} (h : am_l2 st k = some o) : ∃ x y r, st = .long y :: .long x :: r ∧ k x y r = some o := by
  unfold am_l2 at h
  split at h
  · exact ⟨_, _, _, rfl, h⟩
  · cases h
theorem am_a1_inv {st : List Value} {k : Nat → List Value → am_O} {o : am_X} (h : am_a1 st k = some o) : ∃ a r, st = .ref a :: r ∧ k a r = some o := by
  unfold am_a1 at h
  split at h
  · exact ⟨_, _, rfl, h⟩
  · cases h
theorem am_q1_inv {st : List Value} {k : Option Nat → List Value → am_O} {o : am_X} (h : am_q1 st k = some o) : ∃ a r, st = va_rf a :: r ∧ k a r = some o := by
  unfold am_q1 at h
  split at h
  · exact ⟨some _, _, rfl, h⟩
  · exact ⟨none, _, rfl, h⟩
  · cases h
theorem am_q2_inv {st : List Value} {k : Option Nat → Option Nat → List Value → am_O} {o : am_X} (h : am_q2 st k = some o) : ∃ x y r, st = va_rf y :: va_rf x :: r ∧ k x y r = some o := by
  unfold am_q2 at h
  split at h
  · exact ⟨some _, some _, _, rfl, h⟩
  · exact ⟨none, some _, _, rfl, h⟩
  · exact ⟨some _, none, _, rfl, h⟩
  · exact ⟨none, none, _, rfl, h⟩
  · cases h
theorem am_c1_cat {v : Value} (h : am_c1 v = true) : v.category = 1 := by
  cases v <;> first | rfl | cases h
theorem am_v1_inv {st : List Value} {k : Value → List Value → am_O} {o : am_X} (h : am_v1 st k = some o) : ∃ v r, st = v :: r ∧ v.category = 1 ∧ k v r = some o := by
  unfold am_v1 at h
  split at h
  · split at h
    · next hc => exact ⟨_, _, rfl, am_c1_cat hc, h⟩
    · cases h
  · cases h
theorem am_v2_inv {st : List Value} {k : Value → Value → List Value → am_O} {o : am_X} (h : am_v2 st k = some o) : ∃ v w r, st = v :: w :: r ∧ v.category = 1 ∧ w.category = 1 ∧ k v w r = some o := by
  unfold am_v2 at h
  split at h
  · split at h
    · next hc => exact ⟨_, _, _, rfl, am_c1_cat hc.1, am_c1_cat hc.2, h⟩
    · cases h
  · cases h
theorem am_ia_inv {st : List Value} {k : Int32 → Nat → List Value → am_O} {o : am_X} (h : am_ia st k = some o) : ∃ i a r, st = .int i :: .ref a :: r ∧ k i a r = some o := by
  unfold am_ia at h
  split at h
  · exact ⟨_, _, _, rfl, h⟩
  · cases h
theorem am_iia_inv {st : List Value} {k : Int32 → Int32 → Nat → List Value → am_O} {o : am_X} (h : am_iia st k = some o) : ∃ x i a r, st = .int x :: .int i :: .ref a :: r ∧ k x i a r = some o := by
  unfold am_iia at h
  split at h
  · exact ⟨_, _, _, _, rfl, h⟩
  · cases h
theorem am_lia_inv {st : List Value} {k : Int64 → Int32 → Nat → List Value → am_O} {o : am_X} (h : am_lia st k = some o) : ∃ x i a r, st = .long x :: .int i :: .ref a :: r ∧ k x i a r = some o := by
  unfold am_lia at h
  split at h
  · exact ⟨_, _, _, _, rfl, h⟩
  · cases h
theorem am_qia_inv {st : List Value} {k : Option Nat → Int32 → Nat → List Value → am_O} {o : am_X} (h : am_qia st k = some o) : ∃ x i a r, st = va_rf x :: .int i :: .ref a :: r ∧ k x i a r = some o := by
  unfold am_qia at h
  split at h
  · exact ⟨some _, _, _, _, rfl, h⟩
  · exact ⟨none, _, _, _, rfl, h⟩
  · cases h
theorem am_va_inv {st : List Value} {k : Value → Nat → List Value → am_O} {o : am_X} (h : am_va st k = some o) : ∃ v a r, st = v :: .ref a :: r ∧ k v a r = some o := by
  unfold am_va at h
  split at h
  · exact ⟨_, _, _, rfl, h⟩
  · cases h
def am_cb (cd : ClassFile.Cond) (x y : Int32) : Bool := match cd with
  | .eq => decide (x = y)
  | .ne => decide (¬ x = y)
  | .lt => decide (x < y)
  | .ge => decide (y ≤ x)
  | .gt => decide (y < x)
  | .le => decide (x ≤ y)
/-- what a field or an answer of that type takes as it is -/
def am_fv (ty : FieldType) (v : Value) : Bool := match ty, v with
  | .int, .int _ => true
  | .boolean, .int x => x == 0 || x == 1
  | .object _, .ref _ => true
  | .object _, .null => true
  | .array _, .ref _ => true
  | .array _, .null => true
  | _, _ => false
def am_fr (ty : FieldType) (v : Value) : Bool := match ty, v with
  | .char, .int x => decide (vp_nar .char x = x)
  | .byte, .int x => decide (vp_nar .byte x = x)
  | _, _ => am_fv ty v
/-- what an instruction that is no call of ours does; u, v: what its pool entry names -/
def am_step (cs : Nat → Value) (ft : Nat → Nat → FieldType) (df : Nat → List Value) (ns : Nat → Nat) (nm : Nat → String) (d pc : Nat) (lv : am_V) (st : List Value) (σ : am_H) (top sl : Nat) (i : Instr) (u v : Nat) : am_O := match i with
  | .aconst_null => am_n (pc + 1) lv (.null :: st) σ top sl
  | .iconst n => am_n (pc + 1) lv (.int (Int32.ofInt n) :: st) σ top sl
  | .bipush n => am_n (pc + 2) lv (.int (Int8.ofInt n).toInt32 :: st) σ top sl
  | .sipush n => am_n (pc + 3) lv (.int (Int16.ofInt n).toInt32 :: st) σ top sl
  | .ldc _ => am_n (pc + 2) lv (cs u :: st) σ top sl
  | .getstatic _ => am_n (pc + 3) lv (cs u :: st) σ top sl
  | .iload k => match am_get lv k with
    | some (.int x) => am_n (pc + 2) lv (.int x :: st) σ top sl
    | _ => none
  | .iload_n k => match am_get lv k with
    | some (.int x) => am_n (pc + 1) lv (.int x :: st) σ top sl
    | _ => none
  | .aload k => match am_get lv k with
    | some (.ref x) => am_n (pc + 2) lv (.ref x :: st) σ top sl
    | some .null => am_n (pc + 2) lv (.null :: st) σ top sl
    | _ => none
  | .aload_n k => match am_get lv k with
    | some (.ref x) => am_n (pc + 1) lv (.ref x :: st) σ top sl
    | some .null => am_n (pc + 1) lv (.null :: st) σ top sl
    | _ => none
  | .istore k => am_i1 st fun x r => if k < lv.length then am_n (pc + 2) (lv.set k (some (.int x))) r σ top sl else none
  | .istore_n k => am_i1 st fun x r => if (k : Nat) < lv.length then am_n (pc + 1) (lv.set k (some (.int x))) r σ top sl else none
  | .astore k => am_q1 st fun x r => if k < lv.length then am_n (pc + 2) (lv.set k (some (va_rf x))) r σ top sl else none
  | .astore_n k => am_q1 st fun x r => if (k : Nat) < lv.length then am_n (pc + 1) (lv.set k (some (va_rf x))) r σ top sl else none
  | .iinc k n => match am_get lv k with
    | some (.int x) => if k < lv.length then am_n (pc + 3) (lv.set k (some (.int (x + Int32.ofInt n)))) st σ top sl else none
    | _ => none
  | .iadd => am_i2 st fun x y r => am_n (pc + 1) lv (.int (x + y) :: r) σ top sl
  | .isub => am_i2 st fun x y r => am_n (pc + 1) lv (.int (x - y) :: r) σ top sl
  | .imul => am_i2 st fun x y r => am_n (pc + 1) lv (.int (x * y) :: r) σ top sl
  | .idiv => am_i2 st fun x y r => if y = 0 then none else am_n (pc + 1) lv (.int (x / y) :: r) σ top sl
  | .irem => am_i2 st fun x y r => if y = 0 then none else am_n (pc + 1) lv (.int (x - x / y * y) :: r) σ top sl
  | .iand => am_i2 st fun x y r => am_n (pc + 1) lv (.int (x &&& y) :: r) σ top sl
  | .ior => am_i2 st fun x y r => am_n (pc + 1) lv (.int (x ||| y) :: r) σ top sl
  | .ishl => am_i2 st fun x y r => am_n (pc + 1) lv (.int (x <<< (y &&& 31)) :: r) σ top sl
  | .ishr => am_i2 st fun x y r => am_n (pc + 1) lv (.int (x >>> (y &&& 31)) :: r) σ top sl
  | .i2c => am_i1 st fun x r => am_n (pc + 1) lv (.int (x.toUInt32 % 65536).toInt32 :: r) σ top sl
  | .i2l => am_i1 st fun x r => am_n (pc + 1) lv (.long x.toInt64 :: r) σ top sl
  | .lcmp => am_l2 st fun x y r => am_n (pc + 1) lv (.int (lg_cmp x y) :: r) σ top sl
  | .dup => am_v1 st fun x r => am_n (pc + 1) lv (x :: x :: r) σ top sl
  | .pop => am_v1 st fun _ r => am_n (pc + 1) lv r σ top sl
  | .dup_x1 => am_v2 st fun x y r => am_n (pc + 1) lv (x :: y :: x :: r) σ top sl
  | .dup2 => am_v2 st fun x y r => am_n (pc + 1) lv (x :: y :: x :: y :: r) σ top sl
  | .goto _ => am_n u lv st σ top sl
  | .ifCond cd _ => am_i1 st fun x r => if am_cb cd x 0 = true then am_n u lv r σ top sl else am_n (pc + 3) lv r σ top sl
  | .if_icmp cd _ => am_i2 st fun x y r => if am_cb cd x y = true then am_n u lv r σ top sl else am_n (pc + 3) lv r σ top sl
  | .if_acmp .eq _ => am_q2 st fun x y r => if x = y then am_n u lv r σ top sl else am_n (pc + 3) lv r σ top sl
  | .if_acmp .ne _ => am_q2 st fun x y r => if x = y then am_n (pc + 3) lv r σ top sl else am_n u lv r σ top sl
  | .ifnull _ => am_q1 st fun x r => match x with
    | none => am_n u lv r σ top sl
    | some _ => am_n (pc + 3) lv r σ top sl
  | .ifnonnull _ => am_q1 st fun x r => match x with
    | none => am_n (pc + 3) lv r σ top sl
    | some _ => am_n u lv r σ top sl
  | .tableswitch dflt lo hi offs => am_i1 st fun x r =>
    if x.toInt < lo ∨ hi < x.toInt then (if 0 ≤ (pc : Int) + dflt then am_n ((pc : Int) + dflt).toNat lv r σ top sl else none)
    else match offs[(x.toInt - lo).toNat]? with
      | some off => if 0 ≤ (pc : Int) + off then am_n ((pc : Int) + off).toNat lv r σ top sl else none
      | none => none
  | .lookupswitch dflt ps => am_i1 st fun x r =>
    if (ps.toList.zip (ps.toList.drop 1)).all (fun (a, next) => a.1 < next.1) = true ∧ 0 ≤ (pc : Int) + Op.lookupswitch.offset ps.toList dflt x.toInt then am_n ((pc : Int) + Op.lookupswitch.offset ps.toList dflt x.toInt).toNat lv r σ top sl else none
  | .getfield _ => am_a1 st fun a r => match σ a with
    | some (.inr (.inl (c, fs))) => if c = u ∧ ¬ u = 50 then (match fs[v]? with
      | some w => am_n (pc + 3) lv (w :: r) σ top sl
      | none => none) else none
    | some (.inr (.inr (1, av, _))) => if u = 50 then (if v = 0 then am_n (pc + 3) lv (.ref av :: r) σ top sl else am_n (pc + 3) lv (.int 0 :: r) σ top sl) else none
    | _ => none
  | .putfield _ => am_va st fun w a r => match σ a with
    | some (.inr (.inl (c, fs))) => if c = u ∧ v < fs.length ∧ am_fv (ft u v) w = true then am_n (pc + 3) lv r (am_up σ a (.inr (.inl (c, fs.set v w)))) top sl else none
    | _ => none
  | .new _ => am_n (pc + 3) lv (.ref top :: st) (am_up σ top (.inr (.inl (u, df u)))) (top + 1) (sl + ns u)
  | .newarray at_ => am_i1 st fun n r => if n < 0 ∨ 100000 < n.toNatClampNeg then none else match at_ with
    | .int => am_n (pc + 2) lv (.ref top :: r) (am_up σ top (.inl (.int, n.toNatClampNeg, .inl fun _ => 0))) (top + 1) (sl + n.toNatClampNeg)
    | .char => am_n (pc + 2) lv (.ref top :: r) (am_up σ top (.inl (.char, n.toNatClampNeg, .inl fun _ => 0))) (top + 1) (sl + n.toNatClampNeg)
    | .boolean => am_n (pc + 2) lv (.ref top :: r) (am_up σ top (.inl (.boolean, n.toNatClampNeg, .inl fun _ => 0))) (top + 1) (sl + n.toNatClampNeg)
    | .long => am_n (pc + 2) lv (.ref top :: r) (am_up σ top (.inl (.long, n.toNatClampNeg, .inr (.inl fun _ => 0)))) (top + 1) (sl + n.toNatClampNeg)
    | _ => none
  | .anewarray _ => am_i1 st fun n r => if n < 0 ∨ 100000 < n.toNatClampNeg then none else
    am_n (pc + 3) lv (.ref top :: r) (am_up σ top (.inl (.object (nm u), n.toNatClampNeg, .inr (.inr (.inr (.inr fun _ => none)))))) (top + 1) (sl + n.toNatClampNeg)
  | .arraylength => am_a1 st fun a r => match σ a with
    | some (.inl (_, n, _)) => am_n (pc + 1) lv (.int (Int32.ofNat n) :: r) σ top sl
    | some (.inr (.inr (0, n, _))) => am_n (pc + 1) lv (.int (Int32.ofNat n) :: r) σ top sl
    | some (.inr (.inr (2, n, _))) => am_n (pc + 1) lv (.int (Int32.ofNat n) :: r) σ top sl
    | _ => none
  | .iaload => am_ia st fun i a r => match σ a with
    | some (.inl (.int, n, .inl f)) => if i < 0 ∨ n ≤ i.toNatClampNeg then none else am_n (pc + 1) lv (.int (f i.toNatClampNeg) :: r) σ top sl
    | some (.inr (.inr (0, n, f))) => if i < 0 ∨ n ≤ i.toNatClampNeg then none else am_n (pc + 1) lv (.int (f i.toNatClampNeg) :: r) σ top sl
    | _ => none
  | .baload => am_ia st fun i a r => match σ a with
    | some (.inl (.boolean, n, .inl f)) => if i < 0 ∨ n ≤ i.toNatClampNeg then none else am_n (pc + 1) lv (.int (f i.toNatClampNeg) :: r) σ top sl
    | some (.inr (.inr (2, n, f))) => if i < 0 ∨ n ≤ i.toNatClampNeg then none else am_n (pc + 1) lv (.int (f i.toNatClampNeg) :: r) σ top sl
    | _ => none
  | .caload => am_ia st fun i a r => match σ a with
    | some (.inl (.char, n, .inl f)) => if i < 0 ∨ n ≤ i.toNatClampNeg then none else am_n (pc + 1) lv (.int (f i.toNatClampNeg) :: r) σ top sl
    | _ => none
  | .laload => am_ia st fun i a r => match σ a with
    | some (.inl (.long, n, .inr (.inl f))) => if i < 0 ∨ n ≤ i.toNatClampNeg then none else am_n (pc + 1) lv (.long (f i.toNatClampNeg) :: r) σ top sl
    | _ => none
  | .aaload => am_ia st fun i a r => match σ a with
    | some (.inl (.object _, n, .inr (.inr (.inr (.inr f))))) => if i < 0 ∨ n ≤ i.toNatClampNeg then none else am_n (pc + 1) lv (va_rf (f i.toNatClampNeg) :: r) σ top sl
    | _ => none
  | .iastore => am_iia st fun x i a r => match σ a with
    | some (.inl (.int, n, .inl f)) => if i < 0 ∨ n ≤ i.toNatClampNeg then none else am_n (pc + 1) lv r (am_up σ a (.inl (.int, n, .inl (upd f i.toNatClampNeg x)))) top sl
    | _ => none
  | .bastore => am_iia st fun x i a r => match σ a with
    | some (.inl (.boolean, n, .inl f)) => if i < 0 ∨ n ≤ i.toNatClampNeg then none else am_n (pc + 1) lv r (am_up σ a (.inl (.boolean, n, .inl (upd f i.toNatClampNeg (vp_nar .boolean x))))) top sl
    | _ => none
  | .castore => am_iia st fun x i a r => match σ a with
    | some (.inl (.char, n, .inl f)) => if i < 0 ∨ n ≤ i.toNatClampNeg then none else am_n (pc + 1) lv r (am_up σ a (.inl (.char, n, .inl (upd f i.toNatClampNeg (vp_nar .char x))))) top sl
    | _ => none
  | .lastore => am_lia st fun x i a r => match σ a with
    | some (.inl (.long, n, .inr (.inl f))) => if i < 0 ∨ n ≤ i.toNatClampNeg then none else am_n (pc + 1) lv r (am_up σ a (.inl (.long, n, .inr (.inl (vp_updL f i.toNatClampNeg x))))) top sl
    | _ => none
  | .aastore => am_qia st fun x i a r => match σ a with
    | some (.inl (.object C, n, .inr (.inr (.inr (.inr f))))) => if i < 0 ∨ n ≤ i.toNatClampNeg then none else (match x with
      | none => am_n (pc + 1) lv r (am_up σ a (.inl (.object C, n, .inr (.inr (.inr (.inr (va_up f i.toNatClampNeg none))))))) top sl
      | some b => match σ b with
        | some (.inr (.inl (c, _))) => if nm c = C then am_n (pc + 1) lv r (am_up σ a (.inl (.object C, n, .inr (.inr (.inr (.inr (va_up f i.toNatClampNeg (some b)))))))) top sl else none
        | _ => none)
    | _ => none
  | .invokespecial _ => if d = 0 ∨ ¬ u = 1000 then none else am_a1 st fun _ r => if (r.map fun w => w.category).sum ≤ 8 then am_n (pc + 3) lv r σ top sl else none
  | _ => none
/-- 0: an instruction that goes on, 1: a call, 2: an end, 3: an exception is made and thrown -/
def am_kind (i : Instr) (u : Nat) : Nat := match i with
  | .invokestatic _ => 1
  | .invokevirtual _ => 1
  | .invokespecial _ => if u = 1000 then 0 else 1
  | .new _ => if 12 ≤ u then 3 else 0
  | .ireturn => 2
  | .areturn => 2
  | .return_ => 2
  | .athrow => 2
  | _ => 0
/-- a call's arguments, and the rest of the stack -/
def am_call (mc : Nat → Nat) (d : Nat) (st : List Value) (σ : am_H) (i : Instr) (u v : Nat) : Option (List Value × List Value) := match i with
  | .invokestatic _ => if d = 0 ∨ st.length < v then none else some ((st.take v).reverse, st.drop v)
  | .invokespecial _ => if d = 0 then none else match st.drop v with
    | .ref b :: r => some (.ref b :: (st.take v).reverse, r)
    | _ => none
  | .invokevirtual _ => if d = 0 then none else match st.drop v with
    | .ref b :: r => match σ b with
      | some (.inr (.inl (c, _))) => if c = mc u then some (.ref b :: (st.take v).reverse, r) else none
      | some (.inr (.inr (1, _, _))) => if mc u = 50 then some (.ref b :: (st.take v).reverse, r) else none
      | _ => none
    | _ => none
  | _ => none
/-- a method's end: its answer, or the address of what it throws -/
def am_end (rt : FieldType) (st : List Value) (i : Instr) : Option (Option Value ⊕ Nat) := match i with
  | .ireturn => match st with
    | [.int x] => if am_fr rt (.int x) = true then some (.inl (some (.int x))) else none
    | _ => none
  | .areturn => match st with
    | [.ref a] => if am_fr rt (.ref a) = true then some (.inl (some (.ref a))) else none
    | [.null] => if am_fr rt .null = true then some (.inl (some .null)) else none
    | _ => none
  | .return_ => match st with
    | [] => some (.inl none)
    | _ => none
  | _ => none
/-- the library's members that are reached: the smaller of two, the copying of letters, an exception's start -/
def am_bi (u : Nat) (as : List Value) (σ : am_H) : Option (Option Value × am_H) := match u, as with
  | 1003, [.int x, .int y] => some (some (.int (if y < x then y else x)), σ)
  | 1004, [.ref a, .int sp, .ref b, .int dp, .int n] => match σ a, σ b with
    | some (.inl (.char, n0, .inl f)), some (.inl (.char, n1, .inl g)) =>
      if sp < 0 ∨ dp < 0 ∨ n < 0 ∨ n0 < sp.toNatClampNeg + n.toNatClampNeg ∨ n1 < dp.toNatClampNeg + n.toNatClampNeg then none
      else some (none, am_up σ b (.inl (.char, n1, .inl (va_cpy f g sp.toNatClampNeg dp.toNatClampNeg n.toNatClampNeg))))
    | _, _ => none
  | _, _ => none
/-- tables: instructions, variables of a method, what it answers, a field's type, an object's fields at first, its slots, a class's name, a method's class, handlers -/
abbrev am_T : Type := (Nat → Nat → Option (Instr × Nat × Nat)) × (Nat → Nat) × (Nat → FieldType) × (Nat → Nat → FieldType) × (Nat → List Value) × (Nat → Nat) × (Nat → String) × (Nat → Nat) × (Nat → List ((Nat × Nat × Nat × Nat) × Nat))
def am_ent (ml : Nat) (as : List Value) : am_V := as.map some ++ List.replicate (ml - as.length) none
/-- a method's handlers: (from, to, handler, entry), class -/
def am_hs (t : am_T) (y : Nat) : List ((Nat × Nat × Nat × Nat) × Nat) := t.2.2.2.2.2.2.2.2 y
def am_hw (c pc : Nat) : List ((Nat × Nat × Nat × Nat) × Nat) → Option Nat
  | [] => none
  | x :: r => if x.1.1 ≤ pc ∧ pc < x.1.2.1 then (if c = x.2 then some x.1.2.2.1 else am_hw c pc r) else am_hw c pc r
/-- where what the callee u threw is caught -/
def am_hd (t : am_T) (y u pc : Nat) (σ : am_H) (a : Nat) : Option Nat := match am_hs t u, σ a with
  | [], some (.inr (.inl (c, _))) => if 12 ≤ c then am_hw c pc (am_hs t y) else none
  | _, _ => none
/-- n: fuel; d: frames that may be laid on this one -/
def am_run (t : am_T) (cs : Nat → Value) : Nat → Nat → Nat → Nat → am_V → List Value → am_H → Nat → Nat → Option am_R
  | 0, _, _, _, _, _, _, _, _ => none
  | n + 1, d, y, pc, lv, st, σ, top, sl =>
    match t.1 y pc with
    | none => none
    | some (i, u, v) =>
      match am_kind i u with
      | 0 => match am_step cs t.2.2.2.1 t.2.2.2.2.1 t.2.2.2.2.2.1 t.2.2.2.2.2.2.1 d pc lv st σ top sl i u v with
        | none => none
        | some (pc', lv', st', σ', top', sl') => am_run t cs n d y pc' lv' st' σ' top' sl'
      | 1 => match am_call t.2.2.2.2.2.2.2.1 d st σ i u v with
        | none => none
        | some (as, rest) =>
          if (rest.map fun w => w.category).sum ≤ 8 then
            if 1000 < u then
              match am_bi u as σ with
              | none => none
              | some (r, σ1) => am_run t cs n d y (pc + 3) lv (r.toList ++ rest) σ1 top sl
            else if as.length ≤ t.2.1 u ∧ as.all am_c1 = true then
              match am_run t cs n (d - 1) u 0 (am_ent (t.2.1 u) as) [] σ top sl with
              | none => none
              | some (.inl r, σ1, top1, sl1) => am_run t cs n d y (pc + 3) lv (r.toList ++ rest) σ1 top1 sl1
              | some (.inr a, σ1, top1, sl1) => match am_hd t y u pc σ1 a with
                | some h => am_run t cs n d y h lv [.ref a] σ1 top1 sl1
                | none => none
            else none
          else none
      | 3 => if 6 ≤ d ∧ (st.map fun w => w.category).sum ≤ 8 then some (.inr top, am_up σ top (.inr (.inl (u, []))), top + 1, sl + t.2.2.2.2.2.1 u) else none
      | _ => match am_end (t.2.2.1 y) st i with
        | none => none
        | some r => some (r, σ, top, sl)
end
section
theorem am_fv_ok {ty : FieldType} {v : Value} (h : am_fv ty v = true) : narrow ty v = v ∧ fits ty v = true := by
  unfold am_fv at h
  split at h
  · exact ⟨rfl, rfl⟩
  · next x =>
    rw [Bool.or_eq_true, beq_iff_eq, beq_iff_eq] at h
    rcases h with h | h <;> subst h <;> decide
  · exact ⟨rfl, rfl⟩
  · exact ⟨rfl, rfl⟩
  · exact ⟨rfl, rfl⟩
  · exact ⟨rfl, rfl⟩
  · cases h
theorem am_fr_ok {ty : FieldType} {x : Int32} (h : am_fr ty (.int x) = true) : narrow ty (.int x) = .int x := by
  unfold am_fr at h
  split at h
  · next y e =>
    cases e
    have h1 := of_decide_eq_true h
    show Value.int _ = _
    rw [vp_nar_char] at h1
    exact congrArg Value.int h1
  · next y e =>
    cases e
    have h1 := of_decide_eq_true h
    show Value.int _ = _
    rw [vp_nar_byte] at h1
    exact congrArg Value.int h1
  · exact (am_fv_ok h).1
def am_as (lv : am_V) : List (Nat × Value) := (List.range lv.length).filterMap (fun i => (am_get lv i).map (fun v => (i, v)))
theorem am_get_lt {lv : am_V} {j : Nat} {w : Value} (h : am_get lv j = some w) : j < lv.length := by
  unfold am_get at h
  split at h
  · next v e => exact (List.getElem?_eq_some_iff.mp e).1
  · cases h
theorem am_as_mem {lv : am_V} {j : Nat} {w : Value} : (j, w) ∈ am_as lv ↔ am_get lv j = some w := by
  unfold am_as
  rw [List.mem_filterMap]
  constructor
  · rintro ⟨a, -, h⟩
    cases h1 : am_get lv a with
    | none => rw [h1] at h; cases h
    | some v => rw [h1] at h; cases h; exact h1
  · intro h
    exact ⟨j, List.mem_range.mpr (am_get_lt h), by rw [h]; rfl⟩
theorem am_get_set {lv : am_V} {i j : Nat} {v : Value} (hi : i < lv.length) : am_get (lv.set i (some v)) j = if i = j then some v else am_get lv j := by
  unfold am_get
  rw [List.getElem?_set]
  by_cases h : i = j
  · rw [if_pos h, if_pos h, if_pos hi]
  · rw [if_neg h, if_neg h]
/-- the frame's variables are the list's, all of one word -/
def am_ls (ls : Array Slot) (nL : Nat) (lv : am_V) : Prop := lv_has ls nL (am_as lv) ∧ lv.length = nL ∧ ∀ i v, am_get lv i = some v → v.category = 1
theorem am_ls.at {ls : Array Slot} {nL : Nat} {lv : am_V} (h : am_ls ls nL lv) {i : Nat} {v : Value} (hg : am_get lv i = some v) : ls[i]? = some (.val v) := h.1.2.2 (i, v) (am_as_mem.mpr hg)
theorem am_ls.st {ls ls' : Array Slot} {nL : Nat} {lv : am_V} (h : am_ls ls nL lv) {i : Nat} {v : Value} (hi : i < lv.length) (hv : v.category = 1)
    (h' : lv_has ls' nL ((i, v) :: (am_as lv).filter (fun q => !(q.1 == i) && !(q.1 + 1 == i && q.2.category == 2)))) : am_ls ls' nL (lv.set i (some v)) := by
  refine ⟨⟨h'.1, h'.2.1, ?_⟩, by rw [List.length_set]; exact h.2.1, ?_⟩
  · rintro ⟨j, w⟩ hq
    have hq := am_as_mem.mp hq
    rw [am_get_set hi] at hq
    by_cases hj : i = j
    · rw [if_pos hj] at hq
      cases hq
      subst hj
      exact h'.2.2 (i, v) List.mem_cons_self
    · rw [if_neg hj] at hq
      refine h'.2.2 (j, w) (List.mem_cons_of_mem _ (List.mem_filter.mpr ⟨am_as_mem.mpr hq, ?_⟩))
      have hc := h.2.2 j w hq
      simp [hc, Ne.symm hj]
  · intro j w hq
    rw [am_get_set hi] at hq
    by_cases hj : i = j
    · rw [if_pos hj] at hq
      cases hq
      exact hv
    · rw [if_neg hj] at hq
      exact h.2.2 j w hq
theorem am_rf_cat (r : Option Nat) : (va_rf r).category = 1 := by cases r <;> rfl
def am_fitA (ty : FieldType) (ar : vp_A) : Prop := match ar.2 with
  | .inl f => ∀ j, fits ty (.int (f j)) = true
  | _ => True
/-- a text that is a constant; its bytes lie at av -/
def am_str (b0 av a : Nat) (U : State) (H : Heap) : Prop := va_O "java/lang/String" a (fun q => b0 ≤ q) U H ∧ va_OF "java/lang/String" "coder" "B" (.int 0) a (fun q => b0 ≤ q) U H ∧ va_OF "java/lang/String" "value" "[B" (.ref av) a (fun q => b0 ≤ q) U H
theorem am_str.kept {b0 av a : Nat} {U : State} {H H1 : Heap} (h : am_str b0 av a U H) (hq : ∀ q : Nat, q < H.size → ¬ b0 ≤ q → H1[q]? = H[q]?) : am_str b0 av a U H1 := by
  obtain ⟨h1, h2, h3⟩ := h
  exact ⟨h1.kept hq, h2.kept hq, h3.kept hq⟩
theorem am_str.moved {b0 av a : Nat} {u U : State} {H : Heap} (hvm : u.vm.Alike U.vm) (h : am_str b0 av a u H) : am_str b0 av a U H := by
  obtain ⟨h1, h2, h3⟩ := h
  exact ⟨h1.moved hvm, h2.moved hvm, h3.moved hvm⟩
/-- what a cell of ours is on the machine's heap -/
def am_at (D : va_G) (cl : List vw_C) (b0 : Nat) (tys : List (ClassId × FieldType)) (U : State) (a : Nat) (e : am_C) (H : Heap) : Prop := match e with
  | .inl (ty, ar) => b0 ≤ a ∧ am_fitA ty ar ∧ ∃ cA, (cA, ty) ∈ tys ∧ H[a]? = some (vp_cell cA ar)
  | .inr (.inl (c, fs)) => b0 ≤ a ∧ ∃ r : vw_C, cl[c]? = some r ∧ fs.length = r.2.2 ∧ t_OB a (D.1 c) r.2.2 (D.2 c) H (vp_V fs)
  | .inr (.inr (0, n, f)) => a < b0 ∧ va_X a n f U H
  | .inr (.inr (1, av, _)) => a < b0 ∧ am_str b0 av a U H
  | .inr (.inr (_ + 2, n, f)) => a < b0 ∧ va_T .byte a n (fun j => .int (f j)) (fun q => b0 ≤ q) U H
theorem am_at.kept {D : va_G} {cl : List vw_C} {b0 : Nat} {tys : List (ClassId × FieldType)} {U : State} {a : Nat} {e : am_C} {H H1 : Heap} (h : am_at D cl b0 tys U a e H) (hq : H1[a]? = H[a]?) (hl : ∀ q : Nat, q < H.size → ¬ b0 ≤ q → H1[q]? = H[q]?) : am_at D cl b0 tys U a e H1 := by
  match e, h with
  | .inl (ty, ar), ⟨h1, h2, cA, h3, h4⟩ => exact ⟨h1, h2, cA, h3, by rw [hq]; exact h4⟩
  | .inr (.inl (c, fs)), ⟨h1, r, h2, h3, h4⟩ => exact ⟨h1, r, h2, h3, h4.kept hq⟩
  | .inr (.inr (0, n, f)), ⟨h1, h2⟩ => exact ⟨h1, h2.kept hq⟩
  | .inr (.inr (1, av, _)), ⟨h1, h2⟩ => exact ⟨h1, h2.kept hl⟩
  | .inr (.inr (_ + 2, n, f)), ⟨h1, h2⟩ => exact ⟨h1, h2.kept hl⟩
theorem am_at.moved {D : va_G} {cl : List vw_C} {b0 : Nat} {tys : List (ClassId × FieldType)} {u U : State} {a : Nat} {e : am_C} {H : Heap} (hvm : u.vm.Alike U.vm) (h : am_at D cl b0 tys u a e H) : am_at D cl b0 tys U a e H := by
  match e, h with
  | .inl (ty, ar), h => exact h
  | .inr (.inl (c, fs)), h => exact h
  | .inr (.inr (0, n, f)), ⟨h1, h2⟩ => exact ⟨h1, h2.moved hvm⟩
  | .inr (.inr (1, av, _)), ⟨h1, h2⟩ => exact ⟨h1, h2.moved hvm⟩
  | .inr (.inr (_ + 2, n, f)), ⟨h1, h2⟩ => exact ⟨h1, h2.moved hvm⟩
theorem am_at.more {D : va_G} {cl : List vw_C} {b0 : Nat} {tys tys' : List (ClassId × FieldType)} {U : State} {a : Nat} {e : am_C} {H : Heap} (h : am_at D cl b0 tys U a e H) (hq : ∀ x ∈ tys, x ∈ tys') : am_at D cl b0 tys' U a e H := by
  match e, h with
  | .inl (ty, ar), ⟨h1, h2, cA, h3, h4⟩ => exact ⟨h1, h2, cA, hq _ h3, h4⟩
  | .inr (.inl (c, fs)), h => exact h
  | .inr (.inr (0, n, f)), h => exact h
  | .inr (.inr (1, av, _)), h => exact h
  | .inr (.inr (_ + 2, n, f)), h => exact h
/-- the moving cells: the heap's size is 'top', every cell of σ is there -/
def am_dy (D : va_G) (cl : List vw_C) (b0 : Nat) (U : State) (σ : am_H) (top : Nat) (H : Heap) : Prop := H.size = top ∧ b0 ≤ top ∧ ∃ tys : List (ClassId × FieldType), va_K D cl tys U ∧ ∀ a e, σ a = some e → a < top ∧ am_at D cl b0 tys U a e H
theorem am_dy.moved {D : va_G} {cl : List vw_C} {b0 : Nat} {u U : State} {σ : am_H} {top : Nat} {H : Heap} (hvm : u.vm.Alike U.vm) (h : am_dy D cl b0 u σ top H) : am_dy D cl b0 U σ top H := by
  obtain ⟨h1, h0, tys, h2, h3⟩ := h
  exact ⟨h1, h0, tys, va_K.moved hvm h2, fun a e q => ⟨(h3 a e q).1, (h3 a e q).2.moved hvm⟩⟩
theorem am_dy_upd {D : va_G} {cl : List vw_C} {b0 : Nat} {U : State} {σ : am_H} {top : Nat} {H H1 : Heap} {tys : List (ClassId × FieldType)} (hsz : H.size = top) (hbt : b0 ≤ top) (hK : va_K D cl tys U) (hc : ∀ a e, σ a = some e → a < top ∧ am_at D cl b0 tys U a e H)
    {a : Nat} {e : am_C} (z : H1.size = H.size) (oq : ∀ q : Nat, q ≠ a → H1[q]? = H[q]?) (ha : a < top) (hba : b0 ≤ a) (he : am_at D cl b0 tys U a e H1) : am_dy D cl b0 U (am_up σ a e) top H1 := by
  refine ⟨z.trans hsz, hbt, tys, hK, fun q x hq => ?_⟩
  unfold am_up at hq
  by_cases h : q = a
  · rw [if_pos h] at hq
    cases hq
    subst h
    exact ⟨ha, he⟩
  · rw [if_neg h] at hq
    exact ⟨(hc q x hq).1, (hc q x hq).2.kept (oq q h) (fun y _ hy => oq y (fun z => hy (by rw [z]; exact hba)))⟩
theorem am_dy_push {D : va_G} {cl : List vw_C} {b0 : Nat} {U : State} {σ : am_H} {top : Nat} {H H1 : Heap} {tys tys' : List (ClassId × FieldType)} (hsz : H.size = top) (hbt : b0 ≤ top) (hK : va_K D cl tys' U) (hty : ∀ x ∈ tys, x ∈ tys') (hc : ∀ a e, σ a = some e → a < top ∧ am_at D cl b0 tys U a e H)
    {e : am_C} (z : H1.size = top + 1) (oq : ∀ q : Nat, q < top → H1[q]? = H[q]?) (he : am_at D cl b0 tys' U top e H1) : am_dy D cl b0 U (am_up σ top e) (top + 1) H1 := by
  refine ⟨z, Nat.le_succ_of_le hbt, tys', hK, fun q x hq => ?_⟩
  unfold am_up at hq
  by_cases h : q = top
  · rw [if_pos h] at hq
    cases hq
    subst h
    exact ⟨Nat.lt_succ_self _, he⟩
  · rw [if_neg h] at hq
    have := (hc q x hq).1
    exact ⟨Nat.lt_succ_of_lt this, ((hc q x hq).2.kept (oq q this) (fun y h1 _ => oq y (by rw [← hsz]; exact h1))).more hty⟩
theorem am_P1 {D : va_G} {cl : List vw_C} {q : Nat × va_E} {H : Heap} (h : va_at D cl q H) : va_P D cl [q] H := by
  intro k x hx
  have hz : k < 1 := (List.getElem?_eq_some_iff.mp hx).1
  rw [show k = 0 by omega] at hx
  cases hx
  exact h
theorem am_S_put {b0 : Nat} {H0 H H1 : Heap} {locs : List Loc} {a k : Nat} (h : va_S (fun q => b0 ≤ q) H0 H locs) (z : H1.size = H.size) (oq : ∀ q : Nat, q ≠ a → H1[q]? = H[q]?) (ha : b0 ≤ a) : va_S (fun q => b0 ≤ q) H0 H1 (locs ++ [⟨a, k⟩]) := h.put z oq ha
theorem am_S_push {b0 : Nat} {H0 H H1 : Heap} {locs : List Loc} (h : va_S (fun q => b0 ≤ q) H0 H locs) (z : H1.size = H.size + 1) (oq : ∀ q : Nat, q < H.size → H1[q]? = H[q]?) : va_S (fun q => b0 ≤ q) H0 H1 locs :=
  ⟨Nat.le_trans h.1 (by omega), fun q h1 h2 => (oq q (Nat.lt_of_lt_of_le h1 h.1)).trans (h.2.1 q h1 h2), h.2.2⟩
end
section
/-- the frame's state stands for the abstract one -/
def am_inv (D : va_G) (cl : List vw_C) (b0 : Nat) (s : State) (nL c0 s0 : Nat) (lv : am_V) (σ : am_H) (top sl : Nat) (ls : Array Slot) (H : Heap) (locs : List Loc) (cells slots : Nat) : Prop :=
  am_ls ls nL lv ∧ am_dy D cl b0 s σ top H ∧ va_S (fun q => b0 ≤ q) s.heap H locs ∧ cells + c0 = top ∧ slots + s0 = sl
/-- from every state that stands for this abstract one the machine comes to Q -/
def am_W (p : Program) (l : Launch) (e : Env) (R : Room) (s : State) (m : MethodId) (args : Array Value) (below : List Frame) (meth : Method) (c : Code) (Q : State → Prop) (D : va_G) (cl : List vw_C) (b0 nL c0 s0 pc : Nat) (lv : am_V) (st : List Value) (σ : am_H) (top sl : Nat) : Prop :=
  ∀ (ls : Array Slot) (H : Heap) (locs : List Loc) (cells slots : Nat), am_inv D cl b0 s nL c0 s0 lv σ top sl ls H locs cells slots → W p l e R s m args below meth c H locs cells slots Q (F0 m pc ls st)
section AMS
variable {p : Program} {l : Launch} {e : Env} {R : Room} {s : State} {m : MethodId} {args : Array Value} {below : List Frame} {meth : Method} {c : Code} {Q : State → Prop}
variable {cc : ByteArray} {D : va_G} {cl : List vw_C} {b0 nL c0 s0 : Nat} {pc top sl : Nat} {lv : am_V} {st rest : List Value} {σ : am_H}
theorem am_w_null (hx : p.tables.exec = Jvm.exec) (hb : c.code = cc) (hd : decode cc pc = .ok (.aconst_null, 1)) (k : am_W p l e R s m args below meth c Q D cl b0 nL c0 s0 (pc + 1) lv (.null :: st) σ top sl) : am_W p l e R s m args below meth c Q D cl b0 nL c0 s0 pc lv st σ top sl :=
  fun ls H locs cells slots h => lv_null hx hb hd (k ls H locs cells slots h)
theorem am_w_iconst (hx : p.tables.exec = Jvm.exec) (hb : c.code = cc) {n : Int} (hd : decode cc pc = .ok (.iconst n, 1)) (k : am_W p l e R s m args below meth c Q D cl b0 nL c0 s0 (pc + 1) lv (.int (Int32.ofInt n) :: st) σ top sl) : am_W p l e R s m args below meth c Q D cl b0 nL c0 s0 pc lv st σ top sl :=
  fun ls H locs cells slots h => lv_iconst hx hb hd rfl (k ls H locs cells slots h)
theorem am_w_bipush (hx : p.tables.exec = Jvm.exec) (hb : c.code = cc) {n : Int} (hd : decode cc pc = .ok (.bipush n, 2)) (k : am_W p l e R s m args below meth c Q D cl b0 nL c0 s0 (pc + 2) lv (.int (Int8.ofInt n).toInt32 :: st) σ top sl) : am_W p l e R s m args below meth c Q D cl b0 nL c0 s0 pc lv st σ top sl :=
  fun ls H locs cells slots h => lv_bipush hx hb hd rfl (k ls H locs cells slots h)
theorem am_w_sipush (hx : p.tables.exec = Jvm.exec) (hb : c.code = cc) {n : Int} (hd : decode cc pc = .ok (.sipush n, 3)) (k : am_W p l e R s m args below meth c Q D cl b0 nL c0 s0 (pc + 3) lv (.int (Int16.ofInt n).toInt32 :: st) σ top sl) : am_W p l e R s m args below meth c Q D cl b0 nL c0 s0 pc lv st σ top sl :=
  fun ls H locs cells slots h => lv_sipush hx hb hd rfl (k ls H locs cells slots h)
theorem am_w_iload (hx : p.tables.exec = Jvm.exec) (hb : c.code = cc) {i : Nat} {x : Int32} (hd : decode cc pc = .ok (.iload i, 2)) (hg : am_get lv i = some (.int x)) (k : am_W p l e R s m args below meth c Q D cl b0 nL c0 s0 (pc + 2) lv (.int x :: st) σ top sl) : am_W p l e R s m args below meth c Q D cl b0 nL c0 s0 pc lv st σ top sl :=
  fun ls H locs cells slots h => lv_iload hx hb hd (h.1.at hg) (k ls H locs cells slots h)
theorem am_w_iload_n (hx : p.tables.exec = Jvm.exec) (hb : c.code = cc) {i : Fin 4} {x : Int32} (hd : decode cc pc = .ok (.iload_n i, 1)) (hg : am_get lv i = some (.int x)) (k : am_W p l e R s m args below meth c Q D cl b0 nL c0 s0 (pc + 1) lv (.int x :: st) σ top sl) : am_W p l e R s m args below meth c Q D cl b0 nL c0 s0 pc lv st σ top sl :=
  fun ls H locs cells slots h => lv_iload_n hx hb hd rfl (h.1.at hg) (k ls H locs cells slots h)
theorem am_w_aload (hx : p.tables.exec = Jvm.exec) (hb : c.code = cc) {i : Nat} {x : Option Nat} (hd : decode cc pc = .ok (.aload i, 2)) (hg : am_get lv i = some (va_rf x)) (k : am_W p l e R s m args below meth c Q D cl b0 nL c0 s0 (pc + 2) lv (va_rf x :: st) σ top sl) : am_W p l e R s m args below meth c Q D cl b0 nL c0 s0 pc lv st σ top sl := by
  intro ls H locs cells slots h
  cases x with
  | none => exact lv_aloadN hx hb hd (h.1.at hg) (k ls H locs cells slots h)
  | some a => exact lv_aload hx hb hd (h.1.at hg) (k ls H locs cells slots h)
theorem am_w_aload_n (hx : p.tables.exec = Jvm.exec) (hb : c.code = cc) {i : Fin 4} {x : Option Nat} (hd : decode cc pc = .ok (.aload_n i, 1)) (hg : am_get lv i = some (va_rf x)) (k : am_W p l e R s m args below meth c Q D cl b0 nL c0 s0 (pc + 1) lv (va_rf x :: st) σ top sl) : am_W p l e R s m args below meth c Q D cl b0 nL c0 s0 pc lv st σ top sl := by
  intro ls H locs cells slots h
  cases x with
  | none => exact lv_aload_nN hx hb hd rfl (h.1.at hg) (k ls H locs cells slots h)
  | some a => exact lv_aload_n hx hb hd rfl (h.1.at hg) (k ls H locs cells slots h)
theorem am_w_istore (hx : p.tables.exec = Jvm.exec) (hb : c.code = cc) {i : Nat} {x : Int32} (hd : decode cc pc = .ok (.istore i, 2)) (hi : i < lv.length) (k : am_W p l e R s m args below meth c Q D cl b0 nL c0 s0 (pc + 2) (lv.set i (some (.int x))) rest σ top sl) : am_W p l e R s m args below meth c Q D cl b0 nL c0 s0 pc lv (.int x :: rest) σ top sl :=
  fun ls H locs cells slots h => lv_istore hx hb hd h.1.1 (by rw [← h.1.2.1]; exact hi) rfl (fun ls' h' => k ls' H locs cells slots ⟨h.1.st hi rfl h', h.2⟩)
theorem am_w_istore_n (hx : p.tables.exec = Jvm.exec) (hb : c.code = cc) {i : Fin 4} {x : Int32} (hd : decode cc pc = .ok (.istore_n i, 1)) (hi : (i : Nat) < lv.length) (k : am_W p l e R s m args below meth c Q D cl b0 nL c0 s0 (pc + 1) (lv.set i (some (.int x))) rest σ top sl) : am_W p l e R s m args below meth c Q D cl b0 nL c0 s0 pc lv (.int x :: rest) σ top sl :=
  fun ls H locs cells slots h => lv_istore_n hx hb hd rfl h.1.1 (by rw [← h.1.2.1]; exact hi) rfl (fun ls' h' => k ls' H locs cells slots ⟨h.1.st hi rfl h', h.2⟩)
theorem am_w_astore (hx : p.tables.exec = Jvm.exec) (hb : c.code = cc) {i : Nat} {x : Option Nat} (hd : decode cc pc = .ok (.astore i, 2)) (hi : i < lv.length) (k : am_W p l e R s m args below meth c Q D cl b0 nL c0 s0 (pc + 2) (lv.set i (some (va_rf x))) rest σ top sl) : am_W p l e R s m args below meth c Q D cl b0 nL c0 s0 pc lv (va_rf x :: rest) σ top sl := by
  intro ls H locs cells slots h
  cases x with
  | none => exact lv_astoreN hx hb hd h.1.1 (by rw [← h.1.2.1]; exact hi) rfl (fun ls' h' => k ls' H locs cells slots ⟨h.1.st hi rfl h', h.2⟩)
  | some a => exact lv_astore hx hb hd h.1.1 (by rw [← h.1.2.1]; exact hi) rfl (fun ls' h' => k ls' H locs cells slots ⟨h.1.st hi rfl h', h.2⟩)
theorem am_w_astore_n (hx : p.tables.exec = Jvm.exec) (hb : c.code = cc) {i : Fin 4} {x : Option Nat} (hd : decode cc pc = .ok (.astore_n i, 1)) (hi : (i : Nat) < lv.length) (k : am_W p l e R s m args below meth c Q D cl b0 nL c0 s0 (pc + 1) (lv.set i (some (va_rf x))) rest σ top sl) : am_W p l e R s m args below meth c Q D cl b0 nL c0 s0 pc lv (va_rf x :: rest) σ top sl := by
  intro ls H locs cells slots h
  cases x with
  | none => exact lv_astore_nN hx hb hd rfl h.1.1 (by rw [← h.1.2.1]; exact hi) rfl (fun ls' h' => k ls' H locs cells slots ⟨h.1.st hi rfl h', h.2⟩)
  | some a => exact lv_astore_n hx hb hd rfl h.1.1 (by rw [← h.1.2.1]; exact hi) rfl (fun ls' h' => k ls' H locs cells slots ⟨h.1.st hi rfl h', h.2⟩)
theorem am_w_iinc (hx : p.tables.exec = Jvm.exec) (hb : c.code = cc) {i : Nat} {n : Int} {x : Int32} (hd : decode cc pc = .ok (.iinc i n, 3)) (hg : am_get lv i = some (.int x)) (k : am_W p l e R s m args below meth c Q D cl b0 nL c0 s0 (pc + 3) (lv.set i (some (.int (x + Int32.ofInt n)))) st σ top sl) : am_W p l e R s m args below meth c Q D cl b0 nL c0 s0 pc lv st σ top sl := by
  intro ls H locs cells slots h
  have hi := am_get_lt hg
  obtain ⟨kk, hk⟩ := List.getElem?_of_mem (am_as_mem.mpr hg)
  exact lv_iinc hx hb hd h.1.1 hk rfl (by rw [← h.1.2.1]; exact hi) rfl (fun ls' h' => k ls' H locs cells slots ⟨h.1.st hi rfl h', h.2⟩)
theorem am_w_iadd (hx : p.tables.exec = Jvm.exec) (hb : c.code = cc) {x y : Int32} (hd : decode cc pc = .ok (.iadd, 1)) (k : am_W p l e R s m args below meth c Q D cl b0 nL c0 s0 (pc + 1) lv (.int (x + y) :: rest) σ top sl) : am_W p l e R s m args below meth c Q D cl b0 nL c0 s0 pc lv (.int y :: .int x :: rest) σ top sl :=
  fun ls H locs cells slots h => lv_iadd hx hb hd (k ls H locs cells slots h)
theorem am_w_isub (hx : p.tables.exec = Jvm.exec) (hb : c.code = cc) {x y : Int32} (hd : decode cc pc = .ok (.isub, 1)) (k : am_W p l e R s m args below meth c Q D cl b0 nL c0 s0 (pc + 1) lv (.int (x - y) :: rest) σ top sl) : am_W p l e R s m args below meth c Q D cl b0 nL c0 s0 pc lv (.int y :: .int x :: rest) σ top sl :=
  fun ls H locs cells slots h => lv_isub hx hb hd (k ls H locs cells slots h)
theorem am_w_imul (hx : p.tables.exec = Jvm.exec) (hb : c.code = cc) {x y : Int32} (hd : decode cc pc = .ok (.imul, 1)) (k : am_W p l e R s m args below meth c Q D cl b0 nL c0 s0 (pc + 1) lv (.int (x * y) :: rest) σ top sl) : am_W p l e R s m args below meth c Q D cl b0 nL c0 s0 pc lv (.int y :: .int x :: rest) σ top sl :=
  fun ls H locs cells slots h => lv_imul hx hb hd (k ls H locs cells slots h)
theorem am_w_iand (hx : p.tables.exec = Jvm.exec) (hb : c.code = cc) {x y : Int32} (hd : decode cc pc = .ok (.iand, 1)) (k : am_W p l e R s m args below meth c Q D cl b0 nL c0 s0 (pc + 1) lv (.int (x &&& y) :: rest) σ top sl) : am_W p l e R s m args below meth c Q D cl b0 nL c0 s0 pc lv (.int y :: .int x :: rest) σ top sl :=
  fun ls H locs cells slots h => lv_iand hx hb hd (k ls H locs cells slots h)
theorem am_w_ior (hx : p.tables.exec = Jvm.exec) (hb : c.code = cc) {x y : Int32} (hd : decode cc pc = .ok (.ior, 1)) (k : am_W p l e R s m args below meth c Q D cl b0 nL c0 s0 (pc + 1) lv (.int (x ||| y) :: rest) σ top sl) : am_W p l e R s m args below meth c Q D cl b0 nL c0 s0 pc lv (.int y :: .int x :: rest) σ top sl :=
  fun ls H locs cells slots h => lv_ior hx hb hd (k ls H locs cells slots h)
theorem am_w_ishl (hx : p.tables.exec = Jvm.exec) (hb : c.code = cc) {x y : Int32} (hd : decode cc pc = .ok (.ishl, 1)) (k : am_W p l e R s m args below meth c Q D cl b0 nL c0 s0 (pc + 1) lv (.int (x <<< (y &&& 31)) :: rest) σ top sl) : am_W p l e R s m args below meth c Q D cl b0 nL c0 s0 pc lv (.int y :: .int x :: rest) σ top sl :=
  fun ls H locs cells slots h => lv_ishl hx hb hd (k ls H locs cells slots h)
theorem am_w_ishr (hx : p.tables.exec = Jvm.exec) (hb : c.code = cc) {x y : Int32} (hd : decode cc pc = .ok (.ishr, 1)) (k : am_W p l e R s m args below meth c Q D cl b0 nL c0 s0 (pc + 1) lv (.int (x >>> (y &&& 31)) :: rest) σ top sl) : am_W p l e R s m args below meth c Q D cl b0 nL c0 s0 pc lv (.int y :: .int x :: rest) σ top sl :=
  fun ls H locs cells slots h => lv_ishr hx hb hd (k ls H locs cells slots h)
theorem am_w_idiv (hx : p.tables.exec = Jvm.exec) (hb : c.code = cc) {x y : Int32} (hd : decode cc pc = .ok (.idiv, 1)) (hy : ¬ y = 0) (k : am_W p l e R s m args below meth c Q D cl b0 nL c0 s0 (pc + 1) lv (.int (x / y) :: rest) σ top sl) : am_W p l e R s m args below meth c Q D cl b0 nL c0 s0 pc lv (.int y :: .int x :: rest) σ top sl :=
  fun ls H locs cells slots h => lv_idiv hx hb hd hy (k ls H locs cells slots h)
theorem am_w_irem (hx : p.tables.exec = Jvm.exec) (hb : c.code = cc) {x y : Int32} (hd : decode cc pc = .ok (.irem, 1)) (hy : ¬ y = 0) (k : am_W p l e R s m args below meth c Q D cl b0 nL c0 s0 (pc + 1) lv (.int (x - x / y * y) :: rest) σ top sl) : am_W p l e R s m args below meth c Q D cl b0 nL c0 s0 pc lv (.int y :: .int x :: rest) σ top sl :=
  fun ls H locs cells slots h => lv_irem hx hb hd hy (k ls H locs cells slots h)
theorem am_w_i2c (hx : p.tables.exec = Jvm.exec) (hb : c.code = cc) {x : Int32} (hd : decode cc pc = .ok (.i2c, 1)) (k : am_W p l e R s m args below meth c Q D cl b0 nL c0 s0 (pc + 1) lv (.int (x.toUInt32 % 65536).toInt32 :: rest) σ top sl) : am_W p l e R s m args below meth c Q D cl b0 nL c0 s0 pc lv (.int x :: rest) σ top sl :=
  fun ls H locs cells slots h => lv_i2c hx hb hd rfl (k ls H locs cells slots h)
theorem am_w_i2l (hx : p.tables.exec = Jvm.exec) (hb : c.code = cc) {x : Int32} (hd : decode cc pc = .ok (.i2l, 1)) (k : am_W p l e R s m args below meth c Q D cl b0 nL c0 s0 (pc + 1) lv (.long x.toInt64 :: rest) σ top sl) : am_W p l e R s m args below meth c Q D cl b0 nL c0 s0 pc lv (.int x :: rest) σ top sl :=
  fun ls H locs cells slots h => lv_i2l hx hb hd rfl (k ls H locs cells slots h)
theorem am_w_lcmp (hx : p.tables.exec = Jvm.exec) (hb : c.code = cc) {x y : Int64} (hd : decode cc pc = .ok (.lcmp, 1)) (k : am_W p l e R s m args below meth c Q D cl b0 nL c0 s0 (pc + 1) lv (.int (lg_cmp x y) :: rest) σ top sl) : am_W p l e R s m args below meth c Q D cl b0 nL c0 s0 pc lv (.long y :: .long x :: rest) σ top sl :=
  fun ls H locs cells slots h => W.lcmp hx hb hd (k ls H locs cells slots h)
theorem am_w_dup (hx : p.tables.exec = Jvm.exec) (hb : c.code = cc) {x : Value} (hd : decode cc pc = .ok (.dup, 1)) (hc : x.category = 1) (k : am_W p l e R s m args below meth c Q D cl b0 nL c0 s0 (pc + 1) lv (x :: x :: rest) σ top sl) : am_W p l e R s m args below meth c Q D cl b0 nL c0 s0 pc lv (x :: rest) σ top sl :=
  fun ls H locs cells slots h => lv_dup hx hb hd hc (k ls H locs cells slots h)
theorem am_w_pop (hx : p.tables.exec = Jvm.exec) (hb : c.code = cc) {x : Value} (hd : decode cc pc = .ok (.pop, 1)) (hc : x.category = 1) (k : am_W p l e R s m args below meth c Q D cl b0 nL c0 s0 (pc + 1) lv rest σ top sl) : am_W p l e R s m args below meth c Q D cl b0 nL c0 s0 pc lv (x :: rest) σ top sl :=
  fun ls H locs cells slots h => lv_pop hx hb hd hc (k ls H locs cells slots h)
theorem am_w_dup_x1 (hx : p.tables.exec = Jvm.exec) (hb : c.code = cc) {x y : Value} (hd : decode cc pc = .ok (.dup_x1, 1)) (hc : x.category = 1) (hc2 : y.category = 1) (k : am_W p l e R s m args below meth c Q D cl b0 nL c0 s0 (pc + 1) lv (x :: y :: x :: rest) σ top sl) : am_W p l e R s m args below meth c Q D cl b0 nL c0 s0 pc lv (x :: y :: rest) σ top sl :=
  fun ls H locs cells slots h => lv_dup_x1 hx hb hd hc hc2 (k ls H locs cells slots h)
theorem am_w_dup2 (hx : p.tables.exec = Jvm.exec) (hb : c.code = cc) {x y : Value} (hd : decode cc pc = .ok (.dup2, 1)) (hc : x.category = 1) (hc2 : y.category = 1) (k : am_W p l e R s m args below meth c Q D cl b0 nL c0 s0 (pc + 1) lv (x :: y :: x :: y :: rest) σ top sl) : am_W p l e R s m args below meth c Q D cl b0 nL c0 s0 pc lv (x :: y :: rest) σ top sl :=
  fun ls H locs cells slots h => lv_dup2_11 hx hb hd hc hc2 (k ls H locs cells slots h)
theorem am_w_goto (hx : p.tables.exec = Jvm.exec) (hb : c.code = cc) {off : Int} {u : Nat} (hd : decode cc pc = .ok (.goto off, 3)) (ht : (pc : Int) + off = (u : Int)) (k : am_W p l e R s m args below meth c Q D cl b0 nL c0 s0 u lv st σ top sl) : am_W p l e R s m args below meth c Q D cl b0 nL c0 s0 pc lv st σ top sl :=
  fun ls H locs cells slots h => lv_goto hx hb hd ht (k ls H locs cells slots h)
theorem am_w_if (hx : p.tables.exec = Jvm.exec) (hb : c.code = cc) {cd : ClassFile.Cond} {off : Int} {u : Nat} {x : Int32} (hd : decode cc pc = .ok (.ifCond cd off, 3)) (ht : (pc : Int) + off = (u : Int)) (kt : am_cb cd x 0 = true → am_W p l e R s m args below meth c Q D cl b0 nL c0 s0 u lv rest σ top sl) (kf : ¬ am_cb cd x 0 = true → am_W p l e R s m args below meth c Q D cl b0 nL c0 s0 (pc + 3) lv rest σ top sl) : am_W p l e R s m args below meth c Q D cl b0 nL c0 s0 pc lv (.int x :: rest) σ top sl := by
  intro ls H locs cells slots h
  cases cd with
  | eq => exact lv_if_eq hx hb hd ht (fun q => kt (decide_eq_true q) ls H locs cells slots h) (fun q => kf (fun z => q (of_decide_eq_true z)) ls H locs cells slots h)
  | ne => exact lv_if_ne hx hb hd ht (fun q => kt (decide_eq_true q) ls H locs cells slots h) (fun q => kf (fun z => of_decide_eq_true z q) ls H locs cells slots h)
  | lt => exact lv_if_lt hx hb hd ht (fun q => kt (decide_eq_true q) ls H locs cells slots h) (fun q => kf (fun z => q (of_decide_eq_true z)) ls H locs cells slots h)
  | ge => exact lv_if_ge hx hb hd ht (fun q => kt (decide_eq_true q) ls H locs cells slots h) (fun q => kf (fun z => q (of_decide_eq_true z)) ls H locs cells slots h)
  | gt => exact lv_if_gt hx hb hd ht (fun q => kt (decide_eq_true q) ls H locs cells slots h) (fun q => kf (fun z => q (of_decide_eq_true z)) ls H locs cells slots h)
  | le => exact lv_if_le hx hb hd ht (fun q => kt (decide_eq_true q) ls H locs cells slots h) (fun q => kf (fun z => q (of_decide_eq_true z)) ls H locs cells slots h)
theorem am_w_icmp (hx : p.tables.exec = Jvm.exec) (hb : c.code = cc) {cd : ClassFile.Cond} {off : Int} {u : Nat} {x y : Int32} (hd : decode cc pc = .ok (.if_icmp cd off, 3)) (ht : (pc : Int) + off = (u : Int)) (kt : am_cb cd x y = true → am_W p l e R s m args below meth c Q D cl b0 nL c0 s0 u lv rest σ top sl) (kf : ¬ am_cb cd x y = true → am_W p l e R s m args below meth c Q D cl b0 nL c0 s0 (pc + 3) lv rest σ top sl) : am_W p l e R s m args below meth c Q D cl b0 nL c0 s0 pc lv (.int y :: .int x :: rest) σ top sl := by
  intro ls H locs cells slots h
  cases cd with
  | eq => exact lv_icmp_eq hx hb hd ht (fun q => kt (decide_eq_true q) ls H locs cells slots h) (fun q => kf (fun z => q (of_decide_eq_true z)) ls H locs cells slots h)
  | ne => exact lv_icmp_ne hx hb hd ht (fun q => kt (decide_eq_true q) ls H locs cells slots h) (fun q => kf (fun z => of_decide_eq_true z q) ls H locs cells slots h)
  | lt => exact lv_icmp_lt hx hb hd ht (fun q => kt (decide_eq_true q) ls H locs cells slots h) (fun q => kf (fun z => q (of_decide_eq_true z)) ls H locs cells slots h)
  | ge => exact lv_icmp_ge hx hb hd ht (fun q => kt (decide_eq_true q) ls H locs cells slots h) (fun q => kf (fun z => q (of_decide_eq_true z)) ls H locs cells slots h)
  | gt => exact lv_icmp_gt hx hb hd ht (fun q => kt (decide_eq_true q) ls H locs cells slots h) (fun q => kf (fun z => q (of_decide_eq_true z)) ls H locs cells slots h)
  | le => exact lv_icmp_le hx hb hd ht (fun q => kt (decide_eq_true q) ls H locs cells slots h) (fun q => kf (fun z => q (of_decide_eq_true z)) ls H locs cells slots h)
theorem am_w_acmp_eq (hx : p.tables.exec = Jvm.exec) (hb : c.code = cc) {off : Int} {u : Nat} {x y : Option Nat} (hd : decode cc pc = .ok (.if_acmp .eq off, 3)) (ht : (pc : Int) + off = (u : Int)) (kt : x = y → am_W p l e R s m args below meth c Q D cl b0 nL c0 s0 u lv rest σ top sl) (kf : ¬ x = y → am_W p l e R s m args below meth c Q D cl b0 nL c0 s0 (pc + 3) lv rest σ top sl) : am_W p l e R s m args below meth c Q D cl b0 nL c0 s0 pc lv (va_rf y :: va_rf x :: rest) σ top sl :=
  fun ls H locs cells slots h => lv_acmp_eq hx hb hd ht (fun q => kt q ls H locs cells slots h) (fun q => kf q ls H locs cells slots h)
theorem am_w_acmp_ne (hx : p.tables.exec = Jvm.exec) (hb : c.code = cc) {off : Int} {u : Nat} {x y : Option Nat} (hd : decode cc pc = .ok (.if_acmp .ne off, 3)) (ht : (pc : Int) + off = (u : Int)) (kt : ¬ x = y → am_W p l e R s m args below meth c Q D cl b0 nL c0 s0 u lv rest σ top sl) (kf : x = y → am_W p l e R s m args below meth c Q D cl b0 nL c0 s0 (pc + 3) lv rest σ top sl) : am_W p l e R s m args below meth c Q D cl b0 nL c0 s0 pc lv (va_rf y :: va_rf x :: rest) σ top sl :=
  fun ls H locs cells slots h => lv_acmp_ne hx hb hd ht (fun q => kt q ls H locs cells slots h) (fun q => kf q ls H locs cells slots h)
theorem am_w_ifnull (hx : p.tables.exec = Jvm.exec) (hb : c.code = cc) {off : Int} {u : Nat} {x : Option Nat} (hd : decode cc pc = .ok (.ifnull off, 3)) (ht : (pc : Int) + off = (u : Int)) (kt : x = none → am_W p l e R s m args below meth c Q D cl b0 nL c0 s0 u lv rest σ top sl) (kf : ∀ a, x = some a → am_W p l e R s m args below meth c Q D cl b0 nL c0 s0 (pc + 3) lv rest σ top sl) : am_W p l e R s m args below meth c Q D cl b0 nL c0 s0 pc lv (va_rf x :: rest) σ top sl := by
  intro ls H locs cells slots h
  cases x with
  | none => exact lv_ifnullN hx hb hd ht (kt rfl ls H locs cells slots h)
  | some a => exact lv_ifnull hx hb hd (kf a rfl ls H locs cells slots h)
theorem am_w_ifnonnull (hx : p.tables.exec = Jvm.exec) (hb : c.code = cc) {off : Int} {u : Nat} {x : Option Nat} (hd : decode cc pc = .ok (.ifnonnull off, 3)) (ht : (pc : Int) + off = (u : Int)) (kt : ∀ a, x = some a → am_W p l e R s m args below meth c Q D cl b0 nL c0 s0 u lv rest σ top sl) (kf : x = none → am_W p l e R s m args below meth c Q D cl b0 nL c0 s0 (pc + 3) lv rest σ top sl) : am_W p l e R s m args below meth c Q D cl b0 nL c0 s0 pc lv (va_rf x :: rest) σ top sl := by
  intro ls H locs cells slots h
  cases x with
  | none => exact lv_ifnonnullN hx hb hd (kf rfl ls H locs cells slots h)
  | some a => exact lv_ifnonnull hx hb hd ht (kt a rfl ls H locs cells slots h)
theorem am_w_tsw (hx : p.tables.exec = Jvm.exec) (hb : c.code = cc) {dflt lo hi : Int} {offs : Array Int} {len : Nat} {x : Int32} (hd : decode cc pc = .ok (.tableswitch dflt lo hi offs, len)) (h0 : x.toInt < lo ∨ hi < x.toInt) (ht : 0 ≤ (pc : Int) + dflt) (k : am_W p l e R s m args below meth c Q D cl b0 nL c0 s0 (((pc : Int) + dflt).toNat) lv rest σ top sl) : am_W p l e R s m args below meth c Q D cl b0 nL c0 s0 pc lv (.int x :: rest) σ top sl :=
  fun ls H locs cells slots h => lv_tableOut hx hb hd h0 (Int.toNat_of_nonneg ht).symm (k ls H locs cells slots h)
theorem am_w_tsw2 (hx : p.tables.exec = Jvm.exec) (hb : c.code = cc) {dflt lo hi off : Int} {offs : Array Int} {len : Nat} {x : Int32} (hd : decode cc pc = .ok (.tableswitch dflt lo hi offs, len)) (h0 : ¬ (x.toInt < lo ∨ hi < x.toInt)) (ho : offs[(x.toInt - lo).toNat]? = some off) (ht : 0 ≤ (pc : Int) + off) (k : am_W p l e R s m args below meth c Q D cl b0 nL c0 s0 (((pc : Int) + off).toNat) lv rest σ top sl) : am_W p l e R s m args below meth c Q D cl b0 nL c0 s0 pc lv (.int x :: rest) σ top sl :=
  fun ls H locs cells slots h => lv_tableIn hx hb hd (fun q => h0 (Or.inl q)) (fun q => h0 (Or.inr q)) ho (Int.toNat_of_nonneg ht).symm (k ls H locs cells slots h)
theorem am_w_lsw (hx : p.tables.exec = Jvm.exec) (hb : c.code = cc) {dflt : Int} {ps : Array (Int × Int)} {len : Nat} {x : Int32} (hd : decode cc pc = .ok (.lookupswitch dflt ps, len)) (hp : (ps.toList.zip (ps.toList.drop 1)).all (fun (a, next) => a.1 < next.1) = true) (ht : 0 ≤ (pc : Int) + Op.lookupswitch.offset ps.toList dflt x.toInt) (k : am_W p l e R s m args below meth c Q D cl b0 nL c0 s0 (((pc : Int) + Op.lookupswitch.offset ps.toList dflt x.toInt).toNat) lv rest σ top sl) : am_W p l e R s m args below meth c Q D cl b0 nL c0 s0 pc lv (.int x :: rest) σ top sl :=
  fun ls H locs cells slots h => lv_lookup hx hb hd hp rfl (Int.toNat_of_nonneg ht).symm (k ls H locs cells slots h)
theorem am_w_ldc (hx : p.tables.exec = Jvm.exec) (hb : c.code = cc) {own tx : String} {index q : Nat} (hown : s.vm.findClass own = some m.cls) (hZ : vk_R own index tx q s) (hd : decode cc pc = .ok (.ldc index, 2)) (k : am_W p l e R s m args below meth c Q D cl b0 nL c0 s0 (pc + 2) lv (.ref q :: st) σ top sl) : am_W p l e R s m args below meth c Q D cl b0 nL c0 s0 pc lv st σ top sl :=
  fun ls H locs cells slots h => va_ldcS hx hb hown hZ hd (k ls H locs cells slots h)
theorem am_w_gets (hx : p.tables.exec = Jvm.exec) (hb : c.code = cc) {C n d own : String} {index : Nat} {v : Value} (hown : s.vm.findClass own = some m.cls) (hZ : va_Z C n d v (fun q => b0 ≤ q) s s.heap) (hl : (Cond.fieldLink own index C n d).before args s = true) (hd : decode cc pc = .ok (.getstatic index, 3)) (k : am_W p l e R s m args below meth c Q D cl b0 nL c0 s0 (pc + 3) lv (v :: st) σ top sl) : am_W p l e R s m args below meth c Q D cl b0 nL c0 s0 pc lv st σ top sl :=
  fun ls H locs cells slots h => va_gets hx hb hZ h.2.2.1 hown hl (fun _ q => q) hd (k ls H locs cells slots h)
theorem am_w_getf (hx : p.tables.exec = Jvm.exec) (hb : c.code = cc) {own C : String} {T : u_T} {N u index : Nat} (hown : s.vm.findClass own = some m.cls) (hts : ∀ w ∈ u_ws C T N, w.before args s = true) (hc : cl[u]? = some (C, T, N)) (hdecl : ∀ k, k < N → (T k).1 = C) {v : Nat} (hv : v < N)
    (hl : (Cond.fieldLink own index C (T v).2.1 (T v).2.2.1).before args s = true ∨ ∃ host, (Cond.fieldLinkNest own index C (T v).2.1 (T v).2.2.1 host).before args s = true) (hd : decode cc pc = .ok (.getfield index, 3)) {a : Nat} {fs : List Value} {w : Value} (ha : σ a = some (.inr (.inl (u, fs)))) (hw : fs[v]? = some w)
    (k : am_W p l e R s m args below meth c Q D cl b0 nL c0 s0 (pc + 3) lv (w :: rest) σ top sl) : am_W p l e R s m args below meth c Q D cl b0 nL c0 s0 pc lv (.ref a :: rest) σ top sl := by
  intro ls H locs cells slots h
  obtain ⟨hsz, hbt, tys, hK, hcl⟩ := h.2.1
  obtain ⟨-, -, r, hr, -, hob⟩ := hcl a _ ha
  have hP : va_P D cl [(a, .inr (u, fs))] H := am_P1 ⟨r, hr, hob⟩
  rcases hl with hl | ⟨host, hl⟩
  · exact va_get hx hb hts (fun _ z => z) hown hK hP 0 rfl hc v hv hl (fun x q => by rw [hdecl v hv] at q; exact q) hw hd (k ls H locs cells slots h)
  · exact va_getN hx hb hts (fun _ z => z) hown hK hP 0 rfl hc v hv hl (fun x q => by rw [hdecl v hv] at q; exact q) hw hd (k ls H locs cells slots h)
theorem am_w_putf (hx : p.tables.exec = Jvm.exec) (hb : c.code = cc) {own C : String} {T : u_T} {N u index : Nat} (hown : s.vm.findClass own = some m.cls) (hts : ∀ w ∈ u_ws C T N, w.before args s = true) (hc : cl[u]? = some (C, T, N)) (hdecl : ∀ k, k < N → (T k).1 = C) (ty : Nat → FieldType) (hty : ∀ k, k < N → parseFieldDescriptor (T k).2.2.1 = some (ty k)) (hnm : ∀ a, a < N → ∀ b, b < N → a ≠ b → (T a).2.1 ≠ (T b).2.1) {v : Nat} (hv : v < N)
    (hl : (Cond.fieldLink own index C (T v).2.1 (T v).2.2.1).before args s = true ∧ ((T v).2.2.2 = false ∨ ((T v).2.2.2 = true ∧ meth.name = "<init>" ∧ own = C)) ∨ (T v).2.2.2 = false ∧ ∃ host, (Cond.fieldLinkNest own index C (T v).2.1 (T v).2.2.1 host).before args s = true) (hd : decode cc pc = .ok (.putfield index, 3)) {a : Nat} {fs : List Value} {w : Value} (ha : σ a = some (.inr (.inl (u, fs)))) (hw : am_fv (ty v) w = true)
    (k : am_W p l e R s m args below meth c Q D cl b0 nL c0 s0 (pc + 3) lv rest (am_up σ a (.inr (.inl (u, fs.set v w)))) top sl) : am_W p l e R s m args below meth c Q D cl b0 nL c0 s0 pc lv (w :: .ref a :: rest) σ top sl := by
  intro ls H locs cells slots h
  obtain ⟨hsz, hbt, tys, hK, hcl⟩ := h.2.1
  obtain ⟨hlt, hb0, r, hr, hfl, cell, q1, q2, q3, q4⟩ := hcl a _ ha
  have hap := va_apart (own := own) hts (fun _ z => z) ty hty hnm hK hc
  have hr2 : r = (C, T, N) := Option.some.inj (hr.symm.trans hc)
  subst hr2
  obtain ⟨hSl, hfc, kC, hkC, hkind⟩ := hK.1 u _ hc
  obtain ⟨cf, kf, fi, f, hi, hsl⟩ := hSl v hv
  have hi2 : s.fieldFound? C (T v).2.1 (T v).2.2.1 = some (cf, kf, fi, f) := by rw [hdecl v hv] at hi; exact hi
  have hst := (u_facts hfc hkC (u_lays hts (fun _ z => z) hv) hi).1
  have hok := am_fv_ok hw
  have hfin : ∀ (H' : Heap), H'[a]? = some (cell.setSlot f.slot w) → H'.size = H.size → (∀ q, q ≠ a → H'[q]? = H[q]?) → W p l e R s m args below meth c H' (locs ++ [⟨a, f.slot⟩]) cells slots Q (F0 m (pc + 3) ls rest) := by
    intro H' e1 e2 e3
    refine k ls H' _ cells slots ⟨h.1, am_dy_upd hsz hbt hK hcl e2 e3 hlt hb0 ⟨hb0, (C, T, N), hc, by rw [List.length_set]; exact hfl, ?_⟩, am_S_put h.2.2.1 e2 e3 hb0, h.2.2.2⟩
    rw [hsl] at e1
    exact t_OB.to (V := updV (vp_V fs) v w) ⟨_, e1, q2, q3, t_set q4 hap hv w⟩ (fun j _ => vp_updV_set (by rw [hfl]; exact hv) w j)
  rcases hl with ⟨hl, hf | ⟨hf, hm, ho⟩⟩ | ⟨hf, host, hl⟩
  · have hlay := hts _ (u_in_lay hv)
    unfold u_lay at hlay
    rw [if_neg (by rw [hf]; decide)] at hlay
    have h6 := u_store hfc hkC hkind hlay hi (hty v hv) hok.1 hok.2
    exact W.putK hx hb (f := f) ⟨hown, hl, ⟨_, _, _, hi2⟩, hst⟩ (by rw [q2]; exact h6) q1 q3 (by rw [hsl]; exact k2_hasslot (q4 v hv)) rfl rfl hd hfin
  · have hlay := hts _ (u_in_lay hv)
    unfold u_lay at hlay
    rw [if_pos hf] at hlay
    have hcf : m.cls = cf := by
      obtain ⟨_, _, c', _, _, _, -, -, hf', -, -, -, hown2, -⟩ := Cond.laysFinal_spec hlay
      have e1 : c' = cf := by have := hi.symm.trans hf'; simp at this; exact this.1.symm
      rw [hdecl v hv, ← ho] at hown2
      rw [← e1]; exact Option.some.inj (hown.symm.trans hown2)
    have h6 := u_fits hfc hkC hkind (Or.inr hlay) hi (hty v hv) hok.1 hok.2
    exact W.putFinK hx hb hown hl hi2 hst hcf hm (by rw [q2]; exact h6) q1 q3 (by rw [hsl]; exact k2_hasslot (q4 v hv)) rfl rfl hd hfin
  · have hlay := hts _ (u_in_lay hv)
    unfold u_lay at hlay
    rw [if_neg (by rw [hf]; decide)] at hlay
    have h6 := u_store hfc hkC hkind hlay hi (hty v hv) hok.1 hok.2
    exact va_WputK hx hb (f := f) hown hl hi2 hst (by rw [q2]; exact h6) q1 q3 (by rw [hsl]; exact k2_hasslot (q4 v hv)) rfl rfl hd hfin
end AMS
end
section
theorem am_set_i (cA : ClassId) (n : Nat) (f : Nat → Int32) (k : Nat) (x : Int32) : (vp_cell cA (n, .inl f)).setSlot k (.int x) = vp_cell cA (n, .inl (upd f k x)) := by
  rw [vp_cell_i, vp_cell_i, arrV_store]
  congr 1
  funext q
  by_cases hq : q = k
  · subst hq
    simp [updV, upd]
  · simp [updV, upd, hq]
theorem am_set_l (cA : ClassId) (n : Nat) (f : Nat → Int64) (k : Nat) (x : Int64) : (vp_cell cA (n, .inr (.inl f))).setSlot k (.long x) = vp_cell cA (n, .inr (.inl (vp_updL f k x))) := by
  rw [vp_cell_l, vp_cell_l, arrV_store]
  congr 1
  funext q
  by_cases hq : q = k
  · subst hq
    simp [updV, vp_updL]
  · simp [updV, vp_updL, hq]
theorem am_set_q (cA : ClassId) (n : Nat) (f : Nat → Option Nat) (k : Nat) (x : Option Nat) : (vp_cell cA (n, .inr (.inr (.inr (.inr f))))).setSlot k (va_rf x) = vp_cell cA (n, .inr (.inr (.inr (.inr (va_up f k x))))) := by
  rw [vp_cell_q, vp_cell_q, arrV_store]
  congr 1
  funext q
  by_cases hq : q = k
  · subst hq
    simp [updV, va_up]
  · simp [updV, va_up, hq]
theorem am_fitU {ty : FieldType} {n : Nat} {f : Nat → Int32} {k : Nat} {x : Int32} (h : am_fitA ty (n, .inl f)) (hx : fits ty (.int x) = true) : am_fitA ty (n, .inl (upd f k x)) := by
  intro j
  show fits ty (.int (if j = k then x else f j)) = true
  by_cases hj : j = k
  · rw [if_pos hj]; exact hx
  · rw [if_neg hj]; exact h j
theorem am_narC (x : Int32) : fits .char (.int (vp_nar .char x)) = true := by
  have e : vp_nar .char x = nI (x.toBitVec.toNat % 65536) := by
    rw [vp_nar_char]
    apply Int32.toBitVec_inj.mp
    apply BitVec.eq_of_toNat_eq
    rw [pk_tn (by omega)]
    show x.toUInt32.toUInt16.toUInt32.toNat = _
    rw [UInt16.toNat_toUInt32, UInt32.toNat_toUInt16]
    rfl
  rw [e]
  exact (pk_charN (Nat.mod_lt _ (by decide))).2
theorem am_narZ (x : Int32) : fits .boolean (.int (vp_nar .boolean x)) = true := by
  have e : vp_nar .boolean x = x &&& 1 := rfl
  have h : x &&& 1 = nI (x.toBitVec.toNat % 2 ^ 1) := pk_and x 1 (by decide)
  have h2 : x.toBitVec.toNat % 2 ^ 1 < 2 := Nat.mod_lt _ (by decide)
  rw [e, h]
  generalize x.toBitVec.toNat % 2 ^ 1 = j at h2
  rcases (show j = 0 ∨ j = 1 by omega) with rfl | rfl <;> decide
theorem am_kapp {D : va_G} {cl : List vw_C} {tys : List (ClassId × FieldType)} {U : State} {cA : ClassId} {ty : FieldType} (hK : va_K D cl tys U) (h1 : ArrOfT U cA ty) (h2 : va_RA U cA ty) : va_K D cl (tys ++ [(cA, ty)]) U := by
  refine ⟨hK.1, fun k x hx => ?_⟩
  by_cases hl : k < tys.length
  · rw [List.getElem?_append_left hl] at hx
    exact hK.2 k x hx
  · rw [List.getElem?_append_right (by omega)] at hx
    have hz : k - tys.length < 1 := (List.getElem?_eq_some_iff.mp hx).1
    rw [show k - tys.length = 0 by omega] at hx
    cases hx
    exact ⟨h1, h2⟩
section AMA
variable {p : Program} {l : Launch} {e : Env} {R : Room} {s : State} {m : MethodId} {args : Array Value} {below : List Frame} {meth : Method} {c : Code} {Q : State → Prop}
variable {cc : ByteArray} {D : va_G} {cl : List vw_C} {b0 nL c0 s0 : Nat} {pc top sl : Nat} {lv : am_V} {st rest : List Value} {σ : am_H}
theorem am_w_alen (hx : p.tables.exec = Jvm.exec) (hb : c.code = cc) (hd : decode cc pc = .ok (.arraylength, 1)) {a : Nat} {ty : FieldType} {ar : vp_A} (ha : σ a = some (.inl (ty, ar))) (k : am_W p l e R s m args below meth c Q D cl b0 nL c0 s0 (pc + 1) lv (.int (Int32.ofNat ar.1) :: rest) σ top sl) : am_W p l e R s m args below meth c Q D cl b0 nL c0 s0 pc lv (.ref a :: rest) σ top sl := by
  intro ls H locs cells slots h
  obtain ⟨hsz, hbt, tys, hK, hcl⟩ := h.2.1
  obtain ⟨hlt, hb0, hft, cA, hin, hH⟩ := hcl a _ ha
  obtain ⟨t0, ht0⟩ := List.getElem?_of_mem hin
  have hP : va_P D cl [(a, .inl (cA, ar))] H := am_P1 hH
  exact va_alen hx hb hK hP 0 t0 rfl ht0 rfl hd (k ls H locs cells slots h)
theorem am_w_slen (hx : p.tables.exec = Jvm.exec) (hb : c.code = cc) (hd : decode cc pc = .ok (.arraylength, 1)) {a n : Nat} {f : Nat → Int32} (ha : σ a = some (.inr (.inr (0, n, f)))) (k : am_W p l e R s m args below meth c Q D cl b0 nL c0 s0 (pc + 1) lv (.int (Int32.ofNat n) :: rest) σ top sl) : am_W p l e R s m args below meth c Q D cl b0 nL c0 s0 pc lv (.ref a :: rest) σ top sl := by
  intro ls H locs cells slots h
  obtain ⟨hsz, hbt, tys, hK, hcl⟩ := h.2.1
  obtain ⟨hlt, hb0, hX⟩ := hcl a _ ha
  exact va_slen (A := fun q => b0 ≤ q) (H0 := H) hx hb hX (by rw [hsz]; exact hlt) (Nat.not_le.mpr hb0) ⟨Nat.le_refl _, fun _ _ _ => rfl, h.2.2.1.2.2⟩ hd (k ls H locs cells slots h)
theorem am_w_sald (hx : p.tables.exec = Jvm.exec) (hb : c.code = cc) (hd : decode cc pc = .ok (.iaload, 1)) {a n : Nat} {f : Nat → Int32} {i : Int32} (ha : σ a = some (.inr (.inr (0, n, f)))) (hi : ¬ (i < 0 ∨ n ≤ i.toNatClampNeg)) (k : am_W p l e R s m args below meth c Q D cl b0 nL c0 s0 (pc + 1) lv (.int (f i.toNatClampNeg) :: rest) σ top sl) : am_W p l e R s m args below meth c Q D cl b0 nL c0 s0 pc lv (.int i :: .ref a :: rest) σ top sl := by
  intro ls H locs cells slots h
  obtain ⟨hsz, hbt, tys, hK, hcl⟩ := h.2.1
  obtain ⟨hlt, hb0, hX⟩ := hcl a _ ha
  exact va_sld (A := fun q => b0 ≤ q) (H0 := H) hx hb hX (by rw [hsz]; exact hlt) (Nat.not_le.mpr hb0) ⟨Nat.le_refl _, fun _ _ _ => rfl, h.2.2.1.2.2⟩ hi hd (k ls H locs cells slots h)
theorem am_w_iald (hx : p.tables.exec = Jvm.exec) (hb : c.code = cc) (hd : decode cc pc = .ok (.iaload, 1)) {a n : Nat} {f : Nat → Int32} {i : Int32} (ha : σ a = some (.inl (.int, n, .inl f))) (hi : ¬ (i < 0 ∨ n ≤ i.toNatClampNeg)) (k : am_W p l e R s m args below meth c Q D cl b0 nL c0 s0 (pc + 1) lv (.int (f i.toNatClampNeg) :: rest) σ top sl) : am_W p l e R s m args below meth c Q D cl b0 nL c0 s0 pc lv (.int i :: .ref a :: rest) σ top sl := by
  intro ls H locs cells slots h
  obtain ⟨hsz, hbt, tys, hK, hcl⟩ := h.2.1
  obtain ⟨hlt, hb0, hft, cA, hin, hH⟩ := hcl a _ ha
  obtain ⟨t0, ht0⟩ := List.getElem?_of_mem hin
  have hP : va_P D cl [(a, .inl (cA, n, .inl f))] H := am_P1 hH
  exact va_iald hx hb hK hP 0 t0 rfl ht0 hi hd (k ls H locs cells slots h)
theorem am_w_cald (hx : p.tables.exec = Jvm.exec) (hb : c.code = cc) (hd : decode cc pc = .ok (.caload, 1)) {a n : Nat} {f : Nat → Int32} {i : Int32} (ha : σ a = some (.inl (.char, n, .inl f))) (hi : ¬ (i < 0 ∨ n ≤ i.toNatClampNeg)) (k : am_W p l e R s m args below meth c Q D cl b0 nL c0 s0 (pc + 1) lv (.int (f i.toNatClampNeg) :: rest) σ top sl) : am_W p l e R s m args below meth c Q D cl b0 nL c0 s0 pc lv (.int i :: .ref a :: rest) σ top sl := by
  intro ls H locs cells slots h
  obtain ⟨hsz, hbt, tys, hK, hcl⟩ := h.2.1
  obtain ⟨hlt, hb0, hft, cA, hin, hH⟩ := hcl a _ ha
  obtain ⟨t0, ht0⟩ := List.getElem?_of_mem hin
  have hP : va_P D cl [(a, .inl (cA, n, .inl f))] H := am_P1 hH
  exact va_cald hx hb hK hP 0 t0 rfl ht0 hi hd (k ls H locs cells slots h)
theorem am_w_zald (hx : p.tables.exec = Jvm.exec) (hb : c.code = cc) (hd : decode cc pc = .ok (.baload, 1)) {a n : Nat} {f : Nat → Int32} {i : Int32} (ha : σ a = some (.inl (.boolean, n, .inl f))) (hi : ¬ (i < 0 ∨ n ≤ i.toNatClampNeg)) (k : am_W p l e R s m args below meth c Q D cl b0 nL c0 s0 (pc + 1) lv (.int (f i.toNatClampNeg) :: rest) σ top sl) : am_W p l e R s m args below meth c Q D cl b0 nL c0 s0 pc lv (.int i :: .ref a :: rest) σ top sl := by
  intro ls H locs cells slots h
  obtain ⟨hsz, hbt, tys, hK, hcl⟩ := h.2.1
  obtain ⟨hlt, hb0, hft, cA, hin, hH⟩ := hcl a _ ha
  obtain ⟨t0, ht0⟩ := List.getElem?_of_mem hin
  have hP : va_P D cl [(a, .inl (cA, n, .inl f))] H := am_P1 hH
  exact va_zald hx hb hK hP 0 t0 rfl ht0 hi hd (k ls H locs cells slots h)
theorem am_w_getS (hx : p.tables.exec = Jvm.exec) (hb : c.code = cc) {own : String} {index : Nat} (hd : decode cc pc = .ok (.getfield index, 3)) (hown : s.vm.findClass own = some m.cls) {n d : String} {w : Value} {a av : Nat} {f : Nat → Int32} (hl : (Cond.fieldLink own index "java/lang/String" n d).before args s = true) (ha : σ a = some (.inr (.inr (1, av, f))))
    (hw : (n = "value" ∧ d = "[B" ∧ w = .ref av) ∨ (n = "coder" ∧ d = "B" ∧ w = .int 0)) (k : am_W p l e R s m args below meth c Q D cl b0 nL c0 s0 (pc + 3) lv (w :: rest) σ top sl) : am_W p l e R s m args below meth c Q D cl b0 nL c0 s0 pc lv (.ref a :: rest) σ top sl := by
  intro ls H locs cells slots h
  obtain ⟨hsz, hbt, tys, hK, hcl⟩ := h.2.1
  obtain ⟨hlt, hb0, h1, h2, h3⟩ := hcl a _ ha
  rcases hw with ⟨rfl, rfl, rfl⟩ | ⟨rfl, rfl, rfl⟩
  · obtain ⟨cf, kk, i, f1, cell, g1, g2, g3, g4, g5, -⟩ := h3
    exact W.getf hx hb hown hl g1 g2 g3 g4 g5 rfl rfl hd (k ls H locs cells slots h)
  · obtain ⟨cf, kk, i, f1, cell, g1, g2, g3, g4, g5, -⟩ := h2
    exact W.getf hx hb hown hl g1 g2 g3 g4 g5 rfl rfl hd (k ls H locs cells slots h)
theorem am_w_tlen (hx : p.tables.exec = Jvm.exec) (hb : c.code = cc) (hd : decode cc pc = .ok (.arraylength, 1)) {a n : Nat} {f : Nat → Int32} (ha : σ a = some (.inr (.inr (2, n, f)))) (k : am_W p l e R s m args below meth c Q D cl b0 nL c0 s0 (pc + 1) lv (.int (Int32.ofNat n) :: rest) σ top sl) : am_W p l e R s m args below meth c Q D cl b0 nL c0 s0 pc lv (.ref a :: rest) σ top sl := by
  intro ls H locs cells slots h
  obtain ⟨hsz, hbt, tys, hK, hcl⟩ := h.2.1
  obtain ⟨hlt, hb0, cell, g1, g2, g3, g4, g5, g6, -⟩ := hcl a _ ha
  exact W.alen hx hb g1 g2 g5 rfl rfl hd (k ls H locs cells slots h)
theorem am_w_tb (hx : p.tables.exec = Jvm.exec) (hb : c.code = cc) (hd : decode cc pc = .ok (.baload, 1)) {a n : Nat} {f : Nat → Int32} {i : Int32} (ha : σ a = some (.inr (.inr (2, n, f)))) (hi : ¬ (i < 0 ∨ n ≤ i.toNatClampNeg)) (k : am_W p l e R s m args below meth c Q D cl b0 nL c0 s0 (pc + 1) lv (.int (f i.toNatClampNeg) :: rest) σ top sl) : am_W p l e R s m args below meth c Q D cl b0 nL c0 s0 pc lv (.int i :: .ref a :: rest) σ top sl := by
  intro ls H locs cells slots h
  obtain ⟨hsz, hbt, tys, hK, hcl⟩ := h.2.1
  obtain ⟨hlt, hb0, cell, g1, g2, g3, g4, g5, g6, -⟩ := hcl a _ ha
  exact W.bald hx hb g1 g2 g3 (fun z => hi (z.imp id (fun y => Nat.le_trans g4 y))) (g6 _ (Nat.not_le.mp fun z => hi (Or.inr z))) rfl rfl hd (k ls H locs cells slots h)
theorem am_w_lald (hx : p.tables.exec = Jvm.exec) (hb : c.code = cc) (hd : decode cc pc = .ok (.laload, 1)) {a n : Nat} {f : Nat → Int64} {i : Int32} (ha : σ a = some (.inl (.long, n, .inr (.inl f)))) (hi : ¬ (i < 0 ∨ n ≤ i.toNatClampNeg)) (k : am_W p l e R s m args below meth c Q D cl b0 nL c0 s0 (pc + 1) lv (.long (f i.toNatClampNeg) :: rest) σ top sl) : am_W p l e R s m args below meth c Q D cl b0 nL c0 s0 pc lv (.int i :: .ref a :: rest) σ top sl := by
  intro ls H locs cells slots h
  obtain ⟨hsz, hbt, tys, hK, hcl⟩ := h.2.1
  obtain ⟨hlt, hb0, hft, cA, hin, hH⟩ := hcl a _ ha
  obtain ⟨t0, ht0⟩ := List.getElem?_of_mem hin
  have hP : va_P D cl [(a, .inl (cA, n, .inr (.inl f)))] H := am_P1 hH
  exact va_lald hx hb hK hP 0 t0 rfl ht0 hi hd (k ls H locs cells slots h)
theorem am_w_aald (hx : p.tables.exec = Jvm.exec) (hb : c.code = cc) (hd : decode cc pc = .ok (.aaload, 1)) {a n : Nat} {C : String} {f : Nat → Option Nat} {i : Int32} (ha : σ a = some (.inl (.object C, n, .inr (.inr (.inr (.inr f)))))) (hi : ¬ (i < 0 ∨ n ≤ i.toNatClampNeg)) (k : am_W p l e R s m args below meth c Q D cl b0 nL c0 s0 (pc + 1) lv (va_rf (f i.toNatClampNeg) :: rest) σ top sl) : am_W p l e R s m args below meth c Q D cl b0 nL c0 s0 pc lv (.int i :: .ref a :: rest) σ top sl := by
  intro ls H locs cells slots h
  obtain ⟨hsz, hbt, tys, hK, hcl⟩ := h.2.1
  obtain ⟨hlt, hb0, hft, cA, hin, hH⟩ := hcl a _ ha
  obtain ⟨t0, ht0⟩ := List.getElem?_of_mem hin
  have hP : va_P D cl [(a, .inl (cA, n, .inr (.inr (.inr (.inr f)))))] H := am_P1 hH
  exact va_aldq hx hb hK hP 0 t0 rfl ht0 hi hd (k ls H locs cells slots h)
theorem am_w_iast (hx : p.tables.exec = Jvm.exec) (hb : c.code = cc) (hd : decode cc pc = .ok (.iastore, 1)) {a n : Nat} {f : Nat → Int32} {i x : Int32} (ha : σ a = some (.inl (.int, n, .inl f))) (hi : ¬ (i < 0 ∨ n ≤ i.toNatClampNeg)) (k : am_W p l e R s m args below meth c Q D cl b0 nL c0 s0 (pc + 1) lv rest (am_up σ a (.inl (.int, n, .inl (upd f i.toNatClampNeg x)))) top sl) : am_W p l e R s m args below meth c Q D cl b0 nL c0 s0 pc lv (.int x :: .int i :: .ref a :: rest) σ top sl := by
  intro ls H locs cells slots h
  obtain ⟨hsz, hbt, tys, hK, hcl⟩ := h.2.1
  obtain ⟨hlt, hb0, hft, cA, hin, hH⟩ := hcl a _ ha
  obtain ⟨t0, ht0⟩ := List.getElem?_of_mem hin
  refine W.iast hx hb hH ((hK.2 t0 _ ht0).1 n (fun j => .int (f j))) (fun q => by cases q) (by show ¬ (i < 0 ∨ (arrV _ _ _).slots.size ≤ _); rw [arrV_size]; exact hi) rfl rfl hd fun H1 e1 z oq => ?_
  exact k ls H1 _ cells slots ⟨h.1, am_dy_upd hsz hbt hK hcl z oq hlt hb0 ⟨hb0, am_fitU hft rfl, cA, hin, e1.trans (congrArg some (am_set_i cA n f i.toNatClampNeg x))⟩, am_S_put h.2.2.1 z oq hb0, h.2.2.2⟩
theorem am_w_cast (hx : p.tables.exec = Jvm.exec) (hb : c.code = cc) (hd : decode cc pc = .ok (.castore, 1)) {a n : Nat} {f : Nat → Int32} {i x : Int32} (ha : σ a = some (.inl (.char, n, .inl f))) (hi : ¬ (i < 0 ∨ n ≤ i.toNatClampNeg)) (k : am_W p l e R s m args below meth c Q D cl b0 nL c0 s0 (pc + 1) lv rest (am_up σ a (.inl (.char, n, .inl (upd f i.toNatClampNeg (vp_nar .char x))))) top sl) : am_W p l e R s m args below meth c Q D cl b0 nL c0 s0 pc lv (.int x :: .int i :: .ref a :: rest) σ top sl := by
  intro ls H locs cells slots h
  obtain ⟨hsz, hbt, tys, hK, hcl⟩ := h.2.1
  obtain ⟨hlt, hb0, hft, cA, hin, hH⟩ := hcl a _ ha
  obtain ⟨t0, ht0⟩ := List.getElem?_of_mem hin
  refine W.cast hx hb hH ((hK.2 t0 _ ht0).1 n (fun j => .int (f j))) (fun q => by cases q) (by show ¬ (i < 0 ∨ (arrV _ _ _).slots.size ≤ _); rw [arrV_size]; exact hi) rfl rfl hd fun H1 e1 z oq => ?_
  exact k ls H1 _ cells slots ⟨h.1, am_dy_upd hsz hbt hK hcl z oq hlt hb0 ⟨hb0, am_fitU hft (am_narC x), cA, hin, e1.trans (congrArg some (am_set_i cA n f i.toNatClampNeg (vp_nar .char x)))⟩, am_S_put h.2.2.1 z oq hb0, h.2.2.2⟩
theorem am_w_zast (hx : p.tables.exec = Jvm.exec) (hb : c.code = cc) (hd : decode cc pc = .ok (.bastore, 1)) {a n : Nat} {f : Nat → Int32} {i x : Int32} (ha : σ a = some (.inl (.boolean, n, .inl f))) (hi : ¬ (i < 0 ∨ n ≤ i.toNatClampNeg)) (k : am_W p l e R s m args below meth c Q D cl b0 nL c0 s0 (pc + 1) lv rest (am_up σ a (.inl (.boolean, n, .inl (upd f i.toNatClampNeg (vp_nar .boolean x))))) top sl) : am_W p l e R s m args below meth c Q D cl b0 nL c0 s0 pc lv (.int x :: .int i :: .ref a :: rest) σ top sl := by
  intro ls H locs cells slots h
  obtain ⟨hsz, hbt, tys, hK, hcl⟩ := h.2.1
  obtain ⟨hlt, hb0, hft, cA, hin, hH⟩ := hcl a _ ha
  obtain ⟨t0, ht0⟩ := List.getElem?_of_mem hin
  refine W.zast hx hb hH ((hK.2 t0 _ ht0).1 n (fun j => .int (f j))) (fun q => by cases q) (by show ¬ (i < 0 ∨ (arrV _ _ _).slots.size ≤ _); rw [arrV_size]; exact hi) rfl rfl hd fun H1 e1 z oq => ?_
  exact k ls H1 _ cells slots ⟨h.1, am_dy_upd hsz hbt hK hcl z oq hlt hb0 ⟨hb0, am_fitU hft (am_narZ x), cA, hin, e1.trans (congrArg some (am_set_i cA n f i.toNatClampNeg (vp_nar .boolean x)))⟩, am_S_put h.2.2.1 z oq hb0, h.2.2.2⟩
theorem am_w_last (hx : p.tables.exec = Jvm.exec) (hb : c.code = cc) (hd : decode cc pc = .ok (.lastore, 1)) {a n : Nat} {f : Nat → Int64} {i : Int32} {x : Int64} (ha : σ a = some (.inl (.long, n, .inr (.inl f)))) (hi : ¬ (i < 0 ∨ n ≤ i.toNatClampNeg)) (k : am_W p l e R s m args below meth c Q D cl b0 nL c0 s0 (pc + 1) lv rest (am_up σ a (.inl (.long, n, .inr (.inl (vp_updL f i.toNatClampNeg x))))) top sl) : am_W p l e R s m args below meth c Q D cl b0 nL c0 s0 pc lv (.long x :: .int i :: .ref a :: rest) σ top sl := by
  intro ls H locs cells slots h
  obtain ⟨hsz, hbt, tys, hK, hcl⟩ := h.2.1
  obtain ⟨hlt, hb0, hft, cA, hin, hH⟩ := hcl a _ ha
  obtain ⟨t0, ht0⟩ := List.getElem?_of_mem hin
  refine W.last hx hb hH ((hK.2 t0 _ ht0).1 n (fun j => .long (f j))) (fun q => by cases q) (by show ¬ (i < 0 ∨ (arrV _ _ _).slots.size ≤ _); rw [arrV_size]; exact hi) rfl rfl hd fun H1 e1 z oq => ?_
  exact k ls H1 _ cells slots ⟨h.1, am_dy_upd hsz hbt hK hcl z oq hlt hb0 ⟨hb0, trivial, cA, hin, e1.trans (congrArg some (am_set_l cA n f i.toNatClampNeg x))⟩, am_S_put h.2.2.1 z oq hb0, h.2.2.2⟩
theorem am_w_aastN (hx : p.tables.exec = Jvm.exec) (hb : c.code = cc) (hd : decode cc pc = .ok (.aastore, 1)) {a n : Nat} {C : String} {f : Nat → Option Nat} {i : Int32} (ha : σ a = some (.inl (.object C, n, .inr (.inr (.inr (.inr f)))))) (hi : ¬ (i < 0 ∨ n ≤ i.toNatClampNeg)) (k : am_W p l e R s m args below meth c Q D cl b0 nL c0 s0 (pc + 1) lv rest (am_up σ a (.inl (.object C, n, .inr (.inr (.inr (.inr (va_up f i.toNatClampNeg none))))))) top sl) : am_W p l e R s m args below meth c Q D cl b0 nL c0 s0 pc lv (.null :: .int i :: .ref a :: rest) σ top sl := by
  intro ls H locs cells slots h
  obtain ⟨hsz, hbt, tys, hK, hcl⟩ := h.2.1
  obtain ⟨hlt, hb0, hft, cA, hin, hH⟩ := hcl a _ ha
  obtain ⟨t0, ht0⟩ := List.getElem?_of_mem hin
  refine va_WaastN hx hb hH ((hK.2 t0 _ ht0).1 n (fun j => va_rf (f j))) (fun q => by cases q) (by show ¬ (i < 0 ∨ (arrV _ _ _).slots.size ≤ _); rw [arrV_size]; exact hi) rfl rfl hd fun H1 e1 z oq => ?_
  exact k ls H1 _ cells slots ⟨h.1, am_dy_upd hsz hbt hK hcl z oq hlt hb0 ⟨hb0, trivial, cA, hin, e1.trans (congrArg some (am_set_q cA n f i.toNatClampNeg none))⟩, am_S_put h.2.2.1 z oq hb0, h.2.2.2⟩
theorem am_w_aast (hx : p.tables.exec = Jvm.exec) (hb : c.code = cc) (hd : decode cc pc = .ok (.aastore, 1)) {a b n u : Nat} {C : String} {f : Nat → Option Nat} {fs : List Value} {i : Int32} (hnm : ∀ r, cl[u]? = some r → r.1 = C) (ha : σ a = some (.inl (.object C, n, .inr (.inr (.inr (.inr f)))))) (hbv : σ b = some (.inr (.inl (u, fs)))) (hi : ¬ (i < 0 ∨ n ≤ i.toNatClampNeg)) (k : am_W p l e R s m args below meth c Q D cl b0 nL c0 s0 (pc + 1) lv rest (am_up σ a (.inl (.object C, n, .inr (.inr (.inr (.inr (va_up f i.toNatClampNeg (some b)))))))) top sl) : am_W p l e R s m args below meth c Q D cl b0 nL c0 s0 pc lv (.ref b :: .int i :: .ref a :: rest) σ top sl := by
  intro ls H locs cells slots h
  obtain ⟨hsz, hbt, tys, hK, hcl⟩ := h.2.1
  obtain ⟨hlt, hb0, hft, cA, hin, hH⟩ := hcl a _ ha
  obtain ⟨-, -, r, hr, -, cellV, g1, g2, g3, -⟩ := hcl b _ hbv
  obtain ⟨t0, ht0⟩ := List.getElem?_of_mem hin
  have hcls := (hK.1 u r hr).2
  rw [hnm r hr] at hcls
  obtain ⟨kA, comp, k1, k2, k3, -⟩ := (hK.2 t0 _ ht0).2
  have hcomp : comp = D.1 u := Option.some.inj (k3.symm.trans hcls.1)
  subst hcomp
  obtain ⟨kC, hkC, -⟩ := hcls.2
  have hlt2 : i.toNatClampNeg < n := Nat.not_le.mp fun q => hi (Or.inr q)
  refine W.aast hx hb hH (fun q h => by cases h) (fun h => by cases h) k1 k2 rfl hkC ⟨fun q => hi (Or.inl q), by show _ < (arrV _ _ _).slots.size; rw [arrV_size]; exact hlt2⟩ g1 (fun q h => by rw [g3] at h; cases h) (by rw [g2]; exact hkC) (by rw [g2]; exact va_assign hcls) rfl rfl hd fun H1 e1 z oq => ?_
  exact k ls H1 _ cells slots ⟨h.1, am_dy_upd hsz hbt hK hcl z oq hlt hb0 ⟨hb0, trivial, cA, hin, e1.trans (congrArg some (am_set_q cA n f i.toNatClampNeg (some b)))⟩, am_S_put h.2.2.1 z oq hb0, h.2.2.2⟩
theorem am_w_newarr (hx : p.tables.exec = Jvm.exec) (hb : c.code = cc) {at_ : ArrayType} (hd : decode cc pc = .ok (.newarray at_, 2)) (harr : (Cond.arrayClass (newarray.typeOf at_)).before args s = true) {n : Int32} {ar : vp_A} (ha : ∀ cA : ClassId, vp_cell cA ar = arrV cA n.toNatClampNeg (fun _ => defaultValue (newarray.typeOf at_))) (hft : am_fitA (newarray.typeOf at_) ar)
    (hn : ¬ n < 0) (hby : n.toNatClampNeg * componentBytes (newarray.typeOf at_) ≤ 536870912) (hr1 : top + 1 ≤ R.cells + c0) (hr2 : sl + n.toNatClampNeg ≤ R.slots + s0) (k : am_W p l e R s m args below meth c Q D cl b0 nL c0 s0 (pc + 2) lv (.ref top :: rest) (am_up σ top (.inl (newarray.typeOf at_, ar))) (top + 1) (sl + n.toNatClampNeg)) : am_W p l e R s m args below meth c Q D cl b0 nL c0 s0 pc lv (.int n :: rest) σ top sl := by
  intro ls H locs cells slots h
  obtain ⟨hsz, hbt, tys, hK, hcl⟩ := h.2.1
  obtain ⟨hc, hs⟩ := h.2.2.2
  refine va_newaK hx hb harr rfl hd rfl hn rfl hby (by omega) (by omega) hsz fun H1 cA e1 z1 o1 hAr hNm => ?_
  refine k ls H1 locs (cells + 1) (slots + n.toNatClampNeg) ⟨h.1, am_dy_push hsz hbt (am_kapp hK hAr (by cases at_ <;> exact hNm)) (fun x hx => List.mem_append_left _ hx) hcl z1 o1 ⟨hbt, hft, cA, List.mem_append_right _ List.mem_cons_self, by rw [ha]; exact e1⟩, am_S_push h.2.2.1 (by rw [hsz]; exact z1) (fun q hq => o1 q (by rw [← hsz]; exact hq)), by omega, by omega⟩
theorem am_w_anew (hx : p.tables.exec = Jvm.exec) (hb : c.code = cc) {own C : String} {index : Nat} (hd : decode cc pc = .ok (.anewarray index, 3)) (hown : s.vm.findClass own = some m.cls) (hl : (Cond.classLink own index C).before args s = true) (hover : va_AO C s) {n : Int32}
    (hn : ¬ n < 0) (hby : n.toNatClampNeg * 4 ≤ 536870912) (hr1 : top + 1 ≤ R.cells + c0) (hr2 : sl + n.toNatClampNeg ≤ R.slots + s0) (k : am_W p l e R s m args below meth c Q D cl b0 nL c0 s0 (pc + 3) lv (.ref top :: rest) (am_up σ top (.inl (.object C, n.toNatClampNeg, .inr (.inr (.inr (.inr fun _ => none)))))) (top + 1) (sl + n.toNatClampNeg)) : am_W p l e R s m args below meth c Q D cl b0 nL c0 s0 pc lv (.int n :: rest) σ top sl := by
  intro ls H locs cells slots h
  obtain ⟨hsz, hbt, tys, hK, hcl⟩ := h.2.1
  obtain ⟨hc, hs⟩ := h.2.2.2
  refine W.anew hx hb hown hl (va_AO.use hover) rfl hd rfl hn hby (by omega) (by omega) fun cA kA comp f1 f2 f3 f4 => ?_
  rw [hsz]
  generalize hH1 : H.push ({ cls := cA, slots := Array.replicate n.toNatClampNeg .null, vm := .none } : Cell) = H1
  have z1 : H1.size = top + 1 := by rw [← hH1, Array.size_push, hsz]
  have e1 : H1[top]? = some (arrV cA n.toNatClampNeg (fun _ => .null)) := by rw [← hH1, ← hsz, Array.getElem?_push_size, ← arrV_new]
  have o1 : ∀ q : Nat, q < top → H1[q]? = H[q]? := fun q hq => by rw [← hH1, Array.getElem?_push, if_neg (by rw [hsz]; exact Nat.ne_of_lt hq)]
  have hAr : ArrOfT s cA (.object C) := fun N z => ⟨(fun k h => by cases h), kA, f2, comp, f3⟩
  refine k ls H1 locs (cells + 1) (slots + n.toNatClampNeg) ⟨h.1, am_dy_push hsz hbt (am_kapp hK hAr ⟨kA, comp, f2, f3, f4, f1⟩) (fun x hx => List.mem_append_left _ hx) hcl z1 o1 ⟨hbt, trivial, cA, List.mem_append_right _ List.mem_cons_self, ?_⟩, am_S_push h.2.2.1 (by rw [hsz]; exact z1) (fun q hq => o1 q (by rw [← hsz]; exact hq)), by omega, by omega⟩
  rw [vp_cell_q]
  exact e1
theorem am_w_new (hx : p.tables.exec = Jvm.exec) (hb : c.code = cc) {own C : String} {T : u_T} {N u index n : Nat} (hd : decode cc pc = .ok (.new index, 3)) (hown : s.vm.findClass own = some m.cls) (hts : ∀ w ∈ u_ws C T N, w.before args s = true) (hc : cl[u]? = some (C, T, N)) (ty : Nat → FieldType) (hty : ∀ k, k < N → parseFieldDescriptor (T k).2.2.1 = some (ty k))
    (hl : (Cond.classLink own index C).before args s = true) (hins : (Cond.instantiable C n).before args s = true) (hini : (Cond.initialized C).before args s = true) {fs : List Value} (hfs : ∀ j, j < N → defaultValue (ty j) = vp_V fs j) (hfl : fs.length = N) (hr1 : top + 1 ≤ R.cells + c0) (hr2 : sl + n ≤ R.slots + s0)
    (k : am_W p l e R s m args below meth c Q D cl b0 nL c0 s0 (pc + 3) lv (.ref top :: st) (am_up σ top (.inr (.inl (u, fs)))) (top + 1) (sl + n)) : am_W p l e R s m args below meth c Q D cl b0 nL c0 s0 pc lv st σ top sl := by
  intro ls H locs cells slots h
  obtain ⟨hsz, hbt, tys, hK, hcl⟩ := h.2.1
  obtain ⟨hcc, hs⟩ := h.2.2.2
  have hKn := hK.1 u _ hc
  refine W.newcK hx hb hown hl hins hini rfl hd (by omega) (by omega) hKn.2.1 hsz fun H1 kC hkC e1 z1 o1 => ?_
  exact k ls H1 locs (cells + 1) (slots + n) ⟨h.1, am_dy_push hsz hbt hK (fun x hx => hx) hcl z1 o1 ⟨hbt, (C, T, N), hc, hfl, (u_born ty hts (fun _ z => z) hKn hkC e1 hty).to hfs⟩, am_S_push h.2.2.1 (by rw [hsz]; exact z1) (fun q hq => o1 q (by rw [← hsz]; exact hq)), by omega, by omega⟩
theorem am_w_objinit (hx : p.tables.exec = Jvm.exec) (hb : c.code = cc) (hml : c.maxLocals = nL) {own : String} {index : Nat} (hd : decode cc pc = .ok (.invokespecial index, 3)) (hown : s.vm.findClass own = some m.cls) (hl : (Cond.methodLink own index objectInit).before args s = true) (hin : (Cond.instanceMethod objectInit).before args s = true) (hco : (Cond.code objectInit ⟨#[0xb1]⟩ 1 none).before args s = true)
    {a : Nat} (hfr : 1 ≤ R.frames) (hw : (rest.map fun v => v.category).sum ≤ 8) (hlo : 20 ≤ R.locals) (k : am_W p l e R s m args below meth c Q D cl b0 nL c0 s0 (pc + 3) lv rest σ top sl) : am_W p l e R s m args below meth c Q D cl b0 nL c0 s0 pc lv (.ref a :: rest) σ top sl := by
  intro ls H locs cells slots h
  refine W.objInit hx hb hown hl hin hco rfl (by rw [hml]; exact h.1.1.1) rfl hd hfr ?_ (k ls H locs cells slots h)
  show 2 * 0 + _ + 12 ≤ _
  omega
end AMA
end
section
def am_len (i : Instr) : Nat := match i with
  | .aload _ => 2
  | .iload _ => 2
  | .istore _ => 2
  | .astore _ => 2
  | .bipush _ => 2
  | .ldc _ => 2
  | .newarray _ => 2
  | .sipush _ => 3
  | .iinc _ _ => 3
  | .goto _ => 3
  | .ifCond _ _ => 3
  | .if_icmp _ _ => 3
  | .if_acmp _ _ => 3
  | .ifnull _ => 3
  | .ifnonnull _ => 3
  | .getfield _ => 3
  | .putfield _ => 3
  | .getstatic _ => 3
  | .new _ => 3
  | .anewarray _ => 3
  | .invokespecial _ => 3
  | .invokestatic _ => 3
  | .invokevirtual _ => 3
  | _ => 1
def am_sw (i : Instr) : Bool := match i with
  | .tableswitch _ _ _ _ => true
  | .lookupswitch _ _ => true
  | _ => false
def am_dec (cc : ByteArray) (pc : Nat) (i : Instr) : Prop := (am_sw i = true ∧ ∃ len, decode cc pc = .ok (i, len)) ∨ (am_sw i = false ∧ decode cc pc = .ok (i, am_len i))
theorem am_dec1 {cc : ByteArray} {pc : Nat} {i : Instr} (h : am_dec cc pc i) (hs : am_sw i = false) : decode cc pc = .ok (i, am_len i) := by
  rcases h with ⟨h, -⟩ | ⟨-, h⟩
  · rw [hs] at h
    cases h
  · exact h
theorem am_dec2 {cc : ByteArray} {pc : Nat} {i : Instr} (h : am_dec cc pc i) (hs : am_sw i = true) : ∃ len, decode cc pc = .ok (i, len) := by
  rcases h with ⟨-, h⟩ | ⟨h, -⟩
  · exact h
  · rw [hs] at h
    cases h
theorem am_n_inv {pc : Nat} {lv : am_V} {st : List Value} {σ : am_H} {top sl : Nat} {x : am_X} (h : am_n pc lv st σ top sl = some x) : x = (pc, lv, st, σ, top, sl) := (Option.some.inj h).symm
/-- what the tables say of the instruction at pc, whose pool entry u, v name -/
def am_fact (cs : Nat → Value) (ft : Nat → Nat → FieldType) (df : Nat → List Value) (ns : Nat → Nat) (nm : Nat → String) (cl : List vw_C) (b0 : Nat) (s : State) (args : Array Value) (meth : Method) (own : String) (pc : Nat) (i : Instr) (u v : Nat) : Prop := match i with
  | .ldc idx => ∃ tx a, cs u = .ref a ∧ vk_R own idx tx a s
  | .getstatic idx => ∃ C n d, va_Z C n d (cs u) (fun q => b0 ≤ q) s s.heap ∧ (Cond.fieldLink own idx C n d).before args s = true
  | .goto off => (pc : Int) + off = (u : Int)
  | .ifCond _ off => (pc : Int) + off = (u : Int)
  | .if_icmp _ off => (pc : Int) + off = (u : Int)
  | .if_acmp _ off => (pc : Int) + off = (u : Int)
  | .ifnull off => (pc : Int) + off = (u : Int)
  | .ifnonnull off => (pc : Int) + off = (u : Int)
  | .getfield idx => if u = 50 then (if v = 0 then (Cond.fieldLink own idx "java/lang/String" "value" "[B").before args s = true else (Cond.fieldLink own idx "java/lang/String" "coder" "B").before args s = true) else ∃ C T N, cl[u]? = some (C, T, N) ∧ (∀ w ∈ u_ws C T N, w.before args s = true) ∧ (∀ k, k < N → (T k).1 = C) ∧ v < N ∧ ((Cond.fieldLink own idx C (T v).2.1 (T v).2.2.1).before args s = true ∨ ∃ host, (Cond.fieldLinkNest own idx C (T v).2.1 (T v).2.2.1 host).before args s = true)
  | .putfield idx => ∃ C T N, cl[u]? = some (C, T, N) ∧ (∀ w ∈ u_ws C T N, w.before args s = true) ∧ (∀ k, k < N → (T k).1 = C) ∧ v < N ∧ (∀ k, k < N → parseFieldDescriptor (T k).2.2.1 = some (ft u k)) ∧ (∀ a, a < N → ∀ b, b < N → a ≠ b → (T a).2.1 ≠ (T b).2.1) ∧
      ((Cond.fieldLink own idx C (T v).2.1 (T v).2.2.1).before args s = true ∧ ((T v).2.2.2 = false ∨ ((T v).2.2.2 = true ∧ meth.name = "<init>" ∧ own = C)) ∨ (T v).2.2.2 = false ∧ ∃ host, (Cond.fieldLinkNest own idx C (T v).2.1 (T v).2.2.1 host).before args s = true)
  | .new idx => ∃ C T N, cl[u]? = some (C, T, N) ∧ (∀ w ∈ u_ws C T N, w.before args s = true) ∧ (∀ k, k < N → parseFieldDescriptor (T k).2.2.1 = some (ft u k)) ∧ (Cond.classLink own idx C).before args s = true ∧ (Cond.instantiable C (ns u)).before args s = true ∧ (Cond.initialized C).before args s = true ∧ (∀ j, j < N → defaultValue (ft u j) = vp_V (df u) j) ∧ (df u).length = N
  | .newarray at_ => (Cond.arrayClass (newarray.typeOf at_)).before args s = true
  | .anewarray idx => (Cond.classLink own idx (nm u)).before args s = true ∧ va_AO (nm u) s
  | .invokespecial idx => u = 1000 → (Cond.methodLink own idx objectInit).before args s = true ∧ (Cond.instanceMethod objectInit).before args s = true ∧ (Cond.code objectInit ⟨#[0xb1]⟩ 1 none).before args s = true
  | _ => True
section AMT
variable {p : Program} {l : Launch} {e : Env} {R : Room} {s : State} {m : MethodId} {args : Array Value} {below : List Frame} {meth : Method} {c : Code} {Q : State → Prop}
variable {cc : ByteArray} {D : va_G} {cl : List vw_C} {b0 nL c0 s0 : Nat} {pc top sl : Nat} {lv : am_V} {st rest : List Value} {σ : am_H}
set_option maxHeartbeats 4000000 in
theorem am_step_W {cs : Nat → Value} {ft : Nat → Nat → FieldType} {df : Nat → List Value} {ns : Nat → Nat} {nm : Nat → String} {d : Nat} {own : String} {i : Instr} {u v : Nat} {x : am_X}
    (hx : p.tables.exec = Jvm.exec) (hb : c.code = cc) (hml : c.maxLocals = nL) (hown : s.vm.findClass own = some m.cls) (hnm : ∀ k r, cl[k]? = some r → r.1 = nm k) (hfr : d ≤ R.frames) (hlo : 64 * d ≤ R.locals)
    (hd : am_dec cc pc i) (hf : am_fact cs ft df ns nm cl b0 s args meth own pc i u v) (h : am_step cs ft df ns nm d pc lv st σ top sl i u v = some x) (hr1 : x.2.2.2.2.1 ≤ R.cells + c0) (hr2 : x.2.2.2.2.2 ≤ R.slots + s0)
    (k : am_W p l e R s m args below meth c Q D cl b0 nL c0 s0 (x.1) (x.2.1) (x.2.2.1) (x.2.2.2.1) (x.2.2.2.2.1) (x.2.2.2.2.2)) : am_W p l e R s m args below meth c Q D cl b0 nL c0 s0 pc lv st σ top sl := by
  cases i with
  | aconst_null => obtain rfl := am_n_inv h; exact am_w_null hx hb (am_dec1 hd rfl) k
  | iconst n => obtain rfl := am_n_inv h; exact am_w_iconst hx hb (am_dec1 hd rfl) k
  | bipush n => obtain rfl := am_n_inv h; exact am_w_bipush hx hb (am_dec1 hd rfl) k
  | sipush n => obtain rfl := am_n_inv h; exact am_w_sipush hx hb (am_dec1 hd rfl) k
  | ldc idx =>
    obtain rfl := am_n_inv h
    obtain ⟨tx, a, h1, h2⟩ := hf
    dsimp only at k
    rw [h1] at k
    exact am_w_ldc hx hb hown h2 (am_dec1 hd rfl) k
  | getstatic idx =>
    obtain rfl := am_n_inv h
    obtain ⟨C, n, d, h1, h2⟩ := hf
    exact am_w_gets hx hb hown h1 h2 (am_dec1 hd rfl) k
  | iload j =>
    have h : (match am_get lv j with | some (.int x) => am_n (pc + 2) lv (.int x :: st) σ top sl | _ => none) = some x := h
    split at h
    · next y hg => obtain rfl := am_n_inv h; exact am_w_iload hx hb (am_dec1 hd rfl) hg k
    · cases h
  | iload_n j =>
    have h : (match am_get lv j with | some (.int x) => am_n (pc + 1) lv (.int x :: st) σ top sl | _ => none) = some x := h
    split at h
    · next y hg => obtain rfl := am_n_inv h; exact am_w_iload_n hx hb (am_dec1 hd rfl) hg k
    · cases h
  | aload j =>
    have h : (match am_get lv j with | some (.ref x) => am_n (pc + 2) lv (.ref x :: st) σ top sl | some .null => am_n (pc + 2) lv (.null :: st) σ top sl | _ => none) = some x := h
    split at h
    · next y hg => obtain rfl := am_n_inv h; exact am_w_aload (x := some y) hx hb (am_dec1 hd rfl) hg k
    · next hg => obtain rfl := am_n_inv h; exact am_w_aload (x := none) hx hb (am_dec1 hd rfl) hg k
    · cases h
  | aload_n j =>
    have h : (match am_get lv j with | some (.ref x) => am_n (pc + 1) lv (.ref x :: st) σ top sl | some .null => am_n (pc + 1) lv (.null :: st) σ top sl | _ => none) = some x := h
    split at h
    · next y hg => obtain rfl := am_n_inv h; exact am_w_aload_n (x := some y) hx hb (am_dec1 hd rfl) hg k
    · next hg => obtain rfl := am_n_inv h; exact am_w_aload_n (x := none) hx hb (am_dec1 hd rfl) hg k
    · cases h
  | istore j =>
    (try dsimp only [am_step] at h); have h9 := am_i1_inv h; clear h; obtain ⟨y, r, rfl, h⟩ := h9
    split at h
    · next hj => obtain rfl := am_n_inv h; exact am_w_istore hx hb (am_dec1 hd rfl) hj k
    · cases h
  | istore_n j =>
    (try dsimp only [am_step] at h); have h9 := am_i1_inv h; clear h; obtain ⟨y, r, rfl, h⟩ := h9
    split at h
    · next hj => obtain rfl := am_n_inv h; exact am_w_istore_n hx hb (am_dec1 hd rfl) hj k
    · cases h
  | astore j =>
    (try dsimp only [am_step] at h); have h9 := am_q1_inv h; clear h; obtain ⟨y, r, rfl, h⟩ := h9
    split at h
    · next hj => obtain rfl := am_n_inv h; exact am_w_astore hx hb (am_dec1 hd rfl) hj k
    · cases h
  | astore_n j =>
    (try dsimp only [am_step] at h); have h9 := am_q1_inv h; clear h; obtain ⟨y, r, rfl, h⟩ := h9
    split at h
    · next hj => obtain rfl := am_n_inv h; exact am_w_astore_n hx hb (am_dec1 hd rfl) hj k
    · cases h
  | iinc j n =>
    have h : (match am_get lv j with | some (.int x) => if j < lv.length then am_n (pc + 3) (lv.set j (some (.int (x + Int32.ofInt n)))) st σ top sl else none | _ => none) = some x := h
    split at h
    · next y hg =>
      rw [if_pos (am_get_lt hg)] at h
      obtain rfl := am_n_inv h
      exact am_w_iinc hx hb (am_dec1 hd rfl) hg k
    · cases h
  | iadd => (try dsimp only [am_step] at h); have h9 := am_i2_inv h; clear h; obtain ⟨y, z, r, rfl, h⟩ := h9; obtain rfl := am_n_inv h; exact am_w_iadd hx hb (am_dec1 hd rfl) k
  | isub => (try dsimp only [am_step] at h); have h9 := am_i2_inv h; clear h; obtain ⟨y, z, r, rfl, h⟩ := h9; obtain rfl := am_n_inv h; exact am_w_isub hx hb (am_dec1 hd rfl) k
  | imul => (try dsimp only [am_step] at h); have h9 := am_i2_inv h; clear h; obtain ⟨y, z, r, rfl, h⟩ := h9; obtain rfl := am_n_inv h; exact am_w_imul hx hb (am_dec1 hd rfl) k
  | iand => (try dsimp only [am_step] at h); have h9 := am_i2_inv h; clear h; obtain ⟨y, z, r, rfl, h⟩ := h9; obtain rfl := am_n_inv h; exact am_w_iand hx hb (am_dec1 hd rfl) k
  | ior => (try dsimp only [am_step] at h); have h9 := am_i2_inv h; clear h; obtain ⟨y, z, r, rfl, h⟩ := h9; obtain rfl := am_n_inv h; exact am_w_ior hx hb (am_dec1 hd rfl) k
  | ishl => (try dsimp only [am_step] at h); have h9 := am_i2_inv h; clear h; obtain ⟨y, z, r, rfl, h⟩ := h9; obtain rfl := am_n_inv h; exact am_w_ishl hx hb (am_dec1 hd rfl) k
  | ishr => (try dsimp only [am_step] at h); have h9 := am_i2_inv h; clear h; obtain ⟨y, z, r, rfl, h⟩ := h9; obtain rfl := am_n_inv h; exact am_w_ishr hx hb (am_dec1 hd rfl) k
  | idiv =>
    (try dsimp only [am_step] at h); have h9 := am_i2_inv h; clear h; obtain ⟨y, z, r, rfl, h⟩ := h9
    split at h
    · cases h
    · next hz => obtain rfl := am_n_inv h; exact am_w_idiv hx hb (am_dec1 hd rfl) hz k
  | irem =>
    (try dsimp only [am_step] at h); have h9 := am_i2_inv h; clear h; obtain ⟨y, z, r, rfl, h⟩ := h9
    split at h
    · cases h
    · next hz => obtain rfl := am_n_inv h; exact am_w_irem hx hb (am_dec1 hd rfl) hz k
  | i2c => (try dsimp only [am_step] at h); have h9 := am_i1_inv h; clear h; obtain ⟨y, r, rfl, h⟩ := h9; obtain rfl := am_n_inv h; exact am_w_i2c hx hb (am_dec1 hd rfl) k
  | i2l => (try dsimp only [am_step] at h); have h9 := am_i1_inv h; clear h; obtain ⟨y, r, rfl, h⟩ := h9; obtain rfl := am_n_inv h; exact am_w_i2l hx hb (am_dec1 hd rfl) k
  | lcmp => (try dsimp only [am_step] at h); have h9 := am_l2_inv h; clear h; obtain ⟨y, z, r, rfl, h⟩ := h9; obtain rfl := am_n_inv h; exact am_w_lcmp hx hb (am_dec1 hd rfl) k
  | dup => (try dsimp only [am_step] at h); have h9 := am_v1_inv h; clear h; obtain ⟨y, r, rfl, hc, h⟩ := h9; obtain rfl := am_n_inv h; exact am_w_dup hx hb (am_dec1 hd rfl) hc k
  | pop => (try dsimp only [am_step] at h); have h9 := am_v1_inv h; clear h; obtain ⟨y, r, rfl, hc, h⟩ := h9; obtain rfl := am_n_inv h; exact am_w_pop hx hb (am_dec1 hd rfl) hc k
  | dup_x1 => (try dsimp only [am_step] at h); have h9 := am_v2_inv h; clear h; obtain ⟨y, z, r, rfl, hc, hc2, h⟩ := h9; obtain rfl := am_n_inv h; exact am_w_dup_x1 hx hb (am_dec1 hd rfl) hc hc2 k
  | dup2 => (try dsimp only [am_step] at h); have h9 := am_v2_inv h; clear h; obtain ⟨y, z, r, rfl, hc, hc2, h⟩ := h9; obtain rfl := am_n_inv h; exact am_w_dup2 hx hb (am_dec1 hd rfl) hc hc2 k
  | goto off => obtain rfl := am_n_inv h; exact am_w_goto hx hb (am_dec1 hd rfl) hf k
  | ifCond cd off =>
    (try dsimp only [am_step] at h); have h9 := am_i1_inv h; clear h; obtain ⟨y, r, rfl, h⟩ := h9
    split at h
    · next hc => obtain rfl := am_n_inv h; exact am_w_if hx hb (am_dec1 hd rfl) hf (fun _ => k) (fun z => absurd hc z)
    · next hc => obtain rfl := am_n_inv h; exact am_w_if hx hb (am_dec1 hd rfl) hf (fun z => absurd z hc) (fun _ => k)
  | if_icmp cd off =>
    (try dsimp only [am_step] at h); have h9 := am_i2_inv h; clear h; obtain ⟨y, z, r, rfl, h⟩ := h9
    split at h
    · next hc => obtain rfl := am_n_inv h; exact am_w_icmp hx hb (am_dec1 hd rfl) hf (fun _ => k) (fun z => absurd hc z)
    · next hc => obtain rfl := am_n_inv h; exact am_w_icmp hx hb (am_dec1 hd rfl) hf (fun z => absurd z hc) (fun _ => k)
  | if_acmp cd off =>
    cases cd with
    | eq =>
      (try dsimp only [am_step] at h); have h9 := am_q2_inv h; clear h; obtain ⟨y, z, r, rfl, h⟩ := h9
      split at h
      · next hc => obtain rfl := am_n_inv h; exact am_w_acmp_eq hx hb (am_dec1 hd rfl) hf (fun _ => k) (fun z => absurd hc z)
      · next hc => obtain rfl := am_n_inv h; exact am_w_acmp_eq hx hb (am_dec1 hd rfl) hf (fun z => absurd z hc) (fun _ => k)
    | ne =>
      (try dsimp only [am_step] at h); have h9 := am_q2_inv h; clear h; obtain ⟨y, z, r, rfl, h⟩ := h9
      split at h
      · next hc => obtain rfl := am_n_inv h; exact am_w_acmp_ne hx hb (am_dec1 hd rfl) hf (fun z => absurd hc z) (fun _ => k)
      · next hc => obtain rfl := am_n_inv h; exact am_w_acmp_ne hx hb (am_dec1 hd rfl) hf (fun _ => k) (fun z => absurd z hc)
  | ifnull off =>
    (try dsimp only [am_step] at h); have h9 := am_q1_inv h; clear h; obtain ⟨y, r, rfl, h⟩ := h9
    cases y with
    | none => obtain rfl := am_n_inv h; exact am_w_ifnull hx hb (am_dec1 hd rfl) hf (fun _ => k) (fun a z => by cases z)
    | some a => obtain rfl := am_n_inv h; exact am_w_ifnull hx hb (am_dec1 hd rfl) hf (fun z => by cases z) (fun _ _ => k)
  | ifnonnull off =>
    (try dsimp only [am_step] at h); have h9 := am_q1_inv h; clear h; obtain ⟨y, r, rfl, h⟩ := h9
    cases y with
    | none => obtain rfl := am_n_inv h; exact am_w_ifnonnull hx hb (am_dec1 hd rfl) hf (fun a z => by cases z) (fun _ => k)
    | some a => obtain rfl := am_n_inv h; exact am_w_ifnonnull hx hb (am_dec1 hd rfl) hf (fun _ _ => k) (fun z => by cases z)
  | tableswitch dflt lo hi offs =>
    (try dsimp only [am_step] at h); have h9 := am_i1_inv h; clear h; obtain ⟨y, r, rfl, h⟩ := h9
    obtain ⟨len, hd⟩ := am_dec2 hd rfl
    split at h
    · next h0 =>
      split at h
      · next h1 => obtain rfl := am_n_inv h; exact am_w_tsw hx hb hd h0 h1 k
      · cases h
    · next h0 =>
      split at h
      · next off ho =>
        split at h
        · next h1 => obtain rfl := am_n_inv h; exact am_w_tsw2 hx hb hd h0 ho h1 k
        · cases h
      · cases h
  | lookupswitch dflt ps =>
    (try dsimp only [am_step] at h); have h9 := am_i1_inv h; clear h; obtain ⟨y, r, rfl, h⟩ := h9
    obtain ⟨len, hd⟩ := am_dec2 hd rfl
    split at h
    · next h0 => obtain rfl := am_n_inv h; exact am_w_lsw hx hb hd h0.1 h0.2 k
    · cases h
  | getfield idx =>
    (try dsimp only [am_step] at h); have h9 := am_a1_inv h; clear h; obtain ⟨a, r, rfl, h⟩ := h9
    split at h
    · next c1 fs ha =>
      split at h
      · next hc =>
        obtain ⟨hc, h50⟩ := hc
        subst hc
        split at h
        · next w hw =>
          obtain rfl := am_n_inv h
          have hf : if c1 = 50 then _ else _ := hf
          rw [if_neg h50] at hf
          obtain ⟨C, T, N, h1, h2, h3, h4, h5⟩ := hf
          exact am_w_getf hx hb hown h2 h1 h3 h4 h5 (am_dec1 hd rfl) ha hw k
        · cases h
      · cases h
    · next av f1 ha =>
      split at h
      · next hu =>
        have hf : if u = 50 then (if v = 0 then _ else _) else _ := hf
        rw [if_pos hu] at hf
        split at h
        · next hv =>
          rw [if_pos hv] at hf
          obtain rfl := am_n_inv h
          exact am_w_getS hx hb (am_dec1 hd rfl) hown hf ha (Or.inl ⟨rfl, rfl, rfl⟩) k
        · next hv =>
          rw [if_neg hv] at hf
          obtain rfl := am_n_inv h
          exact am_w_getS hx hb (am_dec1 hd rfl) hown hf ha (Or.inr ⟨rfl, rfl, rfl⟩) k
      · cases h
    · cases h
  | putfield idx =>
    (try dsimp only [am_step] at h); have h9 := am_va_inv h; clear h; obtain ⟨w, a, r, rfl, h⟩ := h9
    split at h
    · next c1 fs ha =>
      split at h
      · next hc =>
        obtain ⟨hc, -, hw⟩ := hc
        subst hc
        obtain rfl := am_n_inv h
        obtain ⟨C, T, N, h1, h2, h3, h4, h5, h6, h7⟩ := hf
        exact am_w_putf hx hb hown h2 h1 h3 (ft c1) h5 h6 h4 h7 (am_dec1 hd rfl) ha hw k
      · cases h
    · cases h
  | new idx =>
    obtain rfl := am_n_inv h
    obtain ⟨C, T, N, h1, h2, h3, h4, h5, h6, h7, h8⟩ := hf
    exact am_w_new hx hb (am_dec1 hd rfl) hown h2 h1 (ft u) h3 h4 h5 h6 h7 h8 hr1 hr2 k
  | newarray at_ =>
    (try dsimp only [am_step] at h); have h9 := am_i1_inv h; clear h; obtain ⟨n, r, rfl, h⟩ := h9
    split at h
    · cases h
    · next hn =>
      have hn1 : ¬ n < 0 := fun z => hn (Or.inl z)
      have hn2 : n.toNatClampNeg ≤ 100000 := Nat.not_lt.mp fun z => hn (Or.inr z)
      cases at_ with
      | int => obtain rfl := am_n_inv h; exact am_w_newarr (ar := (n.toNatClampNeg, .inl fun _ => 0)) hx hb (am_dec1 hd rfl) hf (fun _ => rfl) (fun _ => rfl) hn1 (by show n.toNatClampNeg * 4 ≤ _; omega) hr1 hr2 k
      | char => obtain rfl := am_n_inv h; exact am_w_newarr (ar := (n.toNatClampNeg, .inl fun _ => 0)) hx hb (am_dec1 hd rfl) hf (fun _ => rfl) (fun _ => show fits .char (.int 0) = true by decide) hn1 (by show n.toNatClampNeg * 2 ≤ _; omega) hr1 hr2 k
      | boolean => obtain rfl := am_n_inv h; exact am_w_newarr (ar := (n.toNatClampNeg, .inl fun _ => 0)) hx hb (am_dec1 hd rfl) hf (fun _ => rfl) (fun _ => show fits .boolean (.int 0) = true by decide) hn1 (by show n.toNatClampNeg * 1 ≤ _; omega) hr1 hr2 k
      | long => obtain rfl := am_n_inv h; exact am_w_newarr (ar := (n.toNatClampNeg, .inr (.inl fun _ => 0))) hx hb (am_dec1 hd rfl) hf (fun _ => rfl) trivial hn1 (by show n.toNatClampNeg * 8 ≤ _; omega) hr1 hr2 k
      | _ => cases h
  | anewarray idx =>
    (try dsimp only [am_step] at h); have h9 := am_i1_inv h; clear h; obtain ⟨n, r, rfl, h⟩ := h9
    split at h
    · cases h
    · next hn =>
      obtain rfl := am_n_inv h
      exact am_w_anew hx hb (am_dec1 hd rfl) hown hf.1 hf.2 (fun z => hn (Or.inl z)) (by have := Nat.not_lt.mp fun z => hn (Or.inr z); omega) hr1 hr2 k
  | arraylength =>
    (try dsimp only [am_step] at h); have h9 := am_a1_inv h; clear h; obtain ⟨a, r, rfl, h⟩ := h9
    split at h
    · next ha => obtain rfl := am_n_inv h; exact am_w_alen hx hb (am_dec1 hd rfl) ha k
    · next ha => obtain rfl := am_n_inv h; exact am_w_slen hx hb (am_dec1 hd rfl) ha k
    · next ha => obtain rfl := am_n_inv h; exact am_w_tlen hx hb (am_dec1 hd rfl) ha k
    · cases h
  | iaload =>
    (try dsimp only [am_step] at h); have h9 := am_ia_inv h; clear h; obtain ⟨j, a, r, rfl, h⟩ := h9
    split at h
    · next ha =>
      split at h
      · cases h
      · next hi => obtain rfl := am_n_inv h; exact am_w_iald hx hb (am_dec1 hd rfl) ha hi k
    · next ha =>
      split at h
      · cases h
      · next hi => obtain rfl := am_n_inv h; exact am_w_sald hx hb (am_dec1 hd rfl) ha hi k
    · cases h
  | baload =>
    (try dsimp only [am_step] at h); have h9 := am_ia_inv h; clear h; obtain ⟨j, a, r, rfl, h⟩ := h9
    split at h
    · next ha =>
      split at h
      · cases h
      · next hi => obtain rfl := am_n_inv h; exact am_w_zald hx hb (am_dec1 hd rfl) ha hi k
    · next ha =>
      split at h
      · cases h
      · next hi => obtain rfl := am_n_inv h; exact am_w_tb hx hb (am_dec1 hd rfl) ha hi k
    · cases h
  | caload =>
    (try dsimp only [am_step] at h); have h9 := am_ia_inv h; clear h; obtain ⟨j, a, r, rfl, h⟩ := h9
    split at h
    · next ha =>
      split at h
      · cases h
      · next hi => obtain rfl := am_n_inv h; exact am_w_cald hx hb (am_dec1 hd rfl) ha hi k
    · cases h
  | laload =>
    (try dsimp only [am_step] at h); have h9 := am_ia_inv h; clear h; obtain ⟨j, a, r, rfl, h⟩ := h9
    split at h
    · next ha =>
      split at h
      · cases h
      · next hi => obtain rfl := am_n_inv h; exact am_w_lald hx hb (am_dec1 hd rfl) ha hi k
    · cases h
  | aaload =>
    (try dsimp only [am_step] at h); have h9 := am_ia_inv h; clear h; obtain ⟨j, a, r, rfl, h⟩ := h9
    split at h
    · next ha =>
      split at h
      · cases h
      · next hi => obtain rfl := am_n_inv h; exact am_w_aald hx hb (am_dec1 hd rfl) ha hi k
    · cases h
  | iastore =>
    (try dsimp only [am_step] at h); have h9 := am_iia_inv h; clear h; obtain ⟨y, j, a, r, rfl, h⟩ := h9
    split at h
    · next ha =>
      split at h
      · cases h
      · next hi => obtain rfl := am_n_inv h; exact am_w_iast hx hb (am_dec1 hd rfl) ha hi k
    · cases h
  | bastore =>
    (try dsimp only [am_step] at h); have h9 := am_iia_inv h; clear h; obtain ⟨y, j, a, r, rfl, h⟩ := h9
    split at h
    · next ha =>
      split at h
      · cases h
      · next hi => obtain rfl := am_n_inv h; exact am_w_zast hx hb (am_dec1 hd rfl) ha hi k
    · cases h
  | castore =>
    (try dsimp only [am_step] at h); have h9 := am_iia_inv h; clear h; obtain ⟨y, j, a, r, rfl, h⟩ := h9
    split at h
    · next ha =>
      split at h
      · cases h
      · next hi => obtain rfl := am_n_inv h; exact am_w_cast hx hb (am_dec1 hd rfl) ha hi k
    · cases h
  | lastore =>
    (try dsimp only [am_step] at h); have h9 := am_lia_inv h; clear h; obtain ⟨y, j, a, r, rfl, h⟩ := h9
    split at h
    · next ha =>
      split at h
      · cases h
      · next hi => obtain rfl := am_n_inv h; exact am_w_last hx hb (am_dec1 hd rfl) ha hi k
    · cases h
  | aastore =>
    (try dsimp only [am_step] at h); have h9 := am_qia_inv h; clear h; obtain ⟨y, j, a, r, rfl, h⟩ := h9
    split at h
    · next ha =>
      split at h
      · cases h
      · next hi =>
        cases y with
        | none => obtain rfl := am_n_inv h; exact am_w_aastN hx hb (am_dec1 hd rfl) ha hi k
        | some b =>
          dsimp only at h
          split at h
          · next c1 fs hbv =>
            split at h
            · next hC => obtain rfl := am_n_inv h; exact am_w_aast hx hb (am_dec1 hd rfl) (fun r hr => (hnm c1 r hr).trans hC) ha hbv hi k
            · cases h
          · cases h
    · cases h
  | invokespecial idx =>
    replace h : (if d = 0 ∨ ¬ u = 1000 then none else am_a1 st fun _ r => if (r.map fun w => w.category).sum ≤ 8 then am_n (pc + 3) lv r σ top sl else none) = some x := h
    split at h
    · cases h
    · next hd0 =>
      (try dsimp only [am_step] at h); have h9 := am_a1_inv h; clear h; obtain ⟨a, r, rfl, h⟩ := h9
      split at h
      · next hw =>
        obtain rfl := am_n_inv h
        obtain ⟨h1, h2, h3⟩ := hf (Decidable.not_not.mp fun z => hd0 (Or.inr z))
        have hd1 : ¬ d = 0 := fun z => hd0 (Or.inl z)
        exact am_w_objinit hx hb hml (am_dec1 hd rfl) hown h1 h2 h3 (by omega) hw (by omega) k
      · cases h
  | _ => exact absurd (show (none : am_O) = some x from h) (fun z => by cases z)
end AMT
end
section
set_option maxHeartbeats 4000000 in
theorem am_step_mono {cs : Nat → Value} {ft : Nat → Nat → FieldType} {df : Nat → List Value} {ns : Nat → Nat} {nm : Nat → String} {d pc : Nat} {lv : am_V} {st : List Value} {σ : am_H} {top sl : Nat} {i : Instr} {u v : Nat} {x : am_X}
    (h : am_step cs ft df ns nm d pc lv st σ top sl i u v = some x) : top ≤ x.2.2.2.2.1 ∧ sl ≤ x.2.2.2.2.2 := by
  have key : ∀ (pc' : Nat) (lv' : am_V) (st' : List Value) (σ' : am_H), am_n pc' lv' st' σ' top sl = some x → top ≤ x.2.2.2.2.1 ∧ sl ≤ x.2.2.2.2.2 := by
    intro pc' lv' st' σ' h
    obtain rfl := am_n_inv h
    exact ⟨Nat.le_refl _, Nat.le_refl _⟩
  have key2 : ∀ (pc' : Nat) (lv' : am_V) (st' : List Value) (σ' : am_H) (n : Nat), am_n pc' lv' st' σ' (top + 1) (sl + n) = some x → top ≤ x.2.2.2.2.1 ∧ sl ≤ x.2.2.2.2.2 := by
    intro pc' lv' st' σ' n h
    obtain rfl := am_n_inv h
    exact ⟨Nat.le_succ _, Nat.le_add_right _ _⟩
  cases i <;> (dsimp only [am_step, am_i1, am_i2, am_l2, am_a1, am_q1, am_q2, am_v1, am_v2, am_ia, am_iia, am_lia, am_qia, am_va] at h; (repeat' (split at h)) <;> first | exact key _ _ _ _ h | exact key2 _ _ _ _ _ h | cases h)
theorem am_run_mono {t : am_T} {cs : Nat → Value} : ∀ (n d y pc : Nat) (lv : am_V) (st : List Value) (σ : am_H) (top sl : Nat) (res : am_R), am_run t cs n d y pc lv st σ top sl = some res → top ≤ res.2.2.1 ∧ sl ≤ res.2.2.2
  | 0, d, y, pc, lv, st, σ, top, sl, res, h => by cases h
  | n + 1, d, y, pc, lv, st, σ, top, sl, res, h => by
    unfold am_run at h
    split at h
    · cases h
    · next i u v hI =>
      split at h
      · split at h
        · cases h
        · next pc' lv' st' σ' top' sl' hs =>
          have h1 := am_step_mono hs
          have h2 := am_run_mono n _ _ _ _ _ _ _ _ _ h
          dsimp only at h1
          exact ⟨Nat.le_trans h1.1 h2.1, Nat.le_trans h1.2 h2.2⟩
      · split at h
        · cases h
        · split at h
          · split at h
            · split at h
              · cases h
              · exact am_run_mono n _ _ _ _ _ _ _ _ _ h
            · split at h
              · split at h
                · cases h
                · next hs =>
                  have h1 := am_run_mono n _ _ _ _ _ _ _ _ _ hs
                  have h2 := am_run_mono n _ _ _ _ _ _ _ _ _ h
                  dsimp only at h1
                  exact ⟨Nat.le_trans h1.1 h2.1, Nat.le_trans h1.2 h2.2⟩
                · next hs =>
                  split at h
                  · have h1 := am_run_mono n _ _ _ _ _ _ _ _ _ hs
                    have h2 := am_run_mono n _ _ _ _ _ _ _ _ _ h
                    dsimp only at h1
                    exact ⟨Nat.le_trans h1.1 h2.1, Nat.le_trans h1.2 h2.2⟩
                  · cases h
              · cases h
          · cases h
      · split at h
        · cases h
          exact ⟨Nat.le_succ _, Nat.le_add_right _ _⟩
        · cases h
      · split at h
        · cases h
        · cases h
          exact ⟨Nat.le_refl _, Nat.le_refl _⟩
end
section
theorem am_args_mem : ∀ (as : List Value) (k j : Nat) (w : Value), as.all am_c1 = true → as[j]? = some w → (k + j, w) ∈ lv_args k as
  | [], k, j, w, _, h => by simp at h
  | v :: vs, k, j, w, hc, h => by
    simp only [List.all_cons, Bool.and_eq_true] at hc
    have hv : ¬ v.category = 2 := by rw [am_c1_cat hc.1]; decide
    show _ ∈ (k, v) :: lv_args (if v.category = 2 then k + 2 else k + 1) vs
    rw [if_neg hv]
    cases j with
    | zero =>
      rw [List.getElem?_cons_zero] at h
      cases h
      exact List.mem_cons_self
    | succ j =>
      rw [List.getElem?_cons_succ] at h
      have := am_args_mem vs (k + 1) j w hc.2 h
      rw [show k + (j + 1) = k + 1 + j by omega]
      exact List.mem_cons_of_mem _ this
theorem am_sl_len : ∀ (as : List Value), as.all am_c1 = true → (lg_sl as).length = as.length
  | [], _ => rfl
  | v :: vs, hc => by
    simp only [List.all_cons, Bool.and_eq_true] at hc
    have hv : ¬ v.category = 2 := by rw [am_c1_cat hc.1]; decide
    have ih := am_sl_len vs hc.2
    unfold lg_sl at ih ⊢
    rw [List.flatMap_cons, if_neg hv, List.length_append, ih]
    simp
    omega
theorem am_ent_get {ml : Nat} {as : List Value} {j : Nat} {w : Value} (h : am_get (am_ent ml as) j = some w) : as[j]? = some w := by
  unfold am_get at h
  split at h
  · next v e =>
    cases h
    unfold am_ent at e
    by_cases hj : j < as.length
    · rw [List.getElem?_append_left (by rw [List.length_map]; exact hj), List.getElem?_map] at e
      cases h2 : as[j]? with
      | none => rw [h2] at e; cases e
      | some z => rw [h2] at e; cases e; rfl
    · rw [List.getElem?_append_right (by rw [List.length_map]; omega), List.getElem?_replicate] at e
      split at e
      · cases e
      · cases e
  · cases h
theorem am_ent_ls {ls : Array Slot} {n : Nat} {as : List Value} (h : as.length ≤ n) (hc : as.all am_c1 = true) (hl : lv_has ls n (lv_args 0 as)) : am_ls ls n (am_ent n as) := by
  refine ⟨⟨hl.1, hl.2.1, ?_⟩, ?_, ?_⟩
  · rintro ⟨j, w⟩ hq
    have := am_args_mem as 0 j w hc (am_ent_get (am_as_mem.mp hq))
    rw [Nat.zero_add] at this
    exact hl.2.2 (j, w) this
  · unfold am_ent
    rw [List.length_append, List.length_map, List.length_replicate]
    omega
  · intro i v hv
    exact am_c1_cat (List.all_eq_true.mp hc v (List.mem_of_getElem? (am_ent_get hv)))
/-- a method's start and end, by the abstract heap -/
def am_Pc (D : va_G) (cl : List vw_C) (b0 : Nat) (GL : State → Prop) (as : List Value) (σ : am_H) (top : Nat) : Array Value → State → Prop := va_Pc as (fun U => am_dy D cl b0 U σ top U.heap ∧ GL U)
def am_Qc (D : va_G) (cl : List vw_C) (b0 : Nat) (res : am_R) : Array Value → State → Outcome → State → Prop := fun _ st oc t => (∃ v, res.1 = .inl v ∧ oc = .returned v) ∧ am_dy D cl b0 t res.2.1 res.2.2.1 t.heap ∧ va_F (fun q => b0 ≤ q) st t
/-- the facts that move with the tables, as long as the cells below b0 stay -/
def am_mv (b0 : Nat) (GL : State → Prop) : Prop := ∀ s U : State, s.WarmedH U.vm → s.heap.size ≤ U.heap.size → (∀ q : Nat, q < s.heap.size → ¬ b0 ≤ q → U.heap[q]? = s.heap[q]?) → GL s → GL U
theorem am_blind {D : va_G} {cl : List vw_C} {b0 : Nat} {GL : State → Prop} (hmv : am_mv b0 GL) (as : List Value) (σ : am_H) (top : Nat) : FrameBlind (am_Pc D cl b0 GL as σ top) := by
  intro a U g mk h
  obtain ⟨h1, h2, h3⟩ := h
  exact ⟨h1, h2.moved (U := U.calling g mk a) (Vm.Alike.refl U.vm), hmv U (U.calling g mk a) (State.WarmedH.refl U) (Nat.le_refl _) (fun _ _ _ => rfl) h3⟩
section AMR
variable {p : Program} {l : Launch} {e : Env} {R : Room} {s : State} {m : MethodId} {args : Array Value} {below : List Frame} {meth : Method} {c : Code} {Q : State → Prop}
variable {cc : ByteArray} {D : va_G} {cl : List vw_C} {b0 nL c0 s0 : Nat} {pc top sl : Nat} {lv : am_V} {st rest : List Value} {σ : am_H}
theorem am_w_run {mc ms : Nat} {res : am_R} {r : Option Value} {ar : Array Value} (hres : res.1 = .inl r) (htop : res.2.2.1 = top + mc) (hsl : res.2.2.2 = sl + ms)
    (hr : ∀ (ls : Array Slot) (H : Heap) (locs : List Loc) (cells slots : Nat), am_inv D cl b0 s nL c0 s0 lv σ top sl ls H locs cells slots → va_Run p l e R s m args below meth c H locs cells slots mc ms (F0 m pc ls st) rest (am_Qc D cl b0 res ar) (fun q => b0 ≤ q))
    (k : am_W p l e R s m args below meth c Q D cl b0 nL c0 s0 (pc + 3) lv (r.toList ++ rest) (res.2.1) (res.2.2.1) (res.2.2.2)) : am_W p l e R s m args below meth c Q D cl b0 nL c0 s0 pc lv st σ top sl := by
  intro ls H locs cells slots h T hT X
  obtain ⟨v, st₀, t, T', L, h0, X', hL, e1, e2, ⟨⟨v2, hv, hv2⟩, hdy, hz, hk⟩, stp⟩ := hr ls H locs cells slots h T hT X
  rw [hres] at hv
  cases hv
  cases hv2
  have hal : s.vm.Alike t.vm := by rw [← e2]; exact X'.warmed.alike
  have hS := h.2.2.1
  obtain ⟨hc, hs⟩ := h.2.2.2
  rw [h0] at hz hk
  obtain ⟨t2, a1, b1⟩ := k ls T'.heap (locs ++ L) (cells + mc) (slots + ms) ⟨h.1, by rw [e1]; exact hdy.moved hal.symm, ⟨Nat.le_trans hS.1 (by rw [e1]; exact hz), fun q h1 h2 => by
      rw [e1, hk q (Nat.lt_of_lt_of_le h1 hS.1) h2]
      exact hS.2.1 q h1 h2, fun q hq => by
      rcases List.mem_append.mp hq with z | z
      · exact hS.2.2 q z
      · exact hL q z⟩, by omega, by omega⟩ T' rfl X'
  exact ⟨t2, stp t2 a1, b1⟩
/-- what the tables say of a call -/
def am_cc (t : am_T) (yn : Nat → MethodName) (ws : Nat → List Cond) (s : State) (args : Array Value) (y u v : Nat) : Prop :=
  (∀ w ∈ ws u, ∀ (a' : Array Value) (U : State), s.WarmedH U.vm → w.before a' U = true) ∧ (Cond.initialized (yn u).cls).before args s = true ∧ ((yn u).cls ≠ "java/lang/invoke/MethodHandle" ∧ (yn u).cls ≠ "java/lang/invoke/VarHandle") ∧ (parseMethodDescriptor (yn u).desc).map (fun d => d.parameters.length) = some v ∧ t.2.1 u ≤ 45
def am_lk (yn : Nat → MethodName) (s : State) (args : Array Value) (own : String) (idx u : Nat) : Prop := (Cond.methodLink own idx (yn u)).before args s = true ∨ ∃ host, (Cond.methodLinkNest own idx (yn u) host).before args s = true
def am_cf (t : am_T) (yn : Nat → MethodName) (rtt : Nat → Option FieldType) (ws : Nat → List Cond) (s : State) (args : Array Value) (y : Nat) (i : Instr) (u v : Nat) : Prop := match i with
  | .invokevirtual idx => u < 1000 → am_cc t yn ws s args y u v ∧ am_lk yn s args (yn y).cls idx u ∧ (Cond.instanceMethod (yn u)).before args s = true ∧ (Cond.selects (yn u).cls (yn u) (yn u)).before args s = true ∧ t.2.2.2.2.2.2.1 (t.2.2.2.2.2.2.2.1 u) = (yn u).cls ∧ am_hs t u = [] ∧ (am_hs t y = [] ∨ (Cond.methodLink (yn y).cls idx (yn u)).before args s = true)
  | .invokespecial idx => u < 1000 → am_cc t yn ws s args y u v ∧ am_lk yn s args (yn y).cls idx u ∧ (Cond.instanceMethod (yn u)).before args s = true ∧ (yn u).name = "<init>" ∧ rtt u = none ∧ am_hs t u = [] ∧ am_hs t y = []
  | .invokestatic idx => u < 1000 → am_cc t yn ws s args y u v ∧ am_lk yn s args (yn y).cls idx u ∧ (Cond.static (yn u)).before args s = true ∧ am_hs t y = [] ∧ (am_hs t u = [] ∨ (Cond.methodLink (yn y).cls idx (yn u)).before args s = true)
  | _ => True
theorem am_callB {t : am_T} {yn : Nat → MethodName} {bt : Nat → ByteArray} {rtt : Nat → Option FieldType} {ws : Nat → List Cond} {y u v d mc ms : Nat} {ws' : List Cond} (hws : ws u = .code (yn u) (bt u) (t.2.1 u) (rtt u) :: ws') (h : am_cc t yn ws s args y u v) (hfr : d + 1 ≤ R.frames) (hlo : 64 * (d + 1) ≤ R.locals) {own : String} {idx : Nat}
    (hl : (Cond.methodLink own idx (yn u)).before args s = true) : CallB R s args own idx (yn u) (bt u) (t.2.1 u) (rtt u) (ws u) { frames := d, cells := mc, slots := ms, locals := 64 * d } mc ms v := by
  obtain ⟨h1, h2, h3, h4, h5⟩ := h
  have hc : Cond.code (yn u) (bt u) (t.2.1 u) (rtt u) ∈ ws u := by rw [hws]; exact List.mem_cons_self
  refine ⟨rfl, rfl, hfr, by show 8 + (t.2.1 u + 11) + 64 * d ≤ _; omega, h1, hc, h1 _ hc args s (State.WarmedH.refl s), h2, h3, fun sig hs => ?_, hl⟩
  rw [hs] at h4
  exact (Option.some.inj h4).symm
theorem am_callN {t : am_T} {yn : Nat → MethodName} {bt : Nat → ByteArray} {rtt : Nat → Option FieldType} {ws : Nat → List Cond} {y u v d mc ms : Nat} {ws' : List Cond} (hws : ws u = .code (yn u) (bt u) (t.2.1 u) (rtt u) :: ws') (h : am_cc t yn ws s args y u v) (hfr : d + 1 ≤ R.frames) (hlo : 64 * (d + 1) ≤ R.locals) {own host : String} {idx : Nat}
    (hl : (Cond.methodLinkNest own idx (yn u) host).before args s = true) : va_CN R s args own idx (yn u) host (bt u) (t.2.1 u) (rtt u) (ws u) { frames := d, cells := mc, slots := ms, locals := 64 * d } mc ms v := by
  obtain ⟨h1, h2, h3, h4, h5⟩ := h
  have hc : Cond.code (yn u) (bt u) (t.2.1 u) (rtt u) ∈ ws u := by rw [hws]; exact List.mem_cons_self
  refine ⟨⟨rfl, rfl, hfr, by show 8 + (t.2.1 u + 11) + 64 * d ≤ _; omega, h1, hc⟩, h1 _ hc args s (State.WarmedH.refl s), h2, h3, fun sig hs => ?_, hl⟩
  rw [hs] at h4
  exact (Option.some.inj h4).symm
end AMR
end
section
/-- the same place of a walk, seen as if the method had been entered with the heap as it is now -/
theorem am_rebase {p : Program} {l : Launch} {e : Env} {R : Room} {s : State} {m : MethodId} {args : Array Value} {below : List Frame} {meth : Method} {c : Code} {T : State} {locs : List Loc} {cells slots : Nat} (X : Stand p l e R s m args below meth c T locs cells slots) (hc : cells ≤ R.cells) (hs : slots ≤ R.slots) :
    Stand p l e { frames := R.frames, cells := R.cells - cells, slots := R.slots - slots, locals := R.locals } (T.setFrames (.invoking m args :: below)) m args below meth c T [] 0 0 := by
  have hcurT : T.cur < T.threads.size := by
    obtain ⟨g₀, hr⟩ := X.frames_eq
    obtain ⟨th, hth, -⟩ := State.frames_cons hr
    exact (Array.getElem?_eq_some_iff.mp hth).1
  have hfr : (T.setFrames (.invoking m args :: below)).frames = .invoking m args :: below := State.frames_setFrames _ hcurT
  obtain ⟨g₀, hr⟩ := X.frames_eq
  obtain ⟨th, hth, -⟩ := State.frames_cons hr
  have hmeth : T.vm.method? m = some meth := X.method'
  have hroom := X.room
  have hb := X.bytes
  have hl := X.limits
  have hsz := X.heapSize
  have hus := X.used
  have hbk := X.book
  refine ⟨X.admits, X.cas, X.clock, hfr, ?_, ?_, hmeth, X.code, X.here, X.tail, State.WarmedH.refl _, by rw [State.stackLimits_setFrames], by rw [State.stackBytes_setFrames], ?_⟩
  · have e1 : s.localsInUse = _ := State.localsInUse_invoking X.frames X.method X.code
    have e2 : (T.setFrames (.invoking m args :: below)).localsInUse = _ := State.localsInUse_invoking hfr hmeth X.code
    simp only [State.hasRoom, Bool.and_eq_true, decide_eq_true_eq] at hroom ⊢
    rw [e1, X.frames] at hroom
    rw [e2, hfr, State.stackLimits_setFrames, State.stackBytes_setFrames, hb, hl]
    refine ⟨⟨⟨⟨hroom.1.1.1.1, hroom.1.1.1.2⟩, ?_⟩, ?_⟩, hbk⟩
    · show T.heap.size + (R.cells - cells) ≤ _
      have := hroom.1.1.2
      omega
    · show T.slotsUsed + (R.slots - slots) ≤ _
      have := hroom.1.2
      omega
  · have hh := X.hears
    cases below with
    | nil =>
      simp only [State.hears, X.method] at hh
      simp only [State.hears]
      rw [show (T.setFrames (.invoking m args :: [])).vm.method? m = some meth from hmeth]
      exact hh
    | cons f r =>
      cases f with
      | java g =>
        simp only [State.hears] at hh ⊢
        rw [State.code?_eq] at hh ⊢
        cases hmg : s.vm.method? g.method with
        | none => rw [hmg] at hh; cases hh
        | some mg =>
          rw [hmg] at hh
          rw [show (T.setFrames (.invoking m args :: .java g :: r)).vm.method? g.method = some mg from X.warmed.methodAt hmg]
          exact hh
      | native _ => rfl
      | proc _ => rfl
      | _ =>
        simp only [State.hears, X.method] at hh
        simp only [State.hears]
        first
          | (rw [show (T.setFrames _).vm.method? m = some meth from hmeth]; exact hh)
          | (simp only [hmeth]; exact hh)
  · have h := (State.sameButNew.refl T hth)
    have h2 : (T.setFrames (.invoking m args :: below)).threads[(T.setFrames (.invoking m args :: below)).cur]? = _ := (State.frames_cons hfr).choose_spec.1
    have h3 := (State.sameButNew.refl (T.setFrames (.invoking m args :: below)) h2).setFrames T.frames (State.cur_lt_of_frames hfr)
    rw [State.setFrames_setFrames, State.setFrames_self hth] at h3
    exact h3
end
section
def am_QcT (D : va_G) (cl : List vw_C) (b0 : Nat) (res : am_R) : Array Value → State → Outcome → State → Prop := fun _ st oc t => (∃ a, res.1 = .inr a ∧ oc = .threw a) ∧ am_dy D cl b0 t res.2.1 res.2.2.1 t.heap ∧ va_F (fun q => b0 ≤ q) st t
/-- the end of a method that throws -/
def am_MQT (below : List Frame) (Qc : Array Value → State → Outcome → State → Prop) (a : Array Value) (s : State) (mc ms : Nat) (free : Addr → Prop) : State → Prop := fun t =>
  ∃ o, t.status = .running ∧ Ended t below o ∧ Qc a s o t ∧ (∃ x, o = .threw x) ∧ s.WarmedH t.vm ∧ ∃ L, s.sameButNew ({ t with vm := s.vm } : State) L mc ms ∧ ∀ q ∈ L, free q.base
def am_sup : List String := ["java/lang/RuntimeException", "java/lang/Exception"]
/-- what the tables say where an exception is made and thrown -/
def am_tf (s : State) (args : Array Value) (cc : ByteArray) (own C : String) (pc idx ic : Nat) : Prop :=
  decode cc pc = .ok (.new idx, 3) ∧ decode cc (pc + 3) = .ok (.dup, 1) ∧ decode cc (pc + 4) = .ok (.invokespecial ic, 3) ∧ decode cc (pc + 7) = .ok (.athrow, 1) ∧ (Cond.classLink own idx C).before args s = true ∧ (Cond.initialized C).before args s = true ∧
  Bundle.fit C = true ∧ (∀ w ∈ Bundle.ownAtoms0 own ic C am_sup, w.before args s = true)
theorem am_w_throw {p : Program} {l : Launch} {e : Env} {R : Room} {s : State} {m : MethodId} {args : Array Value} {below : List Frame} {meth : Method} {c : Code} {cc : ByteArray} {D : va_G} {cl : List vw_C} {b0 nL c0 s0 pc top sl : Nat} {lv : am_V} {st : List Value} {σ : am_H} {GL : State → Prop} {own C : String} {T0 : u_T} {u idx ic : Nat} {res : am_R}
    (hx : p.tables.exec = Jvm.exec) (hb : c.code = cc) (hml : c.maxLocals = nL) (hfl : l.flags = pinnedFlags ++ [noTraceFlag]) (hlocks : meth.locks = false) (hmt : c.exceptionTable.isEmpty = true) (hown : s.vm.findClass own = some m.cls) (hmv : am_mv b0 GL) (hgl : GL s) (htf : ∀ s' : State, GL s' → am_tf s' args cc own C pc idx ic)
    (hc : cl[u]? = some (C, T0, 0)) (hfr : 6 ≤ R.frames) (hlo : 200 ≤ R.locals) (hw : (st.map fun w => w.category).sum ≤ 8) (hr1 : top + 1 ≤ R.cells + c0) (hr2 : sl + 6 ≤ R.slots + s0) (hres : res = (.inr top, am_up σ top (.inr (.inl (u, []))), top + 1, sl + 6)) :
    am_W p l e R s m args below meth c (am_MQT below (am_QcT D cl b0 res) args s (res.2.2.1 - c0) (res.2.2.2 - s0) (fun q => b0 ≤ q)) D cl b0 nL c0 s0 pc lv st σ top sl := by
  intro ls H locs cells slots h T hT X
  obtain ⟨hcc, hss⟩ := h.2.2.2
  have X0 := am_rebase X (by omega) (by omega)
  have hS := h.2.2.1
  generalize hs' : T.setFrames (.invoking m args :: below) = s' at X0
  have hh : s'.heap = H := by rw [← hs']; exact hT
  have hvm : s'.vm = T.vm := by rw [← hs']; rfl
  have hW' : s.WarmedH s'.vm := by rw [hvm]; exact X.warmed
  have hgl' : GL s' := hmv s s' hW' (by rw [hh]; exact hS.1) (fun q h1 h2 => by rw [hh]; exact hS.2.1 q h1 h2) hgl
  obtain ⟨d0, d3, d4, d7, hcl, hini, hfit, hat⟩ := htf s' hgl'
  have hins : (Cond.instantiable C 6).before args s' = true := hat _ (by simp [Bundle.ownAtoms0])
  have hown' : s'.vm.findClass own = some m.cls := by rw [hW'.alike.findClass]; exact hown
  obtain ⟨hsz, hbt, tys, hK, hcells⟩ := h.2.1
  have hfc : s'.vm.findClass C = some (D.1 u) := by rw [hW'.alike.findClass]; exact (hK.1 u _ hc).2.1
  have hsame1 : s.sameButNew (s'.setVm s.vm) locs cells slots := by
    have h1 := X.same.setFrames (.invoking m args :: below) X.cur
    rw [← hs']
    exact h1
  have key : W p l e { frames := R.frames, cells := R.cells - cells, slots := R.slots - slots, locals := R.locals } s' m args below meth c H [] 0 0 (am_MQT below (am_QcT D cl b0 res) args s (res.2.2.1 - c0) (res.2.2.2 - s0) (fun q => b0 ≤ q)) (F0 m pc ls st) := by
    refine W.newcK hx hb hown' hcl hins hini rfl d0 (by show 0 + 1 ≤ R.cells - cells; omega) (by show 0 + 6 ≤ R.slots - slots; omega) hfc hsz fun H1 kC hkC e1 z1 o1 => ?_
    refine lv_dup hx hb d3 rfl ?_
    intro T2 hT2 X2
    obtain ⟨U, st1, hrun, hend, hWU, hsame, ce, hce, hoc⟩ := X2.ctorThrow0 hx (Launch.traces_off hfl X.admits) hown' hfit (names := am_sup) (by decide +kernel) hat (fun x hx => by cases hx) hfc hkC (by rw [hT2]; exact e1) (by rw [hh, hsz]; exact Nat.le_refl _)
      (g := F0 m (pc + 3 + 1) ls (.ref top :: .ref top :: st)) rfl (by rw [hml]; exact h.1.1.1) rfl rfl (rest := st) rfl (by rw [hb]; exact d4) (by rw [hb]; exact d7) (fun x hx => by
        have : c.exceptionTable.toList = [] := by
          have := Array.isEmpty_iff.mp hmt
          rw [this]
        rw [this] at hx
        cases hx) (by show 2 + 3 < R.frames; omega) (by
        show 2 * 0 + ((Value.ref top :: st).map fun v => v.category).sum + (13 * (2 + 1) + 41) ≤ R.locals
        rw [List.map_cons, List.sum_cons]
        show 2 * 0 + (1 + _) + _ ≤ _
        omega) hlocks
    have hlt : top < U.heap.size := (Array.getElem?_eq_some_iff.mp hce).1
    have hle : U.heap.size ≤ s'.heap.size + (0 + 1) := hsame.2.2.1
    rw [hh, hsz] at hle
    have hsize : U.heap.size = top + 1 := by omega
    have oq : ∀ q : Nat, q < top → U.heap[q]? = H[q]? := by
      intro q hq
      have hq2 : q < H.size := by rw [hsz]; exact hq
      have h3 : H[q]? = some H[q] := Array.getElem?_eq_getElem hq2
      have h4 : s'.heap[q]? = some H[q] := by rw [hh]; exact h3
      rw [h3]
      exact State.sameButNew.old_cell hsame h4
    have hWs : s.WarmedH U.vm := State.WarmedH.trans hW' hWU
    obtain ⟨a1, a2, tys', a3, a4⟩ := h.2.1.moved (U := U) hWs.alike
    refine ⟨U, st1, .threw top, hrun, hend, ⟨⟨top, by rw [hres], rfl⟩, ?_, ?_, ?_⟩, ⟨top, rfl⟩, hWs, locs ++ [], ?_, ?_⟩
    · rw [hres]
      refine am_dy_push a1 a2 a3 (fun _ z => z) a4 hsize oq ⟨hbt, (C, T0, 0), hc, rfl, ce, hce, ?_, hoc.vm, fun k hk => absurd hk (Nat.not_lt_zero k)⟩
      exact Option.some.inj (hoc.cls.symm.trans hfc)
    · rw [hsize]
      have := hS.1
      omega
    · intro q h1 h2
      have h3 : q < top := by rw [← hsz]; exact Nat.lt_of_lt_of_le h1 hS.1
      rw [oq q h3]
      exact hS.2.1 q h1 h2
    · have h5 := hsame1.trans (hsame.setVm s.vm)
      rw [hres]
      rw [show top + 1 - c0 = cells + (0 + 1) by omega, show sl + 6 - s0 = slots + (0 + 6) by omega]
      exact h5
    · intro q hq
      rw [List.append_nil] at hq
      exact hS.2.2 q hq
  exact key T hT X0
end
section
/-! a handler is sought: the class of an entry may be linked only now -/
section AMF
variable {Q : Handler → Pre} {E : CtlPost} {e : Env} {d : Bool} {acts : List Action} {s : State} {f : JFrame} {a : Addr}
theorem am_seek {x : ExceptionTableEntry} {t : List ExceptionTableEntry} {k : ClassId} {cell : Cell} (hx : covers x f.pc = true) (h0 : x.catchType ≠ 0) (hl : s.vm.ClassLinks e.platform f.method.cls x.catchType k) (hcell : s.heap[a]? = some cell) (hobj : ∀ z, cell.vm ≠ .statics z)
    (h1 : ∃ z, s.vm.classes[cell.cls]? = some z) (h2 : ∃ z, s.vm.classes[k]? = some z) : wp (findHandler.go f a (x :: t)) Q E e d acts s ↔ (if s.vm.assignable cell.cls k = true then Q (.found x.handlerPc) d acts (s.setVm (s.vm.noted f.method.cls x.catchType (.cls k))) else wp (findHandler.go f a t) Q E e d acts (s.setVm (s.vm.noted f.method.cls x.catchType (.cls k)))) := by
  simp only [covers] at hx
  obtain ⟨g1, g2⟩ := (resolveClass_links e.toSetting hl).op (op := VmOp.resolveClass f.method.cls x.catchType) rfl
  have hal : s.vm.Alike (s.vm.noted f.method.cls x.catchType (.cls k)) := (Vm.Alike.refl s.vm).noted _ _ _
  obtain ⟨z1, hz1⟩ := h1
  obtain ⟨z2, hz2⟩ := h2
  obtain ⟨w1, hw1, -⟩ := hal.2.2 _ _ hz1
  obtain ⟨w2, hw2, -⟩ := hal.2.2 _ _ hz2
  have hasg : (s.vm.noted f.method.cls x.catchType (.cls k)).assignable cell.cls k = s.vm.assignable cell.cls k := hal.assignable _ _
  by_cases hy : s.vm.assignable cell.cls k = true
  · rw [if_pos hy]
    rw [hy] at hasg
    simp [findHandler.go, hx, h0, g1, g2, hcell, hobj, hw1, hw2, hasg, VmOp.dirties, VmOp.acts]
  · rw [if_neg hy]
    have hy2 : s.vm.assignable cell.cls k = false := by simpa using hy
    rw [hy2] at hasg
    simp [findHandler.go, hx, h0, g1, g2, hcell, hobj, hw1, hw2, hasg, VmOp.dirties, VmOp.acts]
end AMF
/-- the search ends at a handler; the tables may be warmer behind it -/
theorem am_caught {tb : Tables} {e : Env} {s target : State} {g : JFrame} {c : Code} {below : List Frame} {a : Addr} (h : At s g.method c below) {pc : Nat} {vm' : Vm}
    (hfind : ∀ (Q : Handler → Pre) (E : CtlPost) (d : Bool) (acts : List Action), wp (findHandler g a) Q E e d acts ((s.setTop g).pushFrame (.throwing a)) ↔ Q (.found pc) d acts (((s.setTop g).pushFrame (.throwing a)).setVm vm'))
    (hrest : Steps tb e below ((s.setVm vm').setTop { g with pc := pc, stack := [.ref a] }) target) : Steps tb e below ((s.setTop g).pushFrame (.throwing a)) target := by
  obtain ⟨hgo, hw⟩ := h.throwing a
  refine Steps.head hgo hw ?_
  rw [stepThread_throwing (frames_entered h.top _)]
  have hst : ∀ r, (stepThrowing e ((s.setTop g).pushFrame (.throwing a)) a (.java g :: r)).Is ((((s.setTop g).pushFrame (.throwing a)).setVm vm').setFrames (.java { g with pc := pc, stack := [.ref a] } :: r)) [] := by
    intro r
    simp only [stepThrowing, searchFrame, vmDo]
    generalize hr : Sem.go _ e false [] _ = res
    obtain ⟨as, rfl, ha⟩ := Sem.eq_ok_of hr (a := Handler.found pc) (s' := ((s.setTop g).pushFrame (.throwing a)).setVm vm') (acts' := []) (by simp [hfind _ _ _ _])
    exact ⟨rfl, ha⟩
  rw [(hst _).1]
  obtain ⟨g₀, hg⟩ := Option.isSome_iff_exists.mp h.top
  obtain ⟨r, hr⟩ := State.topJava?_eq_some.mp hg
  have hr' : (s.setVm vm').frames = .java g₀ :: r := hr
  rw [State.setTop_of_frames _ hr'] at hrest
  rw [hr, List.tail_cons, State.pushFrame, State.setTop_of_frames _ hr]
  have key : ∀ (u : State) (F G K : List Frame), (((u.setFrames F).setFrames G).setVm vm').setFrames K = (u.setVm vm').setFrames K := by
    intro u F G K
    rw [State.setFrames_setFrames]
    have h1 : (u.setFrames G).setVm vm' = (u.setVm vm').setFrames G := rfl
    rw [h1, State.setFrames_setFrames]
  rw [key]
  exact hrest
end
section
section AMX
variable {p : Program} {l : Launch} {e : Env} {R : Room} {s : State} {m : MethodId} {args : Array Value} {below : List Frame} {meth : Method} {c : Code} {T : State} {locs : List Loc} {cells slots : Nat}
/-- an entry's class, as it is linked -/
theorem am_ent_link (X : Stand p l e R s m args below meth c T locs cells slots) {own N : String} {i : Nat} (hown : s.vm.findClass own = some m.cls) (hl : (Cond.classLink own i N).before args s = true) {kN : ClassId} (hN : s.vm.findClass N = some kN) {vm1 : Vm} (hW : s.WarmedH vm1) :
    vm1.ClassLinks e.platform m.cls i kN ∧ s.WarmedH (vm1.noted m.cls i (.cls kN)) ∧ ∃ z, vm1.classes[kN]? = some z := by
  have hpl : e.platform.magicAccessors = ({} : Platform).magicAccessors := by rw [X.admits.platform]
  obtain ⟨c', hc', hcl⟩ := Cond.classLink_spec hown hl e.platform hpl
  cases hN.symm.trans hc'
  obtain ⟨dk, _, _, kt, hd, _, _, _, _, hkt, _, hopen⟩ := hcl.here
  obtain ⟨kt', hkt', -⟩ := hW.alike.2.2 _ _ hkt
  exact ⟨hW.classLinks hcl, hW.noted hd hopen (State.rightAt_cls hcl), kt', hkt'⟩
theorem am_find1 (X : Stand p l e R s m args below meth c T locs cells slots) {g : JFrame} (hg : g.method = m) {a : Addr} {cell : Cell} {own N : String} {kN : ClassId} {x : ExceptionTableEntry} {tl : List ExceptionTableEntry} (hown : s.vm.findClass own = some m.cls) (htab : c.exceptionTable.toList = x :: tl)
    (hx : covers x g.pc = true) (h0 : x.catchType ≠ 0) (hl : (Cond.classLink own x.catchType N).before args s = true) (hN : s.vm.findClass N = some kN) (hcell : T.heap[a]? = some cell) (hobj : ∀ z, cell.vm ≠ .statics z) (hcc : ∃ z, s.vm.classes[cell.cls]? = some z) (hasg : s.vm.assignable cell.cls kN = true) :
    ∃ vm', s.WarmedH vm' ∧ ∀ (Q : Handler → Pre) (E : CtlPost) (d : Bool) (acts : List Action), wp (findHandler g a) Q E e d acts ((T.setTop g).pushFrame (.throwing a)) ↔ Q (.found x.handlerPc) d acts (((T.setTop g).pushFrame (.throwing a)).setVm vm') := by
  subst hg
  obtain ⟨k1, k2, k3⟩ := am_ent_link X hown hl hN X.warmed
  obtain ⟨z, hz⟩ := hcc
  obtain ⟨z', hz', -⟩ := X.warmed.alike.2.2 _ _ hz
  refine ⟨_, k2, fun Q E d acts => ?_⟩
  rw [W.findHandler_eq (s := (T.setTop g).pushFrame (.throwing a)) (f := g) X.method' X.code, htab]
  rw [am_seek (s := (T.setTop g).pushFrame (.throwing a)) (f := g) (k := kN) (cell := cell) hx h0 k1 hcell hobj ⟨z', hz'⟩ k3]
  rw [if_pos (show ((T.setTop g).pushFrame (.throwing a)).vm.assignable cell.cls kN = true from (X.warmed.alike.assignable _ _).trans hasg)]
  exact Iff.rfl
theorem am_find2 (X : Stand p l e R s m args below meth c T locs cells slots) {g : JFrame} (hg : g.method = m) {a : Addr} {cell : Cell} {own N N1 : String} {kN k1N : ClassId} {x x1 : ExceptionTableEntry} {tl : List ExceptionTableEntry} (hown : s.vm.findClass own = some m.cls) (htab : c.exceptionTable.toList = x1 :: x :: tl)
    (hx1 : covers x1 g.pc = true) (h01 : x1.catchType ≠ 0) (hl1 : (Cond.classLink own x1.catchType N1).before args s = true) (hN1 : s.vm.findClass N1 = some k1N) (hno : s.vm.assignable cell.cls k1N = false)
    (hx : covers x g.pc = true) (h0 : x.catchType ≠ 0) (hl : (Cond.classLink own x.catchType N).before args s = true) (hN : s.vm.findClass N = some kN) (hcell : T.heap[a]? = some cell) (hobj : ∀ z, cell.vm ≠ .statics z) (hcc : ∃ z, s.vm.classes[cell.cls]? = some z) (hasg : s.vm.assignable cell.cls kN = true) :
    ∃ vm', s.WarmedH vm' ∧ ∀ (Q : Handler → Pre) (E : CtlPost) (d : Bool) (acts : List Action), wp (findHandler g a) Q E e d acts ((T.setTop g).pushFrame (.throwing a)) ↔ Q (.found x.handlerPc) d acts (((T.setTop g).pushFrame (.throwing a)).setVm vm') := by
  subst hg
  obtain ⟨k1, k2, k3⟩ := am_ent_link X hown hl1 hN1 X.warmed
  obtain ⟨j1, j2, j3⟩ := am_ent_link X hown hl hN k2
  obtain ⟨z, hz⟩ := hcc
  obtain ⟨z', hz', -⟩ := X.warmed.alike.2.2 _ _ hz
  obtain ⟨z2, hz2, -⟩ := k2.alike.2.2 _ _ hz
  refine ⟨_, j2, fun Q E d acts => ?_⟩
  rw [W.findHandler_eq (s := (T.setTop g).pushFrame (.throwing a)) (f := g) X.method' X.code, htab]
  rw [am_seek (s := (T.setTop g).pushFrame (.throwing a)) (f := g) (k := k1N) (cell := cell) hx1 h01 k1 hcell hobj ⟨z', hz'⟩ k3]
  rw [if_neg (show ¬ ((T.setTop g).pushFrame (.throwing a)).vm.assignable cell.cls k1N = true from fun hh => by
    have := (X.warmed.alike.assignable cell.cls k1N).symm.trans hh
    rw [hno] at this
    cases this)]
  erw [am_seek (s := ((T.setTop g).pushFrame (.throwing a)).setVm (T.vm.noted g.method.cls x1.catchType (.cls k1N))) (f := g) (k := kN) (cell := cell) hx h0 j1 hcell hobj ⟨z2, hz2⟩ j3]
  rw [if_pos (show (((T.setTop g).pushFrame (.throwing a)).setVm (T.vm.noted g.method.cls x1.catchType (.cls k1N))).vm.assignable cell.cls kN = true from (k2.alike.assignable _ _).trans hasg)]
  exact Iff.rfl
/-- the contract of a method that throws -/
def am_MT (l : Launch) (y : MethodName) (ws : List Cond) (rm : Room) (Pc : Array Value → State → Prop) (Qc : Array Value → State → Outcome → State → Prop) (mc ms : Nat) (free : Addr → Prop) : Prop :=
  MetFree l y (headSpec ws rm) Pc (fun _ _ _ _ _ => True) (fun a st o t => Qc a st o t ∧ (∃ x, o = .threw x) ∧ st.WarmedH t.vm ∧ ∃ L, st.sameButNew ({ t with vm := st.vm } : State) L mc ms ∧ ∀ q ∈ L, free q.base)
theorem am_MT_ofW {y : MethodName} {ws ws' : List Cond} {rm : Room} {Pc : Array Value → State → Prop} {Qc : Array Value → State → Outcome → State → Prop} {mc ms : Nat} {free : Addr → Prop} {cc : ByteArray} {maxL : Nat} {ret : Option FieldType} (hy : plainName y.cls = true) (hw : ws = Cond.code y cc maxL ret :: ws')
    (body : ∀ p e s m args below meth c s₁, BodyLoose p l y (headSpec ws rm) cc maxL ret e s m args below meth c s₁ → c.maxLocals = maxL → Pc args s →
      W p l e (headSpec ws rm).room s m args below meth c s.heap [] 0 0 (am_MQT below Qc args s mc ms free) (entryFrame m args maxL)) : am_MT l y ws rm Pc Qc mc ms free := by
  refine MetFree.of_bodyS (code := cc) (maxLocals := maxL) (ret := ret) hy ?_ ?_
  · intro args s m h hn
    obtain ⟨meth, c, h1, h2, h3, h4, h5, h6, -, -⟩ := Cond.code_spec hn (atoms_spec (ws := ws) h _ (by rw [hw]; exact List.mem_cons_self))
    exact ⟨meth, c, h1, h2, h3, h4, h5, h6⟩
  · intro p e s m args below meth c s₁ B hml hP _
    have hh0 : s₁.heap = s.heap := by rw [B.state]; rfl
    obtain ⟨t, a1, o, b1, b2, b3⟩ := body p e s m args below meth c s₁ B hml hP s₁ hh0 (Stand.of_body B)
    exact ⟨t, o, a1, b1, b2, b3⟩
/-- a call on an object, of a method that throws: the note lies over the caller's frame -/
theorem am_threw (X : Stand p l e R s m args below meth c T locs cells slots) (hx : p.tables.exec = Jvm.exec) {own C : String} {index mc ms n : Nat} {y : MethodName} {bytes : ByteArray} {maxL : Nat} {ret : Option FieldType} {ws : List Cond} {rm : Room} {Pc : Array Value → State → Prop} {Qc : Array Value → State → Outcome → State → Prop} {free : Addr → Prop}
    (hown : s.vm.findClass own = some m.cls) (hM : am_MT l y ws rm Pc Qc mc ms free) (cw : CallW R s args own C index y bytes maxL ret ws rm mc ms n) {H : Heap} (hT : T.heap = H) {b : Addr} {As rest : List Value} (hp : PreV s H C b Pc As)
    {g : JFrame} (hg : g.method = m) (hn : As.length = n) (hsize : g.locals.size = c.maxLocals) (hstack : g.stack = As.reverse ++ .ref b :: rest) (hW : 2 * g.monitorRoom + (rest.map fun v => v.category).sum ≤ 8) (hdg : decode c.code g.pc = .ok (.invokevirtual index, 3)) (hf : cells + mc ≤ R.cells ∧ slots + ms ≤ R.slots) :
    ∃ (x : Addr) (st₀ t T' : State) (L : List Loc), st₀.heap = H ∧ Stand p l e R s m args below meth c T' (locs ++ L) (cells + mc) (slots + ms) ∧ (∀ q ∈ L, free q.base) ∧ T'.heap = t.heap ∧ T'.vm = t.vm ∧ Qc (Value.ref b :: As).toArray st₀ (.threw x) t ∧
      ∀ tg, Steps p.tables e below ((T'.setTop { g with stack := rest }).pushFrame (.throwing x)) tg → Steps p.tables e below (T.setTop g) tg := by
  obtain ⟨⟨hrc, hrs, hfr, hlo, hws, hcw, hcode, hini, hy, hlen, hl⟩, hin, hsel⟩ := cw
  obtain ⟨hblind, ⟨cellB, hcB, hoB, hclB⟩, hPc⟩ := hp
  obtain ⟨mk, methM, hnamed, hmethM, hstM, habM⟩ := Cond.instanceMethod_spec hin
  obtain ⟨methM', cM, hmethM', hcM, -, hlM, -, -, -, hsigM⟩ := Cond.code_spec hnamed hcode
  cases hmethM.symm.trans hmethM'
  obtain ⟨c2, r2, m2, q1, q2, q3, q4, kP, hkP, hkPi⟩ := Cond.selects_spec hsel
  cases hclB.symm.trans q1
  cases (State.methodFound?_of_named hnamed hy).symm.trans q2
  cases hnamed.symm.trans q3
  have hselP : selectMethod e.platform s.vm cellB.cls mk = .method mk := by rw [Launch.admits_selectMethod X.admits]; exact q4
  obtain ⟨vm₁, X₁, hstep₁⟩ := X.invokevirtual hx hown hl hnamed hmethM hstM hkP hkPi hy (a := b) (cell := cellB) (by rw [hT]; exact hcB)
    (fun z h => by rw [h] at hoB; cases hoB) hselP hmethM habM hkP hkPi (g := g) hg (argsL := As) (rest := rest) (hn.trans (hlen _ hsigM)) hstack hdg
  have hnU : (T.setVm vm₁).methodNamed? y = some mk := X₁.named hnamed
  have hcodeU := hws _ hcw (Value.ref b :: As).toArray (T.setVm vm₁) X₁.warmed
  have hiniU : (Cond.initialized y.cls).before (Value.ref b :: As).toArray (T.setVm vm₁) = true := word_at X₁.warmed (Or.inl (by first | rfl | simp [Cond.onTables, Cond.keeps, Cond.steady])) hini
  obtain ⟨methY, cY, hmY, hcY, -, hlY, -, -, -, -⟩ := Cond.code_spec hnU hcodeU
  obtain ⟨kY, hkY, -⟩ := className_of_methodNamed hnU
  have hinitY : kY.init = .initialized := Cond.initialized_spec (findClass_of_methodNamed hnU) hkY hiniU
  have h : At (T.setVm vm₁) ({ g with stack := rest } : JFrame).method c below := by
    show At (T.setVm vm₁) g.method c below
    rw [hg]
    exact X₁.here
  have happ : (headSpec ws rm).appliesLoose y e.platform ((T.setVm vm₁).calling { g with stack := rest } mk (Value.ref b :: As).toArray) = true :=
    Spec.appliesLoose_calling (g := { g with stack := rest }) h hdg hnU hkY hinitY
      (X₁.room_calling (g := { g with stack := rest }) (R' := (headSpec ws rm).room) hsize hmY hcY hfr (by rw [hlY]; show 2 * g.monitorRoom + (rest.map fun v => v.category).sum + (maxL + 11) + rm.locals ≤ R.locals; omega) (by show cells + rm.cells ≤ _; rw [hrc]; exact hf.1) (by show slots + rm.slots ≤ _; rw [hrs]; exact hf.2))
      (atoms_intro fun w hw => hws w hw _ _ X₁.warmed)
  obtain ⟨mid, hmid⟩ := h.above
  have hfr2 : ((T.setVm vm₁).setTop { g with stack := rest }).frames = (.java { g with stack := rest } :: mid) ++ below := by rw [State.frames_setTop' _ h.top, hmid]; rfl
  obtain ⟨o, s₂, hsteps, -, hend, hq⟩ := Steps.callFree hM p X.admits X.cas X.clock (acts := []) hfr2 happ (hblind _ _ { g with stack := rest } mk (hPc (T.setVm vm₁) hT X₁.warmed)) trivial
  have hq' : _ ∧ _ := hq
  obtain ⟨hQ, ⟨x, rfl⟩, hWW, L, hsame, hL⟩ := hq'
  have hend' : Ended s₂ (.java { g with stack := rest } :: below) (.threw x) := by
    have e1 : ((T.setVm vm₁).setTop { g with stack := rest }).frames = .java { g with stack := rest } :: below := by
      obtain ⟨g₀, hr⟩ := X₁.frames_eq
      rw [State.frames_setTop' _ h.top, hr]
      rfl
    rw [e1] at hend
    exact hend
  obtain ⟨T', X', hW', -, ht⟩ := X₁.outOfThrown (g := { g with stack := rest }) hg (mk := mk) (a := (Value.ref b :: As).toArray) hend' hWW hsame
  refine ⟨x, (T.setVm vm₁).calling { g with stack := rest } mk (Value.ref b :: As).toArray, s₂, T', L, hT, X', hL, ?_, ?_, hQ, fun tg hs => ?_⟩
  · rw [ht]
    exact (Stand.throwing_heap T' _ x).symm
  · rw [ht]
    exact (Stand.throwing_vm T' _ x).symm
  · refine hstep₁ _ fun acts => ?_
    rw [doInvoke_state]
    rw [← ht] at hs
    exact hsteps.trans hs
end AMX
end
section
section AMY
variable {p : Program} {l : Launch} {e : Env} {R : Room} {s : State} {m : MethodId} {args : Array Value} {below : List Frame} {meth : Method} {c : Code} {T : State} {locs : List Loc} {cells slots : Nat}
def am_he (x : ExceptionTableEntry) : Nat × Nat × Nat × Nat := (x.startPc, x.endPc, x.handlerPc, x.catchType)
theorem am_skip {Q : Handler → Pre} {E : CtlPost} {d : Bool} {acts : List Action} {U : State} {f : JFrame} {a : Addr} {x : ExceptionTableEntry} {t : List ExceptionTableEntry} (hx : ¬ (x.startPc ≤ f.pc ∧ f.pc < x.endPc)) : wp (findHandler.go f a (x :: t)) Q E e d acts U ↔ wp (findHandler.go f a t) Q E e d acts U := by
  have h2 : (decide (x.startPc ≤ f.pc) && decide (f.pc < x.endPc)) = false := by
    rw [Bool.and_eq_false_iff, decide_eq_false_iff_not, decide_eq_false_iff_not]
    exact Decidable.not_and_iff_or_not.mp hx
  rw [findHandler.go]
  simp only [h2]
  rfl
/-- the handlers, one after another -/
theorem am_finds {g : JFrame} (X : Stand p l e R s g.method args below meth c T locs cells slots) {a : Addr} {cell : Cell} {own : String} {nm : Nat → String} {kN : Nat → ClassId} {cx r : Nat} (hown : s.vm.findClass own = some g.method.cls) (hcell : T.heap[a]? = some cell) (hobj : ∀ z, cell.vm ≠ .statics z) (hcc : ∃ z, s.vm.classes[cell.cls]? = some z) :
    ∀ (hs : List ((Nat × Nat × Nat × Nat) × Nat)) (xs : List ExceptionTableEntry) (vm1 : Vm), s.WarmedH vm1 → xs.map am_he = hs.map Prod.fst →
      (∀ h ∈ hs, h.1.2.2.2 ≠ 0 ∧ (Cond.classLink own h.1.2.2.2 (nm h.2)).before args s = true ∧ s.vm.findClass (nm h.2) = some (kN h.2) ∧ s.vm.assignable cell.cls (kN h.2) = decide (cx = h.2)) → am_hw cx g.pc hs = some r →
      ∃ vm', s.WarmedH vm' ∧ ∀ (Q : Handler → Pre) (E : CtlPost) (d : Bool) (acts : List Action), wp (findHandler.go g a xs) Q E e d acts (((T.setTop g).pushFrame (.throwing a)).setVm vm1) ↔ Q (.found r) d acts (((T.setTop g).pushFrame (.throwing a)).setVm vm')
  | [], xs, vm1, hW, hm, hf, h => by cases h
  | y :: hs, [], vm1, hW, hm, hf, h => by cases hm
  | y :: hs, x :: xs, vm1, hW, hm, hf, h => by
    rw [List.map_cons, List.map_cons] at hm
    have hx : am_he x = y.1 := (List.cons.inj hm).1
    have hm' := (List.cons.inj hm).2
    have e1 : x.startPc = y.1.1 := congrArg Prod.fst hx
    have e2 : x.endPc = y.1.2.1 := congrArg (fun z => z.2.1) hx
    have e3 : x.handlerPc = y.1.2.2.1 := congrArg (fun z => z.2.2.1) hx
    have e4 : x.catchType = y.1.2.2.2 := congrArg (fun z => z.2.2.2) hx
    obtain ⟨h0, hl, hN, hasg⟩ := hf y List.mem_cons_self
    unfold am_hw at h
    by_cases hc : y.1.1 ≤ g.pc ∧ g.pc < y.1.2.1
    · rw [if_pos hc] at h
      rw [← e4] at h0 hl
      obtain ⟨k1, k2, k3⟩ := am_ent_link X hown hl hN hW
      obtain ⟨z, hz⟩ := hcc
      obtain ⟨z', hz', -⟩ := hW.alike.2.2 _ _ hz
      have hcv : covers x g.pc = true := by
        show (decide (x.startPc ≤ g.pc) && decide (g.pc < x.endPc)) = true
        rw [e1, e2, Bool.and_eq_true, decide_eq_true_eq, decide_eq_true_eq]
        exact hc
      have hs := fun (Q : Handler → Pre) (E : CtlPost) (d : Bool) (acts : List Action) => am_seek (Q := Q) (E := E) (e := e) (d := d) (acts := acts) (s := ((T.setTop g).pushFrame (.throwing a)).setVm vm1) (f := g) (t := xs) (k := kN y.2) (cell := cell) hcv h0 k1 hcell hobj ⟨z', hz'⟩ k3
      have hasg1 : (((T.setTop g).pushFrame (.throwing a)).setVm vm1).vm.assignable cell.cls (kN y.2) = decide (cx = y.2) := (hW.alike.assignable _ _).trans hasg
      by_cases hcx : cx = y.2
      · rw [if_pos hcx] at h
        obtain rfl := Option.some.inj h
        refine ⟨_, k2, fun Q E d acts => ?_⟩
        rw [hs, if_pos (by rw [hasg1]; exact decide_eq_true hcx), ← e3]
        exact Iff.rfl
      · rw [if_neg hcx] at h
        obtain ⟨vm', q1, q2⟩ := am_finds X hown hcell hobj ⟨z, hz⟩ _ xs _ k2 hm' (fun h hh => hf h (List.mem_cons_of_mem _ hh)) h
        refine ⟨vm', q1, fun Q E d acts => ?_⟩
        rw [hs, if_neg (by rw [hasg1]; exact fun hh => hcx (of_decide_eq_true hh))]
        exact q2 Q E d acts
    · rw [if_neg hc] at h
      obtain ⟨vm', q1, q2⟩ := am_finds X hown hcell hobj hcc hs xs vm1 hW hm' (fun h hh => hf h (List.mem_cons_of_mem _ hh)) h
      refine ⟨vm', q1, fun Q E d acts => ?_⟩
      rw [am_skip (by rw [e1, e2]; exact hc)]
      exact q2 Q E d acts
end AMY
section AMZ
variable {p : Program} {l : Launch} {e : Env} {R : Room} {s : State} {m : MethodId} {args : Array Value} {below : List Frame} {meth : Method} {c : Code} {Q : State → Prop}
variable {cc : ByteArray} {D : va_G} {cl : List vw_C} {b0 nL c0 s0 : Nat} {pc top sl : Nat} {lv : am_V} {st rest : List Value} {σ : am_H}
theorem am_w_catch {mc ms n index : Nat} {res : am_R} {a b cx hp : Nat} {fs As : List Value} {own C : String} {y : MethodName} {bytes : ByteArray} {maxL : Nat} {ret : Option FieldType} {ws : List Cond} {rm : Room} {Pc : Array Value → State → Prop} {nm : Nat → String} {hs : List ((Nat × Nat × Nat × Nat) × Nat)}
    (hx : p.tables.exec = Jvm.exec) (hb : c.code = cc) (hml : c.maxLocals = nL) (hown : s.vm.findClass own = some m.cls) (htab : c.exceptionTable.toList.map am_he = hs.map Prod.fst) (hres : res.1 = .inr a) (htop : res.2.2.1 = top + mc) (hsl : res.2.2.2 = sl + ms) (hnm : ∀ k r, cl[k]? = some r → r.1 = nm k)
    (hM : am_MT l y ws rm Pc (am_QcT D cl b0 res) mc ms (fun q => b0 ≤ q)) (cw : CallW R s args own C index y bytes maxL ret ws rm mc ms n)
    (hpre : ∀ (ls : Array Slot) (H : Heap) (locs : List Loc) (cells slots : Nat), am_inv D cl b0 s nL c0 s0 lv σ top sl ls H locs cells slots → PreV s H C b Pc As ∧ cells + mc ≤ R.cells ∧ slots + ms ≤ R.slots) (hn : As.length = n) (hst : st = As.reverse ++ .ref b :: rest) (hsum : (rest.map fun w => w.category).sum ≤ 8) (hdg : decode cc pc = .ok (.invokevirtual index, 3))
    (hcell : res.2.1 a = some (.inr (.inl (cx, fs))))
    (hf : ∀ h ∈ hs, h.1.2.2.2 ≠ 0 ∧ (Cond.classLink own h.1.2.2.2 (nm h.2)).before args s = true ∧ (∃ r, cl[h.2]? = some r) ∧ ∀ r, cl[cx]? = some r → ∀ i j, s.vm.findClass (nm cx) = some i → s.vm.findClass (nm h.2) = some j → s.vm.assignable i j = decide (cx = h.2)) (hhw : am_hw cx pc hs = some hp)
    (k : am_W p l e R s m args below meth c Q D cl b0 nL c0 s0 hp lv ([.ref a]) (res.2.1) (res.2.2.1) (res.2.2.2)) : am_W p l e R s m args below meth c Q D cl b0 nL c0 s0 pc lv st σ top sl := by
  intro ls H locs cells slots h T hT X
  obtain ⟨hpv, hfc, hfs⟩ := hpre ls H locs cells slots h
  obtain ⟨x, st₀, t, T', L, h0, X', hL, e1, e2, ⟨⟨a', ha', hx'⟩, hdy, hz, hk⟩, stp⟩ := am_threw X hx hown hM cw hT hpv (rest := rest) (g := F0 m pc ls st) rfl hn (by rw [hml]; exact h.1.1.1) hst (by show 2 * 0 + _ ≤ 8; omega) (by rw [hb]; exact hdg) ⟨hfc, hfs⟩
  rw [hres] at ha'
  cases ha'
  cases hx'
  have hal : s.vm.Alike t.vm := by rw [← e2]; exact X'.warmed.alike
  have hdy2 := hdy
  obtain ⟨hsz, hbt, tys, hK, hcl⟩ := hdy2
  obtain ⟨-, -, r1, hr9, -, cell, q1, q2, q3, -⟩ := hcl a _ hcell
  have hKs := va_K.moved hal.symm hK
  have hfcx : s.vm.findClass (nm cx) = some (D.1 cx) := by
    have := (hKs.1 _ r1 hr9).2.1
    rw [hnm _ r1 hr9] at this
    exact this
  obtain ⟨zc, hzc⟩ : ∃ z, s.vm.classes[cell.cls]? = some z := by
    rw [q2]
    exact Vm.classAt_of_findClass hfcx
  obtain ⟨vm', hW', hfind⟩ := am_finds (g := F0 m pc ls rest) X' (a := a) (cell := cell) (nm := nm) (kN := D.1) (cx := cx) hown (by rw [e1]; exact q1) (fun z hh => by rw [q3] at hh; cases hh) ⟨zc, hzc⟩ hs c.exceptionTable.toList T'.vm X'.warmed htab
    (fun y hy => by
      obtain ⟨f1, f2, ⟨r2, f3⟩, f4⟩ := hf y hy
      have hfy : s.vm.findClass (nm y.2) = some (D.1 y.2) := by
        have := (hKs.1 _ r2 f3).2.1
        rw [hnm _ r2 f3] at this
        exact this
      exact ⟨f1, f2, hfy, by rw [q2]; exact f4 r1 hr9 _ _ hfcx hfy⟩) hhw
  have hS := h.2.2.1
  obtain ⟨hc, hs⟩ := h.2.2.2
  rw [h0] at hz hk
  obtain ⟨t2, a1, b1⟩ := k ls T'.heap (locs ++ L) (cells + mc) (slots + ms) ⟨h.1, by rw [e1]; exact hdy.moved hal.symm, ⟨Nat.le_trans hS.1 (by rw [e1]; exact hz), fun q h1 h2 => by
      rw [e1, hk q (Nat.lt_of_lt_of_le h1 hS.1) h2]
      exact hS.2.1 q h1 h2, fun q hq => by
      rcases List.mem_append.mp hq with z | z
      · exact hS.2.2 q z
      · exact hL q z⟩, by omega, by omega⟩ (T'.setVm vm') rfl (X'.noted hW')
  refine ⟨t2, stp t2 (am_caught (c := c) (g := F0 m pc ls rest) (vm' := vm') X'.here (fun Q E d acts => ?_) a1), b1⟩
  rw [W.findHandler_eq (s := (T'.setTop (F0 m pc ls rest)).pushFrame (.throwing a)) (f := F0 m pc ls rest) X'.method' X'.code]
  exact hfind Q E d acts
/-- a call of a method that has handlers of its own -/
theorem am_runSW {y : MethodName} {bytes : ByteArray} {maxL mc ms n index : Nat} {ret : Option FieldType} {hh : List (Nat × Nat × Nat × Nat)} {ws : List Cond} {rm : Room} {Pc : Array Value → State → Prop} {Qc : Array Value → State → Outcome → State → Prop} {free : Addr → Prop} {own : String} {As : List Value} {g : JFrame} {H : Heap} {locs : List Loc} {cells slots : Nat}
    (hx : p.tables.exec = Jvm.exec) (hb : c.code = cc) (hml : c.maxLocals = nL) (hown : s.vm.findClass own = some m.cls) (hM : Met l y ws rm Pc Qc mc ms free) (hrc : rm.cells = mc) (hrs : rm.slots = ms) (hfr : rm.frames + 1 ≤ R.frames) (hlo : 8 + (maxL + 11) + rm.locals ≤ R.locals)
    (hws : ∀ w ∈ ws, ∀ (a' : Array Value) (U : State), s.WarmedH U.vm → w.before a' U = true) (hcw : Cond.codeWith y bytes maxL ret hh ∈ ws) (hini : (Cond.initialized y.cls).before args s = true) (hy : y.cls ≠ "java/lang/invoke/MethodHandle" ∧ y.cls ≠ "java/lang/invoke/VarHandle") (hlen : ∀ sig, parseMethodDescriptor y.desc = some sig → n = sig.parameters.length)
    (hl : (Cond.methodLink own index y).before args s = true) (hstt : (Cond.static y).before args s = true) (hp : PreS s H Pc As)
    (hg : g.method = m) (hn : As.length = n) (hsize : g.locals.size = nL) (hstack : g.stack = As.reverse ++ rest) (hW : 2 * g.monitorRoom + (rest.map fun v => v.category).sum ≤ 8) (hdg : decode cc g.pc = .ok (.invokestatic index, 3)) (hf : cells + mc ≤ R.cells ∧ slots + ms ≤ R.slots) :
    va_Run p l e R s m args below meth c H locs cells slots mc ms g rest (Qc As.toArray) free := by
  have hK : Back l R p e below s args y 3 8 (PreOf R mc ms Pc) (PostOf Qc mc ms free) := va_backW hM hp.1 hrc hrs hfr hlo hws hcw (fun a' U hU => word_at hU (Or.inl (by first | rfl | simp [Cond.onTables, Cond.keeps, Cond.steady])) hini)
  intro T hT X
  obtain ⟨mk, methM, cM, hnamed, hmethM, -, -, -, -, -, -, hsigM⟩ := Cond.codeWith_spec (hws _ hcw args s (State.WarmedH.refl s))
  have hstatic : methM.isStatic = true := Cond.static_spec hnamed hmethM hstt
  obtain ⟨kP, hkP, -⟩ := className_of_methodNamed hnamed
  have hinitP : kP.init = .initialized := Cond.initialized_spec (findClass_of_methodNamed hnamed) hkP hini
  obtain ⟨vm₁, X₁, hstep₁⟩ := X.invokestatic hx hown hl hnamed hmethM hstatic hkP hinitP hy (g := g) hg (argsL := As) (rest := rest) (hn.trans (hlen _ hsigM)) hstack (by rw [hb]; exact hdg)
  obtain ⟨v, ⟨U', l2, c2, s2⟩, X', ⟨g', mk', t, L, e1, e2, hq, h1, hL, h2, h3⟩, hsteps⟩ := hK m meth c ⟨T.setVm vm₁, locs, cells, slots⟩ { g with stack := rest } (.invokestatic index) mk As.toArray X₁ hg (hsize.trans hml.symm) (by rw [hb]; exact hdg) hW (X₁.named hnamed) ⟨hf.1, hf.2, hp.2 (T.setVm vm₁) hT X₁.warmed⟩
  dsimp only [Pt.U, Pt.locs, Pt.cells, Pt.slots] at X' e1 e2 h1 h2 h3 hsteps
  subst h1; subst h2; subst h3
  exact ⟨v, (T.setVm vm₁).calling g' mk' As.toArray, t, U', L, hT, X', hL, e1, e2, hq, fun target h => hstep₁ _ fun acts => by rw [doInvoke_state]; exact hsteps.trans h⟩
end AMZ
end
section
/-- a call, told by its instruction -/
theorem am_call_inv {mc : Nat → Nat} {d : Nat} {st : List Value} {σ : am_H} {i : Instr} {u v : Nat} {as rest : List Value} (h : am_call mc d st σ i u v = some (as, rest)) :
    ¬ d = 0 ∧ st = as.reverse ++ rest ∧ ((∃ idx, i = .invokestatic idx ∧ as.length = v) ∨ (∃ idx b as', i = .invokespecial idx ∧ as = .ref b :: as' ∧ as'.length = v) ∨
      (∃ idx b as', i = .invokevirtual idx ∧ as = .ref b :: as' ∧ as'.length = v ∧ ((∃ fs, σ b = some (.inr (.inl (mc u, fs)))) ∨ ((∃ av f, σ b = some (.inr (.inr (1, av, f)))) ∧ mc u = 50)))) := by
  have hlen : ∀ (b : Nat) (r : List Value), st.drop v = .ref b :: r → st = (.ref b :: (st.take v).reverse).reverse ++ r ∧ ((st.take v).reverse).length = v := by
    intro b r hd
    constructor
    · rw [List.reverse_cons, List.reverse_reverse, List.append_assoc]
      show st = st.take v ++ (.ref b :: r)
      rw [← hd, List.take_append_drop]
    · rw [List.length_reverse, List.length_take]
      have : v < st.length := by
        have h2 : (st.drop v).length = r.length + 1 := by rw [hd]; rfl
        rw [List.length_drop] at h2
        omega
      omega
  cases i with
  | invokestatic idx =>
    dsimp only [am_call] at h
    split at h
    · cases h
    · next hd =>
      cases h
      refine ⟨fun z => hd (Or.inl z), by rw [List.reverse_reverse, List.take_append_drop], Or.inl ⟨idx, rfl, ?_⟩⟩
      rw [List.length_reverse, List.length_take]
      have : ¬ st.length < v := fun z => hd (Or.inr z)
      omega
  | invokespecial idx =>
    dsimp only [am_call] at h
    split at h
    · cases h
    · next hd =>
      split at h
      · next b r hdr =>
        cases h
        exact ⟨hd, (hlen _ _ hdr).1, Or.inr (Or.inl ⟨idx, b, _, rfl, rfl, (hlen _ _ hdr).2⟩)⟩
      · cases h
  | invokevirtual idx =>
    dsimp only [am_call] at h
    split at h
    · cases h
    · next hd =>
      split at h
      · next b r hdr =>
        split at h
        · next c1 fs hb =>
          split at h
          · next hc =>
            cases h
            subst hc
            exact ⟨hd, (hlen _ _ hdr).1, Or.inr (Or.inr ⟨idx, b, _, rfl, rfl, (hlen _ _ hdr).2, Or.inl ⟨fs, hb⟩⟩)⟩
          · cases h
        · next av f1 hb =>
          split at h
          · next hc =>
            cases h
            exact ⟨hd, (hlen _ _ hdr).1, Or.inr (Or.inr ⟨idx, b, _, rfl, rfl, (hlen _ _ hdr).2, Or.inr ⟨⟨av, f1, hb⟩, hc⟩⟩)⟩
          · cases h
        · cases h
      · cases h
  | _ => exact absurd (show (none : Option (List Value × List Value)) = some (as, rest) from h) (fun z => by cases z)
/-- what an end's instruction answers -/
def am_ro (i : Instr) (ro : Option FieldType) : Prop := match i with
  | .ireturn => ro ≠ none
  | .areturn => ro ≠ none
  | .return_ => ro = none
  | _ => True
/-- what a walk of method y needs of its frame -/
def am_cx (t : am_T) (yn : Nat → MethodName) (bt : Nat → ByteArray) (ws : Nat → List Cond) (GL : State → Prop) (p : Program) (R : Room) (s : State) (m : MethodId) (args : Array Value) (meth : Method) (c : Code) (y d : Nat) (res : am_R) (c0 s0 : Nat) : Prop :=
  p.tables.exec = Jvm.exec ∧ c.code = bt y ∧ c.maxLocals = t.2.1 y ∧ s.vm.findClass (yn y).cls = some m.cls ∧ (∀ w ∈ ws y, w.before args s = true) ∧ GL s ∧ meth.name = (yn y).name ∧ d ≤ R.frames ∧ 64 * d ≤ R.locals ∧ res.2.2.1 ≤ R.cells + c0 ∧ res.2.2.2 ≤ R.slots + s0 ∧ c.exceptionTable.toList.map am_he = (am_hs t y).map Prod.fst ∧ meth.locks = false
/-- a run of n steps that ends is the machine's -/
def am_Wp (t : am_T) (cs : Nat → Value) (D : va_G) (cl : List vw_C) (b0 : Nat) (yn : Nat → MethodName) (bt : Nat → ByteArray) (ws : Nat → List Cond) (GL : State → Prop) (l : Launch) (n : Nat) : Prop :=
  ∀ (d y pc : Nat) (lv : am_V) (st : List Value) (σ : am_H) (top sl : Nat) (res : am_R), am_run t cs n d y pc lv st σ top sl = some res → ∀ (p : Program) (e : Env) (R : Room) (s : State) (m : MethodId) (args : Array Value) (below : List Frame) (meth : Method) (c : Code) (Q : State → Prop) (c0 s0 : Nat), am_cx t yn bt ws GL p R s m args meth c y d res c0 s0 →
    (∀ (pc' : Nat) (lv' : am_V) (st' : List Value) (i : Instr) (u v : Nat), t.1 y pc' = some (i, u, v) → am_end (t.2.2.1 y) st' i = some res.1 → am_W p l e R s m args below meth c Q D cl b0 (t.2.1 y) c0 s0 pc' lv' st' res.2.1 res.2.2.1 res.2.2.2) →
    (∀ (pc' : Nat) (lv' : am_V) (st' : List Value) (σ' : am_H) (top' sl' : Nat) (i : Instr) (u v : Nat), t.1 y pc' = some (i, u, v) → am_kind i u = 3 → 6 ≤ d → (st'.map fun w => w.category).sum ≤ 8 → res = (.inr top', am_up σ' top' (.inr (.inl (u, []))), top' + 1, sl' + t.2.2.2.2.2.1 u) → am_W p l e R s m args below meth c Q D cl b0 (t.2.1 y) c0 s0 pc' lv' st' σ' top' sl') →
    am_W p l e R s m args below meth c Q D cl b0 (t.2.1 y) c0 s0 pc lv st σ top sl
/-- the word on a method's code -/
def am_hc (t : am_T) (yn : Nat → MethodName) (bt : Nat → ByteArray) (rtt : Nat → Option FieldType) (y : Nat) : Cond := match am_hs t y with
  | [] => .code (yn y) (bt y) (t.2.1 y) (rtt y)
  | h :: r => .codeWith (yn y) (bt y) (t.2.1 y) (rtt y) ((h :: r).map Prod.fst)
/-- what is known of the tables -/
def am_good (t : am_T) (cs : Nat → Value) (cl : List vw_C) (b0 : Nat) (yn : Nat → MethodName) (bt : Nat → ByteArray) (rtt : Nat → Option FieldType) (ws : Nat → List Cond) (GL : State → Prop) : Prop :=
  (∀ k r, cl[k]? = some r → r.1 = t.2.2.2.2.2.2.1 k) ∧ am_mv b0 GL ∧
  (∀ y pc x, t.1 y pc = some x → y < 1000 ∧ (y ≠ 0 → ∃ ws', ws y = am_hc t yn bt rtt y :: ws') ∧ plainName (yn y).cls = true ∧ (∀ ty, rtt y = some ty → t.2.2.1 y = ty)) ∧
  (∀ y pc i u v, t.1 y pc = some (i, u, v) → ∀ (s : State) (args : Array Value) (meth : Method), GL s → (∀ w ∈ ws y, w.before args s = true) → meth.name = (yn y).name →
    am_dec (bt y) pc i ∧ am_fact cs t.2.2.2.1 t.2.2.2.2.1 t.2.2.2.2.2.1 t.2.2.2.2.2.2.1 cl b0 s args meth (yn y).cls pc i u v ∧ am_cf t yn rtt ws s args y i u v ∧ am_ro i (rtt y)) ∧
  (∀ y pc i u v, t.1 y pc = some (i, u, v) → am_kind i u = 1 → u ≠ 0) ∧
  (∀ y pc i u v, t.1 y pc = some (i, u, v) → am_kind i u = 3 → ∃ idx T0, i = .new idx ∧ am_hs t y = [] ∧ t.2.2.2.2.2.1 u = 6 ∧ cl[u]? = some (t.2.2.2.2.2.2.1 u, T0, 0) ∧ ∀ (s : State) (args : Array Value), GL s → am_tf s args (bt y) (yn y).cls (t.2.2.2.2.2.2.1 u) pc idx v) ∧
  (∀ y h, h ∈ am_hs t y → h.1.2.2.2 ≠ 0 ∧ (∃ r, cl[h.2]? = some r) ∧ ∀ (s : State) (args : Array Value), GL s → (Cond.classLink (yn y).cls h.1.2.2.2 (t.2.2.2.2.2.2.1 h.2)).before args s = true ∧ ∀ (c : Nat) (r : vw_C), 12 ≤ c → cl[c]? = some r → ∀ i j, s.vm.findClass (t.2.2.2.2.2.2.1 c) = some i → s.vm.findClass (t.2.2.2.2.2.2.1 h.2) = some j → s.vm.assignable i j = decide (c = h.2))
/-- the library's members do what am_bi says -/
def am_bok (t : am_T) (cs : Nat → Value) (D : va_G) (cl : List vw_C) (b0 : Nat) (yn : Nat → MethodName) (bt : Nat → ByteArray) (ws : Nat → List Cond) (GL : State → Prop) (l : Launch) : Prop :=
  ∀ (d y pc : Nat) (lv : am_V) (σ σ1 : am_H) (top sl : Nat) (res : am_R) (i : Instr) (u v : Nat) (as rest : List Value) (r : Option Value), t.1 y pc = some (i, u, v) → 1000 < u → ¬ d = 0 → am_call t.2.2.2.2.2.2.2.1 d (as.reverse ++ rest) σ i u v = some (as, rest) → am_bi u as σ = some (r, σ1) → (rest.map fun w => w.category).sum ≤ 8 →
    ∀ (p : Program) (e : Env) (R : Room) (s : State) (m : MethodId) (args : Array Value) (below : List Frame) (meth : Method) (c : Code) (Q : State → Prop) (c0 s0 : Nat), am_cx t yn bt ws GL p R s m args meth c y d res c0 s0 → top ≤ res.2.2.1 → sl ≤ res.2.2.2 →
    am_W p l e R s m args below meth c Q D cl b0 (t.2.1 y) c0 s0 (pc + 3) lv (r.toList ++ rest) σ1 top sl → am_W p l e R s m args below meth c Q D cl b0 (t.2.1 y) c0 s0 pc lv (as.reverse ++ rest) σ top sl
section AMM
variable {t : am_T} {cs : Nat → Value} {D : va_G} {cl : List vw_C} {b0 : Nat} {yn : Nat → MethodName} {bt : Nat → ByteArray} {rtt : Nat → Option FieldType} {ws : Nat → List Cond} {GL : State → Prop} {l : Launch}
theorem am_w_ends {p : Program} {e : Env} {R : Room} {s : State} {m : MethodId} {args : Array Value} {below : List Frame} {meth : Method} {c : Code} {cc : ByteArray} {nL c0 s0 pc : Nat} {lv : am_V} {st : List Value} {res : am_R} {i : Instr} {ro : Option FieldType} {rt : FieldType} {vr : Option Value}
    (hx : p.tables.exec = Jvm.exec) (hb : c.code = cc) (hr : meth.sig.returnType = ro) (hrt : ∀ ty, ro = some ty → rt = ty) (hro : am_ro i ro) (hlocks : meth.locks = false) (hd : am_dec cc pc i) (he : am_end rt st i = some res.1) (hv : res.1 = .inl vr) :
    am_W p l e R s m args below meth c (MQ below (am_Qc D cl b0 res) args s (res.2.2.1 - c0) (res.2.2.2 - s0) (fun q => b0 ≤ q)) D cl b0 nL c0 s0 pc lv st res.2.1 res.2.2.1 res.2.2.2 := by
  intro ls H locs cells slots h
  obtain ⟨hc, hs⟩ := h.2.2.2
  have e1 : cells = res.2.2.1 - c0 := by omega
  have e2 : slots = res.2.2.2 - s0 := by omega
  rw [← e1, ← e2]
  have hq : ∀ t : State, t.heap = H → s.WarmedH t.vm → am_Qc D cl b0 res args s (.returned vr) t := fun t ht hW => ⟨⟨vr, hv, rfl⟩, by rw [ht]; exact h.2.1.moved hW.alike, h.2.2.1.F ht⟩
  rw [hv] at he
  cases i with
  | ireturn =>
    dsimp only [am_end] at he
    split at he
    · next x =>
      split at he
      · next hf =>
        cases he
        cases ro with
        | none => exact absurd rfl hro
        | some ty =>
          obtain rfl := hrt ty rfl
          exact W.zret hx hb hr (am_fr_ok hf) hq h.2.2.1.2.2 (am_dec1 hd rfl)
      · cases he
    · cases he
  | areturn =>
    dsimp only [am_end] at he
    have hrf : ∀ v : Value, (v = .null ∨ ∃ a, v = .ref a) → am_fr rt v = true → ((∃ n, rt = .object n) ∨ ∃ t, rt = .array t) := by
      intro v hv2 hf
      rcases hv2 with rfl | ⟨a, rfl⟩ <;> cases rt <;> first | exact Or.inl ⟨_, rfl⟩ | exact Or.inr ⟨_, rfl⟩ | cases hf
    split at he
    · next a =>
      split at he
      · next hf =>
        cases he
        cases ro with
        | none => exact absurd rfl hro
        | some ty =>
          obtain rfl := hrt ty rfl
          exact W.aret hx hb hr (hrf _ (Or.inr ⟨a, rfl⟩) hf) (Or.inr ⟨a, rfl⟩) hq h.2.2.1.2.2 (am_dec1 hd rfl)
      · cases he
    · split at he
      · next hf =>
        cases he
        cases ro with
        | none => exact absurd rfl hro
        | some ty =>
          obtain rfl := hrt ty rfl
          exact W.aret hx hb hr (hrf _ (Or.inl rfl) hf) (Or.inl rfl) hq h.2.2.1.2.2 (am_dec1 hd rfl)
      · cases he
    · cases he
  | return_ =>
    dsimp only [am_end] at he
    split at he
    · cases he
      exact W.vret hx hb (hr.trans hro) hq h.2.2.1.2.2 (am_dec1 hd rfl)
    · cases he
  | _ => exact absurd (show (none : Option (Option Value ⊕ Nat)) = some (.inl vr) from he) (fun z => by cases z)
theorem am_end_inl {rt : FieldType} {st : List Value} {i : Instr} {r : Option Value ⊕ Nat} (h : am_end rt st i = some r) : ∃ v, r = .inl v := by
  unfold am_end at h
  split at h
  · split at h
    · split at h
      · cases h; exact ⟨_, rfl⟩
      · cases h
    · cases h
  · split at h
    · split at h
      · cases h; exact ⟨_, rfl⟩
      · cases h
    · split at h
      · cases h; exact ⟨_, rfl⟩
      · cases h
    · cases h
  · split at h
    · cases h; exact ⟨_, rfl⟩
    · cases h
  · cases h
end AMM
end
section
section AMN
variable {t : am_T} {cs : Nat → Value} {D : va_G} {cl : List vw_C} {b0 : Nat} {yn : Nat → MethodName} {bt : Nat → ByteArray} {rtt : Nat → Option FieldType} {ws : Nat → List Cond} {GL : State → Prop} {l : Launch}
theorem am_run_has {n d y pc : Nat} {lv : am_V} {st : List Value} {σ : am_H} {top sl : Nat} {res : am_R} (h : am_run t cs n d y pc lv st σ top sl = some res) : ∃ x, t.1 y pc = some x := by
  cases n with
  | zero => exact absurd (show (none : Option am_R) = some res from h) (fun z => by cases z)
  | succ n =>
    unfold am_run at h
    split at h
    · cases h
    · next hI => exact ⟨_, hI⟩
/-- a run from a method's start, in its frame -/
theorem am_body (hG : am_good t cs cl b0 yn bt rtt ws GL) {n : Nat} (hW : am_Wp t cs D cl b0 yn bt ws GL l n) {d y : Nat} (hy0 : y ≠ 0) {as : List Value} {σ : am_H} {top sl : Nat} {res : am_R} (h : am_run t cs n d y 0 (am_ent (t.2.1 y) as) [] σ top sl = some res) (has : as.length ≤ t.2.1 y) (hc1 : as.all am_c1 = true)
    {p : Program} {e : Env} {s : State} {m : MethodId} {args : Array Value} {below : List Frame} {meth : Method} {c : Code} {s₁ : State} (B : BodyLoose p l (yn y) (headSpec (ws y) { frames := d, cells := res.2.2.1 - top, slots := res.2.2.2 - sl, locals := 64 * d }) (bt y) (t.2.1 y) (rtt y) e s m args below meth c s₁) (hml : c.maxLocals = t.2.1 y) (hP : am_Pc D cl b0 GL as σ top args s) {Q : State → Prop}
    (hend : ∀ (pc' : Nat) (lv' : am_V) (st' : List Value) (i : Instr) (u v : Nat), t.1 y pc' = some (i, u, v) → am_end (t.2.2.1 y) st' i = some res.1 → am_cx t yn bt ws GL p { frames := d, cells := res.2.2.1 - top, slots := res.2.2.2 - sl, locals := 64 * d } s m args meth c y d res top sl → am_W p l e { frames := d, cells := res.2.2.1 - top, slots := res.2.2.2 - sl, locals := 64 * d } s m args below meth c Q D cl b0 (t.2.1 y) top sl pc' lv' st' res.2.1 res.2.2.1 res.2.2.2)
    (hthr : ∀ (pc' : Nat) (lv' : am_V) (st' : List Value) (σ' : am_H) (top' sl' : Nat) (i : Instr) (u v : Nat), t.1 y pc' = some (i, u, v) → am_kind i u = 3 → 6 ≤ d → (st'.map fun w => w.category).sum ≤ 8 → res = (.inr top', am_up σ' top' (.inr (.inl (u, []))), top' + 1, sl' + t.2.2.2.2.2.1 u) → am_cx t yn bt ws GL p { frames := d, cells := res.2.2.1 - top, slots := res.2.2.2 - sl, locals := 64 * d } s m args meth c y d res top sl → am_W p l e { frames := d, cells := res.2.2.1 - top, slots := res.2.2.2 - sl, locals := 64 * d } s m args below meth c Q D cl b0 (t.2.1 y) top sl pc' lv' st' σ' top' sl') :
    W p l e (headSpec (ws y) { frames := d, cells := res.2.2.1 - top, slots := res.2.2.2 - sl, locals := 64 * d }).room s m args below meth c s.heap [] 0 0 Q (entryFrame m args (t.2.1 y)) := by
  obtain ⟨x, hx0⟩ := am_run_has h
  obtain ⟨hlt, hws, hpl, hrt⟩ := hG.2.2.1 y 0 x hx0
  obtain ⟨ws', hws⟩ := hws hy0
  have hm := am_run_mono _ _ _ _ _ _ _ _ _ _ h
  obtain ⟨rfl, hdy, hgl⟩ := hP
  have hts := atoms_spec (ws := ws y) B.pre
  have hl := lv_entry as (n := t.2.1 y) (by rw [am_sl_len as hc1]; exact has)
  have hmn : meth.name = (yn y).name := (name_of_methodNamed B.named B.method).1
  have hmc : meth.code = some c := (Stand.of_body B).code
  have htab : c.exceptionTable.toList.map am_he = (am_hs t y).map Prod.fst := by
    have h0 : (am_hc t yn bt rtt y).before as.toArray s = true := hts _ (by rw [hws]; exact List.mem_cons_self)
    unfold am_hc at h0
    cases he : am_hs t y with
    | nil =>
      rw [he] at h0
      obtain ⟨meth', c', h1, h2, -, -, -, -, h7, -⟩ := Cond.code_spec B.named h0
      cases h1.symm.trans B.method
      cases h2.symm.trans hmc
      have := Array.isEmpty_iff.mp h7
      rw [this]
      rfl
    | cons a r =>
      rw [he] at h0
      obtain ⟨m', meth', c', hn', h1, h2, -, -, h5, -⟩ := Cond.codeWith_spec h0
      cases hn'.symm.trans B.named
      cases h1.symm.trans B.method
      cases h2.symm.trans hmc
      exact h5
  have hcx : am_cx t yn bt ws GL p { frames := d, cells := res.2.2.1 - top, slots := res.2.2.2 - sl, locals := 64 * d } s m as.toArray meth c y d res top sl := ⟨B.exec, B.bytes, hml, findClass_of_methodNamed B.named, hts, hgl, hmn, Nat.le_refl d, Nat.le_refl (64 * d), by show res.2.2.1 ≤ (res.2.2.1 - top) + top; omega, by show res.2.2.2 ≤ (res.2.2.2 - sl) + sl; omega, htab, B.notSynchronized⟩
  rw [lg_entry_eq]
  exact hW d y 0 _ [] σ top sl res h p e _ s m as.toArray below meth c _ top sl hcx (fun pc' lv' st' i u v a1 a2 => hend pc' lv' st' i u v a1 a2 hcx) (fun pc' lv' st' σ' top' sl' i u v a1 a2 a3 a4 a5 => hthr pc' lv' st' σ' top' sl' i u v a1 a2 a3 a4 a5 hcx) _ s.heap [] 0 0 ⟨am_ent_ls has hc1 hl, hdy, va_S.rf, Nat.zero_add _, Nat.zero_add _⟩
/-- a run from a method's start is its contract -/
theorem am_met (hG : am_good t cs cl b0 yn bt rtt ws GL) {n : Nat} (hW : am_Wp t cs D cl b0 yn bt ws GL l n) {d y : Nat} (hy0 : y ≠ 0) {as : List Value} {σ : am_H} {top sl : Nat} {res : am_R} {vr : Option Value} (h : am_run t cs n d y 0 (am_ent (t.2.1 y) as) [] σ top sl = some res) (hv : res.1 = .inl vr) (has : as.length ≤ t.2.1 y) (hc1 : as.all am_c1 = true) :
    Met l (yn y) (ws y) { frames := d, cells := res.2.2.1 - top, slots := res.2.2.2 - sl, locals := 64 * d } (am_Pc D cl b0 GL as σ top) (am_Qc D cl b0 res) (res.2.2.1 - top) (res.2.2.2 - sl) (fun q => b0 ≤ q) := by
  obtain ⟨x, hx0⟩ := am_run_has h
  obtain ⟨hlt, hws, hpl, hrt⟩ := hG.2.2.1 y 0 x hx0
  obtain ⟨ws', hws⟩ := hws hy0
  have key : ∀ p e s m args below meth c s₁, BodyLoose p l (yn y) (headSpec (ws y) { frames := d, cells := res.2.2.1 - top, slots := res.2.2.2 - sl, locals := 64 * d }) (bt y) (t.2.1 y) (rtt y) e s m args below meth c s₁ → c.maxLocals = t.2.1 y → am_Pc D cl b0 GL as σ top args s →
      W p l e (headSpec (ws y) { frames := d, cells := res.2.2.1 - top, slots := res.2.2.2 - sl, locals := 64 * d }).room s m args below meth c s.heap [] 0 0 (MQ below (am_Qc D cl b0 res) args s (res.2.2.1 - top) (res.2.2.2 - sl) (fun q => b0 ≤ q)) (entryFrame m args (t.2.1 y)) := by
    intro p e s m args below meth c s₁ B hml hP
    refine am_body hG hW hy0 h has hc1 B hml hP ?_ ?_
    · intro pc' lv' st' i u v hI he hcx
      obtain ⟨hx, hb, hml, hown, hts, hgl, hmn, hfr, hlo, hr1, hr2, htab, hlk⟩ := hcx
      obtain ⟨hdec, -, -, hro⟩ := hG.2.2.2.1 y pc' i u v hI s args meth hgl hts hmn
      exact am_w_ends B.exec B.bytes B.returns hrt hro B.notSynchronized hdec he hv
    · intro pc' lv' st' σ' top' sl' i u v hI hk hd hs hres hcx
      rw [hres] at hv
      cases hv
  cases he : am_hs t y with
  | nil =>
    unfold am_hc at hws
    rw [he] at hws
    exact Met.ofW (cc := bt y) (maxL := t.2.1 y) (ret := rtt y) hpl hws key
  | cons a r =>
    unfold am_hc at hws
    rw [he] at hws
    exact va_MetW (cc := bt y) (maxL := t.2.1 y) (ret := rtt y) hpl hws key
/-- a run that ends in an exception -/
theorem am_metT (hG : am_good t cs cl b0 yn bt rtt ws GL) (hfl : l.flags = pinnedFlags ++ [noTraceFlag]) {n : Nat} (hW : am_Wp t cs D cl b0 yn bt ws GL l n) {d y : Nat} (hy0 : y ≠ 0) (hh : am_hs t y = []) {as : List Value} {σ : am_H} {top sl : Nat} {res : am_R} {a : Nat} (h : am_run t cs n d y 0 (am_ent (t.2.1 y) as) [] σ top sl = some res) (hv : res.1 = .inr a) (has : as.length ≤ t.2.1 y) (hc1 : as.all am_c1 = true) :
    am_MT l (yn y) (ws y) { frames := d, cells := res.2.2.1 - top, slots := res.2.2.2 - sl, locals := 64 * d } (am_Pc D cl b0 GL as σ top) (am_QcT D cl b0 res) (res.2.2.1 - top) (res.2.2.2 - sl) (fun q => b0 ≤ q) := by
  obtain ⟨x, hx0⟩ := am_run_has h
  obtain ⟨hlt, hws, hpl, hrt⟩ := hG.2.2.1 y 0 x hx0
  obtain ⟨ws', hws⟩ := hws hy0
  unfold am_hc at hws
  rw [hh] at hws
  refine am_MT_ofW (cc := bt y) (maxL := t.2.1 y) (ret := rtt y) hpl hws ?_
  intro p e s m args below meth c s₁ B hml hP
  refine am_body hG hW hy0 h has hc1 B hml hP ?_ ?_
  · intro pc' lv' st' i u v hI he hcx
    obtain ⟨w, hw⟩ := am_end_inl he
    rw [hv] at hw
    cases hw
  · intro pc' lv' st' σ' top' sl' i u v hI hk hd hs hres hcx
    obtain ⟨hx, hb, hml, hown, hts, hgl, hmn, hfr, hlo, hr1, hr2, htab, hlk⟩ := hcx
    obtain ⟨idx, T0, rfl, -, h6, hcu, htf⟩ := hG.2.2.2.2.2.1 y pc' i u v hI hk
    rw [h6] at hres
    rw [hh] at htab
    refine am_w_throw (GL := GL) (cc := bt y) (own := (yn y).cls) (C := t.2.2.2.2.2.2.1 u) (T0 := T0) (u := u) (idx := idx) (ic := v) hx hb hml hfl hlk ?_ hown hG.2.1 hgl (fun s' hs' => htf s' args hs') hcu (by omega) (by omega) hs ?_ ?_ hres
    · rw [Array.isEmpty_iff]
      have h2 := List.map_eq_nil_iff.mp htab
      exact Array.toList_eq_nil_iff.mp h2
    · have e1 : res.2.2.1 = top' + 1 := by rw [hres]
      rw [← e1]
      exact hr1
    · have e1 : res.2.2.2 = sl' + 6 := by rw [hres]
      rw [← e1]
      exact hr2
set_option maxHeartbeats 4000000 in
theorem am_sound (hG : am_good t cs cl b0 yn bt rtt ws GL) (hB : am_bok t cs D cl b0 yn bt ws GL l) (hfl : l.flags = pinnedFlags ++ [noTraceFlag]) (hG50 : t.2.2.2.2.2.2.1 50 = "java/lang/String") : ∀ n : Nat, am_Wp t cs D cl b0 yn bt ws GL l n
  | 0 => by
    intro d y pc lv st σ top sl res h
    exact absurd (show (none : Option am_R) = some res from h) (fun z => by cases z)
  | n + 1 => by
    have ih := am_sound hG hB hfl hG50 n
    intro d y pc lv st σ top sl res h p e R s m args below meth c Q c0 s0 hcx hend hthr
    have hcx' := hcx
    obtain ⟨hx, hb, hml, hown, hts, hgl, hmn, hfr, hlo, hr1, hr2, htab, hlocks⟩ := hcx'
    unfold am_run at h
    split at h
    · cases h
    · next i u v hI =>
      obtain ⟨hdec, hfact, hcf, hro⟩ := hG.2.2.2.1 y pc i u v hI s args meth hgl hts hmn
      split at h
      · split at h
        · cases h
        · next pc' lv' st' σ' top' sl' hs =>
          have hm := am_run_mono _ _ _ _ _ _ _ _ _ _ h
          exact am_step_W hx hb hml hown hG.1 hfr hlo hdec hfact hs (Nat.le_trans hm.1 hr1) (Nat.le_trans hm.2 hr2) (ih _ _ _ _ _ _ _ _ _ h p e R s m args below meth c Q c0 s0 hcx hend hthr)
      · next hk1 =>
        split at h
        · cases h
        · next as rest hcall =>
          obtain ⟨hd0, hst, hkind⟩ := am_call_inv hcall
          subst hst
          split at h
          · next hsum =>
            split at h
            · next hu =>
              split at h
              · cases h
              · next r σ1 hbi =>
                have hm := am_run_mono _ _ _ _ _ _ _ _ _ _ h
                exact hB d y pc lv σ σ1 top sl res i u v as rest r hI hu hd0 hcall hbi hsum p e R s m args below meth c Q c0 s0 hcx hm.1 hm.2 (ih _ _ _ _ _ _ _ _ _ h p e R s m args below meth c Q c0 s0 hcx hend hthr)
            · next hu =>
              split at h
              · next hlc =>
                split at h
                · cases h
                · next r σ1 top1 sl1 hrun =>
                  have hm := am_run_mono _ _ _ _ _ _ _ _ _ _ h
                  have hm1 := am_run_mono _ _ _ _ _ _ _ _ _ _ hrun
                  dsimp only at hm1
                  obtain ⟨x, hx0⟩ := am_run_has hrun
                  obtain ⟨hlt, hws, -, -⟩ := hG.2.2.1 u 0 x hx0
                  have hu0 : u ≠ 0 := hG.2.2.2.2.1 y pc i u v hI hk1
                  obtain ⟨ws', hws⟩ := hws hu0
                  have hM := am_met hG ih hu0 hrun rfl hlc.1 hlc.2
                  dsimp only at hM
                  have hk := ih _ _ _ _ _ _ _ _ _ h p e R s m args below meth c Q c0 s0 hcx hend hthr
                  refine am_w_run (res := (.inl r, σ1, top1, sl1)) (mc := top1 - top) (ms := sl1 - sl) (ar := as.toArray) rfl (by dsimp only; omega) (by dsimp only; omega) ?_ hk
                  intro ls H locs cells slots hinv
                  obtain ⟨hc, hs⟩ := hinv.2.2.2
                  have hS := hinv.2.2.1
                  have hpre : ∀ U : State, U.heap = H → s.WarmedH U.vm → am_Pc D cl b0 GL as σ top as.toArray U := fun U hU hW =>
                    ⟨rfl, by rw [hU]; exact hinv.2.1.moved hW.alike, hG.2.1 s U hW (by rw [hU]; exact hS.1) (fun q h1 h2 => by rw [hU]; exact hS.2.1 q h1 h2) hgl⟩
                  have hf : cells + (top1 - top) ≤ R.cells ∧ slots + (sl1 - sl) ≤ R.slots := by
                    constructor <;> omega
                  have hfr1 : d - 1 + 1 ≤ R.frames := by omega
                  have hlo1 : 64 * (d - 1 + 1) ≤ R.locals := by omega
                  have hmon : 2 * (F0 m pc ls (as.reverse ++ rest)).monitorRoom + (rest.map fun v => v.category).sum ≤ 8 := by
                    show 2 * 0 + _ ≤ 8
                    omega
                  rcases hkind with ⟨idx, rfl, hal⟩ | ⟨idx, b, as', rfl, rfl, hal⟩ | ⟨idx, b, as', rfl, rfl, hal, hbc⟩
                  · obtain ⟨hcc, hlk, hstc, -, hsw⟩ := hcf hlt
                    rcases List.eq_nil_or_concat (am_hs t u) with hnil | hcons
                    case inr =>
                      have hne : am_hs t u ≠ [] := by
                        obtain ⟨L, b, e⟩ := hcons
                        rw [e]
                        simp
                      obtain ⟨h1, h2, h3, h4, h5⟩ := hcc
                      have hl := hsw.resolve_left hne
                      have hwc : Cond.codeWith (yn u) (bt u) (t.2.1 u) (rtt u) ((am_hs t u).map Prod.fst) ∈ ws u := by
                        rw [hws]
                        unfold am_hc
                        cases he : am_hs t u with
                        | nil => exact absurd he hne
                        | cons a r => exact List.mem_cons_self
                      exact am_runSW (nL := t.2.1 y) (cc := bt y) hx hb hml hown hM rfl rfl hfr1 (by show 8 + (t.2.1 u + 11) + 64 * (d - 1) ≤ _; omega) h1 hwc h2 h3 (fun sig hs => by rw [hs] at h4; exact (Option.some.inj h4).symm) hl hstc ⟨am_blind hG.2.1 as σ top, hpre⟩ rfl hal hinv.1.1.1 rfl hmon (am_dec1 hdec rfl) hf
                    unfold am_hc at hws
                    rw [hnil] at hws
                    rcases hlk with hl | ⟨host, hl⟩
                    · exact va_runS ⟨hx, hb, hml, hown, hts⟩ hM ⟨am_callB hws hcc hfr1 hlo1 hl, hstc⟩ ⟨am_blind hG.2.1 as σ top, hpre⟩ rfl hal hinv.1.1.1 rfl hmon (am_dec1 hdec rfl) hf
                    · exact va_runSN ⟨hx, hb, hml, hown, hts⟩ hM ⟨am_callN hws hcc hfr1 hlo1 hl, hstc, trivial⟩ ⟨am_blind hG.2.1 as σ top, hpre⟩ rfl hal hinv.1.1.1 rfl hmon (am_dec1 hdec rfl) hf
                  · obtain ⟨hcc, hlk, hin, hnm, hrn, hnil, -⟩ := hcf hlt
                    unfold am_hc at hws
                    rw [hnil] at hws
                    rw [List.reverse_cons, List.append_assoc] at hmon ⊢
                    rcases hlk with hl | ⟨host, hl⟩
                    · have hcb := am_callB (mc := top1 - top) (ms := sl1 - sl) hws hcc hfr1 hlo1 hl
                      rw [hrn] at hcb
                      exact va_runI (As := as') ⟨hx, hb, hml, hown, hts⟩ hM ⟨hcb, hnm, hin⟩ ⟨am_blind hG.2.1 _ σ top, hpre⟩ rfl hal hinv.1.1.1 rfl hmon (am_dec1 hdec rfl) hf
                    · have hcb := am_callN (mc := top1 - top) (ms := sl1 - sl) hws hcc hfr1 hlo1 hl
                      rw [hrn] at hcb
                      exact va_runIN (As := as') ⟨hx, hb, hml, hown, hts⟩ hM ⟨hcb, hnm, hin⟩ ⟨am_blind hG.2.1 _ σ top, hpre⟩ rfl hal hinv.1.1.1 rfl hmon (am_dec1 hdec rfl) hf
                  · obtain ⟨hcc, hlk, hin, hsel, hcls, hnil, -⟩ := hcf hlt
                    unfold am_hc at hws
                    rw [hnil] at hws
                    rw [List.reverse_cons, List.append_assoc] at hmon ⊢
                    have hrec : ∃ cellB : Cell, H[b]? = some cellB ∧ cellB.vm.isStatics = false ∧ s.vm.findClass (yn u).cls = some cellB.cls := by
                      rcases hbc with ⟨fs, hb1⟩ | ⟨⟨av, f1, hb1⟩, h50⟩
                      · obtain ⟨hsz, hbt, tys, hK, hcl⟩ := hinv.2.1
                        obtain ⟨-, -, r1, hr9, -, cell, q1, q2, q3, -⟩ := hcl b _ hb1
                        refine ⟨cell, q1, by rw [q3]; rfl, ?_⟩
                        have := (hK.1 _ r1 hr9).2.1
                        rw [hG.1 _ r1 hr9, hcls] at this
                        rw [q2]
                        exact this
                      · obtain ⟨hsz, hbt, tys, hK, hcl⟩ := hinv.2.1
                        obtain ⟨-, -, ⟨cell, q1, q2, q3, -⟩, -⟩ := hcl b _ hb1
                        refine ⟨cell, q1, q2, ?_⟩
                        rw [← hcls, h50, hG50]
                        exact q3
                    rcases hlk with hl | ⟨host, hl⟩
                    · exact va_runV (As := as') ⟨hx, hb, hml, hown, hts⟩ hM ⟨am_callB hws hcc hfr1 hlo1 hl, hin, hsel⟩ ⟨am_blind hG.2.1 _ σ top, hrec, hpre⟩ rfl hal hinv.1.1.1 rfl hmon (am_dec1 hdec rfl) hf
                    · exact va_runVN (As := as') ⟨hx, hb, hml, hown, hts⟩ hM ⟨am_callN hws hcc hfr1 hlo1 hl, hin, hsel⟩ ⟨am_blind hG.2.1 _ σ top, hrec, hpre⟩ rfl hal hinv.1.1.1 rfl hmon (am_dec1 hdec rfl) hf
                · next a σ1 top1 sl1 hrun =>
                  split at h
                  · next hp hhd =>
                    have hm := am_run_mono _ _ _ _ _ _ _ _ _ _ h
                    have hm1 := am_run_mono _ _ _ _ _ _ _ _ _ _ hrun
                    dsimp only at hm1
                    obtain ⟨x, hx0⟩ := am_run_has hrun
                    obtain ⟨hlt, hws, -, -⟩ := hG.2.2.1 u 0 x hx0
                    have hu0 : u ≠ 0 := hG.2.2.2.2.1 y pc i u v hI hk1
                    obtain ⟨ws', hws⟩ := hws hu0
                    unfold am_hd at hhd
                    split at hhd
                    · next cx fs hnil hσ =>
                      split at hhd
                      · next h12 =>
                        unfold am_hc at hws
                        rw [hnil] at hws
                        have hne : am_hs t y ≠ [] := by
                          intro hn0
                          rw [hn0] at hhd
                          cases hhd
                        have hM := am_metT hG hfl ih hu0 hnil hrun rfl hlc.1 hlc.2
                        dsimp only at hM
                        have hk := ih _ _ _ _ _ _ _ _ _ h p e R s m args below meth c Q c0 s0 hcx hend hthr
                        have hfr1 : d - 1 + 1 ≤ R.frames := by omega
                        have hlo1 : 64 * (d - 1 + 1) ≤ R.locals := by omega
                        rcases hkind with ⟨idx, rfl, hal⟩ | ⟨idx, b, as', rfl, rfl, hal⟩ | ⟨idx, b, as', rfl, rfl, hal, hbc⟩
                        · obtain ⟨-, -, -, h9, -⟩ := hcf hlt
                          exact absurd h9 hne
                        · obtain ⟨-, -, -, -, -, -, h9⟩ := hcf hlt
                          exact absurd h9 hne
                        · obtain ⟨hcc, hlk, hin, hsel, hcls, -, h9⟩ := hcf hlt
                          have hl := h9.resolve_left hne
                          rw [List.reverse_cons, List.append_assoc]
                          refine am_w_catch (cc := bt y) (own := (yn y).cls) (C := (yn u).cls) (b := b) (As := as') (rest := rest) (nm := t.2.2.2.2.2.2.1) (res := (.inr a, σ1, top1, sl1)) (mc := top1 - top) (ms := sl1 - sl) (fs := fs) hx hb hml hown htab rfl (by dsimp only; omega) (by dsimp only; omega) hG.1 hM ⟨am_callB hws hcc hfr1 hlo1 hl, hin, hsel⟩ ?_ hal rfl hsum (am_dec1 hdec rfl) hσ ?_ hhd hk
                          · intro ls H locs cells slots hinv
                            obtain ⟨hc, hs⟩ := hinv.2.2.2
                            have hS := hinv.2.2.1
                            have hpre : ∀ U : State, U.heap = H → s.WarmedH U.vm → am_Pc D cl b0 GL (.ref b :: as') σ top (Value.ref b :: as').toArray U := fun U hU hW =>
                              ⟨rfl, by rw [hU]; exact hinv.2.1.moved hW.alike, hG.2.1 s U hW (by rw [hU]; exact hS.1) (fun q h1 h2 => by rw [hU]; exact hS.2.1 q h1 h2) hgl⟩
                            have hrec : ∃ cellB : Cell, H[b]? = some cellB ∧ cellB.vm.isStatics = false ∧ s.vm.findClass (yn u).cls = some cellB.cls := by
                              rcases hbc with ⟨fs, hb1⟩ | ⟨⟨av, f1, hb1⟩, h50⟩
                              · obtain ⟨hsz, hbt, tys, hK, hcl⟩ := hinv.2.1
                                obtain ⟨-, -, r1, hr9, -, cell, q1, q2, q3, -⟩ := hcl b _ hb1
                                refine ⟨cell, q1, by rw [q3]; rfl, ?_⟩
                                have := (hK.1 _ r1 hr9).2.1
                                rw [hG.1 _ r1 hr9, hcls] at this
                                rw [q2]
                                exact this
                              · obtain ⟨hsz, hbt, tys, hK, hcl⟩ := hinv.2.1
                                obtain ⟨-, -, ⟨cell, q1, q2, q3, -⟩, -⟩ := hcl b _ hb1
                                refine ⟨cell, q1, q2, ?_⟩
                                rw [← hcls, h50, hG50]
                                exact q3
                            exact ⟨⟨am_blind hG.2.1 _ σ top, hrec, hpre⟩, by omega, by omega⟩
                          · intro h' hh'
                            obtain ⟨g1, g2, g3⟩ := hG.2.2.2.2.2.2 y h' hh'
                            obtain ⟨g4, g5⟩ := g3 s args hgl
                            exact ⟨g1, g4, g2, fun r hr => g5 cx r h12 hr⟩
                      · cases hhd
                    · cases hhd
                  · cases h
              · cases h
          · cases h
      · next hk3 =>
        split at h
        · next hd6 =>
          cases h
          exact hthr pc lv st σ top sl i u v hI hk3 hd6.1 hd6.2 rfl
        · cases h
      · split at h
        · cases h
        · next r he =>
          cases h
          exact hend pc lv st i u v hI he
end AMN
end
section
section AMB
variable {p : Program} {l : Launch} {e : Env} {R : Room} {s : State} {m : MethodId} {args : Array Value} {below : List Frame} {meth : Method} {c : Code} {Q : State → Prop}
variable {cc : ByteArray} {D : va_G} {cl : List vw_C} {b0 nL c0 s0 : Nat} {pc top sl : Nat} {lv : am_V} {st rest : List Value} {σ : am_H}
theorem am_w_min (hx : p.tables.exec = Jvm.exec) (hb : c.code = cc) (hml : c.maxLocals = nL) {own : String} {index : Nat} (hown : s.vm.findClass own = some m.cls) (hl : (Cond.methodLink own index Lib.Math.min.name).before args s = true) (hst : (Cond.static Lib.Math.min.name).before args s = true) (hini : (Cond.initialized "java/lang/Math").before args s = true) (hco : (Cond.code Lib.Math.min.name Lib.Math.min.code 2 (some .int)).before args s = true)
    (hd : decode cc pc = .ok (.invokestatic index, 3)) (hfr : 1 ≤ R.frames) (hw : (rest.map fun v => v.category).sum ≤ 8) (hlo : 64 ≤ R.locals) (hr1 : top ≤ R.cells + c0) (hr2 : sl ≤ R.slots + s0) {x y : Int32} (k : am_W p l e R s m args below meth c Q D cl b0 nL c0 s0 (pc + 3) lv (.int (if y < x then y else x) :: rest) σ top sl) : am_W p l e R s m args below meth c Q D cl b0 nL c0 s0 pc lv (.int y :: .int x :: rest) σ top sl := by
  intro ls H locs cells slots h
  obtain ⟨hc, hs⟩ := h.2.2.2
  exact va_mmin hx hb (by rw [hml]; exact h.1.1.1.symm) hown hl hst hini hco hfr (by omega) (by omega) (by omega) hd (k ls H locs cells slots h)
theorem am_w_copy (hx : p.tables.exec = Jvm.exec) (hb : c.code = cc) (hml : c.maxLocals = nL) {own : String} {index : Nat} (hown : s.vm.findClass own = some m.cls) (hl : (Cond.methodLink own index arraycopyName).before args s = true) (hnat : (Cond.native arraycopyName).before args s = true) (hst : (Cond.static arraycopyName).before args s = true) (hini : (Cond.initialized "java/lang/System").before args s = true)
    (hd : decode cc pc = .ok (.invokestatic index, 3)) (hfr : 1 ≤ R.frames) (hw : (rest.map fun v => v.category).sum ≤ 8) (hlo : 8 + (nativeFrameWords "java/lang/System" "arraycopy" 5 + 11) ≤ R.locals) {a b n0 n1 : Nat} {f g : Nat → Int32} {sp dp n : Int32} (ha : σ a = some (.inl (.char, n0, .inl f))) (hbv : σ b = some (.inl (.char, n1, .inl g)))
    (h1 : ¬ sp < 0) (h2 : ¬ dp < 0) (h3 : ¬ n < 0) (h4 : sp.toNatClampNeg + n.toNatClampNeg ≤ n0) (h5 : dp.toNatClampNeg + n.toNatClampNeg ≤ n1)
    (k : am_W p l e R s m args below meth c Q D cl b0 nL c0 s0 (pc + 3) lv rest (am_up σ b (.inl (.char, n1, .inl (va_cpy f g sp.toNatClampNeg dp.toNatClampNeg n.toNatClampNeg)))) top sl) : am_W p l e R s m args below meth c Q D cl b0 nL c0 s0 pc lv (.int n :: .int dp :: .ref b :: .int sp :: .ref a :: rest) σ top sl := by
  have nn : ∀ z : Int32, ¬ z < 0 → z.toInt = (z.toNatClampNeg : Int) := by
    intro z hz
    have hz0 : (0 : Int) ≤ z.toInt := by
      have := Int32.not_lt.mp hz
      simpa using Int32.le_iff_toInt_le.mp this
    show z.toInt = ((z.toInt.toNat : Nat) : Int)
    omega
  intro ls H locs cells slots h T hT X
  obtain ⟨hsz, hbt, tys, hK, hcl⟩ := h.2.1
  obtain ⟨hlta, hb0a, hfta, cA, hina, hHa⟩ := hcl a _ ha
  obtain ⟨hltb, hb0b, hftb, cB, hinb, hHb⟩ := hcl b _ hbv
  obtain ⟨ta, hta⟩ := List.getElem?_of_mem hina
  obtain ⟨tb, htb⟩ := List.getElem?_of_mem hinb
  obtain ⟨-, k0, hk0, cm0, hkk0⟩ := (hK.2 ta _ hta).1 n0 (fun j => .int (f j))
  obtain ⟨-, k1, hk1, cm1, hkk1⟩ := (hK.2 tb _ htb).1 n1 (fun j => .int (g j))
  obtain ⟨vm', X', step⟩ := X.arraycopy hx hown hl hnat hst hini (src := a) (dst := b) (cs := vp_cell cA (n0, .inl f)) (cd := vp_cell cB (n1, .inl g)) (srcPos := sp) (destPos := dp) (n := n) (by rw [hT]; exact hHa) (by rw [hT]; exact hHb)
    (fun _ z => by cases z) (fun _ z => by cases z) (fun z => by cases z) (fun z => by cases z) hk0 hk1 hkk0 hkk1 (by simp [refKind]) h1 h2 h3
    (by rw [nn sp h1, nn n h3]; show ¬ _ > ((arrV cA n0 (fun j => .int (f j))).slots.size : Int); rw [arrV_size]; omega)
    (by rw [nn dp h2, nn n h3]; show ¬ _ > ((arrV cB n1 (fun j => .int (g j))).slots.size : Int); rw [arrV_size]; omega)
    (fun vm₁ _ i hi => by
      have e0 : (vp_cell cA (n0, .inl f)).slots.getD (sp.toNatClampNeg + i) .null = .int (f (sp.toNatClampNeg + i)) := by
        show (arrV cA n0 (fun j => .int (f j))).slots.getD _ _ = _
        rw [Array.getD_eq_getD_getElem?, arrV_read _ _ (by omega)]
        rfl
      refine ⟨?_, ?_⟩
      · rw [e0]
        exact hfta _
      · rw [e0]
        exact trivial)
    (g := F0 m pc ls (.int n :: .int dp :: .ref b :: .int sp :: .ref a :: rest)) rfl (by rw [hml]; exact h.1.1.1) (rest := rest) rfl (by rw [hb]; exact hd) hfr (by show 2 * 0 + _ + _ ≤ _; omega)
  have e1 : copied (vp_cell cA (n0, .inl f)) (vp_cell cB (n1, .inl g)) sp dp n = vp_cell cB (n1, .inl (va_cpy f g sp.toNatClampNeg dp.toNatClampNeg n.toNatClampNeg)) := va_copied (fun z => .int z) cA cB f g h4
  rw [e1] at X' step
  have hsl : b < H.size := by rw [hsz]; exact hltb
  have hheap : ((T.setVm vm').setCell b (vp_cell cB (n1, .inl (va_cpy f g sp.toNatClampNeg dp.toNatClampNeg n.toNatClampNeg)))).heap = H.setIfInBounds b (vp_cell cB (n1, .inl (va_cpy f g sp.toNatClampNeg dp.toNatClampNeg n.toNatClampNeg))) := by rw [← hT]; rfl
  have oq : ∀ q : Nat, q ≠ b → (H.setIfInBounds b (vp_cell cB (n1, .inl (va_cpy f g sp.toNatClampNeg dp.toNatClampNeg n.toNatClampNeg))))[q]? = H[q]? := fun q hq => by simp [Array.getElem?_setIfInBounds, Ne.symm hq]
  have hz : (H.setIfInBounds b (vp_cell cB (n1, .inl (va_cpy f g sp.toNatClampNeg dp.toNatClampNeg n.toNatClampNeg)))).size = H.size := by simp
  have hfit : am_fitA .char (n1, .inl (va_cpy f g sp.toNatClampNeg dp.toNatClampNeg n.toNatClampNeg)) := by
    intro j
    show fits .char (.int (va_cpy f g sp.toNatClampNeg dp.toNatClampNeg n.toNatClampNeg j)) = true
    unfold va_cpy
    split
    · exact hfta _
    · exact hftb _
  have hS := h.2.2.1
  obtain ⟨t2, a1, b1⟩ := k ls _ _ cells slots ⟨h.1, am_dy_upd hsz hbt hK hcl hz oq hltb hb0b ⟨hb0b, hfit, cB, hinb, by simp [Array.getElem?_setIfInBounds, hsl]⟩, ⟨by rw [hz]; exact hS.1, fun q g1 g2 => by
      rw [oq q (fun z => g2 (by rw [z]; exact hb0b))]
      exact hS.2.1 q g1 g2, fun q hq => by
      rcases List.mem_append.mp hq with z | z
      · exact hS.2.2 q z
      · obtain ⟨y, -, hy⟩ := List.mem_map.mp z
        rw [← hy]
        exact hb0b⟩, h.2.2.2⟩ _ hheap X'
  exact ⟨t2, step t2 a1, b1⟩
end AMB
end
section
/-- more fuel, the same end -/
theorem am_run_more {t : am_T} {cs : Nat → Value} : ∀ (n d y pc : Nat) (lv : am_V) (st : List Value) (σ : am_H) (top sl : Nat) (res : am_R), am_run t cs n d y pc lv st σ top sl = some res → ∀ k, am_run t cs (n + k) d y pc lv st σ top sl = some res
  | 0, d, y, pc, lv, st, σ, top, sl, res, h, k => absurd (show (none : Option am_R) = some res from h) (fun z => by cases z)
  | n + 1, d, y, pc, lv, st, σ, top, sl, res, h, k => by
    rw [show n + 1 + k = (n + k) + 1 by omega]
    unfold am_run at h ⊢
    cases hI : t.1 y pc with
    | none => rw [hI] at h; cases h
    | some x =>
      obtain ⟨i, u, v⟩ := x
      rw [hI] at h
      dsimp only at h ⊢
      split at h
      · next hk =>
        try rw [hk]
        try dsimp only
        split at h
        · cases h
        · next pc' lv' st' σ' top' sl' hs =>
          try rw [hs]
          exact am_run_more n _ _ _ _ _ _ _ _ _ h k
      · next hk =>
        try rw [hk]
        try dsimp only
        split at h
        · cases h
        · next as rest hc =>
          try rw [hc]
          try dsimp only
          split at h
          · next hsum =>
            try rw [if_pos hsum]
            split at h
            · next hu =>
              try rw [if_pos hu]
              split at h
              · cases h
              · next r σ1 hb =>
                try rw [hb]
                exact am_run_more n _ _ _ _ _ _ _ _ _ h k
            · next hu =>
              try rw [if_neg hu]
              split at h
              · next hl =>
                try rw [if_pos hl]
                split at h
                · cases h
                · next hr =>
                  rw [am_run_more n _ _ _ _ _ _ _ _ _ hr k]
                  exact am_run_more n _ _ _ _ _ _ _ _ _ h k
                · next hr =>
                  rw [am_run_more n _ _ _ _ _ _ _ _ _ hr k]
                  try dsimp only
                  split at h
                  · next hh =>
                    try rw [hh]
                    exact am_run_more n _ _ _ _ _ _ _ _ _ h k
                  · cases h
              · cases h
          · cases h
      · next hk =>
        try rw [hk]
        exact h
      · exact h
/-- the run from here ends so -/
def am_to (t : am_T) (cs : Nat → Value) (d y pc : Nat) (lv : am_V) (st : List Value) (σ : am_H) (top sl : Nat) (res : am_R) : Prop := ∃ n, am_run t cs n d y pc lv st σ top sl = some res
section AMTO
variable {t : am_T} {cs : Nat → Value} {d y pc : Nat} {lv : am_V} {st : List Value} {σ : am_H} {top sl : Nat} {res : am_R} {i : Instr} {u v : Nat}
theorem am_to_n {pc' : Nat} {lv' : am_V} {st' : List Value} {σ' : am_H} {top' sl' : Nat} (hI : t.1 y pc = some (i, u, v)) (hk : am_kind i u = 0) (hs : am_step cs t.2.2.2.1 t.2.2.2.2.1 t.2.2.2.2.2.1 t.2.2.2.2.2.2.1 d pc lv st σ top sl i u v = some (pc', lv', st', σ', top', sl')) (h : am_to t cs d y pc' lv' st' σ' top' sl' res) : am_to t cs d y pc lv st σ top sl res := by
  obtain ⟨n, h⟩ := h
  refine ⟨n + 1, ?_⟩
  unfold am_run
  rw [hI]
  try dsimp only
  rw [hk]
  try dsimp only
  rw [hs]
  exact h
theorem am_to_end {r : Option Value ⊕ Nat} (hI : t.1 y pc = some (i, u, v)) (hk : am_kind i u = 2) (he : am_end (t.2.2.1 y) st i = some r) : am_to t cs d y pc lv st σ top sl (r, σ, top, sl) := by
  refine ⟨1, ?_⟩
  unfold am_run
  rw [hI]
  try dsimp only
  rw [hk]
  try dsimp only
  rw [he]
  rfl
theorem am_to_call {as rest : List Value} {r : Option Value} {σ1 : am_H} {top1 sl1 : Nat} (hI : t.1 y pc = some (i, u, v)) (hk : am_kind i u = 1) (hc : am_call t.2.2.2.2.2.2.2.1 d st σ i u v = some (as, rest)) (hsum : (rest.map fun w => w.category).sum ≤ 8) (hu : ¬ 1000 < u) (hl : as.length ≤ t.2.1 u ∧ as.all am_c1 = true)
    (h1 : am_to t cs (d - 1) u 0 (am_ent (t.2.1 u) as) [] σ top sl (.inl r, σ1, top1, sl1)) (h2 : am_to t cs d y (pc + 3) lv (r.toList ++ rest) σ1 top1 sl1 res) : am_to t cs d y pc lv st σ top sl res := by
  obtain ⟨n1, h1⟩ := h1
  obtain ⟨n2, h2⟩ := h2
  refine ⟨(n1 + n2) + 1, ?_⟩
  unfold am_run
  rw [hI]
  try dsimp only
  rw [hk]
  try dsimp only
  rw [hc]
  try dsimp only
  rw [if_pos hsum, if_neg hu, if_pos hl, am_run_more _ _ _ _ _ _ _ _ _ _ h1 n2]
  try dsimp only
  rw [Nat.add_comm]
  exact am_run_more _ _ _ _ _ _ _ _ _ _ h2 n1
theorem am_to_bi {as rest : List Value} {r : Option Value} {σ1 : am_H} (hI : t.1 y pc = some (i, u, v)) (hk : am_kind i u = 1) (hc : am_call t.2.2.2.2.2.2.2.1 d st σ i u v = some (as, rest)) (hsum : (rest.map fun w => w.category).sum ≤ 8) (hu : 1000 < u)
    (h1 : am_bi u as σ = some (r, σ1)) (h2 : am_to t cs d y (pc + 3) lv (r.toList ++ rest) σ1 top sl res) : am_to t cs d y pc lv st σ top sl res := by
  obtain ⟨n2, h2⟩ := h2
  refine ⟨n2 + 1, ?_⟩
  unfold am_run
  rw [hI]
  try dsimp only
  rw [hk]
  try dsimp only
  rw [hc]
  try dsimp only
  rw [if_pos hsum, if_pos hu, h1]
  exact h2
theorem am_to_throw (hI : t.1 y pc = some (i, u, v)) (hk : am_kind i u = 3) (hd : 6 ≤ d) (hs : (st.map fun w => w.category).sum ≤ 8) : am_to t cs d y pc lv st σ top sl (.inr top, am_up σ top (.inr (.inl (u, []))), top + 1, sl + t.2.2.2.2.2.1 u) := by
  refine ⟨1, ?_⟩
  unfold am_run
  rw [hI]
  try dsimp only
  rw [hk]
  exact if_pos ⟨hd, hs⟩
theorem am_to_catch {as rest : List Value} {a h : Nat} {σ1 : am_H} {top1 sl1 : Nat} (hI : t.1 y pc = some (i, u, v)) (hk : am_kind i u = 1) (hc : am_call t.2.2.2.2.2.2.2.1 d st σ i u v = some (as, rest)) (hsum : (rest.map fun w => w.category).sum ≤ 8) (hu : ¬ 1000 < u) (hl : as.length ≤ t.2.1 u ∧ as.all am_c1 = true)
    (h1 : am_to t cs (d - 1) u 0 (am_ent (t.2.1 u) as) [] σ top sl (.inr a, σ1, top1, sl1)) (hh : am_hd t y u pc σ1 a = some h) (h2 : am_to t cs d y h lv [.ref a] σ1 top1 sl1 res) : am_to t cs d y pc lv st σ top sl res := by
  obtain ⟨n1, h1⟩ := h1
  obtain ⟨n2, h2⟩ := h2
  refine ⟨(n1 + n2) + 1, ?_⟩
  unfold am_run
  rw [hI]
  try dsimp only
  rw [hk]
  try dsimp only
  rw [hc]
  try dsimp only
  rw [if_pos hsum, if_neg hu, if_pos hl, am_run_more _ _ _ _ _ _ _ _ _ _ h1 n2]
  try dsimp only
  rw [hh]
  try dsimp only
  rw [Nat.add_comm]
  exact am_run_more _ _ _ _ _ _ _ _ _ _ h2 n1
end AMTO
/-- n instructions that go on, at once -/
def am_go (t : am_T) (cs : Nat → Value) (d y : Nat) : Nat → am_X → Option am_X
  | 0, x => some x
  | n + 1, x => match t.1 y x.1 with
    | none => none
    | some (i, u, v) => match am_kind i u with
      | 0 => match am_step cs t.2.2.2.1 t.2.2.2.2.1 t.2.2.2.2.2.1 t.2.2.2.2.2.2.1 d x.1 x.2.1 x.2.2.1 x.2.2.2.1 x.2.2.2.2.1 x.2.2.2.2.2 i u v with
        | none => none
        | some x' => am_go t cs d y n x'
      | _ => none
theorem am_to_go {t : am_T} {cs : Nat → Value} {d y : Nat} {res : am_R} : ∀ (n : Nat) (x x' : am_X), am_go t cs d y n x = some x' → am_to t cs d y x'.1 x'.2.1 x'.2.2.1 x'.2.2.2.1 x'.2.2.2.2.1 x'.2.2.2.2.2 res → am_to t cs d y x.1 x.2.1 x.2.2.1 x.2.2.2.1 x.2.2.2.2.1 x.2.2.2.2.2 res
  | 0, x, x', h, h2 => by
    obtain rfl := Option.some.inj (show some x = some x' from h)
    exact h2
  | n + 1, x, x', h, h2 => by
    unfold am_go at h
    split at h
    · cases h
    · next i u v hI =>
      split at h
      · next hk =>
        split at h
        · cases h
        · next x1 hs => exact am_to_n hI hk hs (am_to_go n x1 x' h h2)
      · cases h
theorem am_up_self (σ : am_H) (a : Nat) (e : am_C) : am_up σ a e a = some e := if_pos rfl
theorem am_up_ne (σ : am_H) {a q : Nat} (e : am_C) (h : ¬ q = a) : am_up σ a e q = σ q := if_neg h
end
section
def cd_T0 : u_T := fun k => match k with
  | 0 => ("ChainDesk", "buffer", "LChainDesk$Buffer;", true)
  | 1 => ("ChainDesk", "catalog", "LChainDesk$Catalog;", true)
  | 2 => ("ChainDesk", "scope", "LChainDesk$Scope;", true)
  | 3 => ("ChainDesk", "declarations", "LChainDesk$DeclarationReader;", true)
  | 4 => ("ChainDesk", "expressions", "LChainDesk$ExpressionReader;", true)
  | 5 => ("ChainDesk", "completer", "LChainDesk$Completer;", true)
  | _ => ("ChainDesk", "latestCost", "I", false)
def cd_T1 : u_T := fun k => match k with
  | 0 => ("ChainDesk$Buffer", "letters", "[C", true)
  | 1 => ("ChainDesk$Buffer", "length", "I", false)
  | _ => ("ChainDesk$Buffer", "position", "I", false)
def cd_T2 : u_T := fun k => match k with
  | 0 => ("ChainDesk$Catalog", "declarations", "[LChainDesk$Declaration;", true)
  | 1 => ("ChainDesk$Catalog", "fitted", "[I", true)
  | _ => ("ChainDesk$Catalog", "place", "I", false)
def cd_T3 : u_T := fun k => match k with
  | 0 => ("ChainDesk$Completer", "catalog", "LChainDesk$Catalog;", true)
  | 1 => ("ChainDesk$Completer", "scope", "LChainDesk$Scope;", true)
  | 2 => ("ChainDesk$Completer", "shelves", "[LChainDesk$Shelf;", true)
  | 3 => ("ChainDesk$Completer", "proposals", "[LChainDesk$Phrase;", true)
  | 4 => ("ChainDesk$Completer", "draft", "LChainDesk$Phrase;", true)
  | 5 => ("ChainDesk$Completer", "target", "LChainDesk$Shelf;", false)
  | _ => ("ChainDesk$Completer", "proposalCount", "I", false)
def cd_T4 : u_T := fun k => match k with
  | 0 => ("ChainDesk$Declaration", "number", "I", true)
  | 1 => ("ChainDesk$Declaration", "parent", "LChainDesk$Declaration;", true)
  | 2 => ("ChainDesk$Declaration", "rows", "[LChainDesk$Member;", true)
  | _ => ("ChainDesk$Declaration", "count", "I", false)
def cd_T5 : u_T := fun k => match k with
  | 0 => ("ChainDesk$DeclarationReader", "text", "LChainDesk$Buffer;", true)
  | _ => ("ChainDesk$DeclarationReader", "catalog", "LChainDesk$Catalog;", true)
def cd_T6 : u_T := fun k => match k with
  | 0 => ("ChainDesk$ExpressionReader", "text", "LChainDesk$Buffer;", true)
  | 1 => ("ChainDesk$ExpressionReader", "catalog", "LChainDesk$Catalog;", true)
  | 2 => ("ChainDesk$ExpressionReader", "scope", "LChainDesk$Scope;", true)
  | _ => ("ChainDesk$ExpressionReader", "cost", "I", false)
def cd_T7 : u_T := fun k => match k with
  | 0 => ("ChainDesk$Member", "kind", "LChainDesk$Kind;", true)
  | 1 => ("ChainDesk$Member", "isPrivate", "Z", true)
  | 2 => ("ChainDesk$Member", "isStatic", "Z", true)
  | 3 => ("ChainDesk$Member", "name", "I", true)
  | 4 => ("ChainDesk$Member", "parameters", "[I", true)
  | 5 => ("ChainDesk$Member", "count", "I", false)
  | _ => ("ChainDesk$Member", "type", "I", false)
def cd_T8 : u_T := fun k => match k with
  | 0 => ("ChainDesk$Phrase", "letters", "[C", true)
  | 1 => ("ChainDesk$Phrase", "length", "I", false)
  | 2 => ("ChainDesk$Phrase", "type", "I", false)
  | _ => ("ChainDesk$Phrase", "cost", "I", false)
def cd_T9 : u_T := fun k => match k with
  | 0 => ("ChainDesk$Scope", "names", "[I", true)
  | 1 => ("ChainDesk$Scope", "types", "[I", true)
  | _ => ("ChainDesk$Scope", "count", "I", false)
def cd_T10 : u_T := fun k => match k with
  | 0 => ("ChainDesk$Shelf", "rows", "[LChainDesk$Phrase;", true)
  | _ => ("ChainDesk$Shelf", "count", "I", false)
def cd_T11 : u_T := fun k => match k with
  | 0 => ("ChainDeskModel", "thrown", "I", false)
  | 1 => ("ChainDeskModel", "buffer", "[C", true)
  | 2 => ("ChainDeskModel", "filled", "I", false)
  | 3 => ("ChainDeskModel", "at", "I", false)
  | 4 => ("ChainDeskModel", "good", "Z", false)
  | 5 => ("ChainDeskModel", "there", "[Z", true)
  | 6 => ("ChainDeskModel", "above", "[I", true)
  | 7 => ("ChainDeskModel", "many", "[I", true)
  | 8 => ("ChainDeskModel", "kind", "[I", true)
  | 9 => ("ChainDeskModel", "common", "[Z", true)
  | 10 => ("ChainDeskModel", "secret", "[Z", true)
  | 11 => ("ChainDeskModel", "name", "[I", true)
  | 12 => ("ChainDeskModel", "type", "[I", true)
  | 13 => ("ChainDeskModel", "wants", "[I", true)
  | 14 => ("ChainDeskModel", "want", "[I", true)
  | 15 => ("ChainDeskModel", "scope", "I", false)
  | 16 => ("ChainDeskModel", "varName", "[I", true)
  | 17 => ("ChainDeskModel", "varType", "[I", true)
  | 18 => ("ChainDeskModel", "place", "I", false)
  | 19 => ("ChainDeskModel", "kept", "I", false)
  | 20 => ("ChainDeskModel", "cost", "[I", true)
  | 21 => ("ChainDeskModel", "typeOf", "[I", true)
  | 22 => ("ChainDeskModel", "size", "[I", true)
  | 23 => ("ChainDeskModel", "text", "[C", true)
  | 24 => ("ChainDeskModel", "firstOfCost", "I", false)
  | 25 => ("ChainDeskModel", "made", "I", false)
  | 26 => ("ChainDeskModel", "making", "[C", true)
  | 27 => ("ChainDeskModel", "proposals", "I", false)
  | 28 => ("ChainDeskModel", "proposalCost", "[I", true)
  | 29 => ("ChainDeskModel", "proposalType", "[I", true)
  | 30 => ("ChainDeskModel", "proposalSize", "[I", true)
  | 31 => ("ChainDeskModel", "proposalText", "[C", true)
  | 32 => ("ChainDeskModel", "checked", "I", false)
  | 33 => ("ChainDeskModel", "open", "I", false)
  | 34 => ("ChainDeskModel", "calling", "[I", true)
  | 35 => ("ChainDeskModel", "argument", "[I", true)
  | 36 => ("ChainDeskModel", "counted", "I", false)
  | 37 => ("ChainDeskModel", "superclass", "I", false)
  | _ => ("ChainDeskModel", "members", "I", false)
def cd_cl : List vw_C := [("ChainDesk", cd_T0, 7), ("ChainDesk$Buffer", cd_T1, 3), ("ChainDesk$Catalog", cd_T2, 3), ("ChainDesk$Completer", cd_T3, 7), ("ChainDesk$Declaration", cd_T4, 4), ("ChainDesk$DeclarationReader", cd_T5, 2), ("ChainDesk$ExpressionReader", cd_T6, 4), ("ChainDesk$Member", cd_T7, 7), ("ChainDesk$Phrase", cd_T8, 4), ("ChainDesk$Scope", cd_T9, 3), ("ChainDesk$Shelf", cd_T10, 2), ("ChainDeskModel", cd_T11, 39), ("java/lang/IllegalArgumentException", cd_T0, 0), ("java/lang/IllegalStateException", cd_T0, 0)]
def cd_ftL : List (List FieldType) := [[.object "ChainDesk$Buffer", .object "ChainDesk$Catalog", .object "ChainDesk$Scope", .object "ChainDesk$DeclarationReader", .object "ChainDesk$ExpressionReader", .object "ChainDesk$Completer", .int], [.array .char, .int, .int], [.array (.object "ChainDesk$Declaration"), .array .int, .int], [.object "ChainDesk$Catalog", .object "ChainDesk$Scope", .array (.object "ChainDesk$Shelf"), .array (.object "ChainDesk$Phrase"), .object "ChainDesk$Phrase", .object "ChainDesk$Shelf", .int], [.int, .object "ChainDesk$Declaration", .array (.object "ChainDesk$Member"), .int], [.object "ChainDesk$Buffer", .object "ChainDesk$Catalog"], [.object "ChainDesk$Buffer", .object "ChainDesk$Catalog", .object "ChainDesk$Scope", .int], [.object "ChainDesk$Kind", .boolean, .boolean, .int, .array .int, .int, .int], [.array .char, .int, .int, .int], [.array .int, .array .int, .int], [.array (.object "ChainDesk$Phrase"), .int], [.int, .array .char, .int, .int, .boolean, .array .boolean, .array .int, .array .int, .array .int, .array .boolean, .array .boolean, .array .int, .array .int, .array .int, .array .int, .int, .array .int, .array .int, .int, .int, .array .int, .array .int, .array .int, .array .char, .int, .int, .array .char, .int, .array .int, .array .int, .array .int, .array .char, .int, .int, .array .int, .array .int, .int, .int, .int], [], []]
def cd_ft (c k : Nat) : FieldType := (cd_ftL.getD c []).getD k .int
def cd_dfL : List (List Value) := [[.null, .null, .null, .null, .null, .null, .int 0], [.null, .int 0, .int 0], [.null, .null, .int 0], [.null, .null, .null, .null, .null, .null, .int 0], [.int 0, .null, .null, .int 0], [.null, .null], [.null, .null, .null, .int 0], [.null, .int 0, .int 0, .int 0, .null, .int 0, .int 0], [.null, .int 0, .int 0, .int 0], [.null, .null, .int 0], [.null, .int 0], [.int 0, .null, .int 0, .int 0, .int 0, .null, .null, .null, .null, .null, .null, .null, .null, .null, .null, .int 0, .null, .null, .int 0, .int 0, .null, .null, .null, .null, .int 0, .int 0, .null, .int 0, .null, .null, .null, .null, .int 0, .int 0, .null, .null, .int 0, .int 0, .int 0], [], []]
def cd_df (c : Nat) : List Value := cd_dfL.getD c []
def cd_nsL : List Nat := [7, 3, 3, 7, 4, 2, 4, 7, 4, 3, 2, 39, 6, 6]
def cd_ns (c : Nat) : Nat := cd_nsL.getD c 0
def cd_nmL : List String := ["ChainDesk", "ChainDesk$Buffer", "ChainDesk$Catalog", "ChainDesk$Completer", "ChainDesk$Declaration", "ChainDesk$DeclarationReader", "ChainDesk$ExpressionReader", "ChainDesk$Member", "ChainDesk$Phrase", "ChainDesk$Scope", "ChainDesk$Shelf", "ChainDeskModel", "java/lang/IllegalArgumentException", "java/lang/IllegalStateException"]
def cd_nm (c : Nat) : String := if c = 50 then "java/lang/String" else cd_nmL.getD c ""
/-- where a class's words on its fields stand -/
def cd_lpL : List (List Nat) := [[262, 264, 266, 268, 270, 272, 274], [102, 104, 106], [122, 124, 126], [240, 242, 244, 246, 248, 250, 252], [414, 416, 418, 420], [158, 160], [174, 176, 178, 180], [522, 524, 526, 528, 530, 532, 534], [208, 210, 212, 214], [143, 145, 147], [228, 230], [907, 909, 911, 913, 915, 917, 919, 921, 923, 925, 927, 929, 931, 933, 935, 937, 939, 941, 943, 945, 947, 949, 951, 953, 955, 957, 959, 961, 963, 965, 967, 969, 971, 973, 975, 977, 979, 981, 983], [], []]
def cd_ynL : List MethodName := [⟨"ChainDeskLaw", "law", "([I)Z"⟩,
  ⟨"ChainDesk", "<init>", "()V"⟩,
  ⟨"ChainDesk$Buffer", "<init>", "()V"⟩,
  ⟨"ChainDesk$Catalog", "<init>", "()V"⟩,
  ⟨"ChainDesk$Scope", "<init>", "()V"⟩,
  ⟨"ChainDesk$DeclarationReader", "<init>", "(LChainDesk$Buffer;LChainDesk$Catalog;)V"⟩,
  ⟨"ChainDesk$ExpressionReader", "<init>", "(LChainDesk$Buffer;LChainDesk$Catalog;LChainDesk$Scope;)V"⟩,
  ⟨"ChainDesk$Completer", "<init>", "(LChainDesk$Catalog;LChainDesk$Scope;)V"⟩,
  ⟨"ChainDesk$Phrase", "<init>", "()V"⟩,
  ⟨"ChainDesk$Shelf", "<init>", "()V"⟩,
  ⟨"ChainDesk", "put", "(II)Z"⟩,
  ⟨"ChainDesk$Buffer", "append", "(II)Z"⟩,
  ⟨"ChainDesk", "forget", "()V"⟩,
  ⟨"ChainDesk", "checkedCost", "()I"⟩,
  ⟨"ChainDesk", "fits", "(II)Z"⟩,
  ⟨"ChainDesk", "isType", "(I)Z"⟩,
  ⟨"ChainDesk$Catalog", "isFitting", "(II)Z"⟩,
  ⟨"ChainDesk", "proposal", "(II)I"⟩,
  ⟨"ChainDesk$Completer", "proposed", "(I)LChainDesk$Phrase;"⟩,
  ⟨"ChainDesk", "letter", "(II)I"⟩,
  ⟨"ChainDesk$Phrase", "letterAt", "(I)I"⟩,
  ⟨"ChainDesk", "members", "(I)I"⟩,
  ⟨"ChainDesk$Catalog", "declared", "(I)LChainDesk$Declaration;"⟩,
  ⟨"ChainDesk", "seen", "(II)I"⟩,
  ⟨"ChainDesk", "isClass", "(I)Z"⟩,
  ⟨"ChainDesk$Catalog", "countSeen", "(ILChainDesk$Kind;)I"⟩,
  ⟨"ChainDesk$Catalog", "isSeen", "(ILChainDesk$Member;)Z"⟩,
  ⟨"ChainDesk$Catalog", "findSeen", "(ILChainDesk$Kind;I)LChainDesk$Member;"⟩,
  ⟨"ChainDesk$Declaration", "find", "(LChainDesk$Kind;I)LChainDesk$Member;"⟩,
  ⟨"ChainDesk$Member", "isNamed", "(LChainDesk$Kind;I)Z"⟩,
  ⟨"ChainDesk$Catalog", "isUsable", "(LChainDesk$Declaration;LChainDesk$Member;)Z"⟩,
  ⟨"ChainDesk", "declare", "()I"⟩,
  ⟨"ChainDesk$DeclarationReader", "readHead", "()LChainDesk$Declaration;"⟩,
  ⟨"ChainDesk$Buffer", "takeClass", "()I"⟩,
  ⟨"ChainDesk$Buffer", "take", "(C)Z"⟩,
  ⟨"ChainDesk$Buffer", "isAt", "(C)Z"⟩,
  ⟨"ChainDesk$Declaration", "<init>", "(ILChainDesk$Declaration;)V"⟩,
  ⟨"ChainDesk$DeclarationReader", "readMembers", "(LChainDesk$Declaration;)Z"⟩,
  ⟨"ChainDesk$DeclarationReader", "readMember", "(LChainDesk$Declaration;)Z"⟩,
  ⟨"ChainDesk$Buffer", "takeText", "(Ljava/lang/String;)Z"⟩,
  ⟨"java/lang/String", "length", "()I"⟩,
  ⟨"java/lang/String", "coder", "()B"⟩,
  ⟨"java/lang/String", "charAt", "(I)C"⟩,
  ⟨"java/lang/String", "isLatin1", "()Z"⟩,
  ⟨"java/lang/StringLatin1", "charAt", "([BI)C"⟩,
  ⟨"java/lang/String", "checkIndex", "(II)V"⟩,
  ⟨"jdk/internal/util/Preconditions", "checkIndex", "(IILjava/util/function/BiFunction;)I"⟩,
  ⟨"ChainDesk$DeclarationReader", "readMaker", "(ZI)LChainDesk$Member;"⟩,
  ⟨"ChainDesk$Member", "<init>", "(LChainDesk$Kind;ZZI)V"⟩,
  ⟨"ChainDesk$DeclarationReader", "readParameters", "(LChainDesk$Member;)Z"⟩,
  ⟨"ChainDesk$Buffer", "takeType", "()I"⟩,
  ⟨"ChainDesk$Buffer", "takeWord", "()I"⟩,
  ⟨"ChainDesk$Member", "addParameter", "(I)V"⟩,
  ⟨"ChainDesk$DeclarationReader", "readNamed", "(Z)LChainDesk$Member;"⟩,
  ⟨"ChainDesk$Buffer", "takeName", "()I"⟩,
  ⟨"ChainDesk$Declaration", "allows", "(LChainDesk$Member;)Z"⟩,
  ⟨"ChainDesk$Declaration", "allowsOverride", "(LChainDesk$Member;)Z"⟩,
  ⟨"ChainDesk$Member", "hasTypesOf", "(LChainDesk$Member;)Z"⟩,
  ⟨"ChainDesk$Declaration", "add", "(LChainDesk$Member;)Z"⟩,
  ⟨"ChainDesk$Buffer", "isAtEnd", "()Z"⟩,
  ⟨"ChainDesk$Buffer", "clear", "()V"⟩,
  ⟨"ChainDesk$Catalog", "add", "(LChainDesk$Declaration;)Z"⟩,
  ⟨"ChainDesk", "variable", "()I"⟩,
  ⟨"ChainDesk$Scope", "isFull", "()Z"⟩,
  ⟨"ChainDesk", "readVariable", "()Z"⟩,
  ⟨"ChainDesk$Scope", "add", "(II)Z"⟩,
  ⟨"ChainDesk$Scope", "typeOf", "(I)I"⟩,
  ⟨"ChainDesk", "enter", "(I)V"⟩,
  ⟨"ChainDesk", "complete", "(II)I"⟩,
  ⟨"ChainDesk$Completer", "keepVariables", "()V"⟩,
  ⟨"ChainDesk$Completer", "startShelf", "(I)V"⟩,
  ⟨"ChainDesk$Phrase", "addName", "(I)V"⟩,
  ⟨"ChainDesk$Phrase", "add", "(C)V"⟩,
  ⟨"ChainDesk$Shelf", "keep", "(LChainDesk$Phrase;)V"⟩,
  ⟨"ChainDesk$Shelf", "hasRoomFrom", "(LChainDesk$Phrase;)Z"⟩,
  ⟨"ChainDesk$Phrase", "isTooLong", "()Z"⟩,
  ⟨"ChainDesk$Phrase", "isBefore", "(LChainDesk$Phrase;)Z"⟩,
  ⟨"ChainDesk$Phrase", "copyFrom", "(LChainDesk$Phrase;)V"⟩,
  ⟨"ChainDesk$Completer", "keepOfCost", "(I)V"⟩,
  ⟨"ChainDesk$Completer", "keepOfClass", "(II)V"⟩,
  ⟨"ChainDesk$Phrase", "addText", "(Ljava/lang/String;)V"⟩,
  ⟨"ChainDesk$Phrase", "addClass", "(I)V"⟩,
  ⟨"ChainDesk$Completer", "keepUses", "(LChainDesk$Member;I)V"⟩,
  ⟨"ChainDesk$Completer", "keepCalls", "(LChainDesk$Member;II)V"⟩,
  ⟨"ChainDesk$Phrase", "addPhrase", "(LChainDesk$Phrase;)V"⟩,
  ⟨"ChainDesk$Completer", "keepSelections", "(LChainDesk$Phrase;I)V"⟩,
  ⟨"ChainDesk$Completer", "propose", "(II)I"⟩,
  ⟨"ChainDesk", "check", "()I"⟩,
  ⟨"ChainDesk$ExpressionReader", "read", "()I"⟩,
  ⟨"ChainDesk$ExpressionReader", "readExpression", "(I)I"⟩,
  ⟨"ChainDesk$ExpressionReader", "readHead", "(I)I"⟩,
  ⟨"ChainDesk$Catalog", "findMaker", "(I)LChainDesk$Member;"⟩,
  ⟨"ChainDesk$Catalog", "findOwn", "(ILChainDesk$Kind;I)LChainDesk$Member;"⟩,
  ⟨"ChainDesk$ExpressionReader", "readUse", "(LChainDesk$Member;I)I"⟩,
  ⟨"ChainDesk$ExpressionReader", "readArguments", "(LChainDesk$Member;I)Z"⟩,
  ⟨"ChainDesk$ExpressionReader", "kindAhead", "()LChainDesk$Kind;"⟩,
  ⟨"ChainDesk$Catalog", "findStatic", "(ILChainDesk$Kind;I)LChainDesk$Member;"⟩,
  ⟨"ChainDesk$ExpressionReader", "readSelection", "(II)I"⟩,
  ⟨"ChainDeskModel", "<init>", "()V"⟩,
  ⟨"ChainDeskModel", "thrown", "()I"⟩,
  ⟨"ChainDeskModel", "put", "(II)Z"⟩,
  ⟨"ChainDeskModel", "outside", "(III)Z"⟩,
  ⟨"ChainDeskModel", "declare", "()I"⟩,
  ⟨"ChainDeskModel", "readDeclaration", "()I"⟩,
  ⟨"ChainDeskModel", "readClass", "()I"⟩,
  ⟨"ChainDeskModel", "look", "(I)C"⟩,
  ⟨"ChainDeskModel", "large", "(C)Z"⟩,
  ⟨"ChainDeskModel", "must", "(Z)V"⟩,
  ⟨"ChainDeskModel", "pass", "(C)Z"⟩,
  ⟨"ChainDeskModel", "expect", "(C)V"⟩,
  ⟨"ChainDeskModel", "readMember", "(II)V"⟩,
  ⟨"ChainDeskModel", "word", "(ICCCCCC)Z"⟩,
  ⟨"ChainDeskModel", "readList", "(I)V"⟩,
  ⟨"ChainDeskModel", "readType", "()I"⟩,
  ⟨"ChainDeskModel", "letters", "()I"⟩,
  ⟨"ChainDeskModel", "small", "(C)Z"⟩,
  ⟨"ChainDeskModel", "spell", "(IIII)I"⟩,
  ⟨"ChainDeskModel", "readName", "()I"⟩,
  ⟨"ChainDeskModel", "isWord", "(I)Z"⟩,
  ⟨"ChainDeskModel", "allowed", "(II)Z"⟩,
  ⟨"ChainDeskModel", "sameTypes", "(II)Z"⟩,
  ⟨"ChainDeskModel", "refuse", "(I)I"⟩,
  ⟨"ChainDeskModel", "copyMember", "(II)V"⟩,
  ⟨"ChainDeskModel", "variable", "()I"⟩,
  ⟨"ChainDeskModel", "variableOf", "(I)I"⟩,
  ⟨"ChainDeskModel", "forget", "()V"⟩,
  ⟨"ChainDeskModel", "enter", "(I)V"⟩,
  ⟨"ChainDeskModel", "fits", "(II)Z"⟩,
  ⟨"ChainDeskModel", "fit", "(II)Z"⟩,
  ⟨"ChainDeskModel", "aboveOf", "(I)I"⟩,
  ⟨"ChainDeskModel", "complete", "(II)I"⟩,
  ⟨"ChainDeskModel", "keepVariables", "()V"⟩,
  ⟨"ChainDeskModel", "writeName", "(I)V"⟩,
  ⟨"ChainDeskModel", "write", "(C)V"⟩,
  ⟨"ChainDeskModel", "keep", "(II)V"⟩,
  ⟨"ChainDeskModel", "before", "(I)Z"⟩,
  ⟨"ChainDeskModel", "copyKept", "(II)V"⟩,
  ⟨"ChainDeskModel", "keepCost", "(I)V"⟩,
  ⟨"ChainDeskModel", "usable", "(I)Z"⟩,
  ⟨"ChainDeskModel", "offer", "(IIII)V"⟩,
  ⟨"ChainDeskModel", "costOf", "(I)I"⟩,
  ⟨"ChainDeskModel", "make", "(IIII)V"⟩,
  ⟨"ChainDeskModel", "writeKept", "(I)V"⟩,
  ⟨"ChainDeskModel", "sees", "(II)Z"⟩,
  ⟨"ChainDeskModel", "behind", "(I)Z"⟩,
  ⟨"ChainDeskModel", "propose", "(I)V"⟩,
  ⟨"ChainDeskModel", "check", "()I"⟩,
  ⟨"ChainDeskModel", "primary", "()I"⟩,
  ⟨"ChainDeskModel", "makerOf", "(I)I"⟩,
  ⟨"ChainDeskModel", "use", "(I)I"⟩,
  ⟨"ChainDeskModel", "memberOf", "(IIZ)I"⟩,
  ⟨"ChainDeskModel", "further", "(I)I"⟩,
  ⟨"ChainDeskModel", "checkedCost", "()I"⟩,
  ⟨"ChainDeskModel", "proposal", "(II)I"⟩,
  ⟨"ChainDeskModel", "letter", "(II)I"⟩,
  ⟨"ChainDeskModel", "members", "(I)I"⟩,
  ⟨"ChainDeskModel", "seen", "(II)I"⟩,
  ⟨"ChainDeskLaw", "declare", "(LChainDesk;[J)I"⟩,
  ⟨"ChainDeskLaw", "variable", "(LChainDesk;[J)I"⟩,
  ⟨"ChainDeskLaw", "enter", "(LChainDesk;I)I"⟩,
  ⟨"ChainDeskLaw", "complete", "(LChainDesk;II[J)I"⟩,
  ⟨"ChainDeskLaw", "check", "(LChainDesk;[J)I"⟩]
def cd_yn (y : Nat) : MethodName := cd_ynL.getD y ⟨"", "", ""⟩
def cd_btL : List ByteArray := [code, prog_1_method_1_code, prog_2_method_1_code, prog_3_method_1_code, prog_11_method_1_code, prog_6_method_1_code, prog_7_method_1_code, prog_4_method_1_code, prog_10_method_1_code, prog_12_method_1_code, prog_1_method_2_code, prog_2_method_2_code, prog_1_method_5_code, prog_1_method_9_code, prog_1_method_10_code, prog_1_method_17_code, prog_3_method_4_code, prog_1_method_11_code, prog_4_method_5_code, prog_1_method_12_code, prog_10_method_10_code, prog_1_method_13_code, prog_3_method_3_code, prog_1_method_14_code, prog_1_method_16_code, prog_3_method_8_code, prog_3_method_7_code, prog_3_method_6_code, prog_5_method_3_code, prog_9_method_3_code, prog_3_method_5_code, prog_1_method_3_code, prog_6_method_2_code, prog_2_method_8_code, prog_2_method_6_code, prog_2_method_5_code, prog_5_method_1_code, prog_6_method_3_code, prog_6_method_4_code, prog_2_method_7_code, prog_21_method_54_code, prog_21_method_152_code, prog_21_method_56_code, prog_21_method_154_code, prog_22_method_2_code, prog_21_method_155_code, prog_26_method_11_code, prog_6_method_5_code, prog_9_method_1_code, prog_6_method_7_code, prog_2_method_9_code, prog_2_method_11_code, prog_9_method_2_code, prog_6_method_6_code, prog_2_method_10_code, prog_5_method_4_code, prog_5_method_5_code, prog_9_method_4_code, prog_5_method_2_code, prog_2_method_4_code, prog_2_method_3_code, prog_3_method_2_code, prog_1_method_4_code, prog_11_method_2_code, prog_1_method_15_code, prog_11_method_3_code, prog_11_method_4_code, prog_1_method_6_code, prog_1_method_7_code, prog_4_method_2_code, prog_4_method_6_code, prog_10_method_4_code, prog_10_method_2_code, prog_12_method_3_code, prog_12_method_2_code, prog_10_method_8_code, prog_10_method_9_code, prog_10_method_7_code, prog_4_method_3_code, prog_4_method_7_code, prog_10_method_3_code, prog_10_method_5_code, prog_4_method_9_code, prog_4_method_10_code, prog_10_method_6_code, prog_4_method_8_code, prog_4_method_4_code, prog_1_method_8_code, prog_7_method_2_code, prog_7_method_3_code, prog_7_method_4_code, prog_3_method_10_code, prog_3_method_11_code, prog_7_method_7_code, prog_7_method_8_code, prog_7_method_6_code, prog_3_method_9_code, prog_7_method_5_code, prog_14_method_1_code, prog_14_method_2_code, prog_14_method_5_code, prog_14_method_4_code, prog_14_method_24_code, prog_14_method_23_code, prog_14_method_16_code, prog_14_method_6_code, prog_14_method_15_code, prog_14_method_7_code, prog_14_method_8_code, prog_14_method_9_code, prog_14_method_20_code, prog_14_method_18_code, prog_14_method_19_code, prog_14_method_17_code, prog_14_method_12_code, prog_14_method_10_code, prog_14_method_11_code, prog_14_method_14_code, prog_14_method_13_code, prog_14_method_22_code, prog_14_method_21_code, prog_14_method_3_code, prog_14_method_25_code, prog_14_method_27_code, prog_14_method_26_code, prog_14_method_28_code, prog_14_method_29_code, prog_14_method_32_code, prog_14_method_31_code, prog_14_method_30_code, prog_14_method_47_code, prog_14_method_46_code, prog_14_method_37_code, prog_14_method_36_code, prog_14_method_41_code, prog_14_method_39_code, prog_14_method_40_code, prog_14_method_45_code, prog_14_method_33_code, prog_14_method_44_code, prog_14_method_43_code, prog_14_method_42_code, prog_14_method_38_code, prog_14_method_35_code, prog_14_method_34_code, prog_14_method_48_code, prog_14_method_54_code, prog_14_method_52_code, prog_14_method_50_code, prog_14_method_51_code, prog_14_method_49_code, prog_14_method_53_code, prog_14_method_55_code, prog_14_method_56_code, prog_14_method_57_code, prog_14_method_58_code, prog_14_method_59_code, method_3_code, method_4_code, method_5_code, method_6_code, method_7_code]
def cd_bt (y : Nat) : ByteArray := cd_btL.getD y ByteArray.empty
def cd_mlL : List Nat := [7, 1, 1, 2, 1, 3, 4, 4, 1, 2, 3, 5, 1, 1, 3, 1, 3, 4, 2, 4, 2, 3, 2, 3, 1, 6, 3, 6, 4, 3, 3, 3, 4, 1, 2, 2, 3, 3, 4, 3, 1, 1, 2, 1, 2, 2, 3, 4, 5, 4, 2, 4, 2, 7, 2, 2, 4, 3, 2, 1, 1, 3, 3, 1, 3, 3, 3, 2, 4, 2, 2, 4, 2, 4, 2, 1, 3, 2, 5, 7, 3, 2, 3, 11, 3, 8, 6, 2, 2, 4, 4, 2, 6, 3, 5, 1, 5, 4, 1, 1, 4, 3, 3, 4, 1, 2, 1, 2, 3, 2, 3, 9, 3, 3, 3, 1, 5, 2, 1, 6, 5, 2, 3, 3, 4, 1, 2, 3, 5, 2, 4, 2, 4, 2, 5, 3, 4, 6, 2, 13, 2, 5, 3, 5, 2, 3, 2, 3, 4, 2, 7, 4, 1, 3, 3, 2, 5, 3, 3, 3, 5, 3]
def cd_ml (y : Nat) : Nat := cd_mlL.getD y 0
def cd_rttL : List (Option FieldType) := [(some .boolean), none, none, none, none, none, none, none, none, none, (some .boolean), (some .boolean), none, (some .int), (some .boolean), (some .boolean), (some .boolean), (some .int), (some (.object "ChainDesk$Phrase")), (some .int), (some .int), (some .int), (some (.object "ChainDesk$Declaration")), (some .int), (some .boolean), (some .int), (some .boolean), (some (.object "ChainDesk$Member")), (some (.object "ChainDesk$Member")), (some .boolean), (some .boolean), (some .int), (some (.object "ChainDesk$Declaration")), (some .int), (some .boolean), (some .boolean), none, (some .boolean), (some .boolean), (some .boolean), (some .int), (some .byte), (some .char), (some .boolean), (some .char), none, (some .int), (some (.object "ChainDesk$Member")), none, (some .boolean), (some .int), (some .int), none, (some (.object "ChainDesk$Member")), (some .int), (some .boolean), (some .boolean), (some .boolean), (some .boolean), (some .boolean), none, (some .boolean), (some .int), (some .boolean), (some .boolean), (some .boolean), (some .int), none, (some .int), none, none, none, none, none, (some .boolean), (some .boolean), (some .boolean), none, none, none, none, none, none, none, none, none, (some .int), (some .int), (some .int), (some .int), (some .int), (some (.object "ChainDesk$Member")), (some (.object "ChainDesk$Member")), (some .int), (some .boolean), (some (.object "ChainDesk$Kind")), (some (.object "ChainDesk$Member")), (some .int), none, (some .int), (some .boolean), (some .boolean), (some .int), (some .int), (some .int), (some .char), (some .boolean), none, (some .boolean), none, none, (some .boolean), none, (some .int), (some .int), (some .boolean), (some .int), (some .int), (some .boolean), (some .boolean), (some .boolean), (some .int), none, (some .int), (some .int), none, none, (some .boolean), (some .boolean), (some .int), (some .int), none, none, none, none, (some .boolean), none, none, (some .boolean), none, (some .int), none, none, (some .boolean), (some .boolean), none, (some .int), (some .int), (some .int), (some .int), (some .int), (some .int), (some .int), (some .int), (some .int), (some .int), (some .int), (some .int), (some .int), (some .int), (some .int), (some .int)]
def cd_rtt (y : Nat) : Option FieldType := cd_rttL.getD y none
def cd_rt (y : Nat) : FieldType := (cd_rtt y).getD .int
def cd_mcL : List Nat := [54, 0, 1, 2, 9, 5, 6, 3, 8, 10, 0, 1, 0, 0, 0, 0, 2, 0, 3, 0, 8, 0, 2, 0, 0, 2, 2, 2, 4, 7, 2, 0, 5, 1, 1, 1, 4, 5, 5, 1, 50, 50, 50, 50, 51, 50, 52, 5, 7, 5, 1, 1, 7, 5, 1, 4, 4, 7, 4, 1, 1, 2, 0, 9, 0, 9, 9, 0, 0, 3, 3, 8, 8, 10, 10, 8, 8, 8, 3, 3, 8, 8, 3, 3, 8, 3, 3, 0, 6, 6, 6, 2, 2, 6, 6, 6, 2, 6, 11, 11, 11, 11, 11, 11, 11, 11, 11, 11, 11, 11, 11, 11, 11, 11, 11, 11, 11, 11, 11, 11, 11, 11, 11, 11, 11, 11, 11, 11, 11, 11, 11, 11, 11, 11, 11, 11, 11, 11, 11, 11, 11, 11, 11, 11, 11, 11, 11, 11, 11, 11, 11, 11, 11, 11, 11, 11, 11, 54, 54, 54, 54, 54]
def cd_mc (y : Nat) : Nat := cd_mcL.getD y 99
/-- handlers: from, to, handler, entry; class -/
def cd_hsL : List (List ((Nat × Nat × Nat × Nat) × Nat)) := [[], [], [], [], [], [], [], [], [], [], [], [], [], [], [], [], [], [], [], [], [], [], [], [], [], [], [], [], [], [], [], [], [], [], [], [], [], [], [], [], [], [], [], [], [], [], [], [], [], [], [], [], [], [], [], [], [], [], [], [], [], [], [], [], [], [], [], [], [], [], [], [], [], [], [], [], [], [], [], [], [], [], [], [], [], [], [], [], [], [], [], [], [], [], [], [], [], [], [], [], [], [], [], [], [], [], [], [], [], [], [], [], [], [], [], [], [], [], [], [], [], [], [], [], [], [], [], [], [], [], [], [], [], [], [], [], [], [], [], [], [], [], [], [], [], [], [], [], [], [], [], [], [], [], [], [], [], [((0, 8, 11, 13), 12), ((0, 8, 14, 15), 13)], [((0, 8, 11, 13), 12), ((0, 8, 14, 15), 13)], [((0, 5, 8, 13), 12)], [((0, 10, 13, 13), 12)], [((0, 8, 11, 13), 12)]]
def cd_hs (y : Nat) : List ((Nat × Nat × Nat × Nat) × Nat) := cd_hsL.getD y []
end
section
/-- ChainDeskLaw.law([I)Z -/
def cd_r0 : List (Nat × Instr × Nat × Nat × List Nat) := [
  (0, .new 8, 0, 0, [85, 86, 60]), (3, .dup, 0, 0, []), (4, .invokespecial 31, 1, 0, [87, 88, 60, 89]), (7, .astore_n 1, 0, 0, []),
  (8, .new 32, 11, 0, [862, 863, 69]), (11, .dup, 0, 0, []), (12, .invokespecial 34, 98, 0, [864, 865, 69, 866]), (15, .astore_n 2, 0, 0, []),
  (16, .iconst 1, 0, 0, []), (17, .newarray .long, 0, 0, [1214]), (19, .astore_n 3, 0, 0, []), (20, .iconst 0, 0, 0, []),
  (21, .istore 4, 0, 0, []), (23, .iload 4, 0, 0, []), (25, .aload_n 0, 0, 0, []), (26, .arraylength, 0, 0, []),
  (27, .iconst 3, 0, 0, []), (28, .isub, 0, 0, []), (29, .if_icmp .gt 551, 580, 0, []), (32, .aload_n 0, 0, 0, []),
  (33, .iload 4, 0, 0, []), (35, .iaload, 0, 0, []), (36, .bipush 15, 0, 0, []), (38, .iand, 0, 0, []),
  (39, .tableswitch 535 0 12 #[65, 102, 146, 190, 201, 237, 305, 349, 362, 399, 436, 473, 498], 0, 0, []), (104, .aload_n 1, 0, 0, []), (105, .aload_n 0, 0, 0, []), (106, .iload 4, 0, 0, []),
  (108, .iconst 1, 0, 0, []), (109, .iadd, 0, 0, []), (110, .iaload, 0, 0, []), (111, .aload_n 0, 0, 0, []),
  (112, .iload 4, 0, 0, []), (114, .iconst 2, 0, 0, []), (115, .iadd, 0, 0, []), (116, .iaload, 0, 0, []),
  (117, .invokevirtual 35, 10, 2, [277, 278, 279, 60, 280]), (120, .aload_n 2, 0, 0, []), (121, .aload_n 0, 0, 0, []), (122, .iload 4, 0, 0, []),
  (124, .iconst 1, 0, 0, []), (125, .iadd, 0, 0, []), (126, .iaload, 0, 0, []), (127, .aload_n 0, 0, 0, []),
  (128, .iload 4, 0, 0, []), (130, .iconst 2, 0, 0, []), (131, .iadd, 0, 0, []), (132, .iaload, 0, 0, []),
  (133, .invokevirtual 39, 100, 2, [991, 992, 993, 69, 994]), (136, .if_icmp .eq 438, 574, 0, []), (139, .iconst 0, 0, 0, []), (140, .ireturn, 0, 0, []),
  (141, .aload_n 1, 0, 0, []), (142, .aload_n 3, 0, 0, []), (143, .invokestatic 40, 157, 2, [366, 367, 59, 368]), (146, .istore 5, 0, 0, []),
  (148, .aload_n 2, 0, 0, []), (149, .invokevirtual 45, 102, 0, [998, 999, 1000, 69, 1001]), (152, .istore 6, 0, 0, []), (154, .aload_n 2, 0, 0, []),
  (155, .invokevirtual 46, 99, 0, [987, 988, 989, 69, 990]), (158, .iload 5, 0, 0, []), (160, .if_icmp .eq 5, 165, 0, []), (163, .iconst 0, 0, 0, []),
  (164, .ireturn, 0, 0, []), (165, .iload 5, 0, 0, []), (167, .ifCond .ne 15, 182, 0, []), (170, .aload_n 3, 0, 0, []),
  (171, .iconst 0, 0, 0, []), (172, .laload, 0, 0, []), (173, .iload 6, 0, 0, []), (175, .i2l, 0, 0, []),
  (176, .lcmp, 0, 0, []), (177, .ifCond .eq 5, 182, 0, []), (180, .iconst 0, 0, 0, []), (181, .ireturn, 0, 0, []),
  (182, .goto 392, 574, 0, []), (185, .aload_n 1, 0, 0, []), (186, .aload_n 3, 0, 0, []), (187, .invokestatic 49, 158, 2, [673, 674, 59, 675]),
  (190, .istore 5, 0, 0, []), (192, .aload_n 2, 0, 0, []), (193, .invokevirtual 51, 123, 0, [1078, 1079, 1080, 69, 1081]), (196, .istore 6, 0, 0, []),
  (198, .aload_n 2, 0, 0, []), (199, .invokevirtual 46, 99, 0, [987, 988, 989, 69, 990]), (202, .iload 5, 0, 0, []), (204, .if_icmp .eq 5, 209, 0, []),
  (207, .iconst 0, 0, 0, []), (208, .ireturn, 0, 0, []), (209, .iload 5, 0, 0, []), (211, .ifCond .ne 15, 226, 0, []),
  (214, .aload_n 3, 0, 0, []), (215, .iconst 0, 0, 0, []), (216, .laload, 0, 0, []), (217, .iload 6, 0, 0, []),
  (219, .i2l, 0, 0, []), (220, .lcmp, 0, 0, []), (221, .ifCond .eq 5, 226, 0, []), (224, .iconst 0, 0, 0, []),
  (225, .ireturn, 0, 0, []), (226, .goto 348, 574, 0, []), (229, .aload_n 1, 0, 0, []), (230, .invokevirtual 52, 12, 0, [285, 286, 287, 60, 288]),
  (233, .aload_n 2, 0, 0, []), (234, .invokevirtual 55, 125, 0, [1086, 1087, 1088, 69, 1089]), (237, .goto 337, 574, 0, []), (240, .aload_n 1, 0, 0, []),
  (241, .aload_n 0, 0, 0, []), (242, .iload 4, 0, 0, []), (244, .iconst 1, 0, 0, []), (245, .iadd, 0, 0, []),
  (246, .iaload, 0, 0, []), (247, .invokestatic 56, 159, 2, [700, 701, 59, 702]), (250, .istore 5, 0, 0, []), (252, .aload_n 2, 0, 0, []),
  (253, .aload_n 0, 0, 0, []), (254, .iload 4, 0, 0, []), (256, .iconst 1, 0, 0, []), (257, .iadd, 0, 0, []),
  (258, .iaload, 0, 0, []), (259, .invokevirtual 59, 126, 1, [1090, 1091, 1092, 69, 1093]), (262, .aload_n 2, 0, 0, []), (263, .invokevirtual 46, 99, 0, [987, 988, 989, 69, 990]),
  (266, .iload 5, 0, 0, []), (268, .if_icmp .eq 5, 273, 0, []), (271, .iconst 0, 0, 0, []), (272, .ireturn, 0, 0, []),
  (273, .goto 301, 574, 0, []), (276, .aload_n 1, 0, 0, []), (277, .aload_n 0, 0, 0, []), (278, .iload 4, 0, 0, []),
  (280, .iconst 1, 0, 0, []), (281, .iadd, 0, 0, []), (282, .iaload, 0, 0, []), (283, .aload_n 0, 0, 0, []),
  (284, .iload 4, 0, 0, []), (286, .iconst 2, 0, 0, []), (287, .iadd, 0, 0, []), (288, .iaload, 0, 0, []),
  (289, .aload_n 3, 0, 0, []), (290, .invokestatic 60, 160, 4, [707, 708, 59, 709]), (293, .istore 5, 0, 0, []), (295, .aload_n 2, 0, 0, []),
  (296, .aload_n 0, 0, 0, []), (297, .iload 4, 0, 0, []), (299, .iconst 1, 0, 0, []), (300, .iadd, 0, 0, []),
  (301, .iaload, 0, 0, []), (302, .aload_n 0, 0, 0, []), (303, .iload 4, 0, 0, []), (305, .iconst 2, 0, 0, []),
  (306, .iadd, 0, 0, []), (307, .iaload, 0, 0, []), (308, .invokevirtual 63, 130, 2, [1106, 1107, 1108, 69, 1109]), (311, .istore 6, 0, 0, []),
  (313, .aload_n 2, 0, 0, []), (314, .invokevirtual 46, 99, 0, [987, 988, 989, 69, 990]), (317, .iload 5, 0, 0, []), (319, .if_icmp .eq 5, 324, 0, []),
  (322, .iconst 0, 0, 0, []), (323, .ireturn, 0, 0, []), (324, .iload 5, 0, 0, []), (326, .ifCond .ne 15, 341, 0, []),
  (329, .aload_n 3, 0, 0, []), (330, .iconst 0, 0, 0, []), (331, .laload, 0, 0, []), (332, .iload 6, 0, 0, []),
  (334, .i2l, 0, 0, []), (335, .lcmp, 0, 0, []), (336, .ifCond .eq 5, 341, 0, []), (339, .iconst 0, 0, 0, []),
  (340, .ireturn, 0, 0, []), (341, .goto 233, 574, 0, []), (344, .aload_n 1, 0, 0, []), (345, .aload_n 3, 0, 0, []),
  (346, .invokestatic 64, 161, 2, [803, 804, 59, 805]), (349, .istore 5, 0, 0, []), (351, .aload_n 2, 0, 0, []), (352, .invokevirtual 66, 146, 0, [1170, 1171, 1172, 69, 1173]),
  (355, .istore 6, 0, 0, []), (357, .aload_n 2, 0, 0, []), (358, .invokevirtual 46, 99, 0, [987, 988, 989, 69, 990]), (361, .iload 5, 0, 0, []),
  (363, .if_icmp .eq 5, 368, 0, []), (366, .iconst 0, 0, 0, []), (367, .ireturn, 0, 0, []), (368, .iload 5, 0, 0, []),
  (370, .ifCond .ne 15, 385, 0, []), (373, .aload_n 3, 0, 0, []), (374, .iconst 0, 0, 0, []), (375, .laload, 0, 0, []),
  (376, .iload 6, 0, 0, []), (378, .i2l, 0, 0, []), (379, .lcmp, 0, 0, []), (380, .ifCond .eq 5, 385, 0, []),
  (383, .iconst 0, 0, 0, []), (384, .ireturn, 0, 0, []), (385, .goto 189, 574, 0, []), (388, .aload_n 1, 0, 0, []),
  (389, .invokevirtual 67, 13, 0, [289, 290, 291, 60, 292]), (392, .aload_n 2, 0, 0, []), (393, .invokevirtual 70, 152, 0, [1194, 1195, 1196, 69, 1197]), (396, .if_icmp .eq 178, 574, 0, []),
  (399, .iconst 0, 0, 0, []), (400, .ireturn, 0, 0, []), (401, .aload_n 1, 0, 0, []), (402, .aload_n 0, 0, 0, []),
  (403, .iload 4, 0, 0, []), (405, .iconst 1, 0, 0, []), (406, .iadd, 0, 0, []), (407, .iaload, 0, 0, []),
  (408, .aload_n 0, 0, 0, []), (409, .iload 4, 0, 0, []), (411, .iconst 2, 0, 0, []), (412, .iadd, 0, 0, []),
  (413, .iaload, 0, 0, []), (414, .invokevirtual 71, 14, 2, [293, 294, 295, 60, 296]), (417, .aload_n 2, 0, 0, []), (418, .aload_n 0, 0, 0, []),
  (419, .iload 4, 0, 0, []), (421, .iconst 1, 0, 0, []), (422, .iadd, 0, 0, []), (423, .iaload, 0, 0, []),
  (424, .aload_n 0, 0, 0, []), (425, .iload 4, 0, 0, []), (427, .iconst 2, 0, 0, []), (428, .iadd, 0, 0, []),
  (429, .iaload, 0, 0, []), (430, .invokevirtual 74, 127, 2, [1094, 1095, 1096, 69, 1097]), (433, .if_icmp .eq 141, 574, 0, []), (436, .iconst 0, 0, 0, []),
  (437, .ireturn, 0, 0, []), (438, .aload_n 1, 0, 0, []), (439, .aload_n 0, 0, 0, []), (440, .iload 4, 0, 0, []),
  (442, .iconst 1, 0, 0, []), (443, .iadd, 0, 0, []), (444, .iaload, 0, 0, []), (445, .aload_n 0, 0, 0, []),
  (446, .iload 4, 0, 0, []), (448, .iconst 2, 0, 0, []), (449, .iadd, 0, 0, []), (450, .iaload, 0, 0, []),
  (451, .invokevirtual 75, 17, 2, [304, 305, 306, 60, 307]), (454, .aload_n 2, 0, 0, []), (455, .aload_n 0, 0, 0, []), (456, .iload 4, 0, 0, []),
  (458, .iconst 1, 0, 0, []), (459, .iadd, 0, 0, []), (460, .iaload, 0, 0, []), (461, .aload_n 0, 0, 0, []),
  (462, .iload 4, 0, 0, []), (464, .iconst 2, 0, 0, []), (465, .iadd, 0, 0, []), (466, .iaload, 0, 0, []),
  (467, .invokevirtual 78, 153, 2, [1198, 1199, 1200, 69, 1201]), (470, .if_icmp .eq 104, 574, 0, []), (473, .iconst 0, 0, 0, []), (474, .ireturn, 0, 0, []),
  (475, .aload_n 1, 0, 0, []), (476, .aload_n 0, 0, 0, []), (477, .iload 4, 0, 0, []), (479, .iconst 1, 0, 0, []),
  (480, .iadd, 0, 0, []), (481, .iaload, 0, 0, []), (482, .aload_n 0, 0, 0, []), (483, .iload 4, 0, 0, []),
  (485, .iconst 2, 0, 0, []), (486, .iadd, 0, 0, []), (487, .iaload, 0, 0, []), (488, .invokevirtual 79, 19, 2, [312, 313, 314, 60, 315]),
  (491, .aload_n 2, 0, 0, []), (492, .aload_n 0, 0, 0, []), (493, .iload 4, 0, 0, []), (495, .iconst 1, 0, 0, []),
  (496, .iadd, 0, 0, []), (497, .iaload, 0, 0, []), (498, .aload_n 0, 0, 0, []), (499, .iload 4, 0, 0, []),
  (501, .iconst 2, 0, 0, []), (502, .iadd, 0, 0, []), (503, .iaload, 0, 0, []), (504, .invokevirtual 82, 154, 2, [1202, 1203, 1204, 69, 1205]),
  (507, .if_icmp .eq 67, 574, 0, []), (510, .iconst 0, 0, 0, []), (511, .ireturn, 0, 0, []), (512, .aload_n 1, 0, 0, []),
  (513, .aload_n 0, 0, 0, []), (514, .iload 4, 0, 0, []), (516, .iconst 1, 0, 0, []), (517, .iadd, 0, 0, []),
  (518, .iaload, 0, 0, []), (519, .invokevirtual 83, 21, 1, [320, 321, 322, 60, 323]), (522, .aload_n 2, 0, 0, []), (523, .aload_n 0, 0, 0, []),
  (524, .iload 4, 0, 0, []), (526, .iconst 1, 0, 0, []), (527, .iadd, 0, 0, []), (528, .iaload, 0, 0, []),
  (529, .invokevirtual 87, 155, 1, [1206, 1207, 1208, 69, 1209]), (532, .if_icmp .eq 42, 574, 0, []), (535, .iconst 0, 0, 0, []), (536, .ireturn, 0, 0, []),
  (537, .aload_n 1, 0, 0, []), (538, .aload_n 0, 0, 0, []), (539, .iload 4, 0, 0, []), (541, .iconst 1, 0, 0, []),
  (542, .iadd, 0, 0, []), (543, .iaload, 0, 0, []), (544, .aload_n 0, 0, 0, []), (545, .iload 4, 0, 0, []),
  (547, .iconst 2, 0, 0, []), (548, .iadd, 0, 0, []), (549, .iaload, 0, 0, []), (550, .invokevirtual 88, 23, 2, [328, 329, 330, 60, 331]),
  (553, .aload_n 2, 0, 0, []), (554, .aload_n 0, 0, 0, []), (555, .iload 4, 0, 0, []), (557, .iconst 1, 0, 0, []),
  (558, .iadd, 0, 0, []), (559, .iaload, 0, 0, []), (560, .aload_n 0, 0, 0, []), (561, .iload 4, 0, 0, []),
  (563, .iconst 2, 0, 0, []), (564, .iadd, 0, 0, []), (565, .iaload, 0, 0, []), (566, .invokevirtual 91, 156, 2, [1210, 1211, 1212, 69, 1213]),
  (569, .if_icmp .eq 5, 574, 0, []), (572, .iconst 0, 0, 0, []), (573, .ireturn, 0, 0, []), (574, .iinc 4 3, 0, 0, []),
  (577, .goto (-554), 23, 0, []), (580, .iconst 1, 0, 0, []), (581, .ireturn, 0, 0, [])
  ]
/-- ChainDesk.<init>()V -/
def cd_r1 : List (Nat × Instr × Nat × Nat × List Nat) := [
  (0, .aload_n 0, 0, 0, []), (1, .invokespecial 1, 1000, 0, [90, 91, 92]), (4, .aload_n 0, 0, 0, []), (5, .new 7, 1, 0, [93, 94, 61]),
  (8, .dup, 0, 0, []), (9, .invokespecial 9, 2, 0, [95, 96, 61, 97]), (12, .putfield 10, 0, 0, [255]), (15, .aload_n 0, 0, 0, []),
  (16, .new 16, 2, 0, [110, 111, 62]), (19, .dup, 0, 0, []), (20, .invokespecial 18, 3, 0, [112, 113, 62, 114]), (23, .putfield 19, 0, 1, [256]),
  (26, .aload_n 0, 0, 0, []), (27, .new 23, 9, 0, [130, 131, 63]), (30, .dup, 0, 0, []), (31, .invokespecial 25, 4, 0, [132, 133, 63, 134]),
  (34, .putfield 26, 0, 2, [257]), (37, .aload_n 0, 0, 0, []), (38, .new 30, 5, 0, [150, 151, 64]), (41, .dup, 0, 0, []),
  (42, .aload_n 0, 0, 0, []), (43, .getfield 10, 0, 0, [255]), (46, .aload_n 0, 0, 0, []), (47, .getfield 19, 0, 1, [256]),
  (50, .invokespecial 32, 5, 2, [152, 153, 64, 154]), (53, .putfield 35, 0, 3, [258]), (56, .aload_n 0, 0, 0, []), (57, .new 39, 6, 0, [163, 164, 65]),
  (60, .dup, 0, 0, []), (61, .aload_n 0, 0, 0, []), (62, .getfield 10, 0, 0, [255]), (65, .aload_n 0, 0, 0, []),
  (66, .getfield 19, 0, 1, [256]), (69, .aload_n 0, 0, 0, []), (70, .getfield 26, 0, 2, [257]), (73, .invokespecial 41, 6, 3, [165, 166, 65, 167]),
  (76, .putfield 44, 0, 4, [259]), (79, .aload_n 0, 0, 0, []), (80, .new 48, 3, 0, [183, 184, 66]), (83, .dup, 0, 0, []),
  (84, .aload_n 0, 0, 0, []), (85, .getfield 19, 0, 1, [256]), (88, .aload_n 0, 0, 0, []), (89, .getfield 26, 0, 2, [257]),
  (92, .invokespecial 50, 7, 2, [185, 186, 66, 187]), (95, .putfield 53, 0, 5, [260]), (98, .aload_n 0, 0, 0, []), (99, .iconst 0, 0, 0, []),
  (100, .putfield 57, 0, 6, [261]), (103, .return_, 0, 0, [])
  ]
/-- ChainDesk$Buffer.<init>()V -/
def cd_r2 : List (Nat × Instr × Nat × Nat × List Nat) := [
  (0, .aload_n 0, 0, 0, []), (1, .invokespecial 3, 1000, 0, [98, 91, 92]), (4, .aload_n 0, 0, 0, []), (5, .bipush 120, 0, 0, []),
  (7, .newarray .char, 0, 0, [109]), (9, .putfield 9, 1, 0, [99]), (12, .return_, 0, 0, [])
  ]
/-- ChainDesk$Catalog.<init>()V -/
def cd_r3 : List (Nat × Instr × Nat × Nat × List Nat) := [
  (0, .aload_n 0, 0, 0, []), (1, .invokespecial 3, 1000, 0, [115, 91, 92]), (4, .aload_n 0, 0, 0, []), (5, .bipush 10, 0, 0, []),
  (7, .anewarray 9, 4, 0, [116, 117]), (10, .putfield 11, 2, 0, [118]), (13, .aload_n 0, 0, 0, []), (14, .bipush 13, 0, 0, []),
  (16, .newarray .int, 0, 0, [129]), (18, .putfield 17, 2, 1, [119]), (21, .aload_n 0, 0, 0, []), (22, .iconst (-1), 0, 0, []),
  (23, .putfield 21, 2, 2, [120]), (26, .iconst 0, 0, 0, []), (27, .istore_n 1, 0, 0, []), (28, .iload_n 1, 0, 0, []),
  (29, .bipush 13, 0, 0, []), (31, .if_icmp .ge 18, 49, 0, []), (34, .aload_n 0, 0, 0, []), (35, .getfield 17, 2, 1, [119]),
  (38, .iload_n 1, 0, 0, []), (39, .iconst 1, 0, 0, []), (40, .iload_n 1, 0, 0, []), (41, .ishl, 0, 0, []),
  (42, .iastore, 0, 0, []), (43, .iinc 1 1, 0, 0, []), (46, .goto (-18), 28, 0, []), (49, .aload_n 0, 0, 0, []),
  (50, .getfield 17, 2, 1, [119]), (53, .iconst 0, 0, 0, []), (54, .dup2, 0, 0, []), (55, .iaload, 0, 0, []),
  (56, .iconst 2, 0, 0, []), (57, .ior, 0, 0, []), (58, .iastore, 0, 0, []), (59, .return_, 0, 0, [])
  ]
/-- ChainDesk$Scope.<init>()V -/
def cd_r4 : List (Nat × Instr × Nat × Nat × List Nat) := [
  (0, .aload_n 0, 0, 0, []), (1, .invokespecial 3, 1000, 0, [135, 91, 92]), (4, .aload_n 0, 0, 0, []), (5, .iconst 5, 0, 0, []),
  (6, .newarray .int, 0, 0, [129]), (8, .putfield 9, 9, 0, [136]), (11, .aload_n 0, 0, 0, []), (12, .iconst 5, 0, 0, []),
  (13, .newarray .int, 0, 0, [129]), (15, .putfield 15, 9, 1, [138]), (18, .return_, 0, 0, [])
  ]
/-- ChainDesk$DeclarationReader.<init>(LChainDesk$Buffer;LChainDesk$Catalog;)V -/
def cd_r5 : List (Nat × Instr × Nat × Nat × List Nat) := [
  (0, .aload_n 0, 0, 0, []), (1, .invokespecial 3, 1000, 0, [155, 91, 92]), (4, .aload_n 0, 0, 0, []), (5, .aload_n 1, 0, 0, []),
  (6, .putfield 9, 5, 0, [156]), (9, .aload_n 0, 0, 0, []), (10, .aload_n 2, 0, 0, []), (11, .putfield 15, 5, 1, [157]),
  (14, .return_, 0, 0, [])
  ]
/-- ChainDesk$ExpressionReader.<init>(LChainDesk$Buffer;LChainDesk$Catalog;LChainDesk$Scope;)V -/
def cd_r6 : List (Nat × Instr × Nat × Nat × List Nat) := [
  (0, .aload_n 0, 0, 0, []), (1, .invokespecial 3, 1000, 0, [168, 91, 92]), (4, .aload_n 0, 0, 0, []), (5, .aload_n 1, 0, 0, []),
  (6, .putfield 9, 6, 0, [169]), (9, .aload_n 0, 0, 0, []), (10, .aload_n 2, 0, 0, []), (11, .putfield 15, 6, 1, [170]),
  (14, .aload_n 0, 0, 0, []), (15, .aload_n 3, 0, 0, []), (16, .putfield 19, 6, 2, [171]), (19, .return_, 0, 0, [])
  ]
/-- ChainDesk$Completer.<init>(LChainDesk$Catalog;LChainDesk$Scope;)V -/
def cd_r7 : List (Nat × Instr × Nat × Nat × List Nat) := [
  (0, .aload_n 0, 0, 0, []), (1, .invokespecial 3, 1000, 0, [188, 91, 92]), (4, .aload_n 0, 0, 0, []), (5, .iconst 4, 0, 0, []),
  (6, .anewarray 9, 10, 0, [189, 190]), (9, .putfield 11, 3, 2, [235]), (12, .aload_n 0, 0, 0, []), (13, .bipush 10, 0, 0, []),
  (15, .anewarray 17, 8, 0, [191, 192]), (18, .putfield 19, 3, 3, [236]), (21, .aload_n 0, 0, 0, []), (22, .new 17, 8, 0, [191, 193, 67]),
  (25, .dup, 0, 0, []), (26, .invokespecial 23, 8, 0, [194, 195, 67, 196]), (29, .putfield 24, 3, 4, [237]), (32, .aload_n 0, 0, 0, []),
  (33, .aload_n 1, 0, 0, []), (34, .putfield 28, 3, 0, [233]), (37, .aload_n 0, 0, 0, []), (38, .aload_n 2, 0, 0, []),
  (39, .putfield 32, 3, 1, [234]), (42, .iconst 0, 0, 0, []), (43, .istore_n 3, 0, 0, []), (44, .iload_n 3, 0, 0, []),
  (45, .aload_n 0, 0, 0, []), (46, .getfield 11, 3, 2, [235]), (49, .arraylength, 0, 0, []), (50, .if_icmp .ge 22, 72, 0, []),
  (53, .aload_n 0, 0, 0, []), (54, .getfield 11, 3, 2, [235]), (57, .iload_n 3, 0, 0, []), (58, .new 9, 10, 0, [189, 217, 68]),
  (61, .dup, 0, 0, []), (62, .invokespecial 36, 9, 0, [218, 219, 68, 220]), (65, .aastore, 0, 0, []), (66, .iinc 3 1, 0, 0, []),
  (69, .goto (-25), 44, 0, []), (72, .aload_n 0, 0, 0, []), (73, .aload_n 0, 0, 0, []), (74, .getfield 11, 3, 2, [235]),
  (77, .iconst 0, 0, 0, []), (78, .aaload, 0, 0, []), (79, .putfield 37, 3, 5, [238]), (82, .return_, 0, 0, [])
  ]
/-- ChainDesk$Phrase.<init>()V -/
def cd_r8 : List (Nat × Instr × Nat × Nat × List Nat) := [
  (0, .aload_n 0, 0, 0, []), (1, .invokespecial 3, 1000, 0, [197, 91, 92]), (4, .aload_n 0, 0, 0, []), (5, .bipush 25, 0, 0, []),
  (7, .newarray .char, 0, 0, [109]), (9, .putfield 9, 8, 0, [198]), (12, .return_, 0, 0, [])
  ]
/-- ChainDesk$Shelf.<init>()V -/
def cd_r9 : List (Nat × Instr × Nat × Nat × List Nat) := [
  (0, .aload_n 0, 0, 0, []), (1, .invokespecial 3, 1000, 0, [221, 91, 92]), (4, .aload_n 0, 0, 0, []), (5, .bipush 8, 0, 0, []),
  (7, .anewarray 9, 8, 0, [222, 192]), (10, .putfield 11, 10, 0, [224]), (13, .iconst 0, 0, 0, []), (14, .istore_n 1, 0, 0, []),
  (15, .iload_n 1, 0, 0, []), (16, .aload_n 0, 0, 0, []), (17, .getfield 11, 10, 0, [224]), (20, .arraylength, 0, 0, []),
  (21, .if_icmp .ge 22, 43, 0, []), (24, .aload_n 0, 0, 0, []), (25, .getfield 11, 10, 0, [224]), (28, .iload_n 1, 0, 0, []),
  (29, .new 9, 8, 0, [222, 193, 67]), (32, .dup, 0, 0, []), (33, .invokespecial 17, 8, 0, [223, 195, 67, 196]), (36, .aastore, 0, 0, []),
  (37, .iinc 1 1, 0, 0, []), (40, .goto (-25), 15, 0, []), (43, .return_, 0, 0, [])
  ]
/-- ChainDesk.put(II)Z -/
def cd_r10 : List (Nat × Instr × Nat × Nat × List Nat) := [
  (0, .aload_n 0, 0, 0, []), (1, .getfield 10, 0, 0, [255]), (4, .iload_n 1, 0, 0, []), (5, .iload_n 2, 0, 0, []),
  (6, .invokevirtual 61, 11, 2, [281, 282, 283, 61, 284]), (9, .ireturn, 0, 0, [])
  ]
/-- ChainDesk$Buffer.append(II)Z -/
def cd_r11 : List (Nat × Instr × Nat × Nat × List Nat) := [
  (0, .iload_n 2, 0, 0, []), (1, .iconst 1, 0, 0, []), (2, .if_icmp .lt 19, 21, 0, []), (5, .iload_n 2, 0, 0, []),
  (6, .iconst 4, 0, 0, []), (7, .if_icmp .gt 14, 21, 0, []), (10, .iload_n 2, 0, 0, []), (11, .bipush 120, 0, 0, []),
  (13, .aload_n 0, 0, 0, []), (14, .getfield 15, 1, 1, [100]), (17, .isub, 0, 0, []), (18, .if_icmp .le 5, 23, 0, []),
  (21, .iconst 0, 0, 0, []), (22, .ireturn, 0, 0, []), (23, .iconst 0, 0, 0, []), (24, .istore_n 3, 0, 0, []),
  (25, .iload_n 3, 0, 0, []), (26, .iload_n 2, 0, 0, []), (27, .if_icmp .ge 55, 82, 0, []), (30, .iload_n 1, 0, 0, []),
  (31, .bipush 8, 0, 0, []), (33, .iload_n 2, 0, 0, []), (34, .iconst 1, 0, 0, []), (35, .isub, 0, 0, []),
  (36, .iload_n 3, 0, 0, []), (37, .isub, 0, 0, []), (38, .imul, 0, 0, []), (39, .ishr, 0, 0, []),
  (40, .sipush 255, 0, 0, []), (43, .iand, 0, 0, []), (44, .istore 4, 0, 0, []), (46, .iload 4, 0, 0, []),
  (48, .bipush 32, 0, 0, []), (50, .if_icmp .lt 10, 60, 0, []), (53, .iload 4, 0, 0, []), (55, .bipush 126, 0, 0, []),
  (57, .if_icmp .le 5, 62, 0, []), (60, .iconst 0, 0, 0, []), (61, .ireturn, 0, 0, []), (62, .aload_n 0, 0, 0, []),
  (63, .getfield 9, 1, 0, [99]), (66, .aload_n 0, 0, 0, []), (67, .getfield 15, 1, 1, [100]), (70, .iload_n 3, 0, 0, []),
  (71, .iadd, 0, 0, []), (72, .iload 4, 0, 0, []), (74, .i2c, 0, 0, []), (75, .castore, 0, 0, []),
  (76, .iinc 3 1, 0, 0, []), (79, .goto (-54), 25, 0, []), (82, .aload_n 0, 0, 0, []), (83, .dup, 0, 0, []),
  (84, .getfield 15, 1, 1, [100]), (87, .iload_n 2, 0, 0, []), (88, .iadd, 0, 0, []), (89, .putfield 15, 1, 1, [100]),
  (92, .iconst 1, 0, 0, []), (93, .ireturn, 0, 0, [])
  ]
/-- ChainDesk.forget()V -/
def cd_r12 : List (Nat × Instr × Nat × Nat × List Nat) := [
  (0, .aload_n 0, 0, 0, []), (1, .getfield 26, 0, 2, [257]), (4, .iconst 0, 0, 0, []), (5, .putfield 100, 9, 2, [142]),
  (8, .return_, 0, 0, [])
  ]
/-- ChainDesk.checkedCost()I -/
def cd_r13 : List (Nat × Instr × Nat × Nat × List Nat) := [
  (0, .aload_n 0, 0, 0, []), (1, .getfield 57, 0, 6, [261]), (4, .ireturn, 0, 0, [])
  ]
/-- ChainDesk.fits(II)Z -/
def cd_r14 : List (Nat × Instr × Nat × Nat × List Nat) := [
  (0, .iload_n 1, 0, 0, []), (1, .invokestatic 108, 15, 1, [297, 298, 60, 299]), (4, .ifCond .eq 26, 30, 0, []), (7, .iload_n 2, 0, 0, []),
  (8, .invokestatic 108, 15, 1, [297, 298, 60, 299]), (11, .ifCond .eq 19, 30, 0, []), (14, .aload_n 0, 0, 0, []), (15, .getfield 19, 0, 1, [256]),
  (18, .iload_n 1, 0, 0, []), (19, .iload_n 2, 0, 0, []), (20, .invokevirtual 129, 16, 2, [300, 301, 302, 62, 303]), (23, .ifCond .eq 7, 30, 0, []),
  (26, .iconst 1, 0, 0, []), (27, .goto 4, 31, 0, []), (30, .iconst 0, 0, 0, []), (31, .ireturn, 0, 0, [])
  ]
/-- ChainDesk.isType(I)Z -/
def cd_r15 : List (Nat × Instr × Nat × Nat × List Nat) := [
  (0, .iload_n 0, 0, 0, []), (1, .ifCond .lt 13, 14, 0, []), (4, .iload_n 0, 0, 0, []), (5, .bipush 13, 0, 0, []),
  (7, .if_icmp .ge 7, 14, 0, []), (10, .iconst 1, 0, 0, []), (11, .goto 4, 15, 0, []), (14, .iconst 0, 0, 0, []),
  (15, .ireturn, 0, 0, [])
  ]
/-- ChainDesk$Catalog.isFitting(II)Z -/
def cd_r16 : List (Nat × Instr × Nat × Nat × List Nat) := [
  (0, .aload_n 0, 0, 0, []), (1, .getfield 17, 2, 1, [119]), (4, .iload_n 1, 0, 0, []), (5, .iaload, 0, 0, []),
  (6, .iload_n 2, 0, 0, []), (7, .ishr, 0, 0, []), (8, .iconst 1, 0, 0, []), (9, .iand, 0, 0, []),
  (10, .iconst 1, 0, 0, []), (11, .if_icmp .ne 7, 18, 0, []), (14, .iconst 1, 0, 0, []), (15, .goto 4, 19, 0, []),
  (18, .iconst 0, 0, 0, []), (19, .ireturn, 0, 0, [])
  ]
/-- ChainDesk.proposal(II)I -/
def cd_r17 : List (Nat × Instr × Nat × Nat × List Nat) := [
  (0, .aload_n 0, 0, 0, []), (1, .getfield 53, 0, 5, [260]), (4, .iload_n 1, 0, 0, []), (5, .invokevirtual 132, 18, 1, [308, 309, 310, 66, 311]),
  (8, .astore_n 3, 0, 0, []), (9, .aload_n 3, 0, 0, []), (10, .ifnonnull 5, 15, 0, []), (13, .iconst (-1), 0, 0, []),
  (14, .ireturn, 0, 0, []), (15, .iload_n 2, 0, 0, []), (16, .tableswitch 43 0 2 #[28, 33, 38], 0, 0, []), (44, .aload_n 3, 0, 0, []),
  (45, .getfield 136, 8, 1, [201]), (48, .ireturn, 0, 0, []), (49, .aload_n 3, 0, 0, []), (50, .getfield 141, 8, 3, [207]),
  (53, .ireturn, 0, 0, []), (54, .aload_n 3, 0, 0, []), (55, .getfield 142, 8, 2, [204]), (58, .ireturn, 0, 0, []),
  (59, .iconst (-1), 0, 0, []), (60, .ireturn, 0, 0, [])
  ]
/-- ChainDesk$Completer.proposed(I)LChainDesk$Phrase; -/
def cd_r18 : List (Nat × Instr × Nat × Nat × List Nat) := [
  (0, .iload_n 1, 0, 0, []), (1, .ifCond .lt 20, 21, 0, []), (4, .iload_n 1, 0, 0, []), (5, .aload_n 0, 0, 0, []),
  (6, .getfield 83, 3, 6, [239]), (9, .if_icmp .ge 12, 21, 0, []), (12, .aload_n 0, 0, 0, []), (13, .getfield 19, 3, 3, [236]),
  (16, .iload_n 1, 0, 0, []), (17, .aaload, 0, 0, []), (18, .goto 4, 22, 0, []), (21, .aconst_null, 0, 0, []),
  (22, .areturn, 0, 0, [])
  ]
/-- ChainDesk.letter(II)I -/
def cd_r19 : List (Nat × Instr × Nat × Nat × List Nat) := [
  (0, .aload_n 0, 0, 0, []), (1, .getfield 53, 0, 5, [260]), (4, .iload_n 1, 0, 0, []), (5, .invokevirtual 132, 18, 1, [308, 309, 310, 66, 311]),
  (8, .astore_n 3, 0, 0, []), (9, .aload_n 3, 0, 0, []), (10, .ifnonnull 7, 17, 0, []), (13, .iconst 0, 0, 0, []),
  (14, .goto 8, 22, 0, []), (17, .aload_n 3, 0, 0, []), (18, .iload_n 2, 0, 0, []), (19, .invokevirtual 145, 20, 1, [316, 317, 318, 67, 319]),
  (22, .ireturn, 0, 0, [])
  ]
/-- ChainDesk$Phrase.letterAt(I)I -/
def cd_r20 : List (Nat × Instr × Nat × Nat × List Nat) := [
  (0, .iload_n 1, 0, 0, []), (1, .ifCond .lt 20, 21, 0, []), (4, .iload_n 1, 0, 0, []), (5, .aload_n 0, 0, 0, []),
  (6, .getfield 15, 8, 1, [199]), (9, .if_icmp .ge 12, 21, 0, []), (12, .aload_n 0, 0, 0, []), (13, .getfield 9, 8, 0, [198]),
  (16, .iload_n 1, 0, 0, []), (17, .caload, 0, 0, []), (18, .goto 4, 22, 0, []), (21, .iconst 0, 0, 0, []),
  (22, .ireturn, 0, 0, [])
  ]
/-- ChainDesk.members(I)I -/
def cd_r21 : List (Nat × Instr × Nat × Nat × List Nat) := [
  (0, .aload_n 0, 0, 0, []), (1, .getfield 19, 0, 1, [256]), (4, .iload_n 1, 0, 0, []), (5, .invokevirtual 149, 22, 1, [324, 325, 326, 62, 327]),
  (8, .astore_n 2, 0, 0, []), (9, .aload_n 2, 0, 0, []), (10, .ifnonnull 7, 17, 0, []), (13, .iconst (-1), 0, 0, []),
  (14, .goto 7, 21, 0, []), (17, .aload_n 2, 0, 0, []), (18, .getfield 89, 4, 3, [411]), (21, .ireturn, 0, 0, [])
  ]
/-- ChainDesk$Catalog.declared(I)LChainDesk$Declaration; -/
def cd_r22 : List (Nat × Instr × Nat × Nat × List Nat) := [
  (0, .iload_n 1, 0, 0, []), (1, .ifCond .lt 21, 22, 0, []), (4, .iload_n 1, 0, 0, []), (5, .aload_n 0, 0, 0, []),
  (6, .getfield 11, 2, 0, [118]), (9, .arraylength, 0, 0, []), (10, .if_icmp .ge 12, 22, 0, []), (13, .aload_n 0, 0, 0, []),
  (14, .getfield 11, 2, 0, [118]), (17, .iload_n 1, 0, 0, []), (18, .aaload, 0, 0, []), (19, .goto 4, 23, 0, []),
  (22, .aconst_null, 0, 0, []), (23, .areturn, 0, 0, [])
  ]
/-- ChainDesk.seen(II)I -/
def cd_r23 : List (Nat × Instr × Nat × Nat × List Nat) := [
  (0, .iload_n 1, 0, 0, []), (1, .invokestatic 101, 24, 1, [332, 333, 60, 334]), (4, .ifCond .eq 12, 16, 0, []), (7, .iload_n 2, 0, 0, []),
  (8, .ifCond .lt 8, 16, 0, []), (11, .iload_n 2, 0, 0, []), (12, .iconst 1, 0, 0, []), (13, .if_icmp .le 5, 18, 0, []),
  (16, .iconst (-1), 0, 0, []), (17, .ireturn, 0, 0, []), (18, .aload_n 0, 0, 0, []), (19, .getfield 19, 0, 1, [256]),
  (22, .iload_n 1, 0, 0, []), (23, .iload_n 2, 0, 0, []), (24, .ifCond .ne 9, 33, 0, []), (27, .getstatic 153, 0, 0, [335]),
  (30, .goto 6, 36, 0, []), (33, .getstatic 159, 1, 0, [337]), (36, .invokevirtual 162, 25, 2, [339, 340, 341, 62, 342]), (39, .ireturn, 0, 0, [])
  ]
/-- ChainDesk.isClass(I)Z -/
def cd_r24 : List (Nat × Instr × Nat × Nat × List Nat) := [
  (0, .iload_n 0, 0, 0, []), (1, .ifCond .lt 13, 14, 0, []), (4, .iload_n 0, 0, 0, []), (5, .bipush 10, 0, 0, []),
  (7, .if_icmp .ge 7, 14, 0, []), (10, .iconst 1, 0, 0, []), (11, .goto 4, 15, 0, []), (14, .iconst 0, 0, 0, []),
  (15, .ireturn, 0, 0, [])
  ]
/-- ChainDesk$Catalog.countSeen(ILChainDesk$Kind;)I -/
def cd_r25 : List (Nat × Instr × Nat × Nat × List Nat) := [
  (0, .iconst 0, 0, 0, []), (1, .istore_n 3, 0, 0, []), (2, .aload_n 0, 0, 0, []), (3, .iload_n 1, 0, 0, []),
  (4, .invokevirtual 28, 22, 1, [343, 325, 326, 62, 327]), (7, .astore 4, 0, 0, []), (9, .aload 4, 0, 0, []), (11, .ifnull 66, 77, 0, []),
  (14, .iconst 0, 0, 0, []), (15, .istore 5, 0, 0, []), (17, .iload 5, 0, 0, []), (19, .aload 4, 0, 0, []),
  (21, .getfield 69, 4, 3, [413]), (24, .if_icmp .ge 43, 67, 0, []), (27, .aload 4, 0, 0, []), (29, .getfield 72, 4, 2, [409]),
  (32, .iload 5, 0, 0, []), (34, .aaload, 0, 0, []), (35, .getfield 53, 7, 0, [498]), (38, .aload_n 2, 0, 0, []),
  (39, .if_acmp .ne 22, 61, 0, []), (42, .aload_n 0, 0, 0, []), (43, .iload_n 1, 0, 0, []), (44, .aload 4, 0, 0, []),
  (46, .getfield 72, 4, 2, [409]), (49, .iload 5, 0, 0, []), (51, .aaload, 0, 0, []), (52, .invokevirtual 76, 26, 2, [344, 345, 346, 62, 347]),
  (55, .ifCond .eq 6, 61, 0, []), (58, .iinc 3 1, 0, 0, []), (61, .iinc 5 1, 0, 0, []), (64, .goto (-47), 17, 0, []),
  (67, .aload 4, 0, 0, []), (69, .getfield 32, 4, 1, [405]), (72, .astore 4, 0, 0, []), (74, .goto (-65), 9, 0, []),
  (77, .iload_n 3, 0, 0, []), (78, .ireturn, 0, 0, [])
  ]
/-- ChainDesk$Catalog.isSeen(ILChainDesk$Member;)Z -/
def cd_r26 : List (Nat × Instr × Nat × Nat × List Nat) := [
  (0, .aload_n 2, 0, 0, []), (1, .getfield 53, 7, 0, [498]), (4, .getstatic 57, 2, 0, [348]), (7, .if_acmp .eq 24, 31, 0, []),
  (10, .aload_n 0, 0, 0, []), (11, .iload_n 1, 0, 0, []), (12, .aload_n 2, 0, 0, []), (13, .getfield 53, 7, 0, [498]),
  (16, .aload_n 2, 0, 0, []), (17, .getfield 62, 7, 3, [510]), (20, .invokevirtual 65, 27, 3, [350, 351, 352, 62, 353]), (23, .aload_n 2, 0, 0, []),
  (24, .if_acmp .ne 7, 31, 0, []), (27, .iconst 1, 0, 0, []), (28, .goto 4, 32, 0, []), (31, .iconst 0, 0, 0, []),
  (32, .ireturn, 0, 0, [])
  ]
/-- ChainDesk$Catalog.findSeen(ILChainDesk$Kind;I)LChainDesk$Member; -/
def cd_r27 : List (Nat × Instr × Nat × Nat × List Nat) := [
  (0, .aload_n 0, 0, 0, []), (1, .iload_n 1, 0, 0, []), (2, .invokevirtual 28, 22, 1, [343, 325, 326, 62, 327]), (5, .astore 4, 0, 0, []),
  (7, .aload 4, 0, 0, []), (9, .ifnull 49, 58, 0, []), (12, .aload 4, 0, 0, []), (14, .aload_n 2, 0, 0, []),
  (15, .iload_n 3, 0, 0, []), (16, .invokevirtual 42, 28, 2, [354, 355, 356, 70, 357]), (19, .astore 5, 0, 0, []), (21, .aload 5, 0, 0, []),
  (23, .ifnull 25, 48, 0, []), (26, .aload 5, 0, 0, []), (28, .getfield 46, 7, 2, [506]), (31, .ifCond .ne 17, 48, 0, []),
  (34, .aload_n 0, 0, 0, []), (35, .aload 4, 0, 0, []), (37, .aload 5, 0, 0, []), (39, .invokevirtual 49, 30, 2, [362, 363, 364, 62, 365]),
  (42, .ifCond .eq 6, 48, 0, []), (45, .aload 5, 0, 0, []), (47, .areturn, 0, 0, []), (48, .aload 4, 0, 0, []),
  (50, .getfield 32, 4, 1, [405]), (53, .astore 4, 0, 0, []), (55, .goto (-48), 7, 0, []), (58, .aconst_null, 0, 0, []),
  (59, .areturn, 0, 0, [])
  ]
/-- ChainDesk$Declaration.find(LChainDesk$Kind;I)LChainDesk$Member; -/
def cd_r28 : List (Nat × Instr × Nat × Nat × List Nat) := [
  (0, .iconst 0, 0, 0, []), (1, .istore_n 3, 0, 0, []), (2, .iload_n 3, 0, 0, []), (3, .aload_n 0, 0, 0, []),
  (4, .getfield 25, 4, 3, [410]), (7, .if_icmp .ge 30, 37, 0, []), (10, .aload_n 0, 0, 0, []), (11, .getfield 11, 4, 2, [407]),
  (14, .iload_n 3, 0, 0, []), (15, .aaload, 0, 0, []), (16, .aload_n 1, 0, 0, []), (17, .iload_n 2, 0, 0, []),
  (18, .invokevirtual 28, 29, 2, [358, 359, 360, 75, 361]), (21, .ifCond .eq 10, 31, 0, []), (24, .aload_n 0, 0, 0, []), (25, .getfield 11, 4, 2, [407]),
  (28, .iload_n 3, 0, 0, []), (29, .aaload, 0, 0, []), (30, .areturn, 0, 0, []), (31, .iinc 3 1, 0, 0, []),
  (34, .goto (-32), 2, 0, []), (37, .aconst_null, 0, 0, []), (38, .areturn, 0, 0, [])
  ]
/-- ChainDesk$Member.isNamed(LChainDesk$Kind;I)Z -/
def cd_r29 : List (Nat × Instr × Nat × Nat × List Nat) := [
  (0, .aload_n 0, 0, 0, []), (1, .getfield 15, 7, 0, [496]), (4, .aload_n 1, 0, 0, []), (5, .if_acmp .ne 15, 20, 0, []),
  (8, .aload_n 0, 0, 0, []), (9, .getfield 26, 7, 3, [508]), (12, .iload_n 2, 0, 0, []), (13, .if_icmp .ne 7, 20, 0, []),
  (16, .iconst 1, 0, 0, []), (17, .goto 4, 21, 0, []), (20, .iconst 0, 0, 0, []), (21, .ireturn, 0, 0, [])
  ]
/-- ChainDesk$Catalog.isUsable(LChainDesk$Declaration;LChainDesk$Member;)Z -/
def cd_r30 : List (Nat × Instr × Nat × Nat × List Nat) := [
  (0, .aload_n 2, 0, 0, []), (1, .getfield 36, 7, 1, [502]), (4, .ifCond .eq 14, 18, 0, []), (7, .aload_n 1, 0, 0, []),
  (8, .getfield 25, 4, 0, [402]), (11, .aload_n 0, 0, 0, []), (12, .getfield 21, 2, 2, [120]), (15, .if_icmp .ne 7, 22, 0, []),
  (18, .iconst 1, 0, 0, []), (19, .goto 4, 23, 0, []), (22, .iconst 0, 0, 0, []), (23, .ireturn, 0, 0, [])
  ]
/-- ChainDesk.declare()I -/
def cd_r31 : List (Nat × Instr × Nat × Nat × List Nat) := [
  (0, .aload_n 0, 0, 0, []), (1, .getfield 35, 0, 3, [258]), (4, .invokevirtual 65, 32, 0, [375, 376, 377, 64, 378]), (7, .astore_n 1, 0, 0, []),
  (8, .aload_n 1, 0, 0, []), (9, .ifnull 28, 37, 0, []), (12, .aload_n 0, 0, 0, []), (13, .getfield 35, 0, 3, [258]),
  (16, .aload_n 1, 0, 0, []), (17, .invokevirtual 69, 37, 1, [423, 424, 425, 64, 426]), (20, .ifCond .eq 17, 37, 0, []), (23, .aload_n 0, 0, 0, []),
  (24, .getfield 10, 0, 0, [255]), (27, .invokevirtual 73, 59, 0, [584, 585, 586, 61, 587]), (30, .ifCond .eq 7, 37, 0, []), (33, .iconst 1, 0, 0, []),
  (34, .goto 4, 38, 0, []), (37, .iconst 0, 0, 0, []), (38, .istore_n 2, 0, 0, []), (39, .aload_n 0, 0, 0, []),
  (40, .getfield 10, 0, 0, [255]), (43, .invokevirtual 77, 60, 0, [588, 589, 590, 61, 591]), (46, .iload_n 2, 0, 0, []), (47, .ifCond .ne 11, 58, 0, []),
  (50, .new 80, 12, 82, [592, 593, 81]), (58, .aload_n 0, 0, 0, []), (59, .getfield 19, 0, 1, [256]), (62, .aload_n 1, 0, 0, []),
  (63, .invokevirtual 83, 61, 1, [654, 655, 656, 62, 657]), (66, .ifCond .ne 11, 77, 0, []), (69, .new 86, 13, 88, [658, 659, 82]), (77, .aload_n 1, 0, 0, []),
  (78, .getfield 89, 4, 3, [411]), (81, .ireturn, 0, 0, [])
  ]
/-- ChainDesk$DeclarationReader.readHead()LChainDesk$Declaration; -/
def cd_r32 : List (Nat × Instr × Nat × Nat × List Nat) := [
  (0, .aload_n 0, 0, 0, []), (1, .getfield 9, 5, 0, [156]), (4, .invokevirtual 19, 33, 0, [379, 380, 381, 61, 382]), (7, .istore_n 1, 0, 0, []),
  (8, .iload_n 1, 0, 0, []), (9, .iconst (-1), 0, 0, []), (10, .if_icmp .eq 19, 29, 0, []), (13, .aload_n 0, 0, 0, []),
  (14, .getfield 9, 5, 0, [156]), (17, .bipush 58, 0, 0, []), (19, .invokevirtual 25, 34, 1, [384, 385, 386, 61, 387]), (22, .ifCond .eq 7, 29, 0, []),
  (25, .iconst 1, 0, 0, []), (26, .goto 4, 30, 0, []), (29, .iconst 0, 0, 0, []), (30, .istore_n 2, 0, 0, []),
  (31, .iload_n 2, 0, 0, []), (32, .ifCond .eq 20, 52, 0, []), (35, .aload_n 0, 0, 0, []), (36, .getfield 15, 5, 1, [157]),
  (39, .aload_n 0, 0, 0, []), (40, .getfield 9, 5, 0, [156]), (43, .invokevirtual 19, 33, 0, [379, 380, 381, 61, 382]), (46, .invokevirtual 29, 22, 1, [392, 325, 326, 62, 327]),
  (49, .goto 4, 53, 0, []), (52, .aconst_null, 0, 0, []), (53, .astore_n 3, 0, 0, []), (54, .iload_n 1, 0, 0, []),
  (55, .iconst (-1), 0, 0, []), (56, .if_icmp .eq 23, 79, 0, []), (59, .iload_n 2, 0, 0, []), (60, .ifCond .eq 7, 67, 0, []),
  (63, .aload_n 3, 0, 0, []), (64, .ifnull 15, 79, 0, []), (67, .aload_n 0, 0, 0, []), (68, .getfield 9, 5, 0, [156]),
  (71, .bipush 123, 0, 0, []), (73, .invokevirtual 25, 34, 1, [384, 385, 386, 61, 387]), (76, .ifCond .ne 5, 81, 0, []), (79, .aconst_null, 0, 0, []),
  (80, .areturn, 0, 0, []), (81, .new 35, 4, 0, [393, 394, 70]), (84, .dup, 0, 0, []), (85, .iload_n 1, 0, 0, []),
  (86, .aload_n 3, 0, 0, []), (87, .invokespecial 37, 36, 2, [395, 396, 70, 397]), (90, .areturn, 0, 0, [])
  ]
/-- ChainDesk$Buffer.takeClass()I -/
def cd_r33 : List (Nat × Instr × Nat × Nat × List Nat) := [
  (0, .aload_n 0, 0, 0, []), (1, .getfield 19, 1, 2, [101]), (4, .aload_n 0, 0, 0, []), (5, .getfield 15, 1, 1, [100]),
  (8, .if_icmp .eq 21, 29, 0, []), (11, .aload_n 0, 0, 0, []), (12, .getfield 9, 1, 0, [99]), (15, .aload_n 0, 0, 0, []),
  (16, .getfield 19, 1, 2, [101]), (19, .caload, 0, 0, []), (20, .bipush 65, 0, 0, []), (22, .isub, 0, 0, []),
  (23, .invokestatic 35, 24, 1, [383, 333, 60, 334]), (26, .ifCond .ne 5, 31, 0, []), (29, .iconst (-1), 0, 0, []), (30, .ireturn, 0, 0, []),
  (31, .aload_n 0, 0, 0, []), (32, .getfield 9, 1, 0, [99]), (35, .aload_n 0, 0, 0, []), (36, .dup, 0, 0, []),
  (37, .getfield 19, 1, 2, [101]), (40, .dup_x1, 0, 0, []), (41, .iconst 1, 0, 0, []), (42, .iadd, 0, 0, []),
  (43, .putfield 19, 1, 2, [101]), (46, .caload, 0, 0, []), (47, .bipush 65, 0, 0, []), (49, .isub, 0, 0, []),
  (50, .ireturn, 0, 0, [])
  ]
/-- ChainDesk$Buffer.take(C)Z -/
def cd_r34 : List (Nat × Instr × Nat × Nat × List Nat) := [
  (0, .aload_n 0, 0, 0, []), (1, .iload_n 1, 0, 0, []), (2, .invokevirtual 22, 35, 1, [388, 389, 390, 61, 391]), (5, .ifCond .ne 5, 10, 0, []),
  (8, .iconst 0, 0, 0, []), (9, .ireturn, 0, 0, []), (10, .aload_n 0, 0, 0, []), (11, .dup, 0, 0, []),
  (12, .getfield 19, 1, 2, [101]), (15, .iconst 1, 0, 0, []), (16, .iadd, 0, 0, []), (17, .putfield 19, 1, 2, [101]),
  (20, .iconst 1, 0, 0, []), (21, .ireturn, 0, 0, [])
  ]
/-- ChainDesk$Buffer.isAt(C)Z -/
def cd_r35 : List (Nat × Instr × Nat × Nat × List Nat) := [
  (0, .aload_n 0, 0, 0, []), (1, .getfield 19, 1, 2, [101]), (4, .aload_n 0, 0, 0, []), (5, .getfield 15, 1, 1, [100]),
  (8, .if_icmp .ge 20, 28, 0, []), (11, .aload_n 0, 0, 0, []), (12, .getfield 9, 1, 0, [99]), (15, .aload_n 0, 0, 0, []),
  (16, .getfield 19, 1, 2, [101]), (19, .caload, 0, 0, []), (20, .iload_n 1, 0, 0, []), (21, .if_icmp .ne 7, 28, 0, []),
  (24, .iconst 1, 0, 0, []), (25, .goto 4, 29, 0, []), (28, .iconst 0, 0, 0, []), (29, .ireturn, 0, 0, [])
  ]
/-- ChainDesk$Declaration.<init>(ILChainDesk$Declaration;)V -/
def cd_r36 : List (Nat × Instr × Nat × Nat × List Nat) := [
  (0, .aload_n 0, 0, 0, []), (1, .invokespecial 3, 1000, 0, [398, 91, 92]), (4, .aload_n 0, 0, 0, []), (5, .bipush 6, 0, 0, []),
  (7, .anewarray 9, 7, 0, [399, 400]), (10, .putfield 11, 4, 2, [407]), (13, .aload_n 0, 0, 0, []), (14, .iload_n 1, 0, 0, []),
  (15, .putfield 17, 4, 0, [401]), (18, .aload_n 0, 0, 0, []), (19, .aload_n 2, 0, 0, []), (20, .putfield 21, 4, 1, [404]),
  (23, .return_, 0, 0, [])
  ]
/-- ChainDesk$DeclarationReader.readMembers(LChainDesk$Declaration;)Z -/
def cd_r37 : List (Nat × Instr × Nat × Nat × List Nat) := [
  (0, .aload_n 0, 0, 0, []), (1, .getfield 9, 5, 0, [156]), (4, .bipush 125, 0, 0, []), (6, .invokevirtual 25, 34, 1, [384, 385, 386, 61, 387]),
  (9, .ifCond .eq 5, 14, 0, []), (12, .iconst 1, 0, 0, []), (13, .ireturn, 0, 0, []), (14, .iconst 0, 0, 0, []),
  (15, .istore_n 2, 0, 0, []), (16, .iload_n 2, 0, 0, []), (17, .bipush 6, 0, 0, []), (19, .if_icmp .ge 41, 60, 0, []),
  (22, .aload_n 0, 0, 0, []), (23, .aload_n 1, 0, 0, []), (24, .invokevirtual 40, 38, 1, [427, 429, 0, 64, 430]), (27, .ifCond .ne 5, 32, 0, []),
  (30, .iconst 0, 0, 0, []), (31, .ireturn, 0, 0, []), (32, .aload_n 0, 0, 0, []), (33, .getfield 9, 5, 0, [156]),
  (36, .bipush 59, 0, 0, []), (38, .invokevirtual 25, 34, 1, [384, 385, 386, 61, 387]), (41, .ifCond .ne 13, 54, 0, []), (44, .aload_n 0, 0, 0, []),
  (45, .getfield 9, 5, 0, [156]), (48, .bipush 125, 0, 0, []), (50, .invokevirtual 25, 34, 1, [384, 385, 386, 61, 387]), (53, .ireturn, 0, 0, []),
  (54, .iinc 2 1, 0, 0, []), (57, .goto (-41), 16, 0, []), (60, .iconst 0, 0, 0, []), (61, .ireturn, 0, 0, [])
  ]
/-- ChainDesk$DeclarationReader.readMember(LChainDesk$Declaration;)Z -/
def cd_r38 : List (Nat × Instr × Nat × Nat × List Nat) := [
  (0, .aload_n 0, 0, 0, []), (1, .getfield 9, 5, 0, [156]), (4, .ldc 44, 10, 0, [431]), (6, .invokevirtual 46, 39, 1, [432, 433, 434, 61, 435]),
  (9, .istore_n 2, 0, 0, []), (10, .aload_n 0, 0, 0, []), (11, .getfield 9, 5, 0, [156]), (14, .ldc 50, 11, 0, [484]),
  (16, .invokevirtual 46, 39, 1, [432, 433, 434, 61, 435]), (19, .ifCond .eq 15, 34, 0, []), (22, .aload_n 0, 0, 0, []), (23, .iload_n 2, 0, 0, []),
  (24, .aload_n 1, 0, 0, []), (25, .getfield 52, 4, 0, [403]), (28, .invokevirtual 56, 47, 2, [485, 487, 1, 64, 488]), (31, .goto 8, 39, 0, []),
  (34, .aload_n 0, 0, 0, []), (35, .iload_n 2, 0, 0, []), (36, .invokevirtual 60, 53, 1, [555, 557, 4, 64, 558]), (39, .astore_n 3, 0, 0, []),
  (40, .aload_n 3, 0, 0, []), (41, .ifnull 23, 64, 0, []), (44, .aload_n 1, 0, 0, []), (45, .aload_n 3, 0, 0, []),
  (46, .invokevirtual 64, 55, 1, [566, 567, 568, 70, 569]), (49, .ifCond .eq 15, 64, 0, []), (52, .aload_n 1, 0, 0, []), (53, .aload_n 3, 0, 0, []),
  (54, .invokevirtual 68, 58, 1, [580, 581, 582, 70, 583]), (57, .ifCond .eq 7, 64, 0, []), (60, .iconst 1, 0, 0, []), (61, .goto 4, 65, 0, []),
  (64, .iconst 0, 0, 0, []), (65, .ireturn, 0, 0, [])
  ]
/-- ChainDesk$Buffer.takeText(Ljava/lang/String;)Z -/
def cd_r39 : List (Nat × Instr × Nat × Nat × List Nat) := [
  (0, .aload_n 1, 0, 0, []), (1, .invokevirtual 26, 40, 0, [436, 437, 438, 71, 439]), (4, .aload_n 0, 0, 0, []), (5, .getfield 15, 1, 1, [100]),
  (8, .aload_n 0, 0, 0, []), (9, .getfield 19, 1, 2, [101]), (12, .isub, 0, 0, []), (13, .if_icmp .le 5, 18, 0, []),
  (16, .iconst 0, 0, 0, []), (17, .ireturn, 0, 0, []), (18, .iconst 0, 0, 0, []), (19, .istore_n 2, 0, 0, []),
  (20, .iload_n 2, 0, 0, []), (21, .aload_n 1, 0, 0, []), (22, .invokevirtual 26, 40, 0, [436, 437, 438, 71, 439]), (25, .if_icmp .ge 30, 55, 0, []),
  (28, .aload_n 0, 0, 0, []), (29, .getfield 9, 1, 0, [99]), (32, .aload_n 0, 0, 0, []), (33, .getfield 19, 1, 2, [101]),
  (36, .iload_n 2, 0, 0, []), (37, .iadd, 0, 0, []), (38, .caload, 0, 0, []), (39, .aload_n 1, 0, 0, []),
  (40, .iload_n 2, 0, 0, []), (41, .invokevirtual 31, 42, 1, [446, 447, 448, 71, 449]), (44, .if_icmp .eq 5, 49, 0, []), (47, .iconst 0, 0, 0, []),
  (48, .ireturn, 0, 0, []), (49, .iinc 2 1, 0, 0, []), (52, .goto (-32), 20, 0, []), (55, .aload_n 0, 0, 0, []),
  (56, .dup, 0, 0, []), (57, .getfield 19, 1, 2, [101]), (60, .aload_n 1, 0, 0, []), (61, .invokevirtual 26, 40, 0, [436, 437, 438, 71, 439]),
  (64, .iadd, 0, 0, []), (65, .putfield 19, 1, 2, [101]), (68, .iconst 1, 0, 0, []), (69, .ireturn, 0, 0, [])
  ]
/-- java/lang/String.length()I -/
def cd_r40 : List (Nat × Instr × Nat × Nat × List Nat) := [
  (0, .aload_n 0, 0, 0, []), (1, .getfield 9, 50, 0, [1216]), (4, .arraylength, 0, 0, []), (5, .aload_n 0, 0, 0, []),
  (6, .invokevirtual 335, 41, 0, [440, 441, 442, 71, 443]), (9, .ishr, 0, 0, []), (10, .ireturn, 0, 0, [])
  ]
/-- java/lang/String.coder()B -/
def cd_r41 : List (Nat × Instr × Nat × Nat × List Nat) := [
  (0, .getstatic 38, 3, 0, [444]), (3, .ifCond .eq 10, 13, 0, []), (6, .aload_n 0, 0, 0, []), (7, .getfield 15, 50, 1, [1217]),
  (10, .goto 4, 14, 0, []), (13, .iconst 1, 0, 0, []), (14, .ireturn, 0, 0, [])
  ]
/-- java/lang/String.charAt(I)C -/
def cd_r42 : List (Nat × Instr × Nat × Nat × List Nat) := [
  (0, .aload_n 0, 0, 0, []), (1, .invokevirtual 492, 43, 0, [450, 451, 452, 71, 453]), (4, .ifCond .eq 12, 16, 0, []), (7, .aload_n 0, 0, 0, []),
  (8, .getfield 9, 50, 0, [1216]), (11, .iload_n 1, 0, 0, []), (12, .invokestatic 495, 44, 2, [454, 455, 72, 456]), (15, .ireturn, 0, 0, []),
  (16, .aload_n 0, 0, 0, []), (17, .getfield 9, 50, 0, [1216]), (20, .iload_n 1, 0, 0, []), (24, .ireturn, 0, 0, [])
  ]
/-- java/lang/String.isLatin1()Z -/
def cd_r43 : List (Nat × Instr × Nat × Nat × List Nat) := [
  (0, .getstatic 38, 3, 0, [444]), (3, .ifCond .eq 14, 17, 0, []), (6, .aload_n 0, 0, 0, []), (7, .getfield 15, 50, 1, [1217]),
  (10, .ifCond .ne 7, 17, 0, []), (13, .iconst 1, 0, 0, []), (14, .goto 4, 18, 0, []), (17, .iconst 0, 0, 0, []),
  (18, .ireturn, 0, 0, [])
  ]
/-- java/lang/StringLatin1.charAt([BI)C -/
def cd_r44 : List (Nat × Instr × Nat × Nat × List Nat) := [
  (0, .iload_n 1, 0, 0, []), (1, .aload_n 0, 0, 0, []), (2, .arraylength, 0, 0, []), (3, .invokestatic 9, 45, 2, [457, 458, 71, 459]),
  (6, .aload_n 0, 0, 0, []), (7, .iload_n 1, 0, 0, []), (8, .baload, 0, 0, []), (9, .sipush 255, 0, 0, []),
  (12, .iand, 0, 0, []), (13, .i2c, 0, 0, []), (14, .ireturn, 0, 0, [])
  ]
/-- java/lang/String.checkIndex(II)V -/
def cd_r45 : List (Nat × Instr × Nat × Nat × List Nat) := [
  (0, .iload_n 0, 0, 0, []), (1, .iload_n 1, 0, 0, []), (2, .getstatic 1053, 4, 0, [460]), (5, .invokestatic 1059, 46, 3, [462, 463, 73, 464]),
  (8, .pop, 0, 0, []), (9, .return_, 0, 0, [])
  ]
/-- jdk/internal/util/Preconditions.checkIndex(IILjava/util/function/BiFunction;)I -/
def cd_r46 : List (Nat × Instr × Nat × Nat × List Nat) := [
  (0, .iload_n 0, 0, 0, []), (1, .ifCond .lt 8, 9, 0, []), (4, .iload_n 0, 0, 0, []), (5, .iload_n 1, 0, 0, []),
  (6, .if_icmp .lt 10, 16, 0, []), (9, .aload_n 2, 0, 0, []), (10, .iload_n 0, 0, 0, []), (11, .iload_n 1, 0, 0, []),
  (15, .athrow, 0, 0, []), (16, .iload_n 0, 0, 0, []), (17, .ireturn, 0, 0, [])
  ]
/-- ChainDesk$DeclarationReader.readMaker(ZI)LChainDesk$Member; -/
def cd_r47 : List (Nat × Instr × Nat × Nat × List Nat) := [
  (0, .new 71, 7, 0, [489, 490, 75]), (3, .dup, 0, 0, []), (4, .getstatic 73, 2, 0, [491]), (7, .iload_n 1, 0, 0, []),
  (8, .iconst 0, 0, 0, []), (9, .iconst 0, 0, 0, []), (10, .invokespecial 79, 48, 4, [492, 493, 75, 494]), (13, .astore_n 3, 0, 0, []),
  (14, .aload_n 3, 0, 0, []), (15, .iconst 3, 0, 0, []), (16, .iload_n 2, 0, 0, []), (17, .iadd, 0, 0, []),
  (18, .putfield 82, 7, 6, [519]), (21, .aload_n 0, 0, 0, []), (22, .aload_n 3, 0, 0, []), (23, .invokevirtual 85, 49, 1, [538, 540, 2, 64, 541]),
  (26, .ifCond .eq 7, 33, 0, []), (29, .aload_n 3, 0, 0, []), (30, .goto 4, 34, 0, []), (33, .aconst_null, 0, 0, []),
  (34, .areturn, 0, 0, [])
  ]
/-- ChainDesk$Member.<init>(LChainDesk$Kind;ZZI)V -/
def cd_r48 : List (Nat × Instr × Nat × Nat × List Nat) := [
  (0, .aload_n 0, 0, 0, []), (1, .invokespecial 3, 1000, 0, [495, 91, 92]), (4, .aload_n 0, 0, 0, []), (5, .iconst 2, 0, 0, []),
  (6, .newarray .int, 0, 0, [129]), (8, .putfield 9, 7, 4, [512]), (11, .aload_n 0, 0, 0, []), (12, .aload_n 1, 0, 0, []),
  (13, .putfield 15, 7, 0, [496]), (16, .aload_n 0, 0, 0, []), (17, .iload_n 2, 0, 0, []), (18, .putfield 19, 7, 1, [501]),
  (21, .aload_n 0, 0, 0, []), (22, .iload_n 3, 0, 0, []), (23, .putfield 23, 7, 2, [504]), (26, .aload_n 0, 0, 0, []),
  (27, .iload 4, 0, 0, []), (29, .putfield 26, 7, 3, [508]), (32, .return_, 0, 0, [])
  ]
/-- ChainDesk$DeclarationReader.readParameters(LChainDesk$Member;)Z -/
def cd_r49 : List (Nat × Instr × Nat × Nat × List Nat) := [
  (0, .aload_n 0, 0, 0, []), (1, .getfield 9, 5, 0, [156]), (4, .bipush 41, 0, 0, []), (6, .invokevirtual 25, 34, 1, [384, 385, 386, 61, 387]),
  (9, .ifCond .eq 5, 14, 0, []), (12, .iconst 1, 0, 0, []), (13, .ireturn, 0, 0, []), (14, .iconst 0, 0, 0, []),
  (15, .istore_n 2, 0, 0, []), (16, .iload_n 2, 0, 0, []), (17, .iconst 2, 0, 0, []), (18, .if_icmp .ge 51, 69, 0, []),
  (21, .aload_n 0, 0, 0, []), (22, .getfield 9, 5, 0, [156]), (25, .invokevirtual 99, 50, 0, [542, 543, 544, 61, 545]), (28, .istore_n 3, 0, 0, []),
  (29, .iload_n 3, 0, 0, []), (30, .iconst (-1), 0, 0, []), (31, .if_icmp .ne 5, 36, 0, []), (34, .iconst 0, 0, 0, []),
  (35, .ireturn, 0, 0, []), (36, .aload_n 1, 0, 0, []), (37, .iload_n 3, 0, 0, []), (38, .invokevirtual 102, 52, 1, [551, 552, 553, 75, 554]),
  (41, .aload_n 0, 0, 0, []), (42, .getfield 9, 5, 0, [156]), (45, .bipush 44, 0, 0, []), (47, .invokevirtual 25, 34, 1, [384, 385, 386, 61, 387]),
  (50, .ifCond .ne 13, 63, 0, []), (53, .aload_n 0, 0, 0, []), (54, .getfield 9, 5, 0, [156]), (57, .bipush 41, 0, 0, []),
  (59, .invokevirtual 25, 34, 1, [384, 385, 386, 61, 387]), (62, .ireturn, 0, 0, []), (63, .iinc 2 1, 0, 0, []), (66, .goto (-50), 16, 0, []),
  (69, .iconst 0, 0, 0, []), (70, .ireturn, 0, 0, [])
  ]
/-- ChainDesk$Buffer.takeType()I -/
def cd_r50 : List (Nat × Instr × Nat × Nat × List Nat) := [
  (0, .aload_n 0, 0, 0, []), (1, .invokevirtual 39, 33, 0, [546, 380, 381, 61, 382]), (4, .istore_n 1, 0, 0, []), (5, .iload_n 1, 0, 0, []),
  (6, .iconst (-1), 0, 0, []), (7, .if_icmp .eq 7, 14, 0, []), (10, .iconst 3, 0, 0, []), (11, .iload_n 1, 0, 0, []),
  (12, .iadd, 0, 0, []), (13, .ireturn, 0, 0, []), (14, .aload_n 0, 0, 0, []), (15, .invokevirtual 42, 51, 0, [547, 549, 3, 61, 550]),
  (18, .lookupswitch 40 #[(6909556, 34), (1651470188, 38), (1819242087, 36)], 0, 0, []), (52, .iconst 0, 0, 0, []), (53, .ireturn, 0, 0, []), (54, .iconst 1, 0, 0, []),
  (55, .ireturn, 0, 0, []), (56, .iconst 2, 0, 0, []), (57, .ireturn, 0, 0, []), (58, .iconst (-1), 0, 0, []),
  (59, .ireturn, 0, 0, [])
  ]
/-- ChainDesk$Buffer.takeWord()I -/
def cd_r51 : List (Nat × Instr × Nat × Nat × List Nat) := [
  (0, .aload_n 0, 0, 0, []), (1, .getfield 19, 1, 2, [101]), (4, .istore_n 1, 0, 0, []), (5, .iconst 0, 0, 0, []),
  (6, .istore_n 2, 0, 0, []), (7, .aload_n 0, 0, 0, []), (8, .getfield 19, 1, 2, [101]), (11, .aload_n 0, 0, 0, []),
  (12, .getfield 15, 1, 1, [100]), (15, .if_icmp .ge 48, 63, 0, []), (18, .aload_n 0, 0, 0, []), (19, .getfield 9, 1, 0, [99]),
  (22, .aload_n 0, 0, 0, []), (23, .getfield 19, 1, 2, [101]), (26, .caload, 0, 0, []), (27, .istore_n 3, 0, 0, []),
  (28, .iload_n 3, 0, 0, []), (29, .bipush 97, 0, 0, []), (31, .if_icmp .lt 32, 63, 0, []), (34, .iload_n 3, 0, 0, []),
  (35, .bipush 122, 0, 0, []), (37, .if_icmp .le 6, 43, 0, []), (40, .goto 23, 63, 0, []), (43, .iload_n 2, 0, 0, []),
  (44, .bipush 8, 0, 0, []), (46, .ishl, 0, 0, []), (47, .iload_n 3, 0, 0, []), (48, .ior, 0, 0, []),
  (49, .istore_n 2, 0, 0, []), (50, .aload_n 0, 0, 0, []), (51, .dup, 0, 0, []), (52, .getfield 19, 1, 2, [101]),
  (55, .iconst 1, 0, 0, []), (56, .iadd, 0, 0, []), (57, .putfield 19, 1, 2, [101]), (60, .goto (-53), 7, 0, []),
  (63, .aload_n 0, 0, 0, []), (64, .getfield 19, 1, 2, [101]), (67, .iload_n 1, 0, 0, []), (68, .isub, 0, 0, []),
  (69, .iconst 4, 0, 0, []), (70, .if_icmp .gt 7, 77, 0, []), (73, .iload_n 2, 0, 0, []), (74, .goto 4, 78, 0, []),
  (77, .iconst 0, 0, 0, []), (78, .ireturn, 0, 0, [])
  ]
/-- ChainDesk$Member.addParameter(I)V -/
def cd_r52 : List (Nat × Instr × Nat × Nat × List Nat) := [
  (0, .aload_n 0, 0, 0, []), (1, .getfield 30, 7, 5, [515]), (4, .aload_n 0, 0, 0, []), (5, .getfield 9, 7, 4, [512]),
  (8, .arraylength, 0, 0, []), (9, .if_icmp .ge 23, 32, 0, []), (12, .aload_n 0, 0, 0, []), (13, .getfield 9, 7, 4, [512]),
  (16, .aload_n 0, 0, 0, []), (17, .getfield 30, 7, 5, [515]), (20, .iload_n 1, 0, 0, []), (21, .iastore, 0, 0, []),
  (22, .aload_n 0, 0, 0, []), (23, .dup, 0, 0, []), (24, .getfield 30, 7, 5, [515]), (27, .iconst 1, 0, 0, []),
  (28, .iadd, 0, 0, []), (29, .putfield 30, 7, 5, [515]), (32, .return_, 0, 0, [])
  ]
/-- ChainDesk$DeclarationReader.readNamed(Z)LChainDesk$Member; -/
def cd_r53 : List (Nat × Instr × Nat × Nat × List Nat) := [
  (0, .aload_n 0, 0, 0, []), (1, .getfield 9, 5, 0, [156]), (4, .ldc 88, 12, 0, [559]), (6, .invokevirtual 46, 39, 1, [432, 433, 434, 61, 435]),
  (9, .istore_n 2, 0, 0, []), (10, .aload_n 0, 0, 0, []), (11, .getfield 9, 5, 0, [156]), (14, .invokevirtual 90, 54, 0, [560, 561, 562, 61, 563]),
  (17, .istore_n 3, 0, 0, []), (18, .iload_n 3, 0, 0, []), (19, .ifCond .ne 5, 24, 0, []), (22, .aconst_null, 0, 0, []),
  (23, .areturn, 0, 0, []), (24, .aload_n 0, 0, 0, []), (25, .getfield 9, 5, 0, [156]), (28, .bipush 40, 0, 0, []),
  (30, .invokevirtual 25, 34, 1, [384, 385, 386, 61, 387]), (33, .istore 4, 0, 0, []), (35, .iload 4, 0, 0, []), (37, .ifCond .eq 9, 46, 0, []),
  (40, .getstatic 93, 1, 0, [564]), (43, .goto 6, 49, 0, []), (46, .getstatic 96, 0, 0, [565]), (49, .astore 5, 0, 0, []),
  (51, .new 71, 7, 0, [489, 490, 75]), (54, .dup, 0, 0, []), (55, .aload 5, 0, 0, []), (57, .iload_n 1, 0, 0, []),
  (58, .iload_n 2, 0, 0, []), (59, .iload_n 3, 0, 0, []), (60, .invokespecial 79, 48, 4, [492, 493, 75, 494]), (63, .astore 6, 0, 0, []),
  (65, .iload 4, 0, 0, []), (67, .ifCond .eq 12, 79, 0, []), (70, .aload_n 0, 0, 0, []), (71, .aload 6, 0, 0, []),
  (73, .invokevirtual 85, 49, 1, [538, 540, 2, 64, 541]), (76, .ifCond .eq 15, 91, 0, []), (79, .aload_n 0, 0, 0, []), (80, .getfield 9, 5, 0, [156]),
  (83, .bipush 58, 0, 0, []), (85, .invokevirtual 25, 34, 1, [384, 385, 386, 61, 387]), (88, .ifCond .ne 5, 93, 0, []), (91, .aconst_null, 0, 0, []),
  (92, .areturn, 0, 0, []), (93, .aload 6, 0, 0, []), (95, .aload_n 0, 0, 0, []), (96, .getfield 9, 5, 0, [156]),
  (99, .invokevirtual 99, 50, 0, [542, 543, 544, 61, 545]), (102, .putfield 82, 7, 6, [519]), (105, .aload 6, 0, 0, []), (107, .getfield 82, 7, 6, [519]),
  (110, .iconst (-1), 0, 0, []), (111, .if_icmp .ne 7, 118, 0, []), (114, .aconst_null, 0, 0, []), (115, .goto 5, 120, 0, []),
  (118, .aload 6, 0, 0, []), (120, .areturn, 0, 0, [])
  ]
/-- ChainDesk$Buffer.takeName()I -/
def cd_r54 : List (Nat × Instr × Nat × Nat × List Nat) := [
  (0, .aload_n 0, 0, 0, []), (1, .invokevirtual 42, 51, 0, [547, 549, 3, 61, 550]), (4, .istore_n 1, 0, 0, []), (5, .iload_n 1, 0, 0, []),
  (6, .lookupswitch 44 #[(6909556, 42), (7234935, 42), (1651470188, 42), (1819242087, 42)], 0, 0, []), (48, .iconst 0, 0, 0, []), (49, .ireturn, 0, 0, []), (50, .iload_n 1, 0, 0, []),
  (51, .ireturn, 0, 0, [])
  ]
/-- ChainDesk$Declaration.allows(LChainDesk$Member;)Z -/
def cd_r55 : List (Nat × Instr × Nat × Nat × List Nat) := [
  (0, .aload_n 0, 0, 0, []), (1, .aload_n 1, 0, 0, []), (2, .getfield 32, 7, 0, [497]), (5, .aload_n 1, 0, 0, []),
  (6, .getfield 36, 7, 3, [509]), (9, .invokevirtual 39, 28, 2, [570, 355, 356, 70, 357]), (12, .ifnull 5, 17, 0, []), (15, .iconst 0, 0, 0, []),
  (16, .ireturn, 0, 0, []), (17, .aload_n 1, 0, 0, []), (18, .getfield 32, 7, 0, [497]), (21, .getstatic 43, 1, 0, [571]),
  (24, .if_acmp .ne 11, 35, 0, []), (27, .aload_n 0, 0, 0, []), (28, .aload_n 1, 0, 0, []), (29, .invokevirtual 48, 56, 1, [572, 574, 5, 70, 575]),
  (32, .ifCond .eq 7, 39, 0, []), (35, .iconst 1, 0, 0, []), (36, .goto 4, 40, 0, []), (39, .iconst 0, 0, 0, []),
  (40, .ireturn, 0, 0, [])
  ]
/-- ChainDesk$Declaration.allowsOverride(LChainDesk$Member;)Z -/
def cd_r56 : List (Nat × Instr × Nat × Nat × List Nat) := [
  (0, .aload_n 0, 0, 0, []), (1, .getfield 21, 4, 1, [404]), (4, .astore_n 2, 0, 0, []), (5, .aload_n 2, 0, 0, []),
  (6, .ifnull 58, 64, 0, []), (9, .aload_n 2, 0, 0, []), (10, .getstatic 43, 1, 0, [571]), (13, .aload_n 1, 0, 0, []),
  (14, .getfield 36, 7, 3, [509]), (17, .invokevirtual 39, 28, 2, [570, 355, 356, 70, 357]), (20, .astore_n 3, 0, 0, []), (21, .aload_n 3, 0, 0, []),
  (22, .ifnull 34, 56, 0, []), (25, .aload_n 3, 0, 0, []), (26, .getfield 52, 7, 1, [503]), (29, .ifCond .ne 27, 56, 0, []),
  (32, .aload_n 3, 0, 0, []), (33, .getfield 56, 7, 2, [505]), (36, .ifCond .ne 18, 54, 0, []), (39, .aload_n 1, 0, 0, []),
  (40, .getfield 56, 7, 2, [505]), (43, .ifCond .ne 11, 54, 0, []), (46, .aload_n 1, 0, 0, []), (47, .aload_n 3, 0, 0, []),
  (48, .invokevirtual 59, 57, 1, [576, 577, 578, 75, 579]), (51, .ifCond .ne 5, 56, 0, []), (54, .iconst 0, 0, 0, []), (55, .ireturn, 0, 0, []),
  (56, .aload_n 2, 0, 0, []), (57, .getfield 21, 4, 1, [404]), (60, .astore_n 2, 0, 0, []), (61, .goto (-56), 5, 0, []),
  (64, .iconst 1, 0, 0, []), (65, .ireturn, 0, 0, [])
  ]
/-- ChainDesk$Member.hasTypesOf(LChainDesk$Member;)Z -/
def cd_r57 : List (Nat × Instr × Nat × Nat × List Nat) := [
  (0, .aload_n 0, 0, 0, []), (1, .getfield 33, 7, 6, [518]), (4, .aload_n 1, 0, 0, []), (5, .getfield 33, 7, 6, [518]),
  (8, .if_icmp .ne 14, 22, 0, []), (11, .aload_n 0, 0, 0, []), (12, .getfield 30, 7, 5, [515]), (15, .aload_n 1, 0, 0, []),
  (16, .getfield 30, 7, 5, [515]), (19, .if_icmp .eq 5, 24, 0, []), (22, .iconst 0, 0, 0, []), (23, .ireturn, 0, 0, []),
  (24, .iconst 0, 0, 0, []), (25, .istore_n 2, 0, 0, []), (26, .iload_n 2, 0, 0, []), (27, .aload_n 0, 0, 0, []),
  (28, .getfield 30, 7, 5, [515]), (31, .if_icmp .ge 26, 57, 0, []), (34, .aload_n 0, 0, 0, []), (35, .getfield 9, 7, 4, [512]),
  (38, .iload_n 2, 0, 0, []), (39, .iaload, 0, 0, []), (40, .aload_n 1, 0, 0, []), (41, .getfield 9, 7, 4, [512]),
  (44, .iload_n 2, 0, 0, []), (45, .iaload, 0, 0, []), (46, .if_icmp .eq 5, 51, 0, []), (49, .iconst 0, 0, 0, []),
  (50, .ireturn, 0, 0, []), (51, .iinc 2 1, 0, 0, []), (54, .goto (-28), 26, 0, []), (57, .iconst 1, 0, 0, []),
  (58, .ireturn, 0, 0, [])
  ]
/-- ChainDesk$Declaration.add(LChainDesk$Member;)Z -/
def cd_r58 : List (Nat × Instr × Nat × Nat × List Nat) := [
  (0, .aload_n 0, 0, 0, []), (1, .getfield 25, 4, 3, [410]), (4, .aload_n 0, 0, 0, []), (5, .getfield 11, 4, 2, [407]),
  (8, .arraylength, 0, 0, []), (9, .if_icmp .ne 5, 14, 0, []), (12, .iconst 0, 0, 0, []), (13, .ireturn, 0, 0, []),
  (14, .aload_n 0, 0, 0, []), (15, .getfield 11, 4, 2, [407]), (18, .aload_n 0, 0, 0, []), (19, .getfield 25, 4, 3, [410]),
  (22, .aload_n 1, 0, 0, []), (23, .aastore, 0, 0, []), (24, .aload_n 0, 0, 0, []), (25, .dup, 0, 0, []),
  (26, .getfield 25, 4, 3, [410]), (29, .iconst 1, 0, 0, []), (30, .iadd, 0, 0, []), (31, .putfield 25, 4, 3, [410]),
  (34, .iconst 1, 0, 0, []), (35, .ireturn, 0, 0, [])
  ]
/-- ChainDesk$Buffer.isAtEnd()Z -/
def cd_r59 : List (Nat × Instr × Nat × Nat × List Nat) := [
  (0, .aload_n 0, 0, 0, []), (1, .getfield 19, 1, 2, [101]), (4, .aload_n 0, 0, 0, []), (5, .getfield 15, 1, 1, [100]),
  (8, .if_icmp .ne 7, 15, 0, []), (11, .iconst 1, 0, 0, []), (12, .goto 4, 16, 0, []), (15, .iconst 0, 0, 0, []),
  (16, .ireturn, 0, 0, [])
  ]
/-- ChainDesk$Buffer.clear()V -/
def cd_r60 : List (Nat × Instr × Nat × Nat × List Nat) := [
  (0, .aload_n 0, 0, 0, []), (1, .iconst 0, 0, 0, []), (2, .putfield 15, 1, 1, [100]), (5, .aload_n 0, 0, 0, []),
  (6, .iconst 0, 0, 0, []), (7, .putfield 19, 1, 2, [101]), (10, .return_, 0, 0, [])
  ]
/-- ChainDesk$Catalog.add(LChainDesk$Declaration;)Z -/
def cd_r61 : List (Nat × Instr × Nat × Nat × List Nat) := [
  (0, .aload_n 0, 0, 0, []), (1, .aload_n 1, 0, 0, []), (2, .getfield 25, 4, 0, [402]), (5, .invokevirtual 28, 22, 1, [343, 325, 326, 62, 327]),
  (8, .ifnull 5, 13, 0, []), (11, .iconst 0, 0, 0, []), (12, .ireturn, 0, 0, []), (13, .aload_n 0, 0, 0, []),
  (14, .getfield 11, 2, 0, [118]), (17, .aload_n 1, 0, 0, []), (18, .getfield 25, 4, 0, [402]), (21, .aload_n 1, 0, 0, []),
  (22, .aastore, 0, 0, []), (23, .aload_n 1, 0, 0, []), (24, .getfield 32, 4, 1, [405]), (27, .astore_n 2, 0, 0, []),
  (28, .aload_n 2, 0, 0, []), (29, .ifnull 28, 57, 0, []), (32, .aload_n 0, 0, 0, []), (33, .getfield 17, 2, 1, [119]),
  (36, .iconst 3, 0, 0, []), (37, .aload_n 1, 0, 0, []), (38, .getfield 25, 4, 0, [402]), (41, .iadd, 0, 0, []),
  (42, .dup2, 0, 0, []), (43, .iaload, 0, 0, []), (44, .aload_n 0, 0, 0, []), (45, .getfield 17, 2, 1, [119]),
  (48, .iconst 3, 0, 0, []), (49, .aload_n 2, 0, 0, []), (50, .getfield 25, 4, 0, [402]), (53, .iadd, 0, 0, []),
  (54, .iaload, 0, 0, []), (55, .ior, 0, 0, []), (56, .iastore, 0, 0, []), (57, .iconst 1, 0, 0, []),
  (58, .ireturn, 0, 0, [])
  ]
/-- ChainDesk.variable()I -/
def cd_r62 : List (Nat × Instr × Nat × Nat × List Nat) := [
  (0, .aload_n 0, 0, 0, []), (1, .getfield 26, 0, 2, [257]), (4, .invokevirtual 94, 63, 0, [680, 681, 682, 63, 683]), (7, .istore_n 1, 0, 0, []),
  (8, .iload_n 1, 0, 0, []), (9, .ifCond .ne 14, 23, 0, []), (12, .aload_n 0, 0, 0, []), (13, .invokevirtual 97, 64, 0, [684, 686, 7, 60, 687]),
  (16, .ifCond .eq 7, 23, 0, []), (19, .iconst 1, 0, 0, []), (20, .goto 4, 24, 0, []), (23, .iconst 0, 0, 0, []),
  (24, .istore_n 2, 0, 0, []), (25, .aload_n 0, 0, 0, []), (26, .getfield 10, 0, 0, [255]), (29, .invokevirtual 77, 60, 0, [588, 589, 590, 61, 591]),
  (32, .iload_n 1, 0, 0, []), (33, .ifCond .eq 11, 44, 0, []), (36, .new 86, 13, 88, [658, 659, 82]), (44, .iload_n 2, 0, 0, []),
  (45, .ifCond .ne 11, 56, 0, []), (48, .new 80, 12, 82, [592, 593, 81]), (56, .aload_n 0, 0, 0, []), (57, .getfield 26, 0, 2, [257]),
  (60, .getfield 100, 9, 2, [142]), (63, .ireturn, 0, 0, [])
  ]
/-- ChainDesk$Scope.isFull()Z -/
def cd_r63 : List (Nat × Instr × Nat × Nat × List Nat) := [
  (0, .aload_n 0, 0, 0, []), (1, .getfield 18, 9, 2, [140]), (4, .iconst 5, 0, 0, []), (5, .if_icmp .ne 7, 12, 0, []),
  (8, .iconst 1, 0, 0, []), (9, .goto 4, 13, 0, []), (12, .iconst 0, 0, 0, []), (13, .ireturn, 0, 0, [])
  ]
/-- ChainDesk.readVariable()Z -/
def cd_r64 : List (Nat × Instr × Nat × Nat × List Nat) := [
  (0, .aload_n 0, 0, 0, []), (1, .getfield 10, 0, 0, [255]), (4, .invokevirtual 166, 54, 0, [688, 561, 562, 61, 563]), (7, .istore_n 1, 0, 0, []),
  (8, .iload_n 1, 0, 0, []), (9, .ifCond .eq 15, 24, 0, []), (12, .aload_n 0, 0, 0, []), (13, .getfield 10, 0, 0, [255]),
  (16, .bipush 58, 0, 0, []), (18, .invokevirtual 169, 34, 1, [689, 385, 386, 61, 387]), (21, .ifCond .ne 5, 26, 0, []), (24, .iconst 0, 0, 0, []),
  (25, .ireturn, 0, 0, []), (26, .aload_n 0, 0, 0, []), (27, .getfield 10, 0, 0, [255]), (30, .invokevirtual 173, 50, 0, [690, 543, 544, 61, 545]),
  (33, .istore_n 2, 0, 0, []), (34, .iload_n 2, 0, 0, []), (35, .iconst (-1), 0, 0, []), (36, .if_icmp .eq 29, 65, 0, []),
  (39, .aload_n 0, 0, 0, []), (40, .getfield 10, 0, 0, [255]), (43, .invokevirtual 73, 59, 0, [584, 585, 586, 61, 587]), (46, .ifCond .eq 19, 65, 0, []),
  (49, .aload_n 0, 0, 0, []), (50, .getfield 26, 0, 2, [257]), (53, .iload_n 1, 0, 0, []), (54, .iload_n 2, 0, 0, []),
  (55, .invokevirtual 176, 65, 2, [691, 692, 693, 63, 694]), (58, .ifCond .eq 7, 65, 0, []), (61, .iconst 1, 0, 0, []), (62, .goto 4, 66, 0, []),
  (65, .iconst 0, 0, 0, []), (66, .ireturn, 0, 0, [])
  ]
/-- ChainDesk$Scope.add(II)Z -/
def cd_r65 : List (Nat × Instr × Nat × Nat × List Nat) := [
  (0, .aload_n 0, 0, 0, []), (1, .invokevirtual 22, 63, 0, [695, 681, 682, 63, 683]), (4, .ifCond .ne 12, 16, 0, []), (7, .aload_n 0, 0, 0, []),
  (8, .iload_n 1, 0, 0, []), (9, .invokevirtual 26, 66, 1, [696, 697, 698, 63, 699]), (12, .iconst (-1), 0, 0, []), (13, .if_icmp .eq 5, 18, 0, []),
  (16, .iconst 0, 0, 0, []), (17, .ireturn, 0, 0, []), (18, .aload_n 0, 0, 0, []), (19, .getfield 9, 9, 0, [136]),
  (22, .aload_n 0, 0, 0, []), (23, .getfield 18, 9, 2, [140]), (26, .iload_n 1, 0, 0, []), (27, .iastore, 0, 0, []),
  (28, .aload_n 0, 0, 0, []), (29, .getfield 15, 9, 1, [138]), (32, .aload_n 0, 0, 0, []), (33, .getfield 18, 9, 2, [140]),
  (36, .iload_n 2, 0, 0, []), (37, .iastore, 0, 0, []), (38, .aload_n 0, 0, 0, []), (39, .dup, 0, 0, []),
  (40, .getfield 18, 9, 2, [140]), (43, .iconst 1, 0, 0, []), (44, .iadd, 0, 0, []), (45, .putfield 18, 9, 2, [140]),
  (48, .iconst 1, 0, 0, []), (49, .ireturn, 0, 0, [])
  ]
/-- ChainDesk$Scope.typeOf(I)I -/
def cd_r66 : List (Nat × Instr × Nat × Nat × List Nat) := [
  (0, .iconst 0, 0, 0, []), (1, .istore_n 2, 0, 0, []), (2, .iload_n 2, 0, 0, []), (3, .aload_n 0, 0, 0, []),
  (4, .getfield 18, 9, 2, [140]), (7, .if_icmp .ge 26, 33, 0, []), (10, .aload_n 0, 0, 0, []), (11, .getfield 9, 9, 0, [136]),
  (14, .iload_n 2, 0, 0, []), (15, .iaload, 0, 0, []), (16, .iload_n 1, 0, 0, []), (17, .if_icmp .ne 10, 27, 0, []),
  (20, .aload_n 0, 0, 0, []), (21, .getfield 15, 9, 1, [138]), (24, .iload_n 2, 0, 0, []), (25, .iaload, 0, 0, []),
  (26, .ireturn, 0, 0, []), (27, .iinc 2 1, 0, 0, []), (30, .goto (-28), 2, 0, []), (33, .iconst (-1), 0, 0, []),
  (34, .ireturn, 0, 0, [])
  ]
/-- ChainDesk.enter(I)V -/
def cd_r67 : List (Nat × Instr × Nat × Nat × List Nat) := [
  (0, .iload_n 1, 0, 0, []), (1, .iconst (-1), 0, 0, []), (2, .if_icmp .eq 18, 20, 0, []), (5, .iload_n 1, 0, 0, []),
  (6, .invokestatic 101, 24, 1, [332, 333, 60, 334]), (9, .ifCond .ne 11, 20, 0, []), (12, .new 80, 12, 82, [592, 593, 81]), (20, .aload_n 0, 0, 0, []),
  (21, .getfield 19, 0, 1, [256]), (24, .iload_n 1, 0, 0, []), (25, .putfield 105, 2, 2, [121]), (28, .return_, 0, 0, [])
  ]
/-- ChainDesk.complete(II)I -/
def cd_r68 : List (Nat × Instr × Nat × Nat × List Nat) := [
  (0, .iload_n 1, 0, 0, []), (1, .invokestatic 108, 15, 1, [297, 298, 60, 299]), (4, .ifCond .eq 12, 16, 0, []), (7, .iload_n 2, 0, 0, []),
  (8, .ifCond .lt 8, 16, 0, []), (11, .iload_n 2, 0, 0, []), (12, .iconst 3, 0, 0, []), (13, .if_icmp .le 11, 24, 0, []),
  (16, .new 80, 12, 82, [592, 593, 81]), (24, .aload_n 0, 0, 0, []), (25, .getfield 53, 0, 5, [260]), (28, .invokevirtual 111, 69, 0, [714, 715, 716, 66, 717]),
  (31, .iconst 1, 0, 0, []), (32, .istore_n 3, 0, 0, []), (33, .iload_n 3, 0, 0, []), (34, .iload_n 2, 0, 0, []),
  (35, .if_icmp .gt 17, 52, 0, []), (38, .aload_n 0, 0, 0, []), (39, .getfield 53, 0, 5, [260]), (42, .iload_n 3, 0, 0, []),
  (43, .invokevirtual 114, 78, 1, [753, 754, 755, 66, 756]), (46, .iinc 3 1, 0, 0, []), (49, .goto (-16), 33, 0, []), (52, .aload_n 0, 0, 0, []),
  (53, .getfield 53, 0, 5, [260]), (56, .iload_n 1, 0, 0, []), (57, .iload_n 2, 0, 0, []), (58, .invokevirtual 118, 86, 2, [799, 800, 801, 66, 802]),
  (61, .ireturn, 0, 0, [])
  ]
/-- ChainDesk$Completer.keepVariables()V -/
def cd_r69 : List (Nat × Instr × Nat × Nat × List Nat) := [
  (0, .aload_n 0, 0, 0, []), (1, .iconst 0, 0, 0, []), (2, .invokevirtual 41, 70, 1, [718, 720, 8, 66, 721]), (5, .iconst 0, 0, 0, []),
  (6, .istore_n 1, 0, 0, []), (7, .iload_n 1, 0, 0, []), (8, .aload_n 0, 0, 0, []), (9, .getfield 32, 3, 1, [234]),
  (12, .getfield 45, 9, 2, [141]), (15, .if_icmp .ge 60, 75, 0, []), (18, .aload_n 0, 0, 0, []), (19, .getfield 24, 3, 4, [237]),
  (22, .iconst 0, 0, 0, []), (23, .putfield 51, 8, 1, [200]), (26, .aload_n 0, 0, 0, []), (27, .getfield 24, 3, 4, [237]),
  (30, .aload_n 0, 0, 0, []), (31, .getfield 32, 3, 1, [234]), (34, .getfield 54, 9, 0, [137]), (37, .iload_n 1, 0, 0, []),
  (38, .iaload, 0, 0, []), (39, .invokevirtual 58, 71, 1, [722, 723, 724, 67, 725]), (42, .aload_n 0, 0, 0, []), (43, .getfield 24, 3, 4, [237]),
  (46, .aload_n 0, 0, 0, []), (47, .getfield 32, 3, 1, [234]), (50, .getfield 61, 9, 1, [139]), (53, .iload_n 1, 0, 0, []),
  (54, .iaload, 0, 0, []), (55, .putfield 64, 8, 2, [202]), (58, .aload_n 0, 0, 0, []), (59, .getfield 37, 3, 5, [238]),
  (62, .aload_n 0, 0, 0, []), (63, .getfield 24, 3, 4, [237]), (66, .invokevirtual 67, 73, 1, [730, 731, 732, 68, 733]), (69, .iinc 1 1, 0, 0, []),
  (72, .goto (-65), 7, 0, []), (75, .return_, 0, 0, [])
  ]
/-- ChainDesk$Completer.startShelf(I)V -/
def cd_r70 : List (Nat × Instr × Nat × Nat × List Nat) := [
  (0, .aload_n 0, 0, 0, []), (1, .aload_n 0, 0, 0, []), (2, .getfield 11, 3, 2, [235]), (5, .iload_n 1, 0, 0, []),
  (6, .aaload, 0, 0, []), (7, .putfield 37, 3, 5, [238]), (10, .aload_n 0, 0, 0, []), (11, .getfield 37, 3, 5, [238]),
  (14, .iconst 0, 0, 0, []), (15, .putfield 75, 10, 1, [227]), (18, .aload_n 0, 0, 0, []), (19, .getfield 24, 3, 4, [237]),
  (22, .iload_n 1, 0, 0, []), (23, .putfield 92, 8, 3, [205]), (26, .return_, 0, 0, [])
  ]
/-- ChainDesk$Phrase.addName(I)V -/
def cd_r71 : List (Nat × Instr × Nat × Nat × List Nat) := [
  (0, .bipush 24, 0, 0, []), (2, .istore_n 2, 0, 0, []), (3, .iload_n 2, 0, 0, []), (4, .ifCond .lt 27, 31, 0, []),
  (7, .iload_n 1, 0, 0, []), (8, .iload_n 2, 0, 0, []), (9, .ishr, 0, 0, []), (10, .sipush 255, 0, 0, []),
  (13, .iand, 0, 0, []), (14, .istore_n 3, 0, 0, []), (15, .iload_n 3, 0, 0, []), (16, .ifCond .eq 9, 25, 0, []),
  (19, .aload_n 0, 0, 0, []), (20, .iload_n 3, 0, 0, []), (21, .i2c, 0, 0, []), (22, .invokevirtual 28, 72, 1, [726, 727, 728, 67, 729]),
  (25, .iinc 2 (-8), 0, 0, []), (28, .goto (-25), 3, 0, []), (31, .return_, 0, 0, [])
  ]
/-- ChainDesk$Phrase.add(C)V -/
def cd_r72 : List (Nat × Instr × Nat × Nat × List Nat) := [
  (0, .aload_n 0, 0, 0, []), (1, .getfield 15, 8, 1, [199]), (4, .aload_n 0, 0, 0, []), (5, .getfield 9, 8, 0, [198]),
  (8, .arraylength, 0, 0, []), (9, .if_icmp .ge 23, 32, 0, []), (12, .aload_n 0, 0, 0, []), (13, .getfield 9, 8, 0, [198]),
  (16, .aload_n 0, 0, 0, []), (17, .getfield 15, 8, 1, [199]), (20, .iload_n 1, 0, 0, []), (21, .castore, 0, 0, []),
  (22, .aload_n 0, 0, 0, []), (23, .dup, 0, 0, []), (24, .getfield 15, 8, 1, [199]), (27, .iconst 1, 0, 0, []),
  (28, .iadd, 0, 0, []), (29, .putfield 15, 8, 1, [199]), (32, .return_, 0, 0, [])
  ]
/-- ChainDesk$Shelf.keep(LChainDesk$Phrase;)V -/
def cd_r73 : List (Nat × Instr × Nat × Nat × List Nat) := [
  (0, .aload_n 0, 0, 0, []), (1, .aload_n 1, 0, 0, []), (2, .invokevirtual 30, 74, 1, [734, 735, 736, 68, 737]), (5, .ifCond .ne 4, 9, 0, []),
  (8, .return_, 0, 0, []), (9, .aload_n 0, 0, 0, []), (10, .getfield 22, 10, 1, [226]), (13, .aload_n 0, 0, 0, []),
  (14, .getfield 11, 10, 0, [224]), (17, .arraylength, 0, 0, []), (18, .if_icmp .ge 13, 31, 0, []), (21, .aload_n 0, 0, 0, []),
  (22, .dup, 0, 0, []), (23, .getfield 22, 10, 1, [226]), (26, .iconst 1, 0, 0, []), (27, .iadd, 0, 0, []),
  (28, .putfield 22, 10, 1, [226]), (31, .aload_n 0, 0, 0, []), (32, .getfield 22, 10, 1, [226]), (35, .iconst 1, 0, 0, []),
  (36, .isub, 0, 0, []), (37, .istore_n 2, 0, 0, []), (38, .aload_n 0, 0, 0, []), (39, .getfield 11, 10, 0, [224]),
  (42, .iload_n 2, 0, 0, []), (43, .aaload, 0, 0, []), (44, .astore_n 3, 0, 0, []), (45, .iload_n 2, 0, 0, []),
  (46, .ifCond .le 38, 84, 0, []), (49, .aload_n 1, 0, 0, []), (50, .aload_n 0, 0, 0, []), (51, .getfield 11, 10, 0, [224]),
  (54, .iload_n 2, 0, 0, []), (55, .iconst 1, 0, 0, []), (56, .isub, 0, 0, []), (57, .aaload, 0, 0, []),
  (58, .invokevirtual 26, 76, 1, [742, 743, 744, 67, 745]), (61, .ifCond .eq 23, 84, 0, []), (64, .aload_n 0, 0, 0, []), (65, .getfield 11, 10, 0, [224]),
  (68, .iload_n 2, 0, 0, []), (69, .aload_n 0, 0, 0, []), (70, .getfield 11, 10, 0, [224]), (73, .iload_n 2, 0, 0, []),
  (74, .iconst 1, 0, 0, []), (75, .isub, 0, 0, []), (76, .aaload, 0, 0, []), (77, .aastore, 0, 0, []),
  (78, .iinc 2 (-1), 0, 0, []), (81, .goto (-36), 45, 0, []), (84, .aload_n 0, 0, 0, []), (85, .getfield 11, 10, 0, [224]),
  (88, .iload_n 2, 0, 0, []), (89, .aload_n 3, 0, 0, []), (90, .aastore, 0, 0, []), (91, .aload_n 3, 0, 0, []),
  (92, .aload_n 1, 0, 0, []), (93, .invokevirtual 33, 77, 1, [746, 747, 748, 67, 749]), (96, .return_, 0, 0, [])
  ]
/-- ChainDesk$Shelf.hasRoomFrom(LChainDesk$Phrase;)Z -/
def cd_r74 : List (Nat × Instr × Nat × Nat × List Nat) := [
  (0, .aload_n 1, 0, 0, []), (1, .invokevirtual 18, 75, 0, [738, 739, 740, 67, 741]), (4, .ifCond .eq 5, 9, 0, []), (7, .iconst 0, 0, 0, []),
  (8, .ireturn, 0, 0, []), (9, .aload_n 0, 0, 0, []), (10, .getfield 22, 10, 1, [226]), (13, .aload_n 0, 0, 0, []),
  (14, .getfield 11, 10, 0, [224]), (17, .arraylength, 0, 0, []), (18, .if_icmp .lt 22, 40, 0, []), (21, .aload_n 1, 0, 0, []),
  (22, .aload_n 0, 0, 0, []), (23, .getfield 11, 10, 0, [224]), (26, .aload_n 0, 0, 0, []), (27, .getfield 11, 10, 0, [224]),
  (30, .arraylength, 0, 0, []), (31, .iconst 1, 0, 0, []), (32, .isub, 0, 0, []), (33, .aaload, 0, 0, []),
  (34, .invokevirtual 26, 76, 1, [742, 743, 744, 67, 745]), (37, .ifCond .eq 7, 44, 0, []), (40, .iconst 1, 0, 0, []), (41, .goto 4, 45, 0, []),
  (44, .iconst 0, 0, 0, []), (45, .ireturn, 0, 0, [])
  ]
/-- ChainDesk$Phrase.isTooLong()Z -/
def cd_r75 : List (Nat × Instr × Nat × Nat × List Nat) := [
  (0, .aload_n 0, 0, 0, []), (1, .getfield 15, 8, 1, [199]), (4, .bipush 24, 0, 0, []), (6, .if_icmp .le 7, 13, 0, []),
  (9, .iconst 1, 0, 0, []), (10, .goto 4, 14, 0, []), (13, .iconst 0, 0, 0, []), (14, .ireturn, 0, 0, [])
  ]
/-- ChainDesk$Phrase.isBefore(LChainDesk$Phrase;)Z -/
def cd_r76 : List (Nat × Instr × Nat × Nat × List Nat) := [
  (0, .iconst 0, 0, 0, []), (1, .istore_n 2, 0, 0, []), (2, .iload_n 2, 0, 0, []), (3, .aload_n 0, 0, 0, []),
  (4, .getfield 15, 8, 1, [199]), (7, .if_icmp .ge 53, 60, 0, []), (10, .iload_n 2, 0, 0, []), (11, .aload_n 1, 0, 0, []),
  (12, .getfield 15, 8, 1, [199]), (15, .if_icmp .ge 45, 60, 0, []), (18, .aload_n 0, 0, 0, []), (19, .getfield 9, 8, 0, [198]),
  (22, .iload_n 2, 0, 0, []), (23, .caload, 0, 0, []), (24, .aload_n 1, 0, 0, []), (25, .getfield 9, 8, 0, [198]),
  (28, .iload_n 2, 0, 0, []), (29, .caload, 0, 0, []), (30, .if_icmp .eq 24, 54, 0, []), (33, .aload_n 0, 0, 0, []),
  (34, .getfield 9, 8, 0, [198]), (37, .iload_n 2, 0, 0, []), (38, .caload, 0, 0, []), (39, .aload_n 1, 0, 0, []),
  (40, .getfield 9, 8, 0, [198]), (43, .iload_n 2, 0, 0, []), (44, .caload, 0, 0, []), (45, .if_icmp .ge 7, 52, 0, []),
  (48, .iconst 1, 0, 0, []), (49, .goto 4, 53, 0, []), (52, .iconst 0, 0, 0, []), (53, .ireturn, 0, 0, []),
  (54, .iinc 2 1, 0, 0, []), (57, .goto (-55), 2, 0, []), (60, .aload_n 0, 0, 0, []), (61, .getfield 15, 8, 1, [199]),
  (64, .aload_n 1, 0, 0, []), (65, .getfield 15, 8, 1, [199]), (68, .if_icmp .ge 7, 75, 0, []), (71, .iconst 1, 0, 0, []),
  (72, .goto 4, 76, 0, []), (75, .iconst 0, 0, 0, []), (76, .ireturn, 0, 0, [])
  ]
/-- ChainDesk$Phrase.copyFrom(LChainDesk$Phrase;)V -/
def cd_r77 : List (Nat × Instr × Nat × Nat × List Nat) := [
  (0, .aload_n 1, 0, 0, []), (1, .getfield 9, 8, 0, [198]), (4, .iconst 0, 0, 0, []), (5, .aload_n 0, 0, 0, []),
  (6, .getfield 9, 8, 0, [198]), (9, .iconst 0, 0, 0, []), (10, .aload_n 1, 0, 0, []), (11, .getfield 15, 8, 1, [199]),
  (14, .invokestatic 38, 1004, 5, [750, 752, 751, 83]), (17, .aload_n 0, 0, 0, []), (18, .aload_n 1, 0, 0, []), (19, .getfield 15, 8, 1, [199]),
  (22, .putfield 15, 8, 1, [199]), (25, .aload_n 0, 0, 0, []), (26, .aload_n 1, 0, 0, []), (27, .getfield 44, 8, 2, [203]),
  (30, .putfield 44, 8, 2, [203]), (33, .aload_n 0, 0, 0, []), (34, .aload_n 1, 0, 0, []), (35, .getfield 47, 8, 3, [206]),
  (38, .putfield 47, 8, 3, [206]), (41, .return_, 0, 0, [])
  ]
/-- ChainDesk$Completer.keepOfCost(I)V -/
def cd_r78 : List (Nat × Instr × Nat × Nat × List Nat) := [
  (0, .aload_n 0, 0, 0, []), (1, .iload_n 1, 0, 0, []), (2, .invokevirtual 41, 70, 1, [718, 720, 8, 66, 721]), (5, .iconst 0, 0, 0, []),
  (6, .istore_n 2, 0, 0, []), (7, .iload_n 2, 0, 0, []), (8, .bipush 10, 0, 0, []), (10, .if_icmp .ge 17, 27, 0, []),
  (13, .aload_n 0, 0, 0, []), (14, .iload_n 2, 0, 0, []), (15, .iload_n 1, 0, 0, []), (16, .iconst 1, 0, 0, []),
  (17, .isub, 0, 0, []), (18, .invokevirtual 71, 79, 2, [757, 759, 9, 66, 760]), (21, .iinc 2 1, 0, 0, []), (24, .goto (-17), 7, 0, []),
  (27, .iconst 0, 0, 0, []), (28, .istore_n 2, 0, 0, []), (29, .iload_n 2, 0, 0, []), (30, .iload_n 1, 0, 0, []),
  (31, .if_icmp .ge 50, 81, 0, []), (34, .aload_n 0, 0, 0, []), (35, .getfield 11, 3, 2, [235]), (38, .iload_n 2, 0, 0, []),
  (39, .aaload, 0, 0, []), (40, .astore_n 3, 0, 0, []), (41, .iconst 0, 0, 0, []), (42, .istore 4, 0, 0, []),
  (44, .iload 4, 0, 0, []), (46, .aload_n 3, 0, 0, []), (47, .getfield 75, 10, 1, [227]), (50, .if_icmp .ge 25, 75, 0, []),
  (53, .aload_n 0, 0, 0, []), (54, .aload_n 3, 0, 0, []), (55, .getfield 76, 10, 0, [225]), (58, .iload 4, 0, 0, []),
  (60, .aaload, 0, 0, []), (61, .iload_n 1, 0, 0, []), (62, .iconst 1, 0, 0, []), (63, .isub, 0, 0, []),
  (64, .iload_n 2, 0, 0, []), (65, .isub, 0, 0, []), (66, .invokevirtual 79, 85, 2, [794, 796, 12, 66, 797]), (69, .iinc 4 1, 0, 0, []),
  (72, .goto (-28), 44, 0, []), (75, .iinc 2 1, 0, 0, []), (78, .goto (-49), 29, 0, []), (81, .return_, 0, 0, [])
  ]
/-- ChainDesk$Completer.keepOfClass(II)V -/
def cd_r79 : List (Nat × Instr × Nat × Nat × List Nat) := [
  (0, .aload_n 0, 0, 0, []), (1, .getfield 28, 3, 0, [233]), (4, .iload_n 1, 0, 0, []), (5, .invokevirtual 95, 22, 1, [761, 325, 326, 62, 327]),
  (8, .astore_n 3, 0, 0, []), (9, .aload_n 3, 0, 0, []), (10, .ifnonnull 4, 14, 0, []), (13, .return_, 0, 0, []),
  (14, .iconst 0, 0, 0, []), (15, .istore 4, 0, 0, []), (17, .iload 4, 0, 0, []), (19, .aload_n 3, 0, 0, []),
  (20, .getfield 99, 4, 3, [412]), (23, .if_icmp .ge 131, 154, 0, []), (26, .aload_n 3, 0, 0, []), (27, .getfield 102, 4, 2, [408]),
  (30, .iload 4, 0, 0, []), (32, .aaload, 0, 0, []), (33, .astore 5, 0, 0, []), (35, .aload 5, 0, 0, []),
  (37, .getfield 105, 7, 0, [500]), (40, .getstatic 111, 2, 0, [762]), (43, .if_acmp .ne 7, 50, 0, []), (46, .iconst 1, 0, 0, []),
  (47, .goto 4, 51, 0, []), (50, .iconst 0, 0, 0, []), (51, .istore 6, 0, 0, []), (53, .iload 6, 0, 0, []),
  (55, .ifCond .ne 11, 66, 0, []), (58, .aload 5, 0, 0, []), (60, .getfield 116, 7, 2, [507]), (63, .ifCond .eq 85, 148, 0, []),
  (66, .aload_n 0, 0, 0, []), (67, .getfield 28, 3, 0, [233]), (70, .aload_n 3, 0, 0, []), (71, .aload 5, 0, 0, []),
  (73, .invokevirtual 120, 30, 2, [763, 363, 364, 62, 365]), (76, .ifCond .eq 72, 148, 0, []), (79, .aload_n 0, 0, 0, []), (80, .getfield 24, 3, 4, [237]),
  (83, .iconst 0, 0, 0, []), (84, .putfield 51, 8, 1, [200]), (87, .iload 6, 0, 0, []), (89, .ifCond .eq 23, 112, 0, []),
  (92, .aload_n 0, 0, 0, []), (93, .getfield 24, 3, 4, [237]), (96, .ldc 124, 13, 0, [764]), (98, .invokevirtual 126, 80, 1, [765, 766, 767, 67, 768]),
  (101, .aload_n 0, 0, 0, []), (102, .getfield 24, 3, 4, [237]), (105, .iload_n 1, 0, 0, []), (106, .invokevirtual 130, 81, 1, [771, 772, 773, 67, 774]),
  (109, .goto 32, 141, 0, []), (112, .aload_n 0, 0, 0, []), (113, .getfield 24, 3, 4, [237]), (116, .iload_n 1, 0, 0, []),
  (117, .invokevirtual 130, 81, 1, [771, 772, 773, 67, 774]), (120, .aload_n 0, 0, 0, []), (121, .getfield 24, 3, 4, [237]), (124, .bipush 46, 0, 0, []),
  (126, .invokevirtual 133, 72, 1, [775, 727, 728, 67, 729]), (129, .aload_n 0, 0, 0, []), (130, .getfield 24, 3, 4, [237]), (133, .aload 5, 0, 0, []),
  (135, .getfield 137, 7, 3, [511]), (138, .invokevirtual 58, 71, 1, [722, 723, 724, 67, 725]), (141, .aload_n 0, 0, 0, []), (142, .aload 5, 0, 0, []),
  (144, .iload_n 2, 0, 0, []), (145, .invokevirtual 140, 82, 2, [776, 778, 10, 66, 779]), (148, .iinc 4 1, 0, 0, []), (151, .goto (-134), 17, 0, []),
  (154, .return_, 0, 0, [])
  ]
/-- ChainDesk$Phrase.addText(Ljava/lang/String;)V -/
def cd_r80 : List (Nat × Instr × Nat × Nat × List Nat) := [
  (0, .iconst 0, 0, 0, []), (1, .istore_n 2, 0, 0, []), (2, .iload_n 2, 0, 0, []), (3, .aload_n 1, 0, 0, []),
  (4, .invokevirtual 19, 40, 0, [769, 437, 438, 71, 439]), (7, .if_icmp .ge 18, 25, 0, []), (10, .aload_n 0, 0, 0, []), (11, .aload_n 1, 0, 0, []),
  (12, .iload_n 2, 0, 0, []), (13, .invokevirtual 24, 42, 1, [770, 447, 448, 71, 449]), (16, .invokevirtual 28, 72, 1, [726, 727, 728, 67, 729]), (19, .iinc 2 1, 0, 0, []),
  (22, .goto (-20), 2, 0, []), (25, .return_, 0, 0, [])
  ]
/-- ChainDesk$Phrase.addClass(I)V -/
def cd_r81 : List (Nat × Instr × Nat × Nat × List Nat) := [
  (0, .aload_n 0, 0, 0, []), (1, .bipush 65, 0, 0, []), (3, .iload_n 1, 0, 0, []), (4, .iadd, 0, 0, []),
  (5, .i2c, 0, 0, []), (6, .invokevirtual 28, 72, 1, [726, 727, 728, 67, 729]), (9, .return_, 0, 0, [])
  ]
/-- ChainDesk$Completer.keepUses(LChainDesk$Member;I)V -/
def cd_r82 : List (Nat × Instr × Nat × Nat × List Nat) := [
  (0, .aload_n 0, 0, 0, []), (1, .getfield 24, 3, 4, [237]), (4, .aload_n 1, 0, 0, []), (5, .getfield 159, 7, 6, [521]),
  (8, .putfield 64, 8, 2, [202]), (11, .aload_n 1, 0, 0, []), (12, .getfield 105, 7, 0, [500]), (15, .getstatic 160, 0, 0, [780]),
  (18, .if_acmp .eq 22, 40, 0, []), (21, .aload_n 0, 0, 0, []), (22, .getfield 24, 3, 4, [237]), (25, .bipush 40, 0, 0, []),
  (27, .invokevirtual 133, 72, 1, [775, 727, 728, 67, 729]), (30, .aload_n 0, 0, 0, []), (31, .aload_n 1, 0, 0, []), (32, .iconst 0, 0, 0, []),
  (33, .iload_n 2, 0, 0, []), (34, .invokevirtual 163, 83, 3, [781, 783, 11, 66, 784]), (37, .goto 18, 55, 0, []), (40, .iload_n 2, 0, 0, []),
  (41, .ifCond .ne 14, 55, 0, []), (44, .aload_n 0, 0, 0, []), (45, .getfield 37, 3, 5, [238]), (48, .aload_n 0, 0, 0, []),
  (49, .getfield 24, 3, 4, [237]), (52, .invokevirtual 67, 73, 1, [730, 731, 732, 68, 733]), (55, .return_, 0, 0, [])
  ]
/-- ChainDesk$Completer.keepCalls(LChainDesk$Member;II)V -/
def cd_r83 : List (Nat × Instr × Nat × Nat × List Nat) := [
  (0, .aload_n 0, 0, 0, []), (1, .getfield 37, 3, 5, [238]), (4, .aload_n 0, 0, 0, []), (5, .getfield 24, 3, 4, [237]),
  (8, .invokevirtual 147, 74, 1, [785, 735, 736, 68, 737]), (11, .ifCond .ne 4, 15, 0, []), (14, .return_, 0, 0, []), (15, .iload_n 2, 0, 0, []),
  (16, .aload_n 1, 0, 0, []), (17, .getfield 167, 7, 5, [517]), (20, .if_icmp .lt 28, 48, 0, []), (23, .iload_n 3, 0, 0, []),
  (24, .ifCond .ne 23, 47, 0, []), (27, .aload_n 0, 0, 0, []), (28, .getfield 24, 3, 4, [237]), (31, .bipush 41, 0, 0, []),
  (33, .invokevirtual 133, 72, 1, [775, 727, 728, 67, 729]), (36, .aload_n 0, 0, 0, []), (37, .getfield 37, 3, 5, [238]), (40, .aload_n 0, 0, 0, []),
  (41, .getfield 24, 3, 4, [237]), (44, .invokevirtual 67, 73, 1, [730, 731, 732, 68, 733]), (47, .return_, 0, 0, []), (48, .iload_n 2, 0, 0, []),
  (49, .ifCond .le 12, 61, 0, []), (52, .aload_n 0, 0, 0, []), (53, .getfield 24, 3, 4, [237]), (56, .bipush 44, 0, 0, []),
  (58, .invokevirtual 133, 72, 1, [775, 727, 728, 67, 729]), (61, .aload_n 0, 0, 0, []), (62, .getfield 24, 3, 4, [237]), (65, .getfield 51, 8, 1, [200]),
  (68, .istore 4, 0, 0, []), (70, .bipush 24, 0, 0, []), (72, .iload 4, 0, 0, []), (74, .isub, 0, 0, []),
  (75, .iconst 2, 0, 0, []), (76, .aload_n 1, 0, 0, []), (77, .getfield 167, 7, 5, [517]), (80, .iload_n 2, 0, 0, []),
  (81, .isub, 0, 0, []), (82, .iconst 1, 0, 0, []), (83, .isub, 0, 0, []), (84, .imul, 0, 0, []),
  (85, .isub, 0, 0, []), (86, .iconst 1, 0, 0, []), (87, .isub, 0, 0, []), (88, .istore 5, 0, 0, []),
  (90, .iload_n 2, 0, 0, []), (91, .iconst 1, 0, 0, []), (92, .iadd, 0, 0, []), (93, .aload_n 1, 0, 0, []),
  (94, .getfield 167, 7, 5, [517]), (97, .if_icmp .ne 7, 104, 0, []), (100, .iconst 1, 0, 0, []), (101, .goto 4, 105, 0, []),
  (104, .iconst 0, 0, 0, []), (105, .istore 6, 0, 0, []), (107, .iload 6, 0, 0, []), (109, .ifCond .eq 7, 116, 0, []),
  (112, .iload_n 3, 0, 0, []), (113, .goto 4, 117, 0, []), (116, .iconst 0, 0, 0, []), (117, .istore 7, 0, 0, []),
  (119, .iload 7, 0, 0, []), (121, .iload_n 3, 0, 0, []), (122, .if_icmp .gt 108, 230, 0, []), (125, .aload_n 0, 0, 0, []),
  (126, .getfield 11, 3, 2, [235]), (129, .iload 7, 0, 0, []), (131, .aaload, 0, 0, []), (132, .astore 8, 0, 0, []),
  (134, .iconst 0, 0, 0, []), (135, .istore 9, 0, 0, []), (137, .iload 9, 0, 0, []), (139, .aload 8, 0, 0, []),
  (141, .getfield 75, 10, 1, [227]), (144, .if_icmp .ge 80, 224, 0, []), (147, .aload 8, 0, 0, []), (149, .getfield 76, 10, 0, [225]),
  (152, .iload 9, 0, 0, []), (154, .aaload, 0, 0, []), (155, .astore 10, 0, 0, []), (157, .aload 10, 0, 0, []),
  (159, .getfield 51, 8, 1, [200]), (162, .iload 5, 0, 0, []), (164, .if_icmp .gt 54, 218, 0, []), (167, .aload_n 0, 0, 0, []),
  (168, .getfield 28, 3, 0, [233]), (171, .aload 10, 0, 0, []), (173, .getfield 64, 8, 2, [202]), (176, .aload_n 1, 0, 0, []),
  (177, .getfield 168, 7, 4, [514]), (180, .iload_n 2, 0, 0, []), (181, .iaload, 0, 0, []), (182, .invokevirtual 86, 16, 2, [786, 301, 302, 62, 303]),
  (185, .ifCond .eq 33, 218, 0, []), (188, .aload_n 0, 0, 0, []), (189, .getfield 24, 3, 4, [237]), (192, .iload 4, 0, 0, []),
  (194, .putfield 51, 8, 1, [200]), (197, .aload_n 0, 0, 0, []), (198, .getfield 24, 3, 4, [237]), (201, .aload 10, 0, 0, []),
  (203, .invokevirtual 144, 84, 1, [787, 788, 789, 67, 790]), (206, .aload_n 0, 0, 0, []), (207, .aload_n 1, 0, 0, []), (208, .iload_n 2, 0, 0, []),
  (209, .iconst 1, 0, 0, []), (210, .iadd, 0, 0, []), (211, .iload_n 3, 0, 0, []), (212, .iload 7, 0, 0, []),
  (214, .isub, 0, 0, []), (215, .invokevirtual 163, 83, 3, [781, 783, 11, 66, 784]), (218, .iinc 9 1, 0, 0, []), (221, .goto (-84), 137, 0, []),
  (224, .iinc 7 1, 0, 0, []), (227, .goto (-108), 119, 0, []), (230, .return_, 0, 0, [])
  ]
/-- ChainDesk$Phrase.addPhrase(LChainDesk$Phrase;)V -/
def cd_r84 : List (Nat × Instr × Nat × Nat × List Nat) := [
  (0, .aload_n 1, 0, 0, []), (1, .getfield 15, 8, 1, [199]), (4, .aload_n 0, 0, 0, []), (5, .getfield 9, 8, 0, [198]),
  (8, .arraylength, 0, 0, []), (9, .aload_n 0, 0, 0, []), (10, .getfield 15, 8, 1, [199]), (13, .isub, 0, 0, []),
  (14, .invokestatic 32, 1003, 2, [791, 792, 84, 793]), (17, .istore_n 2, 0, 0, []), (18, .aload_n 1, 0, 0, []), (19, .getfield 9, 8, 0, [198]),
  (22, .iconst 0, 0, 0, []), (23, .aload_n 0, 0, 0, []), (24, .getfield 9, 8, 0, [198]), (27, .aload_n 0, 0, 0, []),
  (28, .getfield 15, 8, 1, [199]), (31, .iload_n 2, 0, 0, []), (32, .invokestatic 38, 1004, 5, [750, 752, 751, 83]), (35, .aload_n 0, 0, 0, []),
  (36, .dup, 0, 0, []), (37, .getfield 15, 8, 1, [199]), (40, .iload_n 2, 0, 0, []), (41, .iadd, 0, 0, []),
  (42, .putfield 15, 8, 1, [199]), (45, .return_, 0, 0, [])
  ]
/-- ChainDesk$Completer.keepSelections(LChainDesk$Phrase;I)V -/
def cd_r85 : List (Nat × Instr × Nat × Nat × List Nat) := [
  (0, .aload_n 0, 0, 0, []), (1, .getfield 24, 3, 4, [237]), (4, .iconst 0, 0, 0, []), (5, .putfield 51, 8, 1, [200]),
  (8, .aload_n 0, 0, 0, []), (9, .getfield 24, 3, 4, [237]), (12, .aload_n 1, 0, 0, []), (13, .invokevirtual 144, 84, 1, [787, 788, 789, 67, 790]),
  (16, .aload_n 0, 0, 0, []), (17, .getfield 24, 3, 4, [237]), (20, .bipush 46, 0, 0, []), (22, .invokevirtual 133, 72, 1, [775, 727, 728, 67, 729]),
  (25, .aload_n 0, 0, 0, []), (26, .getfield 37, 3, 5, [238]), (29, .aload_n 0, 0, 0, []), (30, .getfield 24, 3, 4, [237]),
  (33, .invokevirtual 147, 74, 1, [785, 735, 736, 68, 737]), (36, .ifCond .ne 4, 40, 0, []), (39, .return_, 0, 0, []), (40, .aload_n 0, 0, 0, []),
  (41, .getfield 24, 3, 4, [237]), (44, .getfield 51, 8, 1, [200]), (47, .istore_n 3, 0, 0, []), (48, .aload_n 1, 0, 0, []),
  (49, .getfield 64, 8, 2, [202]), (52, .iconst 3, 0, 0, []), (53, .isub, 0, 0, []), (54, .istore 4, 0, 0, []),
  (56, .aload_n 0, 0, 0, []), (57, .getfield 28, 3, 0, [233]), (60, .iload 4, 0, 0, []), (62, .invokevirtual 95, 22, 1, [761, 325, 326, 62, 327]),
  (65, .astore 5, 0, 0, []), (67, .aload 5, 0, 0, []), (69, .ifnull 83, 152, 0, []), (72, .iconst 0, 0, 0, []),
  (73, .istore 6, 0, 0, []), (75, .iload 6, 0, 0, []), (77, .aload 5, 0, 0, []), (79, .getfield 99, 4, 3, [412]),
  (82, .if_icmp .ge 60, 142, 0, []), (85, .aload 5, 0, 0, []), (87, .getfield 102, 4, 2, [408]), (90, .iload 6, 0, 0, []),
  (92, .aaload, 0, 0, []), (93, .astore 7, 0, 0, []), (95, .aload_n 0, 0, 0, []), (96, .getfield 28, 3, 0, [233]),
  (99, .iload 4, 0, 0, []), (101, .aload 7, 0, 0, []), (103, .invokevirtual 151, 26, 2, [798, 345, 346, 62, 347]), (106, .ifCond .eq 30, 136, 0, []),
  (109, .aload_n 0, 0, 0, []), (110, .getfield 24, 3, 4, [237]), (113, .iload_n 3, 0, 0, []), (114, .putfield 51, 8, 1, [200]),
  (117, .aload_n 0, 0, 0, []), (118, .getfield 24, 3, 4, [237]), (121, .aload 7, 0, 0, []), (123, .getfield 137, 7, 3, [511]),
  (126, .invokevirtual 58, 71, 1, [722, 723, 724, 67, 725]), (129, .aload_n 0, 0, 0, []), (130, .aload 7, 0, 0, []), (132, .iload_n 2, 0, 0, []),
  (133, .invokevirtual 140, 82, 2, [776, 778, 10, 66, 779]), (136, .iinc 6 1, 0, 0, []), (139, .goto (-64), 75, 0, []), (142, .aload 5, 0, 0, []),
  (144, .getfield 155, 4, 1, [406]), (147, .astore 5, 0, 0, []), (149, .goto (-82), 67, 0, []), (152, .return_, 0, 0, [])
  ]
/-- ChainDesk$Completer.propose(II)I -/
def cd_r86 : List (Nat × Instr × Nat × Nat × List Nat) := [
  (0, .aload_n 0, 0, 0, []), (1, .iconst 0, 0, 0, []), (2, .putfield 83, 3, 6, [239]), (5, .iconst 0, 0, 0, []),
  (6, .istore_n 3, 0, 0, []), (7, .iload_n 3, 0, 0, []), (8, .iload_n 2, 0, 0, []), (9, .if_icmp .gt 94, 103, 0, []),
  (12, .aload_n 0, 0, 0, []), (13, .getfield 11, 3, 2, [235]), (16, .iload_n 3, 0, 0, []), (17, .aaload, 0, 0, []),
  (18, .astore 4, 0, 0, []), (20, .iconst 0, 0, 0, []), (21, .istore 5, 0, 0, []), (23, .iload 5, 0, 0, []),
  (25, .aload 4, 0, 0, []), (27, .getfield 75, 10, 1, [227]), (30, .if_icmp .ge 67, 97, 0, []), (33, .aload_n 0, 0, 0, []),
  (34, .getfield 83, 3, 6, [239]), (37, .bipush 10, 0, 0, []), (39, .if_icmp .ge 58, 97, 0, []), (42, .aload_n 0, 0, 0, []),
  (43, .getfield 28, 3, 0, [233]), (46, .aload 4, 0, 0, []), (48, .getfield 76, 10, 0, [225]), (51, .iload 5, 0, 0, []),
  (53, .aaload, 0, 0, []), (54, .getfield 64, 8, 2, [202]), (57, .iload_n 1, 0, 0, []), (58, .invokevirtual 86, 16, 2, [786, 301, 302, 62, 303]),
  (61, .ifCond .eq 30, 91, 0, []), (64, .aload_n 0, 0, 0, []), (65, .getfield 19, 3, 3, [236]), (68, .aload_n 0, 0, 0, []),
  (69, .getfield 83, 3, 6, [239]), (72, .aload 4, 0, 0, []), (74, .getfield 76, 10, 0, [225]), (77, .iload 5, 0, 0, []),
  (79, .aaload, 0, 0, []), (80, .aastore, 0, 0, []), (81, .aload_n 0, 0, 0, []), (82, .dup, 0, 0, []),
  (83, .getfield 83, 3, 6, [239]), (86, .iconst 1, 0, 0, []), (87, .iadd, 0, 0, []), (88, .putfield 83, 3, 6, [239]),
  (91, .iinc 5 1, 0, 0, []), (94, .goto (-71), 23, 0, []), (97, .iinc 3 1, 0, 0, []), (100, .goto (-93), 7, 0, []),
  (103, .aload_n 0, 0, 0, []), (104, .getfield 83, 3, 6, [239]), (107, .ireturn, 0, 0, [])
  ]
/-- ChainDesk.check()I -/
def cd_r87 : List (Nat × Instr × Nat × Nat × List Nat) := [
  (0, .aload_n 0, 0, 0, []), (1, .getfield 44, 0, 4, [259]), (4, .invokevirtual 122, 88, 0, [810, 811, 812, 65, 813]), (7, .istore_n 1, 0, 0, []),
  (8, .aload_n 0, 0, 0, []), (9, .getfield 10, 0, 0, [255]), (12, .invokevirtual 77, 60, 0, [588, 589, 590, 61, 591]), (15, .iload_n 1, 0, 0, []),
  (16, .iconst (-1), 0, 0, []), (17, .if_icmp .ne 11, 28, 0, []), (20, .new 80, 12, 82, [592, 593, 81]), (28, .aload_n 0, 0, 0, []),
  (29, .aload_n 0, 0, 0, []), (30, .getfield 44, 0, 4, [259]), (33, .getfield 126, 6, 3, [173]), (36, .putfield 57, 0, 6, [261]),
  (39, .iload_n 1, 0, 0, []), (40, .ireturn, 0, 0, [])
  ]
/-- ChainDesk$ExpressionReader.read()I -/
def cd_r88 : List (Nat × Instr × Nat × Nat × List Nat) := [
  (0, .aload_n 0, 0, 0, []), (1, .iconst 0, 0, 0, []), (2, .putfield 23, 6, 3, [172]), (5, .aload_n 0, 0, 0, []),
  (6, .iconst 0, 0, 0, []), (7, .invokevirtual 27, 89, 1, [814, 816, 13, 65, 817]), (10, .istore_n 1, 0, 0, []), (11, .aload_n 0, 0, 0, []),
  (12, .getfield 9, 6, 0, [169]), (15, .invokevirtual 31, 59, 0, [861, 585, 586, 61, 587]), (18, .ifCond .eq 7, 25, 0, []), (21, .iload_n 1, 0, 0, []),
  (22, .goto 4, 26, 0, []), (25, .iconst (-1), 0, 0, []), (26, .ireturn, 0, 0, [])
  ]
/-- ChainDesk$ExpressionReader.readExpression(I)I -/
def cd_r89 : List (Nat × Instr × Nat × Nat × List Nat) := [
  (0, .iload_n 1, 0, 0, []), (1, .bipush 6, 0, 0, []), (3, .if_icmp .le 5, 8, 0, []), (6, .iconst (-1), 0, 0, []),
  (7, .ireturn, 0, 0, []), (8, .aload_n 0, 0, 0, []), (9, .iload_n 1, 0, 0, []), (10, .invokevirtual 37, 90, 1, [818, 820, 14, 65, 821]),
  (13, .istore_n 2, 0, 0, []), (14, .iconst 0, 0, 0, []), (15, .istore_n 3, 0, 0, []), (16, .iload_n 3, 0, 0, []),
  (17, .bipush 120, 0, 0, []), (19, .if_icmp .ge 33, 52, 0, []), (22, .iload_n 2, 0, 0, []), (23, .iconst (-1), 0, 0, []),
  (24, .if_icmp .eq 28, 52, 0, []), (27, .aload_n 0, 0, 0, []), (28, .getfield 9, 6, 0, [169]), (31, .bipush 46, 0, 0, []),
  (33, .invokevirtual 40, 34, 1, [842, 385, 386, 61, 387]), (36, .ifCond .eq 16, 52, 0, []), (39, .aload_n 0, 0, 0, []), (40, .iload_n 2, 0, 0, []),
  (41, .iload_n 1, 0, 0, []), (42, .invokevirtual 44, 97, 2, [856, 858, 19, 65, 859]), (45, .istore_n 2, 0, 0, []), (46, .iinc 3 1, 0, 0, []),
  (49, .goto (-33), 16, 0, []), (52, .iload_n 2, 0, 0, []), (53, .ireturn, 0, 0, [])
  ]
/-- ChainDesk$ExpressionReader.readHead(I)I -/
def cd_r90 : List (Nat × Instr × Nat × Nat × List Nat) := [
  (0, .aload_n 0, 0, 0, []), (1, .getfield 9, 6, 0, [169]), (4, .ldc 48, 13, 0, [822]), (6, .invokevirtual 50, 39, 1, [823, 433, 434, 61, 435]),
  (9, .ifCond .eq 23, 32, 0, []), (12, .aload_n 0, 0, 0, []), (13, .aload_n 0, 0, 0, []), (14, .getfield 15, 6, 1, [170]),
  (17, .aload_n 0, 0, 0, []), (18, .getfield 9, 6, 0, [169]), (21, .invokevirtual 54, 33, 0, [824, 380, 381, 61, 382]), (24, .invokevirtual 58, 91, 1, [825, 826, 827, 62, 828]),
  (27, .iload_n 1, 0, 0, []), (28, .invokevirtual 64, 93, 2, [833, 835, 16, 65, 836]), (31, .ireturn, 0, 0, []), (32, .aload_n 0, 0, 0, []),
  (33, .getfield 9, 6, 0, [169]), (36, .invokevirtual 54, 33, 0, [824, 380, 381, 61, 382]), (39, .istore_n 2, 0, 0, []), (40, .iload_n 2, 0, 0, []),
  (41, .iconst (-1), 0, 0, []), (42, .if_icmp .ne 18, 60, 0, []), (45, .aload_n 0, 0, 0, []), (46, .getfield 19, 6, 2, [171]),
  (49, .aload_n 0, 0, 0, []), (50, .getfield 9, 6, 0, [169]), (53, .invokevirtual 68, 54, 0, [844, 561, 562, 61, 563]), (56, .invokevirtual 71, 66, 1, [845, 697, 698, 63, 699]),
  (59, .ireturn, 0, 0, []), (60, .aload_n 0, 0, 0, []), (61, .getfield 9, 6, 0, [169]), (64, .bipush 46, 0, 0, []),
  (66, .invokevirtual 40, 34, 1, [842, 385, 386, 61, 387]), (69, .ifCond .ne 5, 74, 0, []), (72, .iconst (-1), 0, 0, []), (73, .ireturn, 0, 0, []),
  (74, .aload_n 0, 0, 0, []), (75, .getfield 9, 6, 0, [169]), (78, .invokevirtual 68, 54, 0, [844, 561, 562, 61, 563]), (81, .istore_n 3, 0, 0, []),
  (82, .aload_n 0, 0, 0, []), (83, .aload_n 0, 0, 0, []), (84, .getfield 15, 6, 1, [170]), (87, .iload_n 2, 0, 0, []),
  (88, .aload_n 0, 0, 0, []), (89, .invokevirtual 76, 95, 0, [846, 848, 18, 65, 849]), (92, .iload_n 3, 0, 0, []), (93, .invokevirtual 80, 96, 3, [852, 853, 854, 62, 855]),
  (96, .iload_n 1, 0, 0, []), (97, .invokevirtual 64, 93, 2, [833, 835, 16, 65, 836]), (100, .ireturn, 0, 0, [])
  ]
/-- ChainDesk$Catalog.findMaker(I)LChainDesk$Member; -/
def cd_r91 : List (Nat × Instr × Nat × Nat × List Nat) := [
  (0, .aload_n 0, 0, 0, []), (1, .iload_n 1, 0, 0, []), (2, .getstatic 57, 2, 0, [348]), (5, .iconst 0, 0, 0, []),
  (6, .invokevirtual 80, 92, 3, [829, 831, 15, 62, 832]), (9, .areturn, 0, 0, [])
  ]
/-- ChainDesk$Catalog.findOwn(ILChainDesk$Kind;I)LChainDesk$Member; -/
def cd_r92 : List (Nat × Instr × Nat × Nat × List Nat) := [
  (0, .aload_n 0, 0, 0, []), (1, .iload_n 1, 0, 0, []), (2, .invokevirtual 28, 22, 1, [343, 325, 326, 62, 327]), (5, .astore 4, 0, 0, []),
  (7, .aload 4, 0, 0, []), (9, .ifnonnull 5, 14, 0, []), (12, .aconst_null, 0, 0, []), (13, .areturn, 0, 0, []),
  (14, .aload 4, 0, 0, []), (16, .aload_n 2, 0, 0, []), (17, .iload_n 3, 0, 0, []), (18, .invokevirtual 42, 28, 2, [354, 355, 356, 70, 357]),
  (21, .astore 5, 0, 0, []), (23, .aload 5, 0, 0, []), (25, .ifnull 19, 44, 0, []), (28, .aload_n 0, 0, 0, []),
  (29, .aload 4, 0, 0, []), (31, .aload 5, 0, 0, []), (33, .invokevirtual 49, 30, 2, [362, 363, 364, 62, 365]), (36, .ifCond .eq 8, 44, 0, []),
  (39, .aload 5, 0, 0, []), (41, .goto 4, 45, 0, []), (44, .aconst_null, 0, 0, []), (45, .areturn, 0, 0, [])
  ]
/-- ChainDesk$ExpressionReader.readUse(LChainDesk$Member;I)I -/
def cd_r93 : List (Nat × Instr × Nat × Nat × List Nat) := [
  (0, .aload_n 1, 0, 0, []), (1, .ifnonnull 5, 6, 0, []), (4, .iconst (-1), 0, 0, []), (5, .ireturn, 0, 0, []),
  (6, .aload_n 0, 0, 0, []), (7, .dup, 0, 0, []), (8, .getfield 23, 6, 3, [172]), (11, .iconst 1, 0, 0, []),
  (12, .iadd, 0, 0, []), (13, .putfield 23, 6, 3, [172]), (16, .aload_n 1, 0, 0, []), (17, .getfield 99, 7, 0, [499]),
  (20, .getstatic 96, 0, 0, [837]), (23, .if_acmp .eq 14, 37, 0, []), (26, .aload_n 0, 0, 0, []), (27, .aload_n 1, 0, 0, []),
  (28, .iload_n 2, 0, 0, []), (29, .invokevirtual 104, 94, 2, [838, 840, 17, 65, 841]), (32, .ifCond .ne 5, 37, 0, []), (35, .iconst (-1), 0, 0, []),
  (36, .ireturn, 0, 0, []), (37, .aload_n 1, 0, 0, []), (38, .getfield 108, 7, 6, [520]), (41, .ireturn, 0, 0, [])
  ]
/-- ChainDesk$ExpressionReader.readArguments(LChainDesk$Member;I)Z -/
def cd_r94 : List (Nat × Instr × Nat × Nat × List Nat) := [
  (0, .aload_n 0, 0, 0, []), (1, .getfield 9, 6, 0, [169]), (4, .bipush 40, 0, 0, []), (6, .invokevirtual 40, 34, 1, [842, 385, 386, 61, 387]),
  (9, .ifCond .ne 5, 14, 0, []), (12, .iconst 0, 0, 0, []), (13, .ireturn, 0, 0, []), (14, .iconst 0, 0, 0, []),
  (15, .istore_n 3, 0, 0, []), (16, .iload_n 3, 0, 0, []), (17, .aload_n 1, 0, 0, []), (18, .getfield 111, 7, 5, [516]),
  (21, .if_icmp .ge 62, 83, 0, []), (24, .iload_n 3, 0, 0, []), (25, .ifCond .le 17, 42, 0, []), (28, .aload_n 0, 0, 0, []),
  (29, .getfield 9, 6, 0, [169]), (32, .bipush 44, 0, 0, []), (34, .invokevirtual 40, 34, 1, [842, 385, 386, 61, 387]), (37, .ifCond .ne 5, 42, 0, []),
  (40, .iconst 0, 0, 0, []), (41, .ireturn, 0, 0, []), (42, .aload_n 0, 0, 0, []), (43, .iload_n 2, 0, 0, []),
  (44, .iconst 1, 0, 0, []), (45, .iadd, 0, 0, []), (46, .invokevirtual 27, 89, 1, [814, 816, 13, 65, 817]), (49, .istore 4, 0, 0, []),
  (51, .iload 4, 0, 0, []), (53, .iconst (-1), 0, 0, []), (54, .if_icmp .eq 21, 75, 0, []), (57, .aload_n 0, 0, 0, []),
  (58, .getfield 15, 6, 1, [170]), (61, .iload 4, 0, 0, []), (63, .aload_n 1, 0, 0, []), (64, .getfield 114, 7, 4, [513]),
  (67, .iload_n 3, 0, 0, []), (68, .iaload, 0, 0, []), (69, .invokevirtual 118, 16, 2, [843, 301, 302, 62, 303]), (72, .ifCond .ne 5, 77, 0, []),
  (75, .iconst 0, 0, 0, []), (76, .ireturn, 0, 0, []), (77, .iinc 3 1, 0, 0, []), (80, .goto (-64), 16, 0, []),
  (83, .aload_n 0, 0, 0, []), (84, .getfield 9, 6, 0, [169]), (87, .bipush 41, 0, 0, []), (89, .invokevirtual 40, 34, 1, [842, 385, 386, 61, 387]),
  (92, .ireturn, 0, 0, [])
  ]
/-- ChainDesk$ExpressionReader.kindAhead()LChainDesk$Kind; -/
def cd_r95 : List (Nat × Instr × Nat × Nat × List Nat) := [
  (0, .aload_n 0, 0, 0, []), (1, .getfield 9, 6, 0, [169]), (4, .bipush 40, 0, 0, []), (6, .invokevirtual 87, 35, 1, [850, 389, 390, 61, 391]),
  (9, .ifCond .eq 9, 18, 0, []), (12, .getstatic 90, 1, 0, [851]), (15, .goto 6, 21, 0, []), (18, .getstatic 96, 0, 0, [837]),
  (21, .areturn, 0, 0, [])
  ]
/-- ChainDesk$Catalog.findStatic(ILChainDesk$Kind;I)LChainDesk$Member; -/
def cd_r96 : List (Nat × Instr × Nat × Nat × List Nat) := [
  (0, .aload_n 0, 0, 0, []), (1, .iload_n 1, 0, 0, []), (2, .aload_n 2, 0, 0, []), (3, .iload_n 3, 0, 0, []),
  (4, .invokevirtual 80, 92, 3, [829, 831, 15, 62, 832]), (7, .astore 4, 0, 0, []), (9, .aload 4, 0, 0, []), (11, .ifnull 16, 27, 0, []),
  (14, .aload 4, 0, 0, []), (16, .getfield 46, 7, 2, [506]), (19, .ifCond .eq 8, 27, 0, []), (22, .aload 4, 0, 0, []),
  (24, .goto 4, 28, 0, []), (27, .aconst_null, 0, 0, []), (28, .areturn, 0, 0, [])
  ]
/-- ChainDesk$ExpressionReader.readSelection(II)I -/
def cd_r97 : List (Nat × Instr × Nat × Nat × List Nat) := [
  (0, .aload_n 0, 0, 0, []), (1, .getfield 9, 6, 0, [169]), (4, .invokevirtual 68, 54, 0, [844, 561, 562, 61, 563]), (7, .istore_n 3, 0, 0, []),
  (8, .aload_n 0, 0, 0, []), (9, .aload_n 0, 0, 0, []), (10, .getfield 15, 6, 1, [170]), (13, .iload_n 1, 0, 0, []),
  (14, .iconst 3, 0, 0, []), (15, .isub, 0, 0, []), (16, .aload_n 0, 0, 0, []), (17, .invokevirtual 76, 95, 0, [846, 848, 18, 65, 849]),
  (20, .iload_n 3, 0, 0, []), (21, .invokevirtual 84, 27, 3, [860, 351, 352, 62, 353]), (24, .iload_n 2, 0, 0, []), (25, .invokevirtual 64, 93, 2, [833, 835, 16, 65, 836]),
  (28, .ireturn, 0, 0, [])
  ]
/-- ChainDeskModel.<init>()V -/
def cd_r98 : List (Nat × Instr × Nat × Nat × List Nat) := [
  (0, .aload_n 0, 0, 0, []), (1, .invokespecial 1, 1000, 0, [867, 91, 92]), (4, .aload_n 0, 0, 0, []), (5, .bipush 120, 0, 0, []),
  (7, .newarray .char, 0, 0, [109]), (9, .putfield 7, 11, 1, [869]), (12, .aload_n 0, 0, 0, []), (13, .bipush 10, 0, 0, []),
  (15, .newarray .boolean, 0, 0, [986]), (17, .putfield 13, 11, 5, [873]), (20, .aload_n 0, 0, 0, []), (21, .bipush 10, 0, 0, []),
  (23, .newarray .int, 0, 0, [129]), (25, .putfield 17, 11, 6, [874]), (28, .aload_n 0, 0, 0, []), (29, .bipush 10, 0, 0, []),
  (31, .newarray .int, 0, 0, [129]), (33, .putfield 21, 11, 7, [875]), (36, .aload_n 0, 0, 0, []), (37, .bipush 66, 0, 0, []),
  (39, .newarray .int, 0, 0, [129]), (41, .putfield 24, 11, 8, [876]), (44, .aload_n 0, 0, 0, []), (45, .bipush 66, 0, 0, []),
  (47, .newarray .boolean, 0, 0, [986]), (49, .putfield 27, 11, 9, [877]), (52, .aload_n 0, 0, 0, []), (53, .bipush 66, 0, 0, []),
  (55, .newarray .boolean, 0, 0, [986]), (57, .putfield 30, 11, 10, [878]), (60, .aload_n 0, 0, 0, []), (61, .bipush 66, 0, 0, []),
  (63, .newarray .int, 0, 0, [129]), (65, .putfield 33, 11, 11, [879]), (68, .aload_n 0, 0, 0, []), (69, .bipush 66, 0, 0, []),
  (71, .newarray .int, 0, 0, [129]), (73, .putfield 36, 11, 12, [880]), (76, .aload_n 0, 0, 0, []), (77, .bipush 66, 0, 0, []),
  (79, .newarray .int, 0, 0, [129]), (81, .putfield 39, 11, 13, [881]), (84, .aload_n 0, 0, 0, []), (85, .sipush 132, 0, 0, []),
  (88, .newarray .int, 0, 0, [129]), (90, .putfield 42, 11, 14, [882]), (93, .aload_n 0, 0, 0, []), (94, .iconst 5, 0, 0, []),
  (95, .newarray .int, 0, 0, [129]), (97, .putfield 45, 11, 16, [884]), (100, .aload_n 0, 0, 0, []), (101, .iconst 5, 0, 0, []),
  (102, .newarray .int, 0, 0, [129]), (104, .putfield 48, 11, 17, [885]), (107, .aload_n 0, 0, 0, []), (108, .iconst (-1), 0, 0, []),
  (109, .putfield 51, 11, 18, [886]), (112, .aload_n 0, 0, 0, []), (113, .bipush 33, 0, 0, []), (115, .newarray .int, 0, 0, [129]),
  (117, .putfield 55, 11, 20, [888]), (120, .aload_n 0, 0, 0, []), (121, .bipush 33, 0, 0, []), (123, .newarray .int, 0, 0, [129]),
  (125, .putfield 58, 11, 21, [889]), (128, .aload_n 0, 0, 0, []), (129, .bipush 33, 0, 0, []), (131, .newarray .int, 0, 0, [129]),
  (133, .putfield 61, 11, 22, [890]), (136, .aload_n 0, 0, 0, []), (137, .sipush 792, 0, 0, []), (140, .newarray .char, 0, 0, [109]),
  (142, .putfield 64, 11, 23, [891]), (145, .aload_n 0, 0, 0, []), (146, .sipush 200, 0, 0, []), (149, .newarray .char, 0, 0, [109]),
  (151, .putfield 67, 11, 26, [894]), (154, .aload_n 0, 0, 0, []), (155, .bipush 10, 0, 0, []), (157, .newarray .int, 0, 0, [129]),
  (159, .putfield 70, 11, 28, [896]), (162, .aload_n 0, 0, 0, []), (163, .bipush 10, 0, 0, []), (165, .newarray .int, 0, 0, [129]),
  (167, .putfield 73, 11, 29, [897]), (170, .aload_n 0, 0, 0, []), (171, .bipush 10, 0, 0, []), (173, .newarray .int, 0, 0, [129]),
  (175, .putfield 76, 11, 30, [898]), (178, .aload_n 0, 0, 0, []), (179, .sipush 240, 0, 0, []), (182, .newarray .char, 0, 0, [109]),
  (184, .putfield 79, 11, 31, [899]), (187, .aload_n 0, 0, 0, []), (188, .sipush 130, 0, 0, []), (191, .newarray .int, 0, 0, [129]),
  (193, .putfield 82, 11, 34, [902]), (196, .aload_n 0, 0, 0, []), (197, .sipush 130, 0, 0, []), (200, .newarray .int, 0, 0, [129]),
  (202, .putfield 85, 11, 35, [903]), (205, .return_, 0, 0, [])
  ]
/-- ChainDeskModel.thrown()I -/
def cd_r99 : List (Nat × Instr × Nat × Nat × List Nat) := [
  (0, .aload_n 0, 0, 0, []), (1, .getfield 88, 11, 0, [868]), (4, .ireturn, 0, 0, [])
  ]
/-- ChainDeskModel.put(II)Z -/
def cd_r100 : List (Nat × Instr × Nat × Nat × List Nat) := [
  (0, .aload_n 0, 0, 0, []), (1, .iconst 0, 0, 0, []), (2, .putfield 88, 11, 0, [868]), (5, .iload_n 2, 0, 0, []),
  (6, .iconst 1, 0, 0, []), (7, .iconst 4, 0, 0, []), (8, .invokestatic 91, 101, 3, [995, 996, 69, 997]), (11, .ifCond .ne 14, 25, 0, []),
  (14, .aload_n 0, 0, 0, []), (15, .getfield 95, 11, 2, [870]), (18, .iload_n 2, 0, 0, []), (19, .iadd, 0, 0, []),
  (20, .bipush 120, 0, 0, []), (22, .if_icmp .le 5, 27, 0, []), (25, .iconst 0, 0, 0, []), (26, .ireturn, 0, 0, []),
  (27, .iconst 0, 0, 0, []), (28, .istore_n 3, 0, 0, []), (29, .iload_n 3, 0, 0, []), (30, .iload_n 2, 0, 0, []),
  (31, .if_icmp .ge 31, 62, 0, []), (34, .iload_n 1, 0, 0, []), (35, .bipush 8, 0, 0, []), (37, .iload_n 3, 0, 0, []),
  (38, .imul, 0, 0, []), (39, .ishr, 0, 0, []), (40, .sipush 255, 0, 0, []), (43, .iand, 0, 0, []),
  (44, .bipush 32, 0, 0, []), (46, .bipush 126, 0, 0, []), (48, .invokestatic 91, 101, 3, [995, 996, 69, 997]), (51, .ifCond .eq 5, 56, 0, []),
  (54, .iconst 0, 0, 0, []), (55, .ireturn, 0, 0, []), (56, .iinc 3 1, 0, 0, []), (59, .goto (-30), 29, 0, []),
  (62, .iload_n 2, 0, 0, []), (63, .iconst 1, 0, 0, []), (64, .isub, 0, 0, []), (65, .istore_n 3, 0, 0, []),
  (66, .iload_n 3, 0, 0, []), (67, .ifCond .lt 39, 106, 0, []), (70, .aload_n 0, 0, 0, []), (71, .getfield 7, 11, 1, [869]),
  (74, .aload_n 0, 0, 0, []), (75, .getfield 95, 11, 2, [870]), (78, .iload_n 1, 0, 0, []), (79, .bipush 8, 0, 0, []),
  (81, .iload_n 3, 0, 0, []), (82, .imul, 0, 0, []), (83, .ishr, 0, 0, []), (84, .sipush 255, 0, 0, []),
  (87, .iand, 0, 0, []), (88, .i2c, 0, 0, []), (89, .castore, 0, 0, []), (90, .aload_n 0, 0, 0, []),
  (91, .dup, 0, 0, []), (92, .getfield 95, 11, 2, [870]), (95, .iconst 1, 0, 0, []), (96, .iadd, 0, 0, []),
  (97, .putfield 95, 11, 2, [870]), (100, .iinc 3 (-1), 0, 0, []), (103, .goto (-37), 66, 0, []), (106, .iconst 1, 0, 0, []),
  (107, .ireturn, 0, 0, [])
  ]
/-- ChainDeskModel.outside(III)Z -/
def cd_r101 : List (Nat × Instr × Nat × Nat × List Nat) := [
  (0, .iload_n 0, 0, 0, []), (1, .iload_n 1, 0, 0, []), (2, .if_icmp .lt 8, 10, 0, []), (5, .iload_n 0, 0, 0, []),
  (6, .iload_n 2, 0, 0, []), (7, .if_icmp .le 7, 14, 0, []), (10, .iconst 1, 0, 0, []), (11, .goto 4, 15, 0, []),
  (14, .iconst 0, 0, 0, []), (15, .ireturn, 0, 0, [])
  ]
/-- ChainDeskModel.declare()I -/
def cd_r102 : List (Nat × Instr × Nat × Nat × List Nat) := [
  (0, .aload_n 0, 0, 0, []), (1, .iconst 0, 0, 0, []), (2, .putfield 98, 11, 3, [871]), (5, .aload_n 0, 0, 0, []),
  (6, .iconst 1, 0, 0, []), (7, .putfield 101, 11, 4, [872]), (10, .aload_n 0, 0, 0, []), (11, .invokevirtual 173, 103, 0, [1002, 1004, 20, 69, 1005]),
  (14, .istore_n 1, 0, 0, []), (15, .aload_n 0, 0, 0, []), (16, .iconst 0, 0, 0, []), (17, .putfield 95, 11, 2, [870]),
  (20, .aload_n 0, 0, 0, []), (21, .getfield 101, 11, 4, [872]), (24, .ifCond .ne 9, 33, 0, []), (27, .aload_n 0, 0, 0, []),
  (28, .iconst 1, 0, 0, []), (29, .invokevirtual 176, 121, 1, [1070, 1072, 34, 69, 1073]), (32, .ireturn, 0, 0, []), (33, .aload_n 0, 0, 0, []),
  (34, .getfield 13, 11, 5, [873]), (37, .iload_n 1, 0, 0, []), (38, .baload, 0, 0, []), (39, .ifCond .eq 9, 48, 0, []),
  (42, .aload_n 0, 0, 0, []), (43, .iconst 2, 0, 0, []), (44, .invokevirtual 176, 121, 1, [1070, 1072, 34, 69, 1073]), (47, .ireturn, 0, 0, []),
  (48, .aload_n 0, 0, 0, []), (49, .iconst 0, 0, 0, []), (50, .putfield 88, 11, 0, [868]), (53, .aload_n 0, 0, 0, []),
  (54, .getfield 13, 11, 5, [873]), (57, .iload_n 1, 0, 0, []), (58, .iconst 1, 0, 0, []), (59, .bastore, 0, 0, []),
  (60, .aload_n 0, 0, 0, []), (61, .getfield 17, 11, 6, [874]), (64, .iload_n 1, 0, 0, []), (65, .aload_n 0, 0, 0, []),
  (66, .getfield 160, 11, 37, [905]), (69, .iastore, 0, 0, []), (70, .aload_n 0, 0, 0, []), (71, .getfield 21, 11, 7, [875]),
  (74, .iload_n 1, 0, 0, []), (75, .aload_n 0, 0, 0, []), (76, .getfield 163, 11, 38, [906]), (79, .iastore, 0, 0, []),
  (80, .iconst 0, 0, 0, []), (81, .istore_n 2, 0, 0, []), (82, .iload_n 2, 0, 0, []), (83, .aload_n 0, 0, 0, []),
  (84, .getfield 163, 11, 38, [906]), (87, .if_icmp .ge 23, 110, 0, []), (90, .aload_n 0, 0, 0, []), (91, .bipush 60, 0, 0, []),
  (93, .iload_n 2, 0, 0, []), (94, .iadd, 0, 0, []), (95, .bipush 6, 0, 0, []), (97, .iload_n 1, 0, 0, []),
  (98, .imul, 0, 0, []), (99, .iload_n 2, 0, 0, []), (100, .iadd, 0, 0, []), (101, .invokevirtual 180, 122, 2, [1074, 1076, 35, 69, 1077]),
  (104, .iinc 2 1, 0, 0, []), (107, .goto (-25), 82, 0, []), (110, .aload_n 0, 0, 0, []), (111, .getfield 163, 11, 38, [906]),
  (114, .ireturn, 0, 0, [])
  ]
/-- ChainDeskModel.readDeclaration()I -/
def cd_r103 : List (Nat × Instr × Nat × Nat × List Nat) := [
  (0, .aload_n 0, 0, 0, []), (1, .invokevirtual 135, 104, 0, [1006, 1008, 21, 69, 1009]), (4, .istore_n 1, 0, 0, []), (5, .aload_n 0, 0, 0, []),
  (6, .iconst (-1), 0, 0, []), (7, .putfield 160, 11, 37, [905]), (10, .aload_n 0, 0, 0, []), (11, .getfield 101, 11, 4, [872]),
  (14, .ifCond .eq 48, 62, 0, []), (17, .aload_n 0, 0, 0, []), (18, .bipush 58, 0, 0, []), (20, .invokevirtual 109, 108, 1, [1021, 1023, 24, 69, 1024]),
  (23, .ifCond .eq 39, 62, 0, []), (26, .aload_n 0, 0, 0, []), (27, .aload_n 0, 0, 0, []), (28, .invokevirtual 135, 104, 0, [1006, 1008, 21, 69, 1009]),
  (31, .putfield 160, 11, 37, [905]), (34, .aload_n 0, 0, 0, []), (35, .aload_n 0, 0, 0, []), (36, .getfield 101, 11, 4, [872]),
  (39, .ifCond .eq 19, 58, 0, []), (42, .aload_n 0, 0, 0, []), (43, .getfield 13, 11, 5, [873]), (46, .aload_n 0, 0, 0, []),
  (47, .getfield 160, 11, 37, [905]), (50, .baload, 0, 0, []), (51, .ifCond .eq 7, 58, 0, []), (54, .iconst 1, 0, 0, []),
  (55, .goto 4, 59, 0, []), (58, .iconst 0, 0, 0, []), (59, .invokevirtual 113, 107, 1, [1017, 1019, 23, 69, 1020]), (62, .aload_n 0, 0, 0, []),
  (63, .iconst 0, 0, 0, []), (64, .putfield 163, 11, 38, [906]), (67, .aload_n 0, 0, 0, []), (68, .bipush 123, 0, 0, []),
  (70, .invokevirtual 138, 109, 1, [1025, 1027, 25, 69, 1028]), (73, .aload_n 0, 0, 0, []), (74, .getfield 101, 11, 4, [872]), (77, .ifCond .eq 165, 242, 0, []),
  (80, .aload_n 0, 0, 0, []), (81, .bipush 125, 0, 0, []), (83, .invokevirtual 109, 108, 1, [1021, 1023, 24, 69, 1024]), (86, .ifCond .ne 156, 242, 0, []),
  (89, .aload_n 0, 0, 0, []), (90, .getfield 163, 11, 38, [906]), (93, .ifCond .le 9, 102, 0, []), (96, .aload_n 0, 0, 0, []),
  (97, .bipush 59, 0, 0, []), (99, .invokevirtual 138, 109, 1, [1025, 1027, 25, 69, 1028]), (102, .aload_n 0, 0, 0, []), (103, .aload_n 0, 0, 0, []),
  (104, .getfield 163, 11, 38, [906]), (107, .bipush 6, 0, 0, []), (109, .if_icmp .ge 7, 116, 0, []), (112, .iconst 1, 0, 0, []),
  (113, .goto 4, 117, 0, []), (116, .iconst 0, 0, 0, []), (117, .invokevirtual 113, 107, 1, [1017, 1019, 23, 69, 1020]), (120, .bipush 60, 0, 0, []),
  (122, .aload_n 0, 0, 0, []), (123, .getfield 163, 11, 38, [906]), (126, .iadd, 0, 0, []), (127, .istore_n 2, 0, 0, []),
  (128, .aload_n 0, 0, 0, []), (129, .getfield 101, 11, 4, [872]), (132, .ifCond .eq 9, 141, 0, []), (135, .aload_n 0, 0, 0, []),
  (136, .iload_n 2, 0, 0, []), (137, .iload_n 1, 0, 0, []), (138, .invokevirtual 166, 110, 2, [1029, 1031, 26, 69, 1032]), (141, .bipush 60, 0, 0, []),
  (143, .istore_n 3, 0, 0, []), (144, .iload_n 3, 0, 0, []), (145, .iload_n 2, 0, 0, []), (146, .if_icmp .ge 55, 201, 0, []),
  (149, .aload_n 0, 0, 0, []), (150, .getfield 101, 11, 4, [872]), (153, .ifCond .eq 48, 201, 0, []), (156, .aload_n 0, 0, 0, []),
  (157, .aload_n 0, 0, 0, []), (158, .getfield 24, 11, 8, [876]), (161, .iload_n 3, 0, 0, []), (162, .iaload, 0, 0, []),
  (163, .aload_n 0, 0, 0, []), (164, .getfield 24, 11, 8, [876]), (167, .iload_n 2, 0, 0, []), (168, .iaload, 0, 0, []),
  (169, .if_icmp .ne 18, 187, 0, []), (172, .aload_n 0, 0, 0, []), (173, .getfield 33, 11, 11, [879]), (176, .iload_n 3, 0, 0, []),
  (177, .iaload, 0, 0, []), (178, .aload_n 0, 0, 0, []), (179, .getfield 33, 11, 11, [879]), (182, .iload_n 2, 0, 0, []),
  (183, .iaload, 0, 0, []), (184, .if_icmp .eq 7, 191, 0, []), (187, .iconst 1, 0, 0, []), (188, .goto 4, 192, 0, []),
  (191, .iconst 0, 0, 0, []), (192, .invokevirtual 113, 107, 1, [1017, 1019, 23, 69, 1020]), (195, .iinc 3 1, 0, 0, []), (198, .goto (-54), 144, 0, []),
  (201, .aload_n 0, 0, 0, []), (202, .aload_n 0, 0, 0, []), (203, .getfield 101, 11, 4, [872]), (206, .ifCond .eq 15, 221, 0, []),
  (209, .aload_n 0, 0, 0, []), (210, .iload_n 2, 0, 0, []), (211, .aload_n 0, 0, 0, []), (212, .getfield 160, 11, 37, [905]),
  (215, .invokevirtual 170, 119, 2, [1062, 1064, 32, 69, 1065]), (218, .ifCond .eq 7, 225, 0, []), (221, .iconst 1, 0, 0, []), (222, .goto 4, 226, 0, []),
  (225, .iconst 0, 0, 0, []), (226, .invokevirtual 113, 107, 1, [1017, 1019, 23, 69, 1020]), (229, .aload_n 0, 0, 0, []), (230, .dup, 0, 0, []),
  (231, .getfield 163, 11, 38, [906]), (234, .iconst 1, 0, 0, []), (235, .iadd, 0, 0, []), (236, .putfield 163, 11, 38, [906]),
  (239, .goto (-166), 73, 0, []), (242, .aload_n 0, 0, 0, []), (243, .aload_n 0, 0, 0, []), (244, .getfield 98, 11, 3, [871]),
  (247, .aload_n 0, 0, 0, []), (248, .getfield 95, 11, 2, [870]), (251, .if_icmp .ne 7, 258, 0, []), (254, .iconst 1, 0, 0, []),
  (255, .goto 4, 259, 0, []), (258, .iconst 0, 0, 0, []), (259, .invokevirtual 113, 107, 1, [1017, 1019, 23, 69, 1020]), (262, .iload_n 1, 0, 0, []),
  (263, .ireturn, 0, 0, [])
  ]
/-- ChainDeskModel.readClass()I -/
def cd_r104 : List (Nat × Instr × Nat × Nat × List Nat) := [
  (0, .aload_n 0, 0, 0, []), (1, .aload_n 0, 0, 0, []), (2, .iconst 0, 0, 0, []), (3, .invokevirtual 105, 105, 1, [1010, 1012, 22, 69, 1013]),
  (6, .invokestatic 132, 106, 1, [1014, 1015, 69, 1016]), (9, .invokevirtual 113, 107, 1, [1017, 1019, 23, 69, 1020]), (12, .aload_n 0, 0, 0, []), (13, .dup, 0, 0, []),
  (14, .getfield 98, 11, 3, [871]), (17, .iconst 1, 0, 0, []), (18, .iadd, 0, 0, []), (19, .putfield 98, 11, 3, [871]),
  (22, .aload_n 0, 0, 0, []), (23, .getfield 101, 11, 4, [872]), (26, .ifCond .eq 20, 46, 0, []), (29, .aload_n 0, 0, 0, []),
  (30, .getfield 7, 11, 1, [869]), (33, .aload_n 0, 0, 0, []), (34, .getfield 98, 11, 3, [871]), (37, .iconst 1, 0, 0, []),
  (38, .isub, 0, 0, []), (39, .caload, 0, 0, []), (40, .bipush 65, 0, 0, []), (42, .isub, 0, 0, []),
  (43, .goto 4, 47, 0, []), (46, .iconst 0, 0, 0, []), (47, .ireturn, 0, 0, [])
  ]
/-- ChainDeskModel.look(I)C -/
def cd_r105 : List (Nat × Instr × Nat × Nat × List Nat) := [
  (0, .aload_n 0, 0, 0, []), (1, .getfield 98, 11, 3, [871]), (4, .iload_n 1, 0, 0, []), (5, .iadd, 0, 0, []),
  (6, .aload_n 0, 0, 0, []), (7, .getfield 95, 11, 2, [870]), (10, .if_icmp .ge 17, 27, 0, []), (13, .aload_n 0, 0, 0, []),
  (14, .getfield 7, 11, 1, [869]), (17, .aload_n 0, 0, 0, []), (18, .getfield 98, 11, 3, [871]), (21, .iload_n 1, 0, 0, []),
  (22, .iadd, 0, 0, []), (23, .caload, 0, 0, []), (24, .goto 4, 28, 0, []), (27, .iconst 0, 0, 0, []),
  (28, .ireturn, 0, 0, [])
  ]
/-- ChainDeskModel.large(C)Z -/
def cd_r106 : List (Nat × Instr × Nat × Nat × List Nat) := [
  (0, .iload_n 0, 0, 0, []), (1, .bipush 65, 0, 0, []), (3, .if_icmp .lt 13, 16, 0, []), (6, .iload_n 0, 0, 0, []),
  (7, .bipush 74, 0, 0, []), (9, .if_icmp .gt 7, 16, 0, []), (12, .iconst 1, 0, 0, []), (13, .goto 4, 17, 0, []),
  (16, .iconst 0, 0, 0, []), (17, .ireturn, 0, 0, [])
  ]
/-- ChainDeskModel.must(Z)V -/
def cd_r107 : List (Nat × Instr × Nat × Nat × List Nat) := [
  (0, .aload_n 0, 0, 0, []), (1, .aload_n 0, 0, 0, []), (2, .getfield 101, 11, 4, [872]), (5, .ifCond .eq 11, 16, 0, []),
  (8, .iload_n 1, 0, 0, []), (9, .ifCond .eq 7, 16, 0, []), (12, .iconst 1, 0, 0, []), (13, .goto 4, 17, 0, []),
  (16, .iconst 0, 0, 0, []), (17, .putfield 101, 11, 4, [872]), (20, .return_, 0, 0, [])
  ]
/-- ChainDeskModel.pass(C)Z -/
def cd_r108 : List (Nat × Instr × Nat × Nat × List Nat) := [
  (0, .aload_n 0, 0, 0, []), (1, .iconst 0, 0, 0, []), (2, .invokevirtual 105, 105, 1, [1010, 1012, 22, 69, 1013]), (5, .iload_n 1, 0, 0, []),
  (6, .if_icmp .ne 7, 13, 0, []), (9, .iconst 1, 0, 0, []), (10, .goto 4, 14, 0, []), (13, .iconst 0, 0, 0, []),
  (14, .istore_n 2, 0, 0, []), (15, .aload_n 0, 0, 0, []), (16, .iload_n 2, 0, 0, []), (17, .ifCond .eq 12, 29, 0, []),
  (20, .aload_n 0, 0, 0, []), (21, .getfield 98, 11, 3, [871]), (24, .iconst 1, 0, 0, []), (25, .iadd, 0, 0, []),
  (26, .goto 7, 33, 0, []), (29, .aload_n 0, 0, 0, []), (30, .getfield 98, 11, 3, [871]), (33, .putfield 98, 11, 3, [871]),
  (36, .iload_n 2, 0, 0, []), (37, .ireturn, 0, 0, [])
  ]
/-- ChainDeskModel.expect(C)V -/
def cd_r109 : List (Nat × Instr × Nat × Nat × List Nat) := [
  (0, .aload_n 0, 0, 0, []), (1, .aload_n 0, 0, 0, []), (2, .iload_n 1, 0, 0, []), (3, .invokevirtual 109, 108, 1, [1021, 1023, 24, 69, 1024]),
  (6, .invokevirtual 113, 107, 1, [1017, 1019, 23, 69, 1020]), (9, .return_, 0, 0, [])
  ]
/-- ChainDeskModel.readMember(II)V -/
def cd_r110 : List (Nat × Instr × Nat × Nat × List Nat) := [
  (0, .aload_n 0, 0, 0, []), (1, .getfield 30, 11, 10, [878]), (4, .iload_n 1, 0, 0, []), (5, .aload_n 0, 0, 0, []),
  (6, .bipush 8, 0, 0, []), (8, .bipush 112, 0, 0, []), (10, .bipush 114, 0, 0, []), (12, .bipush 105, 0, 0, []),
  (14, .bipush 118, 0, 0, []), (16, .bipush 97, 0, 0, []), (18, .bipush 116, 0, 0, []), (20, .invokevirtual 145, 111, 7, [1033, 1035, 27, 69, 1036]),
  (23, .bastore, 0, 0, []), (24, .aload_n 0, 0, 0, []), (25, .getfield 27, 11, 9, [877]), (28, .iload_n 1, 0, 0, []),
  (29, .iconst 1, 0, 0, []), (30, .bastore, 0, 0, []), (31, .aload_n 0, 0, 0, []), (32, .getfield 33, 11, 11, [879]),
  (35, .iload_n 1, 0, 0, []), (36, .iconst 0, 0, 0, []), (37, .iastore, 0, 0, []), (38, .aload_n 0, 0, 0, []),
  (39, .iconst 4, 0, 0, []), (40, .bipush 110, 0, 0, []), (42, .bipush 101, 0, 0, []), (44, .bipush 119, 0, 0, []),
  (46, .bipush 40, 0, 0, []), (48, .iconst 0, 0, 0, []), (49, .iconst 0, 0, 0, []), (50, .invokevirtual 145, 111, 7, [1033, 1035, 27, 69, 1036]),
  (53, .ifCond .eq 35, 88, 0, []), (56, .aload_n 0, 0, 0, []), (57, .dup, 0, 0, []), (58, .getfield 98, 11, 3, [871]),
  (61, .iconst 1, 0, 0, []), (62, .isub, 0, 0, []), (63, .putfield 98, 11, 3, [871]), (66, .aload_n 0, 0, 0, []),
  (67, .getfield 24, 11, 8, [876]), (70, .iload_n 1, 0, 0, []), (71, .iconst 2, 0, 0, []), (72, .iastore, 0, 0, []),
  (73, .aload_n 0, 0, 0, []), (74, .getfield 36, 11, 12, [880]), (77, .iload_n 1, 0, 0, []), (78, .iconst 3, 0, 0, []),
  (79, .iload_n 2, 0, 0, []), (80, .iadd, 0, 0, []), (81, .iastore, 0, 0, []), (82, .aload_n 0, 0, 0, []),
  (83, .iload_n 1, 0, 0, []), (84, .invokevirtual 149, 112, 1, [1037, 1039, 28, 69, 1040]), (87, .return_, 0, 0, []), (88, .aload_n 0, 0, 0, []),
  (89, .getfield 27, 11, 9, [877]), (92, .iload_n 1, 0, 0, []), (93, .aload_n 0, 0, 0, []), (94, .bipush 7, 0, 0, []),
  (96, .bipush 115, 0, 0, []), (98, .bipush 116, 0, 0, []), (100, .bipush 97, 0, 0, []), (102, .bipush 116, 0, 0, []),
  (104, .bipush 105, 0, 0, []), (106, .bipush 99, 0, 0, []), (108, .invokevirtual 145, 111, 7, [1033, 1035, 27, 69, 1036]), (111, .bastore, 0, 0, []),
  (112, .aload_n 0, 0, 0, []), (113, .getfield 33, 11, 11, [879]), (116, .iload_n 1, 0, 0, []), (117, .aload_n 0, 0, 0, []),
  (118, .invokevirtual 153, 117, 0, [1055, 1057, 31, 69, 1058]), (121, .iastore, 0, 0, []), (122, .aload_n 0, 0, 0, []), (123, .getfield 24, 11, 8, [876]),
  (126, .iload_n 1, 0, 0, []), (127, .aload_n 0, 0, 0, []), (128, .iconst 0, 0, 0, []), (129, .invokevirtual 105, 105, 1, [1010, 1012, 22, 69, 1013]),
  (132, .bipush 40, 0, 0, []), (134, .if_icmp .ne 7, 141, 0, []), (137, .iconst 1, 0, 0, []), (138, .goto 4, 142, 0, []),
  (141, .iconst 0, 0, 0, []), (142, .iastore, 0, 0, []), (143, .aload_n 0, 0, 0, []), (144, .getfield 39, 11, 13, [881]),
  (147, .iload_n 1, 0, 0, []), (148, .iconst 0, 0, 0, []), (149, .iastore, 0, 0, []), (150, .aload_n 0, 0, 0, []),
  (151, .getfield 24, 11, 8, [876]), (154, .iload_n 1, 0, 0, []), (155, .iaload, 0, 0, []), (156, .iconst 1, 0, 0, []),
  (157, .if_icmp .ne 8, 165, 0, []), (160, .aload_n 0, 0, 0, []), (161, .iload_n 1, 0, 0, []), (162, .invokevirtual 149, 112, 1, [1037, 1039, 28, 69, 1040]),
  (165, .aload_n 0, 0, 0, []), (166, .bipush 58, 0, 0, []), (168, .invokevirtual 138, 109, 1, [1025, 1027, 25, 69, 1028]), (171, .aload_n 0, 0, 0, []),
  (172, .getfield 36, 11, 12, [880]), (175, .iload_n 1, 0, 0, []), (176, .aload_n 0, 0, 0, []), (177, .getfield 101, 11, 4, [872]),
  (180, .ifCond .eq 10, 190, 0, []), (183, .aload_n 0, 0, 0, []), (184, .invokevirtual 142, 113, 0, [1041, 1043, 29, 69, 1044]), (187, .goto 4, 191, 0, []),
  (190, .iconst 0, 0, 0, []), (191, .iastore, 0, 0, []), (192, .return_, 0, 0, [])
  ]
/-- ChainDeskModel.word(ICCCCCC)Z -/
def cd_r111 : List (Nat × Instr × Nat × Nat × List Nat) := [
  (0, .aload_n 0, 0, 0, []), (1, .iconst 0, 0, 0, []), (2, .invokevirtual 105, 105, 1, [1010, 1012, 22, 69, 1013]), (5, .iload_n 2, 0, 0, []),
  (6, .if_icmp .ne 36, 42, 0, []), (9, .aload_n 0, 0, 0, []), (10, .iconst 1, 0, 0, []), (11, .invokevirtual 105, 105, 1, [1010, 1012, 22, 69, 1013]),
  (14, .iload_n 3, 0, 0, []), (15, .if_icmp .ne 27, 42, 0, []), (18, .aload_n 0, 0, 0, []), (19, .iconst 2, 0, 0, []),
  (20, .invokevirtual 105, 105, 1, [1010, 1012, 22, 69, 1013]), (23, .iload 4, 0, 0, []), (25, .if_icmp .ne 17, 42, 0, []), (28, .aload_n 0, 0, 0, []),
  (29, .iconst 3, 0, 0, []), (30, .invokevirtual 105, 105, 1, [1010, 1012, 22, 69, 1013]), (33, .iload 5, 0, 0, []), (35, .if_icmp .ne 7, 42, 0, []),
  (38, .iconst 1, 0, 0, []), (39, .goto 4, 43, 0, []), (42, .iconst 0, 0, 0, []), (43, .istore 8, 0, 0, []),
  (45, .iload 8, 0, 0, []), (47, .ifCond .eq 38, 85, 0, []), (50, .iload_n 1, 0, 0, []), (51, .iconst 5, 0, 0, []),
  (52, .if_icmp .lt 13, 65, 0, []), (55, .aload_n 0, 0, 0, []), (56, .iconst 4, 0, 0, []), (57, .invokevirtual 105, 105, 1, [1010, 1012, 22, 69, 1013]),
  (60, .iload 6, 0, 0, []), (62, .if_icmp .ne 23, 85, 0, []), (65, .iload_n 1, 0, 0, []), (66, .bipush 6, 0, 0, []),
  (68, .if_icmp .lt 13, 81, 0, []), (71, .aload_n 0, 0, 0, []), (72, .iconst 5, 0, 0, []), (73, .invokevirtual 105, 105, 1, [1010, 1012, 22, 69, 1013]),
  (76, .iload 7, 0, 0, []), (78, .if_icmp .ne 7, 85, 0, []), (81, .iconst 1, 0, 0, []), (82, .goto 4, 86, 0, []),
  (85, .iconst 0, 0, 0, []), (86, .istore 8, 0, 0, []), (88, .iload 8, 0, 0, []), (90, .ifCond .eq 52, 142, 0, []),
  (93, .iload_n 1, 0, 0, []), (94, .bipush 7, 0, 0, []), (96, .if_icmp .lt 42, 138, 0, []), (99, .aload_n 0, 0, 0, []),
  (100, .bipush 6, 0, 0, []), (102, .invokevirtual 105, 105, 1, [1010, 1012, 22, 69, 1013]), (105, .iload_n 1, 0, 0, []), (106, .bipush 7, 0, 0, []),
  (108, .if_icmp .ne 8, 116, 0, []), (111, .bipush 32, 0, 0, []), (113, .goto 5, 118, 0, []), (116, .bipush 101, 0, 0, []),
  (118, .if_icmp .ne 24, 142, 0, []), (121, .iload_n 1, 0, 0, []), (122, .bipush 8, 0, 0, []), (124, .if_icmp .lt 14, 138, 0, []),
  (127, .aload_n 0, 0, 0, []), (128, .bipush 7, 0, 0, []), (130, .invokevirtual 105, 105, 1, [1010, 1012, 22, 69, 1013]), (133, .bipush 32, 0, 0, []),
  (135, .if_icmp .ne 7, 142, 0, []), (138, .iconst 1, 0, 0, []), (139, .goto 4, 143, 0, []), (142, .iconst 0, 0, 0, []),
  (143, .istore 8, 0, 0, []), (145, .aload_n 0, 0, 0, []), (146, .iload 8, 0, 0, []), (148, .ifCond .eq 12, 160, 0, []),
  (151, .aload_n 0, 0, 0, []), (152, .getfield 98, 11, 3, [871]), (155, .iload_n 1, 0, 0, []), (156, .iadd, 0, 0, []),
  (157, .goto 7, 164, 0, []), (160, .aload_n 0, 0, 0, []), (161, .getfield 98, 11, 3, [871]), (164, .putfield 98, 11, 3, [871]),
  (167, .iload 8, 0, 0, []), (169, .ireturn, 0, 0, [])
  ]
/-- ChainDeskModel.readList(I)V -/
def cd_r112 : List (Nat × Instr × Nat × Nat × List Nat) := [
  (0, .aload_n 0, 0, 0, []), (1, .getfield 39, 11, 13, [881]), (4, .iload_n 1, 0, 0, []), (5, .iconst 0, 0, 0, []),
  (6, .iastore, 0, 0, []), (7, .aload_n 0, 0, 0, []), (8, .bipush 40, 0, 0, []), (10, .invokevirtual 138, 109, 1, [1025, 1027, 25, 69, 1028]),
  (13, .aload_n 0, 0, 0, []), (14, .getfield 101, 11, 4, [872]), (17, .ifCond .eq 98, 115, 0, []), (20, .aload_n 0, 0, 0, []),
  (21, .bipush 41, 0, 0, []), (23, .invokevirtual 109, 108, 1, [1021, 1023, 24, 69, 1024]), (26, .ifCond .ne 89, 115, 0, []), (29, .aload_n 0, 0, 0, []),
  (30, .getfield 39, 11, 13, [881]), (33, .iload_n 1, 0, 0, []), (34, .iaload, 0, 0, []), (35, .ifCond .le 9, 44, 0, []),
  (38, .aload_n 0, 0, 0, []), (39, .bipush 44, 0, 0, []), (41, .invokevirtual 138, 109, 1, [1025, 1027, 25, 69, 1028]), (44, .aload_n 0, 0, 0, []),
  (45, .aload_n 0, 0, 0, []), (46, .getfield 39, 11, 13, [881]), (49, .iload_n 1, 0, 0, []), (50, .iaload, 0, 0, []),
  (51, .iconst 2, 0, 0, []), (52, .if_icmp .ge 7, 59, 0, []), (55, .iconst 1, 0, 0, []), (56, .goto 4, 60, 0, []),
  (59, .iconst 0, 0, 0, []), (60, .invokevirtual 113, 107, 1, [1017, 1019, 23, 69, 1020]), (63, .aload_n 0, 0, 0, []), (64, .getfield 101, 11, 4, [872]),
  (67, .ifCond .eq 10, 77, 0, []), (70, .aload_n 0, 0, 0, []), (71, .invokevirtual 142, 113, 0, [1041, 1043, 29, 69, 1044]), (74, .goto 4, 78, 0, []),
  (77, .iconst 0, 0, 0, []), (78, .istore_n 2, 0, 0, []), (79, .aload_n 0, 0, 0, []), (80, .getfield 101, 11, 4, [872]),
  (83, .ifCond .eq 19, 102, 0, []), (86, .aload_n 0, 0, 0, []), (87, .getfield 42, 11, 14, [882]), (90, .iconst 2, 0, 0, []),
  (91, .iload_n 1, 0, 0, []), (92, .imul, 0, 0, []), (93, .aload_n 0, 0, 0, []), (94, .getfield 39, 11, 13, [881]),
  (97, .iload_n 1, 0, 0, []), (98, .iaload, 0, 0, []), (99, .iadd, 0, 0, []), (100, .iload_n 2, 0, 0, []),
  (101, .iastore, 0, 0, []), (102, .aload_n 0, 0, 0, []), (103, .getfield 39, 11, 13, [881]), (106, .iload_n 1, 0, 0, []),
  (107, .dup2, 0, 0, []), (108, .iaload, 0, 0, []), (109, .iconst 1, 0, 0, []), (110, .iadd, 0, 0, []),
  (111, .iastore, 0, 0, []), (112, .goto (-99), 13, 0, []), (115, .return_, 0, 0, [])
  ]
/-- ChainDeskModel.readType()I -/
def cd_r113 : List (Nat × Instr × Nat × Nat × List Nat) := [
  (0, .aload_n 0, 0, 0, []), (1, .iconst 0, 0, 0, []), (2, .invokevirtual 105, 105, 1, [1010, 1012, 22, 69, 1013]), (5, .invokestatic 132, 106, 1, [1014, 1015, 69, 1016]),
  (8, .ifCond .eq 10, 18, 0, []), (11, .iconst 3, 0, 0, []), (12, .aload_n 0, 0, 0, []), (13, .invokevirtual 135, 104, 0, [1006, 1008, 21, 69, 1009]),
  (16, .iadd, 0, 0, []), (17, .ireturn, 0, 0, []), (18, .aload_n 0, 0, 0, []), (19, .invokevirtual 124, 114, 0, [1045, 1047, 30, 69, 1048]),
  (22, .istore_n 1, 0, 0, []), (23, .iload_n 1, 0, 0, []), (24, .bipush 105, 0, 0, []), (26, .bipush 110, 0, 0, []),
  (28, .bipush 116, 0, 0, []), (30, .iconst 0, 0, 0, []), (31, .invokestatic 120, 116, 4, [1052, 1053, 69, 1054]), (34, .if_icmp .ne 7, 41, 0, []),
  (37, .iconst 0, 0, 0, []), (38, .goto 42, 80, 0, []), (41, .iload_n 1, 0, 0, []), (42, .bipush 108, 0, 0, []),
  (44, .bipush 111, 0, 0, []), (46, .bipush 110, 0, 0, []), (48, .bipush 103, 0, 0, []), (50, .invokestatic 120, 116, 4, [1052, 1053, 69, 1054]),
  (53, .if_icmp .ne 7, 60, 0, []), (56, .iconst 1, 0, 0, []), (57, .goto 23, 80, 0, []), (60, .iload_n 1, 0, 0, []),
  (61, .bipush 98, 0, 0, []), (63, .bipush 111, 0, 0, []), (65, .bipush 111, 0, 0, []), (67, .bipush 108, 0, 0, []),
  (69, .invokestatic 120, 116, 4, [1052, 1053, 69, 1054]), (72, .if_icmp .ne 7, 79, 0, []), (75, .iconst 2, 0, 0, []), (76, .goto 4, 80, 0, []),
  (79, .iconst (-1), 0, 0, []), (80, .istore_n 2, 0, 0, []), (81, .aload_n 0, 0, 0, []), (82, .iload_n 2, 0, 0, []),
  (83, .iconst (-1), 0, 0, []), (84, .if_icmp .eq 7, 91, 0, []), (87, .iconst 1, 0, 0, []), (88, .goto 4, 92, 0, []),
  (91, .iconst 0, 0, 0, []), (92, .invokevirtual 113, 107, 1, [1017, 1019, 23, 69, 1020]), (95, .iload_n 2, 0, 0, []), (96, .ireturn, 0, 0, [])
  ]
/-- ChainDeskModel.letters()I -/
def cd_r114 : List (Nat × Instr × Nat × Nat × List Nat) := [
  (0, .iconst 0, 0, 0, []), (1, .istore_n 1, 0, 0, []), (2, .iconst 0, 0, 0, []), (3, .istore_n 2, 0, 0, []),
  (4, .aload_n 0, 0, 0, []), (5, .iconst 0, 0, 0, []), (6, .invokevirtual 105, 105, 1, [1010, 1012, 22, 69, 1013]), (9, .invokestatic 117, 115, 1, [1049, 1050, 69, 1051]),
  (12, .ifCond .eq 42, 54, 0, []), (15, .iload_n 2, 0, 0, []), (16, .iconst 4, 0, 0, []), (17, .if_icmp .ge 19, 36, 0, []),
  (20, .bipush 27, 0, 0, []), (22, .iload_n 1, 0, 0, []), (23, .imul, 0, 0, []), (24, .aload_n 0, 0, 0, []),
  (25, .iconst 0, 0, 0, []), (26, .invokevirtual 105, 105, 1, [1010, 1012, 22, 69, 1013]), (29, .iadd, 0, 0, []), (30, .bipush 96, 0, 0, []),
  (32, .isub, 0, 0, []), (33, .goto 4, 37, 0, []), (36, .iconst 0, 0, 0, []), (37, .istore_n 1, 0, 0, []),
  (38, .iinc 2 1, 0, 0, []), (41, .aload_n 0, 0, 0, []), (42, .dup, 0, 0, []), (43, .getfield 98, 11, 3, [871]),
  (46, .iconst 1, 0, 0, []), (47, .iadd, 0, 0, []), (48, .putfield 98, 11, 3, [871]), (51, .goto (-47), 4, 0, []),
  (54, .iload_n 2, 0, 0, []), (55, .iconst 4, 0, 0, []), (56, .if_icmp .le 7, 63, 0, []), (59, .iconst 0, 0, 0, []),
  (60, .goto 4, 64, 0, []), (63, .iload_n 1, 0, 0, []), (64, .ireturn, 0, 0, [])
  ]
/-- ChainDeskModel.small(C)Z -/
def cd_r115 : List (Nat × Instr × Nat × Nat × List Nat) := [
  (0, .iload_n 0, 0, 0, []), (1, .bipush 97, 0, 0, []), (3, .if_icmp .lt 13, 16, 0, []), (6, .iload_n 0, 0, 0, []),
  (7, .bipush 122, 0, 0, []), (9, .if_icmp .gt 7, 16, 0, []), (12, .iconst 1, 0, 0, []), (13, .goto 4, 17, 0, []),
  (16, .iconst 0, 0, 0, []), (17, .ireturn, 0, 0, [])
  ]
/-- ChainDeskModel.spell(IIII)I -/
def cd_r116 : List (Nat × Instr × Nat × Nat × List Nat) := [
  (0, .iload_n 0, 0, 0, []), (1, .bipush 96, 0, 0, []), (3, .isub, 0, 0, []), (4, .istore 4, 0, 0, []),
  (6, .iload_n 1, 0, 0, []), (7, .ifCond .le 16, 23, 0, []), (10, .bipush 27, 0, 0, []), (12, .iload 4, 0, 0, []),
  (14, .imul, 0, 0, []), (15, .iload_n 1, 0, 0, []), (16, .iadd, 0, 0, []), (17, .bipush 96, 0, 0, []),
  (19, .isub, 0, 0, []), (20, .goto 5, 25, 0, []), (23, .iload 4, 0, 0, []), (25, .istore 4, 0, 0, []),
  (27, .iload_n 2, 0, 0, []), (28, .ifCond .le 16, 44, 0, []), (31, .bipush 27, 0, 0, []), (33, .iload 4, 0, 0, []),
  (35, .imul, 0, 0, []), (36, .iload_n 2, 0, 0, []), (37, .iadd, 0, 0, []), (38, .bipush 96, 0, 0, []),
  (40, .isub, 0, 0, []), (41, .goto 5, 46, 0, []), (44, .iload 4, 0, 0, []), (46, .istore 4, 0, 0, []),
  (48, .iload_n 3, 0, 0, []), (49, .ifCond .le 16, 65, 0, []), (52, .bipush 27, 0, 0, []), (54, .iload 4, 0, 0, []),
  (56, .imul, 0, 0, []), (57, .iload_n 3, 0, 0, []), (58, .iadd, 0, 0, []), (59, .bipush 96, 0, 0, []),
  (61, .isub, 0, 0, []), (62, .goto 5, 67, 0, []), (65, .iload 4, 0, 0, []), (67, .ireturn, 0, 0, [])
  ]
/-- ChainDeskModel.readName()I -/
def cd_r117 : List (Nat × Instr × Nat × Nat × List Nat) := [
  (0, .aload_n 0, 0, 0, []), (1, .invokevirtual 124, 114, 0, [1045, 1047, 30, 69, 1048]), (4, .istore_n 1, 0, 0, []), (5, .aload_n 0, 0, 0, []),
  (6, .iload_n 1, 0, 0, []), (7, .ifCond .le 14, 21, 0, []), (10, .iload_n 1, 0, 0, []), (11, .invokestatic 128, 118, 1, [1059, 1060, 69, 1061]),
  (14, .ifCond .ne 7, 21, 0, []), (17, .iconst 1, 0, 0, []), (18, .goto 4, 22, 0, []), (21, .iconst 0, 0, 0, []),
  (22, .invokevirtual 113, 107, 1, [1017, 1019, 23, 69, 1020]), (25, .iload_n 1, 0, 0, []), (26, .ireturn, 0, 0, [])
  ]
/-- ChainDeskModel.isWord(I)Z -/
def cd_r118 : List (Nat × Instr × Nat × Nat × List Nat) := [
  (0, .iload_n 0, 0, 0, []), (1, .bipush 110, 0, 0, []), (3, .bipush 101, 0, 0, []), (5, .bipush 119, 0, 0, []),
  (7, .iconst 0, 0, 0, []), (8, .invokestatic 120, 116, 4, [1052, 1053, 69, 1054]), (11, .if_icmp .eq 47, 58, 0, []), (14, .iload_n 0, 0, 0, []),
  (15, .bipush 105, 0, 0, []), (17, .bipush 110, 0, 0, []), (19, .bipush 116, 0, 0, []), (21, .iconst 0, 0, 0, []),
  (22, .invokestatic 120, 116, 4, [1052, 1053, 69, 1054]), (25, .if_icmp .eq 33, 58, 0, []), (28, .iload_n 0, 0, 0, []), (29, .bipush 108, 0, 0, []),
  (31, .bipush 111, 0, 0, []), (33, .bipush 110, 0, 0, []), (35, .bipush 103, 0, 0, []), (37, .invokestatic 120, 116, 4, [1052, 1053, 69, 1054]),
  (40, .if_icmp .eq 18, 58, 0, []), (43, .iload_n 0, 0, 0, []), (44, .bipush 98, 0, 0, []), (46, .bipush 111, 0, 0, []),
  (48, .bipush 111, 0, 0, []), (50, .bipush 108, 0, 0, []), (52, .invokestatic 120, 116, 4, [1052, 1053, 69, 1054]), (55, .if_icmp .ne 7, 62, 0, []),
  (58, .iconst 1, 0, 0, []), (59, .goto 4, 63, 0, []), (62, .iconst 0, 0, 0, []), (63, .ireturn, 0, 0, [])
  ]
/-- ChainDeskModel.allowed(II)Z -/
def cd_r119 : List (Nat × Instr × Nat × Nat × List Nat) := [
  (0, .iload_n 2, 0, 0, []), (1, .istore_n 3, 0, 0, []), (2, .iload_n 3, 0, 0, []), (3, .iconst (-1), 0, 0, []),
  (4, .if_icmp .eq 131, 135, 0, []), (7, .bipush 6, 0, 0, []), (9, .iload_n 3, 0, 0, []), (10, .imul, 0, 0, []),
  (11, .istore 4, 0, 0, []), (13, .iload 4, 0, 0, []), (15, .bipush 6, 0, 0, []), (17, .iload_n 3, 0, 0, []),
  (18, .imul, 0, 0, []), (19, .aload_n 0, 0, 0, []), (20, .getfield 21, 11, 7, [875]), (23, .iload_n 3, 0, 0, []),
  (24, .iaload, 0, 0, []), (25, .iadd, 0, 0, []), (26, .if_icmp .ge 99, 125, 0, []), (29, .aload_n 0, 0, 0, []),
  (30, .getfield 24, 11, 8, [876]), (33, .iload_n 1, 0, 0, []), (34, .iaload, 0, 0, []), (35, .iconst 1, 0, 0, []),
  (36, .if_icmp .ne 44, 80, 0, []), (39, .aload_n 0, 0, 0, []), (40, .getfield 24, 11, 8, [876]), (43, .iload 4, 0, 0, []),
  (45, .iaload, 0, 0, []), (46, .iconst 1, 0, 0, []), (47, .if_icmp .ne 33, 80, 0, []), (50, .aload_n 0, 0, 0, []),
  (51, .getfield 33, 11, 11, [879]), (54, .iload_n 1, 0, 0, []), (55, .iaload, 0, 0, []), (56, .aload_n 0, 0, 0, []),
  (57, .getfield 33, 11, 11, [879]), (60, .iload 4, 0, 0, []), (62, .iaload, 0, 0, []), (63, .if_icmp .ne 17, 80, 0, []),
  (66, .aload_n 0, 0, 0, []), (67, .getfield 30, 11, 10, [878]), (70, .iload 4, 0, 0, []), (72, .baload, 0, 0, []),
  (73, .ifCond .ne 7, 80, 0, []), (76, .iconst 1, 0, 0, []), (77, .goto 4, 81, 0, []), (80, .iconst 0, 0, 0, []),
  (81, .istore 5, 0, 0, []), (83, .iload 5, 0, 0, []), (85, .ifCond .eq 34, 119, 0, []), (88, .aload_n 0, 0, 0, []),
  (89, .getfield 27, 11, 9, [877]), (92, .iload_n 1, 0, 0, []), (93, .baload, 0, 0, []), (94, .ifCond .ne 23, 117, 0, []),
  (97, .aload_n 0, 0, 0, []), (98, .getfield 27, 11, 9, [877]), (101, .iload 4, 0, 0, []), (103, .baload, 0, 0, []),
  (104, .ifCond .ne 13, 117, 0, []), (107, .aload_n 0, 0, 0, []), (108, .iload_n 1, 0, 0, []), (109, .iload 4, 0, 0, []),
  (111, .invokevirtual 156, 120, 2, [1066, 1068, 33, 69, 1069]), (114, .ifCond .ne 5, 119, 0, []), (117, .iconst 0, 0, 0, []), (118, .ireturn, 0, 0, []),
  (119, .iinc 4 1, 0, 0, []), (122, .goto (-109), 13, 0, []), (125, .aload_n 0, 0, 0, []), (126, .getfield 17, 11, 6, [874]),
  (129, .iload_n 3, 0, 0, []), (130, .iaload, 0, 0, []), (131, .istore_n 3, 0, 0, []), (132, .goto (-130), 2, 0, []),
  (135, .iconst 1, 0, 0, []), (136, .ireturn, 0, 0, [])
  ]
/-- ChainDeskModel.sameTypes(II)Z -/
def cd_r120 : List (Nat × Instr × Nat × Nat × List Nat) := [
  (0, .aload_n 0, 0, 0, []), (1, .getfield 36, 11, 12, [880]), (4, .iload_n 1, 0, 0, []), (5, .iaload, 0, 0, []),
  (6, .aload_n 0, 0, 0, []), (7, .getfield 36, 11, 12, [880]), (10, .iload_n 2, 0, 0, []), (11, .iaload, 0, 0, []),
  (12, .if_icmp .ne 22, 34, 0, []), (15, .aload_n 0, 0, 0, []), (16, .getfield 39, 11, 13, [881]), (19, .iload_n 1, 0, 0, []),
  (20, .iaload, 0, 0, []), (21, .aload_n 0, 0, 0, []), (22, .getfield 39, 11, 13, [881]), (25, .iload_n 2, 0, 0, []),
  (26, .iaload, 0, 0, []), (27, .if_icmp .ne 7, 34, 0, []), (30, .iconst 1, 0, 0, []), (31, .goto 4, 35, 0, []),
  (34, .iconst 0, 0, 0, []), (35, .istore_n 3, 0, 0, []), (36, .iconst 0, 0, 0, []), (37, .istore 4, 0, 0, []),
  (39, .iload 4, 0, 0, []), (41, .aload_n 0, 0, 0, []), (42, .getfield 39, 11, 13, [881]), (45, .iload_n 1, 0, 0, []),
  (46, .iaload, 0, 0, []), (47, .if_icmp .ge 44, 91, 0, []), (50, .iload_n 3, 0, 0, []), (51, .ifCond .eq 40, 91, 0, []),
  (54, .aload_n 0, 0, 0, []), (55, .getfield 42, 11, 14, [882]), (58, .iconst 2, 0, 0, []), (59, .iload_n 1, 0, 0, []),
  (60, .imul, 0, 0, []), (61, .iload 4, 0, 0, []), (63, .iadd, 0, 0, []), (64, .iaload, 0, 0, []),
  (65, .aload_n 0, 0, 0, []), (66, .getfield 42, 11, 14, [882]), (69, .iconst 2, 0, 0, []), (70, .iload_n 2, 0, 0, []),
  (71, .imul, 0, 0, []), (72, .iload 4, 0, 0, []), (74, .iadd, 0, 0, []), (75, .iaload, 0, 0, []),
  (76, .if_icmp .ne 7, 83, 0, []), (79, .iconst 1, 0, 0, []), (80, .goto 4, 84, 0, []), (83, .iconst 0, 0, 0, []),
  (84, .istore_n 3, 0, 0, []), (85, .iinc 4 1, 0, 0, []), (88, .goto (-49), 39, 0, []), (91, .iload_n 3, 0, 0, []),
  (92, .ireturn, 0, 0, [])
  ]
/-- ChainDeskModel.refuse(I)I -/
def cd_r121 : List (Nat × Instr × Nat × Nat × List Nat) := [
  (0, .aload_n 0, 0, 0, []), (1, .iload_n 1, 0, 0, []), (2, .putfield 88, 11, 0, [868]), (5, .iconst 0, 0, 0, []),
  (6, .ireturn, 0, 0, [])
  ]
/-- ChainDeskModel.copyMember(II)V -/
def cd_r122 : List (Nat × Instr × Nat × Nat × List Nat) := [
  (0, .aload_n 0, 0, 0, []), (1, .getfield 24, 11, 8, [876]), (4, .iload_n 2, 0, 0, []), (5, .aload_n 0, 0, 0, []),
  (6, .getfield 24, 11, 8, [876]), (9, .iload_n 1, 0, 0, []), (10, .iaload, 0, 0, []), (11, .iastore, 0, 0, []),
  (12, .aload_n 0, 0, 0, []), (13, .getfield 27, 11, 9, [877]), (16, .iload_n 2, 0, 0, []), (17, .aload_n 0, 0, 0, []),
  (18, .getfield 27, 11, 9, [877]), (21, .iload_n 1, 0, 0, []), (22, .baload, 0, 0, []), (23, .bastore, 0, 0, []),
  (24, .aload_n 0, 0, 0, []), (25, .getfield 30, 11, 10, [878]), (28, .iload_n 2, 0, 0, []), (29, .aload_n 0, 0, 0, []),
  (30, .getfield 30, 11, 10, [878]), (33, .iload_n 1, 0, 0, []), (34, .baload, 0, 0, []), (35, .bastore, 0, 0, []),
  (36, .aload_n 0, 0, 0, []), (37, .getfield 33, 11, 11, [879]), (40, .iload_n 2, 0, 0, []), (41, .aload_n 0, 0, 0, []),
  (42, .getfield 33, 11, 11, [879]), (45, .iload_n 1, 0, 0, []), (46, .iaload, 0, 0, []), (47, .iastore, 0, 0, []),
  (48, .aload_n 0, 0, 0, []), (49, .getfield 36, 11, 12, [880]), (52, .iload_n 2, 0, 0, []), (53, .aload_n 0, 0, 0, []),
  (54, .getfield 36, 11, 12, [880]), (57, .iload_n 1, 0, 0, []), (58, .iaload, 0, 0, []), (59, .iastore, 0, 0, []),
  (60, .aload_n 0, 0, 0, []), (61, .getfield 39, 11, 13, [881]), (64, .iload_n 2, 0, 0, []), (65, .aload_n 0, 0, 0, []),
  (66, .getfield 39, 11, 13, [881]), (69, .iload_n 1, 0, 0, []), (70, .iaload, 0, 0, []), (71, .iastore, 0, 0, []),
  (72, .aload_n 0, 0, 0, []), (73, .getfield 42, 11, 14, [882]), (76, .iconst 2, 0, 0, []), (77, .iload_n 2, 0, 0, []),
  (78, .imul, 0, 0, []), (79, .aload_n 0, 0, 0, []), (80, .getfield 42, 11, 14, [882]), (83, .iconst 2, 0, 0, []),
  (84, .iload_n 1, 0, 0, []), (85, .imul, 0, 0, []), (86, .iaload, 0, 0, []), (87, .iastore, 0, 0, []),
  (88, .aload_n 0, 0, 0, []), (89, .getfield 42, 11, 14, [882]), (92, .iconst 2, 0, 0, []), (93, .iload_n 2, 0, 0, []),
  (94, .imul, 0, 0, []), (95, .iconst 1, 0, 0, []), (96, .iadd, 0, 0, []), (97, .aload_n 0, 0, 0, []),
  (98, .getfield 42, 11, 14, [882]), (101, .iconst 2, 0, 0, []), (102, .iload_n 1, 0, 0, []), (103, .imul, 0, 0, []),
  (104, .iconst 1, 0, 0, []), (105, .iadd, 0, 0, []), (106, .iaload, 0, 0, []), (107, .iastore, 0, 0, []),
  (108, .return_, 0, 0, [])
  ]
/-- ChainDeskModel.variable()I -/
def cd_r123 : List (Nat × Instr × Nat × Nat × List Nat) := [
  (0, .aload_n 0, 0, 0, []), (1, .getfield 183, 11, 15, [883]), (4, .iconst 5, 0, 0, []), (5, .if_icmp .ne 14, 19, 0, []),
  (8, .aload_n 0, 0, 0, []), (9, .iconst 0, 0, 0, []), (10, .putfield 95, 11, 2, [870]), (13, .aload_n 0, 0, 0, []),
  (14, .iconst 2, 0, 0, []), (15, .invokevirtual 176, 121, 1, [1070, 1072, 34, 69, 1073]), (18, .ireturn, 0, 0, []), (19, .aload_n 0, 0, 0, []),
  (20, .iconst 0, 0, 0, []), (21, .putfield 98, 11, 3, [871]), (24, .aload_n 0, 0, 0, []), (25, .iconst 1, 0, 0, []),
  (26, .putfield 101, 11, 4, [872]), (29, .aload_n 0, 0, 0, []), (30, .invokevirtual 153, 117, 0, [1055, 1057, 31, 69, 1058]), (33, .istore_n 1, 0, 0, []),
  (34, .aload_n 0, 0, 0, []), (35, .bipush 58, 0, 0, []), (37, .invokevirtual 138, 109, 1, [1025, 1027, 25, 69, 1028]), (40, .aload_n 0, 0, 0, []),
  (41, .getfield 101, 11, 4, [872]), (44, .ifCond .eq 10, 54, 0, []), (47, .aload_n 0, 0, 0, []), (48, .invokevirtual 142, 113, 0, [1041, 1043, 29, 69, 1044]),
  (51, .goto 4, 55, 0, []), (54, .iconst 0, 0, 0, []), (55, .istore_n 2, 0, 0, []), (56, .aload_n 0, 0, 0, []),
  (57, .aload_n 0, 0, 0, []), (58, .getfield 98, 11, 3, [871]), (61, .aload_n 0, 0, 0, []), (62, .getfield 95, 11, 2, [870]),
  (65, .if_icmp .ne 16, 81, 0, []), (68, .aload_n 0, 0, 0, []), (69, .iload_n 1, 0, 0, []), (70, .invokevirtual 186, 124, 1, [1082, 1084, 36, 69, 1085]),
  (73, .iconst (-1), 0, 0, []), (74, .if_icmp .ne 7, 81, 0, []), (77, .iconst 1, 0, 0, []), (78, .goto 4, 82, 0, []),
  (81, .iconst 0, 0, 0, []), (82, .invokevirtual 113, 107, 1, [1017, 1019, 23, 69, 1020]), (85, .aload_n 0, 0, 0, []), (86, .iconst 0, 0, 0, []),
  (87, .putfield 95, 11, 2, [870]), (90, .aload_n 0, 0, 0, []), (91, .getfield 101, 11, 4, [872]), (94, .ifCond .ne 9, 103, 0, []),
  (97, .aload_n 0, 0, 0, []), (98, .iconst 1, 0, 0, []), (99, .invokevirtual 176, 121, 1, [1070, 1072, 34, 69, 1073]), (102, .ireturn, 0, 0, []),
  (103, .aload_n 0, 0, 0, []), (104, .iconst 0, 0, 0, []), (105, .putfield 88, 11, 0, [868]), (108, .aload_n 0, 0, 0, []),
  (109, .getfield 45, 11, 16, [884]), (112, .aload_n 0, 0, 0, []), (113, .getfield 183, 11, 15, [883]), (116, .iload_n 1, 0, 0, []),
  (117, .iastore, 0, 0, []), (118, .aload_n 0, 0, 0, []), (119, .getfield 48, 11, 17, [885]), (122, .aload_n 0, 0, 0, []),
  (123, .getfield 183, 11, 15, [883]), (126, .iload_n 2, 0, 0, []), (127, .iastore, 0, 0, []), (128, .aload_n 0, 0, 0, []),
  (129, .dup, 0, 0, []), (130, .getfield 183, 11, 15, [883]), (133, .iconst 1, 0, 0, []), (134, .iadd, 0, 0, []),
  (135, .putfield 183, 11, 15, [883]), (138, .aload_n 0, 0, 0, []), (139, .getfield 183, 11, 15, [883]), (142, .ireturn, 0, 0, [])
  ]
/-- ChainDeskModel.variableOf(I)I -/
def cd_r124 : List (Nat × Instr × Nat × Nat × List Nat) := [
  (0, .iconst (-1), 0, 0, []), (1, .istore_n 2, 0, 0, []), (2, .iconst 0, 0, 0, []), (3, .istore_n 3, 0, 0, []),
  (4, .iload_n 3, 0, 0, []), (5, .aload_n 0, 0, 0, []), (6, .getfield 183, 11, 15, [883]), (9, .if_icmp .ge 25, 34, 0, []),
  (12, .aload_n 0, 0, 0, []), (13, .getfield 45, 11, 16, [884]), (16, .iload_n 3, 0, 0, []), (17, .iaload, 0, 0, []),
  (18, .iload_n 1, 0, 0, []), (19, .if_icmp .ne 7, 26, 0, []), (22, .iload_n 3, 0, 0, []), (23, .goto 4, 27, 0, []),
  (26, .iload_n 2, 0, 0, []), (27, .istore_n 2, 0, 0, []), (28, .iinc 3 1, 0, 0, []), (31, .goto (-27), 4, 0, []),
  (34, .iload_n 2, 0, 0, []), (35, .ireturn, 0, 0, [])
  ]
/-- ChainDeskModel.forget()V -/
def cd_r125 : List (Nat × Instr × Nat × Nat × List Nat) := [
  (0, .aload_n 0, 0, 0, []), (1, .iconst 0, 0, 0, []), (2, .putfield 88, 11, 0, [868]), (5, .aload_n 0, 0, 0, []),
  (6, .iconst 0, 0, 0, []), (7, .putfield 183, 11, 15, [883]), (10, .return_, 0, 0, [])
  ]
/-- ChainDeskModel.enter(I)V -/
def cd_r126 : List (Nat × Instr × Nat × Nat × List Nat) := [
  (0, .aload_n 0, 0, 0, []), (1, .iload_n 1, 0, 0, []), (2, .iconst (-1), 0, 0, []), (3, .bipush 9, 0, 0, []),
  (5, .invokestatic 91, 101, 3, [995, 996, 69, 997]), (8, .ifCond .eq 7, 15, 0, []), (11, .iconst 1, 0, 0, []), (12, .goto 4, 16, 0, []),
  (15, .iconst 0, 0, 0, []), (16, .putfield 88, 11, 0, [868]), (19, .aload_n 0, 0, 0, []), (20, .aload_n 0, 0, 0, []),
  (21, .getfield 88, 11, 0, [868]), (24, .ifCond .ne 7, 31, 0, []), (27, .iload_n 1, 0, 0, []), (28, .goto 7, 35, 0, []),
  (31, .aload_n 0, 0, 0, []), (32, .getfield 51, 11, 18, [886]), (35, .putfield 51, 11, 18, [886]), (38, .return_, 0, 0, [])
  ]
/-- ChainDeskModel.fits(II)Z -/
def cd_r127 : List (Nat × Instr × Nat × Nat × List Nat) := [
  (0, .aload_n 0, 0, 0, []), (1, .iconst 0, 0, 0, []), (2, .putfield 88, 11, 0, [868]), (5, .iload_n 1, 0, 0, []),
  (6, .iconst 0, 0, 0, []), (7, .bipush 12, 0, 0, []), (9, .invokestatic 91, 101, 3, [995, 996, 69, 997]), (12, .ifCond .ne 26, 38, 0, []),
  (15, .iload_n 2, 0, 0, []), (16, .iconst 0, 0, 0, []), (17, .bipush 12, 0, 0, []), (19, .invokestatic 91, 101, 3, [995, 996, 69, 997]),
  (22, .ifCond .ne 16, 38, 0, []), (25, .aload_n 0, 0, 0, []), (26, .iload_n 1, 0, 0, []), (27, .iload_n 2, 0, 0, []),
  (28, .invokevirtual 192, 128, 2, [1098, 1100, 37, 69, 1101]), (31, .ifCond .eq 7, 38, 0, []), (34, .iconst 1, 0, 0, []), (35, .goto 4, 39, 0, []),
  (38, .iconst 0, 0, 0, []), (39, .ireturn, 0, 0, [])
  ]
/-- ChainDeskModel.fit(II)Z -/
def cd_r128 : List (Nat × Instr × Nat × Nat × List Nat) := [
  (0, .iload_n 1, 0, 0, []), (1, .iload_n 2, 0, 0, []), (2, .if_icmp .eq 12, 14, 0, []), (5, .iload_n 1, 0, 0, []),
  (6, .ifCond .ne 12, 18, 0, []), (9, .iload_n 2, 0, 0, []), (10, .iconst 1, 0, 0, []), (11, .if_icmp .ne 7, 18, 0, []),
  (14, .iconst 1, 0, 0, []), (15, .goto 4, 19, 0, []), (18, .iconst 0, 0, 0, []), (19, .istore_n 3, 0, 0, []),
  (20, .iload_n 1, 0, 0, []), (21, .iconst 3, 0, 0, []), (22, .if_icmp .ge 7, 29, 0, []), (25, .iconst (-1), 0, 0, []),
  (26, .goto 6, 32, 0, []), (29, .iload_n 1, 0, 0, []), (30, .iconst 3, 0, 0, []), (31, .isub, 0, 0, []),
  (32, .istore 4, 0, 0, []), (34, .iload 4, 0, 0, []), (36, .iconst (-1), 0, 0, []), (37, .if_icmp .eq 32, 69, 0, []),
  (40, .iload_n 3, 0, 0, []), (41, .ifCond .ne 11, 52, 0, []), (44, .iconst 3, 0, 0, []), (45, .iload 4, 0, 0, []),
  (47, .iadd, 0, 0, []), (48, .iload_n 2, 0, 0, []), (49, .if_icmp .ne 7, 56, 0, []), (52, .iconst 1, 0, 0, []),
  (53, .goto 4, 57, 0, []), (56, .iconst 0, 0, 0, []), (57, .istore_n 3, 0, 0, []), (58, .aload_n 0, 0, 0, []),
  (59, .iload 4, 0, 0, []), (61, .invokevirtual 189, 129, 1, [1102, 1104, 38, 69, 1105]), (64, .istore 4, 0, 0, []), (66, .goto (-32), 34, 0, []),
  (69, .iload_n 3, 0, 0, []), (70, .ireturn, 0, 0, [])
  ]
/-- ChainDeskModel.aboveOf(I)I -/
def cd_r129 : List (Nat × Instr × Nat × Nat × List Nat) := [
  (0, .aload_n 0, 0, 0, []), (1, .getfield 13, 11, 5, [873]), (4, .iload_n 1, 0, 0, []), (5, .baload, 0, 0, []),
  (6, .ifCond .eq 12, 18, 0, []), (9, .aload_n 0, 0, 0, []), (10, .getfield 17, 11, 6, [874]), (13, .iload_n 1, 0, 0, []),
  (14, .iaload, 0, 0, []), (15, .goto 4, 19, 0, []), (18, .iconst (-1), 0, 0, []), (19, .ireturn, 0, 0, [])
  ]
/-- ChainDeskModel.complete(II)I -/
def cd_r130 : List (Nat × Instr × Nat × Nat × List Nat) := [
  (0, .iload_n 1, 0, 0, []), (1, .iconst 0, 0, 0, []), (2, .bipush 12, 0, 0, []), (4, .invokestatic 91, 101, 3, [995, 996, 69, 997]),
  (7, .ifCond .ne 12, 19, 0, []), (10, .iload_n 2, 0, 0, []), (11, .iconst 0, 0, 0, []), (12, .iconst 3, 0, 0, []),
  (13, .invokestatic 91, 101, 3, [995, 996, 69, 997]), (16, .ifCond .eq 9, 25, 0, []), (19, .aload_n 0, 0, 0, []), (20, .iconst 1, 0, 0, []),
  (21, .invokevirtual 176, 121, 1, [1070, 1072, 34, 69, 1073]), (24, .ireturn, 0, 0, []), (25, .aload_n 0, 0, 0, []), (26, .iconst 0, 0, 0, []),
  (27, .putfield 88, 11, 0, [868]), (30, .aload_n 0, 0, 0, []), (31, .iconst 0, 0, 0, []), (32, .putfield 207, 11, 19, [887]),
  (35, .iconst 0, 0, 0, []), (36, .istore_n 3, 0, 0, []), (37, .iload_n 3, 0, 0, []), (38, .iload_n 2, 0, 0, []),
  (39, .if_icmp .gt 33, 72, 0, []), (42, .aload_n 0, 0, 0, []), (43, .aload_n 0, 0, 0, []), (44, .getfield 207, 11, 19, [887]),
  (47, .putfield 210, 11, 24, [892]), (50, .iload_n 3, 0, 0, []), (51, .ifCond .ne 10, 61, 0, []), (54, .aload_n 0, 0, 0, []),
  (55, .invokevirtual 241, 131, 0, [1110, 1112, 39, 69, 1113]), (58, .goto 8, 66, 0, []), (61, .aload_n 0, 0, 0, []), (62, .iload_n 3, 0, 0, []),
  (63, .invokevirtual 244, 137, 1, [1134, 1136, 45, 69, 1137]), (66, .iinc 3 1, 0, 0, []), (69, .goto (-32), 37, 0, []), (72, .aload_n 0, 0, 0, []),
  (73, .iconst 0, 0, 0, []), (74, .putfield 247, 11, 27, [895]), (77, .iconst 0, 0, 0, []), (78, .istore_n 3, 0, 0, []),
  (79, .iload_n 3, 0, 0, []), (80, .aload_n 0, 0, 0, []), (81, .getfield 207, 11, 19, [887]), (84, .if_icmp .ge 37, 121, 0, []),
  (87, .aload_n 0, 0, 0, []), (88, .getfield 247, 11, 27, [895]), (91, .bipush 10, 0, 0, []), (93, .if_icmp .ge 28, 121, 0, []),
  (96, .aload_n 0, 0, 0, []), (97, .aload_n 0, 0, 0, []), (98, .getfield 58, 11, 21, [889]), (101, .iload_n 3, 0, 0, []),
  (102, .iaload, 0, 0, []), (103, .iload_n 1, 0, 0, []), (104, .invokevirtual 192, 128, 2, [1098, 1100, 37, 69, 1101]), (107, .ifCond .eq 8, 115, 0, []),
  (110, .aload_n 0, 0, 0, []), (111, .iload_n 3, 0, 0, []), (112, .invokevirtual 250, 145, 1, [1166, 1168, 53, 69, 1169]), (115, .iinc 3 1, 0, 0, []),
  (118, .goto (-39), 79, 0, []), (121, .aload_n 0, 0, 0, []), (122, .getfield 247, 11, 27, [895]), (125, .ireturn, 0, 0, [])
  ]
/-- ChainDeskModel.keepVariables()V -/
def cd_r131 : List (Nat × Instr × Nat × Nat × List Nat) := [
  (0, .iconst 0, 0, 0, []), (1, .istore_n 1, 0, 0, []), (2, .iload_n 1, 0, 0, []), (3, .aload_n 0, 0, 0, []),
  (4, .getfield 183, 11, 15, [883]), (7, .if_icmp .ge 35, 42, 0, []), (10, .aload_n 0, 0, 0, []), (11, .iconst 0, 0, 0, []),
  (12, .putfield 201, 11, 25, [893]), (15, .aload_n 0, 0, 0, []), (16, .aload_n 0, 0, 0, []), (17, .getfield 45, 11, 16, [884]),
  (20, .iload_n 1, 0, 0, []), (21, .iaload, 0, 0, []), (22, .invokevirtual 222, 132, 1, [1114, 1116, 40, 69, 1117]), (25, .aload_n 0, 0, 0, []),
  (26, .iconst 0, 0, 0, []), (27, .aload_n 0, 0, 0, []), (28, .getfield 48, 11, 17, [885]), (31, .iload_n 1, 0, 0, []),
  (32, .iaload, 0, 0, []), (33, .invokevirtual 232, 134, 2, [1122, 1124, 42, 69, 1125]), (36, .iinc 1 1, 0, 0, []), (39, .goto (-37), 2, 0, []),
  (42, .return_, 0, 0, [])
  ]
/-- ChainDeskModel.writeName(I)V -/
def cd_r132 : List (Nat × Instr × Nat × Nat × List Nat) := [
  (0, .iconst 1, 0, 0, []), (1, .istore_n 2, 0, 0, []), (2, .iload_n 2, 0, 0, []), (3, .iload_n 1, 0, 0, []),
  (4, .bipush 27, 0, 0, []), (6, .idiv, 0, 0, []), (7, .if_icmp .gt 11, 18, 0, []), (10, .iload_n 2, 0, 0, []),
  (11, .bipush 27, 0, 0, []), (13, .imul, 0, 0, []), (14, .istore_n 2, 0, 0, []), (15, .goto (-13), 2, 0, []),
  (18, .iload_n 2, 0, 0, []), (19, .istore_n 3, 0, 0, []), (20, .iload_n 3, 0, 0, []), (21, .ifCond .le 25, 46, 0, []),
  (24, .aload_n 0, 0, 0, []), (25, .bipush 96, 0, 0, []), (27, .iload_n 1, 0, 0, []), (28, .iload_n 3, 0, 0, []),
  (29, .idiv, 0, 0, []), (30, .bipush 27, 0, 0, []), (32, .irem, 0, 0, []), (33, .iadd, 0, 0, []),
  (34, .i2c, 0, 0, []), (35, .invokevirtual 204, 133, 1, [1118, 1120, 41, 69, 1121]), (38, .iload_n 3, 0, 0, []), (39, .bipush 27, 0, 0, []),
  (41, .idiv, 0, 0, []), (42, .istore_n 3, 0, 0, []), (43, .goto (-23), 20, 0, []), (46, .return_, 0, 0, [])
  ]
/-- ChainDeskModel.write(C)V -/
def cd_r133 : List (Nat × Instr × Nat × Nat × List Nat) := [
  (0, .aload_n 0, 0, 0, []), (1, .getfield 201, 11, 25, [893]), (4, .sipush 200, 0, 0, []), (7, .if_icmp .ge 13, 20, 0, []),
  (10, .aload_n 0, 0, 0, []), (11, .getfield 67, 11, 26, [894]), (14, .aload_n 0, 0, 0, []), (15, .getfield 201, 11, 25, [893]),
  (18, .iload_n 1, 0, 0, []), (19, .castore, 0, 0, []), (20, .aload_n 0, 0, 0, []), (21, .dup, 0, 0, []),
  (22, .getfield 201, 11, 25, [893]), (25, .iconst 1, 0, 0, []), (26, .iadd, 0, 0, []), (27, .putfield 201, 11, 25, [893]),
  (30, .return_, 0, 0, [])
  ]
/-- ChainDeskModel.keep(II)V -/
def cd_r134 : List (Nat × Instr × Nat × Nat × List Nat) := [
  (0, .aload_n 0, 0, 0, []), (1, .getfield 201, 11, 25, [893]), (4, .bipush 24, 0, 0, []), (6, .if_icmp .le 4, 10, 0, []),
  (9, .return_, 0, 0, []), (10, .aload_n 0, 0, 0, []), (11, .getfield 207, 11, 19, [887]), (14, .istore_n 3, 0, 0, []),
  (15, .iload_n 3, 0, 0, []), (16, .aload_n 0, 0, 0, []), (17, .getfield 210, 11, 24, [892]), (20, .if_icmp .le 19, 39, 0, []),
  (23, .aload_n 0, 0, 0, []), (24, .iload_n 3, 0, 0, []), (25, .iconst 1, 0, 0, []), (26, .isub, 0, 0, []),
  (27, .invokevirtual 213, 135, 1, [1126, 1128, 43, 69, 1129]), (30, .ifCond .eq 9, 39, 0, []), (33, .iinc 3 (-1), 0, 0, []), (36, .goto (-21), 15, 0, []),
  (39, .iload_n 3, 0, 0, []), (40, .aload_n 0, 0, 0, []), (41, .getfield 210, 11, 24, [892]), (44, .isub, 0, 0, []),
  (45, .bipush 7, 0, 0, []), (47, .if_icmp .le 4, 51, 0, []), (50, .return_, 0, 0, []), (51, .aload_n 0, 0, 0, []),
  (52, .getfield 207, 11, 19, [887]), (55, .istore 4, 0, 0, []), (57, .iload 4, 0, 0, []), (59, .iload_n 3, 0, 0, []),
  (60, .if_icmp .le 19, 79, 0, []), (63, .aload_n 0, 0, 0, []), (64, .iload 4, 0, 0, []), (66, .iconst 1, 0, 0, []),
  (67, .isub, 0, 0, []), (68, .iload 4, 0, 0, []), (70, .invokevirtual 216, 136, 2, [1130, 1132, 44, 69, 1133]), (73, .iinc 4 (-1), 0, 0, []),
  (76, .goto (-19), 57, 0, []), (79, .aload_n 0, 0, 0, []), (80, .getfield 55, 11, 20, [888]), (83, .iload_n 3, 0, 0, []),
  (84, .iload_n 1, 0, 0, []), (85, .iastore, 0, 0, []), (86, .aload_n 0, 0, 0, []), (87, .getfield 58, 11, 21, [889]),
  (90, .iload_n 3, 0, 0, []), (91, .iload_n 2, 0, 0, []), (92, .iastore, 0, 0, []), (93, .aload_n 0, 0, 0, []),
  (94, .getfield 61, 11, 22, [890]), (97, .iload_n 3, 0, 0, []), (98, .aload_n 0, 0, 0, []), (99, .getfield 201, 11, 25, [893]),
  (102, .iastore, 0, 0, []), (103, .iconst 0, 0, 0, []), (104, .istore 4, 0, 0, []), (106, .iload 4, 0, 0, []),
  (108, .aload_n 0, 0, 0, []), (109, .getfield 201, 11, 25, [893]), (112, .if_icmp .ge 28, 140, 0, []), (115, .aload_n 0, 0, 0, []),
  (116, .getfield 64, 11, 23, [891]), (119, .bipush 24, 0, 0, []), (121, .iload_n 3, 0, 0, []), (122, .imul, 0, 0, []),
  (123, .iload 4, 0, 0, []), (125, .iadd, 0, 0, []), (126, .aload_n 0, 0, 0, []), (127, .getfield 67, 11, 26, [894]),
  (130, .iload 4, 0, 0, []), (132, .caload, 0, 0, []), (133, .castore, 0, 0, []), (134, .iinc 4 1, 0, 0, []),
  (137, .goto (-31), 106, 0, []), (140, .aload_n 0, 0, 0, []), (141, .aload_n 0, 0, 0, []), (142, .getfield 207, 11, 19, [887]),
  (145, .aload_n 0, 0, 0, []), (146, .getfield 210, 11, 24, [892]), (149, .isub, 0, 0, []), (150, .bipush 8, 0, 0, []),
  (152, .if_icmp .ge 12, 164, 0, []), (155, .aload_n 0, 0, 0, []), (156, .getfield 207, 11, 19, [887]), (159, .iconst 1, 0, 0, []),
  (160, .iadd, 0, 0, []), (161, .goto 7, 168, 0, []), (164, .aload_n 0, 0, 0, []), (165, .getfield 207, 11, 19, [887]),
  (168, .putfield 207, 11, 19, [887]), (171, .return_, 0, 0, [])
  ]
/-- ChainDeskModel.before(I)Z -/
def cd_r135 : List (Nat × Instr × Nat × Nat × List Nat) := [
  (0, .iconst 0, 0, 0, []), (1, .istore_n 2, 0, 0, []), (2, .iload_n 2, 0, 0, []), (3, .aload_n 0, 0, 0, []),
  (4, .getfield 201, 11, 25, [893]), (7, .if_icmp .ge 65, 72, 0, []), (10, .iload_n 2, 0, 0, []), (11, .aload_n 0, 0, 0, []),
  (12, .getfield 61, 11, 22, [890]), (15, .iload_n 1, 0, 0, []), (16, .iaload, 0, 0, []), (17, .if_icmp .ge 55, 72, 0, []),
  (20, .aload_n 0, 0, 0, []), (21, .getfield 67, 11, 26, [894]), (24, .iload_n 2, 0, 0, []), (25, .caload, 0, 0, []),
  (26, .aload_n 0, 0, 0, []), (27, .getfield 64, 11, 23, [891]), (30, .bipush 24, 0, 0, []), (32, .iload_n 1, 0, 0, []),
  (33, .imul, 0, 0, []), (34, .iload_n 2, 0, 0, []), (35, .iadd, 0, 0, []), (36, .caload, 0, 0, []),
  (37, .if_icmp .eq 29, 66, 0, []), (40, .aload_n 0, 0, 0, []), (41, .getfield 67, 11, 26, [894]), (44, .iload_n 2, 0, 0, []),
  (45, .caload, 0, 0, []), (46, .aload_n 0, 0, 0, []), (47, .getfield 64, 11, 23, [891]), (50, .bipush 24, 0, 0, []),
  (52, .iload_n 1, 0, 0, []), (53, .imul, 0, 0, []), (54, .iload_n 2, 0, 0, []), (55, .iadd, 0, 0, []),
  (56, .caload, 0, 0, []), (57, .if_icmp .ge 7, 64, 0, []), (60, .iconst 1, 0, 0, []), (61, .goto 4, 65, 0, []),
  (64, .iconst 0, 0, 0, []), (65, .ireturn, 0, 0, []), (66, .iinc 2 1, 0, 0, []), (69, .goto (-67), 2, 0, []),
  (72, .aload_n 0, 0, 0, []), (73, .getfield 201, 11, 25, [893]), (76, .aload_n 0, 0, 0, []), (77, .getfield 61, 11, 22, [890]),
  (80, .iload_n 1, 0, 0, []), (81, .iaload, 0, 0, []), (82, .if_icmp .ge 7, 89, 0, []), (85, .iconst 1, 0, 0, []),
  (86, .goto 4, 90, 0, []), (89, .iconst 0, 0, 0, []), (90, .ireturn, 0, 0, [])
  ]
/-- ChainDeskModel.copyKept(II)V -/
def cd_r136 : List (Nat × Instr × Nat × Nat × List Nat) := [
  (0, .aload_n 0, 0, 0, []), (1, .getfield 55, 11, 20, [888]), (4, .iload_n 2, 0, 0, []), (5, .aload_n 0, 0, 0, []),
  (6, .getfield 55, 11, 20, [888]), (9, .iload_n 1, 0, 0, []), (10, .iaload, 0, 0, []), (11, .iastore, 0, 0, []),
  (12, .aload_n 0, 0, 0, []), (13, .getfield 58, 11, 21, [889]), (16, .iload_n 2, 0, 0, []), (17, .aload_n 0, 0, 0, []),
  (18, .getfield 58, 11, 21, [889]), (21, .iload_n 1, 0, 0, []), (22, .iaload, 0, 0, []), (23, .iastore, 0, 0, []),
  (24, .aload_n 0, 0, 0, []), (25, .getfield 61, 11, 22, [890]), (28, .iload_n 2, 0, 0, []), (29, .aload_n 0, 0, 0, []),
  (30, .getfield 61, 11, 22, [890]), (33, .iload_n 1, 0, 0, []), (34, .iaload, 0, 0, []), (35, .iastore, 0, 0, []),
  (36, .iconst 0, 0, 0, []), (37, .istore_n 3, 0, 0, []), (38, .iload_n 3, 0, 0, []), (39, .bipush 24, 0, 0, []),
  (41, .if_icmp .ge 31, 72, 0, []), (44, .aload_n 0, 0, 0, []), (45, .getfield 64, 11, 23, [891]), (48, .bipush 24, 0, 0, []),
  (50, .iload_n 2, 0, 0, []), (51, .imul, 0, 0, []), (52, .iload_n 3, 0, 0, []), (53, .iadd, 0, 0, []),
  (54, .aload_n 0, 0, 0, []), (55, .getfield 64, 11, 23, [891]), (58, .bipush 24, 0, 0, []), (60, .iload_n 1, 0, 0, []),
  (61, .imul, 0, 0, []), (62, .iload_n 3, 0, 0, []), (63, .iadd, 0, 0, []), (64, .caload, 0, 0, []),
  (65, .castore, 0, 0, []), (66, .iinc 3 1, 0, 0, []), (69, .goto (-31), 38, 0, []), (72, .return_, 0, 0, [])
  ]
/-- ChainDeskModel.keepCost(I)V -/
def cd_r137 : List (Nat × Instr × Nat × Nat × List Nat) := [
  (0, .aload_n 0, 0, 0, []), (1, .getfield 207, 11, 19, [887]), (4, .istore_n 2, 0, 0, []), (5, .iconst 0, 0, 0, []),
  (6, .istore_n 3, 0, 0, []), (7, .iload_n 3, 0, 0, []), (8, .bipush 60, 0, 0, []), (10, .if_icmp .ge 129, 139, 0, []),
  (13, .aload_n 0, 0, 0, []), (14, .getfield 13, 11, 5, [873]), (17, .iload_n 3, 0, 0, []), (18, .bipush 6, 0, 0, []),
  (20, .idiv, 0, 0, []), (21, .baload, 0, 0, []), (22, .ifCond .eq 23, 45, 0, []), (25, .iload_n 3, 0, 0, []),
  (26, .bipush 6, 0, 0, []), (28, .irem, 0, 0, []), (29, .aload_n 0, 0, 0, []), (30, .getfield 21, 11, 7, [875]),
  (33, .iload_n 3, 0, 0, []), (34, .bipush 6, 0, 0, []), (36, .idiv, 0, 0, []), (37, .iaload, 0, 0, []),
  (38, .if_icmp .ge 7, 45, 0, []), (41, .iconst 1, 0, 0, []), (42, .goto 4, 46, 0, []), (45, .iconst 0, 0, 0, []),
  (46, .istore 4, 0, 0, []), (48, .iload 4, 0, 0, []), (50, .ifCond .eq 28, 78, 0, []), (53, .aload_n 0, 0, 0, []),
  (54, .getfield 27, 11, 9, [877]), (57, .iload_n 3, 0, 0, []), (58, .baload, 0, 0, []), (59, .ifCond .eq 19, 78, 0, []),
  (62, .aload_n 0, 0, 0, []), (63, .iload_n 3, 0, 0, []), (64, .invokevirtual 195, 138, 1, [1138, 1140, 46, 69, 1141]), (67, .ifCond .eq 11, 78, 0, []),
  (70, .aload_n 0, 0, 0, []), (71, .iload_n 3, 0, 0, []), (72, .iconst (-1), 0, 0, []), (73, .iload_n 1, 0, 0, []),
  (74, .iload_n 2, 0, 0, []), (75, .invokevirtual 235, 139, 4, [1142, 1144, 47, 69, 1145]), (78, .iconst 0, 0, 0, []), (79, .istore 5, 0, 0, []),
  (81, .iload 5, 0, 0, []), (83, .iload_n 2, 0, 0, []), (84, .if_icmp .ge 49, 133, 0, []), (87, .iload 4, 0, 0, []),
  (89, .ifCond .eq 44, 133, 0, []), (92, .aload_n 0, 0, 0, []), (93, .getfield 55, 11, 20, [888]), (96, .iload 5, 0, 0, []),
  (98, .iaload, 0, 0, []), (99, .iload_n 1, 0, 0, []), (100, .if_icmp .ge 27, 127, 0, []), (103, .aload_n 0, 0, 0, []),
  (104, .aload_n 0, 0, 0, []), (105, .getfield 58, 11, 21, [889]), (108, .iload 5, 0, 0, []), (110, .iaload, 0, 0, []),
  (111, .iload_n 3, 0, 0, []), (112, .invokevirtual 238, 143, 2, [1158, 1160, 51, 69, 1161]), (115, .ifCond .eq 12, 127, 0, []), (118, .aload_n 0, 0, 0, []),
  (119, .iload_n 3, 0, 0, []), (120, .iload 5, 0, 0, []), (122, .iload_n 1, 0, 0, []), (123, .iload_n 2, 0, 0, []),
  (124, .invokevirtual 235, 139, 4, [1142, 1144, 47, 69, 1145]), (127, .iinc 5 1, 0, 0, []), (130, .goto (-49), 81, 0, []), (133, .iinc 3 1, 0, 0, []),
  (136, .goto (-129), 7, 0, []), (139, .return_, 0, 0, [])
  ]
/-- ChainDeskModel.usable(I)Z -/
def cd_r138 : List (Nat × Instr × Nat × Nat × List Nat) := [
  (0, .aload_n 0, 0, 0, []), (1, .getfield 30, 11, 10, [878]), (4, .iload_n 1, 0, 0, []), (5, .baload, 0, 0, []),
  (6, .ifCond .eq 14, 20, 0, []), (9, .aload_n 0, 0, 0, []), (10, .getfield 51, 11, 18, [886]), (13, .iload_n 1, 0, 0, []),
  (14, .bipush 6, 0, 0, []), (16, .idiv, 0, 0, []), (17, .if_icmp .ne 7, 24, 0, []), (20, .iconst 1, 0, 0, []),
  (21, .goto 4, 25, 0, []), (24, .iconst 0, 0, 0, []), (25, .ireturn, 0, 0, [])
  ]
/-- ChainDeskModel.offer(IIII)V -/
def cd_r139 : List (Nat × Instr × Nat × Nat × List Nat) := [
  (0, .iload_n 3, 0, 0, []), (1, .iconst 1, 0, 0, []), (2, .isub, 0, 0, []), (3, .aload_n 0, 0, 0, []),
  (4, .iload_n 2, 0, 0, []), (5, .invokevirtual 225, 140, 1, [1146, 1148, 48, 69, 1149]), (8, .isub, 0, 0, []), (9, .istore 5, 0, 0, []),
  (11, .aload_n 0, 0, 0, []), (12, .getfield 39, 11, 13, [881]), (15, .iload_n 1, 0, 0, []), (16, .iaload, 0, 0, []),
  (17, .ifCond .le 8, 25, 0, []), (20, .iload 4, 0, 0, []), (22, .goto 4, 26, 0, []), (25, .iconst 1, 0, 0, []),
  (26, .istore 6, 0, 0, []), (28, .aload_n 0, 0, 0, []), (29, .getfield 39, 11, 13, [881]), (32, .iload_n 1, 0, 0, []),
  (33, .iaload, 0, 0, []), (34, .iconst 1, 0, 0, []), (35, .if_icmp .le 8, 43, 0, []), (38, .iload 4, 0, 0, []),
  (40, .goto 4, 44, 0, []), (43, .iconst 1, 0, 0, []), (44, .istore 7, 0, 0, []), (46, .iconst 0, 0, 0, []),
  (47, .istore 8, 0, 0, []), (49, .iload 8, 0, 0, []), (51, .iload 6, 0, 0, []), (53, .if_icmp .ge 172, 225, 0, []),
  (56, .aload_n 0, 0, 0, []), (57, .getfield 39, 11, 13, [881]), (60, .iload_n 1, 0, 0, []), (61, .iaload, 0, 0, []),
  (62, .ifCond .le 8, 70, 0, []), (65, .iload 8, 0, 0, []), (67, .goto 4, 71, 0, []), (70, .iconst (-1), 0, 0, []),
  (71, .istore 9, 0, 0, []), (73, .iload 9, 0, 0, []), (75, .iconst (-1), 0, 0, []), (76, .if_icmp .eq 25, 101, 0, []),
  (79, .aload_n 0, 0, 0, []), (80, .aload_n 0, 0, 0, []), (81, .getfield 58, 11, 21, [889]), (84, .iload 9, 0, 0, []),
  (86, .iaload, 0, 0, []), (87, .aload_n 0, 0, 0, []), (88, .getfield 42, 11, 14, [882]), (91, .iconst 2, 0, 0, []),
  (92, .iload_n 1, 0, 0, []), (93, .imul, 0, 0, []), (94, .iaload, 0, 0, []), (95, .invokevirtual 192, 128, 2, [1098, 1100, 37, 69, 1101]),
  (98, .ifCond .eq 7, 105, 0, []), (101, .iconst 1, 0, 0, []), (102, .goto 4, 106, 0, []), (105, .iconst 0, 0, 0, []),
  (106, .istore 10, 0, 0, []), (108, .iconst 0, 0, 0, []), (109, .istore 11, 0, 0, []), (111, .iload 11, 0, 0, []),
  (113, .iload 7, 0, 0, []), (115, .if_icmp .ge 104, 219, 0, []), (118, .iload 10, 0, 0, []), (120, .ifCond .eq 99, 219, 0, []),
  (123, .aload_n 0, 0, 0, []), (124, .getfield 39, 11, 13, [881]), (127, .iload_n 1, 0, 0, []), (128, .iaload, 0, 0, []),
  (129, .iconst 1, 0, 0, []), (130, .if_icmp .le 8, 138, 0, []), (133, .iload 11, 0, 0, []), (135, .goto 4, 139, 0, []),
  (138, .iconst (-1), 0, 0, []), (139, .istore 12, 0, 0, []), (141, .aload_n 0, 0, 0, []), (142, .iload 9, 0, 0, []),
  (144, .invokevirtual 225, 140, 1, [1146, 1148, 48, 69, 1149]), (147, .aload_n 0, 0, 0, []), (148, .iload 12, 0, 0, []), (150, .invokevirtual 225, 140, 1, [1146, 1148, 48, 69, 1149]),
  (153, .iadd, 0, 0, []), (154, .iload 5, 0, 0, []), (156, .if_icmp .ne 57, 213, 0, []), (159, .iload 12, 0, 0, []),
  (161, .iconst (-1), 0, 0, []), (162, .if_icmp .eq 30, 192, 0, []), (165, .aload_n 0, 0, 0, []), (166, .aload_n 0, 0, 0, []),
  (167, .getfield 58, 11, 21, [889]), (170, .iload 12, 0, 0, []), (172, .iaload, 0, 0, []), (173, .aload_n 0, 0, 0, []),
  (174, .getfield 42, 11, 14, [882]), (177, .iconst 2, 0, 0, []), (178, .iload_n 1, 0, 0, []), (179, .imul, 0, 0, []),
  (180, .iconst 1, 0, 0, []), (181, .iadd, 0, 0, []), (182, .iaload, 0, 0, []), (183, .invokevirtual 192, 128, 2, [1098, 1100, 37, 69, 1101]),
  (186, .ifCond .ne 6, 192, 0, []), (189, .goto 24, 213, 0, []), (192, .aload_n 0, 0, 0, []), (193, .iload_n 1, 0, 0, []),
  (194, .iload_n 2, 0, 0, []), (195, .iload 9, 0, 0, []), (197, .iload 12, 0, 0, []), (199, .invokevirtual 228, 141, 4, [1150, 1152, 49, 69, 1153]),
  (202, .aload_n 0, 0, 0, []), (203, .iload_n 3, 0, 0, []), (204, .aload_n 0, 0, 0, []), (205, .getfield 36, 11, 12, [880]),
  (208, .iload_n 1, 0, 0, []), (209, .iaload, 0, 0, []), (210, .invokevirtual 232, 134, 2, [1122, 1124, 42, 69, 1125]), (213, .iinc 11 1, 0, 0, []),
  (216, .goto (-105), 111, 0, []), (219, .iinc 8 1, 0, 0, []), (222, .goto (-173), 49, 0, []), (225, .return_, 0, 0, [])
  ]
/-- ChainDeskModel.costOf(I)I -/
def cd_r140 : List (Nat × Instr × Nat × Nat × List Nat) := [
  (0, .iload_n 1, 0, 0, []), (1, .iconst (-1), 0, 0, []), (2, .if_icmp .ne 7, 9, 0, []), (5, .iconst 0, 0, 0, []),
  (6, .goto 9, 15, 0, []), (9, .aload_n 0, 0, 0, []), (10, .getfield 55, 11, 20, [888]), (13, .iload_n 1, 0, 0, []),
  (14, .iaload, 0, 0, []), (15, .ireturn, 0, 0, [])
  ]
/-- ChainDeskModel.make(IIII)V -/
def cd_r141 : List (Nat × Instr × Nat × Nat × List Nat) := [
  (0, .aload_n 0, 0, 0, []), (1, .iconst 0, 0, 0, []), (2, .putfield 201, 11, 25, [893]), (5, .aload_n 0, 0, 0, []),
  (6, .getfield 24, 11, 8, [876]), (9, .iload_n 1, 0, 0, []), (10, .iaload, 0, 0, []), (11, .iconst 2, 0, 0, []),
  (12, .if_icmp .ne 27, 39, 0, []), (15, .aload_n 0, 0, 0, []), (16, .bipush 110, 0, 0, []), (18, .invokevirtual 204, 133, 1, [1118, 1120, 41, 69, 1121]),
  (21, .aload_n 0, 0, 0, []), (22, .bipush 101, 0, 0, []), (24, .invokevirtual 204, 133, 1, [1118, 1120, 41, 69, 1121]), (27, .aload_n 0, 0, 0, []),
  (28, .bipush 119, 0, 0, []), (30, .invokevirtual 204, 133, 1, [1118, 1120, 41, 69, 1121]), (33, .aload_n 0, 0, 0, []), (34, .bipush 32, 0, 0, []),
  (36, .invokevirtual 204, 133, 1, [1118, 1120, 41, 69, 1121]), (39, .iload_n 2, 0, 0, []), (40, .iconst (-1), 0, 0, []), (41, .if_icmp .ne 18, 59, 0, []),
  (44, .aload_n 0, 0, 0, []), (45, .bipush 65, 0, 0, []), (47, .iload_n 1, 0, 0, []), (48, .bipush 6, 0, 0, []),
  (50, .idiv, 0, 0, []), (51, .iadd, 0, 0, []), (52, .i2c, 0, 0, []), (53, .invokevirtual 204, 133, 1, [1118, 1120, 41, 69, 1121]),
  (56, .goto 8, 64, 0, []), (59, .aload_n 0, 0, 0, []), (60, .iload_n 2, 0, 0, []), (61, .invokevirtual 219, 142, 1, [1154, 1156, 50, 69, 1157]),
  (64, .aload_n 0, 0, 0, []), (65, .getfield 24, 11, 8, [876]), (68, .iload_n 1, 0, 0, []), (69, .iaload, 0, 0, []),
  (70, .iconst 2, 0, 0, []), (71, .if_icmp .eq 19, 90, 0, []), (74, .aload_n 0, 0, 0, []), (75, .bipush 46, 0, 0, []),
  (77, .invokevirtual 204, 133, 1, [1118, 1120, 41, 69, 1121]), (80, .aload_n 0, 0, 0, []), (81, .aload_n 0, 0, 0, []), (82, .getfield 33, 11, 11, [879]),
  (85, .iload_n 1, 0, 0, []), (86, .iaload, 0, 0, []), (87, .invokevirtual 222, 132, 1, [1114, 1116, 40, 69, 1117]), (90, .aload_n 0, 0, 0, []),
  (91, .getfield 24, 11, 8, [876]), (94, .iload_n 1, 0, 0, []), (95, .iaload, 0, 0, []), (96, .ifCond .ne 4, 100, 0, []),
  (99, .return_, 0, 0, []), (100, .aload_n 0, 0, 0, []), (101, .bipush 40, 0, 0, []), (103, .invokevirtual 204, 133, 1, [1118, 1120, 41, 69, 1121]),
  (106, .iload_n 3, 0, 0, []), (107, .iconst (-1), 0, 0, []), (108, .if_icmp .eq 8, 116, 0, []), (111, .aload_n 0, 0, 0, []),
  (112, .iload_n 3, 0, 0, []), (113, .invokevirtual 219, 142, 1, [1154, 1156, 50, 69, 1157]), (116, .iload 4, 0, 0, []), (118, .iconst (-1), 0, 0, []),
  (119, .if_icmp .eq 15, 134, 0, []), (122, .aload_n 0, 0, 0, []), (123, .bipush 44, 0, 0, []), (125, .invokevirtual 204, 133, 1, [1118, 1120, 41, 69, 1121]),
  (128, .aload_n 0, 0, 0, []), (129, .iload 4, 0, 0, []), (131, .invokevirtual 219, 142, 1, [1154, 1156, 50, 69, 1157]), (134, .aload_n 0, 0, 0, []),
  (135, .bipush 41, 0, 0, []), (137, .invokevirtual 204, 133, 1, [1118, 1120, 41, 69, 1121]), (140, .return_, 0, 0, [])
  ]
/-- ChainDeskModel.writeKept(I)V -/
def cd_r142 : List (Nat × Instr × Nat × Nat × List Nat) := [
  (0, .iconst 0, 0, 0, []), (1, .istore_n 2, 0, 0, []), (2, .iload_n 2, 0, 0, []), (3, .aload_n 0, 0, 0, []),
  (4, .getfield 61, 11, 22, [890]), (7, .iload_n 1, 0, 0, []), (8, .iaload, 0, 0, []), (9, .if_icmp .ge 24, 33, 0, []),
  (12, .aload_n 0, 0, 0, []), (13, .aload_n 0, 0, 0, []), (14, .getfield 64, 11, 23, [891]), (17, .bipush 24, 0, 0, []),
  (19, .iload_n 1, 0, 0, []), (20, .imul, 0, 0, []), (21, .iload_n 2, 0, 0, []), (22, .iadd, 0, 0, []),
  (23, .caload, 0, 0, []), (24, .invokevirtual 204, 133, 1, [1118, 1120, 41, 69, 1121]), (27, .iinc 2 1, 0, 0, []), (30, .goto (-28), 2, 0, []),
  (33, .return_, 0, 0, [])
  ]
/-- ChainDeskModel.sees(II)Z -/
def cd_r143 : List (Nat × Instr × Nat × Nat × List Nat) := [
  (0, .iload_n 1, 0, 0, []), (1, .iconst 3, 0, 0, []), (2, .if_icmp .lt 11, 13, 0, []), (5, .aload_n 0, 0, 0, []),
  (6, .iload_n 2, 0, 0, []), (7, .invokevirtual 198, 144, 1, [1162, 1164, 52, 69, 1165]), (10, .ifCond .ne 5, 15, 0, []), (13, .iconst 0, 0, 0, []),
  (14, .ireturn, 0, 0, []), (15, .iload_n 1, 0, 0, []), (16, .iconst 3, 0, 0, []), (17, .isub, 0, 0, []),
  (18, .istore_n 3, 0, 0, []), (19, .iload_n 3, 0, 0, []), (20, .iconst (-1), 0, 0, []), (21, .if_icmp .eq 103, 124, 0, []),
  (24, .aload_n 0, 0, 0, []), (25, .getfield 13, 11, 5, [873]), (28, .iload_n 3, 0, 0, []), (29, .baload, 0, 0, []),
  (30, .ifCond .eq 94, 124, 0, []), (33, .iload_n 2, 0, 0, []), (34, .bipush 6, 0, 0, []), (36, .idiv, 0, 0, []),
  (37, .iload_n 3, 0, 0, []), (38, .if_icmp .ne 5, 43, 0, []), (41, .iconst 1, 0, 0, []), (42, .ireturn, 0, 0, []),
  (43, .bipush 6, 0, 0, []), (45, .iload_n 3, 0, 0, []), (46, .imul, 0, 0, []), (47, .istore 4, 0, 0, []),
  (49, .iload 4, 0, 0, []), (51, .bipush 6, 0, 0, []), (53, .iload_n 3, 0, 0, []), (54, .imul, 0, 0, []),
  (55, .aload_n 0, 0, 0, []), (56, .getfield 21, 11, 7, [875]), (59, .iload_n 3, 0, 0, []), (60, .iaload, 0, 0, []),
  (61, .iadd, 0, 0, []), (62, .if_icmp .ge 52, 114, 0, []), (65, .aload_n 0, 0, 0, []), (66, .iload 4, 0, 0, []),
  (68, .invokevirtual 198, 144, 1, [1162, 1164, 52, 69, 1165]), (71, .ifCond .eq 37, 108, 0, []), (74, .aload_n 0, 0, 0, []), (75, .getfield 24, 11, 8, [876]),
  (78, .iload 4, 0, 0, []), (80, .iaload, 0, 0, []), (81, .aload_n 0, 0, 0, []), (82, .getfield 24, 11, 8, [876]),
  (85, .iload_n 2, 0, 0, []), (86, .iaload, 0, 0, []), (87, .if_icmp .ne 21, 108, 0, []), (90, .aload_n 0, 0, 0, []),
  (91, .getfield 33, 11, 11, [879]), (94, .iload 4, 0, 0, []), (96, .iaload, 0, 0, []), (97, .aload_n 0, 0, 0, []),
  (98, .getfield 33, 11, 11, [879]), (101, .iload_n 2, 0, 0, []), (102, .iaload, 0, 0, []), (103, .if_icmp .ne 5, 108, 0, []),
  (106, .iconst 0, 0, 0, []), (107, .ireturn, 0, 0, []), (108, .iinc 4 1, 0, 0, []), (111, .goto (-62), 49, 0, []),
  (114, .aload_n 0, 0, 0, []), (115, .getfield 17, 11, 6, [874]), (118, .iload_n 3, 0, 0, []), (119, .iaload, 0, 0, []),
  (120, .istore_n 3, 0, 0, []), (121, .goto (-102), 19, 0, []), (124, .iconst 0, 0, 0, []), (125, .ireturn, 0, 0, [])
  ]
/-- ChainDeskModel.behind(I)Z -/
def cd_r144 : List (Nat × Instr × Nat × Nat × List Nat) := [
  (0, .aload_n 0, 0, 0, []), (1, .getfield 24, 11, 8, [876]), (4, .iload_n 1, 0, 0, []), (5, .iaload, 0, 0, []),
  (6, .iconst 2, 0, 0, []), (7, .if_icmp .eq 24, 31, 0, []), (10, .aload_n 0, 0, 0, []), (11, .getfield 27, 11, 9, [877]),
  (14, .iload_n 1, 0, 0, []), (15, .baload, 0, 0, []), (16, .ifCond .ne 15, 31, 0, []), (19, .aload_n 0, 0, 0, []),
  (20, .iload_n 1, 0, 0, []), (21, .invokevirtual 195, 138, 1, [1138, 1140, 46, 69, 1141]), (24, .ifCond .eq 7, 31, 0, []), (27, .iconst 1, 0, 0, []),
  (28, .goto 4, 32, 0, []), (31, .iconst 0, 0, 0, []), (32, .ireturn, 0, 0, [])
  ]
/-- ChainDeskModel.propose(I)V -/
def cd_r145 : List (Nat × Instr × Nat × Nat × List Nat) := [
  (0, .aload_n 0, 0, 0, []), (1, .getfield 70, 11, 28, [896]), (4, .aload_n 0, 0, 0, []), (5, .getfield 247, 11, 27, [895]),
  (8, .aload_n 0, 0, 0, []), (9, .getfield 55, 11, 20, [888]), (12, .iload_n 1, 0, 0, []), (13, .iaload, 0, 0, []),
  (14, .iastore, 0, 0, []), (15, .aload_n 0, 0, 0, []), (16, .getfield 73, 11, 29, [897]), (19, .aload_n 0, 0, 0, []),
  (20, .getfield 247, 11, 27, [895]), (23, .aload_n 0, 0, 0, []), (24, .getfield 58, 11, 21, [889]), (27, .iload_n 1, 0, 0, []),
  (28, .iaload, 0, 0, []), (29, .iastore, 0, 0, []), (30, .aload_n 0, 0, 0, []), (31, .getfield 76, 11, 30, [898]),
  (34, .aload_n 0, 0, 0, []), (35, .getfield 247, 11, 27, [895]), (38, .aload_n 0, 0, 0, []), (39, .getfield 61, 11, 22, [890]),
  (42, .iload_n 1, 0, 0, []), (43, .iaload, 0, 0, []), (44, .iastore, 0, 0, []), (45, .iconst 0, 0, 0, []),
  (46, .istore_n 2, 0, 0, []), (47, .iload_n 2, 0, 0, []), (48, .bipush 24, 0, 0, []), (50, .if_icmp .ge 34, 84, 0, []),
  (53, .aload_n 0, 0, 0, []), (54, .getfield 79, 11, 31, [899]), (57, .bipush 24, 0, 0, []), (59, .aload_n 0, 0, 0, []),
  (60, .getfield 247, 11, 27, [895]), (63, .imul, 0, 0, []), (64, .iload_n 2, 0, 0, []), (65, .iadd, 0, 0, []),
  (66, .aload_n 0, 0, 0, []), (67, .getfield 64, 11, 23, [891]), (70, .bipush 24, 0, 0, []), (72, .iload_n 1, 0, 0, []),
  (73, .imul, 0, 0, []), (74, .iload_n 2, 0, 0, []), (75, .iadd, 0, 0, []), (76, .caload, 0, 0, []),
  (77, .castore, 0, 0, []), (78, .iinc 2 1, 0, 0, []), (81, .goto (-34), 47, 0, []), (84, .aload_n 0, 0, 0, []),
  (85, .dup, 0, 0, []), (86, .getfield 247, 11, 27, [895]), (89, .iconst 1, 0, 0, []), (90, .iadd, 0, 0, []),
  (91, .putfield 247, 11, 27, [895]), (94, .return_, 0, 0, [])
  ]
/-- ChainDeskModel.check()I -/
def cd_r146 : List (Nat × Instr × Nat × Nat × List Nat) := [
  (0, .aload_n 0, 0, 0, []), (1, .iconst 0, 0, 0, []), (2, .putfield 98, 11, 3, [871]), (5, .aload_n 0, 0, 0, []),
  (6, .iconst 1, 0, 0, []), (7, .putfield 101, 11, 4, [872]), (10, .aload_n 0, 0, 0, []), (11, .iconst 0, 0, 0, []),
  (12, .putfield 256, 11, 33, [901]), (15, .aload_n 0, 0, 0, []), (16, .iconst 0, 0, 0, []), (17, .putfield 253, 11, 36, [904]),
  (20, .aload_n 0, 0, 0, []), (21, .invokevirtual 269, 147, 0, [1174, 1176, 54, 69, 1177]), (24, .istore_n 1, 0, 0, []), (25, .aload_n 0, 0, 0, []),
  (26, .getfield 101, 11, 4, [872]), (29, .ifCond .eq 46, 75, 0, []), (32, .iload_n 1, 0, 0, []), (33, .iconst (-1), 0, 0, []),
  (34, .if_icmp .eq 20, 54, 0, []), (37, .aload_n 0, 0, 0, []), (38, .getfield 256, 11, 33, [901]), (41, .ifCond .gt 13, 54, 0, []),
  (44, .aload_n 0, 0, 0, []), (45, .iconst 0, 0, 0, []), (46, .invokevirtual 105, 105, 1, [1010, 1012, 22, 69, 1013]), (49, .bipush 46, 0, 0, []),
  (51, .if_icmp .ne 24, 75, 0, []), (54, .iload_n 1, 0, 0, []), (55, .iconst (-1), 0, 0, []), (56, .if_icmp .ne 10, 66, 0, []),
  (59, .aload_n 0, 0, 0, []), (60, .invokevirtual 269, 147, 0, [1174, 1176, 54, 69, 1177]), (63, .goto 8, 71, 0, []), (66, .aload_n 0, 0, 0, []),
  (67, .iload_n 1, 0, 0, []), (68, .invokevirtual 272, 151, 1, [1190, 1192, 58, 69, 1193]), (71, .istore_n 1, 0, 0, []), (72, .goto (-47), 25, 0, []),
  (75, .aload_n 0, 0, 0, []), (76, .aload_n 0, 0, 0, []), (77, .getfield 98, 11, 3, [871]), (80, .aload_n 0, 0, 0, []),
  (81, .getfield 95, 11, 2, [870]), (84, .if_icmp .ne 7, 91, 0, []), (87, .iconst 1, 0, 0, []), (88, .goto 4, 92, 0, []),
  (91, .iconst 0, 0, 0, []), (92, .invokevirtual 113, 107, 1, [1017, 1019, 23, 69, 1020]), (95, .aload_n 0, 0, 0, []), (96, .iconst 0, 0, 0, []),
  (97, .putfield 95, 11, 2, [870]), (100, .aload_n 0, 0, 0, []), (101, .getfield 101, 11, 4, [872]), (104, .ifCond .ne 9, 113, 0, []),
  (107, .aload_n 0, 0, 0, []), (108, .iconst 1, 0, 0, []), (109, .invokevirtual 176, 121, 1, [1070, 1072, 34, 69, 1073]), (112, .ireturn, 0, 0, []),
  (113, .aload_n 0, 0, 0, []), (114, .iconst 0, 0, 0, []), (115, .putfield 88, 11, 0, [868]), (118, .aload_n 0, 0, 0, []),
  (119, .aload_n 0, 0, 0, []), (120, .getfield 253, 11, 36, [904]), (123, .putfield 275, 11, 32, [900]), (126, .iload_n 1, 0, 0, []),
  (127, .ireturn, 0, 0, [])
  ]
/-- ChainDeskModel.primary()I -/
def cd_r147 : List (Nat × Instr × Nat × Nat × List Nat) := [
  (0, .aload_n 0, 0, 0, []), (1, .iconst 4, 0, 0, []), (2, .bipush 110, 0, 0, []), (4, .bipush 101, 0, 0, []),
  (6, .bipush 119, 0, 0, []), (8, .bipush 32, 0, 0, []), (10, .iconst 0, 0, 0, []), (11, .iconst 0, 0, 0, []),
  (12, .invokevirtual 145, 111, 7, [1033, 1035, 27, 69, 1036]), (15, .ifCond .eq 29, 44, 0, []), (18, .aload_n 0, 0, 0, []), (19, .invokevirtual 135, 104, 0, [1006, 1008, 21, 69, 1009]),
  (22, .istore_n 1, 0, 0, []), (23, .aload_n 0, 0, 0, []), (24, .getfield 101, 11, 4, [872]), (27, .ifCond .eq 15, 42, 0, []),
  (30, .aload_n 0, 0, 0, []), (31, .aload_n 0, 0, 0, []), (32, .iload_n 1, 0, 0, []), (33, .invokevirtual 259, 148, 1, [1178, 1180, 55, 69, 1181]),
  (36, .invokevirtual 262, 149, 1, [1182, 1184, 56, 69, 1185]), (39, .goto 4, 43, 0, []), (42, .iconst (-1), 0, 0, []), (43, .ireturn, 0, 0, []),
  (44, .aload_n 0, 0, 0, []), (45, .iconst 0, 0, 0, []), (46, .invokevirtual 105, 105, 1, [1010, 1012, 22, 69, 1013]), (49, .invokestatic 132, 106, 1, [1014, 1015, 69, 1016]),
  (52, .ifCond .eq 58, 110, 0, []), (55, .aload_n 0, 0, 0, []), (56, .invokevirtual 135, 104, 0, [1006, 1008, 21, 69, 1009]), (59, .istore_n 1, 0, 0, []),
  (60, .aload_n 0, 0, 0, []), (61, .bipush 46, 0, 0, []), (63, .invokevirtual 138, 109, 1, [1025, 1027, 25, 69, 1028]), (66, .aload_n 0, 0, 0, []),
  (67, .invokevirtual 153, 117, 0, [1055, 1057, 31, 69, 1058]), (70, .istore_n 2, 0, 0, []), (71, .aload_n 0, 0, 0, []), (72, .getfield 101, 11, 4, [872]),
  (75, .ifCond .eq 33, 108, 0, []), (78, .aload_n 0, 0, 0, []), (79, .aload_n 0, 0, 0, []), (80, .iconst (-1), 0, 0, []),
  (81, .iload_n 1, 0, 0, []), (82, .isub, 0, 0, []), (83, .iload_n 2, 0, 0, []), (84, .aload_n 0, 0, 0, []),
  (85, .iconst 0, 0, 0, []), (86, .invokevirtual 105, 105, 1, [1010, 1012, 22, 69, 1013]), (89, .bipush 40, 0, 0, []), (91, .if_icmp .ne 7, 98, 0, []),
  (94, .iconst 1, 0, 0, []), (95, .goto 4, 99, 0, []), (98, .iconst 0, 0, 0, []), (99, .invokevirtual 265, 150, 3, [1186, 1188, 57, 69, 1189]),
  (102, .invokevirtual 262, 149, 1, [1182, 1184, 56, 69, 1185]), (105, .goto 4, 109, 0, []), (108, .iconst (-1), 0, 0, []), (109, .ireturn, 0, 0, []),
  (110, .aload_n 0, 0, 0, []), (111, .aload_n 0, 0, 0, []), (112, .invokevirtual 153, 117, 0, [1055, 1057, 31, 69, 1058]), (115, .invokevirtual 186, 124, 1, [1082, 1084, 36, 69, 1085]),
  (118, .istore_n 1, 0, 0, []), (119, .aload_n 0, 0, 0, []), (120, .iload_n 1, 0, 0, []), (121, .iconst (-1), 0, 0, []),
  (122, .if_icmp .eq 7, 129, 0, []), (125, .iconst 1, 0, 0, []), (126, .goto 4, 130, 0, []), (129, .iconst 0, 0, 0, []),
  (130, .invokevirtual 113, 107, 1, [1017, 1019, 23, 69, 1020]), (133, .aload_n 0, 0, 0, []), (134, .getfield 101, 11, 4, [872]), (137, .ifCond .eq 12, 149, 0, []),
  (140, .aload_n 0, 0, 0, []), (141, .getfield 48, 11, 17, [885]), (144, .iload_n 1, 0, 0, []), (145, .iaload, 0, 0, []),
  (146, .goto 4, 150, 0, []), (149, .iconst (-1), 0, 0, []), (150, .ireturn, 0, 0, [])
  ]
/-- ChainDeskModel.makerOf(I)I -/
def cd_r148 : List (Nat × Instr × Nat × Nat × List Nat) := [
  (0, .iconst (-1), 0, 0, []), (1, .istore_n 2, 0, 0, []), (2, .bipush 6, 0, 0, []), (4, .iload_n 1, 0, 0, []),
  (5, .imul, 0, 0, []), (6, .istore_n 3, 0, 0, []), (7, .iload_n 3, 0, 0, []), (8, .bipush 6, 0, 0, []),
  (10, .iload_n 1, 0, 0, []), (11, .imul, 0, 0, []), (12, .aload_n 0, 0, 0, []), (13, .getfield 21, 11, 7, [875]),
  (16, .iload_n 1, 0, 0, []), (17, .iaload, 0, 0, []), (18, .iadd, 0, 0, []), (19, .if_icmp .ge 33, 52, 0, []),
  (22, .aload_n 0, 0, 0, []), (23, .getfield 24, 11, 8, [876]), (26, .iload_n 3, 0, 0, []), (27, .iaload, 0, 0, []),
  (28, .iconst 2, 0, 0, []), (29, .if_icmp .ne 15, 44, 0, []), (32, .aload_n 0, 0, 0, []), (33, .iload_n 3, 0, 0, []),
  (34, .invokevirtual 195, 138, 1, [1138, 1140, 46, 69, 1141]), (37, .ifCond .eq 7, 44, 0, []), (40, .iload_n 3, 0, 0, []), (41, .goto 4, 45, 0, []),
  (44, .iload_n 2, 0, 0, []), (45, .istore_n 2, 0, 0, []), (46, .iinc 3 1, 0, 0, []), (49, .goto (-42), 7, 0, []),
  (52, .iload_n 2, 0, 0, []), (53, .ireturn, 0, 0, [])
  ]
/-- ChainDeskModel.use(I)I -/
def cd_r149 : List (Nat × Instr × Nat × Nat × List Nat) := [
  (0, .aload_n 0, 0, 0, []), (1, .iload_n 1, 0, 0, []), (2, .iconst (-1), 0, 0, []), (3, .if_icmp .eq 7, 10, 0, []),
  (6, .iconst 1, 0, 0, []), (7, .goto 4, 11, 0, []), (10, .iconst 0, 0, 0, []), (11, .invokevirtual 113, 107, 1, [1017, 1019, 23, 69, 1020]),
  (14, .aload_n 0, 0, 0, []), (15, .getfield 101, 11, 4, [872]), (18, .ifCond .ne 5, 23, 0, []), (21, .iconst (-1), 0, 0, []),
  (22, .ireturn, 0, 0, []), (23, .aload_n 0, 0, 0, []), (24, .dup, 0, 0, []), (25, .getfield 253, 11, 36, [904]),
  (28, .iconst 1, 0, 0, []), (29, .iadd, 0, 0, []), (30, .putfield 253, 11, 36, [904]), (33, .aload_n 0, 0, 0, []),
  (34, .getfield 24, 11, 8, [876]), (37, .iload_n 1, 0, 0, []), (38, .iaload, 0, 0, []), (39, .ifCond .ne 10, 49, 0, []),
  (42, .aload_n 0, 0, 0, []), (43, .getfield 36, 11, 12, [880]), (46, .iload_n 1, 0, 0, []), (47, .iaload, 0, 0, []),
  (48, .ireturn, 0, 0, []), (49, .aload_n 0, 0, 0, []), (50, .bipush 40, 0, 0, []), (52, .invokevirtual 138, 109, 1, [1025, 1027, 25, 69, 1028]),
  (55, .aload_n 0, 0, 0, []), (56, .getfield 39, 11, 13, [881]), (59, .iload_n 1, 0, 0, []), (60, .iaload, 0, 0, []),
  (61, .ifCond .ne 16, 77, 0, []), (64, .aload_n 0, 0, 0, []), (65, .bipush 41, 0, 0, []), (67, .invokevirtual 138, 109, 1, [1025, 1027, 25, 69, 1028]),
  (70, .aload_n 0, 0, 0, []), (71, .getfield 36, 11, 12, [880]), (74, .iload_n 1, 0, 0, []), (75, .iaload, 0, 0, []),
  (76, .ireturn, 0, 0, []), (77, .aload_n 0, 0, 0, []), (78, .aload_n 0, 0, 0, []), (79, .getfield 256, 11, 33, [901]),
  (82, .bipush 6, 0, 0, []), (84, .if_icmp .ge 7, 91, 0, []), (87, .iconst 1, 0, 0, []), (88, .goto 4, 92, 0, []),
  (91, .iconst 0, 0, 0, []), (92, .invokevirtual 113, 107, 1, [1017, 1019, 23, 69, 1020]), (95, .aload_n 0, 0, 0, []), (96, .getfield 82, 11, 34, [902]),
  (99, .aload_n 0, 0, 0, []), (100, .getfield 256, 11, 33, [901]), (103, .iload_n 1, 0, 0, []), (104, .iastore, 0, 0, []),
  (105, .aload_n 0, 0, 0, []), (106, .getfield 85, 11, 35, [903]), (109, .aload_n 0, 0, 0, []), (110, .getfield 256, 11, 33, [901]),
  (113, .iconst 0, 0, 0, []), (114, .iastore, 0, 0, []), (115, .aload_n 0, 0, 0, []), (116, .dup, 0, 0, []),
  (117, .getfield 256, 11, 33, [901]), (120, .iconst 1, 0, 0, []), (121, .iadd, 0, 0, []), (122, .putfield 256, 11, 33, [901]),
  (125, .iconst (-1), 0, 0, []), (126, .ireturn, 0, 0, [])
  ]
/-- ChainDeskModel.memberOf(IIZ)I -/
def cd_r150 : List (Nat × Instr × Nat × Nat × List Nat) := [
  (0, .iconst (-1), 0, 0, []), (1, .istore 4, 0, 0, []), (3, .iconst 0, 0, 0, []), (4, .istore 5, 0, 0, []),
  (6, .iload 5, 0, 0, []), (8, .bipush 60, 0, 0, []), (10, .if_icmp .ge 133, 143, 0, []), (13, .aload_n 0, 0, 0, []),
  (14, .getfield 13, 11, 5, [873]), (17, .iload 5, 0, 0, []), (19, .bipush 6, 0, 0, []), (21, .idiv, 0, 0, []),
  (22, .baload, 0, 0, []), (23, .ifCond .eq 55, 78, 0, []), (26, .iload 5, 0, 0, []), (28, .bipush 6, 0, 0, []),
  (30, .irem, 0, 0, []), (31, .aload_n 0, 0, 0, []), (32, .getfield 21, 11, 7, [875]), (35, .iload 5, 0, 0, []),
  (37, .bipush 6, 0, 0, []), (39, .idiv, 0, 0, []), (40, .iaload, 0, 0, []), (41, .if_icmp .ge 37, 78, 0, []),
  (44, .aload_n 0, 0, 0, []), (45, .getfield 24, 11, 8, [876]), (48, .iload 5, 0, 0, []), (50, .iaload, 0, 0, []),
  (51, .iload_n 3, 0, 0, []), (52, .ifCond .eq 7, 59, 0, []), (55, .iconst 1, 0, 0, []), (56, .goto 4, 60, 0, []),
  (59, .iconst 0, 0, 0, []), (60, .if_icmp .ne 18, 78, 0, []), (63, .aload_n 0, 0, 0, []), (64, .getfield 33, 11, 11, [879]),
  (67, .iload 5, 0, 0, []), (69, .iaload, 0, 0, []), (70, .iload_n 2, 0, 0, []), (71, .if_icmp .ne 7, 78, 0, []),
  (74, .iconst 1, 0, 0, []), (75, .goto 4, 79, 0, []), (78, .iconst 0, 0, 0, []), (79, .istore 6, 0, 0, []),
  (81, .iload 6, 0, 0, []), (83, .ifCond .eq 54, 137, 0, []), (86, .iload_n 1, 0, 0, []), (87, .ifCond .lt 16, 103, 0, []),
  (90, .aload_n 0, 0, 0, []), (91, .iload_n 1, 0, 0, []), (92, .iload 5, 0, 0, []), (94, .invokevirtual 238, 143, 2, [1158, 1160, 51, 69, 1161]),
  (97, .ifCond .eq 40, 137, 0, []), (100, .goto 33, 133, 0, []), (103, .iload 5, 0, 0, []), (105, .bipush 6, 0, 0, []),
  (107, .idiv, 0, 0, []), (108, .iconst (-1), 0, 0, []), (109, .iload_n 1, 0, 0, []), (110, .isub, 0, 0, []),
  (111, .if_icmp .ne 26, 137, 0, []), (114, .aload_n 0, 0, 0, []), (115, .getfield 27, 11, 9, [877]), (118, .iload 5, 0, 0, []),
  (120, .baload, 0, 0, []), (121, .ifCond .eq 16, 137, 0, []), (124, .aload_n 0, 0, 0, []), (125, .iload 5, 0, 0, []),
  (127, .invokevirtual 195, 138, 1, [1138, 1140, 46, 69, 1141]), (130, .ifCond .eq 7, 137, 0, []), (133, .iload 5, 0, 0, []), (135, .istore 4, 0, 0, []),
  (137, .iinc 5 1, 0, 0, []), (140, .goto (-134), 6, 0, []), (143, .iload 4, 0, 0, []), (145, .ireturn, 0, 0, [])
  ]
/-- ChainDeskModel.further(I)I -/
def cd_r151 : List (Nat × Instr × Nat × Nat × List Nat) := [
  (0, .aload_n 0, 0, 0, []), (1, .bipush 46, 0, 0, []), (3, .invokevirtual 109, 108, 1, [1021, 1023, 24, 69, 1024]), (6, .ifCond .eq 45, 51, 0, []),
  (9, .aload_n 0, 0, 0, []), (10, .invokevirtual 153, 117, 0, [1055, 1057, 31, 69, 1058]), (13, .istore_n 2, 0, 0, []), (14, .aload_n 0, 0, 0, []),
  (15, .getfield 101, 11, 4, [872]), (18, .ifCond .eq 31, 49, 0, []), (21, .aload_n 0, 0, 0, []), (22, .aload_n 0, 0, 0, []),
  (23, .iload_n 1, 0, 0, []), (24, .iload_n 2, 0, 0, []), (25, .aload_n 0, 0, 0, []), (26, .iconst 0, 0, 0, []),
  (27, .invokevirtual 105, 105, 1, [1010, 1012, 22, 69, 1013]), (30, .bipush 40, 0, 0, []), (32, .if_icmp .ne 7, 39, 0, []), (35, .iconst 1, 0, 0, []),
  (36, .goto 4, 40, 0, []), (39, .iconst 0, 0, 0, []), (40, .invokevirtual 265, 150, 3, [1186, 1188, 57, 69, 1189]), (43, .invokevirtual 262, 149, 1, [1182, 1184, 56, 69, 1185]),
  (46, .goto 4, 50, 0, []), (49, .iconst (-1), 0, 0, []), (50, .ireturn, 0, 0, []), (51, .aload_n 0, 0, 0, []),
  (52, .getfield 82, 11, 34, [902]), (55, .aload_n 0, 0, 0, []), (56, .getfield 256, 11, 33, [901]), (59, .iconst 1, 0, 0, []),
  (60, .isub, 0, 0, []), (61, .iaload, 0, 0, []), (62, .istore_n 2, 0, 0, []), (63, .aload_n 0, 0, 0, []),
  (64, .getfield 85, 11, 35, [903]), (67, .aload_n 0, 0, 0, []), (68, .getfield 256, 11, 33, [901]), (71, .iconst 1, 0, 0, []),
  (72, .isub, 0, 0, []), (73, .iaload, 0, 0, []), (74, .istore_n 3, 0, 0, []), (75, .aload_n 0, 0, 0, []),
  (76, .aload_n 0, 0, 0, []), (77, .iload_n 1, 0, 0, []), (78, .aload_n 0, 0, 0, []), (79, .getfield 42, 11, 14, [882]),
  (82, .iconst 2, 0, 0, []), (83, .iload_n 2, 0, 0, []), (84, .imul, 0, 0, []), (85, .iload_n 3, 0, 0, []),
  (86, .iadd, 0, 0, []), (87, .iaload, 0, 0, []), (88, .invokevirtual 192, 128, 2, [1098, 1100, 37, 69, 1101]), (91, .invokevirtual 113, 107, 1, [1017, 1019, 23, 69, 1020]),
  (94, .aload_n 0, 0, 0, []), (95, .getfield 85, 11, 35, [903]), (98, .aload_n 0, 0, 0, []), (99, .getfield 256, 11, 33, [901]),
  (102, .iconst 1, 0, 0, []), (103, .isub, 0, 0, []), (104, .dup2, 0, 0, []), (105, .iaload, 0, 0, []),
  (106, .iconst 1, 0, 0, []), (107, .iadd, 0, 0, []), (108, .iastore, 0, 0, []), (109, .iload_n 3, 0, 0, []),
  (110, .iconst 1, 0, 0, []), (111, .iadd, 0, 0, []), (112, .aload_n 0, 0, 0, []), (113, .getfield 39, 11, 13, [881]),
  (116, .iload_n 2, 0, 0, []), (117, .iaload, 0, 0, []), (118, .if_icmp .ge 11, 129, 0, []), (121, .aload_n 0, 0, 0, []),
  (122, .bipush 44, 0, 0, []), (124, .invokevirtual 138, 109, 1, [1025, 1027, 25, 69, 1028]), (127, .iconst (-1), 0, 0, []), (128, .ireturn, 0, 0, []),
  (129, .aload_n 0, 0, 0, []), (130, .bipush 41, 0, 0, []), (132, .invokevirtual 138, 109, 1, [1025, 1027, 25, 69, 1028]), (135, .aload_n 0, 0, 0, []),
  (136, .dup, 0, 0, []), (137, .getfield 256, 11, 33, [901]), (140, .iconst 1, 0, 0, []), (141, .isub, 0, 0, []),
  (142, .putfield 256, 11, 33, [901]), (145, .aload_n 0, 0, 0, []), (146, .getfield 36, 11, 12, [880]), (149, .iload_n 2, 0, 0, []),
  (150, .iaload, 0, 0, []), (151, .ireturn, 0, 0, [])
  ]
/-- ChainDeskModel.checkedCost()I -/
def cd_r152 : List (Nat × Instr × Nat × Nat × List Nat) := [
  (0, .aload_n 0, 0, 0, []), (1, .iconst 0, 0, 0, []), (2, .putfield 88, 11, 0, [868]), (5, .aload_n 0, 0, 0, []),
  (6, .getfield 275, 11, 32, [900]), (9, .ireturn, 0, 0, [])
  ]
/-- ChainDeskModel.proposal(II)I -/
def cd_r153 : List (Nat × Instr × Nat × Nat × List Nat) := [
  (0, .aload_n 0, 0, 0, []), (1, .iconst 0, 0, 0, []), (2, .putfield 88, 11, 0, [868]), (5, .iload_n 1, 0, 0, []),
  (6, .iconst 0, 0, 0, []), (7, .aload_n 0, 0, 0, []), (8, .getfield 247, 11, 27, [895]), (11, .iconst 1, 0, 0, []),
  (12, .isub, 0, 0, []), (13, .invokestatic 91, 101, 3, [995, 996, 69, 997]), (16, .ifCond .ne 12, 28, 0, []), (19, .iload_n 2, 0, 0, []),
  (20, .iconst 0, 0, 0, []), (21, .iconst 2, 0, 0, []), (22, .invokestatic 91, 101, 3, [995, 996, 69, 997]), (25, .ifCond .eq 5, 30, 0, []),
  (28, .iconst (-1), 0, 0, []), (29, .ireturn, 0, 0, []), (30, .iload_n 2, 0, 0, []), (31, .ifCond .ne 12, 43, 0, []),
  (34, .aload_n 0, 0, 0, []), (35, .getfield 76, 11, 30, [898]), (38, .iload_n 1, 0, 0, []), (39, .iaload, 0, 0, []),
  (40, .goto 23, 63, 0, []), (43, .iload_n 2, 0, 0, []), (44, .iconst 1, 0, 0, []), (45, .if_icmp .ne 12, 57, 0, []),
  (48, .aload_n 0, 0, 0, []), (49, .getfield 70, 11, 28, [896]), (52, .iload_n 1, 0, 0, []), (53, .iaload, 0, 0, []),
  (54, .goto 9, 63, 0, []), (57, .aload_n 0, 0, 0, []), (58, .getfield 73, 11, 29, [897]), (61, .iload_n 1, 0, 0, []),
  (62, .iaload, 0, 0, []), (63, .ireturn, 0, 0, [])
  ]
/-- ChainDeskModel.letter(II)I -/
def cd_r154 : List (Nat × Instr × Nat × Nat × List Nat) := [
  (0, .aload_n 0, 0, 0, []), (1, .iconst 0, 0, 0, []), (2, .putfield 88, 11, 0, [868]), (5, .iload_n 1, 0, 0, []),
  (6, .iconst 0, 0, 0, []), (7, .aload_n 0, 0, 0, []), (8, .getfield 247, 11, 27, [895]), (11, .iconst 1, 0, 0, []),
  (12, .isub, 0, 0, []), (13, .invokestatic 91, 101, 3, [995, 996, 69, 997]), (16, .ifCond .ne 19, 35, 0, []), (19, .iload_n 2, 0, 0, []),
  (20, .iconst 0, 0, 0, []), (21, .aload_n 0, 0, 0, []), (22, .getfield 76, 11, 30, [898]), (25, .iload_n 1, 0, 0, []),
  (26, .iaload, 0, 0, []), (27, .iconst 1, 0, 0, []), (28, .isub, 0, 0, []), (29, .invokestatic 91, 101, 3, [995, 996, 69, 997]),
  (32, .ifCond .eq 7, 39, 0, []), (35, .iconst 0, 0, 0, []), (36, .goto 14, 50, 0, []), (39, .aload_n 0, 0, 0, []),
  (40, .getfield 79, 11, 31, [899]), (43, .bipush 24, 0, 0, []), (45, .iload_n 1, 0, 0, []), (46, .imul, 0, 0, []),
  (47, .iload_n 2, 0, 0, []), (48, .iadd, 0, 0, []), (49, .caload, 0, 0, []), (50, .ireturn, 0, 0, [])
  ]
/-- ChainDeskModel.members(I)I -/
def cd_r155 : List (Nat × Instr × Nat × Nat × List Nat) := [
  (0, .aload_n 0, 0, 0, []), (1, .iconst 0, 0, 0, []), (2, .putfield 88, 11, 0, [868]), (5, .iload_n 1, 0, 0, []),
  (6, .iconst 0, 0, 0, []), (7, .bipush 9, 0, 0, []), (9, .invokestatic 91, 101, 3, [995, 996, 69, 997]), (12, .ifCond .ne 12, 24, 0, []),
  (15, .aload_n 0, 0, 0, []), (16, .getfield 13, 11, 5, [873]), (19, .iload_n 1, 0, 0, []), (20, .baload, 0, 0, []),
  (21, .ifCond .ne 7, 28, 0, []), (24, .iconst (-1), 0, 0, []), (25, .goto 9, 34, 0, []), (28, .aload_n 0, 0, 0, []),
  (29, .getfield 21, 11, 7, [875]), (32, .iload_n 1, 0, 0, []), (33, .iaload, 0, 0, []), (34, .ireturn, 0, 0, [])
  ]
/-- ChainDeskModel.seen(II)I -/
def cd_r156 : List (Nat × Instr × Nat × Nat × List Nat) := [
  (0, .aload_n 0, 0, 0, []), (1, .iconst 0, 0, 0, []), (2, .putfield 88, 11, 0, [868]), (5, .iload_n 1, 0, 0, []),
  (6, .iconst 0, 0, 0, []), (7, .bipush 9, 0, 0, []), (9, .invokestatic 91, 101, 3, [995, 996, 69, 997]), (12, .ifCond .ne 12, 24, 0, []),
  (15, .iload_n 2, 0, 0, []), (16, .iconst 0, 0, 0, []), (17, .iconst 1, 0, 0, []), (18, .invokestatic 91, 101, 3, [995, 996, 69, 997]),
  (21, .ifCond .eq 5, 26, 0, []), (24, .iconst (-1), 0, 0, []), (25, .ireturn, 0, 0, []), (26, .iconst 0, 0, 0, []),
  (27, .istore_n 3, 0, 0, []), (28, .iconst 0, 0, 0, []), (29, .istore 4, 0, 0, []), (31, .iload 4, 0, 0, []),
  (33, .bipush 60, 0, 0, []), (35, .if_icmp .ge 71, 106, 0, []), (38, .aload_n 0, 0, 0, []), (39, .getfield 13, 11, 5, [873]),
  (42, .iload 4, 0, 0, []), (44, .bipush 6, 0, 0, []), (46, .idiv, 0, 0, []), (47, .baload, 0, 0, []),
  (48, .ifCond .eq 50, 98, 0, []), (51, .iload 4, 0, 0, []), (53, .bipush 6, 0, 0, []), (55, .irem, 0, 0, []),
  (56, .aload_n 0, 0, 0, []), (57, .getfield 21, 11, 7, [875]), (60, .iload 4, 0, 0, []), (62, .bipush 6, 0, 0, []),
  (64, .idiv, 0, 0, []), (65, .iaload, 0, 0, []), (66, .if_icmp .ge 32, 98, 0, []), (69, .aload_n 0, 0, 0, []),
  (70, .getfield 24, 11, 8, [876]), (73, .iload 4, 0, 0, []), (75, .iaload, 0, 0, []), (76, .iload_n 2, 0, 0, []),
  (77, .if_icmp .ne 21, 98, 0, []), (80, .aload_n 0, 0, 0, []), (81, .iconst 3, 0, 0, []), (82, .iload_n 1, 0, 0, []),
  (83, .iadd, 0, 0, []), (84, .iload 4, 0, 0, []), (86, .invokevirtual 238, 143, 2, [1158, 1160, 51, 69, 1161]), (89, .ifCond .eq 9, 98, 0, []),
  (92, .iload_n 3, 0, 0, []), (93, .iconst 1, 0, 0, []), (94, .iadd, 0, 0, []), (95, .goto 4, 99, 0, []),
  (98, .iload_n 3, 0, 0, []), (99, .istore_n 3, 0, 0, []), (100, .iinc 4 1, 0, 0, []), (103, .goto (-72), 31, 0, []),
  (106, .iload_n 3, 0, 0, []), (107, .ireturn, 0, 0, [])
  ]
/-- ChainDeskLaw.declare(LChainDesk;[J)I -/
def cd_r157 : List (Nat × Instr × Nat × Nat × List Nat) := [
  (0, .aload_n 1, 0, 0, []), (1, .iconst 0, 0, 0, []), (2, .aload_n 0, 0, 0, []), (3, .invokevirtual 7, 31, 0, [371, 372, 373, 60, 374]),
  (6, .i2l, 0, 0, []), (7, .lastore, 0, 0, []), (8, .goto 9, 17, 0, []), (11, .astore_n 2, 0, 0, []),
  (12, .iconst 1, 0, 0, []), (13, .ireturn, 0, 0, []), (14, .astore_n 2, 0, 0, []), (15, .iconst 2, 0, 0, []),
  (16, .ireturn, 0, 0, []), (17, .iconst 0, 0, 0, []), (18, .ireturn, 0, 0, [])
  ]
/-- ChainDeskLaw.variable(LChainDesk;[J)I -/
def cd_r158 : List (Nat × Instr × Nat × Nat × List Nat) := [
  (0, .aload_n 1, 0, 0, []), (1, .iconst 0, 0, 0, []), (2, .aload_n 0, 0, 0, []), (3, .invokevirtual 17, 62, 0, [676, 677, 678, 60, 679]),
  (6, .i2l, 0, 0, []), (7, .lastore, 0, 0, []), (8, .goto 9, 17, 0, []), (11, .astore_n 2, 0, 0, []),
  (12, .iconst 1, 0, 0, []), (13, .ireturn, 0, 0, []), (14, .astore_n 2, 0, 0, []), (15, .iconst 2, 0, 0, []),
  (16, .ireturn, 0, 0, []), (17, .iconst 0, 0, 0, []), (18, .ireturn, 0, 0, [])
  ]
/-- ChainDeskLaw.enter(LChainDesk;I)I -/
def cd_r159 : List (Nat × Instr × Nat × Nat × List Nat) := [
  (0, .aload_n 0, 0, 0, []), (1, .iload_n 1, 0, 0, []), (2, .invokevirtual 20, 67, 1, [703, 704, 705, 60, 706]), (5, .goto 6, 11, 0, []),
  (8, .astore_n 2, 0, 0, []), (9, .iconst 1, 0, 0, []), (10, .ireturn, 0, 0, []), (11, .iconst 0, 0, 0, []),
  (12, .ireturn, 0, 0, [])
  ]
/-- ChainDeskLaw.complete(LChainDesk;II[J)I -/
def cd_r160 : List (Nat × Instr × Nat × Nat × List Nat) := [
  (0, .aload_n 3, 0, 0, []), (1, .iconst 0, 0, 0, []), (2, .aload_n 0, 0, 0, []), (3, .iload_n 1, 0, 0, []),
  (4, .iload_n 2, 0, 0, []), (5, .invokevirtual 24, 68, 2, [710, 711, 712, 60, 713]), (8, .i2l, 0, 0, []), (9, .lastore, 0, 0, []),
  (10, .goto 7, 17, 0, []), (13, .astore 4, 0, 0, []), (15, .iconst 1, 0, 0, []), (16, .ireturn, 0, 0, []),
  (17, .iconst 0, 0, 0, []), (18, .ireturn, 0, 0, [])
  ]
/-- ChainDeskLaw.check(LChainDesk;[J)I -/
def cd_r161 : List (Nat × Instr × Nat × Nat × List Nat) := [
  (0, .aload_n 1, 0, 0, []), (1, .iconst 0, 0, 0, []), (2, .aload_n 0, 0, 0, []), (3, .invokevirtual 28, 87, 0, [806, 807, 808, 60, 809]),
  (6, .i2l, 0, 0, []), (7, .lastore, 0, 0, []), (8, .goto 6, 14, 0, []), (11, .astore_n 2, 0, 0, []),
  (12, .iconst 1, 0, 0, []), (13, .ireturn, 0, 0, []), (14, .iconst 0, 0, 0, []), (15, .ireturn, 0, 0, [])
  ]
def cd_rows : List (List (Nat × Instr × Nat × Nat × List Nat)) := [cd_r0, cd_r1, cd_r2, cd_r3, cd_r4, cd_r5, cd_r6, cd_r7, cd_r8, cd_r9, cd_r10, cd_r11, cd_r12, cd_r13, cd_r14, cd_r15, cd_r16, cd_r17, cd_r18, cd_r19, cd_r20, cd_r21, cd_r22, cd_r23, cd_r24, cd_r25, cd_r26, cd_r27, cd_r28, cd_r29, cd_r30, cd_r31, cd_r32, cd_r33, cd_r34, cd_r35, cd_r36, cd_r37, cd_r38, cd_r39, cd_r40, cd_r41, cd_r42, cd_r43, cd_r44, cd_r45, cd_r46, cd_r47, cd_r48, cd_r49, cd_r50, cd_r51, cd_r52, cd_r53, cd_r54, cd_r55, cd_r56, cd_r57, cd_r58, cd_r59, cd_r60, cd_r61, cd_r62, cd_r63, cd_r64, cd_r65, cd_r66, cd_r67, cd_r68, cd_r69, cd_r70, cd_r71, cd_r72, cd_r73, cd_r74, cd_r75, cd_r76, cd_r77, cd_r78, cd_r79, cd_r80, cd_r81, cd_r82, cd_r83, cd_r84, cd_r85, cd_r86, cd_r87, cd_r88, cd_r89, cd_r90, cd_r91, cd_r92, cd_r93, cd_r94, cd_r95, cd_r96, cd_r97, cd_r98, cd_r99, cd_r100, cd_r101, cd_r102, cd_r103, cd_r104, cd_r105, cd_r106, cd_r107, cd_r108, cd_r109, cd_r110, cd_r111, cd_r112, cd_r113, cd_r114, cd_r115, cd_r116, cd_r117, cd_r118, cd_r119, cd_r120, cd_r121, cd_r122, cd_r123, cd_r124, cd_r125, cd_r126, cd_r127, cd_r128, cd_r129, cd_r130, cd_r131, cd_r132, cd_r133, cd_r134, cd_r135, cd_r136, cd_r137, cd_r138, cd_r139, cd_r140, cd_r141, cd_r142, cd_r143, cd_r144, cd_r145, cd_r146, cd_r147, cd_r148, cd_r149, cd_r150, cd_r151, cd_r152, cd_r153, cd_r154, cd_r155, cd_r156, cd_r157, cd_r158, cd_r159, cd_r160, cd_r161]
def cd_I (y pc : Nat) : Option (Instr × Nat × Nat) := ((cd_rows.getD y []).find? (fun q => Nat.beq q.1 pc)).map (fun q => (q.2.1, q.2.2.1, q.2.2.2.1))
def cd_t : am_T := (cd_I, cd_ml, cd_rt, cd_ft, cd_df, cd_ns, cd_nm, cd_mc, cd_hs)
end
section
def am_decb (cc : ByteArray) (pc : Nat) (i : Instr) : Bool := match decode cc pc with
  | .ok (j, n) => decide (j = i) && (am_sw i || Nat.beq n (am_len i))
  | _ => false
theorem am_decb_ok {cc : ByteArray} {pc : Nat} {i : Instr} (h : am_decb cc pc i = true) : am_dec cc pc i := by
  unfold am_decb at h
  split at h
  · next j n e =>
    simp only [Bool.and_eq_true, decide_eq_true_eq, Bool.or_eq_true] at h
    obtain ⟨rfl, h⟩ := h
    cases hs : am_sw j with
    | true => exact Or.inl ⟨hs, n, e⟩
    | false =>
      rcases h with h | h
      · rw [hs] at h
        cases h
      · have := Nat.eq_of_beq_eq_true h
        subst this
        exact Or.inr ⟨hs, e⟩
  · cases h
/-- the word w stands at place p of the tables' words -/
def cd_at (p : Nat) (w : Cond) : Bool := decide (lw_tbl[p]? = some w)
def cd_w (p : Nat) (w : Cond) : Bool := cd_at p w && goodWord w
theorem cd_at_mem {p : Nat} {w : Cond} (h : cd_at p w = true) : w ∈ lw_tbl := List.mem_of_getElem? (of_decide_eq_true h)
/-- String constants: who loads it, its entry, its number, its text -/
def cd_sr : List (String × Nat × Nat × String) := [("ChainDesk$DeclarationReader", 44, 10, "private "), ("ChainDesk$DeclarationReader", 50, 11, "new("), ("ChainDesk$DeclarationReader", 88, 12, "static "), ("ChainDesk$Completer", 124, 13, "new "), ("ChainDesk$ExpressionReader", 48, 13, "new ")]
/-- statics that are read -/
def cd_st : List (Nat × String × String × String) := [(0, "ChainDesk$Kind", "FIELD", "LChainDesk$Kind;"), (1, "ChainDesk$Kind", "METHOD", "LChainDesk$Kind;"), (2, "ChainDesk$Kind", "MAKER", "LChainDesk$Kind;"), (3, "java/lang/String", "COMPACT_STRINGS", "Z"), (4, "jdk/internal/util/Preconditions", "SIOOBE_FORMATTER", "Ljava/util/function/BiFunction;")]
/-- classes of whose objects there are arrays -/
def cd_ao : List String := ["ChainDesk$Declaration", "ChainDesk$Shelf", "ChainDesk$Phrase", "ChainDesk$Member"]
/-- how a method is called (0: a static one, 1: on an object, 2: a constructor), and where its words stand: code, class, method, selects -/
def cd_mpL : List (Nat × Nat × Nat × Nat × Nat) := [(9, 0, 0, 0, 0), (2, 89, 60, 88, 0), (2, 97, 61, 96, 0), (2, 114, 62, 113, 0), (2, 134, 63, 133, 0), (2, 154, 64, 153, 0), (2, 167, 65, 166, 0), (2, 187, 66, 186, 0), (2, 196, 67, 195, 0), (2, 220, 68, 219, 0), (1, 280, 60, 278, 279), (1, 284, 61, 282, 283), (1, 288, 60, 286, 287), (1, 292, 60, 290, 291), (1, 296, 60, 294, 295), (0, 299, 60, 298, 0), (1, 303, 62, 301, 302), (1, 307, 60, 305, 306), (1, 311, 66, 309, 310), (1, 315, 60, 313, 314), (1, 319, 67, 317, 318), (1, 323, 60, 321, 322), (1, 327, 62, 325, 326), (1, 331, 60, 329, 330), (0, 334, 60, 333, 0), (1, 342, 62, 340, 341), (1, 347, 62, 345, 346), (1, 353, 62, 351, 352), (1, 357, 70, 355, 356), (1, 361, 75, 359, 360), (1, 365, 62, 363, 364), (1, 374, 60, 372, 373), (1, 378, 64, 376, 377), (1, 382, 61, 380, 381), (1, 387, 61, 385, 386), (1, 391, 61, 389, 390), (2, 397, 70, 396, 0), (1, 426, 64, 424, 425), (1, 430, 64, 429, 0), (1, 435, 61, 433, 434), (1, 439, 71, 437, 438), (1, 443, 71, 441, 442), (1, 449, 71, 447, 448), (1, 453, 71, 451, 452), (0, 456, 72, 455, 0), (0, 459, 71, 458, 0), (0, 464, 73, 463, 0), (1, 488, 64, 487, 1), (2, 494, 75, 493, 0), (1, 541, 64, 540, 2), (1, 545, 61, 543, 544), (1, 550, 61, 549, 3), (1, 554, 75, 552, 553), (1, 558, 64, 557, 4), (1, 563, 61, 561, 562), (1, 569, 70, 567, 568), (1, 575, 70, 574, 5), (1, 579, 75, 577, 578), (1, 583, 70, 581, 582), (1, 587, 61, 585, 586), (1, 591, 61, 589, 590), (1, 657, 62, 655, 656), (1, 679, 60, 677, 678), (1, 683, 63, 681, 682), (1, 687, 60, 686, 7), (1, 694, 63, 692, 693), (1, 699, 63, 697, 698), (1, 706, 60, 704, 705), (1, 713, 60, 711, 712), (1, 717, 66, 715, 716), (1, 721, 66, 720, 8), (1, 725, 67, 723, 724), (1, 729, 67, 727, 728), (1, 733, 68, 731, 732), (1, 737, 68, 735, 736), (1, 741, 67, 739, 740), (1, 745, 67, 743, 744), (1, 749, 67, 747, 748), (1, 756, 66, 754, 755), (1, 760, 66, 759, 9), (1, 768, 67, 766, 767), (1, 774, 67, 772, 773), (1, 779, 66, 778, 10), (1, 784, 66, 783, 11), (1, 790, 67, 788, 789), (1, 797, 66, 796, 12), (1, 802, 66, 800, 801), (1, 809, 60, 807, 808), (1, 813, 65, 811, 812), (1, 817, 65, 816, 13), (1, 821, 65, 820, 14), (1, 828, 62, 826, 827), (1, 832, 62, 831, 15), (1, 836, 65, 835, 16), (1, 841, 65, 840, 17), (1, 849, 65, 848, 18), (1, 855, 62, 853, 854), (1, 859, 65, 858, 19), (2, 866, 69, 865, 0), (1, 990, 69, 988, 989), (1, 994, 69, 992, 993), (0, 997, 69, 996, 0), (1, 1001, 69, 999, 1000), (1, 1005, 69, 1004, 20), (1, 1009, 69, 1008, 21), (1, 1013, 69, 1012, 22), (0, 1016, 69, 1015, 0), (1, 1020, 69, 1019, 23), (1, 1024, 69, 1023, 24), (1, 1028, 69, 1027, 25), (1, 1032, 69, 1031, 26), (1, 1036, 69, 1035, 27), (1, 1040, 69, 1039, 28), (1, 1044, 69, 1043, 29), (1, 1048, 69, 1047, 30), (0, 1051, 69, 1050, 0), (0, 1054, 69, 1053, 0), (1, 1058, 69, 1057, 31), (0, 1061, 69, 1060, 0), (1, 1065, 69, 1064, 32), (1, 1069, 69, 1068, 33), (1, 1073, 69, 1072, 34), (1, 1077, 69, 1076, 35), (1, 1081, 69, 1079, 1080), (1, 1085, 69, 1084, 36), (1, 1089, 69, 1087, 1088), (1, 1093, 69, 1091, 1092), (1, 1097, 69, 1095, 1096), (1, 1101, 69, 1100, 37), (1, 1105, 69, 1104, 38), (1, 1109, 69, 1107, 1108), (1, 1113, 69, 1112, 39), (1, 1117, 69, 1116, 40), (1, 1121, 69, 1120, 41), (1, 1125, 69, 1124, 42), (1, 1129, 69, 1128, 43), (1, 1133, 69, 1132, 44), (1, 1137, 69, 1136, 45), (1, 1141, 69, 1140, 46), (1, 1145, 69, 1144, 47), (1, 1149, 69, 1148, 48), (1, 1153, 69, 1152, 49), (1, 1157, 69, 1156, 50), (1, 1161, 69, 1160, 51), (1, 1165, 69, 1164, 52), (1, 1169, 69, 1168, 53), (1, 1173, 69, 1171, 1172), (1, 1177, 69, 1176, 54), (1, 1181, 69, 1180, 55), (1, 1185, 69, 1184, 56), (1, 1189, 69, 1188, 57), (1, 1193, 69, 1192, 58), (1, 1197, 69, 1195, 1196), (1, 1201, 69, 1199, 1200), (1, 1205, 69, 1203, 1204), (1, 1209, 69, 1207, 1208), (1, 1213, 69, 1211, 1212), (0, 368, 59, 367, 0), (0, 675, 59, 674, 0), (0, 702, 59, 701, 0), (0, 709, 59, 708, 0), (0, 805, 59, 804, 0)]
def cd_mp (u : Nat) : Nat × Nat × Nat × Nat × Nat := cd_mpL.getD u (9, 0, 0, 0, 0)
def cd_mchk (u : Nat) : Bool :=
  cd_w (cd_mp u).2.1 (am_hc cd_t cd_yn cd_bt cd_rtt u) && (cd_w (cd_mp u).2.2.1 (.initialized (cd_yn u).cls) && (Nat.ble (cd_ml u) 45 && (decide ((cd_yn u).cls ≠ "java/lang/invoke/MethodHandle") && (decide ((cd_yn u).cls ≠ "java/lang/invoke/VarHandle") &&
  (match (cd_mp u).1 with
    | 0 => cd_w (cd_mp u).2.2.2.1 (.static (cd_yn u))
    | 1 => cd_w (cd_mp u).2.2.2.1 (.instanceMethod (cd_yn u)) && (cd_w (cd_mp u).2.2.2.2 (.selects (cd_yn u).cls (cd_yn u) (cd_yn u)) && decide (cd_nm (cd_mc u) = (cd_yn u).cls))
    | 2 => cd_w (cd_mp u).2.2.2.1 (.instanceMethod (cd_yn u)) && (decide ((cd_yn u).name = "<init>") && (cd_rtt u).isNone)
    | _ => false)))))
def cd_link (p : Nat) (own : String) (idx u v : Nat) : Bool := (cd_w p (.methodLink own idx (cd_yn u)) || cd_at p (.methodLinkNest own idx (cd_yn u) "ChainDesk")) && decide ((parseMethodDescriptor (cd_yn u).desc).map (fun d => d.parameters.length) = some v)
/-- who throws, its entry of the constructor, the class -/
def cd_tl : List (String × Nat × String) := [("ChainDesk", 82, "java/lang/IllegalArgumentException"), ("ChainDesk", 88, "java/lang/IllegalStateException")]
/-- what must hold of a row -/
def cd_chk (y : Nat) (q : Nat × Instr × Nat × Nat × List Nat) : Bool := am_decb (cd_bt y) q.1 q.2.1 && (match q.2.1 with
  | .ldc idx => decide (((cd_yn y).cls, idx, q.2.2.1) ∈ cd_sr.map (fun z => (z.1, z.2.1, z.2.2.1)))
  | .getstatic idx => match cd_st.find? (fun z => Nat.beq z.1 q.2.2.1) with
    | some z => cd_w (q.2.2.2.2.getD 0 0) (.fieldLink (cd_yn y).cls idx z.2.1 z.2.2.1 z.2.2.2)
    | none => false
  | .goto off => decide ((q.1 : Int) + off = (q.2.2.1 : Int))
  | .ifCond _ off => decide ((q.1 : Int) + off = (q.2.2.1 : Int))
  | .if_icmp _ off => decide ((q.1 : Int) + off = (q.2.2.1 : Int))
  | .if_acmp _ off => decide ((q.1 : Int) + off = (q.2.2.1 : Int))
  | .ifnull off => decide ((q.1 : Int) + off = (q.2.2.1 : Int))
  | .ifnonnull off => decide ((q.1 : Int) + off = (q.2.2.1 : Int))
  | .getfield idx => bif Nat.beq q.2.2.1 50 then (bif Nat.beq q.2.2.2.1 0 then cd_w (q.2.2.2.2.getD 0 0) (.fieldLink (cd_yn y).cls idx "java/lang/String" "value" "[B") else cd_w (q.2.2.2.2.getD 0 0) (.fieldLink (cd_yn y).cls idx "java/lang/String" "coder" "B")) else match cd_cl[q.2.2.1]? with
    | some r => Nat.blt q.2.2.2.1 r.2.2 && (cd_w (q.2.2.2.2.getD 0 0) (.fieldLink (cd_yn y).cls idx r.1 (r.2.1 q.2.2.2.1).2.1 (r.2.1 q.2.2.2.1).2.2.1) || cd_at (q.2.2.2.2.getD 0 0) (.fieldLinkNest (cd_yn y).cls idx r.1 (r.2.1 q.2.2.2.1).2.1 (r.2.1 q.2.2.2.1).2.2.1 "ChainDesk"))
    | none => false
  | .putfield idx => match cd_cl[q.2.2.1]? with
    | some r => Nat.blt q.2.2.2.1 r.2.2 && ((cd_w (q.2.2.2.2.getD 0 0) (.fieldLink (cd_yn y).cls idx r.1 (r.2.1 q.2.2.2.1).2.1 (r.2.1 q.2.2.2.1).2.2.1) && (!(r.2.1 q.2.2.2.1).2.2.2 || (decide ((cd_yn y).name = "<init>") && decide ((cd_yn y).cls = r.1)))) || (!(r.2.1 q.2.2.2.1).2.2.2 && cd_at (q.2.2.2.2.getD 0 0) (.fieldLinkNest (cd_yn y).cls idx r.1 (r.2.1 q.2.2.2.1).2.1 (r.2.1 q.2.2.2.1).2.2.1 "ChainDesk")))
    | none => false
  | .new idx => match cd_cl[q.2.2.1]? with
    | some r => cd_w (q.2.2.2.2.getD 0 0) (.classLink (cd_yn y).cls idx r.1) && (cd_w (q.2.2.2.2.getD 1 0) (.instantiable r.1 (cd_ns q.2.2.1)) && (cd_w (q.2.2.2.2.getD 2 0) (.initialized r.1) &&
      (bif Nat.ble 12 q.2.2.1 then (cd_hs y).isEmpty && (Nat.beq (cd_ns q.2.2.1) 6 && (Nat.beq r.2.2 0 && (am_decb (cd_bt y) (q.1 + 3) .dup && (am_decb (cd_bt y) (q.1 + 4) (.invokespecial q.2.2.2.1) && (am_decb (cd_bt y) (q.1 + 7) .athrow && decide (((cd_yn y).cls, q.2.2.2.1, r.1) ∈ cd_tl)))))) else true)))
    | none => false
  | .newarray at_ => cd_w (q.2.2.2.2.getD 0 0) (.arrayClass (newarray.typeOf at_))
  | .anewarray idx => cd_w (q.2.2.2.2.getD 0 0) (.classLink (cd_yn y).cls idx (cd_nm q.2.2.1)) && decide (cd_nm q.2.2.1 ∈ cd_ao)
  | .invokespecial idx => bif Nat.beq q.2.2.1 1000 then cd_w (q.2.2.2.2.getD 0 0) (.methodLink (cd_yn y).cls idx objectInit) && (cd_w (q.2.2.2.2.getD 1 0) (.instanceMethod objectInit) && cd_w (q.2.2.2.2.getD 2 0) (.code objectInit ⟨#[0xb1]⟩ 1 none))
    else Nat.ble 1 q.2.2.1 && (Nat.blt q.2.2.1 1000 && (Nat.beq (cd_mp q.2.2.1).1 2 && (cd_link (q.2.2.2.2.getD 0 0) (cd_yn y).cls idx q.2.2.1 q.2.2.2.1 && ((cd_hs q.2.2.1).isEmpty && (cd_hs y).isEmpty))))
  | .invokestatic idx => bif Nat.blt 1000 q.2.2.1 then (bif Nat.beq q.2.2.1 1003 then Nat.beq q.2.2.2.1 2 && (cd_w (q.2.2.2.2.getD 0 0) (.methodLink (cd_yn y).cls idx Lib.Math.min.name) && (cd_w (q.2.2.2.2.getD 1 0) (.static Lib.Math.min.name) && (cd_w (q.2.2.2.2.getD 2 0) (.initialized "java/lang/Math") && cd_w (q.2.2.2.2.getD 3 0) (.code Lib.Math.min.name Lib.Math.min.code 2 (some .int)))))
      else Nat.beq q.2.2.1 1004 && (Nat.beq q.2.2.2.1 5 && (cd_w (q.2.2.2.2.getD 0 0) (.methodLink (cd_yn y).cls idx arraycopyName) && (cd_w (q.2.2.2.2.getD 1 0) (.native arraycopyName) && (cd_w (q.2.2.2.2.getD 2 0) (.static arraycopyName) && cd_w (q.2.2.2.2.getD 3 0) (.initialized "java/lang/System"))))))
    else Nat.ble 1 q.2.2.1 && (Nat.blt q.2.2.1 1000 && (Nat.beq (cd_mp q.2.2.1).1 0 && (cd_link (q.2.2.2.2.getD 0 0) (cd_yn y).cls idx q.2.2.1 q.2.2.2.1 && ((cd_hs y).isEmpty && ((cd_hs q.2.2.1).isEmpty || cd_w (q.2.2.2.2.getD 0 0) (.methodLink (cd_yn y).cls idx (cd_yn q.2.2.1)))))))
  | .invokevirtual idx => Nat.ble 1 q.2.2.1 && (Nat.blt q.2.2.1 1000 && (Nat.beq (cd_mp q.2.2.1).1 1 && (cd_link (q.2.2.2.2.getD 0 0) (cd_yn y).cls idx q.2.2.1 q.2.2.2.1 && ((cd_hs q.2.2.1).isEmpty && ((cd_hs y).isEmpty || cd_w (q.2.2.2.2.getD 0 0) (.methodLink (cd_yn y).cls idx (cd_yn q.2.2.1)))))))
  | .ireturn => (cd_rtt y).isSome
  | .areturn => (cd_rtt y).isSome
  | .return_ => (cd_rtt y).isNone
  | _ => true)
end
section
set_option maxRecDepth 100000 in
theorem cd_k0 : cd_r0.all (cd_chk 0) = true := by decide +kernel
set_option maxRecDepth 100000 in
theorem cd_k1 : cd_r1.all (cd_chk 1) = true := by decide +kernel
set_option maxRecDepth 100000 in
theorem cd_k2 : cd_r2.all (cd_chk 2) = true := by decide +kernel
set_option maxRecDepth 100000 in
theorem cd_k3 : cd_r3.all (cd_chk 3) = true := by decide +kernel
set_option maxRecDepth 100000 in
theorem cd_k4 : cd_r4.all (cd_chk 4) = true := by decide +kernel
set_option maxRecDepth 100000 in
theorem cd_k5 : cd_r5.all (cd_chk 5) = true := by decide +kernel
set_option maxRecDepth 100000 in
theorem cd_k6 : cd_r6.all (cd_chk 6) = true := by decide +kernel
set_option maxRecDepth 100000 in
theorem cd_k7 : cd_r7.all (cd_chk 7) = true := by decide +kernel
set_option maxRecDepth 100000 in
theorem cd_k8 : cd_r8.all (cd_chk 8) = true := by decide +kernel
set_option maxRecDepth 100000 in
theorem cd_k9 : cd_r9.all (cd_chk 9) = true := by decide +kernel
set_option maxRecDepth 100000 in
theorem cd_k10 : cd_r10.all (cd_chk 10) = true := by decide +kernel
set_option maxRecDepth 100000 in
theorem cd_k11 : cd_r11.all (cd_chk 11) = true := by decide +kernel
set_option maxRecDepth 100000 in
theorem cd_k12 : cd_r12.all (cd_chk 12) = true := by decide +kernel
set_option maxRecDepth 100000 in
theorem cd_k13 : cd_r13.all (cd_chk 13) = true := by decide +kernel
set_option maxRecDepth 100000 in
theorem cd_k14 : cd_r14.all (cd_chk 14) = true := by decide +kernel
set_option maxRecDepth 100000 in
theorem cd_k15 : cd_r15.all (cd_chk 15) = true := by decide +kernel
set_option maxRecDepth 100000 in
theorem cd_k16 : cd_r16.all (cd_chk 16) = true := by decide +kernel
set_option maxRecDepth 100000 in
theorem cd_k17 : cd_r17.all (cd_chk 17) = true := by decide +kernel
end
section
set_option maxRecDepth 100000 in
theorem cd_k18 : cd_r18.all (cd_chk 18) = true := by decide +kernel
set_option maxRecDepth 100000 in
theorem cd_k19 : cd_r19.all (cd_chk 19) = true := by decide +kernel
set_option maxRecDepth 100000 in
theorem cd_k20 : cd_r20.all (cd_chk 20) = true := by decide +kernel
set_option maxRecDepth 100000 in
theorem cd_k21 : cd_r21.all (cd_chk 21) = true := by decide +kernel
set_option maxRecDepth 100000 in
theorem cd_k22 : cd_r22.all (cd_chk 22) = true := by decide +kernel
set_option maxRecDepth 100000 in
theorem cd_k23 : cd_r23.all (cd_chk 23) = true := by decide +kernel
set_option maxRecDepth 100000 in
theorem cd_k24 : cd_r24.all (cd_chk 24) = true := by decide +kernel
set_option maxRecDepth 100000 in
theorem cd_k25 : cd_r25.all (cd_chk 25) = true := by decide +kernel
set_option maxRecDepth 100000 in
theorem cd_k26 : cd_r26.all (cd_chk 26) = true := by decide +kernel
set_option maxRecDepth 100000 in
theorem cd_k27 : cd_r27.all (cd_chk 27) = true := by decide +kernel
set_option maxRecDepth 100000 in
theorem cd_k28 : cd_r28.all (cd_chk 28) = true := by decide +kernel
set_option maxRecDepth 100000 in
theorem cd_k29 : cd_r29.all (cd_chk 29) = true := by decide +kernel
set_option maxRecDepth 100000 in
theorem cd_k30 : cd_r30.all (cd_chk 30) = true := by decide +kernel
set_option maxRecDepth 100000 in
theorem cd_k31 : cd_r31.all (cd_chk 31) = true := by decide +kernel
set_option maxRecDepth 100000 in
theorem cd_k32 : cd_r32.all (cd_chk 32) = true := by decide +kernel
set_option maxRecDepth 100000 in
theorem cd_k33 : cd_r33.all (cd_chk 33) = true := by decide +kernel
set_option maxRecDepth 100000 in
theorem cd_k34 : cd_r34.all (cd_chk 34) = true := by decide +kernel
set_option maxRecDepth 100000 in
theorem cd_k35 : cd_r35.all (cd_chk 35) = true := by decide +kernel
set_option maxRecDepth 100000 in
theorem cd_k36 : cd_r36.all (cd_chk 36) = true := by decide +kernel
set_option maxRecDepth 100000 in
theorem cd_k37 : cd_r37.all (cd_chk 37) = true := by decide +kernel
set_option maxRecDepth 100000 in
theorem cd_k38 : cd_r38.all (cd_chk 38) = true := by decide +kernel
set_option maxRecDepth 100000 in
theorem cd_k39 : cd_r39.all (cd_chk 39) = true := by decide +kernel
set_option maxRecDepth 100000 in
theorem cd_k40 : cd_r40.all (cd_chk 40) = true := by decide +kernel
set_option maxRecDepth 100000 in
theorem cd_k41 : cd_r41.all (cd_chk 41) = true := by decide +kernel
set_option maxRecDepth 100000 in
theorem cd_k42 : cd_r42.all (cd_chk 42) = true := by decide +kernel
set_option maxRecDepth 100000 in
theorem cd_k43 : cd_r43.all (cd_chk 43) = true := by decide +kernel
set_option maxRecDepth 100000 in
theorem cd_k44 : cd_r44.all (cd_chk 44) = true := by decide +kernel
set_option maxRecDepth 100000 in
theorem cd_k45 : cd_r45.all (cd_chk 45) = true := by decide +kernel
set_option maxRecDepth 100000 in
theorem cd_k46 : cd_r46.all (cd_chk 46) = true := by decide +kernel
set_option maxRecDepth 100000 in
theorem cd_k47 : cd_r47.all (cd_chk 47) = true := by decide +kernel
set_option maxRecDepth 100000 in
theorem cd_k48 : cd_r48.all (cd_chk 48) = true := by decide +kernel
set_option maxRecDepth 100000 in
theorem cd_k49 : cd_r49.all (cd_chk 49) = true := by decide +kernel
set_option maxRecDepth 100000 in
theorem cd_k50 : cd_r50.all (cd_chk 50) = true := by decide +kernel
set_option maxRecDepth 100000 in
theorem cd_k51 : cd_r51.all (cd_chk 51) = true := by decide +kernel
end
section
set_option maxRecDepth 100000 in
theorem cd_k52 : cd_r52.all (cd_chk 52) = true := by decide +kernel
set_option maxRecDepth 100000 in
theorem cd_k53 : cd_r53.all (cd_chk 53) = true := by decide +kernel
set_option maxRecDepth 100000 in
theorem cd_k54 : cd_r54.all (cd_chk 54) = true := by decide +kernel
set_option maxRecDepth 100000 in
theorem cd_k55 : cd_r55.all (cd_chk 55) = true := by decide +kernel
set_option maxRecDepth 100000 in
theorem cd_k56 : cd_r56.all (cd_chk 56) = true := by decide +kernel
set_option maxRecDepth 100000 in
theorem cd_k57 : cd_r57.all (cd_chk 57) = true := by decide +kernel
set_option maxRecDepth 100000 in
theorem cd_k58 : cd_r58.all (cd_chk 58) = true := by decide +kernel
set_option maxRecDepth 100000 in
theorem cd_k59 : cd_r59.all (cd_chk 59) = true := by decide +kernel
set_option maxRecDepth 100000 in
theorem cd_k60 : cd_r60.all (cd_chk 60) = true := by decide +kernel
set_option maxRecDepth 100000 in
theorem cd_k61 : cd_r61.all (cd_chk 61) = true := by decide +kernel
set_option maxRecDepth 100000 in
theorem cd_k62 : cd_r62.all (cd_chk 62) = true := by decide +kernel
set_option maxRecDepth 100000 in
theorem cd_k63 : cd_r63.all (cd_chk 63) = true := by decide +kernel
set_option maxRecDepth 100000 in
theorem cd_k64 : cd_r64.all (cd_chk 64) = true := by decide +kernel
set_option maxRecDepth 100000 in
theorem cd_k65 : cd_r65.all (cd_chk 65) = true := by decide +kernel
set_option maxRecDepth 100000 in
theorem cd_k66 : cd_r66.all (cd_chk 66) = true := by decide +kernel
set_option maxRecDepth 100000 in
theorem cd_k67 : cd_r67.all (cd_chk 67) = true := by decide +kernel
set_option maxRecDepth 100000 in
theorem cd_k68 : cd_r68.all (cd_chk 68) = true := by decide +kernel
set_option maxRecDepth 100000 in
theorem cd_k69 : cd_r69.all (cd_chk 69) = true := by decide +kernel
set_option maxRecDepth 100000 in
theorem cd_k70 : cd_r70.all (cd_chk 70) = true := by decide +kernel
set_option maxRecDepth 100000 in
theorem cd_k71 : cd_r71.all (cd_chk 71) = true := by decide +kernel
set_option maxRecDepth 100000 in
theorem cd_k72 : cd_r72.all (cd_chk 72) = true := by decide +kernel
set_option maxRecDepth 100000 in
theorem cd_k73 : cd_r73.all (cd_chk 73) = true := by decide +kernel
set_option maxRecDepth 100000 in
theorem cd_k74 : cd_r74.all (cd_chk 74) = true := by decide +kernel
set_option maxRecDepth 100000 in
theorem cd_k75 : cd_r75.all (cd_chk 75) = true := by decide +kernel
set_option maxRecDepth 100000 in
theorem cd_k76 : cd_r76.all (cd_chk 76) = true := by decide +kernel
set_option maxRecDepth 100000 in
theorem cd_k77 : cd_r77.all (cd_chk 77) = true := by decide +kernel
end
section
set_option maxRecDepth 100000 in
theorem cd_k78 : cd_r78.all (cd_chk 78) = true := by decide +kernel
set_option maxRecDepth 100000 in
theorem cd_k79 : cd_r79.all (cd_chk 79) = true := by decide +kernel
set_option maxRecDepth 100000 in
theorem cd_k80 : cd_r80.all (cd_chk 80) = true := by decide +kernel
set_option maxRecDepth 100000 in
theorem cd_k81 : cd_r81.all (cd_chk 81) = true := by decide +kernel
set_option maxRecDepth 100000 in
theorem cd_k82 : cd_r82.all (cd_chk 82) = true := by decide +kernel
set_option maxRecDepth 100000 in
theorem cd_k83 : cd_r83.all (cd_chk 83) = true := by decide +kernel
set_option maxRecDepth 100000 in
theorem cd_k84 : cd_r84.all (cd_chk 84) = true := by decide +kernel
set_option maxRecDepth 100000 in
theorem cd_k85 : cd_r85.all (cd_chk 85) = true := by decide +kernel
set_option maxRecDepth 100000 in
theorem cd_k86 : cd_r86.all (cd_chk 86) = true := by decide +kernel
set_option maxRecDepth 100000 in
theorem cd_k87 : cd_r87.all (cd_chk 87) = true := by decide +kernel
set_option maxRecDepth 100000 in
theorem cd_k88 : cd_r88.all (cd_chk 88) = true := by decide +kernel
set_option maxRecDepth 100000 in
theorem cd_k89 : cd_r89.all (cd_chk 89) = true := by decide +kernel
set_option maxRecDepth 100000 in
theorem cd_k90 : cd_r90.all (cd_chk 90) = true := by decide +kernel
set_option maxRecDepth 100000 in
theorem cd_k91 : cd_r91.all (cd_chk 91) = true := by decide +kernel
set_option maxRecDepth 100000 in
theorem cd_k92 : cd_r92.all (cd_chk 92) = true := by decide +kernel
set_option maxRecDepth 100000 in
theorem cd_k93 : cd_r93.all (cd_chk 93) = true := by decide +kernel
set_option maxRecDepth 100000 in
theorem cd_k94 : cd_r94.all (cd_chk 94) = true := by decide +kernel
end
section
set_option maxRecDepth 100000 in
theorem cd_k95 : cd_r95.all (cd_chk 95) = true := by decide +kernel
set_option maxRecDepth 100000 in
theorem cd_k96 : cd_r96.all (cd_chk 96) = true := by decide +kernel
set_option maxRecDepth 100000 in
theorem cd_k97 : cd_r97.all (cd_chk 97) = true := by decide +kernel
set_option maxRecDepth 100000 in
theorem cd_k98 : cd_r98.all (cd_chk 98) = true := by decide +kernel
set_option maxRecDepth 100000 in
theorem cd_k99 : cd_r99.all (cd_chk 99) = true := by decide +kernel
set_option maxRecDepth 100000 in
theorem cd_k100 : cd_r100.all (cd_chk 100) = true := by decide +kernel
set_option maxRecDepth 100000 in
theorem cd_k101 : cd_r101.all (cd_chk 101) = true := by decide +kernel
set_option maxRecDepth 100000 in
theorem cd_k102 : cd_r102.all (cd_chk 102) = true := by decide +kernel
set_option maxRecDepth 100000 in
theorem cd_k103 : cd_r103.all (cd_chk 103) = true := by decide +kernel
set_option maxRecDepth 100000 in
theorem cd_k104 : cd_r104.all (cd_chk 104) = true := by decide +kernel
set_option maxRecDepth 100000 in
theorem cd_k105 : cd_r105.all (cd_chk 105) = true := by decide +kernel
set_option maxRecDepth 100000 in
theorem cd_k106 : cd_r106.all (cd_chk 106) = true := by decide +kernel
set_option maxRecDepth 100000 in
theorem cd_k107 : cd_r107.all (cd_chk 107) = true := by decide +kernel
set_option maxRecDepth 100000 in
theorem cd_k108 : cd_r108.all (cd_chk 108) = true := by decide +kernel
set_option maxRecDepth 100000 in
theorem cd_k109 : cd_r109.all (cd_chk 109) = true := by decide +kernel
set_option maxRecDepth 100000 in
theorem cd_k110 : cd_r110.all (cd_chk 110) = true := by decide +kernel
set_option maxRecDepth 100000 in
theorem cd_k111 : cd_r111.all (cd_chk 111) = true := by decide +kernel
end
section
set_option maxRecDepth 100000 in
theorem cd_k112 : cd_r112.all (cd_chk 112) = true := by decide +kernel
set_option maxRecDepth 100000 in
theorem cd_k113 : cd_r113.all (cd_chk 113) = true := by decide +kernel
set_option maxRecDepth 100000 in
theorem cd_k114 : cd_r114.all (cd_chk 114) = true := by decide +kernel
set_option maxRecDepth 100000 in
theorem cd_k115 : cd_r115.all (cd_chk 115) = true := by decide +kernel
set_option maxRecDepth 100000 in
theorem cd_k116 : cd_r116.all (cd_chk 116) = true := by decide +kernel
set_option maxRecDepth 100000 in
theorem cd_k117 : cd_r117.all (cd_chk 117) = true := by decide +kernel
set_option maxRecDepth 100000 in
theorem cd_k118 : cd_r118.all (cd_chk 118) = true := by decide +kernel
set_option maxRecDepth 100000 in
theorem cd_k119 : cd_r119.all (cd_chk 119) = true := by decide +kernel
set_option maxRecDepth 100000 in
theorem cd_k120 : cd_r120.all (cd_chk 120) = true := by decide +kernel
set_option maxRecDepth 100000 in
theorem cd_k121 : cd_r121.all (cd_chk 121) = true := by decide +kernel
set_option maxRecDepth 100000 in
theorem cd_k122 : cd_r122.all (cd_chk 122) = true := by decide +kernel
set_option maxRecDepth 100000 in
theorem cd_k123 : cd_r123.all (cd_chk 123) = true := by decide +kernel
set_option maxRecDepth 100000 in
theorem cd_k124 : cd_r124.all (cd_chk 124) = true := by decide +kernel
set_option maxRecDepth 100000 in
theorem cd_k125 : cd_r125.all (cd_chk 125) = true := by decide +kernel
set_option maxRecDepth 100000 in
theorem cd_k126 : cd_r126.all (cd_chk 126) = true := by decide +kernel
set_option maxRecDepth 100000 in
theorem cd_k127 : cd_r127.all (cd_chk 127) = true := by decide +kernel
set_option maxRecDepth 100000 in
theorem cd_k128 : cd_r128.all (cd_chk 128) = true := by decide +kernel
end
section
set_option maxRecDepth 100000 in
theorem cd_k129 : cd_r129.all (cd_chk 129) = true := by decide +kernel
set_option maxRecDepth 100000 in
theorem cd_k130 : cd_r130.all (cd_chk 130) = true := by decide +kernel
set_option maxRecDepth 100000 in
theorem cd_k131 : cd_r131.all (cd_chk 131) = true := by decide +kernel
set_option maxRecDepth 100000 in
theorem cd_k132 : cd_r132.all (cd_chk 132) = true := by decide +kernel
set_option maxRecDepth 100000 in
theorem cd_k133 : cd_r133.all (cd_chk 133) = true := by decide +kernel
set_option maxRecDepth 100000 in
theorem cd_k134 : cd_r134.all (cd_chk 134) = true := by decide +kernel
set_option maxRecDepth 100000 in
theorem cd_k135 : cd_r135.all (cd_chk 135) = true := by decide +kernel
set_option maxRecDepth 100000 in
theorem cd_k136 : cd_r136.all (cd_chk 136) = true := by decide +kernel
set_option maxRecDepth 100000 in
theorem cd_k137 : cd_r137.all (cd_chk 137) = true := by decide +kernel
set_option maxRecDepth 100000 in
theorem cd_k138 : cd_r138.all (cd_chk 138) = true := by decide +kernel
set_option maxRecDepth 100000 in
theorem cd_k139 : cd_r139.all (cd_chk 139) = true := by decide +kernel
set_option maxRecDepth 100000 in
theorem cd_k140 : cd_r140.all (cd_chk 140) = true := by decide +kernel
set_option maxRecDepth 100000 in
theorem cd_k141 : cd_r141.all (cd_chk 141) = true := by decide +kernel
end
section
set_option maxRecDepth 100000 in
theorem cd_k142 : cd_r142.all (cd_chk 142) = true := by decide +kernel
set_option maxRecDepth 100000 in
theorem cd_k143 : cd_r143.all (cd_chk 143) = true := by decide +kernel
set_option maxRecDepth 100000 in
theorem cd_k144 : cd_r144.all (cd_chk 144) = true := by decide +kernel
set_option maxRecDepth 100000 in
theorem cd_k145 : cd_r145.all (cd_chk 145) = true := by decide +kernel
set_option maxRecDepth 100000 in
theorem cd_k146 : cd_r146.all (cd_chk 146) = true := by decide +kernel
set_option maxRecDepth 100000 in
theorem cd_k147 : cd_r147.all (cd_chk 147) = true := by decide +kernel
set_option maxRecDepth 100000 in
theorem cd_k148 : cd_r148.all (cd_chk 148) = true := by decide +kernel
set_option maxRecDepth 100000 in
theorem cd_k149 : cd_r149.all (cd_chk 149) = true := by decide +kernel
set_option maxRecDepth 100000 in
theorem cd_k150 : cd_r150.all (cd_chk 150) = true := by decide +kernel
set_option maxRecDepth 100000 in
theorem cd_k151 : cd_r151.all (cd_chk 151) = true := by decide +kernel
set_option maxRecDepth 100000 in
theorem cd_k152 : cd_r152.all (cd_chk 152) = true := by decide +kernel
set_option maxRecDepth 100000 in
theorem cd_k153 : cd_r153.all (cd_chk 153) = true := by decide +kernel
set_option maxRecDepth 100000 in
theorem cd_k154 : cd_r154.all (cd_chk 154) = true := by decide +kernel
end
section
set_option maxRecDepth 100000 in
theorem cd_k155 : cd_r155.all (cd_chk 155) = true := by decide +kernel
set_option maxRecDepth 100000 in
theorem cd_k156 : cd_r156.all (cd_chk 156) = true := by decide +kernel
set_option maxRecDepth 100000 in
theorem cd_k157 : cd_r157.all (cd_chk 157) = true := by decide +kernel
set_option maxRecDepth 100000 in
theorem cd_k158 : cd_r158.all (cd_chk 158) = true := by decide +kernel
set_option maxRecDepth 100000 in
theorem cd_k159 : cd_r159.all (cd_chk 159) = true := by decide +kernel
set_option maxRecDepth 100000 in
theorem cd_k160 : cd_r160.all (cd_chk 160) = true := by decide +kernel
set_option maxRecDepth 100000 in
theorem cd_k161 : cd_r161.all (cd_chk 161) = true := by decide +kernel
end
section
set_option maxRecDepth 100000 in
theorem cd_m1 : (List.range 20).all (fun k => cd_mchk (k + 1)) = true := by decide +kernel
set_option maxRecDepth 100000 in
theorem cd_m21 : (List.range 20).all (fun k => cd_mchk (k + 21)) = true := by decide +kernel
set_option maxRecDepth 100000 in
theorem cd_m41 : (List.range 20).all (fun k => cd_mchk (k + 41)) = true := by decide +kernel
set_option maxRecDepth 100000 in
theorem cd_m61 : (List.range 20).all (fun k => cd_mchk (k + 61)) = true := by decide +kernel
set_option maxRecDepth 100000 in
theorem cd_m81 : (List.range 20).all (fun k => cd_mchk (k + 81)) = true := by decide +kernel
set_option maxRecDepth 100000 in
theorem cd_m101 : (List.range 20).all (fun k => cd_mchk (k + 101)) = true := by decide +kernel
set_option maxRecDepth 100000 in
theorem cd_m121 : (List.range 20).all (fun k => cd_mchk (k + 121)) = true := by decide +kernel
set_option maxRecDepth 100000 in
theorem cd_m141 : (List.range 20).all (fun k => cd_mchk (k + 141)) = true := by decide +kernel
set_option maxRecDepth 100000 in
theorem cd_m161 : (List.range 1).all (fun k => cd_mchk (k + 161)) = true := by decide +kernel
theorem cd_m (u : Nat) (h0 : u ≠ 0) (h : u < 162) : cd_mchk u = true := by
  by_cases h1 : u < 21
  · have := List.all_eq_true.mp cd_m1 (u - 1) (List.mem_range.mpr (by omega))
    rw [show u - 1 + 1 = u by omega] at this
    exact this
  by_cases h21 : u < 41
  · have := List.all_eq_true.mp cd_m21 (u - 21) (List.mem_range.mpr (by omega))
    rw [show u - 21 + 21 = u by omega] at this
    exact this
  by_cases h41 : u < 61
  · have := List.all_eq_true.mp cd_m41 (u - 41) (List.mem_range.mpr (by omega))
    rw [show u - 41 + 41 = u by omega] at this
    exact this
  by_cases h61 : u < 81
  · have := List.all_eq_true.mp cd_m61 (u - 61) (List.mem_range.mpr (by omega))
    rw [show u - 61 + 61 = u by omega] at this
    exact this
  by_cases h81 : u < 101
  · have := List.all_eq_true.mp cd_m81 (u - 81) (List.mem_range.mpr (by omega))
    rw [show u - 81 + 81 = u by omega] at this
    exact this
  by_cases h101 : u < 121
  · have := List.all_eq_true.mp cd_m101 (u - 101) (List.mem_range.mpr (by omega))
    rw [show u - 101 + 101 = u by omega] at this
    exact this
  by_cases h121 : u < 141
  · have := List.all_eq_true.mp cd_m121 (u - 121) (List.mem_range.mpr (by omega))
    rw [show u - 121 + 121 = u by omega] at this
    exact this
  by_cases h141 : u < 161
  · have := List.all_eq_true.mp cd_m141 (u - 141) (List.mem_range.mpr (by omega))
    rw [show u - 141 + 141 = u by omega] at this
    exact this
  by_cases h161 : u < 162
  · have := List.all_eq_true.mp cd_m161 (u - 161) (List.mem_range.mpr (by omega))
    rw [show u - 161 + 161 = u by omega] at this
    exact this
  omega
end
section
theorem cd_k (y : Nat) : (cd_rows.getD y []).all (cd_chk y) = true := by
  match y with
  | 0 => exact cd_k0
  | 1 => exact cd_k1
  | 2 => exact cd_k2
  | 3 => exact cd_k3
  | 4 => exact cd_k4
  | 5 => exact cd_k5
  | 6 => exact cd_k6
  | 7 => exact cd_k7
  | 8 => exact cd_k8
  | 9 => exact cd_k9
  | 10 => exact cd_k10
  | 11 => exact cd_k11
  | 12 => exact cd_k12
  | 13 => exact cd_k13
  | 14 => exact cd_k14
  | 15 => exact cd_k15
  | 16 => exact cd_k16
  | 17 => exact cd_k17
  | 18 => exact cd_k18
  | 19 => exact cd_k19
  | 20 => exact cd_k20
  | 21 => exact cd_k21
  | 22 => exact cd_k22
  | 23 => exact cd_k23
  | 24 => exact cd_k24
  | 25 => exact cd_k25
  | 26 => exact cd_k26
  | 27 => exact cd_k27
  | 28 => exact cd_k28
  | 29 => exact cd_k29
  | 30 => exact cd_k30
  | 31 => exact cd_k31
  | 32 => exact cd_k32
  | 33 => exact cd_k33
  | 34 => exact cd_k34
  | 35 => exact cd_k35
  | 36 => exact cd_k36
  | 37 => exact cd_k37
  | 38 => exact cd_k38
  | 39 => exact cd_k39
  | 40 => exact cd_k40
  | 41 => exact cd_k41
  | 42 => exact cd_k42
  | 43 => exact cd_k43
  | 44 => exact cd_k44
  | 45 => exact cd_k45
  | 46 => exact cd_k46
  | 47 => exact cd_k47
  | 48 => exact cd_k48
  | 49 => exact cd_k49
  | 50 => exact cd_k50
  | 51 => exact cd_k51
  | 52 => exact cd_k52
  | 53 => exact cd_k53
  | 54 => exact cd_k54
  | 55 => exact cd_k55
  | 56 => exact cd_k56
  | 57 => exact cd_k57
  | 58 => exact cd_k58
  | 59 => exact cd_k59
  | 60 => exact cd_k60
  | 61 => exact cd_k61
  | 62 => exact cd_k62
  | 63 => exact cd_k63
  | 64 => exact cd_k64
  | 65 => exact cd_k65
  | 66 => exact cd_k66
  | 67 => exact cd_k67
  | 68 => exact cd_k68
  | 69 => exact cd_k69
  | 70 => exact cd_k70
  | 71 => exact cd_k71
  | 72 => exact cd_k72
  | 73 => exact cd_k73
  | 74 => exact cd_k74
  | 75 => exact cd_k75
  | 76 => exact cd_k76
  | 77 => exact cd_k77
  | 78 => exact cd_k78
  | 79 => exact cd_k79
  | 80 => exact cd_k80
  | 81 => exact cd_k81
  | 82 => exact cd_k82
  | 83 => exact cd_k83
  | 84 => exact cd_k84
  | 85 => exact cd_k85
  | 86 => exact cd_k86
  | 87 => exact cd_k87
  | 88 => exact cd_k88
  | 89 => exact cd_k89
  | 90 => exact cd_k90
  | 91 => exact cd_k91
  | 92 => exact cd_k92
  | 93 => exact cd_k93
  | 94 => exact cd_k94
  | 95 => exact cd_k95
  | 96 => exact cd_k96
  | 97 => exact cd_k97
  | 98 => exact cd_k98
  | 99 => exact cd_k99
  | 100 => exact cd_k100
  | 101 => exact cd_k101
  | 102 => exact cd_k102
  | 103 => exact cd_k103
  | 104 => exact cd_k104
  | 105 => exact cd_k105
  | 106 => exact cd_k106
  | 107 => exact cd_k107
  | 108 => exact cd_k108
  | 109 => exact cd_k109
  | 110 => exact cd_k110
  | 111 => exact cd_k111
  | 112 => exact cd_k112
  | 113 => exact cd_k113
  | 114 => exact cd_k114
  | 115 => exact cd_k115
  | 116 => exact cd_k116
  | 117 => exact cd_k117
  | 118 => exact cd_k118
  | 119 => exact cd_k119
  | 120 => exact cd_k120
  | 121 => exact cd_k121
  | 122 => exact cd_k122
  | 123 => exact cd_k123
  | 124 => exact cd_k124
  | 125 => exact cd_k125
  | 126 => exact cd_k126
  | 127 => exact cd_k127
  | 128 => exact cd_k128
  | 129 => exact cd_k129
  | 130 => exact cd_k130
  | 131 => exact cd_k131
  | 132 => exact cd_k132
  | 133 => exact cd_k133
  | 134 => exact cd_k134
  | 135 => exact cd_k135
  | 136 => exact cd_k136
  | 137 => exact cd_k137
  | 138 => exact cd_k138
  | 139 => exact cd_k139
  | 140 => exact cd_k140
  | 141 => exact cd_k141
  | 142 => exact cd_k142
  | 143 => exact cd_k143
  | 144 => exact cd_k144
  | 145 => exact cd_k145
  | 146 => exact cd_k146
  | 147 => exact cd_k147
  | 148 => exact cd_k148
  | 149 => exact cd_k149
  | 150 => exact cd_k150
  | 151 => exact cd_k151
  | 152 => exact cd_k152
  | 153 => exact cd_k153
  | 154 => exact cd_k154
  | 155 => exact cd_k155
  | 156 => exact cd_k156
  | 157 => exact cd_k157
  | 158 => exact cd_k158
  | 159 => exact cd_k159
  | 160 => exact cd_k160
  | 161 => exact cd_k161
  | n + 162 =>
    have : cd_rows.getD (n + 162) [] = [] := by
      rw [List.getD_eq_getElem?_getD, List.getElem?_eq_none (by show 162 ≤ n + 162; omega)]
      rfl
    rw [this]
    rfl
end
section
def cd_cchk (k : Nat) : Bool := match cd_cl[k]? with
  | some r => decide (r.1 = cd_nm k) && (Nat.beq (cd_df k).length r.2.2 && (List.range r.2.2).all (fun j => cd_w ((cd_lpL.getD k []).getD j 0) (u_lay r.1 r.2.1 j) && (decide ((r.2.1 j).1 = r.1) && (decide (parseFieldDescriptor (r.2.1 j).2.2.1 = some (cd_ft k j)) && (decide (defaultValue (cd_ft k j) = vp_V (cd_df k) j) && (List.range r.2.2).all (fun i => Nat.beq i j || decide ((r.2.1 i).2.1 ≠ (r.2.1 j).2.1)))))))
  | none => true
set_option maxRecDepth 100000 in
theorem cd_c : (List.range 14).all cd_cchk = true := by decide +kernel
theorem cd_cls {k : Nat} {r : vw_C} (h : cd_cl[k]? = some r) : cd_cchk k = true := by
  have hk : k < 14 := (List.getElem?_eq_some_iff.mp h).1
  exact List.all_eq_true.mp cd_c k (List.mem_range.mpr hk)
theorem cd_cls_nm {k : Nat} {r : vw_C} (h : cd_cl[k]? = some r) : r.1 = cd_nm k := by
  have h1 := cd_cls h
  unfold cd_cchk at h1
  rw [h] at h1
  simp only [Bool.and_eq_true, decide_eq_true_eq] at h1
  exact h1.1
theorem cd_cls_df {k : Nat} {r : vw_C} (h : cd_cl[k]? = some r) : (cd_df k).length = r.2.2 := by
  have h1 := cd_cls h
  unfold cd_cchk at h1
  rw [h] at h1
  simp only [Bool.and_eq_true, decide_eq_true_eq] at h1
  exact Nat.eq_of_beq_eq_true h1.2.1
theorem cd_cls_f {k : Nat} {r : vw_C} (h : cd_cl[k]? = some r) {j : Nat} (hj : j < r.2.2) : cd_w ((cd_lpL.getD k []).getD j 0) (u_lay r.1 r.2.1 j) = true ∧ (r.2.1 j).1 = r.1 ∧ parseFieldDescriptor (r.2.1 j).2.2.1 = some (cd_ft k j) ∧ defaultValue (cd_ft k j) = vp_V (cd_df k) j ∧ ∀ i, i < r.2.2 → i ≠ j → (r.2.1 i).2.1 ≠ (r.2.1 j).2.1 := by
  have h1 := cd_cls h
  unfold cd_cchk at h1
  rw [h] at h1
  simp only [Bool.and_eq_true] at h1
  have h2 := List.all_eq_true.mp h1.2.2 j (List.mem_range.mpr hj)
  simp only [Bool.and_eq_true, decide_eq_true_eq] at h2
  obtain ⟨a1, a2, a3, a4, a5⟩ := h2
  refine ⟨a1, a2, a3, a4, fun i hi hne => ?_⟩
  have h3 := List.all_eq_true.mp a5 i (List.mem_range.mpr hi)
  rw [Bool.or_eq_true] at h3
  rcases h3 with h3 | h3
  · exact absurd (Nat.eq_of_beq_eq_true h3) hne
  · exact of_decide_eq_true h3
def cd_ws (y : Nat) : List Cond := if y = 0 then [] else [am_hc cd_t cd_yn cd_bt cd_rtt y]
def cd_nest (w : Cond) : Bool := match w with
  | .fieldLinkNest _ _ _ _ _ _ => true
  | .methodLinkNest _ _ _ _ => true
  | .castable _ _ => true
  | .declares _ => true
  | _ => false
/-- a static that holds a reference, whichever -/
def cd_S (C n d : String) (A : Nat → Prop) (U : State) (H : Heap) : Prop := ∃ (cf : ClassId) (kf : Class) (fi : Nat) (f : Field) (a : Nat) (cell : Cell) (v : Value), U.vm.findClass C = some cf ∧ U.fieldFound? C n d = some (cf, kf, fi, f) ∧ f.isStatic = true ∧ kf.statics = some a ∧ kf.staticTypes[f.slot]? = some f.type ∧ H[a]? = some cell ∧ cell.vm.isStatics = true ∧ cell.cls = cf ∧ cell.slots[f.slot]? = some v ∧ (v = .null ∨ ∃ b, v = .ref b) ∧ ¬ A a
theorem cd_S.moved {C n d : String} {A : Nat → Prop} {u U : State} {H : Heap} (hvm : u.vm.Alike U.vm) (h : cd_S C n d A u H) : cd_S C n d A U H := by
  obtain ⟨cf, kf, fi, f, a, cell, v, h1, h2, h3, h4, h5, h6⟩ := h
  obtain ⟨k', hi', he⟩ := State.fieldFound?_setVm hvm h2
  exact ⟨cf, k', fi, f, a, cell, v, by rw [hvm.findClass]; exact h1, hi', h3, by rw [he]; exact h4, by rw [he]; exact h5, h6⟩
theorem cd_S.kept {C n d : String} {A : Nat → Prop} {U : State} {H H1 : Heap} (h : cd_S C n d A U H) (hq : ∀ a : Nat, a < H.size → ¬ A a → H1[a]? = H[a]?) : cd_S C n d A U H1 := by
  obtain ⟨cf, kf, fi, f, a, cell, v, h1, h2, h3, h4, h5, h6, h7, h8, h9, h10, h11⟩ := h
  exact ⟨cf, kf, fi, f, a, cell, v, h1, h2, h3, h4, h5, by rw [hq a (Array.getElem?_eq_some_iff.mp h6).1 h11]; exact h6, h7, h8, h9, h10, h11⟩
theorem cd_S.lays {C n d : String} {A : Nat → Prop} {U : State} {args : Array Value} (h : cd_S C n d A U U.heap) : (Cond.laysStatic C n d).before args U = true := by
  obtain ⟨cf, kf, fi, f, a, cell, v, h1, h2, h3, h4, h5, h6, h7, h8, h9, h10, h11⟩ := h
  have hlt : f.slot < cell.slots.size := (Array.getElem?_eq_some_iff.mp h9).1
  simp [Cond.before, Cond.holds, Cond.value, h1, h2, h3, h4, h5, h6, h7, h8, hlt]
theorem cd_S.ref {C n d : String} {A : Nat → Prop} {U : State} {args : Array Value} (h : cd_S C n d A U U.heap) : (Cond.isRef (.static C n d)).before args U = true := by
  obtain ⟨cf, kf, fi, f, a, cell, v, h1, h2, h3, h4, h5, h6, h7, h8, h9, h10, h11⟩ := h
  rcases h10 with rfl | ⟨b, rfl⟩ <;> simp [Cond.before, Cond.holds, Cond.value, Term.eval, State.fieldNamed?, h2, h3, h4, h6, h7, h9]
theorem cd_Sof {args : Array Value} {s : State} {C n d : String} {A : Nat → Prop} (hl : (Cond.laysStatic C n d).before args s = true) (h : (Cond.isRef (.static C n d)).before args s = true) (hA : ∀ a : Nat, a < s.heap.size → ¬ A a) : cd_S C n d A s s.heap := by
  obtain ⟨c, k, i, f, a, cell, hc, hi, hst, ha, hcell, hs, hcls, hlt, hty⟩ := Cond.laysStatic_spec hl
  cases hv : (Term.static C n d).eval args s none [] s with
  | none => simp [Cond.before, Cond.holds, Cond.value, hv] at h
  | some w =>
    obtain ⟨-, a', cell', ha', hcell', -, hslot⟩ := Term.static_spec hi hv
    cases ha.symm.trans ha'
    cases hcell.symm.trans hcell'
    refine ⟨c, k, i, f, a, cell, w, hc, hi, hst, ha, hty, hcell, hs, hcls, hslot, ?_, hA a (Array.getElem?_eq_some_iff.mp hcell).1⟩
    simp only [Cond.before, Cond.holds, Cond.value, hv] at h
    cases w with
    | null => exact Or.inl rfl
    | ref b => exact Or.inr ⟨b, rfl⟩
    | _ => simp at h
/-- what an exception's constructor reads -/
def cd_ts : List (String × String × String) := [("java/lang/Throwable", "UNASSIGNED_STACK", "[Ljava/lang/StackTraceElement;"), ("java/lang/Throwable", "SUPPRESSED_SENTINEL", "Ljava/util/List;")]
/-- neither exception is the other -/
def cd_na (s : State) : Prop := ∀ i j, s.vm.findClass "java/lang/IllegalStateException" = some i → s.vm.findClass "java/lang/IllegalArgumentException" = some j → s.vm.assignable i j = false ∧ s.vm.assignable j i = false
/-- what is known of the tables and of the cells that were there at the start -/
def cd_GL (cs : Nat → Value) (b0 : Nat) (s : State) : Prop :=
  (∀ w ∈ lw_tbl, goodWord w = true → ∀ a : Array Value, w.before a s = true) ∧ (∀ w ∈ lw_tbl, cd_nest w = true → va_Nw w s) ∧
  (∀ q ∈ cd_sr, ∃ a, cs q.2.2.1 = .ref a ∧ vk_R q.1 q.2.1 q.2.2.2 a s) ∧ (∀ C ∈ cd_ao, va_AO C s) ∧ (∀ q ∈ cd_st, va_Z q.2.1 q.2.2.1 q.2.2.2 (cs q.1) (fun x => b0 ≤ x) s s.heap) ∧ (∀ q ∈ cd_ts, cd_S q.1 q.2.1 q.2.2 (fun x => b0 ≤ x) s s.heap) ∧ cd_na s
theorem cd_mv (cs : Nat → Value) (b0 : Nat) : am_mv b0 (cd_GL cs b0) := by
  intro s U hW hsz hq h
  obtain ⟨h1, h2, h3, h4, h5, h6, h7⟩ := h
  refine ⟨fun w hw hg a => word_at hW (good_of_word hg) (h1 w hw hg #[]), fun w hw hn => ?_, fun q hq2 => ?_, fun C hC => (h4 C hC).moved hW.alike, fun q hq2 => ((h5 q hq2).moved hW.alike).kept hq, fun q hq2 => ((h6 q hq2).moved hW.alike).kept hq, fun i j hi hj => ?_⟩
  · have h0 := h2 w hw hn
    cases w <;> first | exact va_Nw.warmF hW h0 | exact va_Nw.warmM hW h0 | exact va_Nw.warmC hW h0 | exact va_Nw.warmD hW h0 | cases hn
  · obtain ⟨a, e1, e2⟩ := h3 q hq2
    exact ⟨a, e1, e2.warm hW⟩
  · rw [hW.alike.findClass] at hi hj
    rw [hW.alike.assignable, hW.alike.assignable]
    exact h7 i j hi hj
section CDG
variable {cs : Nat → Value} {b0 : Nat} {s : State} {args : Array Value}
theorem cd_use (hG : cd_GL cs b0 s) {p : Nat} {w : Cond} (h : cd_w p w = true) : w.before args s = true := by
  unfold cd_w at h
  rw [Bool.and_eq_true] at h
  exact hG.1 w (cd_at_mem h.1) h.2 args
theorem cd_useF (hG : cd_GL cs b0 s) {p idx : Nat} {own C n d host : String} (h : cd_at p (.fieldLinkNest own idx C n d host) = true) : (Cond.fieldLinkNest own idx C n d host).before args s = true := va_Nw.use rfl (hG.2.1 _ (cd_at_mem h) rfl)
theorem cd_useM (hG : cd_GL cs b0 s) {p idx : Nat} {own host : String} {x : MethodName} (h : cd_at p (.methodLinkNest own idx x host) = true) : (Cond.methodLinkNest own idx x host).before args s = true := va_Nw.use rfl (hG.2.1 _ (cd_at_mem h) rfl)
theorem cd_mp_lt {u k : Nat} (h : (cd_mp u).1 = k) (hk : k ≠ 9) : u < 162 := by
  by_cases h1 : u < 162
  · exact h1
  · exfalso
    apply hk
    rw [← h]
    unfold cd_mp
    rw [List.getD_eq_getElem?_getD, List.getElem?_eq_none (by show 162 ≤ u; omega)]
    rfl
theorem cd_callee (hG : cd_GL cs b0 s) {y u v idx p kd : Nat} {own : String} (hu0 : u ≠ 0) (hkd : (cd_mp u).1 = kd) (h9 : kd ≠ 9) (hl : cd_link p own idx u v = true) : am_cc cd_t cd_yn cd_ws s args y u v ∧ am_lk cd_yn s args own idx u ∧
    (kd = 0 → (Cond.static (cd_yn u)).before args s = true) ∧ (kd = 1 → (Cond.instanceMethod (cd_yn u)).before args s = true ∧ (Cond.selects (cd_yn u).cls (cd_yn u) (cd_yn u)).before args s = true ∧ cd_nm (cd_mc u) = (cd_yn u).cls) ∧ (kd = 2 → (Cond.instanceMethod (cd_yn u)).before args s = true ∧ (cd_yn u).name = "<init>" ∧ cd_rtt u = none) := by
  have hm := cd_m u hu0 (cd_mp_lt hkd h9)
  unfold cd_mchk at hm
  unfold cd_link at hl
  simp only [Bool.and_eq_true, decide_eq_true_eq] at hm hl
  obtain ⟨m1, m2, m3, m4, m5, m6⟩ := hm
  obtain ⟨l1, l2⟩ := hl
  refine ⟨⟨fun w hw a' U hW => ?_, cd_use hG m2, ⟨m4, m5⟩, l2, Nat.le_of_ble_eq_true m3⟩, ?_, fun e => ?_, fun e => ?_, fun e => ?_⟩
  · unfold cd_ws at hw
    rw [if_neg hu0, List.mem_singleton] at hw
    subst hw
    have hg : goodWord (am_hc cd_t cd_yn cd_bt cd_rtt u) = true := by
      unfold cd_w at m1
      rw [Bool.and_eq_true] at m1
      exact m1.2
    exact word_at hW (good_of_word hg) (cd_use (args := #[]) hG m1)
  · rw [Bool.or_eq_true] at l1
    rcases l1 with l1 | l1
    · exact Or.inl (cd_use hG l1)
    · exact Or.inr ⟨_, cd_useM hG l1⟩
  · rw [hkd, e] at m6
    exact cd_use hG m6
  · rw [hkd, e] at m6
    simp only [Bool.and_eq_true, decide_eq_true_eq] at m6
    exact ⟨cd_use hG m6.1, cd_use hG m6.2.1, m6.2.2⟩
  · rw [hkd, e] at m6
    simp only [Bool.and_eq_true, decide_eq_true_eq, Option.isNone_iff_eq_none] at m6
    exact ⟨cd_use hG m6.1, m6.2.1, m6.2.2⟩
def cd_own (w : Cond) : Bool := (decide (w ∈ lw_tbl) && (goodWord w || cd_nest w)) || decide (w ∈ cd_ts.flatMap (fun q => [Cond.laysStatic q.1 q.2.1 q.2.2, Cond.isRef (.static q.1 q.2.1 q.2.2)]))
set_option maxRecDepth 100000 in
theorem cd_to : cd_tl.all (fun q => Bundle.fit q.2.2 && (Bundle.ownAtoms0 q.1 q.2.1 q.2.2 am_sup).all cd_own) = true := by decide +kernel
theorem cd_useN (hG : cd_GL cs b0 s) {w : Cond} (h : w ∈ lw_tbl) (hn : cd_nest w = true) : w.before args s = true := by
  have h0 := hG.2.1 w h hn
  cases w <;> first | exact va_Nw.use rfl h0 | cases hn
theorem cd_useT (hG : cd_GL cs b0 s) {own C : String} {ic : Nat} (h : (own, ic, C) ∈ cd_tl) : Bundle.fit C = true ∧ ∀ w ∈ Bundle.ownAtoms0 own ic C am_sup, w.before args s = true := by
  have h1 := List.all_eq_true.mp cd_to _ h
  rw [Bool.and_eq_true] at h1
  refine ⟨h1.1, fun w hw => ?_⟩
  have h2 := List.all_eq_true.mp h1.2 w hw
  unfold cd_own at h2
  rw [Bool.or_eq_true, Bool.and_eq_true, Bool.or_eq_true, decide_eq_true_eq, decide_eq_true_eq] at h2
  rcases h2 with ⟨h3, h4 | h4⟩ | h3
  · exact hG.1 w h3 h4 args
  · exact cd_useN hG h3 h4
  · obtain ⟨q, hq, hw⟩ := List.mem_flatMap.mp h3
    have hS := hG.2.2.2.2.2.1 q hq
    rcases List.mem_cons.mp hw with rfl | hw
    · exact hS.lays
    · rw [List.mem_singleton] at hw
      subst hw
      exact hS.ref
end CDG
end
section
section CDR
variable {cs : Nat → Value} {b0 : Nat} {s : State} {args : Array Value} {meth : Method}
theorem cd_words (hG : cd_GL cs b0 s) {k : Nat} {r : vw_C} (h : cd_cl[k]? = some r) : ∀ w ∈ u_ws r.1 r.2.1 r.2.2, w.before args s = true := by
  intro w hw
  obtain ⟨j, hj, rfl⟩ := List.mem_map.mp hw
  exact cd_use hG (cd_cls_f h (List.mem_range.mp hj)).1
theorem cd_I_mem {y pc u v : Nat} {i : Instr} (h : cd_I y pc = some (i, u, v)) : ∃ ps, (pc, i, u, v, ps) ∈ cd_rows.getD y [] := by
  unfold cd_I at h
  cases hf : (cd_rows.getD y []).find? (fun q => Nat.beq q.1 pc) with
  | none => rw [hf] at h; cases h
  | some q =>
    rw [hf] at h
    have h1 := List.mem_of_find?_eq_some hf
    have h2 := List.find?_some (p := fun q : Nat × Instr × Nat × Nat × List Nat => Nat.beq q.1 pc) hf
    obtain ⟨p1, i1, u1, v1, ps⟩ := q
    cases h
    have : p1 = pc := Nat.eq_of_beq_eq_true h2
    subst this
    exact ⟨ps, h1⟩
set_option maxHeartbeats 4000000 in
theorem cd_row {y pc u v : Nat} {i : Instr} (h : cd_I y pc = some (i, u, v)) (hG : cd_GL cs b0 s) (hmn : meth.name = (cd_yn y).name) :
    am_dec (cd_bt y) pc i ∧ am_fact cs cd_ft cd_df cd_ns cd_nm cd_cl b0 s args meth (cd_yn y).cls pc i u v ∧ am_cf cd_t cd_yn cd_rtt cd_ws s args y i u v ∧ am_ro i (cd_rtt y) ∧ (am_kind i u = 1 → u ≠ 0) := by
  obtain ⟨ps, hm⟩ := cd_I_mem h
  have hc := List.all_eq_true.mp (cd_k y) _ hm
  unfold cd_chk at hc
  rw [Bool.and_eq_true] at hc
  obtain ⟨hd, hc⟩ := hc
  refine ⟨am_decb_ok hd, ?_⟩
  dsimp only at hc
  cases i with
  | ldc idx =>
    refine ⟨?_, trivial, trivial, fun z => by cases z⟩
    obtain ⟨q, hq, e⟩ := List.mem_map.mp (of_decide_eq_true hc)
    obtain ⟨a, e1, e2⟩ := hG.2.2.1 q hq
    obtain ⟨q1, q2, q3, q4⟩ := q
    cases e
    exact ⟨q4, a, e1, e2⟩
  | getstatic idx =>
    dsimp only at hc
    refine ⟨?_, trivial, trivial, fun z => by cases z⟩
    split at hc
    · next z hz =>
      have h1 := List.mem_of_find?_eq_some hz
      have h2 : z.1 = u := Nat.eq_of_beq_eq_true (List.find?_some (p := fun z : Nat × String × String × String => Nat.beq z.1 u) hz)
      have h3 := hG.2.2.2.2.1 z h1
      rw [h2] at h3
      exact ⟨_, _, _, h3, cd_use hG hc⟩
    · cases hc
  | goto off =>
    have h9 : (pc : Int) + off = (u : Int) := of_decide_eq_true hc
    exact ⟨h9, trivial, trivial, fun z => by cases z⟩
  | ifCond cd off =>
    have h9 : (pc : Int) + off = (u : Int) := of_decide_eq_true hc
    exact ⟨h9, trivial, trivial, fun z => by cases z⟩
  | if_icmp cd off =>
    have h9 : (pc : Int) + off = (u : Int) := of_decide_eq_true hc
    exact ⟨h9, trivial, trivial, fun z => by cases z⟩
  | if_acmp cd off =>
    have h9 : (pc : Int) + off = (u : Int) := of_decide_eq_true hc
    exact ⟨h9, trivial, trivial, fun z => by cases z⟩
  | ifnull off =>
    have h9 : (pc : Int) + off = (u : Int) := of_decide_eq_true hc
    exact ⟨h9, trivial, trivial, fun z => by cases z⟩
  | ifnonnull off =>
    have h9 : (pc : Int) + off = (u : Int) := of_decide_eq_true hc
    exact ⟨h9, trivial, trivial, fun z => by cases z⟩
  | getfield idx =>
    dsimp only at hc
    refine ⟨?_, trivial, trivial, fun z => by cases z⟩
    dsimp only [am_fact]
    by_cases h50 : u = 50
    · rw [if_pos h50]
      subst h50
      have hc : (bif Nat.beq v 0 then cd_w (ps.getD 0 0) (.fieldLink (cd_yn y).cls idx "java/lang/String" "value" "[B") else cd_w (ps.getD 0 0) (.fieldLink (cd_yn y).cls idx "java/lang/String" "coder" "B")) = true := hc
      by_cases hv : v = 0
      · rw [if_pos hv]
        subst hv
        exact cd_use hG hc
      · rw [if_neg hv]
        rw [show Nat.beq v 0 = false from Bool.eq_false_iff.mpr fun z => hv (Nat.eq_of_beq_eq_true z)] at hc
        exact cd_use hG hc
    · rw [if_neg h50]
      rw [show Nat.beq u 50 = false from Bool.eq_false_iff.mpr fun z => h50 (Nat.eq_of_beq_eq_true z)] at hc
      dsimp only [cond_false] at hc
      split at hc
      · next r hr =>
        rw [Bool.and_eq_true, Bool.or_eq_true] at hc
        obtain ⟨C, T, N⟩ := r
        refine ⟨C, T, N, hr, cd_words hG hr, fun j hj => (cd_cls_f hr hj).2.1, Nat.ble_eq.mp hc.1, ?_⟩
        rcases hc.2 with h1 | h1
        · exact Or.inl (cd_use hG h1)
        · exact Or.inr ⟨_, cd_useF hG h1⟩
      · cases hc
  | putfield idx =>
    dsimp only at hc
    refine ⟨?_, trivial, trivial, fun z => by cases z⟩
    split at hc
    · next r hr =>
      rw [Bool.and_eq_true, Bool.or_eq_true, Bool.and_eq_true, Bool.and_eq_true, Bool.or_eq_true, Bool.and_eq_true, Bool.not_eq_true', decide_eq_true_eq, decide_eq_true_eq] at hc
      obtain ⟨C, T, N⟩ := r
      refine ⟨C, T, N, hr, cd_words hG hr, fun j hj => (cd_cls_f hr hj).2.1, Nat.ble_eq.mp hc.1, fun j hj => (cd_cls_f hr hj).2.2.1, fun a ha b hb hab => (cd_cls_f hr hb).2.2.2.2 a ha hab, ?_⟩
      rcases hc.2 with ⟨h1, h2⟩ | ⟨h1, h2⟩
      · refine Or.inl ⟨cd_use hG h1, ?_⟩
        cases hf : (T v).2.2.2 with
        | false => exact Or.inl rfl
        | true =>
          rcases h2 with h2 | h2
          · rw [hf] at h2
            cases h2
          · exact Or.inr ⟨rfl, hmn.trans h2.1, h2.2⟩
      · exact Or.inr ⟨h1, _, cd_useF hG h2⟩
    · cases hc
  | new idx =>
    dsimp only at hc
    refine ⟨?_, trivial, trivial, fun z => absurd z (by dsimp only [am_kind]; split <;> decide)⟩
    split at hc
    · next r hr =>
      rw [Bool.and_eq_true, Bool.and_eq_true, Bool.and_eq_true] at hc
      obtain ⟨C, T, N⟩ := r
      exact ⟨C, T, N, hr, cd_words hG hr, fun j hj => (cd_cls_f hr hj).2.2.1, cd_use hG hc.1, cd_use hG hc.2.1, cd_use hG hc.2.2.1, fun j hj => (cd_cls_f hr hj).2.2.2.1, cd_cls_df hr⟩
    · cases hc
  | newarray at_ => exact ⟨cd_use hG hc, trivial, trivial, fun z => by cases z⟩
  | anewarray idx =>
    rw [Bool.and_eq_true] at hc
    exact ⟨⟨cd_use hG hc.1, hG.2.2.2.1 _ (of_decide_eq_true hc.2)⟩, trivial, trivial, fun z => by cases z⟩
  | invokespecial idx =>
    by_cases h1 : u = 1000
    · subst h1
      have hc : (cd_w (ps.getD 0 0) (.methodLink (cd_yn y).cls idx objectInit) && (cd_w (ps.getD 1 0) (.instanceMethod objectInit) && cd_w (ps.getD 2 0) (.code objectInit ⟨#[0xb1]⟩ 1 none))) = true := hc
      rw [Bool.and_eq_true, Bool.and_eq_true] at hc
      exact ⟨fun _ => ⟨cd_use hG hc.1, cd_use hG hc.2.1, cd_use hG hc.2.2⟩, fun z => absurd z (by decide), trivial, fun _ => by decide⟩
    · rw [show Nat.beq u 1000 = false from Bool.eq_false_iff.mpr fun z => h1 (Nat.eq_of_beq_eq_true z)] at hc
      dsimp only [cond_false] at hc
      simp only [Bool.and_eq_true, List.isEmpty_iff] at hc
      obtain ⟨q1, q2, q3, q4, q5, q6⟩ := hc
      have hu0 : u ≠ 0 := by have := Nat.le_of_ble_eq_true q1; omega
      refine ⟨fun z => absurd z h1, fun hlt => ?_, trivial, fun _ => hu0⟩
      obtain ⟨c1, c2, -, -, c5⟩ := cd_callee (args := args) (y := y) hG hu0 (Nat.eq_of_beq_eq_true q3) (by decide) q4
      exact ⟨c1, c2, (c5 rfl).1, (c5 rfl).2.1, (c5 rfl).2.2, q5, q6⟩
  | invokestatic idx =>
    by_cases hb : 1000 < u
    · refine ⟨trivial, fun hlt => ?_, trivial, fun _ => by omega⟩
      omega
    · rw [show Nat.blt 1000 u = false from Bool.eq_false_iff.mpr fun z => hb (Nat.le_of_ble_eq_true z)] at hc
      dsimp only [cond_false] at hc
      simp only [Bool.and_eq_true, Bool.or_eq_true, List.isEmpty_iff] at hc
      obtain ⟨q1, q2, q3, q4, q5, q6⟩ := hc
      have hu0 : u ≠ 0 := by have := Nat.le_of_ble_eq_true q1; omega
      refine ⟨trivial, fun hlt => ?_, trivial, fun _ => hu0⟩
      obtain ⟨c1, c2, c3, -, -⟩ := cd_callee (args := args) (y := y) hG hu0 (Nat.eq_of_beq_eq_true q3) (by decide) q4
      exact ⟨c1, c2, c3 rfl, q5, q6.imp id fun z => cd_use hG z⟩
  | invokevirtual idx =>
    simp only [Bool.and_eq_true, Bool.or_eq_true, List.isEmpty_iff] at hc
    obtain ⟨q1, q2, q3, q4, q5, q6⟩ := hc
    have hu0 : u ≠ 0 := by have := Nat.le_of_ble_eq_true q1; omega
    refine ⟨trivial, fun hlt => ?_, trivial, fun _ => hu0⟩
    obtain ⟨c1, c2, -, c4, -⟩ := cd_callee (args := args) (y := y) hG hu0 (Nat.eq_of_beq_eq_true q3) (by decide) q4
    exact ⟨c1, c2, (c4 rfl).1, (c4 rfl).2.1, (c4 rfl).2.2, q5, q6.imp id fun z => cd_use hG z⟩
  | ireturn =>
    dsimp only at hc
    refine ⟨trivial, trivial, ?_, fun z => by cases z⟩
    intro z
    rw [z] at hc
    cases hc
  | areturn =>
    dsimp only at hc
    refine ⟨trivial, trivial, ?_, fun z => by cases z⟩
    intro z
    rw [z] at hc
    cases hc
  | return_ => exact ⟨trivial, trivial, Option.isNone_iff_eq_none.mp hc, fun z => by cases z⟩
  | _ => exact ⟨trivial, trivial, trivial, fun z => by cases z⟩
end CDR
theorem cd_I_lt {y pc : Nat} {x : Instr × Nat × Nat} (h : cd_I y pc = some x) : y < 162 := by
  obtain ⟨i, u, v⟩ := x
  obtain ⟨ps, hm⟩ := cd_I_mem h
  by_cases h1 : y < 162
  · exact h1
  · exfalso
    rw [List.getD_eq_getElem?_getD, List.getElem?_eq_none (by show 162 ≤ y; omega)] at hm
    cases hm
set_option maxRecDepth 100000 in
theorem cd_plain : (List.range 162).all (fun y => plainName (cd_yn y).cls) = true := by decide +kernel
set_option maxRecDepth 100000 in
theorem cd_hk : (List.range 162).all (fun y => (cd_hs y).all (fun h => Nat.ble 1 h.1.2.2.2 && (decide (Cond.classLink (cd_yn y).cls h.1.2.2.2 (cd_nm h.2) ∈ lw_tbl) && decide (h.2 = 12 ∨ h.2 = 13)))) = true := by decide +kernel
set_option maxRecDepth 100000 in
theorem cd_self : Cond.castable "java/lang/IllegalArgumentException" "java/lang/IllegalArgumentException" ∈ lw_tbl ∧ Cond.castable "java/lang/IllegalStateException" "java/lang/IllegalStateException" ∈ lw_tbl := by decide +kernel
theorem cd_selfA {s : State} {C : String} (h : va_Nw (.castable C C) s) {i j : ClassId} (hi : s.vm.findClass C = some i) (hj : s.vm.findClass C = some j) : s.vm.assignable i j = true := by
  cases hi.symm.trans hj
  have h1 : (Cond.castable C C).before #[] s = true := h
  simpa [Cond.before, Cond.holds, Cond.value, hi] using h1
theorem cd_thr {y pc u v : Nat} {i : Instr} (h : cd_I y pc = some (i, u, v)) (hk : am_kind i u = 3) : ∃ idx, i = .new idx ∧ cd_hs y = [] ∧ cd_ns u = 6 ∧ (∃ r : vw_C, cd_cl[u]? = some r ∧ r.2.2 = 0 ∧ ((cd_yn y).cls, v, r.1) ∈ cd_tl) ∧ am_dec (cd_bt y) pc (.new idx) ∧ am_dec (cd_bt y) (pc + 3) .dup ∧ am_dec (cd_bt y) (pc + 4) (.invokespecial v) ∧ am_dec (cd_bt y) (pc + 7) .athrow := by
  obtain ⟨ps, hm⟩ := cd_I_mem h
  have hc := List.all_eq_true.mp (cd_k y) _ hm
  unfold cd_chk at hc
  rw [Bool.and_eq_true] at hc
  obtain ⟨hd, hc⟩ := hc
  dsimp only at hc
  cases i with
  | new idx =>
    dsimp only at hc
    have h12 : 12 ≤ u := by
      dsimp only [am_kind] at hk
      split at hk
      · assumption
      · cases hk
    split at hc
    · next r hr =>
      rw [show Nat.ble 12 u = true from Nat.ble_eq.mpr h12] at hc
      dsimp only [cond_true] at hc
      simp only [Bool.and_eq_true, List.isEmpty_iff, decide_eq_true_eq] at hc
      obtain ⟨-, -, -, q1, q2, q3, q4, q5, q6, q7⟩ := hc
      exact ⟨idx, rfl, q1, Nat.eq_of_beq_eq_true q2, ⟨r, hr, Nat.eq_of_beq_eq_true q3, q7⟩, am_decb_ok hd, am_decb_ok q4, am_decb_ok q5, am_decb_ok q6⟩
    · cases hc
  | invokespecial idx =>
    dsimp only [am_kind] at hk
    split at hk <;> cases hk
  | _ => cases hk
theorem cd_good (cs : Nat → Value) (b0 : Nat) : am_good cd_t cs cd_cl b0 cd_yn cd_bt cd_rtt cd_ws (cd_GL cs b0) := by
  refine ⟨fun k r h => cd_cls_nm h, cd_mv cs b0, fun y pc x h => ?_, fun y pc i u v h s args meth hG hts hmn => ?_, fun y pc i u v h hk => ?_, fun y pc i u v h hk => ?_, fun y h hh => ?_⟩
  · have hy := cd_I_lt h
    refine ⟨by omega, fun h0 => ⟨[], ?_⟩, List.all_eq_true.mp cd_plain y (List.mem_range.mpr hy), fun ty ht => ?_⟩
    · unfold cd_ws
      rw [if_neg h0]
    · show (cd_rtt y).getD .int = ty
      rw [ht]
      rfl
  · obtain ⟨a1, a2, a3, a4, -⟩ := cd_row (args := args) h hG hmn
    exact ⟨a1, a2, a3, a4⟩
  · obtain ⟨ps, hm⟩ := cd_I_mem h
    have hc := List.all_eq_true.mp (cd_k y) _ hm
    unfold cd_chk at hc
    rw [Bool.and_eq_true] at hc
    obtain ⟨-, hc⟩ := hc
    dsimp only at hc
    cases i with
    | invokespecial idx =>
      by_cases h1 : u = 1000
      · rw [h1]; decide
      · rw [show Nat.beq u 1000 = false from Bool.eq_false_iff.mpr fun z => h1 (Nat.eq_of_beq_eq_true z)] at hc
        dsimp only [cond_false] at hc
        rw [Bool.and_eq_true] at hc
        have := Nat.le_of_ble_eq_true hc.1
        omega
    | invokestatic idx =>
      by_cases hb : 1000 < u
      · omega
      · rw [show Nat.blt 1000 u = false from Bool.eq_false_iff.mpr fun z => hb (Nat.le_of_ble_eq_true z)] at hc
        dsimp only [cond_false] at hc
        rw [Bool.and_eq_true] at hc
        have := Nat.le_of_ble_eq_true hc.1
        omega
    | invokevirtual idx =>
      rw [Bool.and_eq_true] at hc
      have := Nat.le_of_ble_eq_true hc.1
      omega
    | new idx =>
      dsimp only [am_kind] at hk
      split at hk <;> cases hk
    | _ => cases hk
  · obtain ⟨idx, rfl, hh, h6, ⟨⟨C, T, N⟩, hr, hN, htl⟩, d0, d3, d4, d7⟩ := cd_thr h hk
    have hN : N = 0 := hN
    subst hN
    have hC : C = cd_nm u := cd_cls_nm hr
    subst hC
    refine ⟨idx, T, rfl, hh, h6, hr, fun s args hG => ?_⟩
    obtain ⟨f1, f2⟩ := cd_useT (args := args) hG htl
    obtain ⟨ps, hm⟩ := cd_I_mem h
    have hc := List.all_eq_true.mp (cd_k y) _ hm
    unfold cd_chk at hc
    rw [Bool.and_eq_true] at hc
    obtain ⟨-, hc⟩ := hc
    dsimp only at hc
    rw [hr] at hc
    dsimp only at hc
    rw [Bool.and_eq_true, Bool.and_eq_true, Bool.and_eq_true] at hc
    exact ⟨am_dec1 d0 rfl, am_dec1 d3 rfl, am_dec1 d4 rfl, am_dec1 d7 rfl, cd_use hG hc.1, cd_use hG hc.2.2.1, f1, f2⟩
  · have hy : y < 162 := by
      by_cases h1 : y < 162
      · exact h1
      · exfalso
        have h9 : h ∈ cd_hsL.getD y [] := hh
        rw [List.getD_eq_getElem?_getD, List.getElem?_eq_none (by show 162 ≤ y; omega)] at h9
        cases h9
    have h1 := List.all_eq_true.mp (List.all_eq_true.mp cd_hk y (List.mem_range.mpr hy)) h hh
    rw [Bool.and_eq_true, Bool.and_eq_true, decide_eq_true_eq, decide_eq_true_eq] at h1
    obtain ⟨g1, g2, g3⟩ := h1
    refine ⟨by have := Nat.le_of_ble_eq_true g1; omega, ?_, fun s args hG => ⟨hG.1 _ g2 rfl args, fun c r h12 hr i j hi hj => ?_⟩⟩
    · rcases g3 with e | e <;> rw [e] <;> exact ⟨_, rfl⟩
    · have hc : c = 12 ∨ c = 13 := by
        have : c < 14 := (List.getElem?_eq_some_iff.mp hr).1
        omega
      have hA := hG.2.1 _ cd_self.1 rfl
      have hS := hG.2.1 _ cd_self.2 rfl
      rcases hc with rfl | rfl <;> rcases g3 with e | e <;> rw [e] at hj ⊢
      · rw [cd_selfA hA hi hj]; rfl
      · rw [(hG.2.2.2.2.2.2 j i hj hi).2]; rfl
      · rw [(hG.2.2.2.2.2.2 i j hi hj).1]; rfl
      · rw [cd_selfA hS hi hj]; rfl
/-- the library's members -/
theorem cd_bok (cs : Nat → Value) (b0 : Nat) (D : va_G) (l : Launch) : am_bok cd_t cs D cd_cl b0 cd_yn cd_bt cd_ws (cd_GL cs b0) l := by
  intro d y pc lv σ σ1 top sl res i u v as rest r hI hu hd0 hcall hbi hsum p e R s m args below meth c Q c0 s0 hcx hm1 hm2 k
  obtain ⟨hx, hb, hml, hown, hts, hgl, hmn, hfr, hlo, hr1, hr2, htab, hlk⟩ := hcx
  obtain ⟨ps, hm⟩ := cd_I_mem hI
  have hc := List.all_eq_true.mp (cd_k y) _ hm
  unfold cd_chk at hc
  rw [Bool.and_eq_true] at hc
  obtain ⟨hd, hc⟩ := hc
  have hdec := am_decb_ok hd
  dsimp only at hc
  cases i with
  | invokestatic idx =>
    rw [show Nat.blt 1000 u = true from Nat.ble_eq.mpr hu] at hc
    dsimp only [cond_true] at hc
    by_cases h3 : u = 1003
    · subst h3
      have hc : (Nat.beq v 2 && (cd_w (ps.getD 0 0) (.methodLink (cd_yn y).cls idx Lib.Math.min.name) && (cd_w (ps.getD 1 0) (.static Lib.Math.min.name) && (cd_w (ps.getD 2 0) (.initialized "java/lang/Math") && cd_w (ps.getD 3 0) (.code Lib.Math.min.name Lib.Math.min.code 2 (some .int)))))) = true := hc
      simp only [Bool.and_eq_true] at hc
      obtain ⟨-, q1, q2, q3, q4⟩ := hc
      unfold am_bi at hbi
      split at hbi
      · next x1 y1 =>
        cases hbi
        exact am_w_min hx hb hml hown (cd_use hgl q1) (cd_use hgl q2) (cd_use hgl q3) (cd_use hgl q4) (am_dec1 hdec rfl) (by omega) hsum (by omega) (Nat.le_trans hm1 hr1) (Nat.le_trans hm2 hr2) k
      · omega
      · cases hbi
    · rw [show Nat.beq u 1003 = false from Bool.eq_false_iff.mpr fun z => h3 (Nat.eq_of_beq_eq_true z)] at hc
      dsimp only [cond_false] at hc
      simp only [Bool.and_eq_true] at hc
      obtain ⟨q0, -, q1, q2, q3, q4⟩ := hc
      obtain rfl : u = 1004 := Nat.eq_of_beq_eq_true q0
      have hnw : nativeFrameWords "java/lang/System" "arraycopy" 5 ≤ 45 := by decide +kernel
      unfold am_bi at hbi
      split at hbi
      · omega
      · next a sp b dp n _ =>
        split at hbi
        · next n0 f n1 g ha hb' =>
          split at hbi
          · cases hbi
          · next hcnd =>
            cases hbi
            exact am_w_copy hx hb hml hown (cd_use hgl q1) (cd_use hgl q2) (cd_use hgl q3) (cd_use hgl q4) (am_dec1 hdec rfl) (by omega) hsum (by omega) ha hb' (fun z => hcnd (Or.inl z)) (fun z => hcnd (Or.inr (Or.inl z))) (fun z => hcnd (Or.inr (Or.inr (Or.inl z)))) (by have := fun z => hcnd (Or.inr (Or.inr (Or.inr (Or.inl z)))); omega) (by have := fun z => hcnd (Or.inr (Or.inr (Or.inr (Or.inr z)))); omega) k
        · cases hbi
      · cases hbi
  | invokespecial idx =>
    rw [show Nat.beq u 1000 = false from Bool.eq_false_iff.mpr fun z => by have := Nat.eq_of_beq_eq_true z; omega] at hc
    dsimp only [cond_false] at hc
    simp only [Bool.and_eq_true] at hc
    have := Nat.le_of_ble_eq_true hc.2.1
    omega
  | invokevirtual idx =>
    simp only [Bool.and_eq_true] at hc
    have := Nat.le_of_ble_eq_true hc.2.1
    omega
  | _ => exact absurd (show (none : Option (List Value × List Value)) = some (as, rest) from hcall) (fun z => by cases z)
end
section
/-! the law's start: what its tables and its heap say, in the abstract machine's words -/
abbrev cd_fl : List Cond := flatC (Jvm.Cond.and given_1 narrow_1)
def cd_tm (i : Nat) : Term := [Term.string "ChainDesk$DeclarationReader" 44, Term.string "ChainDesk$DeclarationReader" 50, Term.string "ChainDesk$DeclarationReader" 88, Term.string "ChainDesk$Completer" 124].getD i .null
def cd_len : List Nat := [8, 4, 7, 4]
def cd_byt : List (List Int32) := [[112, 114, 105, 118, 97, 116, 101, 32], [110, 101, 119, 40], [115, 116, 97, 116, 105, 99, 32], [110, 101, 119, 32]]
def cd_cs (ad adK : Nat → Nat) (w : Value) (k : Nat) : Value := match k with
  | 0 => .ref (ad 0)
  | 1 => .ref (ad 1)
  | 2 => .ref (ad 2)
  | 3 => .int 1
  | 4 => w
  | k + 5 => .ref (adK (k - 5))
set_option maxRecDepth 100000 in
theorem cd_f1 : ∀ i, i < 4 → Cond.exactly (cd_tm i) "java/lang/String" ∈ cd_fl := by decide +kernel
set_option maxRecDepth 100000 in
theorem cd_f2 : ∀ i, i < 4 → Cond.eq (.field (cd_tm i) "java/lang/String" "coder" "B") (.int 0) ∈ cd_fl := by decide +kernel
set_option maxRecDepth 100000 in
theorem cd_f3 : ∀ i, i < 4 → Cond.arrayOf (.field (cd_tm i) "java/lang/String" "value" "[B") .byte ∈ cd_fl := by decide +kernel
set_option maxRecDepth 100000 in
theorem cd_f4 : ∀ i, i < 4 → Cond.eq (.length (.field (cd_tm i) "java/lang/String" "value" "[B")) (.int (Int32.ofNat (cd_len.getD i 0))) ∈ cd_fl := by decide +kernel
set_option maxRecDepth 100000 in
theorem cd_f5 : ∀ i, i < 4 → ∀ j, j < cd_len.getD i 0 → Cond.eq (.elem (.field (cd_tm i) "java/lang/String" "value" "[B") (.int (Int32.ofNat j))) (.int ((cd_byt.getD i []).getD j 0)) ∈ cd_fl := by decide +kernel
set_option maxRecDepth 100000 in
theorem cd_f6 : ∀ i, i < 4 → ∀ j, j < 4 → i ≠ j → Cond.not (Cond.eq (cd_tm i) (cd_tm j)) ∈ cd_fl ∨ Cond.not (Cond.eq (cd_tm j) (cd_tm i)) ∈ cd_fl := by decide +kernel
def cd_kn : List String := ["FIELD", "METHOD", "MAKER"]
set_option maxRecDepth 100000 in
theorem cd_f7 : ∀ i, i < cd_kn.length → Cond.laysStatic "ChainDesk$Kind" (cd_kn.getD i "") "LChainDesk$Kind;" ∈ lw_tbl := by decide +kernel
set_option maxRecDepth 100000 in
theorem cd_f8 : ∀ i, i < cd_kn.length → Cond.exactly (.static "ChainDesk$Kind" (cd_kn.getD i "") "LChainDesk$Kind;") "ChainDesk$Kind" ∈ cd_fl := by decide +kernel
set_option maxRecDepth 100000 in
theorem cd_f9 : ∀ i, i < cd_kn.length → ∀ j, j < cd_kn.length → i ≠ j → Cond.not (.eq (.static "ChainDesk$Kind" (cd_kn.getD i "") "LChainDesk$Kind;") (.static "ChainDesk$Kind" (cd_kn.getD j "") "LChainDesk$Kind;")) ∈ cd_fl ∨ Cond.not (.eq (.static "ChainDesk$Kind" (cd_kn.getD j "") "LChainDesk$Kind;") (.static "ChainDesk$Kind" (cd_kn.getD i "") "LChainDesk$Kind;")) ∈ cd_fl := by decide +kernel
set_option maxRecDepth 100000 in
theorem cd_f10 : Cond.initialized "ChainDesk$Kind" ∈ lw_tbl ∧ Cond.initialized "java/lang/String" ∈ lw_tbl ∧ Cond.initialized "jdk/internal/util/Preconditions" ∈ lw_tbl ∧ Cond.laysStatic "java/lang/String" "COMPACT_STRINGS" "Z" ∈ lw_tbl ∧ Cond.laysStatic "jdk/internal/util/Preconditions" "SIOOBE_FORMATTER" "Ljava/util/function/BiFunction;" ∈ lw_tbl := by decide +kernel
set_option maxRecDepth 100000 in
theorem cd_f11 : Cond.eq (.static "java/lang/String" "COMPACT_STRINGS" "Z") (.int 1) ∈ cd_fl ∧ Cond.isRef (.static "jdk/internal/util/Preconditions" "SIOOBE_FORMATTER" "Ljava/util/function/BiFunction;") ∈ cd_fl ∧ Cond.not (.castable "java/lang/IllegalStateException" "java/lang/IllegalArgumentException") ∈ cd_fl ∧ Cond.not (.castable "java/lang/IllegalArgumentException" "java/lang/IllegalStateException") ∈ cd_fl ∧ Cond.eq (.string "ChainDesk$Completer" 124) (.string "ChainDesk$ExpressionReader" 48) ∈ cd_fl := by decide +kernel
set_option maxRecDepth 100000 in
theorem cd_f12 : ∀ q ∈ cd_ts, Cond.laysStatic q.1 q.2.1 q.2.2 ∈ lw_tbl ∧ Cond.isRef (.static q.1 q.2.1 q.2.2) ∈ cd_fl := by decide +kernel
set_option maxRecDepth 100000 in
theorem cd_f13 : ∀ C ∈ cd_ao, Cond.arrayOver (.object C) ∈ lw_tbl := by decide +kernel
set_option maxRecDepth 100000 in
theorem cd_f14 : ∀ q ∈ cd_sr, Cond.stringRef q.1 q.2.1 q.2.2.2 ∈ lw_tbl := by decide +kernel
set_option maxRecDepth 100000 in
theorem cd_f15 : ∀ k, k < 14 → Cond.instantiable (cd_nm k) (cd_ns k) ∈ lw_tbl := by decide +kernel
theorem cd_nocast {args : Array Value} {s : State} {A B : String} (h : (Cond.not (.castable A B)).before args s = true) {i j : ClassId} (hi : s.vm.findClass A = some i) (hj : s.vm.findClass B = some j) : s.vm.assignable i j = false := by
  simpa [Cond.before, Cond.holds, Cond.value, hi, hj] using h
theorem cd_eqr {args : Array Value} {s : State} {t u : Term} {a : Nat} (h : (Cond.eq t u).before args s = true) (ht : t.eval args s none [] s = some (.ref a)) : u.eval args s none [] s = some (.ref a) := by
  cases hv : u.eval args s none [] s with
  | none => simp [Cond.before, Cond.holds, Cond.value, ht, hv] at h
  | some w =>
    simp only [Cond.before, Cond.holds, Cond.value, ht, hv] at h
    cases w <;> simp_all
/-- the length of a constant text's bytes, as the machine has it -/
theorem cd_size {args : Array Value} {s : State} {t : Term} {a : Nat} {cell : Cell} {z : Int32} (h : (Cond.eq (.length t) (.int z)).before args s = true) (ht : t.eval args s none [] s = some (.ref a)) (hc : s.heap[a]? = some cell) : cell.slots.size < 2 ^ 31 := by
  have h1 := va_eqt h
  simp only [Term.eval, ht, Option.bind_eq_bind, Option.bind_some] at h1
  cases ha : s.arrayAt? a with
  | none => simp [ha] at h1
  | some c2 =>
    obtain ⟨hcb, -⟩ := State.arrayAt?_spec ha
    cases hc.symm.trans hcb
    simp only [ha, Option.bind_some] at h1
    split at h1
    · assumption
    · cases h1
/-- the script, the texts and their bytes -/
noncomputable def cd_s0 (b L : Nat) (xs : Nat → Int32) (adK adV : Nat → Nat) : am_H := fun q =>
  if q = b then some (.inr (.inr (0, L, xs)))
  else @dite _ (∃ i, i < 4 ∧ adV i = q) (Classical.propDecidable _) (fun h => some (.inr (.inr (2, cd_len.getD h.choose 0, fun j => (cd_byt.getD h.choose []).getD j 0)))) (fun _ =>
    @dite _ (∃ i, i < 4 ∧ adK i = q) (Classical.propDecidable _) (fun h => some (.inr (.inr (1, adV h.choose, fun _ => 0)))) (fun _ => none))
theorem cd_l31 : ∀ i, i < 4 → cd_len.getD i 0 < 2 ^ 31 := by decide
/-- what is known where the law begins -/
def cd_ini (b L : Nat) (xs : Nat → Int32) (ad adK adV : Nat → Nat) (w : Value) (b0 : Nat) (σ : am_H) : Prop :=
  L ≤ 1536 ∧ (w = .null ∨ ∃ t, w = .ref t) ∧ (∀ i j, i < 3 → j < 3 → ad i = ad j → i = j) ∧ b < b0 ∧ (∀ i, i < 4 → adK i < b0 ∧ adV i < b0) ∧ σ b = some (.inr (.inr (0, L, xs))) ∧
  (∀ i, i < 4 → σ (adK i) = some (.inr (.inr (1, adV i, fun _ => 0))) ∧ σ (adV i) = some (.inr (.inr (2, cd_len.getD i 0, fun j => (cd_byt.getD i []).getD j 0)))) ∧ ∀ q e, σ q = some e → q < b0
/-- what is left, of the abstract machine alone: the law answers 1, in its room -/
def cd_claim : Prop := ∀ (b L : Nat) (xs : Nat → Int32) (ad adK adV : Nat → Nat) (w : Value) (b0 : Nat) (σ : am_H), cd_ini b L xs ad adK adV w b0 σ →
  ∃ σ' top' sl', am_to cd_t (cd_cs ad adK w) 1312 0 0 (am_ent 7 [.ref b]) [] σ b0 0 (.inl (some (.int 1)), σ', top', sl') ∧ top' ≤ b0 + 601024 ∧ sl' ≤ 7293034
section CDS
variable {p : Program} {s : State} {m : MethodId} {meth : Method} {c : Code} {b L : Nat} {xs : Nat → Int32}
theorem cd_begin (hL : L ≤ 1536) (hts : ∀ w ∈ lw_tbl, w.before #[Value.ref b] s = true) (hX : va_X b L xs s s.heap) (hb : b < s.heap.size) (hgv : (Jvm.Cond.and given_1 narrow_1).before #[Value.ref b] s = true) :
    ∃ (ad adK adV : Nat → Nat) (w : Value) (D : va_G) (σ : am_H), cd_ini b L xs ad adK adV w s.heap.size σ ∧ cd_GL (cd_cs ad adK w) s.heap.size s ∧ am_dy D cd_cl s.heap.size s σ s.heap.size s.heap := by
  have hs := flat_of_before _ hgv
  have hA : ∀ a : Nat, a < s.heap.size → ¬ s.heap.size ≤ a := fun a h => by omega
  obtain ⟨adK, adV, hS, hev⟩ := vk_Sof (args := #[Value.ref b]) (s := s) (N := 4) (tm := cd_tm) (len := cd_len) (byt := cd_byt) (A := fun q => s.heap.size ≤ q) (by decide) (fun i hi => hs _ (cd_f1 i hi)) (fun i hi => hs _ (cd_f2 i hi)) (fun i hi => hs _ (cd_f3 i hi)) (fun i hi => hs _ (cd_f4 i hi)) (fun i hi j hj => hs _ (cd_f5 i hi j hj)) (fun i j hi hj hij => (cd_f6 i hi j hj hij).imp (hs _) (hs _)) hA
  obtain ⟨ad, hE, -⟩ := va_Enof2 (args := #[Value.ref b]) (s := s) (E := "ChainDesk$Kind") (d := "LChainDesk$Kind;") (nm := cd_kn) (F := []) (A := fun q => s.heap.size ≤ q) (fun i hi => hts _ (cd_f7 i hi)) (hts _ cd_f10.1) (fun i hi => hs _ (cd_f8 i hi)) (fun q hq => by cases hq) (fun i j hi hj hij => (cd_f9 i hi j hj hij).imp (hs _) (hs _)) hA
  have hC : va_Z "java/lang/String" "COMPACT_STRINGS" "Z" (.int 1) (fun q => s.heap.size ≤ q) s s.heap := va_Zof (hts _ cd_f10.2.2.2.1) (hts _ cd_f10.2.1) (va_eqi (hs _ cd_f11.1)) hA
  obtain ⟨w, hw, hZ⟩ : ∃ w : Value, (w = .null ∨ ∃ t, w = .ref t) ∧ va_Z "jdk/internal/util/Preconditions" "SIOOBE_FORMATTER" "Ljava/util/function/BiFunction;" w (fun q => s.heap.size ≤ q) s s.heap := by
    rcases va_Zqof (A := fun q => s.heap.size ≤ q) (hts _ cd_f10.2.2.2.2) (hts _ cd_f10.2.2.1) (hs _ cd_f11.2.1) hA with h | ⟨t, h⟩
    · exact ⟨_, Or.inl rfl, h⟩
    · exact ⟨_, Or.inr ⟨t, rfl⟩, h⟩
  have hcellV : ∀ i, i < 4 → ∃ cell : Cell, s.heap[adV i]? = some cell ∧ s.isArrayOf cell .byte ∧ cell.slots.size = cd_len.getD i 0 ∧ ∀ j, j < cd_len.getD i 0 → cell.slots[j]? = some (.int ((cd_byt.getD i []).getD j 0)) := by
    intro i hi
    obtain ⟨cell, h1, h2, h3, h4, h5, h6, h7⟩ := (hS.1 i hi).2.2.2
    obtain ⟨cf, k, fi, f, cellK, g1, g2, g3, g4, g5, g6⟩ := (hS.1 i hi).2.2.1
    have hfe : (Term.field (cd_tm i) "java/lang/String" "value" "[B").eval #[Value.ref b] s none [] s = some (.ref (adV i)) := by
      obtain ⟨t, ht, hT⟩ := va_Tof (f := fun j => .int ((cd_byt.getD i []).getD j 0)) (A := fun q => s.heap.size ≤ q) (cd_l31 i hi) (hs _ (cd_f3 i hi)) (va_eqt (hs _ (cd_f4 i hi))) (fun j hj => va_eqt (hs _ (cd_f5 i hi j hj))) hA
      obtain ⟨cf2, k2, fi2, f2, cell2, e1, e2, e3, e4, e5, e6⟩ := vk_OFof (hev i hi) ht hA
      cases g1.symm.trans e1
      cases g3.symm.trans e3
      cases g5.symm.trans e5
      exact ht
    have hsz := cd_size (hs _ (cd_f4 i hi)) hfe h1
    refine ⟨cell, h1, h2, ?_, h6⟩
    have hl := cd_l31 i hi
    have h9 : Int32.ofNat cell.slots.size = Int32.ofNat (cd_len.getD i 0) := h5
    have h10 := congrArg Int32.toNatClampNeg h9
    rw [Int32.toNatClampNeg_ofNat_of_lt hsz, Int32.toNatClampNeg_ofNat_of_lt hl] at h10
    exact h10
  have hcellK : ∀ i, i < 4 → ∃ (cell : Cell) (k : Nat), s.heap[adK i]? = some cell ∧ cell.slots[k]? = some (.ref (adV i)) := by
    intro i hi
    obtain ⟨cf, k, fi, f, cellK, g1, g2, g3, g4, g5, g6⟩ := (hS.1 i hi).2.2.1
    exact ⟨cellK, f.slot, g3, g5⟩
  have hltK : ∀ i, i < 4 → adK i < s.heap.size := fun i hi => by
    obtain ⟨cell, k, h1, -⟩ := hcellK i hi
    exact (Array.getElem?_eq_some_iff.mp h1).1
  have hltV : ∀ i, i < 4 → adV i < s.heap.size := fun i hi => by
    obtain ⟨cell, h1, -⟩ := hcellV i hi
    exact (Array.getElem?_eq_some_iff.mp h1).1
  have hVK : ∀ i j, i < 4 → j < 4 → adV i ≠ adK j := by
    intro i j hi hj e
    obtain ⟨cell, h1, h2, h3, h4⟩ := hcellV i hi
    obtain ⟨cellK, k, g1, g2⟩ := hcellK j hj
    rw [e] at h1
    cases h1.symm.trans g1
    have hk : k < cd_len.getD i 0 := by rw [← h3]; exact (Array.getElem?_eq_some_iff.mp g2).1
    cases (h4 k hk).symm.trans g2
  have hVb : ∀ i, i < 4 → adV i ≠ b := by
    intro i hi e
    obtain ⟨cell, h1, ⟨-, k, hk, comp, hkk⟩, -⟩ := hcellV i hi
    obtain ⟨scr, g1, ⟨-, k', hk', comp', hkk'⟩, -⟩ := hX
    rw [e] at h1
    cases h1.symm.trans g1
    cases hk.symm.trans hk'
    cases hkk.symm.trans hkk'
  have hKb : ∀ i, i < 4 → adK i ≠ b := by
    intro i hi e
    obtain ⟨cellK, k, h1, h2⟩ := hcellK i hi
    obtain ⟨scr, g1, -, -, g4, g5⟩ := hX
    rw [e] at h1
    cases h1.symm.trans g1
    have hk : k < L := by rw [← g4]; exact (Array.getElem?_eq_some_iff.mp h2).1
    cases (g5 k hk).symm.trans h2
  have hbyt : ∀ i, i < 4 → ∀ j, j < 4 → cd_len.getD i 0 = cd_len.getD j 0 → (∀ k, k < cd_len.getD i 0 → (cd_byt.getD i []).getD k 0 = (cd_byt.getD j []).getD k 0) → i = j := by decide +kernel
  have hVV : ∀ i j, i < 4 → j < 4 → adV i = adV j → i = j := by
    intro i j hi hj e
    obtain ⟨cell, h1, h2, h3, h4⟩ := hcellV i hi
    obtain ⟨cell', g1, g2, g3, g4⟩ := hcellV j hj
    rw [e] at h1
    cases h1.symm.trans g1
    refine hbyt i hi j hj (h3.symm.trans g3) fun k hk => ?_
    have e1 := h4 k hk
    have e2 := g4 k (by rw [← g3, h3]; exact hk)
    exact Value.int.inj (Option.some.inj (e1.symm.trans e2))
  have sb : cd_s0 b L xs adK adV b = some (.inr (.inr (0, L, xs))) := by
    unfold cd_s0
    rw [if_pos rfl]
  have sV : ∀ i, i < 4 → cd_s0 b L xs adK adV (adV i) = some (.inr (.inr (2, cd_len.getD i 0, fun j => (cd_byt.getD i []).getD j 0))) := by
    intro i hi
    unfold cd_s0
    have h : ∃ i', i' < 4 ∧ adV i' = adV i := ⟨i, hi, rfl⟩
    have e : h.choose = i := hVV _ _ h.choose_spec.1 hi h.choose_spec.2
    rw [if_neg (hVb i hi), dif_pos h, e]
  have sK : ∀ i, i < 4 → cd_s0 b L xs adK adV (adK i) = some (.inr (.inr (1, adV i, fun _ => 0))) := by
    intro i hi
    unfold cd_s0
    have h : ∃ i', i' < 4 ∧ adK i' = adK i := ⟨i, hi, rfl⟩
    have e : h.choose = i := hS.2 _ _ h.choose_spec.1 hi h.choose_spec.2
    have hn : ¬ ∃ i', i' < 4 ∧ adV i' = adK i := fun ⟨i', h1, h2⟩ => hVK i' i h1 hi h2
    rw [if_neg (hKb i hi), dif_neg hn, dif_pos h, e]
  have sI : ∀ q e, cd_s0 b L xs adK adV q = some e → (q = b ∧ e = .inr (.inr (0, L, xs))) ∨ (∃ i, i < 4 ∧ q = adV i ∧ e = .inr (.inr (2, cd_len.getD i 0, fun j => (cd_byt.getD i []).getD j 0))) ∨ ∃ i, i < 4 ∧ q = adK i ∧ e = .inr (.inr (1, adV i, fun _ => 0)) := by
    intro q e h
    unfold cd_s0 at h
    split at h
    · next hq => cases h; exact Or.inl ⟨hq, rfl⟩
    · split at h
      · next hq => cases h; exact Or.inr (Or.inl ⟨_, hq.choose_spec.1, hq.choose_spec.2.symm, rfl⟩)
      · split at h
        · next hq => cases h; exact Or.inr (Or.inr ⟨_, hq.choose_spec.1, hq.choose_spec.2.symm, rfl⟩)
        · cases h
  have hcl : ∀ k : Nat, ∃ q : ClassId × (Nat → Nat), ∀ r : vw_C, cd_cl[k]? = some r → u_Kn s r.1 r.2.1 r.2.2 q.1 q.2 := by
    intro k
    cases hr : cd_cl[k]? with
    | none => exact ⟨(0, fun _ => 0), fun r h => by cases h⟩
    | some r =>
      have hk : k < 14 := (List.getElem?_eq_some_iff.mp hr).1
      have hi := hts _ (cd_f15 k hk)
      rw [← cd_cls_nm hr] at hi
      obtain ⟨cC, iS, h⟩ := u_known (C := r.1) (T := r.2.1) (N := r.2.2) hts (fun w hw => by
        obtain ⟨j, hj, rfl⟩ := List.mem_map.mp hw
        have h1 := (cd_cls_f hr (List.mem_range.mp hj)).1
        unfold cd_w at h1
        rw [Bool.and_eq_true] at h1
        exact cd_at_mem h1.1) hi
      exact ⟨(cC, iS), fun r' hr' => by cases hr'; exact h⟩
  obtain ⟨D0, hD0⟩ := Classical.axiomOfChoice hcl
  refine ⟨ad, adK, adV, w, (fun k => (D0 k).1, fun k => (D0 k).2), cd_s0 b L xs adK adV, ⟨hL, hw, fun i j hi hj => hE.2 i j hi hj, hb, fun i hi => ⟨hltK i hi, hltV i hi⟩, sb, fun i hi => ⟨sK i hi, sV i hi⟩, fun q e h => ?_⟩, ?_, ?_⟩
  · rcases sI q e h with ⟨rfl, -⟩ | ⟨i, hi, rfl, -⟩ | ⟨i, hi, rfl, -⟩
    · exact hb
    · exact hltV i hi
    · exact hltK i hi
  · refine ⟨fun w' hw' hg a => word_at (State.WarmedH.refl s) (good_of_word hg) (hts w' hw'), fun w' hw' hn => ?_, fun q hq => ?_, fun C hC2 => va_AO.of (hts _ (cd_f13 C hC2)), fun q hq => ?_, fun q hq => ?_, fun i j hi hj => ⟨cd_nocast (hs _ cd_f11.2.2.1) hi hj, cd_nocast (hs _ cd_f11.2.2.2.1) hj hi⟩⟩
    · have h0 := hts w' hw'
      cases w' <;> first | exact va_Nw.of rfl h0 | cases hn
    · have h1 := hts _ (cd_f14 q hq)
      have e0 := hev 0 (by decide)
      have e1 := hev 1 (by decide)
      have e2 := hev 2 (by decide)
      have e3 := hev 3 (by decide)
      have e4 := cd_eqr (hs _ cd_f11.2.2.2.2) e3
      unfold cd_sr at hq
      simp only [List.mem_cons, List.not_mem_nil, or_false] at hq
      rcases hq with rfl | rfl | rfl | rfl | rfl
      · exact ⟨adK 0, rfl, vk_R.of h1 e0⟩
      · exact ⟨adK 1, rfl, vk_R.of h1 e1⟩
      · exact ⟨adK 2, rfl, vk_R.of h1 e2⟩
      · exact ⟨adK 3, rfl, vk_R.of h1 e3⟩
      · exact ⟨adK 3, rfl, vk_R.of h1 e4⟩
    · unfold cd_st at hq
      simp only [List.mem_cons, List.not_mem_nil, or_false] at hq
      rcases hq with rfl | rfl | rfl | rfl | rfl
      · exact (hE.1 0 (by decide)).1
      · exact (hE.1 1 (by decide)).1
      · exact (hE.1 2 (by decide)).1
      · exact hC
      · exact hZ
    · exact cd_Sof (hts _ (cd_f12 q hq).1) (hs _ (cd_f12 q hq).2) hA
  · refine ⟨rfl, Nat.le_refl _, [], ⟨fun k r hr => hD0 k r hr, fun k q hq => by cases hq⟩, fun q e h => ?_⟩
    rcases sI q e h with ⟨rfl, rfl⟩ | ⟨i, hi, rfl, rfl⟩ | ⟨i, hi, rfl, rfl⟩
    · exact ⟨hb, hb, hX⟩
    · exact ⟨hltV i hi, hltV i hi, (hS.1 i hi).2.2.2⟩
    · exact ⟨hltK i hi, hltK i hi, (hS.1 i hi).1, (hS.1 i hi).2.1, (hS.1 i hi).2.2.1⟩
end CDS
end
section
/-- the law's walk, out of the abstract machine's run -/
theorem cd_start (H : cd_claim) {p : Program} {e : Env} {s : State} {m : MethodId} {below : List Frame} {meth : Method} {c : Code} (l : Launch) (hfl : l.flags = pinnedFlags ++ [noTraceFlag]) {b L : Nat} {xs : Nat → Int32} (hL : L ≤ 1536) (hx : p.tables.exec = Jvm.exec) (hb : c.code = code) (hr : meth.sig.returnType = ret) (hml : c.maxLocals = 7) (hown : s.vm.findClass "ChainDeskLaw" = some m.cls)
    (hts : ∀ w ∈ lw_tbl, w.before #[Value.ref b] s = true) (hX : va_X b L xs s s.heap) (hbl : b < s.heap.size) (hlocks : meth.locks = false) (hgv : (Jvm.Cond.and given_1 narrow_1).before #[Value.ref b] s = true) (hmn : meth.name = "law") (htab : c.exceptionTable.isEmpty = true) {Q : State → Prop}
    (hend : ∀ (pc : Nat) (H1 : Heap) (ls : Array Slot), decode code pc = .ok (.ireturn, 1) → W p l e room_1 s m #[Value.ref b] below meth c H1 [] 601024 7293034 Q (F0 m pc ls [.int 1])) :
    W p l e room_1 s m #[Value.ref b] below meth c s.heap [] 0 0 Q (entryFrame m ([Value.ref b] : List Value).toArray 7) := by
  obtain ⟨ad, adK, adV, w, D, σ, hini, hGL, hdy⟩ := cd_begin hL hts hX hbl hgv
  obtain ⟨σ', top', sl', ⟨n, hrun⟩, ht, hsl⟩ := H b L xs ad adK adV w _ σ hini
  have hS := am_sound (cd_good (cd_cs ad adK w) s.heap.size) (cd_bok (cd_cs ad adK w) s.heap.size D l) hfl rfl n
  have hl := lv_entry [Value.ref b] (n := 7) (by show 1 ≤ 7; decide)
  rw [lg_entry_eq]
  refine hS 1312 0 0 _ [] σ s.heap.size 0 _ hrun p e room_1 s m #[Value.ref b] below meth c Q s.heap.size 0 ⟨hx, hb, hml, hown, (fun w hw => by cases hw), hGL, hmn, (by show 1312 ≤ 2048; decide), (by show 64 * 1312 ≤ 84000; decide), ?_, ?_, ?_, hlocks⟩ ?_ ?_ _ s.heap [] 0 0 ⟨am_ent_ls (by show 1 ≤ 7; decide) rfl hl, hdy, va_S.rf, Nat.zero_add _, Nat.zero_add _⟩
  · show top' ≤ 601024 + s.heap.size
    omega
  · show sl' ≤ 7293034 + 0
    omega
  · have h2 := Array.isEmpty_iff.mp htab
    rw [h2]
    rfl
  · intro pc' lv' st' i u v hI he
    obtain ⟨hdec, -, -, hro⟩ := (cd_good (cd_cs ad adK w) s.heap.size).2.2.2.1 0 pc' i u v hI s #[Value.ref b] meth hGL (fun w hw => by cases hw) hmn
    intro ls H1 locs cells slots h
    have hcells := h.2.2.2
    refine va_forget (fun q hq => h.2.2.1.2.2 q hq) (W.widen (k := 601024) (n := 7293034) ?_ ?_ ?_)
    · have h1 : cells + s.heap.size = top' := hcells.1
      omega
    · have h1 : slots + 0 = sl' := hcells.2
      omega
    · cases i with
      | ireturn =>
        dsimp only [am_end] at he
        split at he
        · split at he
          · cases he
            exact hend pc' H1 ls (am_dec1 hdec rfl)
          · cases he
        · cases he
      | areturn =>
        dsimp only [am_end] at he
        split at he
        · split at he <;> cases he
        · split at he <;> cases he
        · cases he
      | return_ =>
        dsimp only [am_end] at he
        split at he <;> cases he
      | _ => exact absurd (show (none : Option (Option Value ⊕ Nat)) = some (.inl (some (.int 1))) from he) (fun z => by cases z)
  · intro pc' lv' st' σ1 top1 sl1 i u v hI hk hd hs hres
    cases hres
end
