def am_decb (cc : ByteArray) (pc : Nat) (i : Instr) : Bool := match decode cc pc with
  | .ok (j, n) => decide (j = i) && (am_sw i || Nat.beq n (am_len i))
  | _ => false
theorem am_decb_ok {cc : ByteArray} {pc : Nat} {i : Instr} (h : am_decb cc pc i = true) : am_dec cc pc i := by
  unfold am_decb at h
  split at h
  · next j n e =>
    simp only [Bool.and_eq_true, decide_eq_true_eq, Bool.or_eq_true] at h
    obtain ⟨rfl, h⟩ := h
    cases hs : am_sw j with
    | true => exact Or.inl ⟨hs, n, e⟩
    | false =>
      rcases h with h | h
      · rw [hs] at h
        cases h
      · have := Nat.eq_of_beq_eq_true h
        subst this
        exact Or.inr ⟨hs, e⟩
  · cases h
/-- the word w stands at place p of the tables' words -/
def cd_at (p : Nat) (w : Cond) : Bool := decide (lw_tbl[p]? = some w)
def cd_w (p : Nat) (w : Cond) : Bool := cd_at p w && goodWord w
theorem cd_at_mem {p : Nat} {w : Cond} (h : cd_at p w = true) : w ∈ lw_tbl := List.mem_of_getElem? (of_decide_eq_true h)
/-- String constants: who loads it, its entry, its number, its text -/
def cd_sr : List (String × Nat × Nat × String) := [("ChainDesk$DeclarationReader", 44, 10, "private "), ("ChainDesk$DeclarationReader", 50, 11, "new("), ("ChainDesk$DeclarationReader", 88, 12, "static "), ("ChainDesk$Completer", 124, 13, "new "), ("ChainDesk$ExpressionReader", 48, 13, "new ")]
/-- statics that are read -/
def cd_st : List (Nat × String × String × String) := [(0, "ChainDesk$Kind", "FIELD", "LChainDesk$Kind;"), (1, "ChainDesk$Kind", "METHOD", "LChainDesk$Kind;"), (2, "ChainDesk$Kind", "MAKER", "LChainDesk$Kind;"), (3, "java/lang/String", "COMPACT_STRINGS", "Z"), (4, "jdk/internal/util/Preconditions", "SIOOBE_FORMATTER", "Ljava/util/function/BiFunction;")]
/-- classes of whose objects there are arrays -/
def cd_ao : List String := ["ChainDesk$Declaration", "ChainDesk$Shelf", "ChainDesk$Phrase", "ChainDesk$Member"]
/-- how a method is called (0: a static one, 1: on an object, 2: a constructor), and where its words stand: code, class, method, selects -/
def cd_mpL : List (Nat × Nat × Nat × Nat × Nat) := [(9, 0, 0, 0, 0), (2, 89, 60, 88, 0), (2, 97, 61, 96, 0), (2, 114, 62, 113, 0), (2, 134, 63, 133, 0), (2, 154, 64, 153, 0), (2, 167, 65, 166, 0), (2, 187, 66, 186, 0), (2, 196, 67, 195, 0), (2, 220, 68, 219, 0), (1, 280, 60, 278, 279), (1, 284, 61, 282, 283), (1, 288, 60, 286, 287), (1, 292, 60, 290, 291), (1, 296, 60, 294, 295), (0, 299, 60, 298, 0), (1, 303, 62, 301, 302), (1, 307, 60, 305, 306), (1, 311, 66, 309, 310), (1, 315, 60, 313, 314), (1, 319, 67, 317, 318), (1, 323, 60, 321, 322), (1, 327, 62, 325, 326), (1, 331, 60, 329, 330), (0, 334, 60, 333, 0), (1, 342, 62, 340, 341), (1, 347, 62, 345, 346), (1, 353, 62, 351, 352), (1, 357, 70, 355, 356), (1, 361, 75, 359, 360), (1, 365, 62, 363, 364), (1, 374, 60, 372, 373), (1, 378, 64, 376, 377), (1, 382, 61, 380, 381), (1, 387, 61, 385, 386), (1, 391, 61, 389, 390), (2, 397, 70, 396, 0), (1, 426, 64, 424, 425), (1, 430, 64, 429, 0), (1, 435, 61, 433, 434), (1, 439, 71, 437, 438), (1, 443, 71, 441, 442), (1, 449, 71, 447, 448), (1, 453, 71, 451, 452), (0, 456, 72, 455, 0), (0, 459, 71, 458, 0), (0, 464, 73, 463, 0), (1, 488, 64, 487, 1), (2, 494, 75, 493, 0), (1, 541, 64, 540, 2), (1, 545, 61, 543, 544), (1, 550, 61, 549, 3), (1, 554, 75, 552, 553), (1, 558, 64, 557, 4), (1, 563, 61, 561, 562), (1, 569, 70, 567, 568), (1, 575, 70, 574, 5), (1, 579, 75, 577, 578), (1, 583, 70, 581, 582), (1, 587, 61, 585, 586), (1, 591, 61, 589, 590), (1, 657, 62, 655, 656), (1, 679, 60, 677, 678), (1, 683, 63, 681, 682), (1, 687, 60, 686, 7), (1, 694, 63, 692, 693), (1, 699, 63, 697, 698), (1, 706, 60, 704, 705), (1, 713, 60, 711, 712), (1, 717, 66, 715, 716), (1, 721, 66, 720, 8), (1, 725, 67, 723, 724), (1, 729, 67, 727, 728), (1, 733, 68, 731, 732), (1, 737, 68, 735, 736), (1, 741, 67, 739, 740), (1, 745, 67, 743, 744), (1, 749, 67, 747, 748), (1, 756, 66, 754, 755), (1, 760, 66, 759, 9), (1, 768, 67, 766, 767), (1, 774, 67, 772, 773), (1, 779, 66, 778, 10), (1, 784, 66, 783, 11), (1, 790, 67, 788, 789), (1, 797, 66, 796, 12), (1, 802, 66, 800, 801), (1, 809, 60, 807, 808), (1, 813, 65, 811, 812), (1, 817, 65, 816, 13), (1, 821, 65, 820, 14), (1, 828, 62, 826, 827), (1, 832, 62, 831, 15), (1, 836, 65, 835, 16), (1, 841, 65, 840, 17), (1, 849, 65, 848, 18), (1, 855, 62, 853, 854), (1, 859, 65, 858, 19), (2, 866, 69, 865, 0), (1, 990, 69, 988, 989), (1, 994, 69, 992, 993), (0, 997, 69, 996, 0), (1, 1001, 69, 999, 1000), (1, 1005, 69, 1004, 20), (1, 1009, 69, 1008, 21), (1, 1013, 69, 1012, 22), (0, 1016, 69, 1015, 0), (1, 1020, 69, 1019, 23), (1, 1024, 69, 1023, 24), (1, 1028, 69, 1027, 25), (1, 1032, 69, 1031, 26), (1, 1036, 69, 1035, 27), (1, 1040, 69, 1039, 28), (1, 1044, 69, 1043, 29), (1, 1048, 69, 1047, 30), (0, 1051, 69, 1050, 0), (0, 1054, 69, 1053, 0), (1, 1058, 69, 1057, 31), (0, 1061, 69, 1060, 0), (1, 1065, 69, 1064, 32), (1, 1069, 69, 1068, 33), (1, 1073, 69, 1072, 34), (1, 1077, 69, 1076, 35), (1, 1081, 69, 1079, 1080), (1, 1085, 69, 1084, 36), (1, 1089, 69, 1087, 1088), (1, 1093, 69, 1091, 1092), (1, 1097, 69, 1095, 1096), (1, 1101, 69, 1100, 37), (1, 1105, 69, 1104, 38), (1, 1109, 69, 1107, 1108), (1, 1113, 69, 1112, 39), (1, 1117, 69, 1116, 40), (1, 1121, 69, 1120, 41), (1, 1125, 69, 1124, 42), (1, 1129, 69, 1128, 43), (1, 1133, 69, 1132, 44), (1, 1137, 69, 1136, 45), (1, 1141, 69, 1140, 46), (1, 1145, 69, 1144, 47), (1, 1149, 69, 1148, 48), (1, 1153, 69, 1152, 49), (1, 1157, 69, 1156, 50), (1, 1161, 69, 1160, 51), (1, 1165, 69, 1164, 52), (1, 1169, 69, 1168, 53), (1, 1173, 69, 1171, 1172), (1, 1177, 69, 1176, 54), (1, 1181, 69, 1180, 55), (1, 1185, 69, 1184, 56), (1, 1189, 69, 1188, 57), (1, 1193, 69, 1192, 58), (1, 1197, 69, 1195, 1196), (1, 1201, 69, 1199, 1200), (1, 1205, 69, 1203, 1204), (1, 1209, 69, 1207, 1208), (1, 1213, 69, 1211, 1212), (0, 368, 59, 367, 0), (0, 675, 59, 674, 0), (0, 702, 59, 701, 0), (0, 709, 59, 708, 0), (0, 805, 59, 804, 0)]
def cd_mp (u : Nat) : Nat × Nat × Nat × Nat × Nat := cd_mpL.getD u (9, 0, 0, 0, 0)
def cd_mchk (u : Nat) : Bool :=
  cd_w (cd_mp u).2.1 (am_hc cd_t cd_yn cd_bt cd_rtt u) && (cd_w (cd_mp u).2.2.1 (.initialized (cd_yn u).cls) && (Nat.ble (cd_ml u) 45 && (decide ((cd_yn u).cls ≠ "java/lang/invoke/MethodHandle") && (decide ((cd_yn u).cls ≠ "java/lang/invoke/VarHandle") &&
  (match (cd_mp u).1 with
    | 0 => cd_w (cd_mp u).2.2.2.1 (.static (cd_yn u))
    | 1 => cd_w (cd_mp u).2.2.2.1 (.instanceMethod (cd_yn u)) && (cd_w (cd_mp u).2.2.2.2 (.selects (cd_yn u).cls (cd_yn u) (cd_yn u)) && decide (cd_nm (cd_mc u) = (cd_yn u).cls))
    | 2 => cd_w (cd_mp u).2.2.2.1 (.instanceMethod (cd_yn u)) && (decide ((cd_yn u).name = "<init>") && (cd_rtt u).isNone)
    | _ => false)))))
def cd_link (p : Nat) (own : String) (idx u v : Nat) : Bool := (cd_w p (.methodLink own idx (cd_yn u)) || cd_at p (.methodLinkNest own idx (cd_yn u) "ChainDesk")) && decide ((parseMethodDescriptor (cd_yn u).desc).map (fun d => d.parameters.length) = some v)
/-- who throws, its entry of the constructor, the class -/
def cd_tl : List (String × Nat × String) := [("ChainDesk", 82, "java/lang/IllegalArgumentException"), ("ChainDesk", 88, "java/lang/IllegalStateException")]
/-- what must hold of a row -/
def cd_chk (y : Nat) (q : Nat × Instr × Nat × Nat × List Nat) : Bool := am_decb (cd_bt y) q.1 q.2.1 && (match q.2.1 with
  | .ldc idx => decide (((cd_yn y).cls, idx, q.2.2.1) ∈ cd_sr.map (fun z => (z.1, z.2.1, z.2.2.1)))
  | .getstatic idx => match cd_st.find? (fun z => Nat.beq z.1 q.2.2.1) with
    | some z => cd_w (q.2.2.2.2.getD 0 0) (.fieldLink (cd_yn y).cls idx z.2.1 z.2.2.1 z.2.2.2)
    | none => false
  | .goto off => decide ((q.1 : Int) + off = (q.2.2.1 : Int))
  | .ifCond _ off => decide ((q.1 : Int) + off = (q.2.2.1 : Int))
  | .if_icmp _ off => decide ((q.1 : Int) + off = (q.2.2.1 : Int))
  | .if_acmp _ off => decide ((q.1 : Int) + off = (q.2.2.1 : Int))
  | .ifnull off => decide ((q.1 : Int) + off = (q.2.2.1 : Int))
  | .ifnonnull off => decide ((q.1 : Int) + off = (q.2.2.1 : Int))
  | .getfield idx => bif Nat.beq q.2.2.1 50 then (bif Nat.beq q.2.2.2.1 0 then cd_w (q.2.2.2.2.getD 0 0) (.fieldLink (cd_yn y).cls idx "java/lang/String" "value" "[B") else cd_w (q.2.2.2.2.getD 0 0) (.fieldLink (cd_yn y).cls idx "java/lang/String" "coder" "B")) else match cd_cl[q.2.2.1]? with
    | some r => Nat.blt q.2.2.2.1 r.2.2 && (cd_w (q.2.2.2.2.getD 0 0) (.fieldLink (cd_yn y).cls idx r.1 (r.2.1 q.2.2.2.1).2.1 (r.2.1 q.2.2.2.1).2.2.1) || cd_at (q.2.2.2.2.getD 0 0) (.fieldLinkNest (cd_yn y).cls idx r.1 (r.2.1 q.2.2.2.1).2.1 (r.2.1 q.2.2.2.1).2.2.1 "ChainDesk"))
    | none => false
  | .putfield idx => match cd_cl[q.2.2.1]? with
    | some r => Nat.blt q.2.2.2.1 r.2.2 && ((cd_w (q.2.2.2.2.getD 0 0) (.fieldLink (cd_yn y).cls idx r.1 (r.2.1 q.2.2.2.1).2.1 (r.2.1 q.2.2.2.1).2.2.1) && (!(r.2.1 q.2.2.2.1).2.2.2 || (decide ((cd_yn y).name = "<init>") && decide ((cd_yn y).cls = r.1)))) || (!(r.2.1 q.2.2.2.1).2.2.2 && cd_at (q.2.2.2.2.getD 0 0) (.fieldLinkNest (cd_yn y).cls idx r.1 (r.2.1 q.2.2.2.1).2.1 (r.2.1 q.2.2.2.1).2.2.1 "ChainDesk")))
    | none => false
  | .new idx => match cd_cl[q.2.2.1]? with
    | some r => cd_w (q.2.2.2.2.getD 0 0) (.classLink (cd_yn y).cls idx r.1) && (cd_w (q.2.2.2.2.getD 1 0) (.instantiable r.1 (cd_ns q.2.2.1)) && (cd_w (q.2.2.2.2.getD 2 0) (.initialized r.1) &&
      (bif Nat.ble 12 q.2.2.1 then (cd_hs y).isEmpty && (Nat.beq (cd_ns q.2.2.1) 6 && (Nat.beq r.2.2 0 && (am_decb (cd_bt y) (q.1 + 3) .dup && (am_decb (cd_bt y) (q.1 + 4) (.invokespecial q.2.2.2.1) && (am_decb (cd_bt y) (q.1 + 7) .athrow && decide (((cd_yn y).cls, q.2.2.2.1, r.1) ∈ cd_tl)))))) else true)))
    | none => false
  | .newarray at_ => cd_w (q.2.2.2.2.getD 0 0) (.arrayClass (newarray.typeOf at_))
  | .anewarray idx => cd_w (q.2.2.2.2.getD 0 0) (.classLink (cd_yn y).cls idx (cd_nm q.2.2.1)) && decide (cd_nm q.2.2.1 ∈ cd_ao)
  | .invokespecial idx => bif Nat.beq q.2.2.1 1000 then cd_w (q.2.2.2.2.getD 0 0) (.methodLink (cd_yn y).cls idx objectInit) && (cd_w (q.2.2.2.2.getD 1 0) (.instanceMethod objectInit) && cd_w (q.2.2.2.2.getD 2 0) (.code objectInit ⟨#[0xb1]⟩ 1 none))
    else Nat.ble 1 q.2.2.1 && (Nat.blt q.2.2.1 1000 && (Nat.beq (cd_mp q.2.2.1).1 2 && (cd_link (q.2.2.2.2.getD 0 0) (cd_yn y).cls idx q.2.2.1 q.2.2.2.1 && ((cd_hs q.2.2.1).isEmpty && (cd_hs y).isEmpty))))
  | .invokestatic idx => bif Nat.blt 1000 q.2.2.1 then (bif Nat.beq q.2.2.1 1003 then Nat.beq q.2.2.2.1 2 && (cd_w (q.2.2.2.2.getD 0 0) (.methodLink (cd_yn y).cls idx Lib.Math.min.name) && (cd_w (q.2.2.2.2.getD 1 0) (.static Lib.Math.min.name) && (cd_w (q.2.2.2.2.getD 2 0) (.initialized "java/lang/Math") && cd_w (q.2.2.2.2.getD 3 0) (.code Lib.Math.min.name Lib.Math.min.code 2 (some .int)))))
      else Nat.beq q.2.2.1 1004 && (Nat.beq q.2.2.2.1 5 && (cd_w (q.2.2.2.2.getD 0 0) (.methodLink (cd_yn y).cls idx arraycopyName) && (cd_w (q.2.2.2.2.getD 1 0) (.native arraycopyName) && (cd_w (q.2.2.2.2.getD 2 0) (.static arraycopyName) && cd_w (q.2.2.2.2.getD 3 0) (.initialized "java/lang/System"))))))
    else Nat.ble 1 q.2.2.1 && (Nat.blt q.2.2.1 1000 && (Nat.beq (cd_mp q.2.2.1).1 0 && (cd_link (q.2.2.2.2.getD 0 0) (cd_yn y).cls idx q.2.2.1 q.2.2.2.1 && ((cd_hs y).isEmpty && ((cd_hs q.2.2.1).isEmpty || cd_w (q.2.2.2.2.getD 0 0) (.methodLink (cd_yn y).cls idx (cd_yn q.2.2.1)))))))
  | .invokevirtual idx => Nat.ble 1 q.2.2.1 && (Nat.blt q.2.2.1 1000 && (Nat.beq (cd_mp q.2.2.1).1 1 && (cd_link (q.2.2.2.2.getD 0 0) (cd_yn y).cls idx q.2.2.1 q.2.2.2.1 && ((cd_hs q.2.2.1).isEmpty && ((cd_hs y).isEmpty || cd_w (q.2.2.2.2.getD 0 0) (.methodLink (cd_yn y).cls idx (cd_yn q.2.2.1)))))))
  | .ireturn => (cd_rtt y).isSome
  | .areturn => (cd_rtt y).isSome
  | .return_ => (cd_rtt y).isNone
  | _ => true)
