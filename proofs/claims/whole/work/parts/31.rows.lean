/-- ChainDeskLaw.law([I)Z -/
def cd_r0 : List (Nat × Instr × Nat × Nat × List Nat) := [
  (0, .new 8, 0, 0, [85, 86, 60]), (3, .dup, 0, 0, []), (4, .invokespecial 31, 1, 0, [87, 88, 60, 89]), (7, .astore_n 1, 0, 0, []),
  (8, .new 32, 11, 0, [862, 863, 69]), (11, .dup, 0, 0, []), (12, .invokespecial 34, 98, 0, [864, 865, 69, 866]), (15, .astore_n 2, 0, 0, []),
  (16, .iconst 1, 0, 0, []), (17, .newarray .long, 0, 0, [1214]), (19, .astore_n 3, 0, 0, []), (20, .iconst 0, 0, 0, []),
  (21, .istore 4, 0, 0, []), (23, .iload 4, 0, 0, []), (25, .aload_n 0, 0, 0, []), (26, .arraylength, 0, 0, []),
  (27, .iconst 3, 0, 0, []), (28, .isub, 0, 0, []), (29, .if_icmp .gt 551, 580, 0, []), (32, .aload_n 0, 0, 0, []),
  (33, .iload 4, 0, 0, []), (35, .iaload, 0, 0, []), (36, .bipush 15, 0, 0, []), (38, .iand, 0, 0, []),
  (39, .tableswitch 535 0 12 #[65, 102, 146, 190, 201, 237, 305, 349, 362, 399, 436, 473, 498], 0, 0, []), (104, .aload_n 1, 0, 0, []), (105, .aload_n 0, 0, 0, []), (106, .iload 4, 0, 0, []),
  (108, .iconst 1, 0, 0, []), (109, .iadd, 0, 0, []), (110, .iaload, 0, 0, []), (111, .aload_n 0, 0, 0, []),
  (112, .iload 4, 0, 0, []), (114, .iconst 2, 0, 0, []), (115, .iadd, 0, 0, []), (116, .iaload, 0, 0, []),
  (117, .invokevirtual 35, 10, 2, [277, 278, 279, 60, 280]), (120, .aload_n 2, 0, 0, []), (121, .aload_n 0, 0, 0, []), (122, .iload 4, 0, 0, []),
  (124, .iconst 1, 0, 0, []), (125, .iadd, 0, 0, []), (126, .iaload, 0, 0, []), (127, .aload_n 0, 0, 0, []),
  (128, .iload 4, 0, 0, []), (130, .iconst 2, 0, 0, []), (131, .iadd, 0, 0, []), (132, .iaload, 0, 0, []),
  (133, .invokevirtual 39, 100, 2, [991, 992, 993, 69, 994]), (136, .if_icmp .eq 438, 574, 0, []), (139, .iconst 0, 0, 0, []), (140, .ireturn, 0, 0, []),
  (141, .aload_n 1, 0, 0, []), (142, .aload_n 3, 0, 0, []), (143, .invokestatic 40, 157, 2, [366, 367, 59, 368]), (146, .istore 5, 0, 0, []),
  (148, .aload_n 2, 0, 0, []), (149, .invokevirtual 45, 102, 0, [998, 999, 1000, 69, 1001]), (152, .istore 6, 0, 0, []), (154, .aload_n 2, 0, 0, []),
  (155, .invokevirtual 46, 99, 0, [987, 988, 989, 69, 990]), (158, .iload 5, 0, 0, []), (160, .if_icmp .eq 5, 165, 0, []), (163, .iconst 0, 0, 0, []),
  (164, .ireturn, 0, 0, []), (165, .iload 5, 0, 0, []), (167, .ifCond .ne 15, 182, 0, []), (170, .aload_n 3, 0, 0, []),
  (171, .iconst 0, 0, 0, []), (172, .laload, 0, 0, []), (173, .iload 6, 0, 0, []), (175, .i2l, 0, 0, []),
  (176, .lcmp, 0, 0, []), (177, .ifCond .eq 5, 182, 0, []), (180, .iconst 0, 0, 0, []), (181, .ireturn, 0, 0, []),
  (182, .goto 392, 574, 0, []), (185, .aload_n 1, 0, 0, []), (186, .aload_n 3, 0, 0, []), (187, .invokestatic 49, 158, 2, [673, 674, 59, 675]),
  (190, .istore 5, 0, 0, []), (192, .aload_n 2, 0, 0, []), (193, .invokevirtual 51, 123, 0, [1078, 1079, 1080, 69, 1081]), (196, .istore 6, 0, 0, []),
  (198, .aload_n 2, 0, 0, []), (199, .invokevirtual 46, 99, 0, [987, 988, 989, 69, 990]), (202, .iload 5, 0, 0, []), (204, .if_icmp .eq 5, 209, 0, []),
  (207, .iconst 0, 0, 0, []), (208, .ireturn, 0, 0, []), (209, .iload 5, 0, 0, []), (211, .ifCond .ne 15, 226, 0, []),
  (214, .aload_n 3, 0, 0, []), (215, .iconst 0, 0, 0, []), (216, .laload, 0, 0, []), (217, .iload 6, 0, 0, []),
  (219, .i2l, 0, 0, []), (220, .lcmp, 0, 0, []), (221, .ifCond .eq 5, 226, 0, []), (224, .iconst 0, 0, 0, []),
  (225, .ireturn, 0, 0, []), (226, .goto 348, 574, 0, []), (229, .aload_n 1, 0, 0, []), (230, .invokevirtual 52, 12, 0, [285, 286, 287, 60, 288]),
  (233, .aload_n 2, 0, 0, []), (234, .invokevirtual 55, 125, 0, [1086, 1087, 1088, 69, 1089]), (237, .goto 337, 574, 0, []), (240, .aload_n 1, 0, 0, []),
  (241, .aload_n 0, 0, 0, []), (242, .iload 4, 0, 0, []), (244, .iconst 1, 0, 0, []), (245, .iadd, 0, 0, []),
  (246, .iaload, 0, 0, []), (247, .invokestatic 56, 159, 2, [700, 701, 59, 702]), (250, .istore 5, 0, 0, []), (252, .aload_n 2, 0, 0, []),
  (253, .aload_n 0, 0, 0, []), (254, .iload 4, 0, 0, []), (256, .iconst 1, 0, 0, []), (257, .iadd, 0, 0, []),
  (258, .iaload, 0, 0, []), (259, .invokevirtual 59, 126, 1, [1090, 1091, 1092, 69, 1093]), (262, .aload_n 2, 0, 0, []), (263, .invokevirtual 46, 99, 0, [987, 988, 989, 69, 990]),
  (266, .iload 5, 0, 0, []), (268, .if_icmp .eq 5, 273, 0, []), (271, .iconst 0, 0, 0, []), (272, .ireturn, 0, 0, []),
  (273, .goto 301, 574, 0, []), (276, .aload_n 1, 0, 0, []), (277, .aload_n 0, 0, 0, []), (278, .iload 4, 0, 0, []),
  (280, .iconst 1, 0, 0, []), (281, .iadd, 0, 0, []), (282, .iaload, 0, 0, []), (283, .aload_n 0, 0, 0, []),
  (284, .iload 4, 0, 0, []), (286, .iconst 2, 0, 0, []), (287, .iadd, 0, 0, []), (288, .iaload, 0, 0, []),
  (289, .aload_n 3, 0, 0, []), (290, .invokestatic 60, 160, 4, [707, 708, 59, 709]), (293, .istore 5, 0, 0, []), (295, .aload_n 2, 0, 0, []),
  (296, .aload_n 0, 0, 0, []), (297, .iload 4, 0, 0, []), (299, .iconst 1, 0, 0, []), (300, .iadd, 0, 0, []),
  (301, .iaload, 0, 0, []), (302, .aload_n 0, 0, 0, []), (303, .iload 4, 0, 0, []), (305, .iconst 2, 0, 0, []),
  (306, .iadd, 0, 0, []), (307, .iaload, 0, 0, []), (308, .invokevirtual 63, 130, 2, [1106, 1107, 1108, 69, 1109]), (311, .istore 6, 0, 0, []),
  (313, .aload_n 2, 0, 0, []), (314, .invokevirtual 46, 99, 0, [987, 988, 989, 69, 990]), (317, .iload 5, 0, 0, []), (319, .if_icmp .eq 5, 324, 0, []),
  (322, .iconst 0, 0, 0, []), (323, .ireturn, 0, 0, []), (324, .iload 5, 0, 0, []), (326, .ifCond .ne 15, 341, 0, []),
  (329, .aload_n 3, 0, 0, []), (330, .iconst 0, 0, 0, []), (331, .laload, 0, 0, []), (332, .iload 6, 0, 0, []),
  (334, .i2l, 0, 0, []), (335, .lcmp, 0, 0, []), (336, .ifCond .eq 5, 341, 0, []), (339, .iconst 0, 0, 0, []),
  (340, .ireturn, 0, 0, []), (341, .goto 233, 574, 0, []), (344, .aload_n 1, 0, 0, []), (345, .aload_n 3, 0, 0, []),
  (346, .invokestatic 64, 161, 2, [803, 804, 59, 805]), (349, .istore 5, 0, 0, []), (351, .aload_n 2, 0, 0, []), (352, .invokevirtual 66, 146, 0, [1170, 1171, 1172, 69, 1173]),
  (355, .istore 6, 0, 0, []), (357, .aload_n 2, 0, 0, []), (358, .invokevirtual 46, 99, 0, [987, 988, 989, 69, 990]), (361, .iload 5, 0, 0, []),
  (363, .if_icmp .eq 5, 368, 0, []), (366, .iconst 0, 0, 0, []), (367, .ireturn, 0, 0, []), (368, .iload 5, 0, 0, []),
  (370, .ifCond .ne 15, 385, 0, []), (373, .aload_n 3, 0, 0, []), (374, .iconst 0, 0, 0, []), (375, .laload, 0, 0, []),
  (376, .iload 6, 0, 0, []), (378, .i2l, 0, 0, []), (379, .lcmp, 0, 0, []), (380, .ifCond .eq 5, 385, 0, []),
  (383, .iconst 0, 0, 0, []), (384, .ireturn, 0, 0, []), (385, .goto 189, 574, 0, []), (388, .aload_n 1, 0, 0, []),
  (389, .invokevirtual 67, 13, 0, [289, 290, 291, 60, 292]), (392, .aload_n 2, 0, 0, []), (393, .invokevirtual 70, 152, 0, [1194, 1195, 1196, 69, 1197]), (396, .if_icmp .eq 178, 574, 0, []),
  (399, .iconst 0, 0, 0, []), (400, .ireturn, 0, 0, []), (401, .aload_n 1, 0, 0, []), (402, .aload_n 0, 0, 0, []),
  (403, .iload 4, 0, 0, []), (405, .iconst 1, 0, 0, []), (406, .iadd, 0, 0, []), (407, .iaload, 0, 0, []),
  (408, .aload_n 0, 0, 0, []), (409, .iload 4, 0, 0, []), (411, .iconst 2, 0, 0, []), (412, .iadd, 0, 0, []),
  (413, .iaload, 0, 0, []), (414, .invokevirtual 71, 14, 2, [293, 294, 295, 60, 296]), (417, .aload_n 2, 0, 0, []), (418, .aload_n 0, 0, 0, []),
  (419, .iload 4, 0, 0, []), (421, .iconst 1, 0, 0, []), (422, .iadd, 0, 0, []), (423, .iaload, 0, 0, []),
  (424, .aload_n 0, 0, 0, []), (425, .iload 4, 0, 0, []), (427, .iconst 2, 0, 0, []), (428, .iadd, 0, 0, []),
  (429, .iaload, 0, 0, []), (430, .invokevirtual 74, 127, 2, [1094, 1095, 1096, 69, 1097]), (433, .if_icmp .eq 141, 574, 0, []), (436, .iconst 0, 0, 0, []),
  (437, .ireturn, 0, 0, []), (438, .aload_n 1, 0, 0, []), (439, .aload_n 0, 0, 0, []), (440, .iload 4, 0, 0, []),
  (442, .iconst 1, 0, 0, []), (443, .iadd, 0, 0, []), (444, .iaload, 0, 0, []), (445, .aload_n 0, 0, 0, []),
  (446, .iload 4, 0, 0, []), (448, .iconst 2, 0, 0, []), (449, .iadd, 0, 0, []), (450, .iaload, 0, 0, []),
  (451, .invokevirtual 75, 17, 2, [304, 305, 306, 60, 307]), (454, .aload_n 2, 0, 0, []), (455, .aload_n 0, 0, 0, []), (456, .iload 4, 0, 0, []),
  (458, .iconst 1, 0, 0, []), (459, .iadd, 0, 0, []), (460, .iaload, 0, 0, []), (461, .aload_n 0, 0, 0, []),
  (462, .iload 4, 0, 0, []), (464, .iconst 2, 0, 0, []), (465, .iadd, 0, 0, []), (466, .iaload, 0, 0, []),
  (467, .invokevirtual 78, 153, 2, [1198, 1199, 1200, 69, 1201]), (470, .if_icmp .eq 104, 574, 0, []), (473, .iconst 0, 0, 0, []), (474, .ireturn, 0, 0, []),
  (475, .aload_n 1, 0, 0, []), (476, .aload_n 0, 0, 0, []), (477, .iload 4, 0, 0, []), (479, .iconst 1, 0, 0, []),
  (480, .iadd, 0, 0, []), (481, .iaload, 0, 0, []), (482, .aload_n 0, 0, 0, []), (483, .iload 4, 0, 0, []),
  (485, .iconst 2, 0, 0, []), (486, .iadd, 0, 0, []), (487, .iaload, 0, 0, []), (488, .invokevirtual 79, 19, 2, [312, 313, 314, 60, 315]),
  (491, .aload_n 2, 0, 0, []), (492, .aload_n 0, 0, 0, []), (493, .iload 4, 0, 0, []), (495, .iconst 1, 0, 0, []),
  (496, .iadd, 0, 0, []), (497, .iaload, 0, 0, []), (498, .aload_n 0, 0, 0, []), (499, .iload 4, 0, 0, []),
  (501, .iconst 2, 0, 0, []), (502, .iadd, 0, 0, []), (503, .iaload, 0, 0, []), (504, .invokevirtual 82, 154, 2, [1202, 1203, 1204, 69, 1205]),
  (507, .if_icmp .eq 67, 574, 0, []), (510, .iconst 0, 0, 0, []), (511, .ireturn, 0, 0, []), (512, .aload_n 1, 0, 0, []),
  (513, .aload_n 0, 0, 0, []), (514, .iload 4, 0, 0, []), (516, .iconst 1, 0, 0, []), (517, .iadd, 0, 0, []),
  (518, .iaload, 0, 0, []), (519, .invokevirtual 83, 21, 1, [320, 321, 322, 60, 323]), (522, .aload_n 2, 0, 0, []), (523, .aload_n 0, 0, 0, []),
  (524, .iload 4, 0, 0, []), (526, .iconst 1, 0, 0, []), (527, .iadd, 0, 0, []), (528, .iaload, 0, 0, []),
  (529, .invokevirtual 87, 155, 1, [1206, 1207, 1208, 69, 1209]), (532, .if_icmp .eq 42, 574, 0, []), (535, .iconst 0, 0, 0, []), (536, .ireturn, 0, 0, []),
  (537, .aload_n 1, 0, 0, []), (538, .aload_n 0, 0, 0, []), (539, .iload 4, 0, 0, []), (541, .iconst 1, 0, 0, []),
  (542, .iadd, 0, 0, []), (543, .iaload, 0, 0, []), (544, .aload_n 0, 0, 0, []), (545, .iload 4, 0, 0, []),
  (547, .iconst 2, 0, 0, []), (548, .iadd, 0, 0, []), (549, .iaload, 0, 0, []), (550, .invokevirtual 88, 23, 2, [328, 329, 330, 60, 331]),
  (553, .aload_n 2, 0, 0, []), (554, .aload_n 0, 0, 0, []), (555, .iload 4, 0, 0, []), (557, .iconst 1, 0, 0, []),
  (558, .iadd, 0, 0, []), (559, .iaload, 0, 0, []), (560, .aload_n 0, 0, 0, []), (561, .iload 4, 0, 0, []),
  (563, .iconst 2, 0, 0, []), (564, .iadd, 0, 0, []), (565, .iaload, 0, 0, []), (566, .invokevirtual 91, 156, 2, [1210, 1211, 1212, 69, 1213]),
  (569, .if_icmp .eq 5, 574, 0, []), (572, .iconst 0, 0, 0, []), (573, .ireturn, 0, 0, []), (574, .iinc 4 3, 0, 0, []),
  (577, .goto (-554), 23, 0, []), (580, .iconst 1, 0, 0, []), (581, .ireturn, 0, 0, [])
  ]
/-- ChainDesk.<init>()V -/
def cd_r1 : List (Nat × Instr × Nat × Nat × List Nat) := [
  (0, .aload_n 0, 0, 0, []), (1, .invokespecial 1, 1000, 0, [90, 91, 92]), (4, .aload_n 0, 0, 0, []), (5, .new 7, 1, 0, [93, 94, 61]),
  (8, .dup, 0, 0, []), (9, .invokespecial 9, 2, 0, [95, 96, 61, 97]), (12, .putfield 10, 0, 0, [255]), (15, .aload_n 0, 0, 0, []),
  (16, .new 16, 2, 0, [110, 111, 62]), (19, .dup, 0, 0, []), (20, .invokespecial 18, 3, 0, [112, 113, 62, 114]), (23, .putfield 19, 0, 1, [256]),
  (26, .aload_n 0, 0, 0, []), (27, .new 23, 9, 0, [130, 131, 63]), (30, .dup, 0, 0, []), (31, .invokespecial 25, 4, 0, [132, 133, 63, 134]),
  (34, .putfield 26, 0, 2, [257]), (37, .aload_n 0, 0, 0, []), (38, .new 30, 5, 0, [150, 151, 64]), (41, .dup, 0, 0, []),
  (42, .aload_n 0, 0, 0, []), (43, .getfield 10, 0, 0, [255]), (46, .aload_n 0, 0, 0, []), (47, .getfield 19, 0, 1, [256]),
  (50, .invokespecial 32, 5, 2, [152, 153, 64, 154]), (53, .putfield 35, 0, 3, [258]), (56, .aload_n 0, 0, 0, []), (57, .new 39, 6, 0, [163, 164, 65]),
  (60, .dup, 0, 0, []), (61, .aload_n 0, 0, 0, []), (62, .getfield 10, 0, 0, [255]), (65, .aload_n 0, 0, 0, []),
  (66, .getfield 19, 0, 1, [256]), (69, .aload_n 0, 0, 0, []), (70, .getfield 26, 0, 2, [257]), (73, .invokespecial 41, 6, 3, [165, 166, 65, 167]),
  (76, .putfield 44, 0, 4, [259]), (79, .aload_n 0, 0, 0, []), (80, .new 48, 3, 0, [183, 184, 66]), (83, .dup, 0, 0, []),
  (84, .aload_n 0, 0, 0, []), (85, .getfield 19, 0, 1, [256]), (88, .aload_n 0, 0, 0, []), (89, .getfield 26, 0, 2, [257]),
  (92, .invokespecial 50, 7, 2, [185, 186, 66, 187]), (95, .putfield 53, 0, 5, [260]), (98, .aload_n 0, 0, 0, []), (99, .iconst 0, 0, 0, []),
  (100, .putfield 57, 0, 6, [261]), (103, .return_, 0, 0, [])
  ]
/-- ChainDesk$Buffer.<init>()V -/
def cd_r2 : List (Nat × Instr × Nat × Nat × List Nat) := [
  (0, .aload_n 0, 0, 0, []), (1, .invokespecial 3, 1000, 0, [98, 91, 92]), (4, .aload_n 0, 0, 0, []), (5, .bipush 120, 0, 0, []),
  (7, .newarray .char, 0, 0, [109]), (9, .putfield 9, 1, 0, [99]), (12, .return_, 0, 0, [])
  ]
/-- ChainDesk$Catalog.<init>()V -/
def cd_r3 : List (Nat × Instr × Nat × Nat × List Nat) := [
  (0, .aload_n 0, 0, 0, []), (1, .invokespecial 3, 1000, 0, [115, 91, 92]), (4, .aload_n 0, 0, 0, []), (5, .bipush 10, 0, 0, []),
  (7, .anewarray 9, 4, 0, [116, 117]), (10, .putfield 11, 2, 0, [118]), (13, .aload_n 0, 0, 0, []), (14, .bipush 13, 0, 0, []),
  (16, .newarray .int, 0, 0, [129]), (18, .putfield 17, 2, 1, [119]), (21, .aload_n 0, 0, 0, []), (22, .iconst (-1), 0, 0, []),
  (23, .putfield 21, 2, 2, [120]), (26, .iconst 0, 0, 0, []), (27, .istore_n 1, 0, 0, []), (28, .iload_n 1, 0, 0, []),
  (29, .bipush 13, 0, 0, []), (31, .if_icmp .ge 18, 49, 0, []), (34, .aload_n 0, 0, 0, []), (35, .getfield 17, 2, 1, [119]),
  (38, .iload_n 1, 0, 0, []), (39, .iconst 1, 0, 0, []), (40, .iload_n 1, 0, 0, []), (41, .ishl, 0, 0, []),
  (42, .iastore, 0, 0, []), (43, .iinc 1 1, 0, 0, []), (46, .goto (-18), 28, 0, []), (49, .aload_n 0, 0, 0, []),
  (50, .getfield 17, 2, 1, [119]), (53, .iconst 0, 0, 0, []), (54, .dup2, 0, 0, []), (55, .iaload, 0, 0, []),
  (56, .iconst 2, 0, 0, []), (57, .ior, 0, 0, []), (58, .iastore, 0, 0, []), (59, .return_, 0, 0, [])
  ]
/-- ChainDesk$Scope.<init>()V -/
def cd_r4 : List (Nat × Instr × Nat × Nat × List Nat) := [
  (0, .aload_n 0, 0, 0, []), (1, .invokespecial 3, 1000, 0, [135, 91, 92]), (4, .aload_n 0, 0, 0, []), (5, .iconst 5, 0, 0, []),
  (6, .newarray .int, 0, 0, [129]), (8, .putfield 9, 9, 0, [136]), (11, .aload_n 0, 0, 0, []), (12, .iconst 5, 0, 0, []),
  (13, .newarray .int, 0, 0, [129]), (15, .putfield 15, 9, 1, [138]), (18, .return_, 0, 0, [])
  ]
/-- ChainDesk$DeclarationReader.<init>(LChainDesk$Buffer;LChainDesk$Catalog;)V -/
def cd_r5 : List (Nat × Instr × Nat × Nat × List Nat) := [
  (0, .aload_n 0, 0, 0, []), (1, .invokespecial 3, 1000, 0, [155, 91, 92]), (4, .aload_n 0, 0, 0, []), (5, .aload_n 1, 0, 0, []),
  (6, .putfield 9, 5, 0, [156]), (9, .aload_n 0, 0, 0, []), (10, .aload_n 2, 0, 0, []), (11, .putfield 15, 5, 1, [157]),
  (14, .return_, 0, 0, [])
  ]
/-- ChainDesk$ExpressionReader.<init>(LChainDesk$Buffer;LChainDesk$Catalog;LChainDesk$Scope;)V -/
def cd_r6 : List (Nat × Instr × Nat × Nat × List Nat) := [
  (0, .aload_n 0, 0, 0, []), (1, .invokespecial 3, 1000, 0, [168, 91, 92]), (4, .aload_n 0, 0, 0, []), (5, .aload_n 1, 0, 0, []),
  (6, .putfield 9, 6, 0, [169]), (9, .aload_n 0, 0, 0, []), (10, .aload_n 2, 0, 0, []), (11, .putfield 15, 6, 1, [170]),
  (14, .aload_n 0, 0, 0, []), (15, .aload_n 3, 0, 0, []), (16, .putfield 19, 6, 2, [171]), (19, .return_, 0, 0, [])
  ]
/-- ChainDesk$Completer.<init>(LChainDesk$Catalog;LChainDesk$Scope;)V -/
def cd_r7 : List (Nat × Instr × Nat × Nat × List Nat) := [
  (0, .aload_n 0, 0, 0, []), (1, .invokespecial 3, 1000, 0, [188, 91, 92]), (4, .aload_n 0, 0, 0, []), (5, .iconst 4, 0, 0, []),
  (6, .anewarray 9, 10, 0, [189, 190]), (9, .putfield 11, 3, 2, [235]), (12, .aload_n 0, 0, 0, []), (13, .bipush 10, 0, 0, []),
  (15, .anewarray 17, 8, 0, [191, 192]), (18, .putfield 19, 3, 3, [236]), (21, .aload_n 0, 0, 0, []), (22, .new 17, 8, 0, [191, 193, 67]),
  (25, .dup, 0, 0, []), (26, .invokespecial 23, 8, 0, [194, 195, 67, 196]), (29, .putfield 24, 3, 4, [237]), (32, .aload_n 0, 0, 0, []),
  (33, .aload_n 1, 0, 0, []), (34, .putfield 28, 3, 0, [233]), (37, .aload_n 0, 0, 0, []), (38, .aload_n 2, 0, 0, []),
  (39, .putfield 32, 3, 1, [234]), (42, .iconst 0, 0, 0, []), (43, .istore_n 3, 0, 0, []), (44, .iload_n 3, 0, 0, []),
  (45, .aload_n 0, 0, 0, []), (46, .getfield 11, 3, 2, [235]), (49, .arraylength, 0, 0, []), (50, .if_icmp .ge 22, 72, 0, []),
  (53, .aload_n 0, 0, 0, []), (54, .getfield 11, 3, 2, [235]), (57, .iload_n 3, 0, 0, []), (58, .new 9, 10, 0, [189, 217, 68]),
  (61, .dup, 0, 0, []), (62, .invokespecial 36, 9, 0, [218, 219, 68, 220]), (65, .aastore, 0, 0, []), (66, .iinc 3 1, 0, 0, []),
  (69, .goto (-25), 44, 0, []), (72, .aload_n 0, 0, 0, []), (73, .aload_n 0, 0, 0, []), (74, .getfield 11, 3, 2, [235]),
  (77, .iconst 0, 0, 0, []), (78, .aaload, 0, 0, []), (79, .putfield 37, 3, 5, [238]), (82, .return_, 0, 0, [])
  ]
/-- ChainDesk$Phrase.<init>()V -/
def cd_r8 : List (Nat × Instr × Nat × Nat × List Nat) := [
  (0, .aload_n 0, 0, 0, []), (1, .invokespecial 3, 1000, 0, [197, 91, 92]), (4, .aload_n 0, 0, 0, []), (5, .bipush 25, 0, 0, []),
  (7, .newarray .char, 0, 0, [109]), (9, .putfield 9, 8, 0, [198]), (12, .return_, 0, 0, [])
  ]
/-- ChainDesk$Shelf.<init>()V -/
def cd_r9 : List (Nat × Instr × Nat × Nat × List Nat) := [
  (0, .aload_n 0, 0, 0, []), (1, .invokespecial 3, 1000, 0, [221, 91, 92]), (4, .aload_n 0, 0, 0, []), (5, .bipush 8, 0, 0, []),
  (7, .anewarray 9, 8, 0, [222, 192]), (10, .putfield 11, 10, 0, [224]), (13, .iconst 0, 0, 0, []), (14, .istore_n 1, 0, 0, []),
  (15, .iload_n 1, 0, 0, []), (16, .aload_n 0, 0, 0, []), (17, .getfield 11, 10, 0, [224]), (20, .arraylength, 0, 0, []),
  (21, .if_icmp .ge 22, 43, 0, []), (24, .aload_n 0, 0, 0, []), (25, .getfield 11, 10, 0, [224]), (28, .iload_n 1, 0, 0, []),
  (29, .new 9, 8, 0, [222, 193, 67]), (32, .dup, 0, 0, []), (33, .invokespecial 17, 8, 0, [223, 195, 67, 196]), (36, .aastore, 0, 0, []),
  (37, .iinc 1 1, 0, 0, []), (40, .goto (-25), 15, 0, []), (43, .return_, 0, 0, [])
  ]
/-- ChainDesk.put(II)Z -/
def cd_r10 : List (Nat × Instr × Nat × Nat × List Nat) := [
  (0, .aload_n 0, 0, 0, []), (1, .getfield 10, 0, 0, [255]), (4, .iload_n 1, 0, 0, []), (5, .iload_n 2, 0, 0, []),
  (6, .invokevirtual 61, 11, 2, [281, 282, 283, 61, 284]), (9, .ireturn, 0, 0, [])
  ]
/-- ChainDesk$Buffer.append(II)Z -/
def cd_r11 : List (Nat × Instr × Nat × Nat × List Nat) := [
  (0, .iload_n 2, 0, 0, []), (1, .iconst 1, 0, 0, []), (2, .if_icmp .lt 19, 21, 0, []), (5, .iload_n 2, 0, 0, []),
  (6, .iconst 4, 0, 0, []), (7, .if_icmp .gt 14, 21, 0, []), (10, .iload_n 2, 0, 0, []), (11, .bipush 120, 0, 0, []),
  (13, .aload_n 0, 0, 0, []), (14, .getfield 15, 1, 1, [100]), (17, .isub, 0, 0, []), (18, .if_icmp .le 5, 23, 0, []),
  (21, .iconst 0, 0, 0, []), (22, .ireturn, 0, 0, []), (23, .iconst 0, 0, 0, []), (24, .istore_n 3, 0, 0, []),
  (25, .iload_n 3, 0, 0, []), (26, .iload_n 2, 0, 0, []), (27, .if_icmp .ge 55, 82, 0, []), (30, .iload_n 1, 0, 0, []),
  (31, .bipush 8, 0, 0, []), (33, .iload_n 2, 0, 0, []), (34, .iconst 1, 0, 0, []), (35, .isub, 0, 0, []),
  (36, .iload_n 3, 0, 0, []), (37, .isub, 0, 0, []), (38, .imul, 0, 0, []), (39, .ishr, 0, 0, []),
  (40, .sipush 255, 0, 0, []), (43, .iand, 0, 0, []), (44, .istore 4, 0, 0, []), (46, .iload 4, 0, 0, []),
  (48, .bipush 32, 0, 0, []), (50, .if_icmp .lt 10, 60, 0, []), (53, .iload 4, 0, 0, []), (55, .bipush 126, 0, 0, []),
  (57, .if_icmp .le 5, 62, 0, []), (60, .iconst 0, 0, 0, []), (61, .ireturn, 0, 0, []), (62, .aload_n 0, 0, 0, []),
  (63, .getfield 9, 1, 0, [99]), (66, .aload_n 0, 0, 0, []), (67, .getfield 15, 1, 1, [100]), (70, .iload_n 3, 0, 0, []),
  (71, .iadd, 0, 0, []), (72, .iload 4, 0, 0, []), (74, .i2c, 0, 0, []), (75, .castore, 0, 0, []),
  (76, .iinc 3 1, 0, 0, []), (79, .goto (-54), 25, 0, []), (82, .aload_n 0, 0, 0, []), (83, .dup, 0, 0, []),
  (84, .getfield 15, 1, 1, [100]), (87, .iload_n 2, 0, 0, []), (88, .iadd, 0, 0, []), (89, .putfield 15, 1, 1, [100]),
  (92, .iconst 1, 0, 0, []), (93, .ireturn, 0, 0, [])
  ]
/-- ChainDesk.forget()V -/
def cd_r12 : List (Nat × Instr × Nat × Nat × List Nat) := [
  (0, .aload_n 0, 0, 0, []), (1, .getfield 26, 0, 2, [257]), (4, .iconst 0, 0, 0, []), (5, .putfield 100, 9, 2, [142]),
  (8, .return_, 0, 0, [])
  ]
/-- ChainDesk.checkedCost()I -/
def cd_r13 : List (Nat × Instr × Nat × Nat × List Nat) := [
  (0, .aload_n 0, 0, 0, []), (1, .getfield 57, 0, 6, [261]), (4, .ireturn, 0, 0, [])
  ]
/-- ChainDesk.fits(II)Z -/
def cd_r14 : List (Nat × Instr × Nat × Nat × List Nat) := [
  (0, .iload_n 1, 0, 0, []), (1, .invokestatic 108, 15, 1, [297, 298, 60, 299]), (4, .ifCond .eq 26, 30, 0, []), (7, .iload_n 2, 0, 0, []),
  (8, .invokestatic 108, 15, 1, [297, 298, 60, 299]), (11, .ifCond .eq 19, 30, 0, []), (14, .aload_n 0, 0, 0, []), (15, .getfield 19, 0, 1, [256]),
  (18, .iload_n 1, 0, 0, []), (19, .iload_n 2, 0, 0, []), (20, .invokevirtual 129, 16, 2, [300, 301, 302, 62, 303]), (23, .ifCond .eq 7, 30, 0, []),
  (26, .iconst 1, 0, 0, []), (27, .goto 4, 31, 0, []), (30, .iconst 0, 0, 0, []), (31, .ireturn, 0, 0, [])
  ]
/-- ChainDesk.isType(I)Z -/
def cd_r15 : List (Nat × Instr × Nat × Nat × List Nat) := [
  (0, .iload_n 0, 0, 0, []), (1, .ifCond .lt 13, 14, 0, []), (4, .iload_n 0, 0, 0, []), (5, .bipush 13, 0, 0, []),
  (7, .if_icmp .ge 7, 14, 0, []), (10, .iconst 1, 0, 0, []), (11, .goto 4, 15, 0, []), (14, .iconst 0, 0, 0, []),
  (15, .ireturn, 0, 0, [])
  ]
/-- ChainDesk$Catalog.isFitting(II)Z -/
def cd_r16 : List (Nat × Instr × Nat × Nat × List Nat) := [
  (0, .aload_n 0, 0, 0, []), (1, .getfield 17, 2, 1, [119]), (4, .iload_n 1, 0, 0, []), (5, .iaload, 0, 0, []),
  (6, .iload_n 2, 0, 0, []), (7, .ishr, 0, 0, []), (8, .iconst 1, 0, 0, []), (9, .iand, 0, 0, []),
  (10, .iconst 1, 0, 0, []), (11, .if_icmp .ne 7, 18, 0, []), (14, .iconst 1, 0, 0, []), (15, .goto 4, 19, 0, []),
  (18, .iconst 0, 0, 0, []), (19, .ireturn, 0, 0, [])
  ]
/-- ChainDesk.proposal(II)I -/
def cd_r17 : List (Nat × Instr × Nat × Nat × List Nat) := [
  (0, .aload_n 0, 0, 0, []), (1, .getfield 53, 0, 5, [260]), (4, .iload_n 1, 0, 0, []), (5, .invokevirtual 132, 18, 1, [308, 309, 310, 66, 311]),
  (8, .astore_n 3, 0, 0, []), (9, .aload_n 3, 0, 0, []), (10, .ifnonnull 5, 15, 0, []), (13, .iconst (-1), 0, 0, []),
  (14, .ireturn, 0, 0, []), (15, .iload_n 2, 0, 0, []), (16, .tableswitch 43 0 2 #[28, 33, 38], 0, 0, []), (44, .aload_n 3, 0, 0, []),
  (45, .getfield 136, 8, 1, [201]), (48, .ireturn, 0, 0, []), (49, .aload_n 3, 0, 0, []), (50, .getfield 141, 8, 3, [207]),
  (53, .ireturn, 0, 0, []), (54, .aload_n 3, 0, 0, []), (55, .getfield 142, 8, 2, [204]), (58, .ireturn, 0, 0, []),
  (59, .iconst (-1), 0, 0, []), (60, .ireturn, 0, 0, [])
  ]
/-- ChainDesk$Completer.proposed(I)LChainDesk$Phrase; -/
def cd_r18 : List (Nat × Instr × Nat × Nat × List Nat) := [
  (0, .iload_n 1, 0, 0, []), (1, .ifCond .lt 20, 21, 0, []), (4, .iload_n 1, 0, 0, []), (5, .aload_n 0, 0, 0, []),
  (6, .getfield 83, 3, 6, [239]), (9, .if_icmp .ge 12, 21, 0, []), (12, .aload_n 0, 0, 0, []), (13, .getfield 19, 3, 3, [236]),
  (16, .iload_n 1, 0, 0, []), (17, .aaload, 0, 0, []), (18, .goto 4, 22, 0, []), (21, .aconst_null, 0, 0, []),
  (22, .areturn, 0, 0, [])
  ]
/-- ChainDesk.letter(II)I -/
def cd_r19 : List (Nat × Instr × Nat × Nat × List Nat) := [
  (0, .aload_n 0, 0, 0, []), (1, .getfield 53, 0, 5, [260]), (4, .iload_n 1, 0, 0, []), (5, .invokevirtual 132, 18, 1, [308, 309, 310, 66, 311]),
  (8, .astore_n 3, 0, 0, []), (9, .aload_n 3, 0, 0, []), (10, .ifnonnull 7, 17, 0, []), (13, .iconst 0, 0, 0, []),
  (14, .goto 8, 22, 0, []), (17, .aload_n 3, 0, 0, []), (18, .iload_n 2, 0, 0, []), (19, .invokevirtual 145, 20, 1, [316, 317, 318, 67, 319]),
  (22, .ireturn, 0, 0, [])
  ]
/-- ChainDesk$Phrase.letterAt(I)I -/
def cd_r20 : List (Nat × Instr × Nat × Nat × List Nat) := [
  (0, .iload_n 1, 0, 0, []), (1, .ifCond .lt 20, 21, 0, []), (4, .iload_n 1, 0, 0, []), (5, .aload_n 0, 0, 0, []),
  (6, .getfield 15, 8, 1, [199]), (9, .if_icmp .ge 12, 21, 0, []), (12, .aload_n 0, 0, 0, []), (13, .getfield 9, 8, 0, [198]),
  (16, .iload_n 1, 0, 0, []), (17, .caload, 0, 0, []), (18, .goto 4, 22, 0, []), (21, .iconst 0, 0, 0, []),
  (22, .ireturn, 0, 0, [])
  ]
/-- ChainDesk.members(I)I -/
def cd_r21 : List (Nat × Instr × Nat × Nat × List Nat) := [
  (0, .aload_n 0, 0, 0, []), (1, .getfield 19, 0, 1, [256]), (4, .iload_n 1, 0, 0, []), (5, .invokevirtual 149, 22, 1, [324, 325, 326, 62, 327]),
  (8, .astore_n 2, 0, 0, []), (9, .aload_n 2, 0, 0, []), (10, .ifnonnull 7, 17, 0, []), (13, .iconst (-1), 0, 0, []),
  (14, .goto 7, 21, 0, []), (17, .aload_n 2, 0, 0, []), (18, .getfield 89, 4, 3, [411]), (21, .ireturn, 0, 0, [])
  ]
/-- ChainDesk$Catalog.declared(I)LChainDesk$Declaration; -/
def cd_r22 : List (Nat × Instr × Nat × Nat × List Nat) := [
  (0, .iload_n 1, 0, 0, []), (1, .ifCond .lt 21, 22, 0, []), (4, .iload_n 1, 0, 0, []), (5, .aload_n 0, 0, 0, []),
  (6, .getfield 11, 2, 0, [118]), (9, .arraylength, 0, 0, []), (10, .if_icmp .ge 12, 22, 0, []), (13, .aload_n 0, 0, 0, []),
  (14, .getfield 11, 2, 0, [118]), (17, .iload_n 1, 0, 0, []), (18, .aaload, 0, 0, []), (19, .goto 4, 23, 0, []),
  (22, .aconst_null, 0, 0, []), (23, .areturn, 0, 0, [])
  ]
/-- ChainDesk.seen(II)I -/
def cd_r23 : List (Nat × Instr × Nat × Nat × List Nat) := [
  (0, .iload_n 1, 0, 0, []), (1, .invokestatic 101, 24, 1, [332, 333, 60, 334]), (4, .ifCond .eq 12, 16, 0, []), (7, .iload_n 2, 0, 0, []),
  (8, .ifCond .lt 8, 16, 0, []), (11, .iload_n 2, 0, 0, []), (12, .iconst 1, 0, 0, []), (13, .if_icmp .le 5, 18, 0, []),
  (16, .iconst (-1), 0, 0, []), (17, .ireturn, 0, 0, []), (18, .aload_n 0, 0, 0, []), (19, .getfield 19, 0, 1, [256]),
  (22, .iload_n 1, 0, 0, []), (23, .iload_n 2, 0, 0, []), (24, .ifCond .ne 9, 33, 0, []), (27, .getstatic 153, 0, 0, [335]),
  (30, .goto 6, 36, 0, []), (33, .getstatic 159, 1, 0, [337]), (36, .invokevirtual 162, 25, 2, [339, 340, 341, 62, 342]), (39, .ireturn, 0, 0, [])
  ]
/-- ChainDesk.isClass(I)Z -/
def cd_r24 : List (Nat × Instr × Nat × Nat × List Nat) := [
  (0, .iload_n 0, 0, 0, []), (1, .ifCond .lt 13, 14, 0, []), (4, .iload_n 0, 0, 0, []), (5, .bipush 10, 0, 0, []),
  (7, .if_icmp .ge 7, 14, 0, []), (10, .iconst 1, 0, 0, []), (11, .goto 4, 15, 0, []), (14, .iconst 0, 0, 0, []),
  (15, .ireturn, 0, 0, [])
  ]
/-- ChainDesk$Catalog.countSeen(ILChainDesk$Kind;)I -/
def cd_r25 : List (Nat × Instr × Nat × Nat × List Nat) := [
  (0, .iconst 0, 0, 0, []), (1, .istore_n 3, 0, 0, []), (2, .aload_n 0, 0, 0, []), (3, .iload_n 1, 0, 0, []),
  (4, .invokevirtual 28, 22, 1, [343, 325, 326, 62, 327]), (7, .astore 4, 0, 0, []), (9, .aload 4, 0, 0, []), (11, .ifnull 66, 77, 0, []),
  (14, .iconst 0, 0, 0, []), (15, .istore 5, 0, 0, []), (17, .iload 5, 0, 0, []), (19, .aload 4, 0, 0, []),
  (21, .getfield 69, 4, 3, [413]), (24, .if_icmp .ge 43, 67, 0, []), (27, .aload 4, 0, 0, []), (29, .getfield 72, 4, 2, [409]),
  (32, .iload 5, 0, 0, []), (34, .aaload, 0, 0, []), (35, .getfield 53, 7, 0, [498]), (38, .aload_n 2, 0, 0, []),
  (39, .if_acmp .ne 22, 61, 0, []), (42, .aload_n 0, 0, 0, []), (43, .iload_n 1, 0, 0, []), (44, .aload 4, 0, 0, []),
  (46, .getfield 72, 4, 2, [409]), (49, .iload 5, 0, 0, []), (51, .aaload, 0, 0, []), (52, .invokevirtual 76, 26, 2, [344, 345, 346, 62, 347]),
  (55, .ifCond .eq 6, 61, 0, []), (58, .iinc 3 1, 0, 0, []), (61, .iinc 5 1, 0, 0, []), (64, .goto (-47), 17, 0, []),
  (67, .aload 4, 0, 0, []), (69, .getfield 32, 4, 1, [405]), (72, .astore 4, 0, 0, []), (74, .goto (-65), 9, 0, []),
  (77, .iload_n 3, 0, 0, []), (78, .ireturn, 0, 0, [])
  ]
/-- ChainDesk$Catalog.isSeen(ILChainDesk$Member;)Z -/
def cd_r26 : List (Nat × Instr × Nat × Nat × List Nat) := [
  (0, .aload_n 2, 0, 0, []), (1, .getfield 53, 7, 0, [498]), (4, .getstatic 57, 2, 0, [348]), (7, .if_acmp .eq 24, 31, 0, []),
  (10, .aload_n 0, 0, 0, []), (11, .iload_n 1, 0, 0, []), (12, .aload_n 2, 0, 0, []), (13, .getfield 53, 7, 0, [498]),
  (16, .aload_n 2, 0, 0, []), (17, .getfield 62, 7, 3, [510]), (20, .invokevirtual 65, 27, 3, [350, 351, 352, 62, 353]), (23, .aload_n 2, 0, 0, []),
  (24, .if_acmp .ne 7, 31, 0, []), (27, .iconst 1, 0, 0, []), (28, .goto 4, 32, 0, []), (31, .iconst 0, 0, 0, []),
  (32, .ireturn, 0, 0, [])
  ]
/-- ChainDesk$Catalog.findSeen(ILChainDesk$Kind;I)LChainDesk$Member; -/
def cd_r27 : List (Nat × Instr × Nat × Nat × List Nat) := [
  (0, .aload_n 0, 0, 0, []), (1, .iload_n 1, 0, 0, []), (2, .invokevirtual 28, 22, 1, [343, 325, 326, 62, 327]), (5, .astore 4, 0, 0, []),
  (7, .aload 4, 0, 0, []), (9, .ifnull 49, 58, 0, []), (12, .aload 4, 0, 0, []), (14, .aload_n 2, 0, 0, []),
  (15, .iload_n 3, 0, 0, []), (16, .invokevirtual 42, 28, 2, [354, 355, 356, 70, 357]), (19, .astore 5, 0, 0, []), (21, .aload 5, 0, 0, []),
  (23, .ifnull 25, 48, 0, []), (26, .aload 5, 0, 0, []), (28, .getfield 46, 7, 2, [506]), (31, .ifCond .ne 17, 48, 0, []),
  (34, .aload_n 0, 0, 0, []), (35, .aload 4, 0, 0, []), (37, .aload 5, 0, 0, []), (39, .invokevirtual 49, 30, 2, [362, 363, 364, 62, 365]),
  (42, .ifCond .eq 6, 48, 0, []), (45, .aload 5, 0, 0, []), (47, .areturn, 0, 0, []), (48, .aload 4, 0, 0, []),
  (50, .getfield 32, 4, 1, [405]), (53, .astore 4, 0, 0, []), (55, .goto (-48), 7, 0, []), (58, .aconst_null, 0, 0, []),
  (59, .areturn, 0, 0, [])
  ]
/-- ChainDesk$Declaration.find(LChainDesk$Kind;I)LChainDesk$Member; -/
def cd_r28 : List (Nat × Instr × Nat × Nat × List Nat) := [
  (0, .iconst 0, 0, 0, []), (1, .istore_n 3, 0, 0, []), (2, .iload_n 3, 0, 0, []), (3, .aload_n 0, 0, 0, []),
  (4, .getfield 25, 4, 3, [410]), (7, .if_icmp .ge 30, 37, 0, []), (10, .aload_n 0, 0, 0, []), (11, .getfield 11, 4, 2, [407]),
  (14, .iload_n 3, 0, 0, []), (15, .aaload, 0, 0, []), (16, .aload_n 1, 0, 0, []), (17, .iload_n 2, 0, 0, []),
  (18, .invokevirtual 28, 29, 2, [358, 359, 360, 75, 361]), (21, .ifCond .eq 10, 31, 0, []), (24, .aload_n 0, 0, 0, []), (25, .getfield 11, 4, 2, [407]),
  (28, .iload_n 3, 0, 0, []), (29, .aaload, 0, 0, []), (30, .areturn, 0, 0, []), (31, .iinc 3 1, 0, 0, []),
  (34, .goto (-32), 2, 0, []), (37, .aconst_null, 0, 0, []), (38, .areturn, 0, 0, [])
  ]
/-- ChainDesk$Member.isNamed(LChainDesk$Kind;I)Z -/
def cd_r29 : List (Nat × Instr × Nat × Nat × List Nat) := [
  (0, .aload_n 0, 0, 0, []), (1, .getfield 15, 7, 0, [496]), (4, .aload_n 1, 0, 0, []), (5, .if_acmp .ne 15, 20, 0, []),
  (8, .aload_n 0, 0, 0, []), (9, .getfield 26, 7, 3, [508]), (12, .iload_n 2, 0, 0, []), (13, .if_icmp .ne 7, 20, 0, []),
  (16, .iconst 1, 0, 0, []), (17, .goto 4, 21, 0, []), (20, .iconst 0, 0, 0, []), (21, .ireturn, 0, 0, [])
  ]
/-- ChainDesk$Catalog.isUsable(LChainDesk$Declaration;LChainDesk$Member;)Z -/
def cd_r30 : List (Nat × Instr × Nat × Nat × List Nat) := [
  (0, .aload_n 2, 0, 0, []), (1, .getfield 36, 7, 1, [502]), (4, .ifCond .eq 14, 18, 0, []), (7, .aload_n 1, 0, 0, []),
  (8, .getfield 25, 4, 0, [402]), (11, .aload_n 0, 0, 0, []), (12, .getfield 21, 2, 2, [120]), (15, .if_icmp .ne 7, 22, 0, []),
  (18, .iconst 1, 0, 0, []), (19, .goto 4, 23, 0, []), (22, .iconst 0, 0, 0, []), (23, .ireturn, 0, 0, [])
  ]
/-- ChainDesk.declare()I -/
def cd_r31 : List (Nat × Instr × Nat × Nat × List Nat) := [
  (0, .aload_n 0, 0, 0, []), (1, .getfield 35, 0, 3, [258]), (4, .invokevirtual 65, 32, 0, [375, 376, 377, 64, 378]), (7, .astore_n 1, 0, 0, []),
  (8, .aload_n 1, 0, 0, []), (9, .ifnull 28, 37, 0, []), (12, .aload_n 0, 0, 0, []), (13, .getfield 35, 0, 3, [258]),
  (16, .aload_n 1, 0, 0, []), (17, .invokevirtual 69, 37, 1, [423, 424, 425, 64, 426]), (20, .ifCond .eq 17, 37, 0, []), (23, .aload_n 0, 0, 0, []),
  (24, .getfield 10, 0, 0, [255]), (27, .invokevirtual 73, 59, 0, [584, 585, 586, 61, 587]), (30, .ifCond .eq 7, 37, 0, []), (33, .iconst 1, 0, 0, []),
  (34, .goto 4, 38, 0, []), (37, .iconst 0, 0, 0, []), (38, .istore_n 2, 0, 0, []), (39, .aload_n 0, 0, 0, []),
  (40, .getfield 10, 0, 0, [255]), (43, .invokevirtual 77, 60, 0, [588, 589, 590, 61, 591]), (46, .iload_n 2, 0, 0, []), (47, .ifCond .ne 11, 58, 0, []),
  (50, .new 80, 12, 82, [592, 593, 81]), (58, .aload_n 0, 0, 0, []), (59, .getfield 19, 0, 1, [256]), (62, .aload_n 1, 0, 0, []),
  (63, .invokevirtual 83, 61, 1, [654, 655, 656, 62, 657]), (66, .ifCond .ne 11, 77, 0, []), (69, .new 86, 13, 88, [658, 659, 82]), (77, .aload_n 1, 0, 0, []),
  (78, .getfield 89, 4, 3, [411]), (81, .ireturn, 0, 0, [])
  ]
/-- ChainDesk$DeclarationReader.readHead()LChainDesk$Declaration; -/
def cd_r32 : List (Nat × Instr × Nat × Nat × List Nat) := [
  (0, .aload_n 0, 0, 0, []), (1, .getfield 9, 5, 0, [156]), (4, .invokevirtual 19, 33, 0, [379, 380, 381, 61, 382]), (7, .istore_n 1, 0, 0, []),
  (8, .iload_n 1, 0, 0, []), (9, .iconst (-1), 0, 0, []), (10, .if_icmp .eq 19, 29, 0, []), (13, .aload_n 0, 0, 0, []),
  (14, .getfield 9, 5, 0, [156]), (17, .bipush 58, 0, 0, []), (19, .invokevirtual 25, 34, 1, [384, 385, 386, 61, 387]), (22, .ifCond .eq 7, 29, 0, []),
  (25, .iconst 1, 0, 0, []), (26, .goto 4, 30, 0, []), (29, .iconst 0, 0, 0, []), (30, .istore_n 2, 0, 0, []),
  (31, .iload_n 2, 0, 0, []), (32, .ifCond .eq 20, 52, 0, []), (35, .aload_n 0, 0, 0, []), (36, .getfield 15, 5, 1, [157]),
  (39, .aload_n 0, 0, 0, []), (40, .getfield 9, 5, 0, [156]), (43, .invokevirtual 19, 33, 0, [379, 380, 381, 61, 382]), (46, .invokevirtual 29, 22, 1, [392, 325, 326, 62, 327]),
  (49, .goto 4, 53, 0, []), (52, .aconst_null, 0, 0, []), (53, .astore_n 3, 0, 0, []), (54, .iload_n 1, 0, 0, []),
  (55, .iconst (-1), 0, 0, []), (56, .if_icmp .eq 23, 79, 0, []), (59, .iload_n 2, 0, 0, []), (60, .ifCond .eq 7, 67, 0, []),
  (63, .aload_n 3, 0, 0, []), (64, .ifnull 15, 79, 0, []), (67, .aload_n 0, 0, 0, []), (68, .getfield 9, 5, 0, [156]),
  (71, .bipush 123, 0, 0, []), (73, .invokevirtual 25, 34, 1, [384, 385, 386, 61, 387]), (76, .ifCond .ne 5, 81, 0, []), (79, .aconst_null, 0, 0, []),
  (80, .areturn, 0, 0, []), (81, .new 35, 4, 0, [393, 394, 70]), (84, .dup, 0, 0, []), (85, .iload_n 1, 0, 0, []),
  (86, .aload_n 3, 0, 0, []), (87, .invokespecial 37, 36, 2, [395, 396, 70, 397]), (90, .areturn, 0, 0, [])
  ]
/-- ChainDesk$Buffer.takeClass()I -/
def cd_r33 : List (Nat × Instr × Nat × Nat × List Nat) := [
  (0, .aload_n 0, 0, 0, []), (1, .getfield 19, 1, 2, [101]), (4, .aload_n 0, 0, 0, []), (5, .getfield 15, 1, 1, [100]),
  (8, .if_icmp .eq 21, 29, 0, []), (11, .aload_n 0, 0, 0, []), (12, .getfield 9, 1, 0, [99]), (15, .aload_n 0, 0, 0, []),
  (16, .getfield 19, 1, 2, [101]), (19, .caload, 0, 0, []), (20, .bipush 65, 0, 0, []), (22, .isub, 0, 0, []),
  (23, .invokestatic 35, 24, 1, [383, 333, 60, 334]), (26, .ifCond .ne 5, 31, 0, []), (29, .iconst (-1), 0, 0, []), (30, .ireturn, 0, 0, []),
  (31, .aload_n 0, 0, 0, []), (32, .getfield 9, 1, 0, [99]), (35, .aload_n 0, 0, 0, []), (36, .dup, 0, 0, []),
  (37, .getfield 19, 1, 2, [101]), (40, .dup_x1, 0, 0, []), (41, .iconst 1, 0, 0, []), (42, .iadd, 0, 0, []),
  (43, .putfield 19, 1, 2, [101]), (46, .caload, 0, 0, []), (47, .bipush 65, 0, 0, []), (49, .isub, 0, 0, []),
  (50, .ireturn, 0, 0, [])
  ]
/-- ChainDesk$Buffer.take(C)Z -/
def cd_r34 : List (Nat × Instr × Nat × Nat × List Nat) := [
  (0, .aload_n 0, 0, 0, []), (1, .iload_n 1, 0, 0, []), (2, .invokevirtual 22, 35, 1, [388, 389, 390, 61, 391]), (5, .ifCond .ne 5, 10, 0, []),
  (8, .iconst 0, 0, 0, []), (9, .ireturn, 0, 0, []), (10, .aload_n 0, 0, 0, []), (11, .dup, 0, 0, []),
  (12, .getfield 19, 1, 2, [101]), (15, .iconst 1, 0, 0, []), (16, .iadd, 0, 0, []), (17, .putfield 19, 1, 2, [101]),
  (20, .iconst 1, 0, 0, []), (21, .ireturn, 0, 0, [])
  ]
/-- ChainDesk$Buffer.isAt(C)Z -/
def cd_r35 : List (Nat × Instr × Nat × Nat × List Nat) := [
  (0, .aload_n 0, 0, 0, []), (1, .getfield 19, 1, 2, [101]), (4, .aload_n 0, 0, 0, []), (5, .getfield 15, 1, 1, [100]),
  (8, .if_icmp .ge 20, 28, 0, []), (11, .aload_n 0, 0, 0, []), (12, .getfield 9, 1, 0, [99]), (15, .aload_n 0, 0, 0, []),
  (16, .getfield 19, 1, 2, [101]), (19, .caload, 0, 0, []), (20, .iload_n 1, 0, 0, []), (21, .if_icmp .ne 7, 28, 0, []),
  (24, .iconst 1, 0, 0, []), (25, .goto 4, 29, 0, []), (28, .iconst 0, 0, 0, []), (29, .ireturn, 0, 0, [])
  ]
/-- ChainDesk$Declaration.<init>(ILChainDesk$Declaration;)V -/
def cd_r36 : List (Nat × Instr × Nat × Nat × List Nat) := [
  (0, .aload_n 0, 0, 0, []), (1, .invokespecial 3, 1000, 0, [398, 91, 92]), (4, .aload_n 0, 0, 0, []), (5, .bipush 6, 0, 0, []),
  (7, .anewarray 9, 7, 0, [399, 400]), (10, .putfield 11, 4, 2, [407]), (13, .aload_n 0, 0, 0, []), (14, .iload_n 1, 0, 0, []),
  (15, .putfield 17, 4, 0, [401]), (18, .aload_n 0, 0, 0, []), (19, .aload_n 2, 0, 0, []), (20, .putfield 21, 4, 1, [404]),
  (23, .return_, 0, 0, [])
  ]
/-- ChainDesk$DeclarationReader.readMembers(LChainDesk$Declaration;)Z -/
def cd_r37 : List (Nat × Instr × Nat × Nat × List Nat) := [
  (0, .aload_n 0, 0, 0, []), (1, .getfield 9, 5, 0, [156]), (4, .bipush 125, 0, 0, []), (6, .invokevirtual 25, 34, 1, [384, 385, 386, 61, 387]),
  (9, .ifCond .eq 5, 14, 0, []), (12, .iconst 1, 0, 0, []), (13, .ireturn, 0, 0, []), (14, .iconst 0, 0, 0, []),
  (15, .istore_n 2, 0, 0, []), (16, .iload_n 2, 0, 0, []), (17, .bipush 6, 0, 0, []), (19, .if_icmp .ge 41, 60, 0, []),
  (22, .aload_n 0, 0, 0, []), (23, .aload_n 1, 0, 0, []), (24, .invokevirtual 40, 38, 1, [427, 429, 0, 64, 430]), (27, .ifCond .ne 5, 32, 0, []),
  (30, .iconst 0, 0, 0, []), (31, .ireturn, 0, 0, []), (32, .aload_n 0, 0, 0, []), (33, .getfield 9, 5, 0, [156]),
  (36, .bipush 59, 0, 0, []), (38, .invokevirtual 25, 34, 1, [384, 385, 386, 61, 387]), (41, .ifCond .ne 13, 54, 0, []), (44, .aload_n 0, 0, 0, []),
  (45, .getfield 9, 5, 0, [156]), (48, .bipush 125, 0, 0, []), (50, .invokevirtual 25, 34, 1, [384, 385, 386, 61, 387]), (53, .ireturn, 0, 0, []),
  (54, .iinc 2 1, 0, 0, []), (57, .goto (-41), 16, 0, []), (60, .iconst 0, 0, 0, []), (61, .ireturn, 0, 0, [])
  ]
/-- ChainDesk$DeclarationReader.readMember(LChainDesk$Declaration;)Z -/
def cd_r38 : List (Nat × Instr × Nat × Nat × List Nat) := [
  (0, .aload_n 0, 0, 0, []), (1, .getfield 9, 5, 0, [156]), (4, .ldc 44, 10, 0, [431]), (6, .invokevirtual 46, 39, 1, [432, 433, 434, 61, 435]),
  (9, .istore_n 2, 0, 0, []), (10, .aload_n 0, 0, 0, []), (11, .getfield 9, 5, 0, [156]), (14, .ldc 50, 11, 0, [484]),
  (16, .invokevirtual 46, 39, 1, [432, 433, 434, 61, 435]), (19, .ifCond .eq 15, 34, 0, []), (22, .aload_n 0, 0, 0, []), (23, .iload_n 2, 0, 0, []),
  (24, .aload_n 1, 0, 0, []), (25, .getfield 52, 4, 0, [403]), (28, .invokevirtual 56, 47, 2, [485, 487, 1, 64, 488]), (31, .goto 8, 39, 0, []),
  (34, .aload_n 0, 0, 0, []), (35, .iload_n 2, 0, 0, []), (36, .invokevirtual 60, 53, 1, [555, 557, 4, 64, 558]), (39, .astore_n 3, 0, 0, []),
  (40, .aload_n 3, 0, 0, []), (41, .ifnull 23, 64, 0, []), (44, .aload_n 1, 0, 0, []), (45, .aload_n 3, 0, 0, []),
  (46, .invokevirtual 64, 55, 1, [566, 567, 568, 70, 569]), (49, .ifCond .eq 15, 64, 0, []), (52, .aload_n 1, 0, 0, []), (53, .aload_n 3, 0, 0, []),
  (54, .invokevirtual 68, 58, 1, [580, 581, 582, 70, 583]), (57, .ifCond .eq 7, 64, 0, []), (60, .iconst 1, 0, 0, []), (61, .goto 4, 65, 0, []),
  (64, .iconst 0, 0, 0, []), (65, .ireturn, 0, 0, [])
  ]
/-- ChainDesk$Buffer.takeText(Ljava/lang/String;)Z -/
def cd_r39 : List (Nat × Instr × Nat × Nat × List Nat) := [
  (0, .aload_n 1, 0, 0, []), (1, .invokevirtual 26, 40, 0, [436, 437, 438, 71, 439]), (4, .aload_n 0, 0, 0, []), (5, .getfield 15, 1, 1, [100]),
  (8, .aload_n 0, 0, 0, []), (9, .getfield 19, 1, 2, [101]), (12, .isub, 0, 0, []), (13, .if_icmp .le 5, 18, 0, []),
  (16, .iconst 0, 0, 0, []), (17, .ireturn, 0, 0, []), (18, .iconst 0, 0, 0, []), (19, .istore_n 2, 0, 0, []),
  (20, .iload_n 2, 0, 0, []), (21, .aload_n 1, 0, 0, []), (22, .invokevirtual 26, 40, 0, [436, 437, 438, 71, 439]), (25, .if_icmp .ge 30, 55, 0, []),
  (28, .aload_n 0, 0, 0, []), (29, .getfield 9, 1, 0, [99]), (32, .aload_n 0, 0, 0, []), (33, .getfield 19, 1, 2, [101]),
  (36, .iload_n 2, 0, 0, []), (37, .iadd, 0, 0, []), (38, .caload, 0, 0, []), (39, .aload_n 1, 0, 0, []),
  (40, .iload_n 2, 0, 0, []), (41, .invokevirtual 31, 42, 1, [446, 447, 448, 71, 449]), (44, .if_icmp .eq 5, 49, 0, []), (47, .iconst 0, 0, 0, []),
  (48, .ireturn, 0, 0, []), (49, .iinc 2 1, 0, 0, []), (52, .goto (-32), 20, 0, []), (55, .aload_n 0, 0, 0, []),
  (56, .dup, 0, 0, []), (57, .getfield 19, 1, 2, [101]), (60, .aload_n 1, 0, 0, []), (61, .invokevirtual 26, 40, 0, [436, 437, 438, 71, 439]),
  (64, .iadd, 0, 0, []), (65, .putfield 19, 1, 2, [101]), (68, .iconst 1, 0, 0, []), (69, .ireturn, 0, 0, [])
  ]
/-- java/lang/String.length()I -/
def cd_r40 : List (Nat × Instr × Nat × Nat × List Nat) := [
  (0, .aload_n 0, 0, 0, []), (1, .getfield 9, 50, 0, [1216]), (4, .arraylength, 0, 0, []), (5, .aload_n 0, 0, 0, []),
  (6, .invokevirtual 335, 41, 0, [440, 441, 442, 71, 443]), (9, .ishr, 0, 0, []), (10, .ireturn, 0, 0, [])
  ]
/-- java/lang/String.coder()B -/
def cd_r41 : List (Nat × Instr × Nat × Nat × List Nat) := [
  (0, .getstatic 38, 3, 0, [444]), (3, .ifCond .eq 10, 13, 0, []), (6, .aload_n 0, 0, 0, []), (7, .getfield 15, 50, 1, [1217]),
  (10, .goto 4, 14, 0, []), (13, .iconst 1, 0, 0, []), (14, .ireturn, 0, 0, [])
  ]
/-- java/lang/String.charAt(I)C -/
def cd_r42 : List (Nat × Instr × Nat × Nat × List Nat) := [
  (0, .aload_n 0, 0, 0, []), (1, .invokevirtual 492, 43, 0, [450, 451, 452, 71, 453]), (4, .ifCond .eq 12, 16, 0, []), (7, .aload_n 0, 0, 0, []),
  (8, .getfield 9, 50, 0, [1216]), (11, .iload_n 1, 0, 0, []), (12, .invokestatic 495, 44, 2, [454, 455, 72, 456]), (15, .ireturn, 0, 0, []),
  (16, .aload_n 0, 0, 0, []), (17, .getfield 9, 50, 0, [1216]), (20, .iload_n 1, 0, 0, []), (24, .ireturn, 0, 0, [])
  ]
/-- java/lang/String.isLatin1()Z -/
def cd_r43 : List (Nat × Instr × Nat × Nat × List Nat) := [
  (0, .getstatic 38, 3, 0, [444]), (3, .ifCond .eq 14, 17, 0, []), (6, .aload_n 0, 0, 0, []), (7, .getfield 15, 50, 1, [1217]),
  (10, .ifCond .ne 7, 17, 0, []), (13, .iconst 1, 0, 0, []), (14, .goto 4, 18, 0, []), (17, .iconst 0, 0, 0, []),
  (18, .ireturn, 0, 0, [])
  ]
/-- java/lang/StringLatin1.charAt([BI)C -/
def cd_r44 : List (Nat × Instr × Nat × Nat × List Nat) := [
  (0, .iload_n 1, 0, 0, []), (1, .aload_n 0, 0, 0, []), (2, .arraylength, 0, 0, []), (3, .invokestatic 9, 45, 2, [457, 458, 71, 459]),
  (6, .aload_n 0, 0, 0, []), (7, .iload_n 1, 0, 0, []), (8, .baload, 0, 0, []), (9, .sipush 255, 0, 0, []),
  (12, .iand, 0, 0, []), (13, .i2c, 0, 0, []), (14, .ireturn, 0, 0, [])
  ]
/-- java/lang/String.checkIndex(II)V -/
def cd_r45 : List (Nat × Instr × Nat × Nat × List Nat) := [
  (0, .iload_n 0, 0, 0, []), (1, .iload_n 1, 0, 0, []), (2, .getstatic 1053, 4, 0, [460]), (5, .invokestatic 1059, 46, 3, [462, 463, 73, 464]),
  (8, .pop, 0, 0, []), (9, .return_, 0, 0, [])
  ]
/-- jdk/internal/util/Preconditions.checkIndex(IILjava/util/function/BiFunction;)I -/
def cd_r46 : List (Nat × Instr × Nat × Nat × List Nat) := [
  (0, .iload_n 0, 0, 0, []), (1, .ifCond .lt 8, 9, 0, []), (4, .iload_n 0, 0, 0, []), (5, .iload_n 1, 0, 0, []),
  (6, .if_icmp .lt 10, 16, 0, []), (9, .aload_n 2, 0, 0, []), (10, .iload_n 0, 0, 0, []), (11, .iload_n 1, 0, 0, []),
  (15, .athrow, 0, 0, []), (16, .iload_n 0, 0, 0, []), (17, .ireturn, 0, 0, [])
  ]
/-- ChainDesk$DeclarationReader.readMaker(ZI)LChainDesk$Member; -/
def cd_r47 : List (Nat × Instr × Nat × Nat × List Nat) := [
  (0, .new 71, 7, 0, [489, 490, 75]), (3, .dup, 0, 0, []), (4, .getstatic 73, 2, 0, [491]), (7, .iload_n 1, 0, 0, []),
  (8, .iconst 0, 0, 0, []), (9, .iconst 0, 0, 0, []), (10, .invokespecial 79, 48, 4, [492, 493, 75, 494]), (13, .astore_n 3, 0, 0, []),
  (14, .aload_n 3, 0, 0, []), (15, .iconst 3, 0, 0, []), (16, .iload_n 2, 0, 0, []), (17, .iadd, 0, 0, []),
  (18, .putfield 82, 7, 6, [519]), (21, .aload_n 0, 0, 0, []), (22, .aload_n 3, 0, 0, []), (23, .invokevirtual 85, 49, 1, [538, 540, 2, 64, 541]),
  (26, .ifCond .eq 7, 33, 0, []), (29, .aload_n 3, 0, 0, []), (30, .goto 4, 34, 0, []), (33, .aconst_null, 0, 0, []),
  (34, .areturn, 0, 0, [])
  ]
/-- ChainDesk$Member.<init>(LChainDesk$Kind;ZZI)V -/
def cd_r48 : List (Nat × Instr × Nat × Nat × List Nat) := [
  (0, .aload_n 0, 0, 0, []), (1, .invokespecial 3, 1000, 0, [495, 91, 92]), (4, .aload_n 0, 0, 0, []), (5, .iconst 2, 0, 0, []),
  (6, .newarray .int, 0, 0, [129]), (8, .putfield 9, 7, 4, [512]), (11, .aload_n 0, 0, 0, []), (12, .aload_n 1, 0, 0, []),
  (13, .putfield 15, 7, 0, [496]), (16, .aload_n 0, 0, 0, []), (17, .iload_n 2, 0, 0, []), (18, .putfield 19, 7, 1, [501]),
  (21, .aload_n 0, 0, 0, []), (22, .iload_n 3, 0, 0, []), (23, .putfield 23, 7, 2, [504]), (26, .aload_n 0, 0, 0, []),
  (27, .iload 4, 0, 0, []), (29, .putfield 26, 7, 3, [508]), (32, .return_, 0, 0, [])
  ]
/-- ChainDesk$DeclarationReader.readParameters(LChainDesk$Member;)Z -/
def cd_r49 : List (Nat × Instr × Nat × Nat × List Nat) := [
  (0, .aload_n 0, 0, 0, []), (1, .getfield 9, 5, 0, [156]), (4, .bipush 41, 0, 0, []), (6, .invokevirtual 25, 34, 1, [384, 385, 386, 61, 387]),
  (9, .ifCond .eq 5, 14, 0, []), (12, .iconst 1, 0, 0, []), (13, .ireturn, 0, 0, []), (14, .iconst 0, 0, 0, []),
  (15, .istore_n 2, 0, 0, []), (16, .iload_n 2, 0, 0, []), (17, .iconst 2, 0, 0, []), (18, .if_icmp .ge 51, 69, 0, []),
  (21, .aload_n 0, 0, 0, []), (22, .getfield 9, 5, 0, [156]), (25, .invokevirtual 99, 50, 0, [542, 543, 544, 61, 545]), (28, .istore_n 3, 0, 0, []),
  (29, .iload_n 3, 0, 0, []), (30, .iconst (-1), 0, 0, []), (31, .if_icmp .ne 5, 36, 0, []), (34, .iconst 0, 0, 0, []),
  (35, .ireturn, 0, 0, []), (36, .aload_n 1, 0, 0, []), (37, .iload_n 3, 0, 0, []), (38, .invokevirtual 102, 52, 1, [551, 552, 553, 75, 554]),
  (41, .aload_n 0, 0, 0, []), (42, .getfield 9, 5, 0, [156]), (45, .bipush 44, 0, 0, []), (47, .invokevirtual 25, 34, 1, [384, 385, 386, 61, 387]),
  (50, .ifCond .ne 13, 63, 0, []), (53, .aload_n 0, 0, 0, []), (54, .getfield 9, 5, 0, [156]), (57, .bipush 41, 0, 0, []),
  (59, .invokevirtual 25, 34, 1, [384, 385, 386, 61, 387]), (62, .ireturn, 0, 0, []), (63, .iinc 2 1, 0, 0, []), (66, .goto (-50), 16, 0, []),
  (69, .iconst 0, 0, 0, []), (70, .ireturn, 0, 0, [])
  ]
/-- ChainDesk$Buffer.takeType()I -/
def cd_r50 : List (Nat × Instr × Nat × Nat × List Nat) := [
  (0, .aload_n 0, 0, 0, []), (1, .invokevirtual 39, 33, 0, [546, 380, 381, 61, 382]), (4, .istore_n 1, 0, 0, []), (5, .iload_n 1, 0, 0, []),
  (6, .iconst (-1), 0, 0, []), (7, .if_icmp .eq 7, 14, 0, []), (10, .iconst 3, 0, 0, []), (11, .iload_n 1, 0, 0, []),
  (12, .iadd, 0, 0, []), (13, .ireturn, 0, 0, []), (14, .aload_n 0, 0, 0, []), (15, .invokevirtual 42, 51, 0, [547, 549, 3, 61, 550]),
  (18, .lookupswitch 40 #[(6909556, 34), (1651470188, 38), (1819242087, 36)], 0, 0, []), (52, .iconst 0, 0, 0, []), (53, .ireturn, 0, 0, []), (54, .iconst 1, 0, 0, []),
  (55, .ireturn, 0, 0, []), (56, .iconst 2, 0, 0, []), (57, .ireturn, 0, 0, []), (58, .iconst (-1), 0, 0, []),
  (59, .ireturn, 0, 0, [])
  ]
/-- ChainDesk$Buffer.takeWord()I -/
def cd_r51 : List (Nat × Instr × Nat × Nat × List Nat) := [
  (0, .aload_n 0, 0, 0, []), (1, .getfield 19, 1, 2, [101]), (4, .istore_n 1, 0, 0, []), (5, .iconst 0, 0, 0, []),
  (6, .istore_n 2, 0, 0, []), (7, .aload_n 0, 0, 0, []), (8, .getfield 19, 1, 2, [101]), (11, .aload_n 0, 0, 0, []),
  (12, .getfield 15, 1, 1, [100]), (15, .if_icmp .ge 48, 63, 0, []), (18, .aload_n 0, 0, 0, []), (19, .getfield 9, 1, 0, [99]),
  (22, .aload_n 0, 0, 0, []), (23, .getfield 19, 1, 2, [101]), (26, .caload, 0, 0, []), (27, .istore_n 3, 0, 0, []),
  (28, .iload_n 3, 0, 0, []), (29, .bipush 97, 0, 0, []), (31, .if_icmp .lt 32, 63, 0, []), (34, .iload_n 3, 0, 0, []),
  (35, .bipush 122, 0, 0, []), (37, .if_icmp .le 6, 43, 0, []), (40, .goto 23, 63, 0, []), (43, .iload_n 2, 0, 0, []),
  (44, .bipush 8, 0, 0, []), (46, .ishl, 0, 0, []), (47, .iload_n 3, 0, 0, []), (48, .ior, 0, 0, []),
  (49, .istore_n 2, 0, 0, []), (50, .aload_n 0, 0, 0, []), (51, .dup, 0, 0, []), (52, .getfield 19, 1, 2, [101]),
  (55, .iconst 1, 0, 0, []), (56, .iadd, 0, 0, []), (57, .putfield 19, 1, 2, [101]), (60, .goto (-53), 7, 0, []),
  (63, .aload_n 0, 0, 0, []), (64, .getfield 19, 1, 2, [101]), (67, .iload_n 1, 0, 0, []), (68, .isub, 0, 0, []),
  (69, .iconst 4, 0, 0, []), (70, .if_icmp .gt 7, 77, 0, []), (73, .iload_n 2, 0, 0, []), (74, .goto 4, 78, 0, []),
  (77, .iconst 0, 0, 0, []), (78, .ireturn, 0, 0, [])
  ]
/-- ChainDesk$Member.addParameter(I)V -/
def cd_r52 : List (Nat × Instr × Nat × Nat × List Nat) := [
  (0, .aload_n 0, 0, 0, []), (1, .getfield 30, 7, 5, [515]), (4, .aload_n 0, 0, 0, []), (5, .getfield 9, 7, 4, [512]),
  (8, .arraylength, 0, 0, []), (9, .if_icmp .ge 23, 32, 0, []), (12, .aload_n 0, 0, 0, []), (13, .getfield 9, 7, 4, [512]),
  (16, .aload_n 0, 0, 0, []), (17, .getfield 30, 7, 5, [515]), (20, .iload_n 1, 0, 0, []), (21, .iastore, 0, 0, []),
  (22, .aload_n 0, 0, 0, []), (23, .dup, 0, 0, []), (24, .getfield 30, 7, 5, [515]), (27, .iconst 1, 0, 0, []),
  (28, .iadd, 0, 0, []), (29, .putfield 30, 7, 5, [515]), (32, .return_, 0, 0, [])
  ]
/-- ChainDesk$DeclarationReader.readNamed(Z)LChainDesk$Member; -/
def cd_r53 : List (Nat × Instr × Nat × Nat × List Nat) := [
  (0, .aload_n 0, 0, 0, []), (1, .getfield 9, 5, 0, [156]), (4, .ldc 88, 12, 0, [559]), (6, .invokevirtual 46, 39, 1, [432, 433, 434, 61, 435]),
  (9, .istore_n 2, 0, 0, []), (10, .aload_n 0, 0, 0, []), (11, .getfield 9, 5, 0, [156]), (14, .invokevirtual 90, 54, 0, [560, 561, 562, 61, 563]),
  (17, .istore_n 3, 0, 0, []), (18, .iload_n 3, 0, 0, []), (19, .ifCond .ne 5, 24, 0, []), (22, .aconst_null, 0, 0, []),
  (23, .areturn, 0, 0, []), (24, .aload_n 0, 0, 0, []), (25, .getfield 9, 5, 0, [156]), (28, .bipush 40, 0, 0, []),
  (30, .invokevirtual 25, 34, 1, [384, 385, 386, 61, 387]), (33, .istore 4, 0, 0, []), (35, .iload 4, 0, 0, []), (37, .ifCond .eq 9, 46, 0, []),
  (40, .getstatic 93, 1, 0, [564]), (43, .goto 6, 49, 0, []), (46, .getstatic 96, 0, 0, [565]), (49, .astore 5, 0, 0, []),
  (51, .new 71, 7, 0, [489, 490, 75]), (54, .dup, 0, 0, []), (55, .aload 5, 0, 0, []), (57, .iload_n 1, 0, 0, []),
  (58, .iload_n 2, 0, 0, []), (59, .iload_n 3, 0, 0, []), (60, .invokespecial 79, 48, 4, [492, 493, 75, 494]), (63, .astore 6, 0, 0, []),
  (65, .iload 4, 0, 0, []), (67, .ifCond .eq 12, 79, 0, []), (70, .aload_n 0, 0, 0, []), (71, .aload 6, 0, 0, []),
  (73, .invokevirtual 85, 49, 1, [538, 540, 2, 64, 541]), (76, .ifCond .eq 15, 91, 0, []), (79, .aload_n 0, 0, 0, []), (80, .getfield 9, 5, 0, [156]),
  (83, .bipush 58, 0, 0, []), (85, .invokevirtual 25, 34, 1, [384, 385, 386, 61, 387]), (88, .ifCond .ne 5, 93, 0, []), (91, .aconst_null, 0, 0, []),
  (92, .areturn, 0, 0, []), (93, .aload 6, 0, 0, []), (95, .aload_n 0, 0, 0, []), (96, .getfield 9, 5, 0, [156]),
  (99, .invokevirtual 99, 50, 0, [542, 543, 544, 61, 545]), (102, .putfield 82, 7, 6, [519]), (105, .aload 6, 0, 0, []), (107, .getfield 82, 7, 6, [519]),
  (110, .iconst (-1), 0, 0, []), (111, .if_icmp .ne 7, 118, 0, []), (114, .aconst_null, 0, 0, []), (115, .goto 5, 120, 0, []),
  (118, .aload 6, 0, 0, []), (120, .areturn, 0, 0, [])
  ]
/-- ChainDesk$Buffer.takeName()I -/
def cd_r54 : List (Nat × Instr × Nat × Nat × List Nat) := [
  (0, .aload_n 0, 0, 0, []), (1, .invokevirtual 42, 51, 0, [547, 549, 3, 61, 550]), (4, .istore_n 1, 0, 0, []), (5, .iload_n 1, 0, 0, []),
  (6, .lookupswitch 44 #[(6909556, 42), (7234935, 42), (1651470188, 42), (1819242087, 42)], 0, 0, []), (48, .iconst 0, 0, 0, []), (49, .ireturn, 0, 0, []), (50, .iload_n 1, 0, 0, []),
  (51, .ireturn, 0, 0, [])
  ]
/-- ChainDesk$Declaration.allows(LChainDesk$Member;)Z -/
def cd_r55 : List (Nat × Instr × Nat × Nat × List Nat) := [
  (0, .aload_n 0, 0, 0, []), (1, .aload_n 1, 0, 0, []), (2, .getfield 32, 7, 0, [497]), (5, .aload_n 1, 0, 0, []),
  (6, .getfield 36, 7, 3, [509]), (9, .invokevirtual 39, 28, 2, [570, 355, 356, 70, 357]), (12, .ifnull 5, 17, 0, []), (15, .iconst 0, 0, 0, []),
  (16, .ireturn, 0, 0, []), (17, .aload_n 1, 0, 0, []), (18, .getfield 32, 7, 0, [497]), (21, .getstatic 43, 1, 0, [571]),
  (24, .if_acmp .ne 11, 35, 0, []), (27, .aload_n 0, 0, 0, []), (28, .aload_n 1, 0, 0, []), (29, .invokevirtual 48, 56, 1, [572, 574, 5, 70, 575]),
  (32, .ifCond .eq 7, 39, 0, []), (35, .iconst 1, 0, 0, []), (36, .goto 4, 40, 0, []), (39, .iconst 0, 0, 0, []),
  (40, .ireturn, 0, 0, [])
  ]
/-- ChainDesk$Declaration.allowsOverride(LChainDesk$Member;)Z -/
def cd_r56 : List (Nat × Instr × Nat × Nat × List Nat) := [
  (0, .aload_n 0, 0, 0, []), (1, .getfield 21, 4, 1, [404]), (4, .astore_n 2, 0, 0, []), (5, .aload_n 2, 0, 0, []),
  (6, .ifnull 58, 64, 0, []), (9, .aload_n 2, 0, 0, []), (10, .getstatic 43, 1, 0, [571]), (13, .aload_n 1, 0, 0, []),
  (14, .getfield 36, 7, 3, [509]), (17, .invokevirtual 39, 28, 2, [570, 355, 356, 70, 357]), (20, .astore_n 3, 0, 0, []), (21, .aload_n 3, 0, 0, []),
  (22, .ifnull 34, 56, 0, []), (25, .aload_n 3, 0, 0, []), (26, .getfield 52, 7, 1, [503]), (29, .ifCond .ne 27, 56, 0, []),
  (32, .aload_n 3, 0, 0, []), (33, .getfield 56, 7, 2, [505]), (36, .ifCond .ne 18, 54, 0, []), (39, .aload_n 1, 0, 0, []),
  (40, .getfield 56, 7, 2, [505]), (43, .ifCond .ne 11, 54, 0, []), (46, .aload_n 1, 0, 0, []), (47, .aload_n 3, 0, 0, []),
  (48, .invokevirtual 59, 57, 1, [576, 577, 578, 75, 579]), (51, .ifCond .ne 5, 56, 0, []), (54, .iconst 0, 0, 0, []), (55, .ireturn, 0, 0, []),
  (56, .aload_n 2, 0, 0, []), (57, .getfield 21, 4, 1, [404]), (60, .astore_n 2, 0, 0, []), (61, .goto (-56), 5, 0, []),
  (64, .iconst 1, 0, 0, []), (65, .ireturn, 0, 0, [])
  ]
/-- ChainDesk$Member.hasTypesOf(LChainDesk$Member;)Z -/
def cd_r57 : List (Nat × Instr × Nat × Nat × List Nat) := [
  (0, .aload_n 0, 0, 0, []), (1, .getfield 33, 7, 6, [518]), (4, .aload_n 1, 0, 0, []), (5, .getfield 33, 7, 6, [518]),
  (8, .if_icmp .ne 14, 22, 0, []), (11, .aload_n 0, 0, 0, []), (12, .getfield 30, 7, 5, [515]), (15, .aload_n 1, 0, 0, []),
  (16, .getfield 30, 7, 5, [515]), (19, .if_icmp .eq 5, 24, 0, []), (22, .iconst 0, 0, 0, []), (23, .ireturn, 0, 0, []),
  (24, .iconst 0, 0, 0, []), (25, .istore_n 2, 0, 0, []), (26, .iload_n 2, 0, 0, []), (27, .aload_n 0, 0, 0, []),
  (28, .getfield 30, 7, 5, [515]), (31, .if_icmp .ge 26, 57, 0, []), (34, .aload_n 0, 0, 0, []), (35, .getfield 9, 7, 4, [512]),
  (38, .iload_n 2, 0, 0, []), (39, .iaload, 0, 0, []), (40, .aload_n 1, 0, 0, []), (41, .getfield 9, 7, 4, [512]),
  (44, .iload_n 2, 0, 0, []), (45, .iaload, 0, 0, []), (46, .if_icmp .eq 5, 51, 0, []), (49, .iconst 0, 0, 0, []),
  (50, .ireturn, 0, 0, []), (51, .iinc 2 1, 0, 0, []), (54, .goto (-28), 26, 0, []), (57, .iconst 1, 0, 0, []),
  (58, .ireturn, 0, 0, [])
  ]
/-- ChainDesk$Declaration.add(LChainDesk$Member;)Z -/
def cd_r58 : List (Nat × Instr × Nat × Nat × List Nat) := [
  (0, .aload_n 0, 0, 0, []), (1, .getfield 25, 4, 3, [410]), (4, .aload_n 0, 0, 0, []), (5, .getfield 11, 4, 2, [407]),
  (8, .arraylength, 0, 0, []), (9, .if_icmp .ne 5, 14, 0, []), (12, .iconst 0, 0, 0, []), (13, .ireturn, 0, 0, []),
  (14, .aload_n 0, 0, 0, []), (15, .getfield 11, 4, 2, [407]), (18, .aload_n 0, 0, 0, []), (19, .getfield 25, 4, 3, [410]),
  (22, .aload_n 1, 0, 0, []), (23, .aastore, 0, 0, []), (24, .aload_n 0, 0, 0, []), (25, .dup, 0, 0, []),
  (26, .getfield 25, 4, 3, [410]), (29, .iconst 1, 0, 0, []), (30, .iadd, 0, 0, []), (31, .putfield 25, 4, 3, [410]),
  (34, .iconst 1, 0, 0, []), (35, .ireturn, 0, 0, [])
  ]
/-- ChainDesk$Buffer.isAtEnd()Z -/
def cd_r59 : List (Nat × Instr × Nat × Nat × List Nat) := [
  (0, .aload_n 0, 0, 0, []), (1, .getfield 19, 1, 2, [101]), (4, .aload_n 0, 0, 0, []), (5, .getfield 15, 1, 1, [100]),
  (8, .if_icmp .ne 7, 15, 0, []), (11, .iconst 1, 0, 0, []), (12, .goto 4, 16, 0, []), (15, .iconst 0, 0, 0, []),
  (16, .ireturn, 0, 0, [])
  ]
/-- ChainDesk$Buffer.clear()V -/
def cd_r60 : List (Nat × Instr × Nat × Nat × List Nat) := [
  (0, .aload_n 0, 0, 0, []), (1, .iconst 0, 0, 0, []), (2, .putfield 15, 1, 1, [100]), (5, .aload_n 0, 0, 0, []),
  (6, .iconst 0, 0, 0, []), (7, .putfield 19, 1, 2, [101]), (10, .return_, 0, 0, [])
  ]
/-- ChainDesk$Catalog.add(LChainDesk$Declaration;)Z -/
def cd_r61 : List (Nat × Instr × Nat × Nat × List Nat) := [
  (0, .aload_n 0, 0, 0, []), (1, .aload_n 1, 0, 0, []), (2, .getfield 25, 4, 0, [402]), (5, .invokevirtual 28, 22, 1, [343, 325, 326, 62, 327]),
  (8, .ifnull 5, 13, 0, []), (11, .iconst 0, 0, 0, []), (12, .ireturn, 0, 0, []), (13, .aload_n 0, 0, 0, []),
  (14, .getfield 11, 2, 0, [118]), (17, .aload_n 1, 0, 0, []), (18, .getfield 25, 4, 0, [402]), (21, .aload_n 1, 0, 0, []),
  (22, .aastore, 0, 0, []), (23, .aload_n 1, 0, 0, []), (24, .getfield 32, 4, 1, [405]), (27, .astore_n 2, 0, 0, []),
  (28, .aload_n 2, 0, 0, []), (29, .ifnull 28, 57, 0, []), (32, .aload_n 0, 0, 0, []), (33, .getfield 17, 2, 1, [119]),
  (36, .iconst 3, 0, 0, []), (37, .aload_n 1, 0, 0, []), (38, .getfield 25, 4, 0, [402]), (41, .iadd, 0, 0, []),
  (42, .dup2, 0, 0, []), (43, .iaload, 0, 0, []), (44, .aload_n 0, 0, 0, []), (45, .getfield 17, 2, 1, [119]),
  (48, .iconst 3, 0, 0, []), (49, .aload_n 2, 0, 0, []), (50, .getfield 25, 4, 0, [402]), (53, .iadd, 0, 0, []),
  (54, .iaload, 0, 0, []), (55, .ior, 0, 0, []), (56, .iastore, 0, 0, []), (57, .iconst 1, 0, 0, []),
  (58, .ireturn, 0, 0, [])
  ]
/-- ChainDesk.variable()I -/
def cd_r62 : List (Nat × Instr × Nat × Nat × List Nat) := [
  (0, .aload_n 0, 0, 0, []), (1, .getfield 26, 0, 2, [257]), (4, .invokevirtual 94, 63, 0, [680, 681, 682, 63, 683]), (7, .istore_n 1, 0, 0, []),
  (8, .iload_n 1, 0, 0, []), (9, .ifCond .ne 14, 23, 0, []), (12, .aload_n 0, 0, 0, []), (13, .invokevirtual 97, 64, 0, [684, 686, 7, 60, 687]),
  (16, .ifCond .eq 7, 23, 0, []), (19, .iconst 1, 0, 0, []), (20, .goto 4, 24, 0, []), (23, .iconst 0, 0, 0, []),
  (24, .istore_n 2, 0, 0, []), (25, .aload_n 0, 0, 0, []), (26, .getfield 10, 0, 0, [255]), (29, .invokevirtual 77, 60, 0, [588, 589, 590, 61, 591]),
  (32, .iload_n 1, 0, 0, []), (33, .ifCond .eq 11, 44, 0, []), (36, .new 86, 13, 88, [658, 659, 82]), (44, .iload_n 2, 0, 0, []),
  (45, .ifCond .ne 11, 56, 0, []), (48, .new 80, 12, 82, [592, 593, 81]), (56, .aload_n 0, 0, 0, []), (57, .getfield 26, 0, 2, [257]),
  (60, .getfield 100, 9, 2, [142]), (63, .ireturn, 0, 0, [])
  ]
/-- ChainDesk$Scope.isFull()Z -/
def cd_r63 : List (Nat × Instr × Nat × Nat × List Nat) := [
  (0, .aload_n 0, 0, 0, []), (1, .getfield 18, 9, 2, [140]), (4, .iconst 5, 0, 0, []), (5, .if_icmp .ne 7, 12, 0, []),
  (8, .iconst 1, 0, 0, []), (9, .goto 4, 13, 0, []), (12, .iconst 0, 0, 0, []), (13, .ireturn, 0, 0, [])
  ]
/-- ChainDesk.readVariable()Z -/
def cd_r64 : List (Nat × Instr × Nat × Nat × List Nat) := [
  (0, .aload_n 0, 0, 0, []), (1, .getfield 10, 0, 0, [255]), (4, .invokevirtual 166, 54, 0, [688, 561, 562, 61, 563]), (7, .istore_n 1, 0, 0, []),
  (8, .iload_n 1, 0, 0, []), (9, .ifCond .eq 15, 24, 0, []), (12, .aload_n 0, 0, 0, []), (13, .getfield 10, 0, 0, [255]),
  (16, .bipush 58, 0, 0, []), (18, .invokevirtual 169, 34, 1, [689, 385, 386, 61, 387]), (21, .ifCond .ne 5, 26, 0, []), (24, .iconst 0, 0, 0, []),
  (25, .ireturn, 0, 0, []), (26, .aload_n 0, 0, 0, []), (27, .getfield 10, 0, 0, [255]), (30, .invokevirtual 173, 50, 0, [690, 543, 544, 61, 545]),
  (33, .istore_n 2, 0, 0, []), (34, .iload_n 2, 0, 0, []), (35, .iconst (-1), 0, 0, []), (36, .if_icmp .eq 29, 65, 0, []),
  (39, .aload_n 0, 0, 0, []), (40, .getfield 10, 0, 0, [255]), (43, .invokevirtual 73, 59, 0, [584, 585, 586, 61, 587]), (46, .ifCond .eq 19, 65, 0, []),
  (49, .aload_n 0, 0, 0, []), (50, .getfield 26, 0, 2, [257]), (53, .iload_n 1, 0, 0, []), (54, .iload_n 2, 0, 0, []),
  (55, .invokevirtual 176, 65, 2, [691, 692, 693, 63, 694]), (58, .ifCond .eq 7, 65, 0, []), (61, .iconst 1, 0, 0, []), (62, .goto 4, 66, 0, []),
  (65, .iconst 0, 0, 0, []), (66, .ireturn, 0, 0, [])
  ]
/-- ChainDesk$Scope.add(II)Z -/
def cd_r65 : List (Nat × Instr × Nat × Nat × List Nat) := [
  (0, .aload_n 0, 0, 0, []), (1, .invokevirtual 22, 63, 0, [695, 681, 682, 63, 683]), (4, .ifCond .ne 12, 16, 0, []), (7, .aload_n 0, 0, 0, []),
  (8, .iload_n 1, 0, 0, []), (9, .invokevirtual 26, 66, 1, [696, 697, 698, 63, 699]), (12, .iconst (-1), 0, 0, []), (13, .if_icmp .eq 5, 18, 0, []),
  (16, .iconst 0, 0, 0, []), (17, .ireturn, 0, 0, []), (18, .aload_n 0, 0, 0, []), (19, .getfield 9, 9, 0, [136]),
  (22, .aload_n 0, 0, 0, []), (23, .getfield 18, 9, 2, [140]), (26, .iload_n 1, 0, 0, []), (27, .iastore, 0, 0, []),
  (28, .aload_n 0, 0, 0, []), (29, .getfield 15, 9, 1, [138]), (32, .aload_n 0, 0, 0, []), (33, .getfield 18, 9, 2, [140]),
  (36, .iload_n 2, 0, 0, []), (37, .iastore, 0, 0, []), (38, .aload_n 0, 0, 0, []), (39, .dup, 0, 0, []),
  (40, .getfield 18, 9, 2, [140]), (43, .iconst 1, 0, 0, []), (44, .iadd, 0, 0, []), (45, .putfield 18, 9, 2, [140]),
  (48, .iconst 1, 0, 0, []), (49, .ireturn, 0, 0, [])
  ]
/-- ChainDesk$Scope.typeOf(I)I -/
def cd_r66 : List (Nat × Instr × Nat × Nat × List Nat) := [
  (0, .iconst 0, 0, 0, []), (1, .istore_n 2, 0, 0, []), (2, .iload_n 2, 0, 0, []), (3, .aload_n 0, 0, 0, []),
  (4, .getfield 18, 9, 2, [140]), (7, .if_icmp .ge 26, 33, 0, []), (10, .aload_n 0, 0, 0, []), (11, .getfield 9, 9, 0, [136]),
  (14, .iload_n 2, 0, 0, []), (15, .iaload, 0, 0, []), (16, .iload_n 1, 0, 0, []), (17, .if_icmp .ne 10, 27, 0, []),
  (20, .aload_n 0, 0, 0, []), (21, .getfield 15, 9, 1, [138]), (24, .iload_n 2, 0, 0, []), (25, .iaload, 0, 0, []),
  (26, .ireturn, 0, 0, []), (27, .iinc 2 1, 0, 0, []), (30, .goto (-28), 2, 0, []), (33, .iconst (-1), 0, 0, []),
  (34, .ireturn, 0, 0, [])
  ]
/-- ChainDesk.enter(I)V -/
def cd_r67 : List (Nat × Instr × Nat × Nat × List Nat) := [
  (0, .iload_n 1, 0, 0, []), (1, .iconst (-1), 0, 0, []), (2, .if_icmp .eq 18, 20, 0, []), (5, .iload_n 1, 0, 0, []),
  (6, .invokestatic 101, 24, 1, [332, 333, 60, 334]), (9, .ifCond .ne 11, 20, 0, []), (12, .new 80, 12, 82, [592, 593, 81]), (20, .aload_n 0, 0, 0, []),
  (21, .getfield 19, 0, 1, [256]), (24, .iload_n 1, 0, 0, []), (25, .putfield 105, 2, 2, [121]), (28, .return_, 0, 0, [])
  ]
/-- ChainDesk.complete(II)I -/
def cd_r68 : List (Nat × Instr × Nat × Nat × List Nat) := [
  (0, .iload_n 1, 0, 0, []), (1, .invokestatic 108, 15, 1, [297, 298, 60, 299]), (4, .ifCond .eq 12, 16, 0, []), (7, .iload_n 2, 0, 0, []),
  (8, .ifCond .lt 8, 16, 0, []), (11, .iload_n 2, 0, 0, []), (12, .iconst 3, 0, 0, []), (13, .if_icmp .le 11, 24, 0, []),
  (16, .new 80, 12, 82, [592, 593, 81]), (24, .aload_n 0, 0, 0, []), (25, .getfield 53, 0, 5, [260]), (28, .invokevirtual 111, 69, 0, [714, 715, 716, 66, 717]),
  (31, .iconst 1, 0, 0, []), (32, .istore_n 3, 0, 0, []), (33, .iload_n 3, 0, 0, []), (34, .iload_n 2, 0, 0, []),
  (35, .if_icmp .gt 17, 52, 0, []), (38, .aload_n 0, 0, 0, []), (39, .getfield 53, 0, 5, [260]), (42, .iload_n 3, 0, 0, []),
  (43, .invokevirtual 114, 78, 1, [753, 754, 755, 66, 756]), (46, .iinc 3 1, 0, 0, []), (49, .goto (-16), 33, 0, []), (52, .aload_n 0, 0, 0, []),
  (53, .getfield 53, 0, 5, [260]), (56, .iload_n 1, 0, 0, []), (57, .iload_n 2, 0, 0, []), (58, .invokevirtual 118, 86, 2, [799, 800, 801, 66, 802]),
  (61, .ireturn, 0, 0, [])
  ]
/-- ChainDesk$Completer.keepVariables()V -/
def cd_r69 : List (Nat × Instr × Nat × Nat × List Nat) := [
  (0, .aload_n 0, 0, 0, []), (1, .iconst 0, 0, 0, []), (2, .invokevirtual 41, 70, 1, [718, 720, 8, 66, 721]), (5, .iconst 0, 0, 0, []),
  (6, .istore_n 1, 0, 0, []), (7, .iload_n 1, 0, 0, []), (8, .aload_n 0, 0, 0, []), (9, .getfield 32, 3, 1, [234]),
  (12, .getfield 45, 9, 2, [141]), (15, .if_icmp .ge 60, 75, 0, []), (18, .aload_n 0, 0, 0, []), (19, .getfield 24, 3, 4, [237]),
  (22, .iconst 0, 0, 0, []), (23, .putfield 51, 8, 1, [200]), (26, .aload_n 0, 0, 0, []), (27, .getfield 24, 3, 4, [237]),
  (30, .aload_n 0, 0, 0, []), (31, .getfield 32, 3, 1, [234]), (34, .getfield 54, 9, 0, [137]), (37, .iload_n 1, 0, 0, []),
  (38, .iaload, 0, 0, []), (39, .invokevirtual 58, 71, 1, [722, 723, 724, 67, 725]), (42, .aload_n 0, 0, 0, []), (43, .getfield 24, 3, 4, [237]),
  (46, .aload_n 0, 0, 0, []), (47, .getfield 32, 3, 1, [234]), (50, .getfield 61, 9, 1, [139]), (53, .iload_n 1, 0, 0, []),
  (54, .iaload, 0, 0, []), (55, .putfield 64, 8, 2, [202]), (58, .aload_n 0, 0, 0, []), (59, .getfield 37, 3, 5, [238]),
  (62, .aload_n 0, 0, 0, []), (63, .getfield 24, 3, 4, [237]), (66, .invokevirtual 67, 73, 1, [730, 731, 732, 68, 733]), (69, .iinc 1 1, 0, 0, []),
  (72, .goto (-65), 7, 0, []), (75, .return_, 0, 0, [])
  ]
/-- ChainDesk$Completer.startShelf(I)V -/
def cd_r70 : List (Nat × Instr × Nat × Nat × List Nat) := [
  (0, .aload_n 0, 0, 0, []), (1, .aload_n 0, 0, 0, []), (2, .getfield 11, 3, 2, [235]), (5, .iload_n 1, 0, 0, []),
  (6, .aaload, 0, 0, []), (7, .putfield 37, 3, 5, [238]), (10, .aload_n 0, 0, 0, []), (11, .getfield 37, 3, 5, [238]),
  (14, .iconst 0, 0, 0, []), (15, .putfield 75, 10, 1, [227]), (18, .aload_n 0, 0, 0, []), (19, .getfield 24, 3, 4, [237]),
  (22, .iload_n 1, 0, 0, []), (23, .putfield 92, 8, 3, [205]), (26, .return_, 0, 0, [])
  ]
/-- ChainDesk$Phrase.addName(I)V -/
def cd_r71 : List (Nat × Instr × Nat × Nat × List Nat) := [
  (0, .bipush 24, 0, 0, []), (2, .istore_n 2, 0, 0, []), (3, .iload_n 2, 0, 0, []), (4, .ifCond .lt 27, 31, 0, []),
  (7, .iload_n 1, 0, 0, []), (8, .iload_n 2, 0, 0, []), (9, .ishr, 0, 0, []), (10, .sipush 255, 0, 0, []),
  (13, .iand, 0, 0, []), (14, .istore_n 3, 0, 0, []), (15, .iload_n 3, 0, 0, []), (16, .ifCond .eq 9, 25, 0, []),
  (19, .aload_n 0, 0, 0, []), (20, .iload_n 3, 0, 0, []), (21, .i2c, 0, 0, []), (22, .invokevirtual 28, 72, 1, [726, 727, 728, 67, 729]),
  (25, .iinc 2 (-8), 0, 0, []), (28, .goto (-25), 3, 0, []), (31, .return_, 0, 0, [])
  ]
/-- ChainDesk$Phrase.add(C)V -/
def cd_r72 : List (Nat × Instr × Nat × Nat × List Nat) := [
  (0, .aload_n 0, 0, 0, []), (1, .getfield 15, 8, 1, [199]), (4, .aload_n 0, 0, 0, []), (5, .getfield 9, 8, 0, [198]),
  (8, .arraylength, 0, 0, []), (9, .if_icmp .ge 23, 32, 0, []), (12, .aload_n 0, 0, 0, []), (13, .getfield 9, 8, 0, [198]),
  (16, .aload_n 0, 0, 0, []), (17, .getfield 15, 8, 1, [199]), (20, .iload_n 1, 0, 0, []), (21, .castore, 0, 0, []),
  (22, .aload_n 0, 0, 0, []), (23, .dup, 0, 0, []), (24, .getfield 15, 8, 1, [199]), (27, .iconst 1, 0, 0, []),
  (28, .iadd, 0, 0, []), (29, .putfield 15, 8, 1, [199]), (32, .return_, 0, 0, [])
  ]
/-- ChainDesk$Shelf.keep(LChainDesk$Phrase;)V -/
def cd_r73 : List (Nat × Instr × Nat × Nat × List Nat) := [
  (0, .aload_n 0, 0, 0, []), (1, .aload_n 1, 0, 0, []), (2, .invokevirtual 30, 74, 1, [734, 735, 736, 68, 737]), (5, .ifCond .ne 4, 9, 0, []),
  (8, .return_, 0, 0, []), (9, .aload_n 0, 0, 0, []), (10, .getfield 22, 10, 1, [226]), (13, .aload_n 0, 0, 0, []),
  (14, .getfield 11, 10, 0, [224]), (17, .arraylength, 0, 0, []), (18, .if_icmp .ge 13, 31, 0, []), (21, .aload_n 0, 0, 0, []),
  (22, .dup, 0, 0, []), (23, .getfield 22, 10, 1, [226]), (26, .iconst 1, 0, 0, []), (27, .iadd, 0, 0, []),
  (28, .putfield 22, 10, 1, [226]), (31, .aload_n 0, 0, 0, []), (32, .getfield 22, 10, 1, [226]), (35, .iconst 1, 0, 0, []),
  (36, .isub, 0, 0, []), (37, .istore_n 2, 0, 0, []), (38, .aload_n 0, 0, 0, []), (39, .getfield 11, 10, 0, [224]),
  (42, .iload_n 2, 0, 0, []), (43, .aaload, 0, 0, []), (44, .astore_n 3, 0, 0, []), (45, .iload_n 2, 0, 0, []),
  (46, .ifCond .le 38, 84, 0, []), (49, .aload_n 1, 0, 0, []), (50, .aload_n 0, 0, 0, []), (51, .getfield 11, 10, 0, [224]),
  (54, .iload_n 2, 0, 0, []), (55, .iconst 1, 0, 0, []), (56, .isub, 0, 0, []), (57, .aaload, 0, 0, []),
  (58, .invokevirtual 26, 76, 1, [742, 743, 744, 67, 745]), (61, .ifCond .eq 23, 84, 0, []), (64, .aload_n 0, 0, 0, []), (65, .getfield 11, 10, 0, [224]),
  (68, .iload_n 2, 0, 0, []), (69, .aload_n 0, 0, 0, []), (70, .getfield 11, 10, 0, [224]), (73, .iload_n 2, 0, 0, []),
  (74, .iconst 1, 0, 0, []), (75, .isub, 0, 0, []), (76, .aaload, 0, 0, []), (77, .aastore, 0, 0, []),
  (78, .iinc 2 (-1), 0, 0, []), (81, .goto (-36), 45, 0, []), (84, .aload_n 0, 0, 0, []), (85, .getfield 11, 10, 0, [224]),
  (88, .iload_n 2, 0, 0, []), (89, .aload_n 3, 0, 0, []), (90, .aastore, 0, 0, []), (91, .aload_n 3, 0, 0, []),
  (92, .aload_n 1, 0, 0, []), (93, .invokevirtual 33, 77, 1, [746, 747, 748, 67, 749]), (96, .return_, 0, 0, [])
  ]
/-- ChainDesk$Shelf.hasRoomFrom(LChainDesk$Phrase;)Z -/
def cd_r74 : List (Nat × Instr × Nat × Nat × List Nat) := [
  (0, .aload_n 1, 0, 0, []), (1, .invokevirtual 18, 75, 0, [738, 739, 740, 67, 741]), (4, .ifCond .eq 5, 9, 0, []), (7, .iconst 0, 0, 0, []),
  (8, .ireturn, 0, 0, []), (9, .aload_n 0, 0, 0, []), (10, .getfield 22, 10, 1, [226]), (13, .aload_n 0, 0, 0, []),
  (14, .getfield 11, 10, 0, [224]), (17, .arraylength, 0, 0, []), (18, .if_icmp .lt 22, 40, 0, []), (21, .aload_n 1, 0, 0, []),
  (22, .aload_n 0, 0, 0, []), (23, .getfield 11, 10, 0, [224]), (26, .aload_n 0, 0, 0, []), (27, .getfield 11, 10, 0, [224]),
  (30, .arraylength, 0, 0, []), (31, .iconst 1, 0, 0, []), (32, .isub, 0, 0, []), (33, .aaload, 0, 0, []),
  (34, .invokevirtual 26, 76, 1, [742, 743, 744, 67, 745]), (37, .ifCond .eq 7, 44, 0, []), (40, .iconst 1, 0, 0, []), (41, .goto 4, 45, 0, []),
  (44, .iconst 0, 0, 0, []), (45, .ireturn, 0, 0, [])
  ]
/-- ChainDesk$Phrase.isTooLong()Z -/
def cd_r75 : List (Nat × Instr × Nat × Nat × List Nat) := [
  (0, .aload_n 0, 0, 0, []), (1, .getfield 15, 8, 1, [199]), (4, .bipush 24, 0, 0, []), (6, .if_icmp .le 7, 13, 0, []),
  (9, .iconst 1, 0, 0, []), (10, .goto 4, 14, 0, []), (13, .iconst 0, 0, 0, []), (14, .ireturn, 0, 0, [])
  ]
/-- ChainDesk$Phrase.isBefore(LChainDesk$Phrase;)Z -/
def cd_r76 : List (Nat × Instr × Nat × Nat × List Nat) := [
  (0, .iconst 0, 0, 0, []), (1, .istore_n 2, 0, 0, []), (2, .iload_n 2, 0, 0, []), (3, .aload_n 0, 0, 0, []),
  (4, .getfield 15, 8, 1, [199]), (7, .if_icmp .ge 53, 60, 0, []), (10, .iload_n 2, 0, 0, []), (11, .aload_n 1, 0, 0, []),
  (12, .getfield 15, 8, 1, [199]), (15, .if_icmp .ge 45, 60, 0, []), (18, .aload_n 0, 0, 0, []), (19, .getfield 9, 8, 0, [198]),
  (22, .iload_n 2, 0, 0, []), (23, .caload, 0, 0, []), (24, .aload_n 1, 0, 0, []), (25, .getfield 9, 8, 0, [198]),
  (28, .iload_n 2, 0, 0, []), (29, .caload, 0, 0, []), (30, .if_icmp .eq 24, 54, 0, []), (33, .aload_n 0, 0, 0, []),
  (34, .getfield 9, 8, 0, [198]), (37, .iload_n 2, 0, 0, []), (38, .caload, 0, 0, []), (39, .aload_n 1, 0, 0, []),
  (40, .getfield 9, 8, 0, [198]), (43, .iload_n 2, 0, 0, []), (44, .caload, 0, 0, []), (45, .if_icmp .ge 7, 52, 0, []),
  (48, .iconst 1, 0, 0, []), (49, .goto 4, 53, 0, []), (52, .iconst 0, 0, 0, []), (53, .ireturn, 0, 0, []),
  (54, .iinc 2 1, 0, 0, []), (57, .goto (-55), 2, 0, []), (60, .aload_n 0, 0, 0, []), (61, .getfield 15, 8, 1, [199]),
  (64, .aload_n 1, 0, 0, []), (65, .getfield 15, 8, 1, [199]), (68, .if_icmp .ge 7, 75, 0, []), (71, .iconst 1, 0, 0, []),
  (72, .goto 4, 76, 0, []), (75, .iconst 0, 0, 0, []), (76, .ireturn, 0, 0, [])
  ]
/-- ChainDesk$Phrase.copyFrom(LChainDesk$Phrase;)V -/
def cd_r77 : List (Nat × Instr × Nat × Nat × List Nat) := [
  (0, .aload_n 1, 0, 0, []), (1, .getfield 9, 8, 0, [198]), (4, .iconst 0, 0, 0, []), (5, .aload_n 0, 0, 0, []),
  (6, .getfield 9, 8, 0, [198]), (9, .iconst 0, 0, 0, []), (10, .aload_n 1, 0, 0, []), (11, .getfield 15, 8, 1, [199]),
  (14, .invokestatic 38, 1004, 5, [750, 752, 751, 83]), (17, .aload_n 0, 0, 0, []), (18, .aload_n 1, 0, 0, []), (19, .getfield 15, 8, 1, [199]),
  (22, .putfield 15, 8, 1, [199]), (25, .aload_n 0, 0, 0, []), (26, .aload_n 1, 0, 0, []), (27, .getfield 44, 8, 2, [203]),
  (30, .putfield 44, 8, 2, [203]), (33, .aload_n 0, 0, 0, []), (34, .aload_n 1, 0, 0, []), (35, .getfield 47, 8, 3, [206]),
  (38, .putfield 47, 8, 3, [206]), (41, .return_, 0, 0, [])
  ]
/-- ChainDesk$Completer.keepOfCost(I)V -/
def cd_r78 : List (Nat × Instr × Nat × Nat × List Nat) := [
  (0, .aload_n 0, 0, 0, []), (1, .iload_n 1, 0, 0, []), (2, .invokevirtual 41, 70, 1, [718, 720, 8, 66, 721]), (5, .iconst 0, 0, 0, []),
  (6, .istore_n 2, 0, 0, []), (7, .iload_n 2, 0, 0, []), (8, .bipush 10, 0, 0, []), (10, .if_icmp .ge 17, 27, 0, []),
  (13, .aload_n 0, 0, 0, []), (14, .iload_n 2, 0, 0, []), (15, .iload_n 1, 0, 0, []), (16, .iconst 1, 0, 0, []),
  (17, .isub, 0, 0, []), (18, .invokevirtual 71, 79, 2, [757, 759, 9, 66, 760]), (21, .iinc 2 1, 0, 0, []), (24, .goto (-17), 7, 0, []),
  (27, .iconst 0, 0, 0, []), (28, .istore_n 2, 0, 0, []), (29, .iload_n 2, 0, 0, []), (30, .iload_n 1, 0, 0, []),
  (31, .if_icmp .ge 50, 81, 0, []), (34, .aload_n 0, 0, 0, []), (35, .getfield 11, 3, 2, [235]), (38, .iload_n 2, 0, 0, []),
  (39, .aaload, 0, 0, []), (40, .astore_n 3, 0, 0, []), (41, .iconst 0, 0, 0, []), (42, .istore 4, 0, 0, []),
  (44, .iload 4, 0, 0, []), (46, .aload_n 3, 0, 0, []), (47, .getfield 75, 10, 1, [227]), (50, .if_icmp .ge 25, 75, 0, []),
  (53, .aload_n 0, 0, 0, []), (54, .aload_n 3, 0, 0, []), (55, .getfield 76, 10, 0, [225]), (58, .iload 4, 0, 0, []),
  (60, .aaload, 0, 0, []), (61, .iload_n 1, 0, 0, []), (62, .iconst 1, 0, 0, []), (63, .isub, 0, 0, []),
  (64, .iload_n 2, 0, 0, []), (65, .isub, 0, 0, []), (66, .invokevirtual 79, 85, 2, [794, 796, 12, 66, 797]), (69, .iinc 4 1, 0, 0, []),
  (72, .goto (-28), 44, 0, []), (75, .iinc 2 1, 0, 0, []), (78, .goto (-49), 29, 0, []), (81, .return_, 0, 0, [])
  ]
/-- ChainDesk$Completer.keepOfClass(II)V -/
def cd_r79 : List (Nat × Instr × Nat × Nat × List Nat) := [
  (0, .aload_n 0, 0, 0, []), (1, .getfield 28, 3, 0, [233]), (4, .iload_n 1, 0, 0, []), (5, .invokevirtual 95, 22, 1, [761, 325, 326, 62, 327]),
  (8, .astore_n 3, 0, 0, []), (9, .aload_n 3, 0, 0, []), (10, .ifnonnull 4, 14, 0, []), (13, .return_, 0, 0, []),
  (14, .iconst 0, 0, 0, []), (15, .istore 4, 0, 0, []), (17, .iload 4, 0, 0, []), (19, .aload_n 3, 0, 0, []),
  (20, .getfield 99, 4, 3, [412]), (23, .if_icmp .ge 131, 154, 0, []), (26, .aload_n 3, 0, 0, []), (27, .getfield 102, 4, 2, [408]),
  (30, .iload 4, 0, 0, []), (32, .aaload, 0, 0, []), (33, .astore 5, 0, 0, []), (35, .aload 5, 0, 0, []),
  (37, .getfield 105, 7, 0, [500]), (40, .getstatic 111, 2, 0, [762]), (43, .if_acmp .ne 7, 50, 0, []), (46, .iconst 1, 0, 0, []),
  (47, .goto 4, 51, 0, []), (50, .iconst 0, 0, 0, []), (51, .istore 6, 0, 0, []), (53, .iload 6, 0, 0, []),
  (55, .ifCond .ne 11, 66, 0, []), (58, .aload 5, 0, 0, []), (60, .getfield 116, 7, 2, [507]), (63, .ifCond .eq 85, 148, 0, []),
  (66, .aload_n 0, 0, 0, []), (67, .getfield 28, 3, 0, [233]), (70, .aload_n 3, 0, 0, []), (71, .aload 5, 0, 0, []),
  (73, .invokevirtual 120, 30, 2, [763, 363, 364, 62, 365]), (76, .ifCond .eq 72, 148, 0, []), (79, .aload_n 0, 0, 0, []), (80, .getfield 24, 3, 4, [237]),
  (83, .iconst 0, 0, 0, []), (84, .putfield 51, 8, 1, [200]), (87, .iload 6, 0, 0, []), (89, .ifCond .eq 23, 112, 0, []),
  (92, .aload_n 0, 0, 0, []), (93, .getfield 24, 3, 4, [237]), (96, .ldc 124, 13, 0, [764]), (98, .invokevirtual 126, 80, 1, [765, 766, 767, 67, 768]),
  (101, .aload_n 0, 0, 0, []), (102, .getfield 24, 3, 4, [237]), (105, .iload_n 1, 0, 0, []), (106, .invokevirtual 130, 81, 1, [771, 772, 773, 67, 774]),
  (109, .goto 32, 141, 0, []), (112, .aload_n 0, 0, 0, []), (113, .getfield 24, 3, 4, [237]), (116, .iload_n 1, 0, 0, []),
  (117, .invokevirtual 130, 81, 1, [771, 772, 773, 67, 774]), (120, .aload_n 0, 0, 0, []), (121, .getfield 24, 3, 4, [237]), (124, .bipush 46, 0, 0, []),
  (126, .invokevirtual 133, 72, 1, [775, 727, 728, 67, 729]), (129, .aload_n 0, 0, 0, []), (130, .getfield 24, 3, 4, [237]), (133, .aload 5, 0, 0, []),
  (135, .getfield 137, 7, 3, [511]), (138, .invokevirtual 58, 71, 1, [722, 723, 724, 67, 725]), (141, .aload_n 0, 0, 0, []), (142, .aload 5, 0, 0, []),
  (144, .iload_n 2, 0, 0, []), (145, .invokevirtual 140, 82, 2, [776, 778, 10, 66, 779]), (148, .iinc 4 1, 0, 0, []), (151, .goto (-134), 17, 0, []),
  (154, .return_, 0, 0, [])
  ]
/-- ChainDesk$Phrase.addText(Ljava/lang/String;)V -/
def cd_r80 : List (Nat × Instr × Nat × Nat × List Nat) := [
  (0, .iconst 0, 0, 0, []), (1, .istore_n 2, 0, 0, []), (2, .iload_n 2, 0, 0, []), (3, .aload_n 1, 0, 0, []),
  (4, .invokevirtual 19, 40, 0, [769, 437, 438, 71, 439]), (7, .if_icmp .ge 18, 25, 0, []), (10, .aload_n 0, 0, 0, []), (11, .aload_n 1, 0, 0, []),
  (12, .iload_n 2, 0, 0, []), (13, .invokevirtual 24, 42, 1, [770, 447, 448, 71, 449]), (16, .invokevirtual 28, 72, 1, [726, 727, 728, 67, 729]), (19, .iinc 2 1, 0, 0, []),
  (22, .goto (-20), 2, 0, []), (25, .return_, 0, 0, [])
  ]
/-- ChainDesk$Phrase.addClass(I)V -/
def cd_r81 : List (Nat × Instr × Nat × Nat × List Nat) := [
  (0, .aload_n 0, 0, 0, []), (1, .bipush 65, 0, 0, []), (3, .iload_n 1, 0, 0, []), (4, .iadd, 0, 0, []),
  (5, .i2c, 0, 0, []), (6, .invokevirtual 28, 72, 1, [726, 727, 728, 67, 729]), (9, .return_, 0, 0, [])
  ]
/-- ChainDesk$Completer.keepUses(LChainDesk$Member;I)V -/
def cd_r82 : List (Nat × Instr × Nat × Nat × List Nat) := [
  (0, .aload_n 0, 0, 0, []), (1, .getfield 24, 3, 4, [237]), (4, .aload_n 1, 0, 0, []), (5, .getfield 159, 7, 6, [521]),
  (8, .putfield 64, 8, 2, [202]), (11, .aload_n 1, 0, 0, []), (12, .getfield 105, 7, 0, [500]), (15, .getstatic 160, 0, 0, [780]),
  (18, .if_acmp .eq 22, 40, 0, []), (21, .aload_n 0, 0, 0, []), (22, .getfield 24, 3, 4, [237]), (25, .bipush 40, 0, 0, []),
  (27, .invokevirtual 133, 72, 1, [775, 727, 728, 67, 729]), (30, .aload_n 0, 0, 0, []), (31, .aload_n 1, 0, 0, []), (32, .iconst 0, 0, 0, []),
  (33, .iload_n 2, 0, 0, []), (34, .invokevirtual 163, 83, 3, [781, 783, 11, 66, 784]), (37, .goto 18, 55, 0, []), (40, .iload_n 2, 0, 0, []),
  (41, .ifCond .ne 14, 55, 0, []), (44, .aload_n 0, 0, 0, []), (45, .getfield 37, 3, 5, [238]), (48, .aload_n 0, 0, 0, []),
  (49, .getfield 24, 3, 4, [237]), (52, .invokevirtual 67, 73, 1, [730, 731, 732, 68, 733]), (55, .return_, 0, 0, [])
  ]
/-- ChainDesk$Completer.keepCalls(LChainDesk$Member;II)V -/
def cd_r83 : List (Nat × Instr × Nat × Nat × List Nat) := [
  (0, .aload_n 0, 0, 0, []), (1, .getfield 37, 3, 5, [238]), (4, .aload_n 0, 0, 0, []), (5, .getfield 24, 3, 4, [237]),
  (8, .invokevirtual 147, 74, 1, [785, 735, 736, 68, 737]), (11, .ifCond .ne 4, 15, 0, []), (14, .return_, 0, 0, []), (15, .iload_n 2, 0, 0, []),
  (16, .aload_n 1, 0, 0, []), (17, .getfield 167, 7, 5, [517]), (20, .if_icmp .lt 28, 48, 0, []), (23, .iload_n 3, 0, 0, []),
  (24, .ifCond .ne 23, 47, 0, []), (27, .aload_n 0, 0, 0, []), (28, .getfield 24, 3, 4, [237]), (31, .bipush 41, 0, 0, []),
  (33, .invokevirtual 133, 72, 1, [775, 727, 728, 67, 729]), (36, .aload_n 0, 0, 0, []), (37, .getfield 37, 3, 5, [238]), (40, .aload_n 0, 0, 0, []),
  (41, .getfield 24, 3, 4, [237]), (44, .invokevirtual 67, 73, 1, [730, 731, 732, 68, 733]), (47, .return_, 0, 0, []), (48, .iload_n 2, 0, 0, []),
  (49, .ifCond .le 12, 61, 0, []), (52, .aload_n 0, 0, 0, []), (53, .getfield 24, 3, 4, [237]), (56, .bipush 44, 0, 0, []),
  (58, .invokevirtual 133, 72, 1, [775, 727, 728, 67, 729]), (61, .aload_n 0, 0, 0, []), (62, .getfield 24, 3, 4, [237]), (65, .getfield 51, 8, 1, [200]),
  (68, .istore 4, 0, 0, []), (70, .bipush 24, 0, 0, []), (72, .iload 4, 0, 0, []), (74, .isub, 0, 0, []),
  (75, .iconst 2, 0, 0, []), (76, .aload_n 1, 0, 0, []), (77, .getfield 167, 7, 5, [517]), (80, .iload_n 2, 0, 0, []),
  (81, .isub, 0, 0, []), (82, .iconst 1, 0, 0, []), (83, .isub, 0, 0, []), (84, .imul, 0, 0, []),
  (85, .isub, 0, 0, []), (86, .iconst 1, 0, 0, []), (87, .isub, 0, 0, []), (88, .istore 5, 0, 0, []),
  (90, .iload_n 2, 0, 0, []), (91, .iconst 1, 0, 0, []), (92, .iadd, 0, 0, []), (93, .aload_n 1, 0, 0, []),
  (94, .getfield 167, 7, 5, [517]), (97, .if_icmp .ne 7, 104, 0, []), (100, .iconst 1, 0, 0, []), (101, .goto 4, 105, 0, []),
  (104, .iconst 0, 0, 0, []), (105, .istore 6, 0, 0, []), (107, .iload 6, 0, 0, []), (109, .ifCond .eq 7, 116, 0, []),
  (112, .iload_n 3, 0, 0, []), (113, .goto 4, 117, 0, []), (116, .iconst 0, 0, 0, []), (117, .istore 7, 0, 0, []),
  (119, .iload 7, 0, 0, []), (121, .iload_n 3, 0, 0, []), (122, .if_icmp .gt 108, 230, 0, []), (125, .aload_n 0, 0, 0, []),
  (126, .getfield 11, 3, 2, [235]), (129, .iload 7, 0, 0, []), (131, .aaload, 0, 0, []), (132, .astore 8, 0, 0, []),
  (134, .iconst 0, 0, 0, []), (135, .istore 9, 0, 0, []), (137, .iload 9, 0, 0, []), (139, .aload 8, 0, 0, []),
  (141, .getfield 75, 10, 1, [227]), (144, .if_icmp .ge 80, 224, 0, []), (147, .aload 8, 0, 0, []), (149, .getfield 76, 10, 0, [225]),
  (152, .iload 9, 0, 0, []), (154, .aaload, 0, 0, []), (155, .astore 10, 0, 0, []), (157, .aload 10, 0, 0, []),
  (159, .getfield 51, 8, 1, [200]), (162, .iload 5, 0, 0, []), (164, .if_icmp .gt 54, 218, 0, []), (167, .aload_n 0, 0, 0, []),
  (168, .getfield 28, 3, 0, [233]), (171, .aload 10, 0, 0, []), (173, .getfield 64, 8, 2, [202]), (176, .aload_n 1, 0, 0, []),
  (177, .getfield 168, 7, 4, [514]), (180, .iload_n 2, 0, 0, []), (181, .iaload, 0, 0, []), (182, .invokevirtual 86, 16, 2, [786, 301, 302, 62, 303]),
  (185, .ifCond .eq 33, 218, 0, []), (188, .aload_n 0, 0, 0, []), (189, .getfield 24, 3, 4, [237]), (192, .iload 4, 0, 0, []),
  (194, .putfield 51, 8, 1, [200]), (197, .aload_n 0, 0, 0, []), (198, .getfield 24, 3, 4, [237]), (201, .aload 10, 0, 0, []),
  (203, .invokevirtual 144, 84, 1, [787, 788, 789, 67, 790]), (206, .aload_n 0, 0, 0, []), (207, .aload_n 1, 0, 0, []), (208, .iload_n 2, 0, 0, []),
  (209, .iconst 1, 0, 0, []), (210, .iadd, 0, 0, []), (211, .iload_n 3, 0, 0, []), (212, .iload 7, 0, 0, []),
  (214, .isub, 0, 0, []), (215, .invokevirtual 163, 83, 3, [781, 783, 11, 66, 784]), (218, .iinc 9 1, 0, 0, []), (221, .goto (-84), 137, 0, []),
  (224, .iinc 7 1, 0, 0, []), (227, .goto (-108), 119, 0, []), (230, .return_, 0, 0, [])
  ]
/-- ChainDesk$Phrase.addPhrase(LChainDesk$Phrase;)V -/
def cd_r84 : List (Nat × Instr × Nat × Nat × List Nat) := [
  (0, .aload_n 1, 0, 0, []), (1, .getfield 15, 8, 1, [199]), (4, .aload_n 0, 0, 0, []), (5, .getfield 9, 8, 0, [198]),
  (8, .arraylength, 0, 0, []), (9, .aload_n 0, 0, 0, []), (10, .getfield 15, 8, 1, [199]), (13, .isub, 0, 0, []),
  (14, .invokestatic 32, 1003, 2, [791, 792, 84, 793]), (17, .istore_n 2, 0, 0, []), (18, .aload_n 1, 0, 0, []), (19, .getfield 9, 8, 0, [198]),
  (22, .iconst 0, 0, 0, []), (23, .aload_n 0, 0, 0, []), (24, .getfield 9, 8, 0, [198]), (27, .aload_n 0, 0, 0, []),
  (28, .getfield 15, 8, 1, [199]), (31, .iload_n 2, 0, 0, []), (32, .invokestatic 38, 1004, 5, [750, 752, 751, 83]), (35, .aload_n 0, 0, 0, []),
  (36, .dup, 0, 0, []), (37, .getfield 15, 8, 1, [199]), (40, .iload_n 2, 0, 0, []), (41, .iadd, 0, 0, []),
  (42, .putfield 15, 8, 1, [199]), (45, .return_, 0, 0, [])
  ]
/-- ChainDesk$Completer.keepSelections(LChainDesk$Phrase;I)V -/
def cd_r85 : List (Nat × Instr × Nat × Nat × List Nat) := [
  (0, .aload_n 0, 0, 0, []), (1, .getfield 24, 3, 4, [237]), (4, .iconst 0, 0, 0, []), (5, .putfield 51, 8, 1, [200]),
  (8, .aload_n 0, 0, 0, []), (9, .getfield 24, 3, 4, [237]), (12, .aload_n 1, 0, 0, []), (13, .invokevirtual 144, 84, 1, [787, 788, 789, 67, 790]),
  (16, .aload_n 0, 0, 0, []), (17, .getfield 24, 3, 4, [237]), (20, .bipush 46, 0, 0, []), (22, .invokevirtual 133, 72, 1, [775, 727, 728, 67, 729]),
  (25, .aload_n 0, 0, 0, []), (26, .getfield 37, 3, 5, [238]), (29, .aload_n 0, 0, 0, []), (30, .getfield 24, 3, 4, [237]),
  (33, .invokevirtual 147, 74, 1, [785, 735, 736, 68, 737]), (36, .ifCond .ne 4, 40, 0, []), (39, .return_, 0, 0, []), (40, .aload_n 0, 0, 0, []),
  (41, .getfield 24, 3, 4, [237]), (44, .getfield 51, 8, 1, [200]), (47, .istore_n 3, 0, 0, []), (48, .aload_n 1, 0, 0, []),
  (49, .getfield 64, 8, 2, [202]), (52, .iconst 3, 0, 0, []), (53, .isub, 0, 0, []), (54, .istore 4, 0, 0, []),
  (56, .aload_n 0, 0, 0, []), (57, .getfield 28, 3, 0, [233]), (60, .iload 4, 0, 0, []), (62, .invokevirtual 95, 22, 1, [761, 325, 326, 62, 327]),
  (65, .astore 5, 0, 0, []), (67, .aload 5, 0, 0, []), (69, .ifnull 83, 152, 0, []), (72, .iconst 0, 0, 0, []),
  (73, .istore 6, 0, 0, []), (75, .iload 6, 0, 0, []), (77, .aload 5, 0, 0, []), (79, .getfield 99, 4, 3, [412]),
  (82, .if_icmp .ge 60, 142, 0, []), (85, .aload 5, 0, 0, []), (87, .getfield 102, 4, 2, [408]), (90, .iload 6, 0, 0, []),
  (92, .aaload, 0, 0, []), (93, .astore 7, 0, 0, []), (95, .aload_n 0, 0, 0, []), (96, .getfield 28, 3, 0, [233]),
  (99, .iload 4, 0, 0, []), (101, .aload 7, 0, 0, []), (103, .invokevirtual 151, 26, 2, [798, 345, 346, 62, 347]), (106, .ifCond .eq 30, 136, 0, []),
  (109, .aload_n 0, 0, 0, []), (110, .getfield 24, 3, 4, [237]), (113, .iload_n 3, 0, 0, []), (114, .putfield 51, 8, 1, [200]),
  (117, .aload_n 0, 0, 0, []), (118, .getfield 24, 3, 4, [237]), (121, .aload 7, 0, 0, []), (123, .getfield 137, 7, 3, [511]),
  (126, .invokevirtual 58, 71, 1, [722, 723, 724, 67, 725]), (129, .aload_n 0, 0, 0, []), (130, .aload 7, 0, 0, []), (132, .iload_n 2, 0, 0, []),
  (133, .invokevirtual 140, 82, 2, [776, 778, 10, 66, 779]), (136, .iinc 6 1, 0, 0, []), (139, .goto (-64), 75, 0, []), (142, .aload 5, 0, 0, []),
  (144, .getfield 155, 4, 1, [406]), (147, .astore 5, 0, 0, []), (149, .goto (-82), 67, 0, []), (152, .return_, 0, 0, [])
  ]
/-- ChainDesk$Completer.propose(II)I -/
def cd_r86 : List (Nat × Instr × Nat × Nat × List Nat) := [
  (0, .aload_n 0, 0, 0, []), (1, .iconst 0, 0, 0, []), (2, .putfield 83, 3, 6, [239]), (5, .iconst 0, 0, 0, []),
  (6, .istore_n 3, 0, 0, []), (7, .iload_n 3, 0, 0, []), (8, .iload_n 2, 0, 0, []), (9, .if_icmp .gt 94, 103, 0, []),
  (12, .aload_n 0, 0, 0, []), (13, .getfield 11, 3, 2, [235]), (16, .iload_n 3, 0, 0, []), (17, .aaload, 0, 0, []),
  (18, .astore 4, 0, 0, []), (20, .iconst 0, 0, 0, []), (21, .istore 5, 0, 0, []), (23, .iload 5, 0, 0, []),
  (25, .aload 4, 0, 0, []), (27, .getfield 75, 10, 1, [227]), (30, .if_icmp .ge 67, 97, 0, []), (33, .aload_n 0, 0, 0, []),
  (34, .getfield 83, 3, 6, [239]), (37, .bipush 10, 0, 0, []), (39, .if_icmp .ge 58, 97, 0, []), (42, .aload_n 0, 0, 0, []),
  (43, .getfield 28, 3, 0, [233]), (46, .aload 4, 0, 0, []), (48, .getfield 76, 10, 0, [225]), (51, .iload 5, 0, 0, []),
  (53, .aaload, 0, 0, []), (54, .getfield 64, 8, 2, [202]), (57, .iload_n 1, 0, 0, []), (58, .invokevirtual 86, 16, 2, [786, 301, 302, 62, 303]),
  (61, .ifCond .eq 30, 91, 0, []), (64, .aload_n 0, 0, 0, []), (65, .getfield 19, 3, 3, [236]), (68, .aload_n 0, 0, 0, []),
  (69, .getfield 83, 3, 6, [239]), (72, .aload 4, 0, 0, []), (74, .getfield 76, 10, 0, [225]), (77, .iload 5, 0, 0, []),
  (79, .aaload, 0, 0, []), (80, .aastore, 0, 0, []), (81, .aload_n 0, 0, 0, []), (82, .dup, 0, 0, []),
  (83, .getfield 83, 3, 6, [239]), (86, .iconst 1, 0, 0, []), (87, .iadd, 0, 0, []), (88, .putfield 83, 3, 6, [239]),
  (91, .iinc 5 1, 0, 0, []), (94, .goto (-71), 23, 0, []), (97, .iinc 3 1, 0, 0, []), (100, .goto (-93), 7, 0, []),
  (103, .aload_n 0, 0, 0, []), (104, .getfield 83, 3, 6, [239]), (107, .ireturn, 0, 0, [])
  ]
/-- ChainDesk.check()I -/
def cd_r87 : List (Nat × Instr × Nat × Nat × List Nat) := [
  (0, .aload_n 0, 0, 0, []), (1, .getfield 44, 0, 4, [259]), (4, .invokevirtual 122, 88, 0, [810, 811, 812, 65, 813]), (7, .istore_n 1, 0, 0, []),
  (8, .aload_n 0, 0, 0, []), (9, .getfield 10, 0, 0, [255]), (12, .invokevirtual 77, 60, 0, [588, 589, 590, 61, 591]), (15, .iload_n 1, 0, 0, []),
  (16, .iconst (-1), 0, 0, []), (17, .if_icmp .ne 11, 28, 0, []), (20, .new 80, 12, 82, [592, 593, 81]), (28, .aload_n 0, 0, 0, []),
  (29, .aload_n 0, 0, 0, []), (30, .getfield 44, 0, 4, [259]), (33, .getfield 126, 6, 3, [173]), (36, .putfield 57, 0, 6, [261]),
  (39, .iload_n 1, 0, 0, []), (40, .ireturn, 0, 0, [])
  ]
/-- ChainDesk$ExpressionReader.read()I -/
def cd_r88 : List (Nat × Instr × Nat × Nat × List Nat) := [
  (0, .aload_n 0, 0, 0, []), (1, .iconst 0, 0, 0, []), (2, .putfield 23, 6, 3, [172]), (5, .aload_n 0, 0, 0, []),
  (6, .iconst 0, 0, 0, []), (7, .invokevirtual 27, 89, 1, [814, 816, 13, 65, 817]), (10, .istore_n 1, 0, 0, []), (11, .aload_n 0, 0, 0, []),
  (12, .getfield 9, 6, 0, [169]), (15, .invokevirtual 31, 59, 0, [861, 585, 586, 61, 587]), (18, .ifCond .eq 7, 25, 0, []), (21, .iload_n 1, 0, 0, []),
  (22, .goto 4, 26, 0, []), (25, .iconst (-1), 0, 0, []), (26, .ireturn, 0, 0, [])
  ]
/-- ChainDesk$ExpressionReader.readExpression(I)I -/
def cd_r89 : List (Nat × Instr × Nat × Nat × List Nat) := [
  (0, .iload_n 1, 0, 0, []), (1, .bipush 6, 0, 0, []), (3, .if_icmp .le 5, 8, 0, []), (6, .iconst (-1), 0, 0, []),
  (7, .ireturn, 0, 0, []), (8, .aload_n 0, 0, 0, []), (9, .iload_n 1, 0, 0, []), (10, .invokevirtual 37, 90, 1, [818, 820, 14, 65, 821]),
  (13, .istore_n 2, 0, 0, []), (14, .iconst 0, 0, 0, []), (15, .istore_n 3, 0, 0, []), (16, .iload_n 3, 0, 0, []),
  (17, .bipush 120, 0, 0, []), (19, .if_icmp .ge 33, 52, 0, []), (22, .iload_n 2, 0, 0, []), (23, .iconst (-1), 0, 0, []),
  (24, .if_icmp .eq 28, 52, 0, []), (27, .aload_n 0, 0, 0, []), (28, .getfield 9, 6, 0, [169]), (31, .bipush 46, 0, 0, []),
  (33, .invokevirtual 40, 34, 1, [842, 385, 386, 61, 387]), (36, .ifCond .eq 16, 52, 0, []), (39, .aload_n 0, 0, 0, []), (40, .iload_n 2, 0, 0, []),
  (41, .iload_n 1, 0, 0, []), (42, .invokevirtual 44, 97, 2, [856, 858, 19, 65, 859]), (45, .istore_n 2, 0, 0, []), (46, .iinc 3 1, 0, 0, []),
  (49, .goto (-33), 16, 0, []), (52, .iload_n 2, 0, 0, []), (53, .ireturn, 0, 0, [])
  ]
/-- ChainDesk$ExpressionReader.readHead(I)I -/
def cd_r90 : List (Nat × Instr × Nat × Nat × List Nat) := [
  (0, .aload_n 0, 0, 0, []), (1, .getfield 9, 6, 0, [169]), (4, .ldc 48, 13, 0, [822]), (6, .invokevirtual 50, 39, 1, [823, 433, 434, 61, 435]),
  (9, .ifCond .eq 23, 32, 0, []), (12, .aload_n 0, 0, 0, []), (13, .aload_n 0, 0, 0, []), (14, .getfield 15, 6, 1, [170]),
  (17, .aload_n 0, 0, 0, []), (18, .getfield 9, 6, 0, [169]), (21, .invokevirtual 54, 33, 0, [824, 380, 381, 61, 382]), (24, .invokevirtual 58, 91, 1, [825, 826, 827, 62, 828]),
  (27, .iload_n 1, 0, 0, []), (28, .invokevirtual 64, 93, 2, [833, 835, 16, 65, 836]), (31, .ireturn, 0, 0, []), (32, .aload_n 0, 0, 0, []),
  (33, .getfield 9, 6, 0, [169]), (36, .invokevirtual 54, 33, 0, [824, 380, 381, 61, 382]), (39, .istore_n 2, 0, 0, []), (40, .iload_n 2, 0, 0, []),
  (41, .iconst (-1), 0, 0, []), (42, .if_icmp .ne 18, 60, 0, []), (45, .aload_n 0, 0, 0, []), (46, .getfield 19, 6, 2, [171]),
  (49, .aload_n 0, 0, 0, []), (50, .getfield 9, 6, 0, [169]), (53, .invokevirtual 68, 54, 0, [844, 561, 562, 61, 563]), (56, .invokevirtual 71, 66, 1, [845, 697, 698, 63, 699]),
  (59, .ireturn, 0, 0, []), (60, .aload_n 0, 0, 0, []), (61, .getfield 9, 6, 0, [169]), (64, .bipush 46, 0, 0, []),
  (66, .invokevirtual 40, 34, 1, [842, 385, 386, 61, 387]), (69, .ifCond .ne 5, 74, 0, []), (72, .iconst (-1), 0, 0, []), (73, .ireturn, 0, 0, []),
  (74, .aload_n 0, 0, 0, []), (75, .getfield 9, 6, 0, [169]), (78, .invokevirtual 68, 54, 0, [844, 561, 562, 61, 563]), (81, .istore_n 3, 0, 0, []),
  (82, .aload_n 0, 0, 0, []), (83, .aload_n 0, 0, 0, []), (84, .getfield 15, 6, 1, [170]), (87, .iload_n 2, 0, 0, []),
  (88, .aload_n 0, 0, 0, []), (89, .invokevirtual 76, 95, 0, [846, 848, 18, 65, 849]), (92, .iload_n 3, 0, 0, []), (93, .invokevirtual 80, 96, 3, [852, 853, 854, 62, 855]),
  (96, .iload_n 1, 0, 0, []), (97, .invokevirtual 64, 93, 2, [833, 835, 16, 65, 836]), (100, .ireturn, 0, 0, [])
  ]
/-- ChainDesk$Catalog.findMaker(I)LChainDesk$Member; -/
def cd_r91 : List (Nat × Instr × Nat × Nat × List Nat) := [
  (0, .aload_n 0, 0, 0, []), (1, .iload_n 1, 0, 0, []), (2, .getstatic 57, 2, 0, [348]), (5, .iconst 0, 0, 0, []),
  (6, .invokevirtual 80, 92, 3, [829, 831, 15, 62, 832]), (9, .areturn, 0, 0, [])
  ]
/-- ChainDesk$Catalog.findOwn(ILChainDesk$Kind;I)LChainDesk$Member; -/
def cd_r92 : List (Nat × Instr × Nat × Nat × List Nat) := [
  (0, .aload_n 0, 0, 0, []), (1, .iload_n 1, 0, 0, []), (2, .invokevirtual 28, 22, 1, [343, 325, 326, 62, 327]), (5, .astore 4, 0, 0, []),
  (7, .aload 4, 0, 0, []), (9, .ifnonnull 5, 14, 0, []), (12, .aconst_null, 0, 0, []), (13, .areturn, 0, 0, []),
  (14, .aload 4, 0, 0, []), (16, .aload_n 2, 0, 0, []), (17, .iload_n 3, 0, 0, []), (18, .invokevirtual 42, 28, 2, [354, 355, 356, 70, 357]),
  (21, .astore 5, 0, 0, []), (23, .aload 5, 0, 0, []), (25, .ifnull 19, 44, 0, []), (28, .aload_n 0, 0, 0, []),
  (29, .aload 4, 0, 0, []), (31, .aload 5, 0, 0, []), (33, .invokevirtual 49, 30, 2, [362, 363, 364, 62, 365]), (36, .ifCond .eq 8, 44, 0, []),
  (39, .aload 5, 0, 0, []), (41, .goto 4, 45, 0, []), (44, .aconst_null, 0, 0, []), (45, .areturn, 0, 0, [])
  ]
/-- ChainDesk$ExpressionReader.readUse(LChainDesk$Member;I)I -/
def cd_r93 : List (Nat × Instr × Nat × Nat × List Nat) := [
  (0, .aload_n 1, 0, 0, []), (1, .ifnonnull 5, 6, 0, []), (4, .iconst (-1), 0, 0, []), (5, .ireturn, 0, 0, []),
  (6, .aload_n 0, 0, 0, []), (7, .dup, 0, 0, []), (8, .getfield 23, 6, 3, [172]), (11, .iconst 1, 0, 0, []),
  (12, .iadd, 0, 0, []), (13, .putfield 23, 6, 3, [172]), (16, .aload_n 1, 0, 0, []), (17, .getfield 99, 7, 0, [499]),
  (20, .getstatic 96, 0, 0, [837]), (23, .if_acmp .eq 14, 37, 0, []), (26, .aload_n 0, 0, 0, []), (27, .aload_n 1, 0, 0, []),
  (28, .iload_n 2, 0, 0, []), (29, .invokevirtual 104, 94, 2, [838, 840, 17, 65, 841]), (32, .ifCond .ne 5, 37, 0, []), (35, .iconst (-1), 0, 0, []),
  (36, .ireturn, 0, 0, []), (37, .aload_n 1, 0, 0, []), (38, .getfield 108, 7, 6, [520]), (41, .ireturn, 0, 0, [])
  ]
/-- ChainDesk$ExpressionReader.readArguments(LChainDesk$Member;I)Z -/
def cd_r94 : List (Nat × Instr × Nat × Nat × List Nat) := [
  (0, .aload_n 0, 0, 0, []), (1, .getfield 9, 6, 0, [169]), (4, .bipush 40, 0, 0, []), (6, .invokevirtual 40, 34, 1, [842, 385, 386, 61, 387]),
  (9, .ifCond .ne 5, 14, 0, []), (12, .iconst 0, 0, 0, []), (13, .ireturn, 0, 0, []), (14, .iconst 0, 0, 0, []),
  (15, .istore_n 3, 0, 0, []), (16, .iload_n 3, 0, 0, []), (17, .aload_n 1, 0, 0, []), (18, .getfield 111, 7, 5, [516]),
  (21, .if_icmp .ge 62, 83, 0, []), (24, .iload_n 3, 0, 0, []), (25, .ifCond .le 17, 42, 0, []), (28, .aload_n 0, 0, 0, []),
  (29, .getfield 9, 6, 0, [169]), (32, .bipush 44, 0, 0, []), (34, .invokevirtual 40, 34, 1, [842, 385, 386, 61, 387]), (37, .ifCond .ne 5, 42, 0, []),
  (40, .iconst 0, 0, 0, []), (41, .ireturn, 0, 0, []), (42, .aload_n 0, 0, 0, []), (43, .iload_n 2, 0, 0, []),
  (44, .iconst 1, 0, 0, []), (45, .iadd, 0, 0, []), (46, .invokevirtual 27, 89, 1, [814, 816, 13, 65, 817]), (49, .istore 4, 0, 0, []),
  (51, .iload 4, 0, 0, []), (53, .iconst (-1), 0, 0, []), (54, .if_icmp .eq 21, 75, 0, []), (57, .aload_n 0, 0, 0, []),
  (58, .getfield 15, 6, 1, [170]), (61, .iload 4, 0, 0, []), (63, .aload_n 1, 0, 0, []), (64, .getfield 114, 7, 4, [513]),
  (67, .iload_n 3, 0, 0, []), (68, .iaload, 0, 0, []), (69, .invokevirtual 118, 16, 2, [843, 301, 302, 62, 303]), (72, .ifCond .ne 5, 77, 0, []),
  (75, .iconst 0, 0, 0, []), (76, .ireturn, 0, 0, []), (77, .iinc 3 1, 0, 0, []), (80, .goto (-64), 16, 0, []),
  (83, .aload_n 0, 0, 0, []), (84, .getfield 9, 6, 0, [169]), (87, .bipush 41, 0, 0, []), (89, .invokevirtual 40, 34, 1, [842, 385, 386, 61, 387]),
  (92, .ireturn, 0, 0, [])
  ]
/-- ChainDesk$ExpressionReader.kindAhead()LChainDesk$Kind; -/
def cd_r95 : List (Nat × Instr × Nat × Nat × List Nat) := [
  (0, .aload_n 0, 0, 0, []), (1, .getfield 9, 6, 0, [169]), (4, .bipush 40, 0, 0, []), (6, .invokevirtual 87, 35, 1, [850, 389, 390, 61, 391]),
  (9, .ifCond .eq 9, 18, 0, []), (12, .getstatic 90, 1, 0, [851]), (15, .goto 6, 21, 0, []), (18, .getstatic 96, 0, 0, [837]),
  (21, .areturn, 0, 0, [])
  ]
/-- ChainDesk$Catalog.findStatic(ILChainDesk$Kind;I)LChainDesk$Member; -/
def cd_r96 : List (Nat × Instr × Nat × Nat × List Nat) := [
  (0, .aload_n 0, 0, 0, []), (1, .iload_n 1, 0, 0, []), (2, .aload_n 2, 0, 0, []), (3, .iload_n 3, 0, 0, []),
  (4, .invokevirtual 80, 92, 3, [829, 831, 15, 62, 832]), (7, .astore 4, 0, 0, []), (9, .aload 4, 0, 0, []), (11, .ifnull 16, 27, 0, []),
  (14, .aload 4, 0, 0, []), (16, .getfield 46, 7, 2, [506]), (19, .ifCond .eq 8, 27, 0, []), (22, .aload 4, 0, 0, []),
  (24, .goto 4, 28, 0, []), (27, .aconst_null, 0, 0, []), (28, .areturn, 0, 0, [])
  ]
/-- ChainDesk$ExpressionReader.readSelection(II)I -/
def cd_r97 : List (Nat × Instr × Nat × Nat × List Nat) := [
  (0, .aload_n 0, 0, 0, []), (1, .getfield 9, 6, 0, [169]), (4, .invokevirtual 68, 54, 0, [844, 561, 562, 61, 563]), (7, .istore_n 3, 0, 0, []),
  (8, .aload_n 0, 0, 0, []), (9, .aload_n 0, 0, 0, []), (10, .getfield 15, 6, 1, [170]), (13, .iload_n 1, 0, 0, []),
  (14, .iconst 3, 0, 0, []), (15, .isub, 0, 0, []), (16, .aload_n 0, 0, 0, []), (17, .invokevirtual 76, 95, 0, [846, 848, 18, 65, 849]),
  (20, .iload_n 3, 0, 0, []), (21, .invokevirtual 84, 27, 3, [860, 351, 352, 62, 353]), (24, .iload_n 2, 0, 0, []), (25, .invokevirtual 64, 93, 2, [833, 835, 16, 65, 836]),
  (28, .ireturn, 0, 0, [])
  ]
/-- ChainDeskModel.<init>()V -/
def cd_r98 : List (Nat × Instr × Nat × Nat × List Nat) := [
  (0, .aload_n 0, 0, 0, []), (1, .invokespecial 1, 1000, 0, [867, 91, 92]), (4, .aload_n 0, 0, 0, []), (5, .bipush 120, 0, 0, []),
  (7, .newarray .char, 0, 0, [109]), (9, .putfield 7, 11, 1, [869]), (12, .aload_n 0, 0, 0, []), (13, .bipush 10, 0, 0, []),
  (15, .newarray .boolean, 0, 0, [986]), (17, .putfield 13, 11, 5, [873]), (20, .aload_n 0, 0, 0, []), (21, .bipush 10, 0, 0, []),
  (23, .newarray .int, 0, 0, [129]), (25, .putfield 17, 11, 6, [874]), (28, .aload_n 0, 0, 0, []), (29, .bipush 10, 0, 0, []),
  (31, .newarray .int, 0, 0, [129]), (33, .putfield 21, 11, 7, [875]), (36, .aload_n 0, 0, 0, []), (37, .bipush 66, 0, 0, []),
  (39, .newarray .int, 0, 0, [129]), (41, .putfield 24, 11, 8, [876]), (44, .aload_n 0, 0, 0, []), (45, .bipush 66, 0, 0, []),
  (47, .newarray .boolean, 0, 0, [986]), (49, .putfield 27, 11, 9, [877]), (52, .aload_n 0, 0, 0, []), (53, .bipush 66, 0, 0, []),
  (55, .newarray .boolean, 0, 0, [986]), (57, .putfield 30, 11, 10, [878]), (60, .aload_n 0, 0, 0, []), (61, .bipush 66, 0, 0, []),
  (63, .newarray .int, 0, 0, [129]), (65, .putfield 33, 11, 11, [879]), (68, .aload_n 0, 0, 0, []), (69, .bipush 66, 0, 0, []),
  (71, .newarray .int, 0, 0, [129]), (73, .putfield 36, 11, 12, [880]), (76, .aload_n 0, 0, 0, []), (77, .bipush 66, 0, 0, []),
  (79, .newarray .int, 0, 0, [129]), (81, .putfield 39, 11, 13, [881]), (84, .aload_n 0, 0, 0, []), (85, .sipush 132, 0, 0, []),
  (88, .newarray .int, 0, 0, [129]), (90, .putfield 42, 11, 14, [882]), (93, .aload_n 0, 0, 0, []), (94, .iconst 5, 0, 0, []),
  (95, .newarray .int, 0, 0, [129]), (97, .putfield 45, 11, 16, [884]), (100, .aload_n 0, 0, 0, []), (101, .iconst 5, 0, 0, []),
  (102, .newarray .int, 0, 0, [129]), (104, .putfield 48, 11, 17, [885]), (107, .aload_n 0, 0, 0, []), (108, .iconst (-1), 0, 0, []),
  (109, .putfield 51, 11, 18, [886]), (112, .aload_n 0, 0, 0, []), (113, .bipush 33, 0, 0, []), (115, .newarray .int, 0, 0, [129]),
  (117, .putfield 55, 11, 20, [888]), (120, .aload_n 0, 0, 0, []), (121, .bipush 33, 0, 0, []), (123, .newarray .int, 0, 0, [129]),
  (125, .putfield 58, 11, 21, [889]), (128, .aload_n 0, 0, 0, []), (129, .bipush 33, 0, 0, []), (131, .newarray .int, 0, 0, [129]),
  (133, .putfield 61, 11, 22, [890]), (136, .aload_n 0, 0, 0, []), (137, .sipush 792, 0, 0, []), (140, .newarray .char, 0, 0, [109]),
  (142, .putfield 64, 11, 23, [891]), (145, .aload_n 0, 0, 0, []), (146, .sipush 200, 0, 0, []), (149, .newarray .char, 0, 0, [109]),
  (151, .putfield 67, 11, 26, [894]), (154, .aload_n 0, 0, 0, []), (155, .bipush 10, 0, 0, []), (157, .newarray .int, 0, 0, [129]),
  (159, .putfield 70, 11, 28, [896]), (162, .aload_n 0, 0, 0, []), (163, .bipush 10, 0, 0, []), (165, .newarray .int, 0, 0, [129]),
  (167, .putfield 73, 11, 29, [897]), (170, .aload_n 0, 0, 0, []), (171, .bipush 10, 0, 0, []), (173, .newarray .int, 0, 0, [129]),
  (175, .putfield 76, 11, 30, [898]), (178, .aload_n 0, 0, 0, []), (179, .sipush 240, 0, 0, []), (182, .newarray .char, 0, 0, [109]),
  (184, .putfield 79, 11, 31, [899]), (187, .aload_n 0, 0, 0, []), (188, .sipush 130, 0, 0, []), (191, .newarray .int, 0, 0, [129]),
  (193, .putfield 82, 11, 34, [902]), (196, .aload_n 0, 0, 0, []), (197, .sipush 130, 0, 0, []), (200, .newarray .int, 0, 0, [129]),
  (202, .putfield 85, 11, 35, [903]), (205, .return_, 0, 0, [])
  ]
/-- ChainDeskModel.thrown()I -/
def cd_r99 : List (Nat × Instr × Nat × Nat × List Nat) := [
  (0, .aload_n 0, 0, 0, []), (1, .getfield 88, 11, 0, [868]), (4, .ireturn, 0, 0, [])
  ]
/-- ChainDeskModel.put(II)Z -/
def cd_r100 : List (Nat × Instr × Nat × Nat × List Nat) := [
  (0, .aload_n 0, 0, 0, []), (1, .iconst 0, 0, 0, []), (2, .putfield 88, 11, 0, [868]), (5, .iload_n 2, 0, 0, []),
  (6, .iconst 1, 0, 0, []), (7, .iconst 4, 0, 0, []), (8, .invokestatic 91, 101, 3, [995, 996, 69, 997]), (11, .ifCond .ne 14, 25, 0, []),
  (14, .aload_n 0, 0, 0, []), (15, .getfield 95, 11, 2, [870]), (18, .iload_n 2, 0, 0, []), (19, .iadd, 0, 0, []),
  (20, .bipush 120, 0, 0, []), (22, .if_icmp .le 5, 27, 0, []), (25, .iconst 0, 0, 0, []), (26, .ireturn, 0, 0, []),
  (27, .iconst 0, 0, 0, []), (28, .istore_n 3, 0, 0, []), (29, .iload_n 3, 0, 0, []), (30, .iload_n 2, 0, 0, []),
  (31, .if_icmp .ge 31, 62, 0, []), (34, .iload_n 1, 0, 0, []), (35, .bipush 8, 0, 0, []), (37, .iload_n 3, 0, 0, []),
  (38, .imul, 0, 0, []), (39, .ishr, 0, 0, []), (40, .sipush 255, 0, 0, []), (43, .iand, 0, 0, []),
  (44, .bipush 32, 0, 0, []), (46, .bipush 126, 0, 0, []), (48, .invokestatic 91, 101, 3, [995, 996, 69, 997]), (51, .ifCond .eq 5, 56, 0, []),
  (54, .iconst 0, 0, 0, []), (55, .ireturn, 0, 0, []), (56, .iinc 3 1, 0, 0, []), (59, .goto (-30), 29, 0, []),
  (62, .iload_n 2, 0, 0, []), (63, .iconst 1, 0, 0, []), (64, .isub, 0, 0, []), (65, .istore_n 3, 0, 0, []),
  (66, .iload_n 3, 0, 0, []), (67, .ifCond .lt 39, 106, 0, []), (70, .aload_n 0, 0, 0, []), (71, .getfield 7, 11, 1, [869]),
  (74, .aload_n 0, 0, 0, []), (75, .getfield 95, 11, 2, [870]), (78, .iload_n 1, 0, 0, []), (79, .bipush 8, 0, 0, []),
  (81, .iload_n 3, 0, 0, []), (82, .imul, 0, 0, []), (83, .ishr, 0, 0, []), (84, .sipush 255, 0, 0, []),
  (87, .iand, 0, 0, []), (88, .i2c, 0, 0, []), (89, .castore, 0, 0, []), (90, .aload_n 0, 0, 0, []),
  (91, .dup, 0, 0, []), (92, .getfield 95, 11, 2, [870]), (95, .iconst 1, 0, 0, []), (96, .iadd, 0, 0, []),
  (97, .putfield 95, 11, 2, [870]), (100, .iinc 3 (-1), 0, 0, []), (103, .goto (-37), 66, 0, []), (106, .iconst 1, 0, 0, []),
  (107, .ireturn, 0, 0, [])
  ]
/-- ChainDeskModel.outside(III)Z -/
def cd_r101 : List (Nat × Instr × Nat × Nat × List Nat) := [
  (0, .iload_n 0, 0, 0, []), (1, .iload_n 1, 0, 0, []), (2, .if_icmp .lt 8, 10, 0, []), (5, .iload_n 0, 0, 0, []),
  (6, .iload_n 2, 0, 0, []), (7, .if_icmp .le 7, 14, 0, []), (10, .iconst 1, 0, 0, []), (11, .goto 4, 15, 0, []),
  (14, .iconst 0, 0, 0, []), (15, .ireturn, 0, 0, [])
  ]
/-- ChainDeskModel.declare()I -/
def cd_r102 : List (Nat × Instr × Nat × Nat × List Nat) := [
  (0, .aload_n 0, 0, 0, []), (1, .iconst 0, 0, 0, []), (2, .putfield 98, 11, 3, [871]), (5, .aload_n 0, 0, 0, []),
  (6, .iconst 1, 0, 0, []), (7, .putfield 101, 11, 4, [872]), (10, .aload_n 0, 0, 0, []), (11, .invokevirtual 173, 103, 0, [1002, 1004, 20, 69, 1005]),
  (14, .istore_n 1, 0, 0, []), (15, .aload_n 0, 0, 0, []), (16, .iconst 0, 0, 0, []), (17, .putfield 95, 11, 2, [870]),
  (20, .aload_n 0, 0, 0, []), (21, .getfield 101, 11, 4, [872]), (24, .ifCond .ne 9, 33, 0, []), (27, .aload_n 0, 0, 0, []),
  (28, .iconst 1, 0, 0, []), (29, .invokevirtual 176, 121, 1, [1070, 1072, 34, 69, 1073]), (32, .ireturn, 0, 0, []), (33, .aload_n 0, 0, 0, []),
  (34, .getfield 13, 11, 5, [873]), (37, .iload_n 1, 0, 0, []), (38, .baload, 0, 0, []), (39, .ifCond .eq 9, 48, 0, []),
  (42, .aload_n 0, 0, 0, []), (43, .iconst 2, 0, 0, []), (44, .invokevirtual 176, 121, 1, [1070, 1072, 34, 69, 1073]), (47, .ireturn, 0, 0, []),
  (48, .aload_n 0, 0, 0, []), (49, .iconst 0, 0, 0, []), (50, .putfield 88, 11, 0, [868]), (53, .aload_n 0, 0, 0, []),
  (54, .getfield 13, 11, 5, [873]), (57, .iload_n 1, 0, 0, []), (58, .iconst 1, 0, 0, []), (59, .bastore, 0, 0, []),
  (60, .aload_n 0, 0, 0, []), (61, .getfield 17, 11, 6, [874]), (64, .iload_n 1, 0, 0, []), (65, .aload_n 0, 0, 0, []),
  (66, .getfield 160, 11, 37, [905]), (69, .iastore, 0, 0, []), (70, .aload_n 0, 0, 0, []), (71, .getfield 21, 11, 7, [875]),
  (74, .iload_n 1, 0, 0, []), (75, .aload_n 0, 0, 0, []), (76, .getfield 163, 11, 38, [906]), (79, .iastore, 0, 0, []),
  (80, .iconst 0, 0, 0, []), (81, .istore_n 2, 0, 0, []), (82, .iload_n 2, 0, 0, []), (83, .aload_n 0, 0, 0, []),
  (84, .getfield 163, 11, 38, [906]), (87, .if_icmp .ge 23, 110, 0, []), (90, .aload_n 0, 0, 0, []), (91, .bipush 60, 0, 0, []),
  (93, .iload_n 2, 0, 0, []), (94, .iadd, 0, 0, []), (95, .bipush 6, 0, 0, []), (97, .iload_n 1, 0, 0, []),
  (98, .imul, 0, 0, []), (99, .iload_n 2, 0, 0, []), (100, .iadd, 0, 0, []), (101, .invokevirtual 180, 122, 2, [1074, 1076, 35, 69, 1077]),
  (104, .iinc 2 1, 0, 0, []), (107, .goto (-25), 82, 0, []), (110, .aload_n 0, 0, 0, []), (111, .getfield 163, 11, 38, [906]),
  (114, .ireturn, 0, 0, [])
  ]
/-- ChainDeskModel.readDeclaration()I -/
def cd_r103 : List (Nat × Instr × Nat × Nat × List Nat) := [
  (0, .aload_n 0, 0, 0, []), (1, .invokevirtual 135, 104, 0, [1006, 1008, 21, 69, 1009]), (4, .istore_n 1, 0, 0, []), (5, .aload_n 0, 0, 0, []),
  (6, .iconst (-1), 0, 0, []), (7, .putfield 160, 11, 37, [905]), (10, .aload_n 0, 0, 0, []), (11, .getfield 101, 11, 4, [872]),
  (14, .ifCond .eq 48, 62, 0, []), (17, .aload_n 0, 0, 0, []), (18, .bipush 58, 0, 0, []), (20, .invokevirtual 109, 108, 1, [1021, 1023, 24, 69, 1024]),
  (23, .ifCond .eq 39, 62, 0, []), (26, .aload_n 0, 0, 0, []), (27, .aload_n 0, 0, 0, []), (28, .invokevirtual 135, 104, 0, [1006, 1008, 21, 69, 1009]),
  (31, .putfield 160, 11, 37, [905]), (34, .aload_n 0, 0, 0, []), (35, .aload_n 0, 0, 0, []), (36, .getfield 101, 11, 4, [872]),
  (39, .ifCond .eq 19, 58, 0, []), (42, .aload_n 0, 0, 0, []), (43, .getfield 13, 11, 5, [873]), (46, .aload_n 0, 0, 0, []),
  (47, .getfield 160, 11, 37, [905]), (50, .baload, 0, 0, []), (51, .ifCond .eq 7, 58, 0, []), (54, .iconst 1, 0, 0, []),
  (55, .goto 4, 59, 0, []), (58, .iconst 0, 0, 0, []), (59, .invokevirtual 113, 107, 1, [1017, 1019, 23, 69, 1020]), (62, .aload_n 0, 0, 0, []),
  (63, .iconst 0, 0, 0, []), (64, .putfield 163, 11, 38, [906]), (67, .aload_n 0, 0, 0, []), (68, .bipush 123, 0, 0, []),
  (70, .invokevirtual 138, 109, 1, [1025, 1027, 25, 69, 1028]), (73, .aload_n 0, 0, 0, []), (74, .getfield 101, 11, 4, [872]), (77, .ifCond .eq 165, 242, 0, []),
  (80, .aload_n 0, 0, 0, []), (81, .bipush 125, 0, 0, []), (83, .invokevirtual 109, 108, 1, [1021, 1023, 24, 69, 1024]), (86, .ifCond .ne 156, 242, 0, []),
  (89, .aload_n 0, 0, 0, []), (90, .getfield 163, 11, 38, [906]), (93, .ifCond .le 9, 102, 0, []), (96, .aload_n 0, 0, 0, []),
  (97, .bipush 59, 0, 0, []), (99, .invokevirtual 138, 109, 1, [1025, 1027, 25, 69, 1028]), (102, .aload_n 0, 0, 0, []), (103, .aload_n 0, 0, 0, []),
  (104, .getfield 163, 11, 38, [906]), (107, .bipush 6, 0, 0, []), (109, .if_icmp .ge 7, 116, 0, []), (112, .iconst 1, 0, 0, []),
  (113, .goto 4, 117, 0, []), (116, .iconst 0, 0, 0, []), (117, .invokevirtual 113, 107, 1, [1017, 1019, 23, 69, 1020]), (120, .bipush 60, 0, 0, []),
  (122, .aload_n 0, 0, 0, []), (123, .getfield 163, 11, 38, [906]), (126, .iadd, 0, 0, []), (127, .istore_n 2, 0, 0, []),
  (128, .aload_n 0, 0, 0, []), (129, .getfield 101, 11, 4, [872]), (132, .ifCond .eq 9, 141, 0, []), (135, .aload_n 0, 0, 0, []),
  (136, .iload_n 2, 0, 0, []), (137, .iload_n 1, 0, 0, []), (138, .invokevirtual 166, 110, 2, [1029, 1031, 26, 69, 1032]), (141, .bipush 60, 0, 0, []),
  (143, .istore_n 3, 0, 0, []), (144, .iload_n 3, 0, 0, []), (145, .iload_n 2, 0, 0, []), (146, .if_icmp .ge 55, 201, 0, []),
  (149, .aload_n 0, 0, 0, []), (150, .getfield 101, 11, 4, [872]), (153, .ifCond .eq 48, 201, 0, []), (156, .aload_n 0, 0, 0, []),
  (157, .aload_n 0, 0, 0, []), (158, .getfield 24, 11, 8, [876]), (161, .iload_n 3, 0, 0, []), (162, .iaload, 0, 0, []),
  (163, .aload_n 0, 0, 0, []), (164, .getfield 24, 11, 8, [876]), (167, .iload_n 2, 0, 0, []), (168, .iaload, 0, 0, []),
  (169, .if_icmp .ne 18, 187, 0, []), (172, .aload_n 0, 0, 0, []), (173, .getfield 33, 11, 11, [879]), (176, .iload_n 3, 0, 0, []),
  (177, .iaload, 0, 0, []), (178, .aload_n 0, 0, 0, []), (179, .getfield 33, 11, 11, [879]), (182, .iload_n 2, 0, 0, []),
  (183, .iaload, 0, 0, []), (184, .if_icmp .eq 7, 191, 0, []), (187, .iconst 1, 0, 0, []), (188, .goto 4, 192, 0, []),
  (191, .iconst 0, 0, 0, []), (192, .invokevirtual 113, 107, 1, [1017, 1019, 23, 69, 1020]), (195, .iinc 3 1, 0, 0, []), (198, .goto (-54), 144, 0, []),
  (201, .aload_n 0, 0, 0, []), (202, .aload_n 0, 0, 0, []), (203, .getfield 101, 11, 4, [872]), (206, .ifCond .eq 15, 221, 0, []),
  (209, .aload_n 0, 0, 0, []), (210, .iload_n 2, 0, 0, []), (211, .aload_n 0, 0, 0, []), (212, .getfield 160, 11, 37, [905]),
  (215, .invokevirtual 170, 119, 2, [1062, 1064, 32, 69, 1065]), (218, .ifCond .eq 7, 225, 0, []), (221, .iconst 1, 0, 0, []), (222, .goto 4, 226, 0, []),
  (225, .iconst 0, 0, 0, []), (226, .invokevirtual 113, 107, 1, [1017, 1019, 23, 69, 1020]), (229, .aload_n 0, 0, 0, []), (230, .dup, 0, 0, []),
  (231, .getfield 163, 11, 38, [906]), (234, .iconst 1, 0, 0, []), (235, .iadd, 0, 0, []), (236, .putfield 163, 11, 38, [906]),
  (239, .goto (-166), 73, 0, []), (242, .aload_n 0, 0, 0, []), (243, .aload_n 0, 0, 0, []), (244, .getfield 98, 11, 3, [871]),
  (247, .aload_n 0, 0, 0, []), (248, .getfield 95, 11, 2, [870]), (251, .if_icmp .ne 7, 258, 0, []), (254, .iconst 1, 0, 0, []),
  (255, .goto 4, 259, 0, []), (258, .iconst 0, 0, 0, []), (259, .invokevirtual 113, 107, 1, [1017, 1019, 23, 69, 1020]), (262, .iload_n 1, 0, 0, []),
  (263, .ireturn, 0, 0, [])
  ]
/-- ChainDeskModel.readClass()I -/
def cd_r104 : List (Nat × Instr × Nat × Nat × List Nat) := [
  (0, .aload_n 0, 0, 0, []), (1, .aload_n 0, 0, 0, []), (2, .iconst 0, 0, 0, []), (3, .invokevirtual 105, 105, 1, [1010, 1012, 22, 69, 1013]),
  (6, .invokestatic 132, 106, 1, [1014, 1015, 69, 1016]), (9, .invokevirtual 113, 107, 1, [1017, 1019, 23, 69, 1020]), (12, .aload_n 0, 0, 0, []), (13, .dup, 0, 0, []),
  (14, .getfield 98, 11, 3, [871]), (17, .iconst 1, 0, 0, []), (18, .iadd, 0, 0, []), (19, .putfield 98, 11, 3, [871]),
  (22, .aload_n 0, 0, 0, []), (23, .getfield 101, 11, 4, [872]), (26, .ifCond .eq 20, 46, 0, []), (29, .aload_n 0, 0, 0, []),
  (30, .getfield 7, 11, 1, [869]), (33, .aload_n 0, 0, 0, []), (34, .getfield 98, 11, 3, [871]), (37, .iconst 1, 0, 0, []),
  (38, .isub, 0, 0, []), (39, .caload, 0, 0, []), (40, .bipush 65, 0, 0, []), (42, .isub, 0, 0, []),
  (43, .goto 4, 47, 0, []), (46, .iconst 0, 0, 0, []), (47, .ireturn, 0, 0, [])
  ]
/-- ChainDeskModel.look(I)C -/
def cd_r105 : List (Nat × Instr × Nat × Nat × List Nat) := [
  (0, .aload_n 0, 0, 0, []), (1, .getfield 98, 11, 3, [871]), (4, .iload_n 1, 0, 0, []), (5, .iadd, 0, 0, []),
  (6, .aload_n 0, 0, 0, []), (7, .getfield 95, 11, 2, [870]), (10, .if_icmp .ge 17, 27, 0, []), (13, .aload_n 0, 0, 0, []),
  (14, .getfield 7, 11, 1, [869]), (17, .aload_n 0, 0, 0, []), (18, .getfield 98, 11, 3, [871]), (21, .iload_n 1, 0, 0, []),
  (22, .iadd, 0, 0, []), (23, .caload, 0, 0, []), (24, .goto 4, 28, 0, []), (27, .iconst 0, 0, 0, []),
  (28, .ireturn, 0, 0, [])
  ]
/-- ChainDeskModel.large(C)Z -/
def cd_r106 : List (Nat × Instr × Nat × Nat × List Nat) := [
  (0, .iload_n 0, 0, 0, []), (1, .bipush 65, 0, 0, []), (3, .if_icmp .lt 13, 16, 0, []), (6, .iload_n 0, 0, 0, []),
  (7, .bipush 74, 0, 0, []), (9, .if_icmp .gt 7, 16, 0, []), (12, .iconst 1, 0, 0, []), (13, .goto 4, 17, 0, []),
  (16, .iconst 0, 0, 0, []), (17, .ireturn, 0, 0, [])
  ]
/-- ChainDeskModel.must(Z)V -/
def cd_r107 : List (Nat × Instr × Nat × Nat × List Nat) := [
  (0, .aload_n 0, 0, 0, []), (1, .aload_n 0, 0, 0, []), (2, .getfield 101, 11, 4, [872]), (5, .ifCond .eq 11, 16, 0, []),
  (8, .iload_n 1, 0, 0, []), (9, .ifCond .eq 7, 16, 0, []), (12, .iconst 1, 0, 0, []), (13, .goto 4, 17, 0, []),
  (16, .iconst 0, 0, 0, []), (17, .putfield 101, 11, 4, [872]), (20, .return_, 0, 0, [])
  ]
/-- ChainDeskModel.pass(C)Z -/
def cd_r108 : List (Nat × Instr × Nat × Nat × List Nat) := [
  (0, .aload_n 0, 0, 0, []), (1, .iconst 0, 0, 0, []), (2, .invokevirtual 105, 105, 1, [1010, 1012, 22, 69, 1013]), (5, .iload_n 1, 0, 0, []),
  (6, .if_icmp .ne 7, 13, 0, []), (9, .iconst 1, 0, 0, []), (10, .goto 4, 14, 0, []), (13, .iconst 0, 0, 0, []),
  (14, .istore_n 2, 0, 0, []), (15, .aload_n 0, 0, 0, []), (16, .iload_n 2, 0, 0, []), (17, .ifCond .eq 12, 29, 0, []),
  (20, .aload_n 0, 0, 0, []), (21, .getfield 98, 11, 3, [871]), (24, .iconst 1, 0, 0, []), (25, .iadd, 0, 0, []),
  (26, .goto 7, 33, 0, []), (29, .aload_n 0, 0, 0, []), (30, .getfield 98, 11, 3, [871]), (33, .putfield 98, 11, 3, [871]),
  (36, .iload_n 2, 0, 0, []), (37, .ireturn, 0, 0, [])
  ]
/-- ChainDeskModel.expect(C)V -/
def cd_r109 : List (Nat × Instr × Nat × Nat × List Nat) := [
  (0, .aload_n 0, 0, 0, []), (1, .aload_n 0, 0, 0, []), (2, .iload_n 1, 0, 0, []), (3, .invokevirtual 109, 108, 1, [1021, 1023, 24, 69, 1024]),
  (6, .invokevirtual 113, 107, 1, [1017, 1019, 23, 69, 1020]), (9, .return_, 0, 0, [])
  ]
/-- ChainDeskModel.readMember(II)V -/
def cd_r110 : List (Nat × Instr × Nat × Nat × List Nat) := [
  (0, .aload_n 0, 0, 0, []), (1, .getfield 30, 11, 10, [878]), (4, .iload_n 1, 0, 0, []), (5, .aload_n 0, 0, 0, []),
  (6, .bipush 8, 0, 0, []), (8, .bipush 112, 0, 0, []), (10, .bipush 114, 0, 0, []), (12, .bipush 105, 0, 0, []),
  (14, .bipush 118, 0, 0, []), (16, .bipush 97, 0, 0, []), (18, .bipush 116, 0, 0, []), (20, .invokevirtual 145, 111, 7, [1033, 1035, 27, 69, 1036]),
  (23, .bastore, 0, 0, []), (24, .aload_n 0, 0, 0, []), (25, .getfield 27, 11, 9, [877]), (28, .iload_n 1, 0, 0, []),
  (29, .iconst 1, 0, 0, []), (30, .bastore, 0, 0, []), (31, .aload_n 0, 0, 0, []), (32, .getfield 33, 11, 11, [879]),
  (35, .iload_n 1, 0, 0, []), (36, .iconst 0, 0, 0, []), (37, .iastore, 0, 0, []), (38, .aload_n 0, 0, 0, []),
  (39, .iconst 4, 0, 0, []), (40, .bipush 110, 0, 0, []), (42, .bipush 101, 0, 0, []), (44, .bipush 119, 0, 0, []),
  (46, .bipush 40, 0, 0, []), (48, .iconst 0, 0, 0, []), (49, .iconst 0, 0, 0, []), (50, .invokevirtual 145, 111, 7, [1033, 1035, 27, 69, 1036]),
  (53, .ifCond .eq 35, 88, 0, []), (56, .aload_n 0, 0, 0, []), (57, .dup, 0, 0, []), (58, .getfield 98, 11, 3, [871]),
  (61, .iconst 1, 0, 0, []), (62, .isub, 0, 0, []), (63, .putfield 98, 11, 3, [871]), (66, .aload_n 0, 0, 0, []),
  (67, .getfield 24, 11, 8, [876]), (70, .iload_n 1, 0, 0, []), (71, .iconst 2, 0, 0, []), (72, .iastore, 0, 0, []),
  (73, .aload_n 0, 0, 0, []), (74, .getfield 36, 11, 12, [880]), (77, .iload_n 1, 0, 0, []), (78, .iconst 3, 0, 0, []),
  (79, .iload_n 2, 0, 0, []), (80, .iadd, 0, 0, []), (81, .iastore, 0, 0, []), (82, .aload_n 0, 0, 0, []),
  (83, .iload_n 1, 0, 0, []), (84, .invokevirtual 149, 112, 1, [1037, 1039, 28, 69, 1040]), (87, .return_, 0, 0, []), (88, .aload_n 0, 0, 0, []),
  (89, .getfield 27, 11, 9, [877]), (92, .iload_n 1, 0, 0, []), (93, .aload_n 0, 0, 0, []), (94, .bipush 7, 0, 0, []),
  (96, .bipush 115, 0, 0, []), (98, .bipush 116, 0, 0, []), (100, .bipush 97, 0, 0, []), (102, .bipush 116, 0, 0, []),
  (104, .bipush 105, 0, 0, []), (106, .bipush 99, 0, 0, []), (108, .invokevirtual 145, 111, 7, [1033, 1035, 27, 69, 1036]), (111, .bastore, 0, 0, []),
  (112, .aload_n 0, 0, 0, []), (113, .getfield 33, 11, 11, [879]), (116, .iload_n 1, 0, 0, []), (117, .aload_n 0, 0, 0, []),
  (118, .invokevirtual 153, 117, 0, [1055, 1057, 31, 69, 1058]), (121, .iastore, 0, 0, []), (122, .aload_n 0, 0, 0, []), (123, .getfield 24, 11, 8, [876]),
  (126, .iload_n 1, 0, 0, []), (127, .aload_n 0, 0, 0, []), (128, .iconst 0, 0, 0, []), (129, .invokevirtual 105, 105, 1, [1010, 1012, 22, 69, 1013]),
  (132, .bipush 40, 0, 0, []), (134, .if_icmp .ne 7, 141, 0, []), (137, .iconst 1, 0, 0, []), (138, .goto 4, 142, 0, []),
  (141, .iconst 0, 0, 0, []), (142, .iastore, 0, 0, []), (143, .aload_n 0, 0, 0, []), (144, .getfield 39, 11, 13, [881]),
  (147, .iload_n 1, 0, 0, []), (148, .iconst 0, 0, 0, []), (149, .iastore, 0, 0, []), (150, .aload_n 0, 0, 0, []),
  (151, .getfield 24, 11, 8, [876]), (154, .iload_n 1, 0, 0, []), (155, .iaload, 0, 0, []), (156, .iconst 1, 0, 0, []),
  (157, .if_icmp .ne 8, 165, 0, []), (160, .aload_n 0, 0, 0, []), (161, .iload_n 1, 0, 0, []), (162, .invokevirtual 149, 112, 1, [1037, 1039, 28, 69, 1040]),
  (165, .aload_n 0, 0, 0, []), (166, .bipush 58, 0, 0, []), (168, .invokevirtual 138, 109, 1, [1025, 1027, 25, 69, 1028]), (171, .aload_n 0, 0, 0, []),
  (172, .getfield 36, 11, 12, [880]), (175, .iload_n 1, 0, 0, []), (176, .aload_n 0, 0, 0, []), (177, .getfield 101, 11, 4, [872]),
  (180, .ifCond .eq 10, 190, 0, []), (183, .aload_n 0, 0, 0, []), (184, .invokevirtual 142, 113, 0, [1041, 1043, 29, 69, 1044]), (187, .goto 4, 191, 0, []),
  (190, .iconst 0, 0, 0, []), (191, .iastore, 0, 0, []), (192, .return_, 0, 0, [])
  ]
/-- ChainDeskModel.word(ICCCCCC)Z -/
def cd_r111 : List (Nat × Instr × Nat × Nat × List Nat) := [
  (0, .aload_n 0, 0, 0, []), (1, .iconst 0, 0, 0, []), (2, .invokevirtual 105, 105, 1, [1010, 1012, 22, 69, 1013]), (5, .iload_n 2, 0, 0, []),
  (6, .if_icmp .ne 36, 42, 0, []), (9, .aload_n 0, 0, 0, []), (10, .iconst 1, 0, 0, []), (11, .invokevirtual 105, 105, 1, [1010, 1012, 22, 69, 1013]),
  (14, .iload_n 3, 0, 0, []), (15, .if_icmp .ne 27, 42, 0, []), (18, .aload_n 0, 0, 0, []), (19, .iconst 2, 0, 0, []),
  (20, .invokevirtual 105, 105, 1, [1010, 1012, 22, 69, 1013]), (23, .iload 4, 0, 0, []), (25, .if_icmp .ne 17, 42, 0, []), (28, .aload_n 0, 0, 0, []),
  (29, .iconst 3, 0, 0, []), (30, .invokevirtual 105, 105, 1, [1010, 1012, 22, 69, 1013]), (33, .iload 5, 0, 0, []), (35, .if_icmp .ne 7, 42, 0, []),
  (38, .iconst 1, 0, 0, []), (39, .goto 4, 43, 0, []), (42, .iconst 0, 0, 0, []), (43, .istore 8, 0, 0, []),
  (45, .iload 8, 0, 0, []), (47, .ifCond .eq 38, 85, 0, []), (50, .iload_n 1, 0, 0, []), (51, .iconst 5, 0, 0, []),
  (52, .if_icmp .lt 13, 65, 0, []), (55, .aload_n 0, 0, 0, []), (56, .iconst 4, 0, 0, []), (57, .invokevirtual 105, 105, 1, [1010, 1012, 22, 69, 1013]),
  (60, .iload 6, 0, 0, []), (62, .if_icmp .ne 23, 85, 0, []), (65, .iload_n 1, 0, 0, []), (66, .bipush 6, 0, 0, []),
  (68, .if_icmp .lt 13, 81, 0, []), (71, .aload_n 0, 0, 0, []), (72, .iconst 5, 0, 0, []), (73, .invokevirtual 105, 105, 1, [1010, 1012, 22, 69, 1013]),
  (76, .iload 7, 0, 0, []), (78, .if_icmp .ne 7, 85, 0, []), (81, .iconst 1, 0, 0, []), (82, .goto 4, 86, 0, []),
  (85, .iconst 0, 0, 0, []), (86, .istore 8, 0, 0, []), (88, .iload 8, 0, 0, []), (90, .ifCond .eq 52, 142, 0, []),
  (93, .iload_n 1, 0, 0, []), (94, .bipush 7, 0, 0, []), (96, .if_icmp .lt 42, 138, 0, []), (99, .aload_n 0, 0, 0, []),
  (100, .bipush 6, 0, 0, []), (102, .invokevirtual 105, 105, 1, [1010, 1012, 22, 69, 1013]), (105, .iload_n 1, 0, 0, []), (106, .bipush 7, 0, 0, []),
  (108, .if_icmp .ne 8, 116, 0, []), (111, .bipush 32, 0, 0, []), (113, .goto 5, 118, 0, []), (116, .bipush 101, 0, 0, []),
  (118, .if_icmp .ne 24, 142, 0, []), (121, .iload_n 1, 0, 0, []), (122, .bipush 8, 0, 0, []), (124, .if_icmp .lt 14, 138, 0, []),
  (127, .aload_n 0, 0, 0, []), (128, .bipush 7, 0, 0, []), (130, .invokevirtual 105, 105, 1, [1010, 1012, 22, 69, 1013]), (133, .bipush 32, 0, 0, []),
  (135, .if_icmp .ne 7, 142, 0, []), (138, .iconst 1, 0, 0, []), (139, .goto 4, 143, 0, []), (142, .iconst 0, 0, 0, []),
  (143, .istore 8, 0, 0, []), (145, .aload_n 0, 0, 0, []), (146, .iload 8, 0, 0, []), (148, .ifCond .eq 12, 160, 0, []),
  (151, .aload_n 0, 0, 0, []), (152, .getfield 98, 11, 3, [871]), (155, .iload_n 1, 0, 0, []), (156, .iadd, 0, 0, []),
  (157, .goto 7, 164, 0, []), (160, .aload_n 0, 0, 0, []), (161, .getfield 98, 11, 3, [871]), (164, .putfield 98, 11, 3, [871]),
  (167, .iload 8, 0, 0, []), (169, .ireturn, 0, 0, [])
  ]
/-- ChainDeskModel.readList(I)V -/
def cd_r112 : List (Nat × Instr × Nat × Nat × List Nat) := [
  (0, .aload_n 0, 0, 0, []), (1, .getfield 39, 11, 13, [881]), (4, .iload_n 1, 0, 0, []), (5, .iconst 0, 0, 0, []),
  (6, .iastore, 0, 0, []), (7, .aload_n 0, 0, 0, []), (8, .bipush 40, 0, 0, []), (10, .invokevirtual 138, 109, 1, [1025, 1027, 25, 69, 1028]),
  (13, .aload_n 0, 0, 0, []), (14, .getfield 101, 11, 4, [872]), (17, .ifCond .eq 98, 115, 0, []), (20, .aload_n 0, 0, 0, []),
  (21, .bipush 41, 0, 0, []), (23, .invokevirtual 109, 108, 1, [1021, 1023, 24, 69, 1024]), (26, .ifCond .ne 89, 115, 0, []), (29, .aload_n 0, 0, 0, []),
  (30, .getfield 39, 11, 13, [881]), (33, .iload_n 1, 0, 0, []), (34, .iaload, 0, 0, []), (35, .ifCond .le 9, 44, 0, []),
  (38, .aload_n 0, 0, 0, []), (39, .bipush 44, 0, 0, []), (41, .invokevirtual 138, 109, 1, [1025, 1027, 25, 69, 1028]), (44, .aload_n 0, 0, 0, []),
  (45, .aload_n 0, 0, 0, []), (46, .getfield 39, 11, 13, [881]), (49, .iload_n 1, 0, 0, []), (50, .iaload, 0, 0, []),
  (51, .iconst 2, 0, 0, []), (52, .if_icmp .ge 7, 59, 0, []), (55, .iconst 1, 0, 0, []), (56, .goto 4, 60, 0, []),
  (59, .iconst 0, 0, 0, []), (60, .invokevirtual 113, 107, 1, [1017, 1019, 23, 69, 1020]), (63, .aload_n 0, 0, 0, []), (64, .getfield 101, 11, 4, [872]),
  (67, .ifCond .eq 10, 77, 0, []), (70, .aload_n 0, 0, 0, []), (71, .invokevirtual 142, 113, 0, [1041, 1043, 29, 69, 1044]), (74, .goto 4, 78, 0, []),
  (77, .iconst 0, 0, 0, []), (78, .istore_n 2, 0, 0, []), (79, .aload_n 0, 0, 0, []), (80, .getfield 101, 11, 4, [872]),
  (83, .ifCond .eq 19, 102, 0, []), (86, .aload_n 0, 0, 0, []), (87, .getfield 42, 11, 14, [882]), (90, .iconst 2, 0, 0, []),
  (91, .iload_n 1, 0, 0, []), (92, .imul, 0, 0, []), (93, .aload_n 0, 0, 0, []), (94, .getfield 39, 11, 13, [881]),
  (97, .iload_n 1, 0, 0, []), (98, .iaload, 0, 0, []), (99, .iadd, 0, 0, []), (100, .iload_n 2, 0, 0, []),
  (101, .iastore, 0, 0, []), (102, .aload_n 0, 0, 0, []), (103, .getfield 39, 11, 13, [881]), (106, .iload_n 1, 0, 0, []),
  (107, .dup2, 0, 0, []), (108, .iaload, 0, 0, []), (109, .iconst 1, 0, 0, []), (110, .iadd, 0, 0, []),
  (111, .iastore, 0, 0, []), (112, .goto (-99), 13, 0, []), (115, .return_, 0, 0, [])
  ]
/-- ChainDeskModel.readType()I -/
def cd_r113 : List (Nat × Instr × Nat × Nat × List Nat) := [
  (0, .aload_n 0, 0, 0, []), (1, .iconst 0, 0, 0, []), (2, .invokevirtual 105, 105, 1, [1010, 1012, 22, 69, 1013]), (5, .invokestatic 132, 106, 1, [1014, 1015, 69, 1016]),
  (8, .ifCond .eq 10, 18, 0, []), (11, .iconst 3, 0, 0, []), (12, .aload_n 0, 0, 0, []), (13, .invokevirtual 135, 104, 0, [1006, 1008, 21, 69, 1009]),
  (16, .iadd, 0, 0, []), (17, .ireturn, 0, 0, []), (18, .aload_n 0, 0, 0, []), (19, .invokevirtual 124, 114, 0, [1045, 1047, 30, 69, 1048]),
  (22, .istore_n 1, 0, 0, []), (23, .iload_n 1, 0, 0, []), (24, .bipush 105, 0, 0, []), (26, .bipush 110, 0, 0, []),
  (28, .bipush 116, 0, 0, []), (30, .iconst 0, 0, 0, []), (31, .invokestatic 120, 116, 4, [1052, 1053, 69, 1054]), (34, .if_icmp .ne 7, 41, 0, []),
  (37, .iconst 0, 0, 0, []), (38, .goto 42, 80, 0, []), (41, .iload_n 1, 0, 0, []), (42, .bipush 108, 0, 0, []),
  (44, .bipush 111, 0, 0, []), (46, .bipush 110, 0, 0, []), (48, .bipush 103, 0, 0, []), (50, .invokestatic 120, 116, 4, [1052, 1053, 69, 1054]),
  (53, .if_icmp .ne 7, 60, 0, []), (56, .iconst 1, 0, 0, []), (57, .goto 23, 80, 0, []), (60, .iload_n 1, 0, 0, []),
  (61, .bipush 98, 0, 0, []), (63, .bipush 111, 0, 0, []), (65, .bipush 111, 0, 0, []), (67, .bipush 108, 0, 0, []),
  (69, .invokestatic 120, 116, 4, [1052, 1053, 69, 1054]), (72, .if_icmp .ne 7, 79, 0, []), (75, .iconst 2, 0, 0, []), (76, .goto 4, 80, 0, []),
  (79, .iconst (-1), 0, 0, []), (80, .istore_n 2, 0, 0, []), (81, .aload_n 0, 0, 0, []), (82, .iload_n 2, 0, 0, []),
  (83, .iconst (-1), 0, 0, []), (84, .if_icmp .eq 7, 91, 0, []), (87, .iconst 1, 0, 0, []), (88, .goto 4, 92, 0, []),
  (91, .iconst 0, 0, 0, []), (92, .invokevirtual 113, 107, 1, [1017, 1019, 23, 69, 1020]), (95, .iload_n 2, 0, 0, []), (96, .ireturn, 0, 0, [])
  ]
/-- ChainDeskModel.letters()I -/
def cd_r114 : List (Nat × Instr × Nat × Nat × List Nat) := [
  (0, .iconst 0, 0, 0, []), (1, .istore_n 1, 0, 0, []), (2, .iconst 0, 0, 0, []), (3, .istore_n 2, 0, 0, []),
  (4, .aload_n 0, 0, 0, []), (5, .iconst 0, 0, 0, []), (6, .invokevirtual 105, 105, 1, [1010, 1012, 22, 69, 1013]), (9, .invokestatic 117, 115, 1, [1049, 1050, 69, 1051]),
  (12, .ifCond .eq 42, 54, 0, []), (15, .iload_n 2, 0, 0, []), (16, .iconst 4, 0, 0, []), (17, .if_icmp .ge 19, 36, 0, []),
  (20, .bipush 27, 0, 0, []), (22, .iload_n 1, 0, 0, []), (23, .imul, 0, 0, []), (24, .aload_n 0, 0, 0, []),
  (25, .iconst 0, 0, 0, []), (26, .invokevirtual 105, 105, 1, [1010, 1012, 22, 69, 1013]), (29, .iadd, 0, 0, []), (30, .bipush 96, 0, 0, []),
  (32, .isub, 0, 0, []), (33, .goto 4, 37, 0, []), (36, .iconst 0, 0, 0, []), (37, .istore_n 1, 0, 0, []),
  (38, .iinc 2 1, 0, 0, []), (41, .aload_n 0, 0, 0, []), (42, .dup, 0, 0, []), (43, .getfield 98, 11, 3, [871]),
  (46, .iconst 1, 0, 0, []), (47, .iadd, 0, 0, []), (48, .putfield 98, 11, 3, [871]), (51, .goto (-47), 4, 0, []),
  (54, .iload_n 2, 0, 0, []), (55, .iconst 4, 0, 0, []), (56, .if_icmp .le 7, 63, 0, []), (59, .iconst 0, 0, 0, []),
  (60, .goto 4, 64, 0, []), (63, .iload_n 1, 0, 0, []), (64, .ireturn, 0, 0, [])
  ]
/-- ChainDeskModel.small(C)Z -/
def cd_r115 : List (Nat × Instr × Nat × Nat × List Nat) := [
  (0, .iload_n 0, 0, 0, []), (1, .bipush 97, 0, 0, []), (3, .if_icmp .lt 13, 16, 0, []), (6, .iload_n 0, 0, 0, []),
  (7, .bipush 122, 0, 0, []), (9, .if_icmp .gt 7, 16, 0, []), (12, .iconst 1, 0, 0, []), (13, .goto 4, 17, 0, []),
  (16, .iconst 0, 0, 0, []), (17, .ireturn, 0, 0, [])
  ]
/-- ChainDeskModel.spell(IIII)I -/
def cd_r116 : List (Nat × Instr × Nat × Nat × List Nat) := [
  (0, .iload_n 0, 0, 0, []), (1, .bipush 96, 0, 0, []), (3, .isub, 0, 0, []), (4, .istore 4, 0, 0, []),
  (6, .iload_n 1, 0, 0, []), (7, .ifCond .le 16, 23, 0, []), (10, .bipush 27, 0, 0, []), (12, .iload 4, 0, 0, []),
  (14, .imul, 0, 0, []), (15, .iload_n 1, 0, 0, []), (16, .iadd, 0, 0, []), (17, .bipush 96, 0, 0, []),
  (19, .isub, 0, 0, []), (20, .goto 5, 25, 0, []), (23, .iload 4, 0, 0, []), (25, .istore 4, 0, 0, []),
  (27, .iload_n 2, 0, 0, []), (28, .ifCond .le 16, 44, 0, []), (31, .bipush 27, 0, 0, []), (33, .iload 4, 0, 0, []),
  (35, .imul, 0, 0, []), (36, .iload_n 2, 0, 0, []), (37, .iadd, 0, 0, []), (38, .bipush 96, 0, 0, []),
  (40, .isub, 0, 0, []), (41, .goto 5, 46, 0, []), (44, .iload 4, 0, 0, []), (46, .istore 4, 0, 0, []),
  (48, .iload_n 3, 0, 0, []), (49, .ifCond .le 16, 65, 0, []), (52, .bipush 27, 0, 0, []), (54, .iload 4, 0, 0, []),
  (56, .imul, 0, 0, []), (57, .iload_n 3, 0, 0, []), (58, .iadd, 0, 0, []), (59, .bipush 96, 0, 0, []),
  (61, .isub, 0, 0, []), (62, .goto 5, 67, 0, []), (65, .iload 4, 0, 0, []), (67, .ireturn, 0, 0, [])
  ]
/-- ChainDeskModel.readName()I -/
def cd_r117 : List (Nat × Instr × Nat × Nat × List Nat) := [
  (0, .aload_n 0, 0, 0, []), (1, .invokevirtual 124, 114, 0, [1045, 1047, 30, 69, 1048]), (4, .istore_n 1, 0, 0, []), (5, .aload_n 0, 0, 0, []),
  (6, .iload_n 1, 0, 0, []), (7, .ifCond .le 14, 21, 0, []), (10, .iload_n 1, 0, 0, []), (11, .invokestatic 128, 118, 1, [1059, 1060, 69, 1061]),
  (14, .ifCond .ne 7, 21, 0, []), (17, .iconst 1, 0, 0, []), (18, .goto 4, 22, 0, []), (21, .iconst 0, 0, 0, []),
  (22, .invokevirtual 113, 107, 1, [1017, 1019, 23, 69, 1020]), (25, .iload_n 1, 0, 0, []), (26, .ireturn, 0, 0, [])
  ]
/-- ChainDeskModel.isWord(I)Z -/
def cd_r118 : List (Nat × Instr × Nat × Nat × List Nat) := [
  (0, .iload_n 0, 0, 0, []), (1, .bipush 110, 0, 0, []), (3, .bipush 101, 0, 0, []), (5, .bipush 119, 0, 0, []),
  (7, .iconst 0, 0, 0, []), (8, .invokestatic 120, 116, 4, [1052, 1053, 69, 1054]), (11, .if_icmp .eq 47, 58, 0, []), (14, .iload_n 0, 0, 0, []),
  (15, .bipush 105, 0, 0, []), (17, .bipush 110, 0, 0, []), (19, .bipush 116, 0, 0, []), (21, .iconst 0, 0, 0, []),
  (22, .invokestatic 120, 116, 4, [1052, 1053, 69, 1054]), (25, .if_icmp .eq 33, 58, 0, []), (28, .iload_n 0, 0, 0, []), (29, .bipush 108, 0, 0, []),
  (31, .bipush 111, 0, 0, []), (33, .bipush 110, 0, 0, []), (35, .bipush 103, 0, 0, []), (37, .invokestatic 120, 116, 4, [1052, 1053, 69, 1054]),
  (40, .if_icmp .eq 18, 58, 0, []), (43, .iload_n 0, 0, 0, []), (44, .bipush 98, 0, 0, []), (46, .bipush 111, 0, 0, []),
  (48, .bipush 111, 0, 0, []), (50, .bipush 108, 0, 0, []), (52, .invokestatic 120, 116, 4, [1052, 1053, 69, 1054]), (55, .if_icmp .ne 7, 62, 0, []),
  (58, .iconst 1, 0, 0, []), (59, .goto 4, 63, 0, []), (62, .iconst 0, 0, 0, []), (63, .ireturn, 0, 0, [])
  ]
/-- ChainDeskModel.allowed(II)Z -/
def cd_r119 : List (Nat × Instr × Nat × Nat × List Nat) := [
  (0, .iload_n 2, 0, 0, []), (1, .istore_n 3, 0, 0, []), (2, .iload_n 3, 0, 0, []), (3, .iconst (-1), 0, 0, []),
  (4, .if_icmp .eq 131, 135, 0, []), (7, .bipush 6, 0, 0, []), (9, .iload_n 3, 0, 0, []), (10, .imul, 0, 0, []),
  (11, .istore 4, 0, 0, []), (13, .iload 4, 0, 0, []), (15, .bipush 6, 0, 0, []), (17, .iload_n 3, 0, 0, []),
  (18, .imul, 0, 0, []), (19, .aload_n 0, 0, 0, []), (20, .getfield 21, 11, 7, [875]), (23, .iload_n 3, 0, 0, []),
  (24, .iaload, 0, 0, []), (25, .iadd, 0, 0, []), (26, .if_icmp .ge 99, 125, 0, []), (29, .aload_n 0, 0, 0, []),
  (30, .getfield 24, 11, 8, [876]), (33, .iload_n 1, 0, 0, []), (34, .iaload, 0, 0, []), (35, .iconst 1, 0, 0, []),
  (36, .if_icmp .ne 44, 80, 0, []), (39, .aload_n 0, 0, 0, []), (40, .getfield 24, 11, 8, [876]), (43, .iload 4, 0, 0, []),
  (45, .iaload, 0, 0, []), (46, .iconst 1, 0, 0, []), (47, .if_icmp .ne 33, 80, 0, []), (50, .aload_n 0, 0, 0, []),
  (51, .getfield 33, 11, 11, [879]), (54, .iload_n 1, 0, 0, []), (55, .iaload, 0, 0, []), (56, .aload_n 0, 0, 0, []),
  (57, .getfield 33, 11, 11, [879]), (60, .iload 4, 0, 0, []), (62, .iaload, 0, 0, []), (63, .if_icmp .ne 17, 80, 0, []),
  (66, .aload_n 0, 0, 0, []), (67, .getfield 30, 11, 10, [878]), (70, .iload 4, 0, 0, []), (72, .baload, 0, 0, []),
  (73, .ifCond .ne 7, 80, 0, []), (76, .iconst 1, 0, 0, []), (77, .goto 4, 81, 0, []), (80, .iconst 0, 0, 0, []),
  (81, .istore 5, 0, 0, []), (83, .iload 5, 0, 0, []), (85, .ifCond .eq 34, 119, 0, []), (88, .aload_n 0, 0, 0, []),
  (89, .getfield 27, 11, 9, [877]), (92, .iload_n 1, 0, 0, []), (93, .baload, 0, 0, []), (94, .ifCond .ne 23, 117, 0, []),
  (97, .aload_n 0, 0, 0, []), (98, .getfield 27, 11, 9, [877]), (101, .iload 4, 0, 0, []), (103, .baload, 0, 0, []),
  (104, .ifCond .ne 13, 117, 0, []), (107, .aload_n 0, 0, 0, []), (108, .iload_n 1, 0, 0, []), (109, .iload 4, 0, 0, []),
  (111, .invokevirtual 156, 120, 2, [1066, 1068, 33, 69, 1069]), (114, .ifCond .ne 5, 119, 0, []), (117, .iconst 0, 0, 0, []), (118, .ireturn, 0, 0, []),
  (119, .iinc 4 1, 0, 0, []), (122, .goto (-109), 13, 0, []), (125, .aload_n 0, 0, 0, []), (126, .getfield 17, 11, 6, [874]),
  (129, .iload_n 3, 0, 0, []), (130, .iaload, 0, 0, []), (131, .istore_n 3, 0, 0, []), (132, .goto (-130), 2, 0, []),
  (135, .iconst 1, 0, 0, []), (136, .ireturn, 0, 0, [])
  ]
/-- ChainDeskModel.sameTypes(II)Z -/
def cd_r120 : List (Nat × Instr × Nat × Nat × List Nat) := [
  (0, .aload_n 0, 0, 0, []), (1, .getfield 36, 11, 12, [880]), (4, .iload_n 1, 0, 0, []), (5, .iaload, 0, 0, []),
  (6, .aload_n 0, 0, 0, []), (7, .getfield 36, 11, 12, [880]), (10, .iload_n 2, 0, 0, []), (11, .iaload, 0, 0, []),
  (12, .if_icmp .ne 22, 34, 0, []), (15, .aload_n 0, 0, 0, []), (16, .getfield 39, 11, 13, [881]), (19, .iload_n 1, 0, 0, []),
  (20, .iaload, 0, 0, []), (21, .aload_n 0, 0, 0, []), (22, .getfield 39, 11, 13, [881]), (25, .iload_n 2, 0, 0, []),
  (26, .iaload, 0, 0, []), (27, .if_icmp .ne 7, 34, 0, []), (30, .iconst 1, 0, 0, []), (31, .goto 4, 35, 0, []),
  (34, .iconst 0, 0, 0, []), (35, .istore_n 3, 0, 0, []), (36, .iconst 0, 0, 0, []), (37, .istore 4, 0, 0, []),
  (39, .iload 4, 0, 0, []), (41, .aload_n 0, 0, 0, []), (42, .getfield 39, 11, 13, [881]), (45, .iload_n 1, 0, 0, []),
  (46, .iaload, 0, 0, []), (47, .if_icmp .ge 44, 91, 0, []), (50, .iload_n 3, 0, 0, []), (51, .ifCond .eq 40, 91, 0, []),
  (54, .aload_n 0, 0, 0, []), (55, .getfield 42, 11, 14, [882]), (58, .iconst 2, 0, 0, []), (59, .iload_n 1, 0, 0, []),
  (60, .imul, 0, 0, []), (61, .iload 4, 0, 0, []), (63, .iadd, 0, 0, []), (64, .iaload, 0, 0, []),
  (65, .aload_n 0, 0, 0, []), (66, .getfield 42, 11, 14, [882]), (69, .iconst 2, 0, 0, []), (70, .iload_n 2, 0, 0, []),
  (71, .imul, 0, 0, []), (72, .iload 4, 0, 0, []), (74, .iadd, 0, 0, []), (75, .iaload, 0, 0, []),
  (76, .if_icmp .ne 7, 83, 0, []), (79, .iconst 1, 0, 0, []), (80, .goto 4, 84, 0, []), (83, .iconst 0, 0, 0, []),
  (84, .istore_n 3, 0, 0, []), (85, .iinc 4 1, 0, 0, []), (88, .goto (-49), 39, 0, []), (91, .iload_n 3, 0, 0, []),
  (92, .ireturn, 0, 0, [])
  ]
/-- ChainDeskModel.refuse(I)I -/
def cd_r121 : List (Nat × Instr × Nat × Nat × List Nat) := [
  (0, .aload_n 0, 0, 0, []), (1, .iload_n 1, 0, 0, []), (2, .putfield 88, 11, 0, [868]), (5, .iconst 0, 0, 0, []),
  (6, .ireturn, 0, 0, [])
  ]
/-- ChainDeskModel.copyMember(II)V -/
def cd_r122 : List (Nat × Instr × Nat × Nat × List Nat) := [
  (0, .aload_n 0, 0, 0, []), (1, .getfield 24, 11, 8, [876]), (4, .iload_n 2, 0, 0, []), (5, .aload_n 0, 0, 0, []),
  (6, .getfield 24, 11, 8, [876]), (9, .iload_n 1, 0, 0, []), (10, .iaload, 0, 0, []), (11, .iastore, 0, 0, []),
  (12, .aload_n 0, 0, 0, []), (13, .getfield 27, 11, 9, [877]), (16, .iload_n 2, 0, 0, []), (17, .aload_n 0, 0, 0, []),
  (18, .getfield 27, 11, 9, [877]), (21, .iload_n 1, 0, 0, []), (22, .baload, 0, 0, []), (23, .bastore, 0, 0, []),
  (24, .aload_n 0, 0, 0, []), (25, .getfield 30, 11, 10, [878]), (28, .iload_n 2, 0, 0, []), (29, .aload_n 0, 0, 0, []),
  (30, .getfield 30, 11, 10, [878]), (33, .iload_n 1, 0, 0, []), (34, .baload, 0, 0, []), (35, .bastore, 0, 0, []),
  (36, .aload_n 0, 0, 0, []), (37, .getfield 33, 11, 11, [879]), (40, .iload_n 2, 0, 0, []), (41, .aload_n 0, 0, 0, []),
  (42, .getfield 33, 11, 11, [879]), (45, .iload_n 1, 0, 0, []), (46, .iaload, 0, 0, []), (47, .iastore, 0, 0, []),
  (48, .aload_n 0, 0, 0, []), (49, .getfield 36, 11, 12, [880]), (52, .iload_n 2, 0, 0, []), (53, .aload_n 0, 0, 0, []),
  (54, .getfield 36, 11, 12, [880]), (57, .iload_n 1, 0, 0, []), (58, .iaload, 0, 0, []), (59, .iastore, 0, 0, []),
  (60, .aload_n 0, 0, 0, []), (61, .getfield 39, 11, 13, [881]), (64, .iload_n 2, 0, 0, []), (65, .aload_n 0, 0, 0, []),
  (66, .getfield 39, 11, 13, [881]), (69, .iload_n 1, 0, 0, []), (70, .iaload, 0, 0, []), (71, .iastore, 0, 0, []),
  (72, .aload_n 0, 0, 0, []), (73, .getfield 42, 11, 14, [882]), (76, .iconst 2, 0, 0, []), (77, .iload_n 2, 0, 0, []),
  (78, .imul, 0, 0, []), (79, .aload_n 0, 0, 0, []), (80, .getfield 42, 11, 14, [882]), (83, .iconst 2, 0, 0, []),
  (84, .iload_n 1, 0, 0, []), (85, .imul, 0, 0, []), (86, .iaload, 0, 0, []), (87, .iastore, 0, 0, []),
  (88, .aload_n 0, 0, 0, []), (89, .getfield 42, 11, 14, [882]), (92, .iconst 2, 0, 0, []), (93, .iload_n 2, 0, 0, []),
  (94, .imul, 0, 0, []), (95, .iconst 1, 0, 0, []), (96, .iadd, 0, 0, []), (97, .aload_n 0, 0, 0, []),
  (98, .getfield 42, 11, 14, [882]), (101, .iconst 2, 0, 0, []), (102, .iload_n 1, 0, 0, []), (103, .imul, 0, 0, []),
  (104, .iconst 1, 0, 0, []), (105, .iadd, 0, 0, []), (106, .iaload, 0, 0, []), (107, .iastore, 0, 0, []),
  (108, .return_, 0, 0, [])
  ]
/-- ChainDeskModel.variable()I -/
def cd_r123 : List (Nat × Instr × Nat × Nat × List Nat) := [
  (0, .aload_n 0, 0, 0, []), (1, .getfield 183, 11, 15, [883]), (4, .iconst 5, 0, 0, []), (5, .if_icmp .ne 14, 19, 0, []),
  (8, .aload_n 0, 0, 0, []), (9, .iconst 0, 0, 0, []), (10, .putfield 95, 11, 2, [870]), (13, .aload_n 0, 0, 0, []),
  (14, .iconst 2, 0, 0, []), (15, .invokevirtual 176, 121, 1, [1070, 1072, 34, 69, 1073]), (18, .ireturn, 0, 0, []), (19, .aload_n 0, 0, 0, []),
  (20, .iconst 0, 0, 0, []), (21, .putfield 98, 11, 3, [871]), (24, .aload_n 0, 0, 0, []), (25, .iconst 1, 0, 0, []),
  (26, .putfield 101, 11, 4, [872]), (29, .aload_n 0, 0, 0, []), (30, .invokevirtual 153, 117, 0, [1055, 1057, 31, 69, 1058]), (33, .istore_n 1, 0, 0, []),
  (34, .aload_n 0, 0, 0, []), (35, .bipush 58, 0, 0, []), (37, .invokevirtual 138, 109, 1, [1025, 1027, 25, 69, 1028]), (40, .aload_n 0, 0, 0, []),
  (41, .getfield 101, 11, 4, [872]), (44, .ifCond .eq 10, 54, 0, []), (47, .aload_n 0, 0, 0, []), (48, .invokevirtual 142, 113, 0, [1041, 1043, 29, 69, 1044]),
  (51, .goto 4, 55, 0, []), (54, .iconst 0, 0, 0, []), (55, .istore_n 2, 0, 0, []), (56, .aload_n 0, 0, 0, []),
  (57, .aload_n 0, 0, 0, []), (58, .getfield 98, 11, 3, [871]), (61, .aload_n 0, 0, 0, []), (62, .getfield 95, 11, 2, [870]),
  (65, .if_icmp .ne 16, 81, 0, []), (68, .aload_n 0, 0, 0, []), (69, .iload_n 1, 0, 0, []), (70, .invokevirtual 186, 124, 1, [1082, 1084, 36, 69, 1085]),
  (73, .iconst (-1), 0, 0, []), (74, .if_icmp .ne 7, 81, 0, []), (77, .iconst 1, 0, 0, []), (78, .goto 4, 82, 0, []),
  (81, .iconst 0, 0, 0, []), (82, .invokevirtual 113, 107, 1, [1017, 1019, 23, 69, 1020]), (85, .aload_n 0, 0, 0, []), (86, .iconst 0, 0, 0, []),
  (87, .putfield 95, 11, 2, [870]), (90, .aload_n 0, 0, 0, []), (91, .getfield 101, 11, 4, [872]), (94, .ifCond .ne 9, 103, 0, []),
  (97, .aload_n 0, 0, 0, []), (98, .iconst 1, 0, 0, []), (99, .invokevirtual 176, 121, 1, [1070, 1072, 34, 69, 1073]), (102, .ireturn, 0, 0, []),
  (103, .aload_n 0, 0, 0, []), (104, .iconst 0, 0, 0, []), (105, .putfield 88, 11, 0, [868]), (108, .aload_n 0, 0, 0, []),
  (109, .getfield 45, 11, 16, [884]), (112, .aload_n 0, 0, 0, []), (113, .getfield 183, 11, 15, [883]), (116, .iload_n 1, 0, 0, []),
  (117, .iastore, 0, 0, []), (118, .aload_n 0, 0, 0, []), (119, .getfield 48, 11, 17, [885]), (122, .aload_n 0, 0, 0, []),
  (123, .getfield 183, 11, 15, [883]), (126, .iload_n 2, 0, 0, []), (127, .iastore, 0, 0, []), (128, .aload_n 0, 0, 0, []),
  (129, .dup, 0, 0, []), (130, .getfield 183, 11, 15, [883]), (133, .iconst 1, 0, 0, []), (134, .iadd, 0, 0, []),
  (135, .putfield 183, 11, 15, [883]), (138, .aload_n 0, 0, 0, []), (139, .getfield 183, 11, 15, [883]), (142, .ireturn, 0, 0, [])
  ]
/-- ChainDeskModel.variableOf(I)I -/
def cd_r124 : List (Nat × Instr × Nat × Nat × List Nat) := [
  (0, .iconst (-1), 0, 0, []), (1, .istore_n 2, 0, 0, []), (2, .iconst 0, 0, 0, []), (3, .istore_n 3, 0, 0, []),
  (4, .iload_n 3, 0, 0, []), (5, .aload_n 0, 0, 0, []), (6, .getfield 183, 11, 15, [883]), (9, .if_icmp .ge 25, 34, 0, []),
  (12, .aload_n 0, 0, 0, []), (13, .getfield 45, 11, 16, [884]), (16, .iload_n 3, 0, 0, []), (17, .iaload, 0, 0, []),
  (18, .iload_n 1, 0, 0, []), (19, .if_icmp .ne 7, 26, 0, []), (22, .iload_n 3, 0, 0, []), (23, .goto 4, 27, 0, []),
  (26, .iload_n 2, 0, 0, []), (27, .istore_n 2, 0, 0, []), (28, .iinc 3 1, 0, 0, []), (31, .goto (-27), 4, 0, []),
  (34, .iload_n 2, 0, 0, []), (35, .ireturn, 0, 0, [])
  ]
/-- ChainDeskModel.forget()V -/
def cd_r125 : List (Nat × Instr × Nat × Nat × List Nat) := [
  (0, .aload_n 0, 0, 0, []), (1, .iconst 0, 0, 0, []), (2, .putfield 88, 11, 0, [868]), (5, .aload_n 0, 0, 0, []),
  (6, .iconst 0, 0, 0, []), (7, .putfield 183, 11, 15, [883]), (10, .return_, 0, 0, [])
  ]
/-- ChainDeskModel.enter(I)V -/
def cd_r126 : List (Nat × Instr × Nat × Nat × List Nat) := [
  (0, .aload_n 0, 0, 0, []), (1, .iload_n 1, 0, 0, []), (2, .iconst (-1), 0, 0, []), (3, .bipush 9, 0, 0, []),
  (5, .invokestatic 91, 101, 3, [995, 996, 69, 997]), (8, .ifCond .eq 7, 15, 0, []), (11, .iconst 1, 0, 0, []), (12, .goto 4, 16, 0, []),
  (15, .iconst 0, 0, 0, []), (16, .putfield 88, 11, 0, [868]), (19, .aload_n 0, 0, 0, []), (20, .aload_n 0, 0, 0, []),
  (21, .getfield 88, 11, 0, [868]), (24, .ifCond .ne 7, 31, 0, []), (27, .iload_n 1, 0, 0, []), (28, .goto 7, 35, 0, []),
  (31, .aload_n 0, 0, 0, []), (32, .getfield 51, 11, 18, [886]), (35, .putfield 51, 11, 18, [886]), (38, .return_, 0, 0, [])
  ]
/-- ChainDeskModel.fits(II)Z -/
def cd_r127 : List (Nat × Instr × Nat × Nat × List Nat) := [
  (0, .aload_n 0, 0, 0, []), (1, .iconst 0, 0, 0, []), (2, .putfield 88, 11, 0, [868]), (5, .iload_n 1, 0, 0, []),
  (6, .iconst 0, 0, 0, []), (7, .bipush 12, 0, 0, []), (9, .invokestatic 91, 101, 3, [995, 996, 69, 997]), (12, .ifCond .ne 26, 38, 0, []),
  (15, .iload_n 2, 0, 0, []), (16, .iconst 0, 0, 0, []), (17, .bipush 12, 0, 0, []), (19, .invokestatic 91, 101, 3, [995, 996, 69, 997]),
  (22, .ifCond .ne 16, 38, 0, []), (25, .aload_n 0, 0, 0, []), (26, .iload_n 1, 0, 0, []), (27, .iload_n 2, 0, 0, []),
  (28, .invokevirtual 192, 128, 2, [1098, 1100, 37, 69, 1101]), (31, .ifCond .eq 7, 38, 0, []), (34, .iconst 1, 0, 0, []), (35, .goto 4, 39, 0, []),
  (38, .iconst 0, 0, 0, []), (39, .ireturn, 0, 0, [])
  ]
/-- ChainDeskModel.fit(II)Z -/
def cd_r128 : List (Nat × Instr × Nat × Nat × List Nat) := [
  (0, .iload_n 1, 0, 0, []), (1, .iload_n 2, 0, 0, []), (2, .if_icmp .eq 12, 14, 0, []), (5, .iload_n 1, 0, 0, []),
  (6, .ifCond .ne 12, 18, 0, []), (9, .iload_n 2, 0, 0, []), (10, .iconst 1, 0, 0, []), (11, .if_icmp .ne 7, 18, 0, []),
  (14, .iconst 1, 0, 0, []), (15, .goto 4, 19, 0, []), (18, .iconst 0, 0, 0, []), (19, .istore_n 3, 0, 0, []),
  (20, .iload_n 1, 0, 0, []), (21, .iconst 3, 0, 0, []), (22, .if_icmp .ge 7, 29, 0, []), (25, .iconst (-1), 0, 0, []),
  (26, .goto 6, 32, 0, []), (29, .iload_n 1, 0, 0, []), (30, .iconst 3, 0, 0, []), (31, .isub, 0, 0, []),
  (32, .istore 4, 0, 0, []), (34, .iload 4, 0, 0, []), (36, .iconst (-1), 0, 0, []), (37, .if_icmp .eq 32, 69, 0, []),
  (40, .iload_n 3, 0, 0, []), (41, .ifCond .ne 11, 52, 0, []), (44, .iconst 3, 0, 0, []), (45, .iload 4, 0, 0, []),
  (47, .iadd, 0, 0, []), (48, .iload_n 2, 0, 0, []), (49, .if_icmp .ne 7, 56, 0, []), (52, .iconst 1, 0, 0, []),
  (53, .goto 4, 57, 0, []), (56, .iconst 0, 0, 0, []), (57, .istore_n 3, 0, 0, []), (58, .aload_n 0, 0, 0, []),
  (59, .iload 4, 0, 0, []), (61, .invokevirtual 189, 129, 1, [1102, 1104, 38, 69, 1105]), (64, .istore 4, 0, 0, []), (66, .goto (-32), 34, 0, []),
  (69, .iload_n 3, 0, 0, []), (70, .ireturn, 0, 0, [])
  ]
/-- ChainDeskModel.aboveOf(I)I -/
def cd_r129 : List (Nat × Instr × Nat × Nat × List Nat) := [
  (0, .aload_n 0, 0, 0, []), (1, .getfield 13, 11, 5, [873]), (4, .iload_n 1, 0, 0, []), (5, .baload, 0, 0, []),
  (6, .ifCond .eq 12, 18, 0, []), (9, .aload_n 0, 0, 0, []), (10, .getfield 17, 11, 6, [874]), (13, .iload_n 1, 0, 0, []),
  (14, .iaload, 0, 0, []), (15, .goto 4, 19, 0, []), (18, .iconst (-1), 0, 0, []), (19, .ireturn, 0, 0, [])
  ]
/-- ChainDeskModel.complete(II)I -/
def cd_r130 : List (Nat × Instr × Nat × Nat × List Nat) := [
  (0, .iload_n 1, 0, 0, []), (1, .iconst 0, 0, 0, []), (2, .bipush 12, 0, 0, []), (4, .invokestatic 91, 101, 3, [995, 996, 69, 997]),
  (7, .ifCond .ne 12, 19, 0, []), (10, .iload_n 2, 0, 0, []), (11, .iconst 0, 0, 0, []), (12, .iconst 3, 0, 0, []),
  (13, .invokestatic 91, 101, 3, [995, 996, 69, 997]), (16, .ifCond .eq 9, 25, 0, []), (19, .aload_n 0, 0, 0, []), (20, .iconst 1, 0, 0, []),
  (21, .invokevirtual 176, 121, 1, [1070, 1072, 34, 69, 1073]), (24, .ireturn, 0, 0, []), (25, .aload_n 0, 0, 0, []), (26, .iconst 0, 0, 0, []),
  (27, .putfield 88, 11, 0, [868]), (30, .aload_n 0, 0, 0, []), (31, .iconst 0, 0, 0, []), (32, .putfield 207, 11, 19, [887]),
  (35, .iconst 0, 0, 0, []), (36, .istore_n 3, 0, 0, []), (37, .iload_n 3, 0, 0, []), (38, .iload_n 2, 0, 0, []),
  (39, .if_icmp .gt 33, 72, 0, []), (42, .aload_n 0, 0, 0, []), (43, .aload_n 0, 0, 0, []), (44, .getfield 207, 11, 19, [887]),
  (47, .putfield 210, 11, 24, [892]), (50, .iload_n 3, 0, 0, []), (51, .ifCond .ne 10, 61, 0, []), (54, .aload_n 0, 0, 0, []),
  (55, .invokevirtual 241, 131, 0, [1110, 1112, 39, 69, 1113]), (58, .goto 8, 66, 0, []), (61, .aload_n 0, 0, 0, []), (62, .iload_n 3, 0, 0, []),
  (63, .invokevirtual 244, 137, 1, [1134, 1136, 45, 69, 1137]), (66, .iinc 3 1, 0, 0, []), (69, .goto (-32), 37, 0, []), (72, .aload_n 0, 0, 0, []),
  (73, .iconst 0, 0, 0, []), (74, .putfield 247, 11, 27, [895]), (77, .iconst 0, 0, 0, []), (78, .istore_n 3, 0, 0, []),
  (79, .iload_n 3, 0, 0, []), (80, .aload_n 0, 0, 0, []), (81, .getfield 207, 11, 19, [887]), (84, .if_icmp .ge 37, 121, 0, []),
  (87, .aload_n 0, 0, 0, []), (88, .getfield 247, 11, 27, [895]), (91, .bipush 10, 0, 0, []), (93, .if_icmp .ge 28, 121, 0, []),
  (96, .aload_n 0, 0, 0, []), (97, .aload_n 0, 0, 0, []), (98, .getfield 58, 11, 21, [889]), (101, .iload_n 3, 0, 0, []),
  (102, .iaload, 0, 0, []), (103, .iload_n 1, 0, 0, []), (104, .invokevirtual 192, 128, 2, [1098, 1100, 37, 69, 1101]), (107, .ifCond .eq 8, 115, 0, []),
  (110, .aload_n 0, 0, 0, []), (111, .iload_n 3, 0, 0, []), (112, .invokevirtual 250, 145, 1, [1166, 1168, 53, 69, 1169]), (115, .iinc 3 1, 0, 0, []),
  (118, .goto (-39), 79, 0, []), (121, .aload_n 0, 0, 0, []), (122, .getfield 247, 11, 27, [895]), (125, .ireturn, 0, 0, [])
  ]
/-- ChainDeskModel.keepVariables()V -/
def cd_r131 : List (Nat × Instr × Nat × Nat × List Nat) := [
  (0, .iconst 0, 0, 0, []), (1, .istore_n 1, 0, 0, []), (2, .iload_n 1, 0, 0, []), (3, .aload_n 0, 0, 0, []),
  (4, .getfield 183, 11, 15, [883]), (7, .if_icmp .ge 35, 42, 0, []), (10, .aload_n 0, 0, 0, []), (11, .iconst 0, 0, 0, []),
  (12, .putfield 201, 11, 25, [893]), (15, .aload_n 0, 0, 0, []), (16, .aload_n 0, 0, 0, []), (17, .getfield 45, 11, 16, [884]),
  (20, .iload_n 1, 0, 0, []), (21, .iaload, 0, 0, []), (22, .invokevirtual 222, 132, 1, [1114, 1116, 40, 69, 1117]), (25, .aload_n 0, 0, 0, []),
  (26, .iconst 0, 0, 0, []), (27, .aload_n 0, 0, 0, []), (28, .getfield 48, 11, 17, [885]), (31, .iload_n 1, 0, 0, []),
  (32, .iaload, 0, 0, []), (33, .invokevirtual 232, 134, 2, [1122, 1124, 42, 69, 1125]), (36, .iinc 1 1, 0, 0, []), (39, .goto (-37), 2, 0, []),
  (42, .return_, 0, 0, [])
  ]
/-- ChainDeskModel.writeName(I)V -/
def cd_r132 : List (Nat × Instr × Nat × Nat × List Nat) := [
  (0, .iconst 1, 0, 0, []), (1, .istore_n 2, 0, 0, []), (2, .iload_n 2, 0, 0, []), (3, .iload_n 1, 0, 0, []),
  (4, .bipush 27, 0, 0, []), (6, .idiv, 0, 0, []), (7, .if_icmp .gt 11, 18, 0, []), (10, .iload_n 2, 0, 0, []),
  (11, .bipush 27, 0, 0, []), (13, .imul, 0, 0, []), (14, .istore_n 2, 0, 0, []), (15, .goto (-13), 2, 0, []),
  (18, .iload_n 2, 0, 0, []), (19, .istore_n 3, 0, 0, []), (20, .iload_n 3, 0, 0, []), (21, .ifCond .le 25, 46, 0, []),
  (24, .aload_n 0, 0, 0, []), (25, .bipush 96, 0, 0, []), (27, .iload_n 1, 0, 0, []), (28, .iload_n 3, 0, 0, []),
  (29, .idiv, 0, 0, []), (30, .bipush 27, 0, 0, []), (32, .irem, 0, 0, []), (33, .iadd, 0, 0, []),
  (34, .i2c, 0, 0, []), (35, .invokevirtual 204, 133, 1, [1118, 1120, 41, 69, 1121]), (38, .iload_n 3, 0, 0, []), (39, .bipush 27, 0, 0, []),
  (41, .idiv, 0, 0, []), (42, .istore_n 3, 0, 0, []), (43, .goto (-23), 20, 0, []), (46, .return_, 0, 0, [])
  ]
/-- ChainDeskModel.write(C)V -/
def cd_r133 : List (Nat × Instr × Nat × Nat × List Nat) := [
  (0, .aload_n 0, 0, 0, []), (1, .getfield 201, 11, 25, [893]), (4, .sipush 200, 0, 0, []), (7, .if_icmp .ge 13, 20, 0, []),
  (10, .aload_n 0, 0, 0, []), (11, .getfield 67, 11, 26, [894]), (14, .aload_n 0, 0, 0, []), (15, .getfield 201, 11, 25, [893]),
  (18, .iload_n 1, 0, 0, []), (19, .castore, 0, 0, []), (20, .aload_n 0, 0, 0, []), (21, .dup, 0, 0, []),
  (22, .getfield 201, 11, 25, [893]), (25, .iconst 1, 0, 0, []), (26, .iadd, 0, 0, []), (27, .putfield 201, 11, 25, [893]),
  (30, .return_, 0, 0, [])
  ]
/-- ChainDeskModel.keep(II)V -/
def cd_r134 : List (Nat × Instr × Nat × Nat × List Nat) := [
  (0, .aload_n 0, 0, 0, []), (1, .getfield 201, 11, 25, [893]), (4, .bipush 24, 0, 0, []), (6, .if_icmp .le 4, 10, 0, []),
  (9, .return_, 0, 0, []), (10, .aload_n 0, 0, 0, []), (11, .getfield 207, 11, 19, [887]), (14, .istore_n 3, 0, 0, []),
  (15, .iload_n 3, 0, 0, []), (16, .aload_n 0, 0, 0, []), (17, .getfield 210, 11, 24, [892]), (20, .if_icmp .le 19, 39, 0, []),
  (23, .aload_n 0, 0, 0, []), (24, .iload_n 3, 0, 0, []), (25, .iconst 1, 0, 0, []), (26, .isub, 0, 0, []),
  (27, .invokevirtual 213, 135, 1, [1126, 1128, 43, 69, 1129]), (30, .ifCond .eq 9, 39, 0, []), (33, .iinc 3 (-1), 0, 0, []), (36, .goto (-21), 15, 0, []),
  (39, .iload_n 3, 0, 0, []), (40, .aload_n 0, 0, 0, []), (41, .getfield 210, 11, 24, [892]), (44, .isub, 0, 0, []),
  (45, .bipush 7, 0, 0, []), (47, .if_icmp .le 4, 51, 0, []), (50, .return_, 0, 0, []), (51, .aload_n 0, 0, 0, []),
  (52, .getfield 207, 11, 19, [887]), (55, .istore 4, 0, 0, []), (57, .iload 4, 0, 0, []), (59, .iload_n 3, 0, 0, []),
  (60, .if_icmp .le 19, 79, 0, []), (63, .aload_n 0, 0, 0, []), (64, .iload 4, 0, 0, []), (66, .iconst 1, 0, 0, []),
  (67, .isub, 0, 0, []), (68, .iload 4, 0, 0, []), (70, .invokevirtual 216, 136, 2, [1130, 1132, 44, 69, 1133]), (73, .iinc 4 (-1), 0, 0, []),
  (76, .goto (-19), 57, 0, []), (79, .aload_n 0, 0, 0, []), (80, .getfield 55, 11, 20, [888]), (83, .iload_n 3, 0, 0, []),
  (84, .iload_n 1, 0, 0, []), (85, .iastore, 0, 0, []), (86, .aload_n 0, 0, 0, []), (87, .getfield 58, 11, 21, [889]),
  (90, .iload_n 3, 0, 0, []), (91, .iload_n 2, 0, 0, []), (92, .iastore, 0, 0, []), (93, .aload_n 0, 0, 0, []),
  (94, .getfield 61, 11, 22, [890]), (97, .iload_n 3, 0, 0, []), (98, .aload_n 0, 0, 0, []), (99, .getfield 201, 11, 25, [893]),
  (102, .iastore, 0, 0, []), (103, .iconst 0, 0, 0, []), (104, .istore 4, 0, 0, []), (106, .iload 4, 0, 0, []),
  (108, .aload_n 0, 0, 0, []), (109, .getfield 201, 11, 25, [893]), (112, .if_icmp .ge 28, 140, 0, []), (115, .aload_n 0, 0, 0, []),
  (116, .getfield 64, 11, 23, [891]), (119, .bipush 24, 0, 0, []), (121, .iload_n 3, 0, 0, []), (122, .imul, 0, 0, []),
  (123, .iload 4, 0, 0, []), (125, .iadd, 0, 0, []), (126, .aload_n 0, 0, 0, []), (127, .getfield 67, 11, 26, [894]),
  (130, .iload 4, 0, 0, []), (132, .caload, 0, 0, []), (133, .castore, 0, 0, []), (134, .iinc 4 1, 0, 0, []),
  (137, .goto (-31), 106, 0, []), (140, .aload_n 0, 0, 0, []), (141, .aload_n 0, 0, 0, []), (142, .getfield 207, 11, 19, [887]),
  (145, .aload_n 0, 0, 0, []), (146, .getfield 210, 11, 24, [892]), (149, .isub, 0, 0, []), (150, .bipush 8, 0, 0, []),
  (152, .if_icmp .ge 12, 164, 0, []), (155, .aload_n 0, 0, 0, []), (156, .getfield 207, 11, 19, [887]), (159, .iconst 1, 0, 0, []),
  (160, .iadd, 0, 0, []), (161, .goto 7, 168, 0, []), (164, .aload_n 0, 0, 0, []), (165, .getfield 207, 11, 19, [887]),
  (168, .putfield 207, 11, 19, [887]), (171, .return_, 0, 0, [])
  ]
/-- ChainDeskModel.before(I)Z -/
def cd_r135 : List (Nat × Instr × Nat × Nat × List Nat) := [
  (0, .iconst 0, 0, 0, []), (1, .istore_n 2, 0, 0, []), (2, .iload_n 2, 0, 0, []), (3, .aload_n 0, 0, 0, []),
  (4, .getfield 201, 11, 25, [893]), (7, .if_icmp .ge 65, 72, 0, []), (10, .iload_n 2, 0, 0, []), (11, .aload_n 0, 0, 0, []),
  (12, .getfield 61, 11, 22, [890]), (15, .iload_n 1, 0, 0, []), (16, .iaload, 0, 0, []), (17, .if_icmp .ge 55, 72, 0, []),
  (20, .aload_n 0, 0, 0, []), (21, .getfield 67, 11, 26, [894]), (24, .iload_n 2, 0, 0, []), (25, .caload, 0, 0, []),
  (26, .aload_n 0, 0, 0, []), (27, .getfield 64, 11, 23, [891]), (30, .bipush 24, 0, 0, []), (32, .iload_n 1, 0, 0, []),
  (33, .imul, 0, 0, []), (34, .iload_n 2, 0, 0, []), (35, .iadd, 0, 0, []), (36, .caload, 0, 0, []),
  (37, .if_icmp .eq 29, 66, 0, []), (40, .aload_n 0, 0, 0, []), (41, .getfield 67, 11, 26, [894]), (44, .iload_n 2, 0, 0, []),
  (45, .caload, 0, 0, []), (46, .aload_n 0, 0, 0, []), (47, .getfield 64, 11, 23, [891]), (50, .bipush 24, 0, 0, []),
  (52, .iload_n 1, 0, 0, []), (53, .imul, 0, 0, []), (54, .iload_n 2, 0, 0, []), (55, .iadd, 0, 0, []),
  (56, .caload, 0, 0, []), (57, .if_icmp .ge 7, 64, 0, []), (60, .iconst 1, 0, 0, []), (61, .goto 4, 65, 0, []),
  (64, .iconst 0, 0, 0, []), (65, .ireturn, 0, 0, []), (66, .iinc 2 1, 0, 0, []), (69, .goto (-67), 2, 0, []),
  (72, .aload_n 0, 0, 0, []), (73, .getfield 201, 11, 25, [893]), (76, .aload_n 0, 0, 0, []), (77, .getfield 61, 11, 22, [890]),
  (80, .iload_n 1, 0, 0, []), (81, .iaload, 0, 0, []), (82, .if_icmp .ge 7, 89, 0, []), (85, .iconst 1, 0, 0, []),
  (86, .goto 4, 90, 0, []), (89, .iconst 0, 0, 0, []), (90, .ireturn, 0, 0, [])
  ]
/-- ChainDeskModel.copyKept(II)V -/
def cd_r136 : List (Nat × Instr × Nat × Nat × List Nat) := [
  (0, .aload_n 0, 0, 0, []), (1, .getfield 55, 11, 20, [888]), (4, .iload_n 2, 0, 0, []), (5, .aload_n 0, 0, 0, []),
  (6, .getfield 55, 11, 20, [888]), (9, .iload_n 1, 0, 0, []), (10, .iaload, 0, 0, []), (11, .iastore, 0, 0, []),
  (12, .aload_n 0, 0, 0, []), (13, .getfield 58, 11, 21, [889]), (16, .iload_n 2, 0, 0, []), (17, .aload_n 0, 0, 0, []),
  (18, .getfield 58, 11, 21, [889]), (21, .iload_n 1, 0, 0, []), (22, .iaload, 0, 0, []), (23, .iastore, 0, 0, []),
  (24, .aload_n 0, 0, 0, []), (25, .getfield 61, 11, 22, [890]), (28, .iload_n 2, 0, 0, []), (29, .aload_n 0, 0, 0, []),
  (30, .getfield 61, 11, 22, [890]), (33, .iload_n 1, 0, 0, []), (34, .iaload, 0, 0, []), (35, .iastore, 0, 0, []),
  (36, .iconst 0, 0, 0, []), (37, .istore_n 3, 0, 0, []), (38, .iload_n 3, 0, 0, []), (39, .bipush 24, 0, 0, []),
  (41, .if_icmp .ge 31, 72, 0, []), (44, .aload_n 0, 0, 0, []), (45, .getfield 64, 11, 23, [891]), (48, .bipush 24, 0, 0, []),
  (50, .iload_n 2, 0, 0, []), (51, .imul, 0, 0, []), (52, .iload_n 3, 0, 0, []), (53, .iadd, 0, 0, []),
  (54, .aload_n 0, 0, 0, []), (55, .getfield 64, 11, 23, [891]), (58, .bipush 24, 0, 0, []), (60, .iload_n 1, 0, 0, []),
  (61, .imul, 0, 0, []), (62, .iload_n 3, 0, 0, []), (63, .iadd, 0, 0, []), (64, .caload, 0, 0, []),
  (65, .castore, 0, 0, []), (66, .iinc 3 1, 0, 0, []), (69, .goto (-31), 38, 0, []), (72, .return_, 0, 0, [])
  ]
/-- ChainDeskModel.keepCost(I)V -/
def cd_r137 : List (Nat × Instr × Nat × Nat × List Nat) := [
  (0, .aload_n 0, 0, 0, []), (1, .getfield 207, 11, 19, [887]), (4, .istore_n 2, 0, 0, []), (5, .iconst 0, 0, 0, []),
  (6, .istore_n 3, 0, 0, []), (7, .iload_n 3, 0, 0, []), (8, .bipush 60, 0, 0, []), (10, .if_icmp .ge 129, 139, 0, []),
  (13, .aload_n 0, 0, 0, []), (14, .getfield 13, 11, 5, [873]), (17, .iload_n 3, 0, 0, []), (18, .bipush 6, 0, 0, []),
  (20, .idiv, 0, 0, []), (21, .baload, 0, 0, []), (22, .ifCond .eq 23, 45, 0, []), (25, .iload_n 3, 0, 0, []),
  (26, .bipush 6, 0, 0, []), (28, .irem, 0, 0, []), (29, .aload_n 0, 0, 0, []), (30, .getfield 21, 11, 7, [875]),
  (33, .iload_n 3, 0, 0, []), (34, .bipush 6, 0, 0, []), (36, .idiv, 0, 0, []), (37, .iaload, 0, 0, []),
  (38, .if_icmp .ge 7, 45, 0, []), (41, .iconst 1, 0, 0, []), (42, .goto 4, 46, 0, []), (45, .iconst 0, 0, 0, []),
  (46, .istore 4, 0, 0, []), (48, .iload 4, 0, 0, []), (50, .ifCond .eq 28, 78, 0, []), (53, .aload_n 0, 0, 0, []),
  (54, .getfield 27, 11, 9, [877]), (57, .iload_n 3, 0, 0, []), (58, .baload, 0, 0, []), (59, .ifCond .eq 19, 78, 0, []),
  (62, .aload_n 0, 0, 0, []), (63, .iload_n 3, 0, 0, []), (64, .invokevirtual 195, 138, 1, [1138, 1140, 46, 69, 1141]), (67, .ifCond .eq 11, 78, 0, []),
  (70, .aload_n 0, 0, 0, []), (71, .iload_n 3, 0, 0, []), (72, .iconst (-1), 0, 0, []), (73, .iload_n 1, 0, 0, []),
  (74, .iload_n 2, 0, 0, []), (75, .invokevirtual 235, 139, 4, [1142, 1144, 47, 69, 1145]), (78, .iconst 0, 0, 0, []), (79, .istore 5, 0, 0, []),
  (81, .iload 5, 0, 0, []), (83, .iload_n 2, 0, 0, []), (84, .if_icmp .ge 49, 133, 0, []), (87, .iload 4, 0, 0, []),
  (89, .ifCond .eq 44, 133, 0, []), (92, .aload_n 0, 0, 0, []), (93, .getfield 55, 11, 20, [888]), (96, .iload 5, 0, 0, []),
  (98, .iaload, 0, 0, []), (99, .iload_n 1, 0, 0, []), (100, .if_icmp .ge 27, 127, 0, []), (103, .aload_n 0, 0, 0, []),
  (104, .aload_n 0, 0, 0, []), (105, .getfield 58, 11, 21, [889]), (108, .iload 5, 0, 0, []), (110, .iaload, 0, 0, []),
  (111, .iload_n 3, 0, 0, []), (112, .invokevirtual 238, 143, 2, [1158, 1160, 51, 69, 1161]), (115, .ifCond .eq 12, 127, 0, []), (118, .aload_n 0, 0, 0, []),
  (119, .iload_n 3, 0, 0, []), (120, .iload 5, 0, 0, []), (122, .iload_n 1, 0, 0, []), (123, .iload_n 2, 0, 0, []),
  (124, .invokevirtual 235, 139, 4, [1142, 1144, 47, 69, 1145]), (127, .iinc 5 1, 0, 0, []), (130, .goto (-49), 81, 0, []), (133, .iinc 3 1, 0, 0, []),
  (136, .goto (-129), 7, 0, []), (139, .return_, 0, 0, [])
  ]
/-- ChainDeskModel.usable(I)Z -/
def cd_r138 : List (Nat × Instr × Nat × Nat × List Nat) := [
  (0, .aload_n 0, 0, 0, []), (1, .getfield 30, 11, 10, [878]), (4, .iload_n 1, 0, 0, []), (5, .baload, 0, 0, []),
  (6, .ifCond .eq 14, 20, 0, []), (9, .aload_n 0, 0, 0, []), (10, .getfield 51, 11, 18, [886]), (13, .iload_n 1, 0, 0, []),
  (14, .bipush 6, 0, 0, []), (16, .idiv, 0, 0, []), (17, .if_icmp .ne 7, 24, 0, []), (20, .iconst 1, 0, 0, []),
  (21, .goto 4, 25, 0, []), (24, .iconst 0, 0, 0, []), (25, .ireturn, 0, 0, [])
  ]
/-- ChainDeskModel.offer(IIII)V -/
def cd_r139 : List (Nat × Instr × Nat × Nat × List Nat) := [
  (0, .iload_n 3, 0, 0, []), (1, .iconst 1, 0, 0, []), (2, .isub, 0, 0, []), (3, .aload_n 0, 0, 0, []),
  (4, .iload_n 2, 0, 0, []), (5, .invokevirtual 225, 140, 1, [1146, 1148, 48, 69, 1149]), (8, .isub, 0, 0, []), (9, .istore 5, 0, 0, []),
  (11, .aload_n 0, 0, 0, []), (12, .getfield 39, 11, 13, [881]), (15, .iload_n 1, 0, 0, []), (16, .iaload, 0, 0, []),
  (17, .ifCond .le 8, 25, 0, []), (20, .iload 4, 0, 0, []), (22, .goto 4, 26, 0, []), (25, .iconst 1, 0, 0, []),
  (26, .istore 6, 0, 0, []), (28, .aload_n 0, 0, 0, []), (29, .getfield 39, 11, 13, [881]), (32, .iload_n 1, 0, 0, []),
  (33, .iaload, 0, 0, []), (34, .iconst 1, 0, 0, []), (35, .if_icmp .le 8, 43, 0, []), (38, .iload 4, 0, 0, []),
  (40, .goto 4, 44, 0, []), (43, .iconst 1, 0, 0, []), (44, .istore 7, 0, 0, []), (46, .iconst 0, 0, 0, []),
  (47, .istore 8, 0, 0, []), (49, .iload 8, 0, 0, []), (51, .iload 6, 0, 0, []), (53, .if_icmp .ge 172, 225, 0, []),
  (56, .aload_n 0, 0, 0, []), (57, .getfield 39, 11, 13, [881]), (60, .iload_n 1, 0, 0, []), (61, .iaload, 0, 0, []),
  (62, .ifCond .le 8, 70, 0, []), (65, .iload 8, 0, 0, []), (67, .goto 4, 71, 0, []), (70, .iconst (-1), 0, 0, []),
  (71, .istore 9, 0, 0, []), (73, .iload 9, 0, 0, []), (75, .iconst (-1), 0, 0, []), (76, .if_icmp .eq 25, 101, 0, []),
  (79, .aload_n 0, 0, 0, []), (80, .aload_n 0, 0, 0, []), (81, .getfield 58, 11, 21, [889]), (84, .iload 9, 0, 0, []),
  (86, .iaload, 0, 0, []), (87, .aload_n 0, 0, 0, []), (88, .getfield 42, 11, 14, [882]), (91, .iconst 2, 0, 0, []),
  (92, .iload_n 1, 0, 0, []), (93, .imul, 0, 0, []), (94, .iaload, 0, 0, []), (95, .invokevirtual 192, 128, 2, [1098, 1100, 37, 69, 1101]),
  (98, .ifCond .eq 7, 105, 0, []), (101, .iconst 1, 0, 0, []), (102, .goto 4, 106, 0, []), (105, .iconst 0, 0, 0, []),
  (106, .istore 10, 0, 0, []), (108, .iconst 0, 0, 0, []), (109, .istore 11, 0, 0, []), (111, .iload 11, 0, 0, []),
  (113, .iload 7, 0, 0, []), (115, .if_icmp .ge 104, 219, 0, []), (118, .iload 10, 0, 0, []), (120, .ifCond .eq 99, 219, 0, []),
  (123, .aload_n 0, 0, 0, []), (124, .getfield 39, 11, 13, [881]), (127, .iload_n 1, 0, 0, []), (128, .iaload, 0, 0, []),
  (129, .iconst 1, 0, 0, []), (130, .if_icmp .le 8, 138, 0, []), (133, .iload 11, 0, 0, []), (135, .goto 4, 139, 0, []),
  (138, .iconst (-1), 0, 0, []), (139, .istore 12, 0, 0, []), (141, .aload_n 0, 0, 0, []), (142, .iload 9, 0, 0, []),
  (144, .invokevirtual 225, 140, 1, [1146, 1148, 48, 69, 1149]), (147, .aload_n 0, 0, 0, []), (148, .iload 12, 0, 0, []), (150, .invokevirtual 225, 140, 1, [1146, 1148, 48, 69, 1149]),
  (153, .iadd, 0, 0, []), (154, .iload 5, 0, 0, []), (156, .if_icmp .ne 57, 213, 0, []), (159, .iload 12, 0, 0, []),
  (161, .iconst (-1), 0, 0, []), (162, .if_icmp .eq 30, 192, 0, []), (165, .aload_n 0, 0, 0, []), (166, .aload_n 0, 0, 0, []),
  (167, .getfield 58, 11, 21, [889]), (170, .iload 12, 0, 0, []), (172, .iaload, 0, 0, []), (173, .aload_n 0, 0, 0, []),
  (174, .getfield 42, 11, 14, [882]), (177, .iconst 2, 0, 0, []), (178, .iload_n 1, 0, 0, []), (179, .imul, 0, 0, []),
  (180, .iconst 1, 0, 0, []), (181, .iadd, 0, 0, []), (182, .iaload, 0, 0, []), (183, .invokevirtual 192, 128, 2, [1098, 1100, 37, 69, 1101]),
  (186, .ifCond .ne 6, 192, 0, []), (189, .goto 24, 213, 0, []), (192, .aload_n 0, 0, 0, []), (193, .iload_n 1, 0, 0, []),
  (194, .iload_n 2, 0, 0, []), (195, .iload 9, 0, 0, []), (197, .iload 12, 0, 0, []), (199, .invokevirtual 228, 141, 4, [1150, 1152, 49, 69, 1153]),
  (202, .aload_n 0, 0, 0, []), (203, .iload_n 3, 0, 0, []), (204, .aload_n 0, 0, 0, []), (205, .getfield 36, 11, 12, [880]),
  (208, .iload_n 1, 0, 0, []), (209, .iaload, 0, 0, []), (210, .invokevirtual 232, 134, 2, [1122, 1124, 42, 69, 1125]), (213, .iinc 11 1, 0, 0, []),
  (216, .goto (-105), 111, 0, []), (219, .iinc 8 1, 0, 0, []), (222, .goto (-173), 49, 0, []), (225, .return_, 0, 0, [])
  ]
/-- ChainDeskModel.costOf(I)I -/
def cd_r140 : List (Nat × Instr × Nat × Nat × List Nat) := [
  (0, .iload_n 1, 0, 0, []), (1, .iconst (-1), 0, 0, []), (2, .if_icmp .ne 7, 9, 0, []), (5, .iconst 0, 0, 0, []),
  (6, .goto 9, 15, 0, []), (9, .aload_n 0, 0, 0, []), (10, .getfield 55, 11, 20, [888]), (13, .iload_n 1, 0, 0, []),
  (14, .iaload, 0, 0, []), (15, .ireturn, 0, 0, [])
  ]
/-- ChainDeskModel.make(IIII)V -/
def cd_r141 : List (Nat × Instr × Nat × Nat × List Nat) := [
  (0, .aload_n 0, 0, 0, []), (1, .iconst 0, 0, 0, []), (2, .putfield 201, 11, 25, [893]), (5, .aload_n 0, 0, 0, []),
  (6, .getfield 24, 11, 8, [876]), (9, .iload_n 1, 0, 0, []), (10, .iaload, 0, 0, []), (11, .iconst 2, 0, 0, []),
  (12, .if_icmp .ne 27, 39, 0, []), (15, .aload_n 0, 0, 0, []), (16, .bipush 110, 0, 0, []), (18, .invokevirtual 204, 133, 1, [1118, 1120, 41, 69, 1121]),
  (21, .aload_n 0, 0, 0, []), (22, .bipush 101, 0, 0, []), (24, .invokevirtual 204, 133, 1, [1118, 1120, 41, 69, 1121]), (27, .aload_n 0, 0, 0, []),
  (28, .bipush 119, 0, 0, []), (30, .invokevirtual 204, 133, 1, [1118, 1120, 41, 69, 1121]), (33, .aload_n 0, 0, 0, []), (34, .bipush 32, 0, 0, []),
  (36, .invokevirtual 204, 133, 1, [1118, 1120, 41, 69, 1121]), (39, .iload_n 2, 0, 0, []), (40, .iconst (-1), 0, 0, []), (41, .if_icmp .ne 18, 59, 0, []),
  (44, .aload_n 0, 0, 0, []), (45, .bipush 65, 0, 0, []), (47, .iload_n 1, 0, 0, []), (48, .bipush 6, 0, 0, []),
  (50, .idiv, 0, 0, []), (51, .iadd, 0, 0, []), (52, .i2c, 0, 0, []), (53, .invokevirtual 204, 133, 1, [1118, 1120, 41, 69, 1121]),
  (56, .goto 8, 64, 0, []), (59, .aload_n 0, 0, 0, []), (60, .iload_n 2, 0, 0, []), (61, .invokevirtual 219, 142, 1, [1154, 1156, 50, 69, 1157]),
  (64, .aload_n 0, 0, 0, []), (65, .getfield 24, 11, 8, [876]), (68, .iload_n 1, 0, 0, []), (69, .iaload, 0, 0, []),
  (70, .iconst 2, 0, 0, []), (71, .if_icmp .eq 19, 90, 0, []), (74, .aload_n 0, 0, 0, []), (75, .bipush 46, 0, 0, []),
  (77, .invokevirtual 204, 133, 1, [1118, 1120, 41, 69, 1121]), (80, .aload_n 0, 0, 0, []), (81, .aload_n 0, 0, 0, []), (82, .getfield 33, 11, 11, [879]),
  (85, .iload_n 1, 0, 0, []), (86, .iaload, 0, 0, []), (87, .invokevirtual 222, 132, 1, [1114, 1116, 40, 69, 1117]), (90, .aload_n 0, 0, 0, []),
  (91, .getfield 24, 11, 8, [876]), (94, .iload_n 1, 0, 0, []), (95, .iaload, 0, 0, []), (96, .ifCond .ne 4, 100, 0, []),
  (99, .return_, 0, 0, []), (100, .aload_n 0, 0, 0, []), (101, .bipush 40, 0, 0, []), (103, .invokevirtual 204, 133, 1, [1118, 1120, 41, 69, 1121]),
  (106, .iload_n 3, 0, 0, []), (107, .iconst (-1), 0, 0, []), (108, .if_icmp .eq 8, 116, 0, []), (111, .aload_n 0, 0, 0, []),
  (112, .iload_n 3, 0, 0, []), (113, .invokevirtual 219, 142, 1, [1154, 1156, 50, 69, 1157]), (116, .iload 4, 0, 0, []), (118, .iconst (-1), 0, 0, []),
  (119, .if_icmp .eq 15, 134, 0, []), (122, .aload_n 0, 0, 0, []), (123, .bipush 44, 0, 0, []), (125, .invokevirtual 204, 133, 1, [1118, 1120, 41, 69, 1121]),
  (128, .aload_n 0, 0, 0, []), (129, .iload 4, 0, 0, []), (131, .invokevirtual 219, 142, 1, [1154, 1156, 50, 69, 1157]), (134, .aload_n 0, 0, 0, []),
  (135, .bipush 41, 0, 0, []), (137, .invokevirtual 204, 133, 1, [1118, 1120, 41, 69, 1121]), (140, .return_, 0, 0, [])
  ]
/-- ChainDeskModel.writeKept(I)V -/
def cd_r142 : List (Nat × Instr × Nat × Nat × List Nat) := [
  (0, .iconst 0, 0, 0, []), (1, .istore_n 2, 0, 0, []), (2, .iload_n 2, 0, 0, []), (3, .aload_n 0, 0, 0, []),
  (4, .getfield 61, 11, 22, [890]), (7, .iload_n 1, 0, 0, []), (8, .iaload, 0, 0, []), (9, .if_icmp .ge 24, 33, 0, []),
  (12, .aload_n 0, 0, 0, []), (13, .aload_n 0, 0, 0, []), (14, .getfield 64, 11, 23, [891]), (17, .bipush 24, 0, 0, []),
  (19, .iload_n 1, 0, 0, []), (20, .imul, 0, 0, []), (21, .iload_n 2, 0, 0, []), (22, .iadd, 0, 0, []),
  (23, .caload, 0, 0, []), (24, .invokevirtual 204, 133, 1, [1118, 1120, 41, 69, 1121]), (27, .iinc 2 1, 0, 0, []), (30, .goto (-28), 2, 0, []),
  (33, .return_, 0, 0, [])
  ]
/-- ChainDeskModel.sees(II)Z -/
def cd_r143 : List (Nat × Instr × Nat × Nat × List Nat) := [
  (0, .iload_n 1, 0, 0, []), (1, .iconst 3, 0, 0, []), (2, .if_icmp .lt 11, 13, 0, []), (5, .aload_n 0, 0, 0, []),
  (6, .iload_n 2, 0, 0, []), (7, .invokevirtual 198, 144, 1, [1162, 1164, 52, 69, 1165]), (10, .ifCond .ne 5, 15, 0, []), (13, .iconst 0, 0, 0, []),
  (14, .ireturn, 0, 0, []), (15, .iload_n 1, 0, 0, []), (16, .iconst 3, 0, 0, []), (17, .isub, 0, 0, []),
  (18, .istore_n 3, 0, 0, []), (19, .iload_n 3, 0, 0, []), (20, .iconst (-1), 0, 0, []), (21, .if_icmp .eq 103, 124, 0, []),
  (24, .aload_n 0, 0, 0, []), (25, .getfield 13, 11, 5, [873]), (28, .iload_n 3, 0, 0, []), (29, .baload, 0, 0, []),
  (30, .ifCond .eq 94, 124, 0, []), (33, .iload_n 2, 0, 0, []), (34, .bipush 6, 0, 0, []), (36, .idiv, 0, 0, []),
  (37, .iload_n 3, 0, 0, []), (38, .if_icmp .ne 5, 43, 0, []), (41, .iconst 1, 0, 0, []), (42, .ireturn, 0, 0, []),
  (43, .bipush 6, 0, 0, []), (45, .iload_n 3, 0, 0, []), (46, .imul, 0, 0, []), (47, .istore 4, 0, 0, []),
  (49, .iload 4, 0, 0, []), (51, .bipush 6, 0, 0, []), (53, .iload_n 3, 0, 0, []), (54, .imul, 0, 0, []),
  (55, .aload_n 0, 0, 0, []), (56, .getfield 21, 11, 7, [875]), (59, .iload_n 3, 0, 0, []), (60, .iaload, 0, 0, []),
  (61, .iadd, 0, 0, []), (62, .if_icmp .ge 52, 114, 0, []), (65, .aload_n 0, 0, 0, []), (66, .iload 4, 0, 0, []),
  (68, .invokevirtual 198, 144, 1, [1162, 1164, 52, 69, 1165]), (71, .ifCond .eq 37, 108, 0, []), (74, .aload_n 0, 0, 0, []), (75, .getfield 24, 11, 8, [876]),
  (78, .iload 4, 0, 0, []), (80, .iaload, 0, 0, []), (81, .aload_n 0, 0, 0, []), (82, .getfield 24, 11, 8, [876]),
  (85, .iload_n 2, 0, 0, []), (86, .iaload, 0, 0, []), (87, .if_icmp .ne 21, 108, 0, []), (90, .aload_n 0, 0, 0, []),
  (91, .getfield 33, 11, 11, [879]), (94, .iload 4, 0, 0, []), (96, .iaload, 0, 0, []), (97, .aload_n 0, 0, 0, []),
  (98, .getfield 33, 11, 11, [879]), (101, .iload_n 2, 0, 0, []), (102, .iaload, 0, 0, []), (103, .if_icmp .ne 5, 108, 0, []),
  (106, .iconst 0, 0, 0, []), (107, .ireturn, 0, 0, []), (108, .iinc 4 1, 0, 0, []), (111, .goto (-62), 49, 0, []),
  (114, .aload_n 0, 0, 0, []), (115, .getfield 17, 11, 6, [874]), (118, .iload_n 3, 0, 0, []), (119, .iaload, 0, 0, []),
  (120, .istore_n 3, 0, 0, []), (121, .goto (-102), 19, 0, []), (124, .iconst 0, 0, 0, []), (125, .ireturn, 0, 0, [])
  ]
/-- ChainDeskModel.behind(I)Z -/
def cd_r144 : List (Nat × Instr × Nat × Nat × List Nat) := [
  (0, .aload_n 0, 0, 0, []), (1, .getfield 24, 11, 8, [876]), (4, .iload_n 1, 0, 0, []), (5, .iaload, 0, 0, []),
  (6, .iconst 2, 0, 0, []), (7, .if_icmp .eq 24, 31, 0, []), (10, .aload_n 0, 0, 0, []), (11, .getfield 27, 11, 9, [877]),
  (14, .iload_n 1, 0, 0, []), (15, .baload, 0, 0, []), (16, .ifCond .ne 15, 31, 0, []), (19, .aload_n 0, 0, 0, []),
  (20, .iload_n 1, 0, 0, []), (21, .invokevirtual 195, 138, 1, [1138, 1140, 46, 69, 1141]), (24, .ifCond .eq 7, 31, 0, []), (27, .iconst 1, 0, 0, []),
  (28, .goto 4, 32, 0, []), (31, .iconst 0, 0, 0, []), (32, .ireturn, 0, 0, [])
  ]
/-- ChainDeskModel.propose(I)V -/
def cd_r145 : List (Nat × Instr × Nat × Nat × List Nat) := [
  (0, .aload_n 0, 0, 0, []), (1, .getfield 70, 11, 28, [896]), (4, .aload_n 0, 0, 0, []), (5, .getfield 247, 11, 27, [895]),
  (8, .aload_n 0, 0, 0, []), (9, .getfield 55, 11, 20, [888]), (12, .iload_n 1, 0, 0, []), (13, .iaload, 0, 0, []),
  (14, .iastore, 0, 0, []), (15, .aload_n 0, 0, 0, []), (16, .getfield 73, 11, 29, [897]), (19, .aload_n 0, 0, 0, []),
  (20, .getfield 247, 11, 27, [895]), (23, .aload_n 0, 0, 0, []), (24, .getfield 58, 11, 21, [889]), (27, .iload_n 1, 0, 0, []),
  (28, .iaload, 0, 0, []), (29, .iastore, 0, 0, []), (30, .aload_n 0, 0, 0, []), (31, .getfield 76, 11, 30, [898]),
  (34, .aload_n 0, 0, 0, []), (35, .getfield 247, 11, 27, [895]), (38, .aload_n 0, 0, 0, []), (39, .getfield 61, 11, 22, [890]),
  (42, .iload_n 1, 0, 0, []), (43, .iaload, 0, 0, []), (44, .iastore, 0, 0, []), (45, .iconst 0, 0, 0, []),
  (46, .istore_n 2, 0, 0, []), (47, .iload_n 2, 0, 0, []), (48, .bipush 24, 0, 0, []), (50, .if_icmp .ge 34, 84, 0, []),
  (53, .aload_n 0, 0, 0, []), (54, .getfield 79, 11, 31, [899]), (57, .bipush 24, 0, 0, []), (59, .aload_n 0, 0, 0, []),
  (60, .getfield 247, 11, 27, [895]), (63, .imul, 0, 0, []), (64, .iload_n 2, 0, 0, []), (65, .iadd, 0, 0, []),
  (66, .aload_n 0, 0, 0, []), (67, .getfield 64, 11, 23, [891]), (70, .bipush 24, 0, 0, []), (72, .iload_n 1, 0, 0, []),
  (73, .imul, 0, 0, []), (74, .iload_n 2, 0, 0, []), (75, .iadd, 0, 0, []), (76, .caload, 0, 0, []),
  (77, .castore, 0, 0, []), (78, .iinc 2 1, 0, 0, []), (81, .goto (-34), 47, 0, []), (84, .aload_n 0, 0, 0, []),
  (85, .dup, 0, 0, []), (86, .getfield 247, 11, 27, [895]), (89, .iconst 1, 0, 0, []), (90, .iadd, 0, 0, []),
  (91, .putfield 247, 11, 27, [895]), (94, .return_, 0, 0, [])
  ]
/-- ChainDeskModel.check()I -/
def cd_r146 : List (Nat × Instr × Nat × Nat × List Nat) := [
  (0, .aload_n 0, 0, 0, []), (1, .iconst 0, 0, 0, []), (2, .putfield 98, 11, 3, [871]), (5, .aload_n 0, 0, 0, []),
  (6, .iconst 1, 0, 0, []), (7, .putfield 101, 11, 4, [872]), (10, .aload_n 0, 0, 0, []), (11, .iconst 0, 0, 0, []),
  (12, .putfield 256, 11, 33, [901]), (15, .aload_n 0, 0, 0, []), (16, .iconst 0, 0, 0, []), (17, .putfield 253, 11, 36, [904]),
  (20, .aload_n 0, 0, 0, []), (21, .invokevirtual 269, 147, 0, [1174, 1176, 54, 69, 1177]), (24, .istore_n 1, 0, 0, []), (25, .aload_n 0, 0, 0, []),
  (26, .getfield 101, 11, 4, [872]), (29, .ifCond .eq 46, 75, 0, []), (32, .iload_n 1, 0, 0, []), (33, .iconst (-1), 0, 0, []),
  (34, .if_icmp .eq 20, 54, 0, []), (37, .aload_n 0, 0, 0, []), (38, .getfield 256, 11, 33, [901]), (41, .ifCond .gt 13, 54, 0, []),
  (44, .aload_n 0, 0, 0, []), (45, .iconst 0, 0, 0, []), (46, .invokevirtual 105, 105, 1, [1010, 1012, 22, 69, 1013]), (49, .bipush 46, 0, 0, []),
  (51, .if_icmp .ne 24, 75, 0, []), (54, .iload_n 1, 0, 0, []), (55, .iconst (-1), 0, 0, []), (56, .if_icmp .ne 10, 66, 0, []),
  (59, .aload_n 0, 0, 0, []), (60, .invokevirtual 269, 147, 0, [1174, 1176, 54, 69, 1177]), (63, .goto 8, 71, 0, []), (66, .aload_n 0, 0, 0, []),
  (67, .iload_n 1, 0, 0, []), (68, .invokevirtual 272, 151, 1, [1190, 1192, 58, 69, 1193]), (71, .istore_n 1, 0, 0, []), (72, .goto (-47), 25, 0, []),
  (75, .aload_n 0, 0, 0, []), (76, .aload_n 0, 0, 0, []), (77, .getfield 98, 11, 3, [871]), (80, .aload_n 0, 0, 0, []),
  (81, .getfield 95, 11, 2, [870]), (84, .if_icmp .ne 7, 91, 0, []), (87, .iconst 1, 0, 0, []), (88, .goto 4, 92, 0, []),
  (91, .iconst 0, 0, 0, []), (92, .invokevirtual 113, 107, 1, [1017, 1019, 23, 69, 1020]), (95, .aload_n 0, 0, 0, []), (96, .iconst 0, 0, 0, []),
  (97, .putfield 95, 11, 2, [870]), (100, .aload_n 0, 0, 0, []), (101, .getfield 101, 11, 4, [872]), (104, .ifCond .ne 9, 113, 0, []),
  (107, .aload_n 0, 0, 0, []), (108, .iconst 1, 0, 0, []), (109, .invokevirtual 176, 121, 1, [1070, 1072, 34, 69, 1073]), (112, .ireturn, 0, 0, []),
  (113, .aload_n 0, 0, 0, []), (114, .iconst 0, 0, 0, []), (115, .putfield 88, 11, 0, [868]), (118, .aload_n 0, 0, 0, []),
  (119, .aload_n 0, 0, 0, []), (120, .getfield 253, 11, 36, [904]), (123, .putfield 275, 11, 32, [900]), (126, .iload_n 1, 0, 0, []),
  (127, .ireturn, 0, 0, [])
  ]
/-- ChainDeskModel.primary()I -/
def cd_r147 : List (Nat × Instr × Nat × Nat × List Nat) := [
  (0, .aload_n 0, 0, 0, []), (1, .iconst 4, 0, 0, []), (2, .bipush 110, 0, 0, []), (4, .bipush 101, 0, 0, []),
  (6, .bipush 119, 0, 0, []), (8, .bipush 32, 0, 0, []), (10, .iconst 0, 0, 0, []), (11, .iconst 0, 0, 0, []),
  (12, .invokevirtual 145, 111, 7, [1033, 1035, 27, 69, 1036]), (15, .ifCond .eq 29, 44, 0, []), (18, .aload_n 0, 0, 0, []), (19, .invokevirtual 135, 104, 0, [1006, 1008, 21, 69, 1009]),
  (22, .istore_n 1, 0, 0, []), (23, .aload_n 0, 0, 0, []), (24, .getfield 101, 11, 4, [872]), (27, .ifCond .eq 15, 42, 0, []),
  (30, .aload_n 0, 0, 0, []), (31, .aload_n 0, 0, 0, []), (32, .iload_n 1, 0, 0, []), (33, .invokevirtual 259, 148, 1, [1178, 1180, 55, 69, 1181]),
  (36, .invokevirtual 262, 149, 1, [1182, 1184, 56, 69, 1185]), (39, .goto 4, 43, 0, []), (42, .iconst (-1), 0, 0, []), (43, .ireturn, 0, 0, []),
  (44, .aload_n 0, 0, 0, []), (45, .iconst 0, 0, 0, []), (46, .invokevirtual 105, 105, 1, [1010, 1012, 22, 69, 1013]), (49, .invokestatic 132, 106, 1, [1014, 1015, 69, 1016]),
  (52, .ifCond .eq 58, 110, 0, []), (55, .aload_n 0, 0, 0, []), (56, .invokevirtual 135, 104, 0, [1006, 1008, 21, 69, 1009]), (59, .istore_n 1, 0, 0, []),
  (60, .aload_n 0, 0, 0, []), (61, .bipush 46, 0, 0, []), (63, .invokevirtual 138, 109, 1, [1025, 1027, 25, 69, 1028]), (66, .aload_n 0, 0, 0, []),
  (67, .invokevirtual 153, 117, 0, [1055, 1057, 31, 69, 1058]), (70, .istore_n 2, 0, 0, []), (71, .aload_n 0, 0, 0, []), (72, .getfield 101, 11, 4, [872]),
  (75, .ifCond .eq 33, 108, 0, []), (78, .aload_n 0, 0, 0, []), (79, .aload_n 0, 0, 0, []), (80, .iconst (-1), 0, 0, []),
  (81, .iload_n 1, 0, 0, []), (82, .isub, 0, 0, []), (83, .iload_n 2, 0, 0, []), (84, .aload_n 0, 0, 0, []),
  (85, .iconst 0, 0, 0, []), (86, .invokevirtual 105, 105, 1, [1010, 1012, 22, 69, 1013]), (89, .bipush 40, 0, 0, []), (91, .if_icmp .ne 7, 98, 0, []),
  (94, .iconst 1, 0, 0, []), (95, .goto 4, 99, 0, []), (98, .iconst 0, 0, 0, []), (99, .invokevirtual 265, 150, 3, [1186, 1188, 57, 69, 1189]),
  (102, .invokevirtual 262, 149, 1, [1182, 1184, 56, 69, 1185]), (105, .goto 4, 109, 0, []), (108, .iconst (-1), 0, 0, []), (109, .ireturn, 0, 0, []),
  (110, .aload_n 0, 0, 0, []), (111, .aload_n 0, 0, 0, []), (112, .invokevirtual 153, 117, 0, [1055, 1057, 31, 69, 1058]), (115, .invokevirtual 186, 124, 1, [1082, 1084, 36, 69, 1085]),
  (118, .istore_n 1, 0, 0, []), (119, .aload_n 0, 0, 0, []), (120, .iload_n 1, 0, 0, []), (121, .iconst (-1), 0, 0, []),
  (122, .if_icmp .eq 7, 129, 0, []), (125, .iconst 1, 0, 0, []), (126, .goto 4, 130, 0, []), (129, .iconst 0, 0, 0, []),
  (130, .invokevirtual 113, 107, 1, [1017, 1019, 23, 69, 1020]), (133, .aload_n 0, 0, 0, []), (134, .getfield 101, 11, 4, [872]), (137, .ifCond .eq 12, 149, 0, []),
  (140, .aload_n 0, 0, 0, []), (141, .getfield 48, 11, 17, [885]), (144, .iload_n 1, 0, 0, []), (145, .iaload, 0, 0, []),
  (146, .goto 4, 150, 0, []), (149, .iconst (-1), 0, 0, []), (150, .ireturn, 0, 0, [])
  ]
/-- ChainDeskModel.makerOf(I)I -/
def cd_r148 : List (Nat × Instr × Nat × Nat × List Nat) := [
  (0, .iconst (-1), 0, 0, []), (1, .istore_n 2, 0, 0, []), (2, .bipush 6, 0, 0, []), (4, .iload_n 1, 0, 0, []),
  (5, .imul, 0, 0, []), (6, .istore_n 3, 0, 0, []), (7, .iload_n 3, 0, 0, []), (8, .bipush 6, 0, 0, []),
  (10, .iload_n 1, 0, 0, []), (11, .imul, 0, 0, []), (12, .aload_n 0, 0, 0, []), (13, .getfield 21, 11, 7, [875]),
  (16, .iload_n 1, 0, 0, []), (17, .iaload, 0, 0, []), (18, .iadd, 0, 0, []), (19, .if_icmp .ge 33, 52, 0, []),
  (22, .aload_n 0, 0, 0, []), (23, .getfield 24, 11, 8, [876]), (26, .iload_n 3, 0, 0, []), (27, .iaload, 0, 0, []),
  (28, .iconst 2, 0, 0, []), (29, .if_icmp .ne 15, 44, 0, []), (32, .aload_n 0, 0, 0, []), (33, .iload_n 3, 0, 0, []),
  (34, .invokevirtual 195, 138, 1, [1138, 1140, 46, 69, 1141]), (37, .ifCond .eq 7, 44, 0, []), (40, .iload_n 3, 0, 0, []), (41, .goto 4, 45, 0, []),
  (44, .iload_n 2, 0, 0, []), (45, .istore_n 2, 0, 0, []), (46, .iinc 3 1, 0, 0, []), (49, .goto (-42), 7, 0, []),
  (52, .iload_n 2, 0, 0, []), (53, .ireturn, 0, 0, [])
  ]
/-- ChainDeskModel.use(I)I -/
def cd_r149 : List (Nat × Instr × Nat × Nat × List Nat) := [
  (0, .aload_n 0, 0, 0, []), (1, .iload_n 1, 0, 0, []), (2, .iconst (-1), 0, 0, []), (3, .if_icmp .eq 7, 10, 0, []),
  (6, .iconst 1, 0, 0, []), (7, .goto 4, 11, 0, []), (10, .iconst 0, 0, 0, []), (11, .invokevirtual 113, 107, 1, [1017, 1019, 23, 69, 1020]),
  (14, .aload_n 0, 0, 0, []), (15, .getfield 101, 11, 4, [872]), (18, .ifCond .ne 5, 23, 0, []), (21, .iconst (-1), 0, 0, []),
  (22, .ireturn, 0, 0, []), (23, .aload_n 0, 0, 0, []), (24, .dup, 0, 0, []), (25, .getfield 253, 11, 36, [904]),
  (28, .iconst 1, 0, 0, []), (29, .iadd, 0, 0, []), (30, .putfield 253, 11, 36, [904]), (33, .aload_n 0, 0, 0, []),
  (34, .getfield 24, 11, 8, [876]), (37, .iload_n 1, 0, 0, []), (38, .iaload, 0, 0, []), (39, .ifCond .ne 10, 49, 0, []),
  (42, .aload_n 0, 0, 0, []), (43, .getfield 36, 11, 12, [880]), (46, .iload_n 1, 0, 0, []), (47, .iaload, 0, 0, []),
  (48, .ireturn, 0, 0, []), (49, .aload_n 0, 0, 0, []), (50, .bipush 40, 0, 0, []), (52, .invokevirtual 138, 109, 1, [1025, 1027, 25, 69, 1028]),
  (55, .aload_n 0, 0, 0, []), (56, .getfield 39, 11, 13, [881]), (59, .iload_n 1, 0, 0, []), (60, .iaload, 0, 0, []),
  (61, .ifCond .ne 16, 77, 0, []), (64, .aload_n 0, 0, 0, []), (65, .bipush 41, 0, 0, []), (67, .invokevirtual 138, 109, 1, [1025, 1027, 25, 69, 1028]),
  (70, .aload_n 0, 0, 0, []), (71, .getfield 36, 11, 12, [880]), (74, .iload_n 1, 0, 0, []), (75, .iaload, 0, 0, []),
  (76, .ireturn, 0, 0, []), (77, .aload_n 0, 0, 0, []), (78, .aload_n 0, 0, 0, []), (79, .getfield 256, 11, 33, [901]),
  (82, .bipush 6, 0, 0, []), (84, .if_icmp .ge 7, 91, 0, []), (87, .iconst 1, 0, 0, []), (88, .goto 4, 92, 0, []),
  (91, .iconst 0, 0, 0, []), (92, .invokevirtual 113, 107, 1, [1017, 1019, 23, 69, 1020]), (95, .aload_n 0, 0, 0, []), (96, .getfield 82, 11, 34, [902]),
  (99, .aload_n 0, 0, 0, []), (100, .getfield 256, 11, 33, [901]), (103, .iload_n 1, 0, 0, []), (104, .iastore, 0, 0, []),
  (105, .aload_n 0, 0, 0, []), (106, .getfield 85, 11, 35, [903]), (109, .aload_n 0, 0, 0, []), (110, .getfield 256, 11, 33, [901]),
  (113, .iconst 0, 0, 0, []), (114, .iastore, 0, 0, []), (115, .aload_n 0, 0, 0, []), (116, .dup, 0, 0, []),
  (117, .getfield 256, 11, 33, [901]), (120, .iconst 1, 0, 0, []), (121, .iadd, 0, 0, []), (122, .putfield 256, 11, 33, [901]),
  (125, .iconst (-1), 0, 0, []), (126, .ireturn, 0, 0, [])
  ]
/-- ChainDeskModel.memberOf(IIZ)I -/
def cd_r150 : List (Nat × Instr × Nat × Nat × List Nat) := [
  (0, .iconst (-1), 0, 0, []), (1, .istore 4, 0, 0, []), (3, .iconst 0, 0, 0, []), (4, .istore 5, 0, 0, []),
  (6, .iload 5, 0, 0, []), (8, .bipush 60, 0, 0, []), (10, .if_icmp .ge 133, 143, 0, []), (13, .aload_n 0, 0, 0, []),
  (14, .getfield 13, 11, 5, [873]), (17, .iload 5, 0, 0, []), (19, .bipush 6, 0, 0, []), (21, .idiv, 0, 0, []),
  (22, .baload, 0, 0, []), (23, .ifCond .eq 55, 78, 0, []), (26, .iload 5, 0, 0, []), (28, .bipush 6, 0, 0, []),
  (30, .irem, 0, 0, []), (31, .aload_n 0, 0, 0, []), (32, .getfield 21, 11, 7, [875]), (35, .iload 5, 0, 0, []),
  (37, .bipush 6, 0, 0, []), (39, .idiv, 0, 0, []), (40, .iaload, 0, 0, []), (41, .if_icmp .ge 37, 78, 0, []),
  (44, .aload_n 0, 0, 0, []), (45, .getfield 24, 11, 8, [876]), (48, .iload 5, 0, 0, []), (50, .iaload, 0, 0, []),
  (51, .iload_n 3, 0, 0, []), (52, .ifCond .eq 7, 59, 0, []), (55, .iconst 1, 0, 0, []), (56, .goto 4, 60, 0, []),
  (59, .iconst 0, 0, 0, []), (60, .if_icmp .ne 18, 78, 0, []), (63, .aload_n 0, 0, 0, []), (64, .getfield 33, 11, 11, [879]),
  (67, .iload 5, 0, 0, []), (69, .iaload, 0, 0, []), (70, .iload_n 2, 0, 0, []), (71, .if_icmp .ne 7, 78, 0, []),
  (74, .iconst 1, 0, 0, []), (75, .goto 4, 79, 0, []), (78, .iconst 0, 0, 0, []), (79, .istore 6, 0, 0, []),
  (81, .iload 6, 0, 0, []), (83, .ifCond .eq 54, 137, 0, []), (86, .iload_n 1, 0, 0, []), (87, .ifCond .lt 16, 103, 0, []),
  (90, .aload_n 0, 0, 0, []), (91, .iload_n 1, 0, 0, []), (92, .iload 5, 0, 0, []), (94, .invokevirtual 238, 143, 2, [1158, 1160, 51, 69, 1161]),
  (97, .ifCond .eq 40, 137, 0, []), (100, .goto 33, 133, 0, []), (103, .iload 5, 0, 0, []), (105, .bipush 6, 0, 0, []),
  (107, .idiv, 0, 0, []), (108, .iconst (-1), 0, 0, []), (109, .iload_n 1, 0, 0, []), (110, .isub, 0, 0, []),
  (111, .if_icmp .ne 26, 137, 0, []), (114, .aload_n 0, 0, 0, []), (115, .getfield 27, 11, 9, [877]), (118, .iload 5, 0, 0, []),
  (120, .baload, 0, 0, []), (121, .ifCond .eq 16, 137, 0, []), (124, .aload_n 0, 0, 0, []), (125, .iload 5, 0, 0, []),
  (127, .invokevirtual 195, 138, 1, [1138, 1140, 46, 69, 1141]), (130, .ifCond .eq 7, 137, 0, []), (133, .iload 5, 0, 0, []), (135, .istore 4, 0, 0, []),
  (137, .iinc 5 1, 0, 0, []), (140, .goto (-134), 6, 0, []), (143, .iload 4, 0, 0, []), (145, .ireturn, 0, 0, [])
  ]
/-- ChainDeskModel.further(I)I -/
def cd_r151 : List (Nat × Instr × Nat × Nat × List Nat) := [
  (0, .aload_n 0, 0, 0, []), (1, .bipush 46, 0, 0, []), (3, .invokevirtual 109, 108, 1, [1021, 1023, 24, 69, 1024]), (6, .ifCond .eq 45, 51, 0, []),
  (9, .aload_n 0, 0, 0, []), (10, .invokevirtual 153, 117, 0, [1055, 1057, 31, 69, 1058]), (13, .istore_n 2, 0, 0, []), (14, .aload_n 0, 0, 0, []),
  (15, .getfield 101, 11, 4, [872]), (18, .ifCond .eq 31, 49, 0, []), (21, .aload_n 0, 0, 0, []), (22, .aload_n 0, 0, 0, []),
  (23, .iload_n 1, 0, 0, []), (24, .iload_n 2, 0, 0, []), (25, .aload_n 0, 0, 0, []), (26, .iconst 0, 0, 0, []),
  (27, .invokevirtual 105, 105, 1, [1010, 1012, 22, 69, 1013]), (30, .bipush 40, 0, 0, []), (32, .if_icmp .ne 7, 39, 0, []), (35, .iconst 1, 0, 0, []),
  (36, .goto 4, 40, 0, []), (39, .iconst 0, 0, 0, []), (40, .invokevirtual 265, 150, 3, [1186, 1188, 57, 69, 1189]), (43, .invokevirtual 262, 149, 1, [1182, 1184, 56, 69, 1185]),
  (46, .goto 4, 50, 0, []), (49, .iconst (-1), 0, 0, []), (50, .ireturn, 0, 0, []), (51, .aload_n 0, 0, 0, []),
  (52, .getfield 82, 11, 34, [902]), (55, .aload_n 0, 0, 0, []), (56, .getfield 256, 11, 33, [901]), (59, .iconst 1, 0, 0, []),
  (60, .isub, 0, 0, []), (61, .iaload, 0, 0, []), (62, .istore_n 2, 0, 0, []), (63, .aload_n 0, 0, 0, []),
  (64, .getfield 85, 11, 35, [903]), (67, .aload_n 0, 0, 0, []), (68, .getfield 256, 11, 33, [901]), (71, .iconst 1, 0, 0, []),
  (72, .isub, 0, 0, []), (73, .iaload, 0, 0, []), (74, .istore_n 3, 0, 0, []), (75, .aload_n 0, 0, 0, []),
  (76, .aload_n 0, 0, 0, []), (77, .iload_n 1, 0, 0, []), (78, .aload_n 0, 0, 0, []), (79, .getfield 42, 11, 14, [882]),
  (82, .iconst 2, 0, 0, []), (83, .iload_n 2, 0, 0, []), (84, .imul, 0, 0, []), (85, .iload_n 3, 0, 0, []),
  (86, .iadd, 0, 0, []), (87, .iaload, 0, 0, []), (88, .invokevirtual 192, 128, 2, [1098, 1100, 37, 69, 1101]), (91, .invokevirtual 113, 107, 1, [1017, 1019, 23, 69, 1020]),
  (94, .aload_n 0, 0, 0, []), (95, .getfield 85, 11, 35, [903]), (98, .aload_n 0, 0, 0, []), (99, .getfield 256, 11, 33, [901]),
  (102, .iconst 1, 0, 0, []), (103, .isub, 0, 0, []), (104, .dup2, 0, 0, []), (105, .iaload, 0, 0, []),
  (106, .iconst 1, 0, 0, []), (107, .iadd, 0, 0, []), (108, .iastore, 0, 0, []), (109, .iload_n 3, 0, 0, []),
  (110, .iconst 1, 0, 0, []), (111, .iadd, 0, 0, []), (112, .aload_n 0, 0, 0, []), (113, .getfield 39, 11, 13, [881]),
  (116, .iload_n 2, 0, 0, []), (117, .iaload, 0, 0, []), (118, .if_icmp .ge 11, 129, 0, []), (121, .aload_n 0, 0, 0, []),
  (122, .bipush 44, 0, 0, []), (124, .invokevirtual 138, 109, 1, [1025, 1027, 25, 69, 1028]), (127, .iconst (-1), 0, 0, []), (128, .ireturn, 0, 0, []),
  (129, .aload_n 0, 0, 0, []), (130, .bipush 41, 0, 0, []), (132, .invokevirtual 138, 109, 1, [1025, 1027, 25, 69, 1028]), (135, .aload_n 0, 0, 0, []),
  (136, .dup, 0, 0, []), (137, .getfield 256, 11, 33, [901]), (140, .iconst 1, 0, 0, []), (141, .isub, 0, 0, []),
  (142, .putfield 256, 11, 33, [901]), (145, .aload_n 0, 0, 0, []), (146, .getfield 36, 11, 12, [880]), (149, .iload_n 2, 0, 0, []),
  (150, .iaload, 0, 0, []), (151, .ireturn, 0, 0, [])
  ]
/-- ChainDeskModel.checkedCost()I -/
def cd_r152 : List (Nat × Instr × Nat × Nat × List Nat) := [
  (0, .aload_n 0, 0, 0, []), (1, .iconst 0, 0, 0, []), (2, .putfield 88, 11, 0, [868]), (5, .aload_n 0, 0, 0, []),
  (6, .getfield 275, 11, 32, [900]), (9, .ireturn, 0, 0, [])
  ]
/-- ChainDeskModel.proposal(II)I -/
def cd_r153 : List (Nat × Instr × Nat × Nat × List Nat) := [
  (0, .aload_n 0, 0, 0, []), (1, .iconst 0, 0, 0, []), (2, .putfield 88, 11, 0, [868]), (5, .iload_n 1, 0, 0, []),
  (6, .iconst 0, 0, 0, []), (7, .aload_n 0, 0, 0, []), (8, .getfield 247, 11, 27, [895]), (11, .iconst 1, 0, 0, []),
  (12, .isub, 0, 0, []), (13, .invokestatic 91, 101, 3, [995, 996, 69, 997]), (16, .ifCond .ne 12, 28, 0, []), (19, .iload_n 2, 0, 0, []),
  (20, .iconst 0, 0, 0, []), (21, .iconst 2, 0, 0, []), (22, .invokestatic 91, 101, 3, [995, 996, 69, 997]), (25, .ifCond .eq 5, 30, 0, []),
  (28, .iconst (-1), 0, 0, []), (29, .ireturn, 0, 0, []), (30, .iload_n 2, 0, 0, []), (31, .ifCond .ne 12, 43, 0, []),
  (34, .aload_n 0, 0, 0, []), (35, .getfield 76, 11, 30, [898]), (38, .iload_n 1, 0, 0, []), (39, .iaload, 0, 0, []),
  (40, .goto 23, 63, 0, []), (43, .iload_n 2, 0, 0, []), (44, .iconst 1, 0, 0, []), (45, .if_icmp .ne 12, 57, 0, []),
  (48, .aload_n 0, 0, 0, []), (49, .getfield 70, 11, 28, [896]), (52, .iload_n 1, 0, 0, []), (53, .iaload, 0, 0, []),
  (54, .goto 9, 63, 0, []), (57, .aload_n 0, 0, 0, []), (58, .getfield 73, 11, 29, [897]), (61, .iload_n 1, 0, 0, []),
  (62, .iaload, 0, 0, []), (63, .ireturn, 0, 0, [])
  ]
/-- ChainDeskModel.letter(II)I -/
def cd_r154 : List (Nat × Instr × Nat × Nat × List Nat) := [
  (0, .aload_n 0, 0, 0, []), (1, .iconst 0, 0, 0, []), (2, .putfield 88, 11, 0, [868]), (5, .iload_n 1, 0, 0, []),
  (6, .iconst 0, 0, 0, []), (7, .aload_n 0, 0, 0, []), (8, .getfield 247, 11, 27, [895]), (11, .iconst 1, 0, 0, []),
  (12, .isub, 0, 0, []), (13, .invokestatic 91, 101, 3, [995, 996, 69, 997]), (16, .ifCond .ne 19, 35, 0, []), (19, .iload_n 2, 0, 0, []),
  (20, .iconst 0, 0, 0, []), (21, .aload_n 0, 0, 0, []), (22, .getfield 76, 11, 30, [898]), (25, .iload_n 1, 0, 0, []),
  (26, .iaload, 0, 0, []), (27, .iconst 1, 0, 0, []), (28, .isub, 0, 0, []), (29, .invokestatic 91, 101, 3, [995, 996, 69, 997]),
  (32, .ifCond .eq 7, 39, 0, []), (35, .iconst 0, 0, 0, []), (36, .goto 14, 50, 0, []), (39, .aload_n 0, 0, 0, []),
  (40, .getfield 79, 11, 31, [899]), (43, .bipush 24, 0, 0, []), (45, .iload_n 1, 0, 0, []), (46, .imul, 0, 0, []),
  (47, .iload_n 2, 0, 0, []), (48, .iadd, 0, 0, []), (49, .caload, 0, 0, []), (50, .ireturn, 0, 0, [])
  ]
/-- ChainDeskModel.members(I)I -/
def cd_r155 : List (Nat × Instr × Nat × Nat × List Nat) := [
  (0, .aload_n 0, 0, 0, []), (1, .iconst 0, 0, 0, []), (2, .putfield 88, 11, 0, [868]), (5, .iload_n 1, 0, 0, []),
  (6, .iconst 0, 0, 0, []), (7, .bipush 9, 0, 0, []), (9, .invokestatic 91, 101, 3, [995, 996, 69, 997]), (12, .ifCond .ne 12, 24, 0, []),
  (15, .aload_n 0, 0, 0, []), (16, .getfield 13, 11, 5, [873]), (19, .iload_n 1, 0, 0, []), (20, .baload, 0, 0, []),
  (21, .ifCond .ne 7, 28, 0, []), (24, .iconst (-1), 0, 0, []), (25, .goto 9, 34, 0, []), (28, .aload_n 0, 0, 0, []),
  (29, .getfield 21, 11, 7, [875]), (32, .iload_n 1, 0, 0, []), (33, .iaload, 0, 0, []), (34, .ireturn, 0, 0, [])
  ]
/-- ChainDeskModel.seen(II)I -/
def cd_r156 : List (Nat × Instr × Nat × Nat × List Nat) := [
  (0, .aload_n 0, 0, 0, []), (1, .iconst 0, 0, 0, []), (2, .putfield 88, 11, 0, [868]), (5, .iload_n 1, 0, 0, []),
  (6, .iconst 0, 0, 0, []), (7, .bipush 9, 0, 0, []), (9, .invokestatic 91, 101, 3, [995, 996, 69, 997]), (12, .ifCond .ne 12, 24, 0, []),
  (15, .iload_n 2, 0, 0, []), (16, .iconst 0, 0, 0, []), (17, .iconst 1, 0, 0, []), (18, .invokestatic 91, 101, 3, [995, 996, 69, 997]),
  (21, .ifCond .eq 5, 26, 0, []), (24, .iconst (-1), 0, 0, []), (25, .ireturn, 0, 0, []), (26, .iconst 0, 0, 0, []),
  (27, .istore_n 3, 0, 0, []), (28, .iconst 0, 0, 0, []), (29, .istore 4, 0, 0, []), (31, .iload 4, 0, 0, []),
  (33, .bipush 60, 0, 0, []), (35, .if_icmp .ge 71, 106, 0, []), (38, .aload_n 0, 0, 0, []), (39, .getfield 13, 11, 5, [873]),
  (42, .iload 4, 0, 0, []), (44, .bipush 6, 0, 0, []), (46, .idiv, 0, 0, []), (47, .baload, 0, 0, []),
  (48, .ifCond .eq 50, 98, 0, []), (51, .iload 4, 0, 0, []), (53, .bipush 6, 0, 0, []), (55, .irem, 0, 0, []),
  (56, .aload_n 0, 0, 0, []), (57, .getfield 21, 11, 7, [875]), (60, .iload 4, 0, 0, []), (62, .bipush 6, 0, 0, []),
  (64, .idiv, 0, 0, []), (65, .iaload, 0, 0, []), (66, .if_icmp .ge 32, 98, 0, []), (69, .aload_n 0, 0, 0, []),
  (70, .getfield 24, 11, 8, [876]), (73, .iload 4, 0, 0, []), (75, .iaload, 0, 0, []), (76, .iload_n 2, 0, 0, []),
  (77, .if_icmp .ne 21, 98, 0, []), (80, .aload_n 0, 0, 0, []), (81, .iconst 3, 0, 0, []), (82, .iload_n 1, 0, 0, []),
  (83, .iadd, 0, 0, []), (84, .iload 4, 0, 0, []), (86, .invokevirtual 238, 143, 2, [1158, 1160, 51, 69, 1161]), (89, .ifCond .eq 9, 98, 0, []),
  (92, .iload_n 3, 0, 0, []), (93, .iconst 1, 0, 0, []), (94, .iadd, 0, 0, []), (95, .goto 4, 99, 0, []),
  (98, .iload_n 3, 0, 0, []), (99, .istore_n 3, 0, 0, []), (100, .iinc 4 1, 0, 0, []), (103, .goto (-72), 31, 0, []),
  (106, .iload_n 3, 0, 0, []), (107, .ireturn, 0, 0, [])
  ]
/-- ChainDeskLaw.declare(LChainDesk;[J)I -/
def cd_r157 : List (Nat × Instr × Nat × Nat × List Nat) := [
  (0, .aload_n 1, 0, 0, []), (1, .iconst 0, 0, 0, []), (2, .aload_n 0, 0, 0, []), (3, .invokevirtual 7, 31, 0, [371, 372, 373, 60, 374]),
  (6, .i2l, 0, 0, []), (7, .lastore, 0, 0, []), (8, .goto 9, 17, 0, []), (11, .astore_n 2, 0, 0, []),
  (12, .iconst 1, 0, 0, []), (13, .ireturn, 0, 0, []), (14, .astore_n 2, 0, 0, []), (15, .iconst 2, 0, 0, []),
  (16, .ireturn, 0, 0, []), (17, .iconst 0, 0, 0, []), (18, .ireturn, 0, 0, [])
  ]
/-- ChainDeskLaw.variable(LChainDesk;[J)I -/
def cd_r158 : List (Nat × Instr × Nat × Nat × List Nat) := [
  (0, .aload_n 1, 0, 0, []), (1, .iconst 0, 0, 0, []), (2, .aload_n 0, 0, 0, []), (3, .invokevirtual 17, 62, 0, [676, 677, 678, 60, 679]),
  (6, .i2l, 0, 0, []), (7, .lastore, 0, 0, []), (8, .goto 9, 17, 0, []), (11, .astore_n 2, 0, 0, []),
  (12, .iconst 1, 0, 0, []), (13, .ireturn, 0, 0, []), (14, .astore_n 2, 0, 0, []), (15, .iconst 2, 0, 0, []),
  (16, .ireturn, 0, 0, []), (17, .iconst 0, 0, 0, []), (18, .ireturn, 0, 0, [])
  ]
/-- ChainDeskLaw.enter(LChainDesk;I)I -/
def cd_r159 : List (Nat × Instr × Nat × Nat × List Nat) := [
  (0, .aload_n 0, 0, 0, []), (1, .iload_n 1, 0, 0, []), (2, .invokevirtual 20, 67, 1, [703, 704, 705, 60, 706]), (5, .goto 6, 11, 0, []),
  (8, .astore_n 2, 0, 0, []), (9, .iconst 1, 0, 0, []), (10, .ireturn, 0, 0, []), (11, .iconst 0, 0, 0, []),
  (12, .ireturn, 0, 0, [])
  ]
/-- ChainDeskLaw.complete(LChainDesk;II[J)I -/
def cd_r160 : List (Nat × Instr × Nat × Nat × List Nat) := [
  (0, .aload_n 3, 0, 0, []), (1, .iconst 0, 0, 0, []), (2, .aload_n 0, 0, 0, []), (3, .iload_n 1, 0, 0, []),
  (4, .iload_n 2, 0, 0, []), (5, .invokevirtual 24, 68, 2, [710, 711, 712, 60, 713]), (8, .i2l, 0, 0, []), (9, .lastore, 0, 0, []),
  (10, .goto 7, 17, 0, []), (13, .astore 4, 0, 0, []), (15, .iconst 1, 0, 0, []), (16, .ireturn, 0, 0, []),
  (17, .iconst 0, 0, 0, []), (18, .ireturn, 0, 0, [])
  ]
/-- ChainDeskLaw.check(LChainDesk;[J)I -/
def cd_r161 : List (Nat × Instr × Nat × Nat × List Nat) := [
  (0, .aload_n 1, 0, 0, []), (1, .iconst 0, 0, 0, []), (2, .aload_n 0, 0, 0, []), (3, .invokevirtual 28, 87, 0, [806, 807, 808, 60, 809]),
  (6, .i2l, 0, 0, []), (7, .lastore, 0, 0, []), (8, .goto 6, 14, 0, []), (11, .astore_n 2, 0, 0, []),
  (12, .iconst 1, 0, 0, []), (13, .ireturn, 0, 0, []), (14, .iconst 0, 0, 0, []), (15, .ireturn, 0, 0, [])
  ]
def cd_rows : List (List (Nat × Instr × Nat × Nat × List Nat)) := [cd_r0, cd_r1, cd_r2, cd_r3, cd_r4, cd_r5, cd_r6, cd_r7, cd_r8, cd_r9, cd_r10, cd_r11, cd_r12, cd_r13, cd_r14, cd_r15, cd_r16, cd_r17, cd_r18, cd_r19, cd_r20, cd_r21, cd_r22, cd_r23, cd_r24, cd_r25, cd_r26, cd_r27, cd_r28, cd_r29, cd_r30, cd_r31, cd_r32, cd_r33, cd_r34, cd_r35, cd_r36, cd_r37, cd_r38, cd_r39, cd_r40, cd_r41, cd_r42, cd_r43, cd_r44, cd_r45, cd_r46, cd_r47, cd_r48, cd_r49, cd_r50, cd_r51, cd_r52, cd_r53, cd_r54, cd_r55, cd_r56, cd_r57, cd_r58, cd_r59, cd_r60, cd_r61, cd_r62, cd_r63, cd_r64, cd_r65, cd_r66, cd_r67, cd_r68, cd_r69, cd_r70, cd_r71, cd_r72, cd_r73, cd_r74, cd_r75, cd_r76, cd_r77, cd_r78, cd_r79, cd_r80, cd_r81, cd_r82, cd_r83, cd_r84, cd_r85, cd_r86, cd_r87, cd_r88, cd_r89, cd_r90, cd_r91, cd_r92, cd_r93, cd_r94, cd_r95, cd_r96, cd_r97, cd_r98, cd_r99, cd_r100, cd_r101, cd_r102, cd_r103, cd_r104, cd_r105, cd_r106, cd_r107, cd_r108, cd_r109, cd_r110, cd_r111, cd_r112, cd_r113, cd_r114, cd_r115, cd_r116, cd_r117, cd_r118, cd_r119, cd_r120, cd_r121, cd_r122, cd_r123, cd_r124, cd_r125, cd_r126, cd_r127, cd_r128, cd_r129, cd_r130, cd_r131, cd_r132, cd_r133, cd_r134, cd_r135, cd_r136, cd_r137, cd_r138, cd_r139, cd_r140, cd_r141, cd_r142, cd_r143, cd_r144, cd_r145, cd_r146, cd_r147, cd_r148, cd_r149, cd_r150, cd_r151, cd_r152, cd_r153, cd_r154, cd_r155, cd_r156, cd_r157, cd_r158, cd_r159, cd_r160, cd_r161]
def cd_I (y pc : Nat) : Option (Instr × Nat × Nat) := ((cd_rows.getD y []).find? (fun q => Nat.beq q.1 pc)).map (fun q => (q.2.1, q.2.2.1, q.2.2.2.1))
def cd_t : am_T := (cd_I, cd_ml, cd_rt, cd_ft, cd_df, cd_ns, cd_nm, cd_mc, cd_hs)
