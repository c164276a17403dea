theorem cd_i141_0 : cd_I 141 0 = some (.aload_n 0, 0, 0) := by decide +kernel
theorem cd_i141_1 : cd_I 141 1 = some (.iconst 0, 0, 0) := by decide +kernel
theorem cd_i141_2 : cd_I 141 2 = some (.putfield 201, 11, 25) := by decide +kernel
theorem cd_i141_5 : cd_I 141 5 = some (.aload_n 0, 0, 0) := by decide +kernel
theorem cd_i141_6 : cd_I 141 6 = some (.getfield 24, 11, 8) := by decide +kernel
theorem cd_i141_9 : cd_I 141 9 = some (.iload_n 1, 0, 0) := by decide +kernel
theorem cd_i141_10 : cd_I 141 10 = some (.iaload, 0, 0) := by decide +kernel
theorem cd_i141_11 : cd_I 141 11 = some (.iconst 2, 0, 0) := by decide +kernel
theorem cd_i141_12 : cd_I 141 12 = some (.if_icmp .ne 27, 39, 0) := by decide +kernel
theorem cd_i141_15 : cd_I 141 15 = some (.aload_n 0, 0, 0) := by decide +kernel
theorem cd_i141_16 : cd_I 141 16 = some (.bipush 110, 0, 0) := by decide +kernel
theorem cd_i141_18 : cd_I 141 18 = some (.invokevirtual 204, 133, 1) := by decide +kernel
theorem cd_i141_21 : cd_I 141 21 = some (.aload_n 0, 0, 0) := by decide +kernel
theorem cd_i141_22 : cd_I 141 22 = some (.bipush 101, 0, 0) := by decide +kernel
theorem cd_i141_24 : cd_I 141 24 = some (.invokevirtual 204, 133, 1) := by decide +kernel
theorem cd_i141_27 : cd_I 141 27 = some (.aload_n 0, 0, 0) := by decide +kernel
theorem cd_i141_28 : cd_I 141 28 = some (.bipush 119, 0, 0) := by decide +kernel
theorem cd_i141_30 : cd_I 141 30 = some (.invokevirtual 204, 133, 1) := by decide +kernel
theorem cd_i141_33 : cd_I 141 33 = some (.aload_n 0, 0, 0) := by decide +kernel
theorem cd_i141_34 : cd_I 141 34 = some (.bipush 32, 0, 0) := by decide +kernel
theorem cd_i141_36 : cd_I 141 36 = some (.invokevirtual 204, 133, 1) := by decide +kernel
theorem cd_i141_39 : cd_I 141 39 = some (.iload_n 2, 0, 0) := by decide +kernel
theorem cd_i141_40 : cd_I 141 40 = some (.iconst (-1), 0, 0) := by decide +kernel
theorem cd_i141_41 : cd_I 141 41 = some (.if_icmp .ne 18, 59, 0) := by decide +kernel
theorem cd_i141_44 : cd_I 141 44 = some (.aload_n 0, 0, 0) := by decide +kernel
theorem cd_i141_45 : cd_I 141 45 = some (.bipush 65, 0, 0) := by decide +kernel
theorem cd_i141_47 : cd_I 141 47 = some (.iload_n 1, 0, 0) := by decide +kernel
theorem cd_i141_48 : cd_I 141 48 = some (.bipush 6, 0, 0) := by decide +kernel
theorem cd_i141_50 : cd_I 141 50 = some (.idiv, 0, 0) := by decide +kernel
theorem cd_i141_51 : cd_I 141 51 = some (.iadd, 0, 0) := by decide +kernel
theorem cd_i141_52 : cd_I 141 52 = some (.i2c, 0, 0) := by decide +kernel
theorem cd_i141_53 : cd_I 141 53 = some (.invokevirtual 204, 133, 1) := by decide +kernel
theorem cd_i141_56 : cd_I 141 56 = some (.goto 8, 64, 0) := by decide +kernel
theorem cd_i141_59 : cd_I 141 59 = some (.aload_n 0, 0, 0) := by decide +kernel
theorem cd_i141_60 : cd_I 141 60 = some (.iload_n 2, 0, 0) := by decide +kernel
theorem cd_i141_61 : cd_I 141 61 = some (.invokevirtual 219, 142, 1) := by decide +kernel
theorem cd_i141_64 : cd_I 141 64 = some (.aload_n 0, 0, 0) := by decide +kernel
theorem cd_i141_65 : cd_I 141 65 = some (.getfield 24, 11, 8) := by decide +kernel
theorem cd_i141_68 : cd_I 141 68 = some (.iload_n 1, 0, 0) := by decide +kernel
theorem cd_i141_69 : cd_I 141 69 = some (.iaload, 0, 0) := by decide +kernel
theorem cd_i141_70 : cd_I 141 70 = some (.iconst 2, 0, 0) := by decide +kernel
theorem cd_i141_71 : cd_I 141 71 = some (.if_icmp .eq 19, 90, 0) := by decide +kernel
theorem cd_i141_74 : cd_I 141 74 = some (.aload_n 0, 0, 0) := by decide +kernel
theorem cd_i141_75 : cd_I 141 75 = some (.bipush 46, 0, 0) := by decide +kernel
theorem cd_i141_77 : cd_I 141 77 = some (.invokevirtual 204, 133, 1) := by decide +kernel
theorem cd_i141_80 : cd_I 141 80 = some (.aload_n 0, 0, 0) := by decide +kernel
theorem cd_i141_81 : cd_I 141 81 = some (.aload_n 0, 0, 0) := by decide +kernel
theorem cd_i141_82 : cd_I 141 82 = some (.getfield 33, 11, 11) := by decide +kernel
theorem cd_i141_85 : cd_I 141 85 = some (.iload_n 1, 0, 0) := by decide +kernel
theorem cd_i141_86 : cd_I 141 86 = some (.iaload, 0, 0) := by decide +kernel
theorem cd_i141_87 : cd_I 141 87 = some (.invokevirtual 222, 132, 1) := by decide +kernel
theorem cd_i141_90 : cd_I 141 90 = some (.aload_n 0, 0, 0) := by decide +kernel
theorem cd_i141_91 : cd_I 141 91 = some (.getfield 24, 11, 8) := by decide +kernel
theorem cd_i141_94 : cd_I 141 94 = some (.iload_n 1, 0, 0) := by decide +kernel
theorem cd_i141_95 : cd_I 141 95 = some (.iaload, 0, 0) := by decide +kernel
theorem cd_i141_96 : cd_I 141 96 = some (.ifCond .ne 4, 100, 0) := by decide +kernel
theorem cd_i141_99 : cd_I 141 99 = some (.return_, 0, 0) := by decide +kernel
theorem cd_i141_100 : cd_I 141 100 = some (.aload_n 0, 0, 0) := by decide +kernel
theorem cd_i141_101 : cd_I 141 101 = some (.bipush 40, 0, 0) := by decide +kernel
theorem cd_i141_103 : cd_I 141 103 = some (.invokevirtual 204, 133, 1) := by decide +kernel
theorem cd_i141_106 : cd_I 141 106 = some (.iload_n 3, 0, 0) := by decide +kernel
theorem cd_i141_107 : cd_I 141 107 = some (.iconst (-1), 0, 0) := by decide +kernel
theorem cd_i141_108 : cd_I 141 108 = some (.if_icmp .eq 8, 116, 0) := by decide +kernel
theorem cd_i141_111 : cd_I 141 111 = some (.aload_n 0, 0, 0) := by decide +kernel
theorem cd_i141_112 : cd_I 141 112 = some (.iload_n 3, 0, 0) := by decide +kernel
theorem cd_i141_113 : cd_I 141 113 = some (.invokevirtual 219, 142, 1) := by decide +kernel
theorem cd_i141_116 : cd_I 141 116 = some (.iload 4, 0, 0) := by decide +kernel
theorem cd_i141_118 : cd_I 141 118 = some (.iconst (-1), 0, 0) := by decide +kernel
theorem cd_i141_119 : cd_I 141 119 = some (.if_icmp .eq 15, 134, 0) := by decide +kernel
theorem cd_i141_122 : cd_I 141 122 = some (.aload_n 0, 0, 0) := by decide +kernel
theorem cd_i141_123 : cd_I 141 123 = some (.bipush 44, 0, 0) := by decide +kernel
theorem cd_i141_125 : cd_I 141 125 = some (.invokevirtual 204, 133, 1) := by decide +kernel
theorem cd_i141_128 : cd_I 141 128 = some (.aload_n 0, 0, 0) := by decide +kernel
theorem cd_i141_129 : cd_I 141 129 = some (.iload 4, 0, 0) := by decide +kernel
theorem cd_i141_131 : cd_I 141 131 = some (.invokevirtual 219, 142, 1) := by decide +kernel
theorem cd_i141_134 : cd_I 141 134 = some (.aload_n 0, 0, 0) := by decide +kernel
theorem cd_i141_135 : cd_I 141 135 = some (.bipush 41, 0, 0) := by decide +kernel
theorem cd_i141_137 : cd_I 141 137 = some (.invokevirtual 204, 133, 1) := by decide +kernel
theorem cd_i141_140 : cd_I 141 140 = some (.return_, 0, 0) := by decide +kernel
theorem cd_i142_0 : cd_I 142 0 = some (.iconst 0, 0, 0) := by decide +kernel
theorem cd_i142_1 : cd_I 142 1 = some (.istore_n 2, 0, 0) := by decide +kernel
theorem cd_i142_2 : cd_I 142 2 = some (.iload_n 2, 0, 0) := by decide +kernel
theorem cd_i142_3 : cd_I 142 3 = some (.aload_n 0, 0, 0) := by decide +kernel
theorem cd_i142_4 : cd_I 142 4 = some (.getfield 61, 11, 22) := by decide +kernel
theorem cd_i142_7 : cd_I 142 7 = some (.iload_n 1, 0, 0) := by decide +kernel
theorem cd_i142_8 : cd_I 142 8 = some (.iaload, 0, 0) := by decide +kernel
theorem cd_i142_9 : cd_I 142 9 = some (.if_icmp .ge 24, 33, 0) := by decide +kernel
theorem cd_i142_12 : cd_I 142 12 = some (.aload_n 0, 0, 0) := by decide +kernel
theorem cd_i142_13 : cd_I 142 13 = some (.aload_n 0, 0, 0) := by decide +kernel
theorem cd_i142_14 : cd_I 142 14 = some (.getfield 64, 11, 23) := by decide +kernel
theorem cd_i142_17 : cd_I 142 17 = some (.bipush 24, 0, 0) := by decide +kernel
theorem cd_i142_19 : cd_I 142 19 = some (.iload_n 1, 0, 0) := by decide +kernel
theorem cd_i142_20 : cd_I 142 20 = some (.imul, 0, 0) := by decide +kernel
theorem cd_i142_21 : cd_I 142 21 = some (.iload_n 2, 0, 0) := by decide +kernel
theorem cd_i142_22 : cd_I 142 22 = some (.iadd, 0, 0) := by decide +kernel
theorem cd_i142_23 : cd_I 142 23 = some (.caload, 0, 0) := by decide +kernel
theorem cd_i142_24 : cd_I 142 24 = some (.invokevirtual 204, 133, 1) := by decide +kernel
theorem cd_i142_27 : cd_I 142 27 = some (.iinc 2 1, 0, 0) := by decide +kernel
theorem cd_i142_30 : cd_I 142 30 = some (.goto (-28), 2, 0) := by decide +kernel
theorem cd_i142_33 : cd_I 142 33 = some (.return_, 0, 0) := by decide +kernel
theorem cd_i143_0 : cd_I 143 0 = some (.iload_n 1, 0, 0) := by decide +kernel
theorem cd_i143_1 : cd_I 143 1 = some (.iconst 3, 0, 0) := by decide +kernel
theorem cd_i143_2 : cd_I 143 2 = some (.if_icmp .lt 11, 13, 0) := by decide +kernel
theorem cd_i143_5 : cd_I 143 5 = some (.aload_n 0, 0, 0) := by decide +kernel
theorem cd_i143_6 : cd_I 143 6 = some (.iload_n 2, 0, 0) := by decide +kernel
theorem cd_i143_7 : cd_I 143 7 = some (.invokevirtual 198, 144, 1) := by decide +kernel
theorem cd_i143_10 : cd_I 143 10 = some (.ifCond .ne 5, 15, 0) := by decide +kernel
theorem cd_i143_13 : cd_I 143 13 = some (.iconst 0, 0, 0) := by decide +kernel
theorem cd_i143_14 : cd_I 143 14 = some (.ireturn, 0, 0) := by decide +kernel
theorem cd_i143_15 : cd_I 143 15 = some (.iload_n 1, 0, 0) := by decide +kernel
theorem cd_i143_16 : cd_I 143 16 = some (.iconst 3, 0, 0) := by decide +kernel
theorem cd_i143_17 : cd_I 143 17 = some (.isub, 0, 0) := by decide +kernel
theorem cd_i143_18 : cd_I 143 18 = some (.istore_n 3, 0, 0) := by decide +kernel
theorem cd_i143_19 : cd_I 143 19 = some (.iload_n 3, 0, 0) := by decide +kernel
theorem cd_i143_20 : cd_I 143 20 = some (.iconst (-1), 0, 0) := by decide +kernel
theorem cd_i143_21 : cd_I 143 21 = some (.if_icmp .eq 103, 124, 0) := by decide +kernel
theorem cd_i143_24 : cd_I 143 24 = some (.aload_n 0, 0, 0) := by decide +kernel
theorem cd_i143_25 : cd_I 143 25 = some (.getfield 13, 11, 5) := by decide +kernel
theorem cd_i143_28 : cd_I 143 28 = some (.iload_n 3, 0, 0) := by decide +kernel
theorem cd_i143_29 : cd_I 143 29 = some (.baload, 0, 0) := by decide +kernel
theorem cd_i143_30 : cd_I 143 30 = some (.ifCond .eq 94, 124, 0) := by decide +kernel
theorem cd_i143_33 : cd_I 143 33 = some (.iload_n 2, 0, 0) := by decide +kernel
theorem cd_i143_34 : cd_I 143 34 = some (.bipush 6, 0, 0) := by decide +kernel
theorem cd_i143_36 : cd_I 143 36 = some (.idiv, 0, 0) := by decide +kernel
theorem cd_i143_37 : cd_I 143 37 = some (.iload_n 3, 0, 0) := by decide +kernel
theorem cd_i143_38 : cd_I 143 38 = some (.if_icmp .ne 5, 43, 0) := by decide +kernel
theorem cd_i143_41 : cd_I 143 41 = some (.iconst 1, 0, 0) := by decide +kernel
theorem cd_i143_42 : cd_I 143 42 = some (.ireturn, 0, 0) := by decide +kernel
theorem cd_i143_43 : cd_I 143 43 = some (.bipush 6, 0, 0) := by decide +kernel
theorem cd_i143_45 : cd_I 143 45 = some (.iload_n 3, 0, 0) := by decide +kernel
theorem cd_i143_46 : cd_I 143 46 = some (.imul, 0, 0) := by decide +kernel
theorem cd_i143_47 : cd_I 143 47 = some (.istore 4, 0, 0) := by decide +kernel
theorem cd_i143_49 : cd_I 143 49 = some (.iload 4, 0, 0) := by decide +kernel
theorem cd_i143_51 : cd_I 143 51 = some (.bipush 6, 0, 0) := by decide +kernel
theorem cd_i143_53 : cd_I 143 53 = some (.iload_n 3, 0, 0) := by decide +kernel
theorem cd_i143_54 : cd_I 143 54 = some (.imul, 0, 0) := by decide +kernel
theorem cd_i143_55 : cd_I 143 55 = some (.aload_n 0, 0, 0) := by decide +kernel
theorem cd_i143_56 : cd_I 143 56 = some (.getfield 21, 11, 7) := by decide +kernel
theorem cd_i143_59 : cd_I 143 59 = some (.iload_n 3, 0, 0) := by decide +kernel
theorem cd_i143_60 : cd_I 143 60 = some (.iaload, 0, 0) := by decide +kernel
theorem cd_i143_61 : cd_I 143 61 = some (.iadd, 0, 0) := by decide +kernel
theorem cd_i143_62 : cd_I 143 62 = some (.if_icmp .ge 52, 114, 0) := by decide +kernel
theorem cd_i143_65 : cd_I 143 65 = some (.aload_n 0, 0, 0) := by decide +kernel
theorem cd_i143_66 : cd_I 143 66 = some (.iload 4, 0, 0) := by decide +kernel
theorem cd_i143_68 : cd_I 143 68 = some (.invokevirtual 198, 144, 1) := by decide +kernel
theorem cd_i143_71 : cd_I 143 71 = some (.ifCond .eq 37, 108, 0) := by decide +kernel
theorem cd_i143_74 : cd_I 143 74 = some (.aload_n 0, 0, 0) := by decide +kernel
theorem cd_i143_75 : cd_I 143 75 = some (.getfield 24, 11, 8) := by decide +kernel
theorem cd_i143_78 : cd_I 143 78 = some (.iload 4, 0, 0) := by decide +kernel
theorem cd_i143_80 : cd_I 143 80 = some (.iaload, 0, 0) := by decide +kernel
theorem cd_i143_81 : cd_I 143 81 = some (.aload_n 0, 0, 0) := by decide +kernel
theorem cd_i143_82 : cd_I 143 82 = some (.getfield 24, 11, 8) := by decide +kernel
theorem cd_i143_85 : cd_I 143 85 = some (.iload_n 2, 0, 0) := by decide +kernel
theorem cd_i143_86 : cd_I 143 86 = some (.iaload, 0, 0) := by decide +kernel
theorem cd_i143_87 : cd_I 143 87 = some (.if_icmp .ne 21, 108, 0) := by decide +kernel
theorem cd_i143_90 : cd_I 143 90 = some (.aload_n 0, 0, 0) := by decide +kernel
theorem cd_i143_91 : cd_I 143 91 = some (.getfield 33, 11, 11) := by decide +kernel
theorem cd_i143_94 : cd_I 143 94 = some (.iload 4, 0, 0) := by decide +kernel
theorem cd_i143_96 : cd_I 143 96 = some (.iaload, 0, 0) := by decide +kernel
theorem cd_i143_97 : cd_I 143 97 = some (.aload_n 0, 0, 0) := by decide +kernel
theorem cd_i143_98 : cd_I 143 98 = some (.getfield 33, 11, 11) := by decide +kernel
theorem cd_i143_101 : cd_I 143 101 = some (.iload_n 2, 0, 0) := by decide +kernel
theorem cd_i143_102 : cd_I 143 102 = some (.iaload, 0, 0) := by decide +kernel
theorem cd_i143_103 : cd_I 143 103 = some (.if_icmp .ne 5, 108, 0) := by decide +kernel
theorem cd_i143_106 : cd_I 143 106 = some (.iconst 0, 0, 0) := by decide +kernel
theorem cd_i143_107 : cd_I 143 107 = some (.ireturn, 0, 0) := by decide +kernel
theorem cd_i143_108 : cd_I 143 108 = some (.iinc 4 1, 0, 0) := by decide +kernel
theorem cd_i143_111 : cd_I 143 111 = some (.goto (-62), 49, 0) := by decide +kernel
theorem cd_i143_114 : cd_I 143 114 = some (.aload_n 0, 0, 0) := by decide +kernel
theorem cd_i143_115 : cd_I 143 115 = some (.getfield 17, 11, 6) := by decide +kernel
theorem cd_i143_118 : cd_I 143 118 = some (.iload_n 3, 0, 0) := by decide +kernel
theorem cd_i143_119 : cd_I 143 119 = some (.iaload, 0, 0) := by decide +kernel
theorem cd_i143_120 : cd_I 143 120 = some (.istore_n 3, 0, 0) := by decide +kernel
theorem cd_i143_121 : cd_I 143 121 = some (.goto (-102), 19, 0) := by decide +kernel
theorem cd_i143_124 : cd_I 143 124 = some (.iconst 0, 0, 0) := by decide +kernel
theorem cd_i143_125 : cd_I 143 125 = some (.ireturn, 0, 0) := by decide +kernel
theorem cd_i144_0 : cd_I 144 0 = some (.aload_n 0, 0, 0) := by decide +kernel
theorem cd_i144_1 : cd_I 144 1 = some (.getfield 24, 11, 8) := by decide +kernel
theorem cd_i144_4 : cd_I 144 4 = some (.iload_n 1, 0, 0) := by decide +kernel
theorem cd_i144_5 : cd_I 144 5 = some (.iaload, 0, 0) := by decide +kernel
theorem cd_i144_6 : cd_I 144 6 = some (.iconst 2, 0, 0) := by decide +kernel
theorem cd_i144_7 : cd_I 144 7 = some (.if_icmp .eq 24, 31, 0) := by decide +kernel
theorem cd_i144_10 : cd_I 144 10 = some (.aload_n 0, 0, 0) := by decide +kernel
theorem cd_i144_11 : cd_I 144 11 = some (.getfield 27, 11, 9) := by decide +kernel
theorem cd_i144_14 : cd_I 144 14 = some (.iload_n 1, 0, 0) := by decide +kernel
theorem cd_i144_15 : cd_I 144 15 = some (.baload, 0, 0) := by decide +kernel
theorem cd_i144_16 : cd_I 144 16 = some (.ifCond .ne 15, 31, 0) := by decide +kernel
theorem cd_i144_19 : cd_I 144 19 = some (.aload_n 0, 0, 0) := by decide +kernel
theorem cd_i144_20 : cd_I 144 20 = some (.iload_n 1, 0, 0) := by decide +kernel
theorem cd_i144_21 : cd_I 144 21 = some (.invokevirtual 195, 138, 1) := by decide +kernel
theorem cd_i144_24 : cd_I 144 24 = some (.ifCond .eq 7, 31, 0) := by decide +kernel
theorem cd_i144_27 : cd_I 144 27 = some (.iconst 1, 0, 0) := by decide +kernel
theorem cd_i144_28 : cd_I 144 28 = some (.goto 4, 32, 0) := by decide +kernel
theorem cd_i144_31 : cd_I 144 31 = some (.iconst 0, 0, 0) := by decide +kernel
theorem cd_i144_32 : cd_I 144 32 = some (.ireturn, 0, 0) := by decide +kernel
theorem cd_i145_0 : cd_I 145 0 = some (.aload_n 0, 0, 0) := by decide +kernel
theorem cd_i145_1 : cd_I 145 1 = some (.getfield 70, 11, 28) := by decide +kernel
theorem cd_i145_4 : cd_I 145 4 = some (.aload_n 0, 0, 0) := by decide +kernel
theorem cd_i145_5 : cd_I 145 5 = some (.getfield 247, 11, 27) := by decide +kernel
theorem cd_i145_8 : cd_I 145 8 = some (.aload_n 0, 0, 0) := by decide +kernel
theorem cd_i145_9 : cd_I 145 9 = some (.getfield 55, 11, 20) := by decide +kernel
theorem cd_i145_12 : cd_I 145 12 = some (.iload_n 1, 0, 0) := by decide +kernel
theorem cd_i145_13 : cd_I 145 13 = some (.iaload, 0, 0) := by decide +kernel
theorem cd_i145_14 : cd_I 145 14 = some (.iastore, 0, 0) := by decide +kernel
theorem cd_i145_15 : cd_I 145 15 = some (.aload_n 0, 0, 0) := by decide +kernel
theorem cd_i145_16 : cd_I 145 16 = some (.getfield 73, 11, 29) := by decide +kernel
theorem cd_i145_19 : cd_I 145 19 = some (.aload_n 0, 0, 0) := by decide +kernel
theorem cd_i145_20 : cd_I 145 20 = some (.getfield 247, 11, 27) := by decide +kernel
theorem cd_i145_23 : cd_I 145 23 = some (.aload_n 0, 0, 0) := by decide +kernel
theorem cd_i145_24 : cd_I 145 24 = some (.getfield 58, 11, 21) := by decide +kernel
theorem cd_i145_27 : cd_I 145 27 = some (.iload_n 1, 0, 0) := by decide +kernel
theorem cd_i145_28 : cd_I 145 28 = some (.iaload, 0, 0) := by decide +kernel
theorem cd_i145_29 : cd_I 145 29 = some (.iastore, 0, 0) := by decide +kernel
theorem cd_i145_30 : cd_I 145 30 = some (.aload_n 0, 0, 0) := by decide +kernel
theorem cd_i145_31 : cd_I 145 31 = some (.getfield 76, 11, 30) := by decide +kernel
theorem cd_i145_34 : cd_I 145 34 = some (.aload_n 0, 0, 0) := by decide +kernel
theorem cd_i145_35 : cd_I 145 35 = some (.getfield 247, 11, 27) := by decide +kernel
theorem cd_i145_38 : cd_I 145 38 = some (.aload_n 0, 0, 0) := by decide +kernel
theorem cd_i145_39 : cd_I 145 39 = some (.getfield 61, 11, 22) := by decide +kernel
theorem cd_i145_42 : cd_I 145 42 = some (.iload_n 1, 0, 0) := by decide +kernel
theorem cd_i145_43 : cd_I 145 43 = some (.iaload, 0, 0) := by decide +kernel
theorem cd_i145_44 : cd_I 145 44 = some (.iastore, 0, 0) := by decide +kernel
theorem cd_i145_45 : cd_I 145 45 = some (.iconst 0, 0, 0) := by decide +kernel
theorem cd_i145_46 : cd_I 145 46 = some (.istore_n 2, 0, 0) := by decide +kernel
theorem cd_i145_47 : cd_I 145 47 = some (.iload_n 2, 0, 0) := by decide +kernel
theorem cd_i145_48 : cd_I 145 48 = some (.bipush 24, 0, 0) := by decide +kernel
theorem cd_i145_50 : cd_I 145 50 = some (.if_icmp .ge 34, 84, 0) := by decide +kernel
theorem cd_i145_53 : cd_I 145 53 = some (.aload_n 0, 0, 0) := by decide +kernel
theorem cd_i145_54 : cd_I 145 54 = some (.getfield 79, 11, 31) := by decide +kernel
theorem cd_i145_57 : cd_I 145 57 = some (.bipush 24, 0, 0) := by decide +kernel
theorem cd_i145_59 : cd_I 145 59 = some (.aload_n 0, 0, 0) := by decide +kernel
theorem cd_i145_60 : cd_I 145 60 = some (.getfield 247, 11, 27) := by decide +kernel
theorem cd_i145_63 : cd_I 145 63 = some (.imul, 0, 0) := by decide +kernel
theorem cd_i145_64 : cd_I 145 64 = some (.iload_n 2, 0, 0) := by decide +kernel
theorem cd_i145_65 : cd_I 145 65 = some (.iadd, 0, 0) := by decide +kernel
theorem cd_i145_66 : cd_I 145 66 = some (.aload_n 0, 0, 0) := by decide +kernel
theorem cd_i145_67 : cd_I 145 67 = some (.getfield 64, 11, 23) := by decide +kernel
theorem cd_i145_70 : cd_I 145 70 = some (.bipush 24, 0, 0) := by decide +kernel
theorem cd_i145_72 : cd_I 145 72 = some (.iload_n 1, 0, 0) := by decide +kernel
theorem cd_i145_73 : cd_I 145 73 = some (.imul, 0, 0) := by decide +kernel
theorem cd_i145_74 : cd_I 145 74 = some (.iload_n 2, 0, 0) := by decide +kernel
theorem cd_i145_75 : cd_I 145 75 = some (.iadd, 0, 0) := by decide +kernel
theorem cd_i145_76 : cd_I 145 76 = some (.caload, 0, 0) := by decide +kernel
theorem cd_i145_77 : cd_I 145 77 = some (.castore, 0, 0) := by decide +kernel
theorem cd_i145_78 : cd_I 145 78 = some (.iinc 2 1, 0, 0) := by decide +kernel
theorem cd_i145_81 : cd_I 145 81 = some (.goto (-34), 47, 0) := by decide +kernel
theorem cd_i145_84 : cd_I 145 84 = some (.aload_n 0, 0, 0) := by decide +kernel
theorem cd_i145_85 : cd_I 145 85 = some (.dup, 0, 0) := by decide +kernel
theorem cd_i145_86 : cd_I 145 86 = some (.getfield 247, 11, 27) := by decide +kernel
theorem cd_i145_89 : cd_I 145 89 = some (.iconst 1, 0, 0) := by decide +kernel
theorem cd_i145_90 : cd_I 145 90 = some (.iadd, 0, 0) := by decide +kernel
theorem cd_i145_91 : cd_I 145 91 = some (.putfield 247, 11, 27) := by decide +kernel
theorem cd_i145_94 : cd_I 145 94 = some (.return_, 0, 0) := by decide +kernel
theorem cd_i146_0 : cd_I 146 0 = some (.aload_n 0, 0, 0) := by decide +kernel
theorem cd_i146_1 : cd_I 146 1 = some (.iconst 0, 0, 0) := by decide +kernel
theorem cd_i146_2 : cd_I 146 2 = some (.putfield 98, 11, 3) := by decide +kernel
theorem cd_i146_5 : cd_I 146 5 = some (.aload_n 0, 0, 0) := by decide +kernel
theorem cd_i146_6 : cd_I 146 6 = some (.iconst 1, 0, 0) := by decide +kernel
theorem cd_i146_7 : cd_I 146 7 = some (.putfield 101, 11, 4) := by decide +kernel
theorem cd_i146_10 : cd_I 146 10 = some (.aload_n 0, 0, 0) := by decide +kernel
theorem cd_i146_11 : cd_I 146 11 = some (.iconst 0, 0, 0) := by decide +kernel
theorem cd_i146_12 : cd_I 146 12 = some (.putfield 256, 11, 33) := by decide +kernel
theorem cd_i146_15 : cd_I 146 15 = some (.aload_n 0, 0, 0) := by decide +kernel
theorem cd_i146_16 : cd_I 146 16 = some (.iconst 0, 0, 0) := by decide +kernel
theorem cd_i146_17 : cd_I 146 17 = some (.putfield 253, 11, 36) := by decide +kernel
theorem cd_i146_20 : cd_I 146 20 = some (.aload_n 0, 0, 0) := by decide +kernel
theorem cd_i146_21 : cd_I 146 21 = some (.invokevirtual 269, 147, 0) := by decide +kernel
theorem cd_i146_24 : cd_I 146 24 = some (.istore_n 1, 0, 0) := by decide +kernel
theorem cd_i146_25 : cd_I 146 25 = some (.aload_n 0, 0, 0) := by decide +kernel
theorem cd_i146_26 : cd_I 146 26 = some (.getfield 101, 11, 4) := by decide +kernel
theorem cd_i146_29 : cd_I 146 29 = some (.ifCond .eq 46, 75, 0) := by decide +kernel
theorem cd_i146_32 : cd_I 146 32 = some (.iload_n 1, 0, 0) := by decide +kernel
theorem cd_i146_33 : cd_I 146 33 = some (.iconst (-1), 0, 0) := by decide +kernel
theorem cd_i146_34 : cd_I 146 34 = some (.if_icmp .eq 20, 54, 0) := by decide +kernel
theorem cd_i146_37 : cd_I 146 37 = some (.aload_n 0, 0, 0) := by decide +kernel
theorem cd_i146_38 : cd_I 146 38 = some (.getfield 256, 11, 33) := by decide +kernel
theorem cd_i146_41 : cd_I 146 41 = some (.ifCond .gt 13, 54, 0) := by decide +kernel
theorem cd_i146_44 : cd_I 146 44 = some (.aload_n 0, 0, 0) := by decide +kernel
theorem cd_i146_45 : cd_I 146 45 = some (.iconst 0, 0, 0) := by decide +kernel
theorem cd_i146_46 : cd_I 146 46 = some (.invokevirtual 105, 105, 1) := by decide +kernel
theorem cd_i146_49 : cd_I 146 49 = some (.bipush 46, 0, 0) := by decide +kernel
theorem cd_i146_51 : cd_I 146 51 = some (.if_icmp .ne 24, 75, 0) := by decide +kernel
theorem cd_i146_54 : cd_I 146 54 = some (.iload_n 1, 0, 0) := by decide +kernel
theorem cd_i146_55 : cd_I 146 55 = some (.iconst (-1), 0, 0) := by decide +kernel
theorem cd_i146_56 : cd_I 146 56 = some (.if_icmp .ne 10, 66, 0) := by decide +kernel
theorem cd_i146_59 : cd_I 146 59 = some (.aload_n 0, 0, 0) := by decide +kernel
theorem cd_i146_60 : cd_I 146 60 = some (.invokevirtual 269, 147, 0) := by decide +kernel
theorem cd_i146_63 : cd_I 146 63 = some (.goto 8, 71, 0) := by decide +kernel
theorem cd_i146_66 : cd_I 146 66 = some (.aload_n 0, 0, 0) := by decide +kernel
theorem cd_i146_67 : cd_I 146 67 = some (.iload_n 1, 0, 0) := by decide +kernel
theorem cd_i146_68 : cd_I 146 68 = some (.invokevirtual 272, 151, 1) := by decide +kernel
theorem cd_i146_71 : cd_I 146 71 = some (.istore_n 1, 0, 0) := by decide +kernel
theorem cd_i146_72 : cd_I 146 72 = some (.goto (-47), 25, 0) := by decide +kernel
theorem cd_i146_75 : cd_I 146 75 = some (.aload_n 0, 0, 0) := by decide +kernel
theorem cd_i146_76 : cd_I 146 76 = some (.aload_n 0, 0, 0) := by decide +kernel
theorem cd_i146_77 : cd_I 146 77 = some (.getfield 98, 11, 3) := by decide +kernel
theorem cd_i146_80 : cd_I 146 80 = some (.aload_n 0, 0, 0) := by decide +kernel
theorem cd_i146_81 : cd_I 146 81 = some (.getfield 95, 11, 2) := by decide +kernel
theorem cd_i146_84 : cd_I 146 84 = some (.if_icmp .ne 7, 91, 0) := by decide +kernel
theorem cd_i146_87 : cd_I 146 87 = some (.iconst 1, 0, 0) := by decide +kernel
theorem cd_i146_88 : cd_I 146 88 = some (.goto 4, 92, 0) := by decide +kernel
theorem cd_i146_91 : cd_I 146 91 = some (.iconst 0, 0, 0) := by decide +kernel
theorem cd_i146_92 : cd_I 146 92 = some (.invokevirtual 113, 107, 1) := by decide +kernel
theorem cd_i146_95 : cd_I 146 95 = some (.aload_n 0, 0, 0) := by decide +kernel
theorem cd_i146_96 : cd_I 146 96 = some (.iconst 0, 0, 0) := by decide +kernel
theorem cd_i146_97 : cd_I 146 97 = some (.putfield 95, 11, 2) := by decide +kernel
theorem cd_i146_100 : cd_I 146 100 = some (.aload_n 0, 0, 0) := by decide +kernel
theorem cd_i146_101 : cd_I 146 101 = some (.getfield 101, 11, 4) := by decide +kernel
theorem cd_i146_104 : cd_I 146 104 = some (.ifCond .ne 9, 113, 0) := by decide +kernel
theorem cd_i146_107 : cd_I 146 107 = some (.aload_n 0, 0, 0) := by decide +kernel
theorem cd_i146_108 : cd_I 146 108 = some (.iconst 1, 0, 0) := by decide +kernel
theorem cd_i146_109 : cd_I 146 109 = some (.invokevirtual 176, 121, 1) := by decide +kernel
theorem cd_i146_112 : cd_I 146 112 = some (.ireturn, 0, 0) := by decide +kernel
theorem cd_i146_113 : cd_I 146 113 = some (.aload_n 0, 0, 0) := by decide +kernel
theorem cd_i146_114 : cd_I 146 114 = some (.iconst 0, 0, 0) := by decide +kernel
theorem cd_i146_115 : cd_I 146 115 = some (.putfield 88, 11, 0) := by decide +kernel
theorem cd_i146_118 : cd_I 146 118 = some (.aload_n 0, 0, 0) := by decide +kernel
theorem cd_i146_119 : cd_I 146 119 = some (.aload_n 0, 0, 0) := by decide +kernel
theorem cd_i146_120 : cd_I 146 120 = some (.getfield 253, 11, 36) := by decide +kernel
theorem cd_i146_123 : cd_I 146 123 = some (.putfield 275, 11, 32) := by decide +kernel
theorem cd_i146_126 : cd_I 146 126 = some (.iload_n 1, 0, 0) := by decide +kernel
theorem cd_i146_127 : cd_I 146 127 = some (.ireturn, 0, 0) := by decide +kernel
theorem cd_i147_0 : cd_I 147 0 = some (.aload_n 0, 0, 0) := by decide +kernel
theorem cd_i147_1 : cd_I 147 1 = some (.iconst 4, 0, 0) := by decide +kernel
theorem cd_i147_2 : cd_I 147 2 = some (.bipush 110, 0, 0) := by decide +kernel
theorem cd_i147_4 : cd_I 147 4 = some (.bipush 101, 0, 0) := by decide +kernel
theorem cd_i147_6 : cd_I 147 6 = some (.bipush 119, 0, 0) := by decide +kernel
theorem cd_i147_8 : cd_I 147 8 = some (.bipush 32, 0, 0) := by decide +kernel
theorem cd_i147_10 : cd_I 147 10 = some (.iconst 0, 0, 0) := by decide +kernel
theorem cd_i147_11 : cd_I 147 11 = some (.iconst 0, 0, 0) := by decide +kernel
theorem cd_i147_12 : cd_I 147 12 = some (.invokevirtual 145, 111, 7) := by decide +kernel
theorem cd_i147_15 : cd_I 147 15 = some (.ifCond .eq 29, 44, 0) := by decide +kernel
theorem cd_i147_18 : cd_I 147 18 = some (.aload_n 0, 0, 0) := by decide +kernel
theorem cd_i147_19 : cd_I 147 19 = some (.invokevirtual 135, 104, 0) := by decide +kernel
theorem cd_i147_22 : cd_I 147 22 = some (.istore_n 1, 0, 0) := by decide +kernel
theorem cd_i147_23 : cd_I 147 23 = some (.aload_n 0, 0, 0) := by decide +kernel
theorem cd_i147_24 : cd_I 147 24 = some (.getfield 101, 11, 4) := by decide +kernel
theorem cd_i147_27 : cd_I 147 27 = some (.ifCond .eq 15, 42, 0) := by decide +kernel
theorem cd_i147_30 : cd_I 147 30 = some (.aload_n 0, 0, 0) := by decide +kernel
theorem cd_i147_31 : cd_I 147 31 = some (.aload_n 0, 0, 0) := by decide +kernel
theorem cd_i147_32 : cd_I 147 32 = some (.iload_n 1, 0, 0) := by decide +kernel
theorem cd_i147_33 : cd_I 147 33 = some (.invokevirtual 259, 148, 1) := by decide +kernel
theorem cd_i147_36 : cd_I 147 36 = some (.invokevirtual 262, 149, 1) := by decide +kernel
theorem cd_i147_39 : cd_I 147 39 = some (.goto 4, 43, 0) := by decide +kernel
theorem cd_i147_42 : cd_I 147 42 = some (.iconst (-1), 0, 0) := by decide +kernel
theorem cd_i147_43 : cd_I 147 43 = some (.ireturn, 0, 0) := by decide +kernel
theorem cd_i147_44 : cd_I 147 44 = some (.aload_n 0, 0, 0) := by decide +kernel
theorem cd_i147_45 : cd_I 147 45 = some (.iconst 0, 0, 0) := by decide +kernel
theorem cd_i147_46 : cd_I 147 46 = some (.invokevirtual 105, 105, 1) := by decide +kernel
theorem cd_i147_49 : cd_I 147 49 = some (.invokestatic 132, 106, 1) := by decide +kernel
theorem cd_i147_52 : cd_I 147 52 = some (.ifCond .eq 58, 110, 0) := by decide +kernel
theorem cd_i147_55 : cd_I 147 55 = some (.aload_n 0, 0, 0) := by decide +kernel
theorem cd_i147_56 : cd_I 147 56 = some (.invokevirtual 135, 104, 0) := by decide +kernel
theorem cd_i147_59 : cd_I 147 59 = some (.istore_n 1, 0, 0) := by decide +kernel
theorem cd_i147_60 : cd_I 147 60 = some (.aload_n 0, 0, 0) := by decide +kernel
theorem cd_i147_61 : cd_I 147 61 = some (.bipush 46, 0, 0) := by decide +kernel
theorem cd_i147_63 : cd_I 147 63 = some (.invokevirtual 138, 109, 1) := by decide +kernel
theorem cd_i147_66 : cd_I 147 66 = some (.aload_n 0, 0, 0) := by decide +kernel
theorem cd_i147_67 : cd_I 147 67 = some (.invokevirtual 153, 117, 0) := by decide +kernel
theorem cd_i147_70 : cd_I 147 70 = some (.istore_n 2, 0, 0) := by decide +kernel
theorem cd_i147_71 : cd_I 147 71 = some (.aload_n 0, 0, 0) := by decide +kernel
theorem cd_i147_72 : cd_I 147 72 = some (.getfield 101, 11, 4) := by decide +kernel
theorem cd_i147_75 : cd_I 147 75 = some (.ifCond .eq 33, 108, 0) := by decide +kernel
theorem cd_i147_78 : cd_I 147 78 = some (.aload_n 0, 0, 0) := by decide +kernel
theorem cd_i147_79 : cd_I 147 79 = some (.aload_n 0, 0, 0) := by decide +kernel
theorem cd_i147_80 : cd_I 147 80 = some (.iconst (-1), 0, 0) := by decide +kernel
theorem cd_i147_81 : cd_I 147 81 = some (.iload_n 1, 0, 0) := by decide +kernel
theorem cd_i147_82 : cd_I 147 82 = some (.isub, 0, 0) := by decide +kernel
theorem cd_i147_83 : cd_I 147 83 = some (.iload_n 2, 0, 0) := by decide +kernel
theorem cd_i147_84 : cd_I 147 84 = some (.aload_n 0, 0, 0) := by decide +kernel
theorem cd_i147_85 : cd_I 147 85 = some (.iconst 0, 0, 0) := by decide +kernel
theorem cd_i147_86 : cd_I 147 86 = some (.invokevirtual 105, 105, 1) := by decide +kernel
theorem cd_i147_89 : cd_I 147 89 = some (.bipush 40, 0, 0) := by decide +kernel
theorem cd_i147_91 : cd_I 147 91 = some (.if_icmp .ne 7, 98, 0) := by decide +kernel
theorem cd_i147_94 : cd_I 147 94 = some (.iconst 1, 0, 0) := by decide +kernel
theorem cd_i147_95 : cd_I 147 95 = some (.goto 4, 99, 0) := by decide +kernel
theorem cd_i147_98 : cd_I 147 98 = some (.iconst 0, 0, 0) := by decide +kernel
theorem cd_i147_99 : cd_I 147 99 = some (.invokevirtual 265, 150, 3) := by decide +kernel
theorem cd_i147_102 : cd_I 147 102 = some (.invokevirtual 262, 149, 1) := by decide +kernel
theorem cd_i147_105 : cd_I 147 105 = some (.goto 4, 109, 0) := by decide +kernel
theorem cd_i147_108 : cd_I 147 108 = some (.iconst (-1), 0, 0) := by decide +kernel
theorem cd_i147_109 : cd_I 147 109 = some (.ireturn, 0, 0) := by decide +kernel
theorem cd_i147_110 : cd_I 147 110 = some (.aload_n 0, 0, 0) := by decide +kernel
theorem cd_i147_111 : cd_I 147 111 = some (.aload_n 0, 0, 0) := by decide +kernel
theorem cd_i147_112 : cd_I 147 112 = some (.invokevirtual 153, 117, 0) := by decide +kernel
theorem cd_i147_115 : cd_I 147 115 = some (.invokevirtual 186, 124, 1) := by decide +kernel
theorem cd_i147_118 : cd_I 147 118 = some (.istore_n 1, 0, 0) := by decide +kernel
theorem cd_i147_119 : cd_I 147 119 = some (.aload_n 0, 0, 0) := by decide +kernel
theorem cd_i147_120 : cd_I 147 120 = some (.iload_n 1, 0, 0) := by decide +kernel
theorem cd_i147_121 : cd_I 147 121 = some (.iconst (-1), 0, 0) := by decide +kernel
theorem cd_i147_122 : cd_I 147 122 = some (.if_icmp .eq 7, 129, 0) := by decide +kernel
theorem cd_i147_125 : cd_I 147 125 = some (.iconst 1, 0, 0) := by decide +kernel
theorem cd_i147_126 : cd_I 147 126 = some (.goto 4, 130, 0) := by decide +kernel
theorem cd_i147_129 : cd_I 147 129 = some (.iconst 0, 0, 0) := by decide +kernel
theorem cd_i147_130 : cd_I 147 130 = some (.invokevirtual 113, 107, 1) := by decide +kernel
theorem cd_i147_133 : cd_I 147 133 = some (.aload_n 0, 0, 0) := by decide +kernel
theorem cd_i147_134 : cd_I 147 134 = some (.getfield 101, 11, 4) := by decide +kernel
theorem cd_i147_137 : cd_I 147 137 = some (.ifCond .eq 12, 149, 0) := by decide +kernel
theorem cd_i147_140 : cd_I 147 140 = some (.aload_n 0, 0, 0) := by decide +kernel
theorem cd_i147_141 : cd_I 147 141 = some (.getfield 48, 11, 17) := by decide +kernel
theorem cd_i147_144 : cd_I 147 144 = some (.iload_n 1, 0, 0) := by decide +kernel
theorem cd_i147_145 : cd_I 147 145 = some (.iaload, 0, 0) := by decide +kernel
theorem cd_i147_146 : cd_I 147 146 = some (.goto 4, 150, 0) := by decide +kernel
theorem cd_i147_149 : cd_I 147 149 = some (.iconst (-1), 0, 0) := by decide +kernel
theorem cd_i147_150 : cd_I 147 150 = some (.ireturn, 0, 0) := by decide +kernel
theorem cd_i148_0 : cd_I 148 0 = some (.iconst (-1), 0, 0) := by decide +kernel
theorem cd_i148_1 : cd_I 148 1 = some (.istore_n 2, 0, 0) := by decide +kernel
theorem cd_i148_2 : cd_I 148 2 = some (.bipush 6, 0, 0) := by decide +kernel
theorem cd_i148_4 : cd_I 148 4 = some (.iload_n 1, 0, 0) := by decide +kernel
theorem cd_i148_5 : cd_I 148 5 = some (.imul, 0, 0) := by decide +kernel
theorem cd_i148_6 : cd_I 148 6 = some (.istore_n 3, 0, 0) := by decide +kernel
theorem cd_i148_7 : cd_I 148 7 = some (.iload_n 3, 0, 0) := by decide +kernel
theorem cd_i148_8 : cd_I 148 8 = some (.bipush 6, 0, 0) := by decide +kernel
theorem cd_i148_10 : cd_I 148 10 = some (.iload_n 1, 0, 0) := by decide +kernel
theorem cd_i148_11 : cd_I 148 11 = some (.imul, 0, 0) := by decide +kernel
theorem cd_i148_12 : cd_I 148 12 = some (.aload_n 0, 0, 0) := by decide +kernel
theorem cd_i148_13 : cd_I 148 13 = some (.getfield 21, 11, 7) := by decide +kernel
theorem cd_i148_16 : cd_I 148 16 = some (.iload_n 1, 0, 0) := by decide +kernel
theorem cd_i148_17 : cd_I 148 17 = some (.iaload, 0, 0) := by decide +kernel
theorem cd_i148_18 : cd_I 148 18 = some (.iadd, 0, 0) := by decide +kernel
theorem cd_i148_19 : cd_I 148 19 = some (.if_icmp .ge 33, 52, 0) := by decide +kernel
theorem cd_i148_22 : cd_I 148 22 = some (.aload_n 0, 0, 0) := by decide +kernel
theorem cd_i148_23 : cd_I 148 23 = some (.getfield 24, 11, 8) := by decide +kernel
theorem cd_i148_26 : cd_I 148 26 = some (.iload_n 3, 0, 0) := by decide +kernel
theorem cd_i148_27 : cd_I 148 27 = some (.iaload, 0, 0) := by decide +kernel
theorem cd_i148_28 : cd_I 148 28 = some (.iconst 2, 0, 0) := by decide +kernel
theorem cd_i148_29 : cd_I 148 29 = some (.if_icmp .ne 15, 44, 0) := by decide +kernel
theorem cd_i148_32 : cd_I 148 32 = some (.aload_n 0, 0, 0) := by decide +kernel
theorem cd_i148_33 : cd_I 148 33 = some (.iload_n 3, 0, 0) := by decide +kernel
theorem cd_i148_34 : cd_I 148 34 = some (.invokevirtual 195, 138, 1) := by decide +kernel
theorem cd_i148_37 : cd_I 148 37 = some (.ifCond .eq 7, 44, 0) := by decide +kernel
theorem cd_i148_40 : cd_I 148 40 = some (.iload_n 3, 0, 0) := by decide +kernel
theorem cd_i148_41 : cd_I 148 41 = some (.goto 4, 45, 0) := by decide +kernel
theorem cd_i148_44 : cd_I 148 44 = some (.iload_n 2, 0, 0) := by decide +kernel
theorem cd_i148_45 : cd_I 148 45 = some (.istore_n 2, 0, 0) := by decide +kernel
theorem cd_i148_46 : cd_I 148 46 = some (.iinc 3 1, 0, 0) := by decide +kernel
theorem cd_i148_49 : cd_I 148 49 = some (.goto (-42), 7, 0) := by decide +kernel
theorem cd_i148_52 : cd_I 148 52 = some (.iload_n 2, 0, 0) := by decide +kernel
theorem cd_i148_53 : cd_I 148 53 = some (.ireturn, 0, 0) := by decide +kernel
theorem cd_i149_0 : cd_I 149 0 = some (.aload_n 0, 0, 0) := by decide +kernel
theorem cd_i149_1 : cd_I 149 1 = some (.iload_n 1, 0, 0) := by decide +kernel
theorem cd_i149_2 : cd_I 149 2 = some (.iconst (-1), 0, 0) := by decide +kernel
theorem cd_i149_3 : cd_I 149 3 = some (.if_icmp .eq 7, 10, 0) := by decide +kernel
theorem cd_i149_6 : cd_I 149 6 = some (.iconst 1, 0, 0) := by decide +kernel
theorem cd_i149_7 : cd_I 149 7 = some (.goto 4, 11, 0) := by decide +kernel
theorem cd_i149_10 : cd_I 149 10 = some (.iconst 0, 0, 0) := by decide +kernel
theorem cd_i149_11 : cd_I 149 11 = some (.invokevirtual 113, 107, 1) := by decide +kernel
theorem cd_i149_14 : cd_I 149 14 = some (.aload_n 0, 0, 0) := by decide +kernel
theorem cd_i149_15 : cd_I 149 15 = some (.getfield 101, 11, 4) := by decide +kernel
theorem cd_i149_18 : cd_I 149 18 = some (.ifCond .ne 5, 23, 0) := by decide +kernel
theorem cd_i149_21 : cd_I 149 21 = some (.iconst (-1), 0, 0) := by decide +kernel
theorem cd_i149_22 : cd_I 149 22 = some (.ireturn, 0, 0) := by decide +kernel
theorem cd_i149_23 : cd_I 149 23 = some (.aload_n 0, 0, 0) := by decide +kernel
theorem cd_i149_24 : cd_I 149 24 = some (.dup, 0, 0) := by decide +kernel
theorem cd_i149_25 : cd_I 149 25 = some (.getfield 253, 11, 36) := by decide +kernel
theorem cd_i149_28 : cd_I 149 28 = some (.iconst 1, 0, 0) := by decide +kernel
theorem cd_i149_29 : cd_I 149 29 = some (.iadd, 0, 0) := by decide +kernel
theorem cd_i149_30 : cd_I 149 30 = some (.putfield 253, 11, 36) := by decide +kernel
theorem cd_i149_33 : cd_I 149 33 = some (.aload_n 0, 0, 0) := by decide +kernel
theorem cd_i149_34 : cd_I 149 34 = some (.getfield 24, 11, 8) := by decide +kernel
theorem cd_i149_37 : cd_I 149 37 = some (.iload_n 1, 0, 0) := by decide +kernel
theorem cd_i149_38 : cd_I 149 38 = some (.iaload, 0, 0) := by decide +kernel
theorem cd_i149_39 : cd_I 149 39 = some (.ifCond .ne 10, 49, 0) := by decide +kernel
theorem cd_i149_42 : cd_I 149 42 = some (.aload_n 0, 0, 0) := by decide +kernel
theorem cd_i149_43 : cd_I 149 43 = some (.getfield 36, 11, 12) := by decide +kernel
theorem cd_i149_46 : cd_I 149 46 = some (.iload_n 1, 0, 0) := by decide +kernel
theorem cd_i149_47 : cd_I 149 47 = some (.iaload, 0, 0) := by decide +kernel
theorem cd_i149_48 : cd_I 149 48 = some (.ireturn, 0, 0) := by decide +kernel
theorem cd_i149_49 : cd_I 149 49 = some (.aload_n 0, 0, 0) := by decide +kernel
theorem cd_i149_50 : cd_I 149 50 = some (.bipush 40, 0, 0) := by decide +kernel
theorem cd_i149_52 : cd_I 149 52 = some (.invokevirtual 138, 109, 1) := by decide +kernel
theorem cd_i149_55 : cd_I 149 55 = some (.aload_n 0, 0, 0) := by decide +kernel
theorem cd_i149_56 : cd_I 149 56 = some (.getfield 39, 11, 13) := by decide +kernel
theorem cd_i149_59 : cd_I 149 59 = some (.iload_n 1, 0, 0) := by decide +kernel
theorem cd_i149_60 : cd_I 149 60 = some (.iaload, 0, 0) := by decide +kernel
theorem cd_i149_61 : cd_I 149 61 = some (.ifCond .ne 16, 77, 0) := by decide +kernel
theorem cd_i149_64 : cd_I 149 64 = some (.aload_n 0, 0, 0) := by decide +kernel
theorem cd_i149_65 : cd_I 149 65 = some (.bipush 41, 0, 0) := by decide +kernel
theorem cd_i149_67 : cd_I 149 67 = some (.invokevirtual 138, 109, 1) := by decide +kernel
theorem cd_i149_70 : cd_I 149 70 = some (.aload_n 0, 0, 0) := by decide +kernel
theorem cd_i149_71 : cd_I 149 71 = some (.getfield 36, 11, 12) := by decide +kernel
theorem cd_i149_74 : cd_I 149 74 = some (.iload_n 1, 0, 0) := by decide +kernel
theorem cd_i149_75 : cd_I 149 75 = some (.iaload, 0, 0) := by decide +kernel
theorem cd_i149_76 : cd_I 149 76 = some (.ireturn, 0, 0) := by decide +kernel
theorem cd_i149_77 : cd_I 149 77 = some (.aload_n 0, 0, 0) := by decide +kernel
theorem cd_i149_78 : cd_I 149 78 = some (.aload_n 0, 0, 0) := by decide +kernel
theorem cd_i149_79 : cd_I 149 79 = some (.getfield 256, 11, 33) := by decide +kernel
theorem cd_i149_82 : cd_I 149 82 = some (.bipush 6, 0, 0) := by decide +kernel
theorem cd_i149_84 : cd_I 149 84 = some (.if_icmp .ge 7, 91, 0) := by decide +kernel
theorem cd_i149_87 : cd_I 149 87 = some (.iconst 1, 0, 0) := by decide +kernel
theorem cd_i149_88 : cd_I 149 88 = some (.goto 4, 92, 0) := by decide +kernel
theorem cd_i149_91 : cd_I 149 91 = some (.iconst 0, 0, 0) := by decide +kernel
theorem cd_i149_92 : cd_I 149 92 = some (.invokevirtual 113, 107, 1) := by decide +kernel
theorem cd_i149_95 : cd_I 149 95 = some (.aload_n 0, 0, 0) := by decide +kernel
theorem cd_i149_96 : cd_I 149 96 = some (.getfield 82, 11, 34) := by decide +kernel
theorem cd_i149_99 : cd_I 149 99 = some (.aload_n 0, 0, 0) := by decide +kernel
theorem cd_i149_100 : cd_I 149 100 = some (.getfield 256, 11, 33) := by decide +kernel
theorem cd_i149_103 : cd_I 149 103 = some (.iload_n 1, 0, 0) := by decide +kernel
theorem cd_i149_104 : cd_I 149 104 = some (.iastore, 0, 0) := by decide +kernel
theorem cd_i149_105 : cd_I 149 105 = some (.aload_n 0, 0, 0) := by decide +kernel
theorem cd_i149_106 : cd_I 149 106 = some (.getfield 85, 11, 35) := by decide +kernel
theorem cd_i149_109 : cd_I 149 109 = some (.aload_n 0, 0, 0) := by decide +kernel
theorem cd_i149_110 : cd_I 149 110 = some (.getfield 256, 11, 33) := by decide +kernel
theorem cd_i149_113 : cd_I 149 113 = some (.iconst 0, 0, 0) := by decide +kernel
theorem cd_i149_114 : cd_I 149 114 = some (.iastore, 0, 0) := by decide +kernel
theorem cd_i149_115 : cd_I 149 115 = some (.aload_n 0, 0, 0) := by decide +kernel
theorem cd_i149_116 : cd_I 149 116 = some (.dup, 0, 0) := by decide +kernel
theorem cd_i149_117 : cd_I 149 117 = some (.getfield 256, 11, 33) := by decide +kernel
theorem cd_i149_120 : cd_I 149 120 = some (.iconst 1, 0, 0) := by decide +kernel
theorem cd_i149_121 : cd_I 149 121 = some (.iadd, 0, 0) := by decide +kernel
theorem cd_i149_122 : cd_I 149 122 = some (.putfield 256, 11, 33) := by decide +kernel
theorem cd_i149_125 : cd_I 149 125 = some (.iconst (-1), 0, 0) := by decide +kernel
theorem cd_i149_126 : cd_I 149 126 = some (.ireturn, 0, 0) := by decide +kernel
theorem cd_i150_0 : cd_I 150 0 = some (.iconst (-1), 0, 0) := by decide +kernel
theorem cd_i150_1 : cd_I 150 1 = some (.istore 4, 0, 0) := by decide +kernel
theorem cd_i150_3 : cd_I 150 3 = some (.iconst 0, 0, 0) := by decide +kernel
theorem cd_i150_4 : cd_I 150 4 = some (.istore 5, 0, 0) := by decide +kernel
theorem cd_i150_6 : cd_I 150 6 = some (.iload 5, 0, 0) := by decide +kernel
theorem cd_i150_8 : cd_I 150 8 = some (.bipush 60, 0, 0) := by decide +kernel
theorem cd_i150_10 : cd_I 150 10 = some (.if_icmp .ge 133, 143, 0) := by decide +kernel
theorem cd_i150_13 : cd_I 150 13 = some (.aload_n 0, 0, 0) := by decide +kernel
theorem cd_i150_14 : cd_I 150 14 = some (.getfield 13, 11, 5) := by decide +kernel
theorem cd_i150_17 : cd_I 150 17 = some (.iload 5, 0, 0) := by decide +kernel
theorem cd_i150_19 : cd_I 150 19 = some (.bipush 6, 0, 0) := by decide +kernel
theorem cd_i150_21 : cd_I 150 21 = some (.idiv, 0, 0) := by decide +kernel
theorem cd_i150_22 : cd_I 150 22 = some (.baload, 0, 0) := by decide +kernel
theorem cd_i150_23 : cd_I 150 23 = some (.ifCond .eq 55, 78, 0) := by decide +kernel
theorem cd_i150_26 : cd_I 150 26 = some (.iload 5, 0, 0) := by decide +kernel
theorem cd_i150_28 : cd_I 150 28 = some (.bipush 6, 0, 0) := by decide +kernel
theorem cd_i150_30 : cd_I 150 30 = some (.irem, 0, 0) := by decide +kernel
theorem cd_i150_31 : cd_I 150 31 = some (.aload_n 0, 0, 0) := by decide +kernel
theorem cd_i150_32 : cd_I 150 32 = some (.getfield 21, 11, 7) := by decide +kernel
theorem cd_i150_35 : cd_I 150 35 = some (.iload 5, 0, 0) := by decide +kernel
theorem cd_i150_37 : cd_I 150 37 = some (.bipush 6, 0, 0) := by decide +kernel
theorem cd_i150_39 : cd_I 150 39 = some (.idiv, 0, 0) := by decide +kernel
theorem cd_i150_40 : cd_I 150 40 = some (.iaload, 0, 0) := by decide +kernel
theorem cd_i150_41 : cd_I 150 41 = some (.if_icmp .ge 37, 78, 0) := by decide +kernel
theorem cd_i150_44 : cd_I 150 44 = some (.aload_n 0, 0, 0) := by decide +kernel
theorem cd_i150_45 : cd_I 150 45 = some (.getfield 24, 11, 8) := by decide +kernel
theorem cd_i150_48 : cd_I 150 48 = some (.iload 5, 0, 0) := by decide +kernel
theorem cd_i150_50 : cd_I 150 50 = some (.iaload, 0, 0) := by decide +kernel
theorem cd_i150_51 : cd_I 150 51 = some (.iload_n 3, 0, 0) := by decide +kernel
theorem cd_i150_52 : cd_I 150 52 = some (.ifCond .eq 7, 59, 0) := by decide +kernel
theorem cd_i150_55 : cd_I 150 55 = some (.iconst 1, 0, 0) := by decide +kernel
theorem cd_i150_56 : cd_I 150 56 = some (.goto 4, 60, 0) := by decide +kernel
theorem cd_i150_59 : cd_I 150 59 = some (.iconst 0, 0, 0) := by decide +kernel
theorem cd_i150_60 : cd_I 150 60 = some (.if_icmp .ne 18, 78, 0) := by decide +kernel
theorem cd_i150_63 : cd_I 150 63 = some (.aload_n 0, 0, 0) := by decide +kernel
theorem cd_i150_64 : cd_I 150 64 = some (.getfield 33, 11, 11) := by decide +kernel
theorem cd_i150_67 : cd_I 150 67 = some (.iload 5, 0, 0) := by decide +kernel
theorem cd_i150_69 : cd_I 150 69 = some (.iaload, 0, 0) := by decide +kernel
theorem cd_i150_70 : cd_I 150 70 = some (.iload_n 2, 0, 0) := by decide +kernel
theorem cd_i150_71 : cd_I 150 71 = some (.if_icmp .ne 7, 78, 0) := by decide +kernel
theorem cd_i150_74 : cd_I 150 74 = some (.iconst 1, 0, 0) := by decide +kernel
theorem cd_i150_75 : cd_I 150 75 = some (.goto 4, 79, 0) := by decide +kernel
theorem cd_i150_78 : cd_I 150 78 = some (.iconst 0, 0, 0) := by decide +kernel
theorem cd_i150_79 : cd_I 150 79 = some (.istore 6, 0, 0) := by decide +kernel
theorem cd_i150_81 : cd_I 150 81 = some (.iload 6, 0, 0) := by decide +kernel
theorem cd_i150_83 : cd_I 150 83 = some (.ifCond .eq 54, 137, 0) := by decide +kernel
theorem cd_i150_86 : cd_I 150 86 = some (.iload_n 1, 0, 0) := by decide +kernel
theorem cd_i150_87 : cd_I 150 87 = some (.ifCond .lt 16, 103, 0) := by decide +kernel
theorem cd_i150_90 : cd_I 150 90 = some (.aload_n 0, 0, 0) := by decide +kernel
theorem cd_i150_91 : cd_I 150 91 = some (.iload_n 1, 0, 0) := by decide +kernel
theorem cd_i150_92 : cd_I 150 92 = some (.iload 5, 0, 0) := by decide +kernel
theorem cd_i150_94 : cd_I 150 94 = some (.invokevirtual 238, 143, 2) := by decide +kernel
theorem cd_i150_97 : cd_I 150 97 = some (.ifCond .eq 40, 137, 0) := by decide +kernel
theorem cd_i150_100 : cd_I 150 100 = some (.goto 33, 133, 0) := by decide +kernel
theorem cd_i150_103 : cd_I 150 103 = some (.iload 5, 0, 0) := by decide +kernel
theorem cd_i150_105 : cd_I 150 105 = some (.bipush 6, 0, 0) := by decide +kernel
theorem cd_i150_107 : cd_I 150 107 = some (.idiv, 0, 0) := by decide +kernel
theorem cd_i150_108 : cd_I 150 108 = some (.iconst (-1), 0, 0) := by decide +kernel
theorem cd_i150_109 : cd_I 150 109 = some (.iload_n 1, 0, 0) := by decide +kernel
theorem cd_i150_110 : cd_I 150 110 = some (.isub, 0, 0) := by decide +kernel
theorem cd_i150_111 : cd_I 150 111 = some (.if_icmp .ne 26, 137, 0) := by decide +kernel
theorem cd_i150_114 : cd_I 150 114 = some (.aload_n 0, 0, 0) := by decide +kernel
theorem cd_i150_115 : cd_I 150 115 = some (.getfield 27, 11, 9) := by decide +kernel
theorem cd_i150_118 : cd_I 150 118 = some (.iload 5, 0, 0) := by decide +kernel
theorem cd_i150_120 : cd_I 150 120 = some (.baload, 0, 0) := by decide +kernel
theorem cd_i150_121 : cd_I 150 121 = some (.ifCond .eq 16, 137, 0) := by decide +kernel
theorem cd_i150_124 : cd_I 150 124 = some (.aload_n 0, 0, 0) := by decide +kernel
theorem cd_i150_125 : cd_I 150 125 = some (.iload 5, 0, 0) := by decide +kernel
theorem cd_i150_127 : cd_I 150 127 = some (.invokevirtual 195, 138, 1) := by decide +kernel
theorem cd_i150_130 : cd_I 150 130 = some (.ifCond .eq 7, 137, 0) := by decide +kernel
theorem cd_i150_133 : cd_I 150 133 = some (.iload 5, 0, 0) := by decide +kernel
theorem cd_i150_135 : cd_I 150 135 = some (.istore 4, 0, 0) := by decide +kernel
theorem cd_i150_137 : cd_I 150 137 = some (.iinc 5 1, 0, 0) := by decide +kernel
theorem cd_i150_140 : cd_I 150 140 = some (.goto (-134), 6, 0) := by decide +kernel
theorem cd_i150_143 : cd_I 150 143 = some (.iload 4, 0, 0) := by decide +kernel
theorem cd_i150_145 : cd_I 150 145 = some (.ireturn, 0, 0) := by decide +kernel
theorem cd_i151_0 : cd_I 151 0 = some (.aload_n 0, 0, 0) := by decide +kernel
theorem cd_i151_1 : cd_I 151 1 = some (.bipush 46, 0, 0) := by decide +kernel
theorem cd_i151_3 : cd_I 151 3 = some (.invokevirtual 109, 108, 1) := by decide +kernel
theorem cd_i151_6 : cd_I 151 6 = some (.ifCond .eq 45, 51, 0) := by decide +kernel
theorem cd_i151_9 : cd_I 151 9 = some (.aload_n 0, 0, 0) := by decide +kernel
theorem cd_i151_10 : cd_I 151 10 = some (.invokevirtual 153, 117, 0) := by decide +kernel
theorem cd_i151_13 : cd_I 151 13 = some (.istore_n 2, 0, 0) := by decide +kernel
theorem cd_i151_14 : cd_I 151 14 = some (.aload_n 0, 0, 0) := by decide +kernel
theorem cd_i151_15 : cd_I 151 15 = some (.getfield 101, 11, 4) := by decide +kernel
theorem cd_i151_18 : cd_I 151 18 = some (.ifCond .eq 31, 49, 0) := by decide +kernel
theorem cd_i151_21 : cd_I 151 21 = some (.aload_n 0, 0, 0) := by decide +kernel
theorem cd_i151_22 : cd_I 151 22 = some (.aload_n 0, 0, 0) := by decide +kernel
theorem cd_i151_23 : cd_I 151 23 = some (.iload_n 1, 0, 0) := by decide +kernel
theorem cd_i151_24 : cd_I 151 24 = some (.iload_n 2, 0, 0) := by decide +kernel
theorem cd_i151_25 : cd_I 151 25 = some (.aload_n 0, 0, 0) := by decide +kernel
theorem cd_i151_26 : cd_I 151 26 = some (.iconst 0, 0, 0) := by decide +kernel
theorem cd_i151_27 : cd_I 151 27 = some (.invokevirtual 105, 105, 1) := by decide +kernel
theorem cd_i151_30 : cd_I 151 30 = some (.bipush 40, 0, 0) := by decide +kernel
theorem cd_i151_32 : cd_I 151 32 = some (.if_icmp .ne 7, 39, 0) := by decide +kernel
theorem cd_i151_35 : cd_I 151 35 = some (.iconst 1, 0, 0) := by decide +kernel
theorem cd_i151_36 : cd_I 151 36 = some (.goto 4, 40, 0) := by decide +kernel
theorem cd_i151_39 : cd_I 151 39 = some (.iconst 0, 0, 0) := by decide +kernel
theorem cd_i151_40 : cd_I 151 40 = some (.invokevirtual 265, 150, 3) := by decide +kernel
theorem cd_i151_43 : cd_I 151 43 = some (.invokevirtual 262, 149, 1) := by decide +kernel
theorem cd_i151_46 : cd_I 151 46 = some (.goto 4, 50, 0) := by decide +kernel
theorem cd_i151_49 : cd_I 151 49 = some (.iconst (-1), 0, 0) := by decide +kernel
theorem cd_i151_50 : cd_I 151 50 = some (.ireturn, 0, 0) := by decide +kernel
theorem cd_i151_51 : cd_I 151 51 = some (.aload_n 0, 0, 0) := by decide +kernel
theorem cd_i151_52 : cd_I 151 52 = some (.getfield 82, 11, 34) := by decide +kernel
theorem cd_i151_55 : cd_I 151 55 = some (.aload_n 0, 0, 0) := by decide +kernel
theorem cd_i151_56 : cd_I 151 56 = some (.getfield 256, 11, 33) := by decide +kernel
theorem cd_i151_59 : cd_I 151 59 = some (.iconst 1, 0, 0) := by decide +kernel
theorem cd_i151_60 : cd_I 151 60 = some (.isub, 0, 0) := by decide +kernel
theorem cd_i151_61 : cd_I 151 61 = some (.iaload, 0, 0) := by decide +kernel
theorem cd_i151_62 : cd_I 151 62 = some (.istore_n 2, 0, 0) := by decide +kernel
theorem cd_i151_63 : cd_I 151 63 = some (.aload_n 0, 0, 0) := by decide +kernel
theorem cd_i151_64 : cd_I 151 64 = some (.getfield 85, 11, 35) := by decide +kernel
theorem cd_i151_67 : cd_I 151 67 = some (.aload_n 0, 0, 0) := by decide +kernel
theorem cd_i151_68 : cd_I 151 68 = some (.getfield 256, 11, 33) := by decide +kernel
theorem cd_i151_71 : cd_I 151 71 = some (.iconst 1, 0, 0) := by decide +kernel
theorem cd_i151_72 : cd_I 151 72 = some (.isub, 0, 0) := by decide +kernel
theorem cd_i151_73 : cd_I 151 73 = some (.iaload, 0, 0) := by decide +kernel
theorem cd_i151_74 : cd_I 151 74 = some (.istore_n 3, 0, 0) := by decide +kernel
theorem cd_i151_75 : cd_I 151 75 = some (.aload_n 0, 0, 0) := by decide +kernel
theorem cd_i151_76 : cd_I 151 76 = some (.aload_n 0, 0, 0) := by decide +kernel
theorem cd_i151_77 : cd_I 151 77 = some (.iload_n 1, 0, 0) := by decide +kernel
theorem cd_i151_78 : cd_I 151 78 = some (.aload_n 0, 0, 0) := by decide +kernel
theorem cd_i151_79 : cd_I 151 79 = some (.getfield 42, 11, 14) := by decide +kernel
theorem cd_i151_82 : cd_I 151 82 = some (.iconst 2, 0, 0) := by decide +kernel
theorem cd_i151_83 : cd_I 151 83 = some (.iload_n 2, 0, 0) := by decide +kernel
theorem cd_i151_84 : cd_I 151 84 = some (.imul, 0, 0) := by decide +kernel
theorem cd_i151_85 : cd_I 151 85 = some (.iload_n 3, 0, 0) := by decide +kernel
theorem cd_i151_86 : cd_I 151 86 = some (.iadd, 0, 0) := by decide +kernel
theorem cd_i151_87 : cd_I 151 87 = some (.iaload, 0, 0) := by decide +kernel
theorem cd_i151_88 : cd_I 151 88 = some (.invokevirtual 192, 128, 2) := by decide +kernel
theorem cd_i151_91 : cd_I 151 91 = some (.invokevirtual 113, 107, 1) := by decide +kernel
theorem cd_i151_94 : cd_I 151 94 = some (.aload_n 0, 0, 0) := by decide +kernel
theorem cd_i151_95 : cd_I 151 95 = some (.getfield 85, 11, 35) := by decide +kernel
theorem cd_i151_98 : cd_I 151 98 = some (.aload_n 0, 0, 0) := by decide +kernel
theorem cd_i151_99 : cd_I 151 99 = some (.getfield 256, 11, 33) := by decide +kernel
theorem cd_i151_102 : cd_I 151 102 = some (.iconst 1, 0, 0) := by decide +kernel
theorem cd_i151_103 : cd_I 151 103 = some (.isub, 0, 0) := by decide +kernel
theorem cd_i151_104 : cd_I 151 104 = some (.dup2, 0, 0) := by decide +kernel
theorem cd_i151_105 : cd_I 151 105 = some (.iaload, 0, 0) := by decide +kernel
theorem cd_i151_106 : cd_I 151 106 = some (.iconst 1, 0, 0) := by decide +kernel
theorem cd_i151_107 : cd_I 151 107 = some (.iadd, 0, 0) := by decide +kernel
theorem cd_i151_108 : cd_I 151 108 = some (.iastore, 0, 0) := by decide +kernel
theorem cd_i151_109 : cd_I 151 109 = some (.iload_n 3, 0, 0) := by decide +kernel
theorem cd_i151_110 : cd_I 151 110 = some (.iconst 1, 0, 0) := by decide +kernel
theorem cd_i151_111 : cd_I 151 111 = some (.iadd, 0, 0) := by decide +kernel
theorem cd_i151_112 : cd_I 151 112 = some (.aload_n 0, 0, 0) := by decide +kernel
theorem cd_i151_113 : cd_I 151 113 = some (.getfield 39, 11, 13) := by decide +kernel
theorem cd_i151_116 : cd_I 151 116 = some (.iload_n 2, 0, 0) := by decide +kernel
theorem cd_i151_117 : cd_I 151 117 = some (.iaload, 0, 0) := by decide +kernel
theorem cd_i151_118 : cd_I 151 118 = some (.if_icmp .ge 11, 129, 0) := by decide +kernel
theorem cd_i151_121 : cd_I 151 121 = some (.aload_n 0, 0, 0) := by decide +kernel
theorem cd_i151_122 : cd_I 151 122 = some (.bipush 44, 0, 0) := by decide +kernel
theorem cd_i151_124 : cd_I 151 124 = some (.invokevirtual 138, 109, 1) := by decide +kernel
theorem cd_i151_127 : cd_I 151 127 = some (.iconst (-1), 0, 0) := by decide +kernel
theorem cd_i151_128 : cd_I 151 128 = some (.ireturn, 0, 0) := by decide +kernel
theorem cd_i151_129 : cd_I 151 129 = some (.aload_n 0, 0, 0) := by decide +kernel
theorem cd_i151_130 : cd_I 151 130 = some (.bipush 41, 0, 0) := by decide +kernel
theorem cd_i151_132 : cd_I 151 132 = some (.invokevirtual 138, 109, 1) := by decide +kernel
theorem cd_i151_135 : cd_I 151 135 = some (.aload_n 0, 0, 0) := by decide +kernel
theorem cd_i151_136 : cd_I 151 136 = some (.dup, 0, 0) := by decide +kernel
theorem cd_i151_137 : cd_I 151 137 = some (.getfield 256, 11, 33) := by decide +kernel
theorem cd_i151_140 : cd_I 151 140 = some (.iconst 1, 0, 0) := by decide +kernel
theorem cd_i151_141 : cd_I 151 141 = some (.isub, 0, 0) := by decide +kernel
theorem cd_i151_142 : cd_I 151 142 = some (.putfield 256, 11, 33) := by decide +kernel
theorem cd_i151_145 : cd_I 151 145 = some (.aload_n 0, 0, 0) := by decide +kernel
theorem cd_i151_146 : cd_I 151 146 = some (.getfield 36, 11, 12) := by decide +kernel
theorem cd_i151_149 : cd_I 151 149 = some (.iload_n 2, 0, 0) := by decide +kernel
theorem cd_i151_150 : cd_I 151 150 = some (.iaload, 0, 0) := by decide +kernel
theorem cd_i151_151 : cd_I 151 151 = some (.ireturn, 0, 0) := by decide +kernel
theorem cd_i152_0 : cd_I 152 0 = some (.aload_n 0, 0, 0) := by decide +kernel
theorem cd_i152_1 : cd_I 152 1 = some (.iconst 0, 0, 0) := by decide +kernel
theorem cd_i152_2 : cd_I 152 2 = some (.putfield 88, 11, 0) := by decide +kernel
theorem cd_i152_5 : cd_I 152 5 = some (.aload_n 0, 0, 0) := by decide +kernel
theorem cd_i152_6 : cd_I 152 6 = some (.getfield 275, 11, 32) := by decide +kernel
theorem cd_i152_9 : cd_I 152 9 = some (.ireturn, 0, 0) := by decide +kernel
theorem cd_i153_0 : cd_I 153 0 = some (.aload_n 0, 0, 0) := by decide +kernel
theorem cd_i153_1 : cd_I 153 1 = some (.iconst 0, 0, 0) := by decide +kernel
theorem cd_i153_2 : cd_I 153 2 = some (.putfield 88, 11, 0) := by decide +kernel
theorem cd_i153_5 : cd_I 153 5 = some (.iload_n 1, 0, 0) := by decide +kernel
theorem cd_i153_6 : cd_I 153 6 = some (.iconst 0, 0, 0) := by decide +kernel
theorem cd_i153_7 : cd_I 153 7 = some (.aload_n 0, 0, 0) := by decide +kernel
theorem cd_i153_8 : cd_I 153 8 = some (.getfield 247, 11, 27) := by decide +kernel
theorem cd_i153_11 : cd_I 153 11 = some (.iconst 1, 0, 0) := by decide +kernel
theorem cd_i153_12 : cd_I 153 12 = some (.isub, 0, 0) := by decide +kernel
theorem cd_i153_13 : cd_I 153 13 = some (.invokestatic 91, 101, 3) := by decide +kernel
theorem cd_i153_16 : cd_I 153 16 = some (.ifCond .ne 12, 28, 0) := by decide +kernel
theorem cd_i153_19 : cd_I 153 19 = some (.iload_n 2, 0, 0) := by decide +kernel
theorem cd_i153_20 : cd_I 153 20 = some (.iconst 0, 0, 0) := by decide +kernel
theorem cd_i153_21 : cd_I 153 21 = some (.iconst 2, 0, 0) := by decide +kernel
theorem cd_i153_22 : cd_I 153 22 = some (.invokestatic 91, 101, 3) := by decide +kernel
theorem cd_i153_25 : cd_I 153 25 = some (.ifCond .eq 5, 30, 0) := by decide +kernel
theorem cd_i153_28 : cd_I 153 28 = some (.iconst (-1), 0, 0) := by decide +kernel
theorem cd_i153_29 : cd_I 153 29 = some (.ireturn, 0, 0) := by decide +kernel
theorem cd_i153_30 : cd_I 153 30 = some (.iload_n 2, 0, 0) := by decide +kernel
theorem cd_i153_31 : cd_I 153 31 = some (.ifCond .ne 12, 43, 0) := by decide +kernel
theorem cd_i153_34 : cd_I 153 34 = some (.aload_n 0, 0, 0) := by decide +kernel
theorem cd_i153_35 : cd_I 153 35 = some (.getfield 76, 11, 30) := by decide +kernel
theorem cd_i153_38 : cd_I 153 38 = some (.iload_n 1, 0, 0) := by decide +kernel
theorem cd_i153_39 : cd_I 153 39 = some (.iaload, 0, 0) := by decide +kernel
theorem cd_i153_40 : cd_I 153 40 = some (.goto 23, 63, 0) := by decide +kernel
theorem cd_i153_43 : cd_I 153 43 = some (.iload_n 2, 0, 0) := by decide +kernel
theorem cd_i153_44 : cd_I 153 44 = some (.iconst 1, 0, 0) := by decide +kernel
theorem cd_i153_45 : cd_I 153 45 = some (.if_icmp .ne 12, 57, 0) := by decide +kernel
theorem cd_i153_48 : cd_I 153 48 = some (.aload_n 0, 0, 0) := by decide +kernel
theorem cd_i153_49 : cd_I 153 49 = some (.getfield 70, 11, 28) := by decide +kernel
theorem cd_i153_52 : cd_I 153 52 = some (.iload_n 1, 0, 0) := by decide +kernel
theorem cd_i153_53 : cd_I 153 53 = some (.iaload, 0, 0) := by decide +kernel
theorem cd_i153_54 : cd_I 153 54 = some (.goto 9, 63, 0) := by decide +kernel
theorem cd_i153_57 : cd_I 153 57 = some (.aload_n 0, 0, 0) := by decide +kernel
theorem cd_i153_58 : cd_I 153 58 = some (.getfield 73, 11, 29) := by decide +kernel
theorem cd_i153_61 : cd_I 153 61 = some (.iload_n 1, 0, 0) := by decide +kernel
theorem cd_i153_62 : cd_I 153 62 = some (.iaload, 0, 0) := by decide +kernel
theorem cd_i153_63 : cd_I 153 63 = some (.ireturn, 0, 0) := by decide +kernel
theorem cd_i154_0 : cd_I 154 0 = some (.aload_n 0, 0, 0) := by decide +kernel
theorem cd_i154_1 : cd_I 154 1 = some (.iconst 0, 0, 0) := by decide +kernel
theorem cd_i154_2 : cd_I 154 2 = some (.putfield 88, 11, 0) := by decide +kernel
theorem cd_i154_5 : cd_I 154 5 = some (.iload_n 1, 0, 0) := by decide +kernel
theorem cd_i154_6 : cd_I 154 6 = some (.iconst 0, 0, 0) := by decide +kernel
theorem cd_i154_7 : cd_I 154 7 = some (.aload_n 0, 0, 0) := by decide +kernel
theorem cd_i154_8 : cd_I 154 8 = some (.getfield 247, 11, 27) := by decide +kernel
theorem cd_i154_11 : cd_I 154 11 = some (.iconst 1, 0, 0) := by decide +kernel
theorem cd_i154_12 : cd_I 154 12 = some (.isub, 0, 0) := by decide +kernel
theorem cd_i154_13 : cd_I 154 13 = some (.invokestatic 91, 101, 3) := by decide +kernel
theorem cd_i154_16 : cd_I 154 16 = some (.ifCond .ne 19, 35, 0) := by decide +kernel
theorem cd_i154_19 : cd_I 154 19 = some (.iload_n 2, 0, 0) := by decide +kernel
theorem cd_i154_20 : cd_I 154 20 = some (.iconst 0, 0, 0) := by decide +kernel
theorem cd_i154_21 : cd_I 154 21 = some (.aload_n 0, 0, 0) := by decide +kernel
theorem cd_i154_22 : cd_I 154 22 = some (.getfield 76, 11, 30) := by decide +kernel
theorem cd_i154_25 : cd_I 154 25 = some (.iload_n 1, 0, 0) := by decide +kernel
theorem cd_i154_26 : cd_I 154 26 = some (.iaload, 0, 0) := by decide +kernel
theorem cd_i154_27 : cd_I 154 27 = some (.iconst 1, 0, 0) := by decide +kernel
theorem cd_i154_28 : cd_I 154 28 = some (.isub, 0, 0) := by decide +kernel
theorem cd_i154_29 : cd_I 154 29 = some (.invokestatic 91, 101, 3) := by decide +kernel
theorem cd_i154_32 : cd_I 154 32 = some (.ifCond .eq 7, 39, 0) := by decide +kernel
theorem cd_i154_35 : cd_I 154 35 = some (.iconst 0, 0, 0) := by decide +kernel
theorem cd_i154_36 : cd_I 154 36 = some (.goto 14, 50, 0) := by decide +kernel
theorem cd_i154_39 : cd_I 154 39 = some (.aload_n 0, 0, 0) := by decide +kernel
theorem cd_i154_40 : cd_I 154 40 = some (.getfield 79, 11, 31) := by decide +kernel
theorem cd_i154_43 : cd_I 154 43 = some (.bipush 24, 0, 0) := by decide +kernel
theorem cd_i154_45 : cd_I 154 45 = some (.iload_n 1, 0, 0) := by decide +kernel
theorem cd_i154_46 : cd_I 154 46 = some (.imul, 0, 0) := by decide +kernel
theorem cd_i154_47 : cd_I 154 47 = some (.iload_n 2, 0, 0) := by decide +kernel
theorem cd_i154_48 : cd_I 154 48 = some (.iadd, 0, 0) := by decide +kernel
theorem cd_i154_49 : cd_I 154 49 = some (.caload, 0, 0) := by decide +kernel
theorem cd_i154_50 : cd_I 154 50 = some (.ireturn, 0, 0) := by decide +kernel
theorem cd_i155_0 : cd_I 155 0 = some (.aload_n 0, 0, 0) := by decide +kernel
theorem cd_i155_1 : cd_I 155 1 = some (.iconst 0, 0, 0) := by decide +kernel
theorem cd_i155_2 : cd_I 155 2 = some (.putfield 88, 11, 0) := by decide +kernel
theorem cd_i155_5 : cd_I 155 5 = some (.iload_n 1, 0, 0) := by decide +kernel
theorem cd_i155_6 : cd_I 155 6 = some (.iconst 0, 0, 0) := by decide +kernel
theorem cd_i155_7 : cd_I 155 7 = some (.bipush 9, 0, 0) := by decide +kernel
theorem cd_i155_9 : cd_I 155 9 = some (.invokestatic 91, 101, 3) := by decide +kernel
theorem cd_i155_12 : cd_I 155 12 = some (.ifCond .ne 12, 24, 0) := by decide +kernel
theorem cd_i155_15 : cd_I 155 15 = some (.aload_n 0, 0, 0) := by decide +kernel
theorem cd_i155_16 : cd_I 155 16 = some (.getfield 13, 11, 5) := by decide +kernel
theorem cd_i155_19 : cd_I 155 19 = some (.iload_n 1, 0, 0) := by decide +kernel
theorem cd_i155_20 : cd_I 155 20 = some (.baload, 0, 0) := by decide +kernel
theorem cd_i155_21 : cd_I 155 21 = some (.ifCond .ne 7, 28, 0) := by decide +kernel
theorem cd_i155_24 : cd_I 155 24 = some (.iconst (-1), 0, 0) := by decide +kernel
theorem cd_i155_25 : cd_I 155 25 = some (.goto 9, 34, 0) := by decide +kernel
theorem cd_i155_28 : cd_I 155 28 = some (.aload_n 0, 0, 0) := by decide +kernel
theorem cd_i155_29 : cd_I 155 29 = some (.getfield 21, 11, 7) := by decide +kernel
theorem cd_i155_32 : cd_I 155 32 = some (.iload_n 1, 0, 0) := by decide +kernel
theorem cd_i155_33 : cd_I 155 33 = some (.iaload, 0, 0) := by decide +kernel
theorem cd_i155_34 : cd_I 155 34 = some (.ireturn, 0, 0) := by decide +kernel
theorem cd_i156_0 : cd_I 156 0 = some (.aload_n 0, 0, 0) := by decide +kernel
theorem cd_i156_1 : cd_I 156 1 = some (.iconst 0, 0, 0) := by decide +kernel
theorem cd_i156_2 : cd_I 156 2 = some (.putfield 88, 11, 0) := by decide +kernel
theorem cd_i156_5 : cd_I 156 5 = some (.iload_n 1, 0, 0) := by decide +kernel
theorem cd_i156_6 : cd_I 156 6 = some (.iconst 0, 0, 0) := by decide +kernel
theorem cd_i156_7 : cd_I 156 7 = some (.bipush 9, 0, 0) := by decide +kernel
theorem cd_i156_9 : cd_I 156 9 = some (.invokestatic 91, 101, 3) := by decide +kernel
theorem cd_i156_12 : cd_I 156 12 = some (.ifCond .ne 12, 24, 0) := by decide +kernel
theorem cd_i156_15 : cd_I 156 15 = some (.iload_n 2, 0, 0) := by decide +kernel
theorem cd_i156_16 : cd_I 156 16 = some (.iconst 0, 0, 0) := by decide +kernel
theorem cd_i156_17 : cd_I 156 17 = some (.iconst 1, 0, 0) := by decide +kernel
theorem cd_i156_18 : cd_I 156 18 = some (.invokestatic 91, 101, 3) := by decide +kernel
theorem cd_i156_21 : cd_I 156 21 = some (.ifCond .eq 5, 26, 0) := by decide +kernel
theorem cd_i156_24 : cd_I 156 24 = some (.iconst (-1), 0, 0) := by decide +kernel
theorem cd_i156_25 : cd_I 156 25 = some (.ireturn, 0, 0) := by decide +kernel
theorem cd_i156_26 : cd_I 156 26 = some (.iconst 0, 0, 0) := by decide +kernel
theorem cd_i156_27 : cd_I 156 27 = some (.istore_n 3, 0, 0) := by decide +kernel
theorem cd_i156_28 : cd_I 156 28 = some (.iconst 0, 0, 0) := by decide +kernel
theorem cd_i156_29 : cd_I 156 29 = some (.istore 4, 0, 0) := by decide +kernel
theorem cd_i156_31 : cd_I 156 31 = some (.iload 4, 0, 0) := by decide +kernel
theorem cd_i156_33 : cd_I 156 33 = some (.bipush 60, 0, 0) := by decide +kernel
theorem cd_i156_35 : cd_I 156 35 = some (.if_icmp .ge 71, 106, 0) := by decide +kernel
theorem cd_i156_38 : cd_I 156 38 = some (.aload_n 0, 0, 0) := by decide +kernel
theorem cd_i156_39 : cd_I 156 39 = some (.getfield 13, 11, 5) := by decide +kernel
theorem cd_i156_42 : cd_I 156 42 = some (.iload 4, 0, 0) := by decide +kernel
theorem cd_i156_44 : cd_I 156 44 = some (.bipush 6, 0, 0) := by decide +kernel
theorem cd_i156_46 : cd_I 156 46 = some (.idiv, 0, 0) := by decide +kernel
theorem cd_i156_47 : cd_I 156 47 = some (.baload, 0, 0) := by decide +kernel
theorem cd_i156_48 : cd_I 156 48 = some (.ifCond .eq 50, 98, 0) := by decide +kernel
theorem cd_i156_51 : cd_I 156 51 = some (.iload 4, 0, 0) := by decide +kernel
theorem cd_i156_53 : cd_I 156 53 = some (.bipush 6, 0, 0) := by decide +kernel
theorem cd_i156_55 : cd_I 156 55 = some (.irem, 0, 0) := by decide +kernel
theorem cd_i156_56 : cd_I 156 56 = some (.aload_n 0, 0, 0) := by decide +kernel
theorem cd_i156_57 : cd_I 156 57 = some (.getfield 21, 11, 7) := by decide +kernel
theorem cd_i156_60 : cd_I 156 60 = some (.iload 4, 0, 0) := by decide +kernel
theorem cd_i156_62 : cd_I 156 62 = some (.bipush 6, 0, 0) := by decide +kernel
theorem cd_i156_64 : cd_I 156 64 = some (.idiv, 0, 0) := by decide +kernel
theorem cd_i156_65 : cd_I 156 65 = some (.iaload, 0, 0) := by decide +kernel
theorem cd_i156_66 : cd_I 156 66 = some (.if_icmp .ge 32, 98, 0) := by decide +kernel
theorem cd_i156_69 : cd_I 156 69 = some (.aload_n 0, 0, 0) := by decide +kernel
theorem cd_i156_70 : cd_I 156 70 = some (.getfield 24, 11, 8) := by decide +kernel
theorem cd_i156_73 : cd_I 156 73 = some (.iload 4, 0, 0) := by decide +kernel
theorem cd_i156_75 : cd_I 156 75 = some (.iaload, 0, 0) := by decide +kernel
theorem cd_i156_76 : cd_I 156 76 = some (.iload_n 2, 0, 0) := by decide +kernel
theorem cd_i156_77 : cd_I 156 77 = some (.if_icmp .ne 21, 98, 0) := by decide +kernel
theorem cd_i156_80 : cd_I 156 80 = some (.aload_n 0, 0, 0) := by decide +kernel
theorem cd_i156_81 : cd_I 156 81 = some (.iconst 3, 0, 0) := by decide +kernel
theorem cd_i156_82 : cd_I 156 82 = some (.iload_n 1, 0, 0) := by decide +kernel
theorem cd_i156_83 : cd_I 156 83 = some (.iadd, 0, 0) := by decide +kernel
theorem cd_i156_84 : cd_I 156 84 = some (.iload 4, 0, 0) := by decide +kernel
theorem cd_i156_86 : cd_I 156 86 = some (.invokevirtual 238, 143, 2) := by decide +kernel
theorem cd_i156_89 : cd_I 156 89 = some (.ifCond .eq 9, 98, 0) := by decide +kernel
theorem cd_i156_92 : cd_I 156 92 = some (.iload_n 3, 0, 0) := by decide +kernel
theorem cd_i156_93 : cd_I 156 93 = some (.iconst 1, 0, 0) := by decide +kernel
theorem cd_i156_94 : cd_I 156 94 = some (.iadd, 0, 0) := by decide +kernel
theorem cd_i156_95 : cd_I 156 95 = some (.goto 4, 99, 0) := by decide +kernel
theorem cd_i156_98 : cd_I 156 98 = some (.iload_n 3, 0, 0) := by decide +kernel
theorem cd_i156_99 : cd_I 156 99 = some (.istore_n 3, 0, 0) := by decide +kernel
theorem cd_i156_100 : cd_I 156 100 = some (.iinc 4 1, 0, 0) := by decide +kernel
theorem cd_i156_103 : cd_I 156 103 = some (.goto (-72), 31, 0) := by decide +kernel
theorem cd_i156_106 : cd_I 156 106 = some (.iload_n 3, 0, 0) := by decide +kernel
theorem cd_i156_107 : cd_I 156 107 = some (.ireturn, 0, 0) := by decide +kernel
theorem cd_i157_0 : cd_I 157 0 = some (.aload_n 1, 0, 0) := by decide +kernel
theorem cd_i157_1 : cd_I 157 1 = some (.iconst 0, 0, 0) := by decide +kernel
theorem cd_i157_2 : cd_I 157 2 = some (.aload_n 0, 0, 0) := by decide +kernel
theorem cd_i157_3 : cd_I 157 3 = some (.invokevirtual 7, 31, 0) := by decide +kernel
theorem cd_i157_6 : cd_I 157 6 = some (.i2l, 0, 0) := by decide +kernel
theorem cd_i157_7 : cd_I 157 7 = some (.lastore, 0, 0) := by decide +kernel
theorem cd_i157_8 : cd_I 157 8 = some (.goto 9, 17, 0) := by decide +kernel
theorem cd_i157_11 : cd_I 157 11 = some (.astore_n 2, 0, 0) := by decide +kernel
theorem cd_i157_12 : cd_I 157 12 = some (.iconst 1, 0, 0) := by decide +kernel
theorem cd_i157_13 : cd_I 157 13 = some (.ireturn, 0, 0) := by decide +kernel
theorem cd_i157_14 : cd_I 157 14 = some (.astore_n 2, 0, 0) := by decide +kernel
theorem cd_i157_15 : cd_I 157 15 = some (.iconst 2, 0, 0) := by decide +kernel
theorem cd_i157_16 : cd_I 157 16 = some (.ireturn, 0, 0) := by decide +kernel
theorem cd_i157_17 : cd_I 157 17 = some (.iconst 0, 0, 0) := by decide +kernel
theorem cd_i157_18 : cd_I 157 18 = some (.ireturn, 0, 0) := by decide +kernel
theorem cd_i158_0 : cd_I 158 0 = some (.aload_n 1, 0, 0) := by decide +kernel
theorem cd_i158_1 : cd_I 158 1 = some (.iconst 0, 0, 0) := by decide +kernel
theorem cd_i158_2 : cd_I 158 2 = some (.aload_n 0, 0, 0) := by decide +kernel
theorem cd_i158_3 : cd_I 158 3 = some (.invokevirtual 17, 62, 0) := by decide +kernel
theorem cd_i158_6 : cd_I 158 6 = some (.i2l, 0, 0) := by decide +kernel
theorem cd_i158_7 : cd_I 158 7 = some (.lastore, 0, 0) := by decide +kernel
theorem cd_i158_8 : cd_I 158 8 = some (.goto 9, 17, 0) := by decide +kernel
theorem cd_i158_11 : cd_I 158 11 = some (.astore_n 2, 0, 0) := by decide +kernel
theorem cd_i158_12 : cd_I 158 12 = some (.iconst 1, 0, 0) := by decide +kernel
theorem cd_i158_13 : cd_I 158 13 = some (.ireturn, 0, 0) := by decide +kernel
theorem cd_i158_14 : cd_I 158 14 = some (.astore_n 2, 0, 0) := by decide +kernel
theorem cd_i158_15 : cd_I 158 15 = some (.iconst 2, 0, 0) := by decide +kernel
theorem cd_i158_16 : cd_I 158 16 = some (.ireturn, 0, 0) := by decide +kernel
theorem cd_i158_17 : cd_I 158 17 = some (.iconst 0, 0, 0) := by decide +kernel
theorem cd_i158_18 : cd_I 158 18 = some (.ireturn, 0, 0) := by decide +kernel
theorem cd_i159_0 : cd_I 159 0 = some (.aload_n 0, 0, 0) := by decide +kernel
theorem cd_i159_1 : cd_I 159 1 = some (.iload_n 1, 0, 0) := by decide +kernel
theorem cd_i159_2 : cd_I 159 2 = some (.invokevirtual 20, 67, 1) := by decide +kernel
theorem cd_i159_5 : cd_I 159 5 = some (.goto 6, 11, 0) := by decide +kernel
theorem cd_i159_8 : cd_I 159 8 = some (.astore_n 2, 0, 0) := by decide +kernel
theorem cd_i159_9 : cd_I 159 9 = some (.iconst 1, 0, 0) := by decide +kernel
theorem cd_i159_10 : cd_I 159 10 = some (.ireturn, 0, 0) := by decide +kernel
theorem cd_i159_11 : cd_I 159 11 = some (.iconst 0, 0, 0) := by decide +kernel
theorem cd_i159_12 : cd_I 159 12 = some (.ireturn, 0, 0) := by decide +kernel
theorem cd_i160_0 : cd_I 160 0 = some (.aload_n 3, 0, 0) := by decide +kernel
theorem cd_i160_1 : cd_I 160 1 = some (.iconst 0, 0, 0) := by decide +kernel
theorem cd_i160_2 : cd_I 160 2 = some (.aload_n 0, 0, 0) := by decide +kernel
theorem cd_i160_3 : cd_I 160 3 = some (.iload_n 1, 0, 0) := by decide +kernel
theorem cd_i160_4 : cd_I 160 4 = some (.iload_n 2, 0, 0) := by decide +kernel
theorem cd_i160_5 : cd_I 160 5 = some (.invokevirtual 24, 68, 2) := by decide +kernel
theorem cd_i160_8 : cd_I 160 8 = some (.i2l, 0, 0) := by decide +kernel
theorem cd_i160_9 : cd_I 160 9 = some (.lastore, 0, 0) := by decide +kernel
theorem cd_i160_10 : cd_I 160 10 = some (.goto 7, 17, 0) := by decide +kernel
theorem cd_i160_13 : cd_I 160 13 = some (.astore 4, 0, 0) := by decide +kernel
theorem cd_i160_15 : cd_I 160 15 = some (.iconst 1, 0, 0) := by decide +kernel
theorem cd_i160_16 : cd_I 160 16 = some (.ireturn, 0, 0) := by decide +kernel
theorem cd_i160_17 : cd_I 160 17 = some (.iconst 0, 0, 0) := by decide +kernel
theorem cd_i160_18 : cd_I 160 18 = some (.ireturn, 0, 0) := by decide +kernel
theorem cd_i161_0 : cd_I 161 0 = some (.aload_n 1, 0, 0) := by decide +kernel
theorem cd_i161_1 : cd_I 161 1 = some (.iconst 0, 0, 0) := by decide +kernel
theorem cd_i161_2 : cd_I 161 2 = some (.aload_n 0, 0, 0) := by decide +kernel
theorem cd_i161_3 : cd_I 161 3 = some (.invokevirtual 28, 87, 0) := by decide +kernel
theorem cd_i161_6 : cd_I 161 6 = some (.i2l, 0, 0) := by decide +kernel
theorem cd_i161_7 : cd_I 161 7 = some (.lastore, 0, 0) := by decide +kernel
theorem cd_i161_8 : cd_I 161 8 = some (.goto 6, 14, 0) := by decide +kernel
theorem cd_i161_11 : cd_I 161 11 = some (.astore_n 2, 0, 0) := by decide +kernel
theorem cd_i161_12 : cd_I 161 12 = some (.iconst 1, 0, 0) := by decide +kernel
theorem cd_i161_13 : cd_I 161 13 = some (.ireturn, 0, 0) := by decide +kernel
theorem cd_i161_14 : cd_I 161 14 = some (.iconst 0, 0, 0) := by decide +kernel
theorem cd_i161_15 : cd_I 161 15 = some (.ireturn, 0, 0) := by decide +kernel
