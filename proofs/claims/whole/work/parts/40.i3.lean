theorem cd_i99_0 : cd_I 99 0 = some (.aload_n 0, 0, 0) := by decide +kernel
theorem cd_i99_1 : cd_I 99 1 = some (.getfield 88, 11, 0) := by decide +kernel
theorem cd_i99_4 : cd_I 99 4 = some (.ireturn, 0, 0) := by decide +kernel
theorem cd_i100_0 : cd_I 100 0 = some (.aload_n 0, 0, 0) := by decide +kernel
theorem cd_i100_1 : cd_I 100 1 = some (.iconst 0, 0, 0) := by decide +kernel
theorem cd_i100_2 : cd_I 100 2 = some (.putfield 88, 11, 0) := by decide +kernel
theorem cd_i100_5 : cd_I 100 5 = some (.iload_n 2, 0, 0) := by decide +kernel
theorem cd_i100_6 : cd_I 100 6 = some (.iconst 1, 0, 0) := by decide +kernel
theorem cd_i100_7 : cd_I 100 7 = some (.iconst 4, 0, 0) := by decide +kernel
theorem cd_i100_8 : cd_I 100 8 = some (.invokestatic 91, 101, 3) := by decide +kernel
theorem cd_i100_11 : cd_I 100 11 = some (.ifCond .ne 14, 25, 0) := by decide +kernel
theorem cd_i100_14 : cd_I 100 14 = some (.aload_n 0, 0, 0) := by decide +kernel
theorem cd_i100_15 : cd_I 100 15 = some (.getfield 95, 11, 2) := by decide +kernel
theorem cd_i100_18 : cd_I 100 18 = some (.iload_n 2, 0, 0) := by decide +kernel
theorem cd_i100_19 : cd_I 100 19 = some (.iadd, 0, 0) := by decide +kernel
theorem cd_i100_20 : cd_I 100 20 = some (.bipush 120, 0, 0) := by decide +kernel
theorem cd_i100_22 : cd_I 100 22 = some (.if_icmp .le 5, 27, 0) := by decide +kernel
theorem cd_i100_25 : cd_I 100 25 = some (.iconst 0, 0, 0) := by decide +kernel
theorem cd_i100_26 : cd_I 100 26 = some (.ireturn, 0, 0) := by decide +kernel
theorem cd_i100_27 : cd_I 100 27 = some (.iconst 0, 0, 0) := by decide +kernel
theorem cd_i100_28 : cd_I 100 28 = some (.istore_n 3, 0, 0) := by decide +kernel
theorem cd_i100_29 : cd_I 100 29 = some (.iload_n 3, 0, 0) := by decide +kernel
theorem cd_i100_30 : cd_I 100 30 = some (.iload_n 2, 0, 0) := by decide +kernel
theorem cd_i100_31 : cd_I 100 31 = some (.if_icmp .ge 31, 62, 0) := by decide +kernel
theorem cd_i100_34 : cd_I 100 34 = some (.iload_n 1, 0, 0) := by decide +kernel
theorem cd_i100_35 : cd_I 100 35 = some (.bipush 8, 0, 0) := by decide +kernel
theorem cd_i100_37 : cd_I 100 37 = some (.iload_n 3, 0, 0) := by decide +kernel
theorem cd_i100_38 : cd_I 100 38 = some (.imul, 0, 0) := by decide +kernel
theorem cd_i100_39 : cd_I 100 39 = some (.ishr, 0, 0) := by decide +kernel
theorem cd_i100_40 : cd_I 100 40 = some (.sipush 255, 0, 0) := by decide +kernel
theorem cd_i100_43 : cd_I 100 43 = some (.iand, 0, 0) := by decide +kernel
theorem cd_i100_44 : cd_I 100 44 = some (.bipush 32, 0, 0) := by decide +kernel
theorem cd_i100_46 : cd_I 100 46 = some (.bipush 126, 0, 0) := by decide +kernel
theorem cd_i100_48 : cd_I 100 48 = some (.invokestatic 91, 101, 3) := by decide +kernel
theorem cd_i100_51 : cd_I 100 51 = some (.ifCond .eq 5, 56, 0) := by decide +kernel
theorem cd_i100_54 : cd_I 100 54 = some (.iconst 0, 0, 0) := by decide +kernel
theorem cd_i100_55 : cd_I 100 55 = some (.ireturn, 0, 0) := by decide +kernel
theorem cd_i100_56 : cd_I 100 56 = some (.iinc 3 1, 0, 0) := by decide +kernel
theorem cd_i100_59 : cd_I 100 59 = some (.goto (-30), 29, 0) := by decide +kernel
theorem cd_i100_62 : cd_I 100 62 = some (.iload_n 2, 0, 0) := by decide +kernel
theorem cd_i100_63 : cd_I 100 63 = some (.iconst 1, 0, 0) := by decide +kernel
theorem cd_i100_64 : cd_I 100 64 = some (.isub, 0, 0) := by decide +kernel
theorem cd_i100_65 : cd_I 100 65 = some (.istore_n 3, 0, 0) := by decide +kernel
theorem cd_i100_66 : cd_I 100 66 = some (.iload_n 3, 0, 0) := by decide +kernel
theorem cd_i100_67 : cd_I 100 67 = some (.ifCond .lt 39, 106, 0) := by decide +kernel
theorem cd_i100_70 : cd_I 100 70 = some (.aload_n 0, 0, 0) := by decide +kernel
theorem cd_i100_71 : cd_I 100 71 = some (.getfield 7, 11, 1) := by decide +kernel
theorem cd_i100_74 : cd_I 100 74 = some (.aload_n 0, 0, 0) := by decide +kernel
theorem cd_i100_75 : cd_I 100 75 = some (.getfield 95, 11, 2) := by decide +kernel
theorem cd_i100_78 : cd_I 100 78 = some (.iload_n 1, 0, 0) := by decide +kernel
theorem cd_i100_79 : cd_I 100 79 = some (.bipush 8, 0, 0) := by decide +kernel
theorem cd_i100_81 : cd_I 100 81 = some (.iload_n 3, 0, 0) := by decide +kernel
theorem cd_i100_82 : cd_I 100 82 = some (.imul, 0, 0) := by decide +kernel
theorem cd_i100_83 : cd_I 100 83 = some (.ishr, 0, 0) := by decide +kernel
theorem cd_i100_84 : cd_I 100 84 = some (.sipush 255, 0, 0) := by decide +kernel
theorem cd_i100_87 : cd_I 100 87 = some (.iand, 0, 0) := by decide +kernel
theorem cd_i100_88 : cd_I 100 88 = some (.i2c, 0, 0) := by decide +kernel
theorem cd_i100_89 : cd_I 100 89 = some (.castore, 0, 0) := by decide +kernel
theorem cd_i100_90 : cd_I 100 90 = some (.aload_n 0, 0, 0) := by decide +kernel
theorem cd_i100_91 : cd_I 100 91 = some (.dup, 0, 0) := by decide +kernel
theorem cd_i100_92 : cd_I 100 92 = some (.getfield 95, 11, 2) := by decide +kernel
theorem cd_i100_95 : cd_I 100 95 = some (.iconst 1, 0, 0) := by decide +kernel
theorem cd_i100_96 : cd_I 100 96 = some (.iadd, 0, 0) := by decide +kernel
theorem cd_i100_97 : cd_I 100 97 = some (.putfield 95, 11, 2) := by decide +kernel
theorem cd_i100_100 : cd_I 100 100 = some (.iinc 3 (-1), 0, 0) := by decide +kernel
theorem cd_i100_103 : cd_I 100 103 = some (.goto (-37), 66, 0) := by decide +kernel
theorem cd_i100_106 : cd_I 100 106 = some (.iconst 1, 0, 0) := by decide +kernel
theorem cd_i100_107 : cd_I 100 107 = some (.ireturn, 0, 0) := by decide +kernel
theorem cd_i101_0 : cd_I 101 0 = some (.iload_n 0, 0, 0) := by decide +kernel
theorem cd_i101_1 : cd_I 101 1 = some (.iload_n 1, 0, 0) := by decide +kernel
theorem cd_i101_2 : cd_I 101 2 = some (.if_icmp .lt 8, 10, 0) := by decide +kernel
theorem cd_i101_5 : cd_I 101 5 = some (.iload_n 0, 0, 0) := by decide +kernel
theorem cd_i101_6 : cd_I 101 6 = some (.iload_n 2, 0, 0) := by decide +kernel
theorem cd_i101_7 : cd_I 101 7 = some (.if_icmp .le 7, 14, 0) := by decide +kernel
theorem cd_i101_10 : cd_I 101 10 = some (.iconst 1, 0, 0) := by decide +kernel
theorem cd_i101_11 : cd_I 101 11 = some (.goto 4, 15, 0) := by decide +kernel
theorem cd_i101_14 : cd_I 101 14 = some (.iconst 0, 0, 0) := by decide +kernel
theorem cd_i101_15 : cd_I 101 15 = some (.ireturn, 0, 0) := by decide +kernel
theorem cd_i102_0 : cd_I 102 0 = some (.aload_n 0, 0, 0) := by decide +kernel
theorem cd_i102_1 : cd_I 102 1 = some (.iconst 0, 0, 0) := by decide +kernel
theorem cd_i102_2 : cd_I 102 2 = some (.putfield 98, 11, 3) := by decide +kernel
theorem cd_i102_5 : cd_I 102 5 = some (.aload_n 0, 0, 0) := by decide +kernel
theorem cd_i102_6 : cd_I 102 6 = some (.iconst 1, 0, 0) := by decide +kernel
theorem cd_i102_7 : cd_I 102 7 = some (.putfield 101, 11, 4) := by decide +kernel
theorem cd_i102_10 : cd_I 102 10 = some (.aload_n 0, 0, 0) := by decide +kernel
theorem cd_i102_11 : cd_I 102 11 = some (.invokevirtual 173, 103, 0) := by decide +kernel
theorem cd_i102_14 : cd_I 102 14 = some (.istore_n 1, 0, 0) := by decide +kernel
theorem cd_i102_15 : cd_I 102 15 = some (.aload_n 0, 0, 0) := by decide +kernel
theorem cd_i102_16 : cd_I 102 16 = some (.iconst 0, 0, 0) := by decide +kernel
theorem cd_i102_17 : cd_I 102 17 = some (.putfield 95, 11, 2) := by decide +kernel
theorem cd_i102_20 : cd_I 102 20 = some (.aload_n 0, 0, 0) := by decide +kernel
theorem cd_i102_21 : cd_I 102 21 = some (.getfield 101, 11, 4) := by decide +kernel
theorem cd_i102_24 : cd_I 102 24 = some (.ifCond .ne 9, 33, 0) := by decide +kernel
theorem cd_i102_27 : cd_I 102 27 = some (.aload_n 0, 0, 0) := by decide +kernel
theorem cd_i102_28 : cd_I 102 28 = some (.iconst 1, 0, 0) := by decide +kernel
theorem cd_i102_29 : cd_I 102 29 = some (.invokevirtual 176, 121, 1) := by decide +kernel
theorem cd_i102_32 : cd_I 102 32 = some (.ireturn, 0, 0) := by decide +kernel
theorem cd_i102_33 : cd_I 102 33 = some (.aload_n 0, 0, 0) := by decide +kernel
theorem cd_i102_34 : cd_I 102 34 = some (.getfield 13, 11, 5) := by decide +kernel
theorem cd_i102_37 : cd_I 102 37 = some (.iload_n 1, 0, 0) := by decide +kernel
theorem cd_i102_38 : cd_I 102 38 = some (.baload, 0, 0) := by decide +kernel
theorem cd_i102_39 : cd_I 102 39 = some (.ifCond .eq 9, 48, 0) := by decide +kernel
theorem cd_i102_42 : cd_I 102 42 = some (.aload_n 0, 0, 0) := by decide +kernel
theorem cd_i102_43 : cd_I 102 43 = some (.iconst 2, 0, 0) := by decide +kernel
theorem cd_i102_44 : cd_I 102 44 = some (.invokevirtual 176, 121, 1) := by decide +kernel
theorem cd_i102_47 : cd_I 102 47 = some (.ireturn, 0, 0) := by decide +kernel
theorem cd_i102_48 : cd_I 102 48 = some (.aload_n 0, 0, 0) := by decide +kernel
theorem cd_i102_49 : cd_I 102 49 = some (.iconst 0, 0, 0) := by decide +kernel
theorem cd_i102_50 : cd_I 102 50 = some (.putfield 88, 11, 0) := by decide +kernel
theorem cd_i102_53 : cd_I 102 53 = some (.aload_n 0, 0, 0) := by decide +kernel
theorem cd_i102_54 : cd_I 102 54 = some (.getfield 13, 11, 5) := by decide +kernel
theorem cd_i102_57 : cd_I 102 57 = some (.iload_n 1, 0, 0) := by decide +kernel
theorem cd_i102_58 : cd_I 102 58 = some (.iconst 1, 0, 0) := by decide +kernel
theorem cd_i102_59 : cd_I 102 59 = some (.bastore, 0, 0) := by decide +kernel
theorem cd_i102_60 : cd_I 102 60 = some (.aload_n 0, 0, 0) := by decide +kernel
theorem cd_i102_61 : cd_I 102 61 = some (.getfield 17, 11, 6) := by decide +kernel
theorem cd_i102_64 : cd_I 102 64 = some (.iload_n 1, 0, 0) := by decide +kernel
theorem cd_i102_65 : cd_I 102 65 = some (.aload_n 0, 0, 0) := by decide +kernel
theorem cd_i102_66 : cd_I 102 66 = some (.getfield 160, 11, 37) := by decide +kernel
theorem cd_i102_69 : cd_I 102 69 = some (.iastore, 0, 0) := by decide +kernel
theorem cd_i102_70 : cd_I 102 70 = some (.aload_n 0, 0, 0) := by decide +kernel
theorem cd_i102_71 : cd_I 102 71 = some (.getfield 21, 11, 7) := by decide +kernel
theorem cd_i102_74 : cd_I 102 74 = some (.iload_n 1, 0, 0) := by decide +kernel
theorem cd_i102_75 : cd_I 102 75 = some (.aload_n 0, 0, 0) := by decide +kernel
theorem cd_i102_76 : cd_I 102 76 = some (.getfield 163, 11, 38) := by decide +kernel
theorem cd_i102_79 : cd_I 102 79 = some (.iastore, 0, 0) := by decide +kernel
theorem cd_i102_80 : cd_I 102 80 = some (.iconst 0, 0, 0) := by decide +kernel
theorem cd_i102_81 : cd_I 102 81 = some (.istore_n 2, 0, 0) := by decide +kernel
theorem cd_i102_82 : cd_I 102 82 = some (.iload_n 2, 0, 0) := by decide +kernel
theorem cd_i102_83 : cd_I 102 83 = some (.aload_n 0, 0, 0) := by decide +kernel
theorem cd_i102_84 : cd_I 102 84 = some (.getfield 163, 11, 38) := by decide +kernel
theorem cd_i102_87 : cd_I 102 87 = some (.if_icmp .ge 23, 110, 0) := by decide +kernel
theorem cd_i102_90 : cd_I 102 90 = some (.aload_n 0, 0, 0) := by decide +kernel
theorem cd_i102_91 : cd_I 102 91 = some (.bipush 60, 0, 0) := by decide +kernel
theorem cd_i102_93 : cd_I 102 93 = some (.iload_n 2, 0, 0) := by decide +kernel
theorem cd_i102_94 : cd_I 102 94 = some (.iadd, 0, 0) := by decide +kernel
theorem cd_i102_95 : cd_I 102 95 = some (.bipush 6, 0, 0) := by decide +kernel
theorem cd_i102_97 : cd_I 102 97 = some (.iload_n 1, 0, 0) := by decide +kernel
theorem cd_i102_98 : cd_I 102 98 = some (.imul, 0, 0) := by decide +kernel
theorem cd_i102_99 : cd_I 102 99 = some (.iload_n 2, 0, 0) := by decide +kernel
theorem cd_i102_100 : cd_I 102 100 = some (.iadd, 0, 0) := by decide +kernel
theorem cd_i102_101 : cd_I 102 101 = some (.invokevirtual 180, 122, 2) := by decide +kernel
theorem cd_i102_104 : cd_I 102 104 = some (.iinc 2 1, 0, 0) := by decide +kernel
theorem cd_i102_107 : cd_I 102 107 = some (.goto (-25), 82, 0) := by decide +kernel
theorem cd_i102_110 : cd_I 102 110 = some (.aload_n 0, 0, 0) := by decide +kernel
theorem cd_i102_111 : cd_I 102 111 = some (.getfield 163, 11, 38) := by decide +kernel
theorem cd_i102_114 : cd_I 102 114 = some (.ireturn, 0, 0) := by decide +kernel
theorem cd_i103_0 : cd_I 103 0 = some (.aload_n 0, 0, 0) := by decide +kernel
theorem cd_i103_1 : cd_I 103 1 = some (.invokevirtual 135, 104, 0) := by decide +kernel
theorem cd_i103_4 : cd_I 103 4 = some (.istore_n 1, 0, 0) := by decide +kernel
theorem cd_i103_5 : cd_I 103 5 = some (.aload_n 0, 0, 0) := by decide +kernel
theorem cd_i103_6 : cd_I 103 6 = some (.iconst (-1), 0, 0) := by decide +kernel
theorem cd_i103_7 : cd_I 103 7 = some (.putfield 160, 11, 37) := by decide +kernel
theorem cd_i103_10 : cd_I 103 10 = some (.aload_n 0, 0, 0) := by decide +kernel
theorem cd_i103_11 : cd_I 103 11 = some (.getfield 101, 11, 4) := by decide +kernel
theorem cd_i103_14 : cd_I 103 14 = some (.ifCond .eq 48, 62, 0) := by decide +kernel
theorem cd_i103_17 : cd_I 103 17 = some (.aload_n 0, 0, 0) := by decide +kernel
theorem cd_i103_18 : cd_I 103 18 = some (.bipush 58, 0, 0) := by decide +kernel
theorem cd_i103_20 : cd_I 103 20 = some (.invokevirtual 109, 108, 1) := by decide +kernel
theorem cd_i103_23 : cd_I 103 23 = some (.ifCond .eq 39, 62, 0) := by decide +kernel
theorem cd_i103_26 : cd_I 103 26 = some (.aload_n 0, 0, 0) := by decide +kernel
theorem cd_i103_27 : cd_I 103 27 = some (.aload_n 0, 0, 0) := by decide +kernel
theorem cd_i103_28 : cd_I 103 28 = some (.invokevirtual 135, 104, 0) := by decide +kernel
theorem cd_i103_31 : cd_I 103 31 = some (.putfield 160, 11, 37) := by decide +kernel
theorem cd_i103_34 : cd_I 103 34 = some (.aload_n 0, 0, 0) := by decide +kernel
theorem cd_i103_35 : cd_I 103 35 = some (.aload_n 0, 0, 0) := by decide +kernel
theorem cd_i103_36 : cd_I 103 36 = some (.getfield 101, 11, 4) := by decide +kernel
theorem cd_i103_39 : cd_I 103 39 = some (.ifCond .eq 19, 58, 0) := by decide +kernel
theorem cd_i103_42 : cd_I 103 42 = some (.aload_n 0, 0, 0) := by decide +kernel
theorem cd_i103_43 : cd_I 103 43 = some (.getfield 13, 11, 5) := by decide +kernel
theorem cd_i103_46 : cd_I 103 46 = some (.aload_n 0, 0, 0) := by decide +kernel
theorem cd_i103_47 : cd_I 103 47 = some (.getfield 160, 11, 37) := by decide +kernel
theorem cd_i103_50 : cd_I 103 50 = some (.baload, 0, 0) := by decide +kernel
theorem cd_i103_51 : cd_I 103 51 = some (.ifCond .eq 7, 58, 0) := by decide +kernel
theorem cd_i103_54 : cd_I 103 54 = some (.iconst 1, 0, 0) := by decide +kernel
theorem cd_i103_55 : cd_I 103 55 = some (.goto 4, 59, 0) := by decide +kernel
theorem cd_i103_58 : cd_I 103 58 = some (.iconst 0, 0, 0) := by decide +kernel
theorem cd_i103_59 : cd_I 103 59 = some (.invokevirtual 113, 107, 1) := by decide +kernel
theorem cd_i103_62 : cd_I 103 62 = some (.aload_n 0, 0, 0) := by decide +kernel
theorem cd_i103_63 : cd_I 103 63 = some (.iconst 0, 0, 0) := by decide +kernel
theorem cd_i103_64 : cd_I 103 64 = some (.putfield 163, 11, 38) := by decide +kernel
theorem cd_i103_67 : cd_I 103 67 = some (.aload_n 0, 0, 0) := by decide +kernel
theorem cd_i103_68 : cd_I 103 68 = some (.bipush 123, 0, 0) := by decide +kernel
theorem cd_i103_70 : cd_I 103 70 = some (.invokevirtual 138, 109, 1) := by decide +kernel
theorem cd_i103_73 : cd_I 103 73 = some (.aload_n 0, 0, 0) := by decide +kernel
theorem cd_i103_74 : cd_I 103 74 = some (.getfield 101, 11, 4) := by decide +kernel
theorem cd_i103_77 : cd_I 103 77 = some (.ifCond .eq 165, 242, 0) := by decide +kernel
theorem cd_i103_80 : cd_I 103 80 = some (.aload_n 0, 0, 0) := by decide +kernel
theorem cd_i103_81 : cd_I 103 81 = some (.bipush 125, 0, 0) := by decide +kernel
theorem cd_i103_83 : cd_I 103 83 = some (.invokevirtual 109, 108, 1) := by decide +kernel
theorem cd_i103_86 : cd_I 103 86 = some (.ifCond .ne 156, 242, 0) := by decide +kernel
theorem cd_i103_89 : cd_I 103 89 = some (.aload_n 0, 0, 0) := by decide +kernel
theorem cd_i103_90 : cd_I 103 90 = some (.getfield 163, 11, 38) := by decide +kernel
theorem cd_i103_93 : cd_I 103 93 = some (.ifCond .le 9, 102, 0) := by decide +kernel
theorem cd_i103_96 : cd_I 103 96 = some (.aload_n 0, 0, 0) := by decide +kernel
theorem cd_i103_97 : cd_I 103 97 = some (.bipush 59, 0, 0) := by decide +kernel
theorem cd_i103_99 : cd_I 103 99 = some (.invokevirtual 138, 109, 1) := by decide +kernel
theorem cd_i103_102 : cd_I 103 102 = some (.aload_n 0, 0, 0) := by decide +kernel
theorem cd_i103_103 : cd_I 103 103 = some (.aload_n 0, 0, 0) := by decide +kernel
theorem cd_i103_104 : cd_I 103 104 = some (.getfield 163, 11, 38) := by decide +kernel
theorem cd_i103_107 : cd_I 103 107 = some (.bipush 6, 0, 0) := by decide +kernel
theorem cd_i103_109 : cd_I 103 109 = some (.if_icmp .ge 7, 116, 0) := by decide +kernel
theorem cd_i103_112 : cd_I 103 112 = some (.iconst 1, 0, 0) := by decide +kernel
theorem cd_i103_113 : cd_I 103 113 = some (.goto 4, 117, 0) := by decide +kernel
theorem cd_i103_116 : cd_I 103 116 = some (.iconst 0, 0, 0) := by decide +kernel
theorem cd_i103_117 : cd_I 103 117 = some (.invokevirtual 113, 107, 1) := by decide +kernel
theorem cd_i103_120 : cd_I 103 120 = some (.bipush 60, 0, 0) := by decide +kernel
theorem cd_i103_122 : cd_I 103 122 = some (.aload_n 0, 0, 0) := by decide +kernel
theorem cd_i103_123 : cd_I 103 123 = some (.getfield 163, 11, 38) := by decide +kernel
theorem cd_i103_126 : cd_I 103 126 = some (.iadd, 0, 0) := by decide +kernel
theorem cd_i103_127 : cd_I 103 127 = some (.istore_n 2, 0, 0) := by decide +kernel
theorem cd_i103_128 : cd_I 103 128 = some (.aload_n 0, 0, 0) := by decide +kernel
theorem cd_i103_129 : cd_I 103 129 = some (.getfield 101, 11, 4) := by decide +kernel
theorem cd_i103_132 : cd_I 103 132 = some (.ifCond .eq 9, 141, 0) := by decide +kernel
theorem cd_i103_135 : cd_I 103 135 = some (.aload_n 0, 0, 0) := by decide +kernel
theorem cd_i103_136 : cd_I 103 136 = some (.iload_n 2, 0, 0) := by decide +kernel
theorem cd_i103_137 : cd_I 103 137 = some (.iload_n 1, 0, 0) := by decide +kernel
theorem cd_i103_138 : cd_I 103 138 = some (.invokevirtual 166, 110, 2) := by decide +kernel
theorem cd_i103_141 : cd_I 103 141 = some (.bipush 60, 0, 0) := by decide +kernel
theorem cd_i103_143 : cd_I 103 143 = some (.istore_n 3, 0, 0) := by decide +kernel
theorem cd_i103_144 : cd_I 103 144 = some (.iload_n 3, 0, 0) := by decide +kernel
theorem cd_i103_145 : cd_I 103 145 = some (.iload_n 2, 0, 0) := by decide +kernel
theorem cd_i103_146 : cd_I 103 146 = some (.if_icmp .ge 55, 201, 0) := by decide +kernel
theorem cd_i103_149 : cd_I 103 149 = some (.aload_n 0, 0, 0) := by decide +kernel
theorem cd_i103_150 : cd_I 103 150 = some (.getfield 101, 11, 4) := by decide +kernel
theorem cd_i103_153 : cd_I 103 153 = some (.ifCond .eq 48, 201, 0) := by decide +kernel
theorem cd_i103_156 : cd_I 103 156 = some (.aload_n 0, 0, 0) := by decide +kernel
theorem cd_i103_157 : cd_I 103 157 = some (.aload_n 0, 0, 0) := by decide +kernel
theorem cd_i103_158 : cd_I 103 158 = some (.getfield 24, 11, 8) := by decide +kernel
theorem cd_i103_161 : cd_I 103 161 = some (.iload_n 3, 0, 0) := by decide +kernel
theorem cd_i103_162 : cd_I 103 162 = some (.iaload, 0, 0) := by decide +kernel
theorem cd_i103_163 : cd_I 103 163 = some (.aload_n 0, 0, 0) := by decide +kernel
theorem cd_i103_164 : cd_I 103 164 = some (.getfield 24, 11, 8) := by decide +kernel
theorem cd_i103_167 : cd_I 103 167 = some (.iload_n 2, 0, 0) := by decide +kernel
theorem cd_i103_168 : cd_I 103 168 = some (.iaload, 0, 0) := by decide +kernel
theorem cd_i103_169 : cd_I 103 169 = some (.if_icmp .ne 18, 187, 0) := by decide +kernel
theorem cd_i103_172 : cd_I 103 172 = some (.aload_n 0, 0, 0) := by decide +kernel
theorem cd_i103_173 : cd_I 103 173 = some (.getfield 33, 11, 11) := by decide +kernel
theorem cd_i103_176 : cd_I 103 176 = some (.iload_n 3, 0, 0) := by decide +kernel
theorem cd_i103_177 : cd_I 103 177 = some (.iaload, 0, 0) := by decide +kernel
theorem cd_i103_178 : cd_I 103 178 = some (.aload_n 0, 0, 0) := by decide +kernel
theorem cd_i103_179 : cd_I 103 179 = some (.getfield 33, 11, 11) := by decide +kernel
theorem cd_i103_182 : cd_I 103 182 = some (.iload_n 2, 0, 0) := by decide +kernel
theorem cd_i103_183 : cd_I 103 183 = some (.iaload, 0, 0) := by decide +kernel
theorem cd_i103_184 : cd_I 103 184 = some (.if_icmp .eq 7, 191, 0) := by decide +kernel
theorem cd_i103_187 : cd_I 103 187 = some (.iconst 1, 0, 0) := by decide +kernel
theorem cd_i103_188 : cd_I 103 188 = some (.goto 4, 192, 0) := by decide +kernel
theorem cd_i103_191 : cd_I 103 191 = some (.iconst 0, 0, 0) := by decide +kernel
theorem cd_i103_192 : cd_I 103 192 = some (.invokevirtual 113, 107, 1) := by decide +kernel
theorem cd_i103_195 : cd_I 103 195 = some (.iinc 3 1, 0, 0) := by decide +kernel
theorem cd_i103_198 : cd_I 103 198 = some (.goto (-54), 144, 0) := by decide +kernel
theorem cd_i103_201 : cd_I 103 201 = some (.aload_n 0, 0, 0) := by decide +kernel
theorem cd_i103_202 : cd_I 103 202 = some (.aload_n 0, 0, 0) := by decide +kernel
theorem cd_i103_203 : cd_I 103 203 = some (.getfield 101, 11, 4) := by decide +kernel
theorem cd_i103_206 : cd_I 103 206 = some (.ifCond .eq 15, 221, 0) := by decide +kernel
theorem cd_i103_209 : cd_I 103 209 = some (.aload_n 0, 0, 0) := by decide +kernel
theorem cd_i103_210 : cd_I 103 210 = some (.iload_n 2, 0, 0) := by decide +kernel
theorem cd_i103_211 : cd_I 103 211 = some (.aload_n 0, 0, 0) := by decide +kernel
theorem cd_i103_212 : cd_I 103 212 = some (.getfield 160, 11, 37) := by decide +kernel
theorem cd_i103_215 : cd_I 103 215 = some (.invokevirtual 170, 119, 2) := by decide +kernel
theorem cd_i103_218 : cd_I 103 218 = some (.ifCond .eq 7, 225, 0) := by decide +kernel
theorem cd_i103_221 : cd_I 103 221 = some (.iconst 1, 0, 0) := by decide +kernel
theorem cd_i103_222 : cd_I 103 222 = some (.goto 4, 226, 0) := by decide +kernel
theorem cd_i103_225 : cd_I 103 225 = some (.iconst 0, 0, 0) := by decide +kernel
theorem cd_i103_226 : cd_I 103 226 = some (.invokevirtual 113, 107, 1) := by decide +kernel
theorem cd_i103_229 : cd_I 103 229 = some (.aload_n 0, 0, 0) := by decide +kernel
theorem cd_i103_230 : cd_I 103 230 = some (.dup, 0, 0) := by decide +kernel
theorem cd_i103_231 : cd_I 103 231 = some (.getfield 163, 11, 38) := by decide +kernel
theorem cd_i103_234 : cd_I 103 234 = some (.iconst 1, 0, 0) := by decide +kernel
theorem cd_i103_235 : cd_I 103 235 = some (.iadd, 0, 0) := by decide +kernel
theorem cd_i103_236 : cd_I 103 236 = some (.putfield 163, 11, 38) := by decide +kernel
theorem cd_i103_239 : cd_I 103 239 = some (.goto (-166), 73, 0) := by decide +kernel
theorem cd_i103_242 : cd_I 103 242 = some (.aload_n 0, 0, 0) := by decide +kernel
theorem cd_i103_243 : cd_I 103 243 = some (.aload_n 0, 0, 0) := by decide +kernel
theorem cd_i103_244 : cd_I 103 244 = some (.getfield 98, 11, 3) := by decide +kernel
theorem cd_i103_247 : cd_I 103 247 = some (.aload_n 0, 0, 0) := by decide +kernel
theorem cd_i103_248 : cd_I 103 248 = some (.getfield 95, 11, 2) := by decide +kernel
theorem cd_i103_251 : cd_I 103 251 = some (.if_icmp .ne 7, 258, 0) := by decide +kernel
theorem cd_i103_254 : cd_I 103 254 = some (.iconst 1, 0, 0) := by decide +kernel
theorem cd_i103_255 : cd_I 103 255 = some (.goto 4, 259, 0) := by decide +kernel
theorem cd_i103_258 : cd_I 103 258 = some (.iconst 0, 0, 0) := by decide +kernel
theorem cd_i103_259 : cd_I 103 259 = some (.invokevirtual 113, 107, 1) := by decide +kernel
theorem cd_i103_262 : cd_I 103 262 = some (.iload_n 1, 0, 0) := by decide +kernel
theorem cd_i103_263 : cd_I 103 263 = some (.ireturn, 0, 0) := by decide +kernel
theorem cd_i104_0 : cd_I 104 0 = some (.aload_n 0, 0, 0) := by decide +kernel
theorem cd_i104_1 : cd_I 104 1 = some (.aload_n 0, 0, 0) := by decide +kernel
theorem cd_i104_2 : cd_I 104 2 = some (.iconst 0, 0, 0) := by decide +kernel
theorem cd_i104_3 : cd_I 104 3 = some (.invokevirtual 105, 105, 1) := by decide +kernel
theorem cd_i104_6 : cd_I 104 6 = some (.invokestatic 132, 106, 1) := by decide +kernel
theorem cd_i104_9 : cd_I 104 9 = some (.invokevirtual 113, 107, 1) := by decide +kernel
theorem cd_i104_12 : cd_I 104 12 = some (.aload_n 0, 0, 0) := by decide +kernel
theorem cd_i104_13 : cd_I 104 13 = some (.dup, 0, 0) := by decide +kernel
theorem cd_i104_14 : cd_I 104 14 = some (.getfield 98, 11, 3) := by decide +kernel
theorem cd_i104_17 : cd_I 104 17 = some (.iconst 1, 0, 0) := by decide +kernel
theorem cd_i104_18 : cd_I 104 18 = some (.iadd, 0, 0) := by decide +kernel
theorem cd_i104_19 : cd_I 104 19 = some (.putfield 98, 11, 3) := by decide +kernel
theorem cd_i104_22 : cd_I 104 22 = some (.aload_n 0, 0, 0) := by decide +kernel
theorem cd_i104_23 : cd_I 104 23 = some (.getfield 101, 11, 4) := by decide +kernel
theorem cd_i104_26 : cd_I 104 26 = some (.ifCond .eq 20, 46, 0) := by decide +kernel
theorem cd_i104_29 : cd_I 104 29 = some (.aload_n 0, 0, 0) := by decide +kernel
theorem cd_i104_30 : cd_I 104 30 = some (.getfield 7, 11, 1) := by decide +kernel
theorem cd_i104_33 : cd_I 104 33 = some (.aload_n 0, 0, 0) := by decide +kernel
theorem cd_i104_34 : cd_I 104 34 = some (.getfield 98, 11, 3) := by decide +kernel
theorem cd_i104_37 : cd_I 104 37 = some (.iconst 1, 0, 0) := by decide +kernel
theorem cd_i104_38 : cd_I 104 38 = some (.isub, 0, 0) := by decide +kernel
theorem cd_i104_39 : cd_I 104 39 = some (.caload, 0, 0) := by decide +kernel
theorem cd_i104_40 : cd_I 104 40 = some (.bipush 65, 0, 0) := by decide +kernel
theorem cd_i104_42 : cd_I 104 42 = some (.isub, 0, 0) := by decide +kernel
theorem cd_i104_43 : cd_I 104 43 = some (.goto 4, 47, 0) := by decide +kernel
theorem cd_i104_46 : cd_I 104 46 = some (.iconst 0, 0, 0) := by decide +kernel
theorem cd_i104_47 : cd_I 104 47 = some (.ireturn, 0, 0) := by decide +kernel
theorem cd_i105_0 : cd_I 105 0 = some (.aload_n 0, 0, 0) := by decide +kernel
theorem cd_i105_1 : cd_I 105 1 = some (.getfield 98, 11, 3) := by decide +kernel
theorem cd_i105_4 : cd_I 105 4 = some (.iload_n 1, 0, 0) := by decide +kernel
theorem cd_i105_5 : cd_I 105 5 = some (.iadd, 0, 0) := by decide +kernel
theorem cd_i105_6 : cd_I 105 6 = some (.aload_n 0, 0, 0) := by decide +kernel
theorem cd_i105_7 : cd_I 105 7 = some (.getfield 95, 11, 2) := by decide +kernel
theorem cd_i105_10 : cd_I 105 10 = some (.if_icmp .ge 17, 27, 0) := by decide +kernel
theorem cd_i105_13 : cd_I 105 13 = some (.aload_n 0, 0, 0) := by decide +kernel
theorem cd_i105_14 : cd_I 105 14 = some (.getfield 7, 11, 1) := by decide +kernel
theorem cd_i105_17 : cd_I 105 17 = some (.aload_n 0, 0, 0) := by decide +kernel
theorem cd_i105_18 : cd_I 105 18 = some (.getfield 98, 11, 3) := by decide +kernel
theorem cd_i105_21 : cd_I 105 21 = some (.iload_n 1, 0, 0) := by decide +kernel
theorem cd_i105_22 : cd_I 105 22 = some (.iadd, 0, 0) := by decide +kernel
theorem cd_i105_23 : cd_I 105 23 = some (.caload, 0, 0) := by decide +kernel
theorem cd_i105_24 : cd_I 105 24 = some (.goto 4, 28, 0) := by decide +kernel
theorem cd_i105_27 : cd_I 105 27 = some (.iconst 0, 0, 0) := by decide +kernel
theorem cd_i105_28 : cd_I 105 28 = some (.ireturn, 0, 0) := by decide +kernel
theorem cd_i106_0 : cd_I 106 0 = some (.iload_n 0, 0, 0) := by decide +kernel
theorem cd_i106_1 : cd_I 106 1 = some (.bipush 65, 0, 0) := by decide +kernel
theorem cd_i106_3 : cd_I 106 3 = some (.if_icmp .lt 13, 16, 0) := by decide +kernel
theorem cd_i106_6 : cd_I 106 6 = some (.iload_n 0, 0, 0) := by decide +kernel
theorem cd_i106_7 : cd_I 106 7 = some (.bipush 74, 0, 0) := by decide +kernel
theorem cd_i106_9 : cd_I 106 9 = some (.if_icmp .gt 7, 16, 0) := by decide +kernel
theorem cd_i106_12 : cd_I 106 12 = some (.iconst 1, 0, 0) := by decide +kernel
theorem cd_i106_13 : cd_I 106 13 = some (.goto 4, 17, 0) := by decide +kernel
theorem cd_i106_16 : cd_I 106 16 = some (.iconst 0, 0, 0) := by decide +kernel
theorem cd_i106_17 : cd_I 106 17 = some (.ireturn, 0, 0) := by decide +kernel
theorem cd_i107_0 : cd_I 107 0 = some (.aload_n 0, 0, 0) := by decide +kernel
theorem cd_i107_1 : cd_I 107 1 = some (.aload_n 0, 0, 0) := by decide +kernel
theorem cd_i107_2 : cd_I 107 2 = some (.getfield 101, 11, 4) := by decide +kernel
theorem cd_i107_5 : cd_I 107 5 = some (.ifCond .eq 11, 16, 0) := by decide +kernel
theorem cd_i107_8 : cd_I 107 8 = some (.iload_n 1, 0, 0) := by decide +kernel
theorem cd_i107_9 : cd_I 107 9 = some (.ifCond .eq 7, 16, 0) := by decide +kernel
theorem cd_i107_12 : cd_I 107 12 = some (.iconst 1, 0, 0) := by decide +kernel
theorem cd_i107_13 : cd_I 107 13 = some (.goto 4, 17, 0) := by decide +kernel
theorem cd_i107_16 : cd_I 107 16 = some (.iconst 0, 0, 0) := by decide +kernel
theorem cd_i107_17 : cd_I 107 17 = some (.putfield 101, 11, 4) := by decide +kernel
theorem cd_i107_20 : cd_I 107 20 = some (.return_, 0, 0) := by decide +kernel
theorem cd_i108_0 : cd_I 108 0 = some (.aload_n 0, 0, 0) := by decide +kernel
theorem cd_i108_1 : cd_I 108 1 = some (.iconst 0, 0, 0) := by decide +kernel
theorem cd_i108_2 : cd_I 108 2 = some (.invokevirtual 105, 105, 1) := by decide +kernel
theorem cd_i108_5 : cd_I 108 5 = some (.iload_n 1, 0, 0) := by decide +kernel
theorem cd_i108_6 : cd_I 108 6 = some (.if_icmp .ne 7, 13, 0) := by decide +kernel
theorem cd_i108_9 : cd_I 108 9 = some (.iconst 1, 0, 0) := by decide +kernel
theorem cd_i108_10 : cd_I 108 10 = some (.goto 4, 14, 0) := by decide +kernel
theorem cd_i108_13 : cd_I 108 13 = some (.iconst 0, 0, 0) := by decide +kernel
theorem cd_i108_14 : cd_I 108 14 = some (.istore_n 2, 0, 0) := by decide +kernel
theorem cd_i108_15 : cd_I 108 15 = some (.aload_n 0, 0, 0) := by decide +kernel
theorem cd_i108_16 : cd_I 108 16 = some (.iload_n 2, 0, 0) := by decide +kernel
theorem cd_i108_17 : cd_I 108 17 = some (.ifCond .eq 12, 29, 0) := by decide +kernel
theorem cd_i108_20 : cd_I 108 20 = some (.aload_n 0, 0, 0) := by decide +kernel
theorem cd_i108_21 : cd_I 108 21 = some (.getfield 98, 11, 3) := by decide +kernel
theorem cd_i108_24 : cd_I 108 24 = some (.iconst 1, 0, 0) := by decide +kernel
theorem cd_i108_25 : cd_I 108 25 = some (.iadd, 0, 0) := by decide +kernel
theorem cd_i108_26 : cd_I 108 26 = some (.goto 7, 33, 0) := by decide +kernel
theorem cd_i108_29 : cd_I 108 29 = some (.aload_n 0, 0, 0) := by decide +kernel
theorem cd_i108_30 : cd_I 108 30 = some (.getfield 98, 11, 3) := by decide +kernel
theorem cd_i108_33 : cd_I 108 33 = some (.putfield 98, 11, 3) := by decide +kernel
theorem cd_i108_36 : cd_I 108 36 = some (.iload_n 2, 0, 0) := by decide +kernel
theorem cd_i108_37 : cd_I 108 37 = some (.ireturn, 0, 0) := by decide +kernel
theorem cd_i109_0 : cd_I 109 0 = some (.aload_n 0, 0, 0) := by decide +kernel
theorem cd_i109_1 : cd_I 109 1 = some (.aload_n 0, 0, 0) := by decide +kernel
theorem cd_i109_2 : cd_I 109 2 = some (.iload_n 1, 0, 0) := by decide +kernel
theorem cd_i109_3 : cd_I 109 3 = some (.invokevirtual 109, 108, 1) := by decide +kernel
theorem cd_i109_6 : cd_I 109 6 = some (.invokevirtual 113, 107, 1) := by decide +kernel
theorem cd_i109_9 : cd_I 109 9 = some (.return_, 0, 0) := by decide +kernel
theorem cd_i110_0 : cd_I 110 0 = some (.aload_n 0, 0, 0) := by decide +kernel
theorem cd_i110_1 : cd_I 110 1 = some (.getfield 30, 11, 10) := by decide +kernel
theorem cd_i110_4 : cd_I 110 4 = some (.iload_n 1, 0, 0) := by decide +kernel
theorem cd_i110_5 : cd_I 110 5 = some (.aload_n 0, 0, 0) := by decide +kernel
theorem cd_i110_6 : cd_I 110 6 = some (.bipush 8, 0, 0) := by decide +kernel
theorem cd_i110_8 : cd_I 110 8 = some (.bipush 112, 0, 0) := by decide +kernel
theorem cd_i110_10 : cd_I 110 10 = some (.bipush 114, 0, 0) := by decide +kernel
theorem cd_i110_12 : cd_I 110 12 = some (.bipush 105, 0, 0) := by decide +kernel
theorem cd_i110_14 : cd_I 110 14 = some (.bipush 118, 0, 0) := by decide +kernel
theorem cd_i110_16 : cd_I 110 16 = some (.bipush 97, 0, 0) := by decide +kernel
theorem cd_i110_18 : cd_I 110 18 = some (.bipush 116, 0, 0) := by decide +kernel
theorem cd_i110_20 : cd_I 110 20 = some (.invokevirtual 145, 111, 7) := by decide +kernel
theorem cd_i110_23 : cd_I 110 23 = some (.bastore, 0, 0) := by decide +kernel
theorem cd_i110_24 : cd_I 110 24 = some (.aload_n 0, 0, 0) := by decide +kernel
theorem cd_i110_25 : cd_I 110 25 = some (.getfield 27, 11, 9) := by decide +kernel
theorem cd_i110_28 : cd_I 110 28 = some (.iload_n 1, 0, 0) := by decide +kernel
theorem cd_i110_29 : cd_I 110 29 = some (.iconst 1, 0, 0) := by decide +kernel
theorem cd_i110_30 : cd_I 110 30 = some (.bastore, 0, 0) := by decide +kernel
theorem cd_i110_31 : cd_I 110 31 = some (.aload_n 0, 0, 0) := by decide +kernel
theorem cd_i110_32 : cd_I 110 32 = some (.getfield 33, 11, 11) := by decide +kernel
theorem cd_i110_35 : cd_I 110 35 = some (.iload_n 1, 0, 0) := by decide +kernel
theorem cd_i110_36 : cd_I 110 36 = some (.iconst 0, 0, 0) := by decide +kernel
theorem cd_i110_37 : cd_I 110 37 = some (.iastore, 0, 0) := by decide +kernel
theorem cd_i110_38 : cd_I 110 38 = some (.aload_n 0, 0, 0) := by decide +kernel
theorem cd_i110_39 : cd_I 110 39 = some (.iconst 4, 0, 0) := by decide +kernel
theorem cd_i110_40 : cd_I 110 40 = some (.bipush 110, 0, 0) := by decide +kernel
theorem cd_i110_42 : cd_I 110 42 = some (.bipush 101, 0, 0) := by decide +kernel
theorem cd_i110_44 : cd_I 110 44 = some (.bipush 119, 0, 0) := by decide +kernel
theorem cd_i110_46 : cd_I 110 46 = some (.bipush 40, 0, 0) := by decide +kernel
theorem cd_i110_48 : cd_I 110 48 = some (.iconst 0, 0, 0) := by decide +kernel
theorem cd_i110_49 : cd_I 110 49 = some (.iconst 0, 0, 0) := by decide +kernel
theorem cd_i110_50 : cd_I 110 50 = some (.invokevirtual 145, 111, 7) := by decide +kernel
theorem cd_i110_53 : cd_I 110 53 = some (.ifCond .eq 35, 88, 0) := by decide +kernel
theorem cd_i110_56 : cd_I 110 56 = some (.aload_n 0, 0, 0) := by decide +kernel
theorem cd_i110_57 : cd_I 110 57 = some (.dup, 0, 0) := by decide +kernel
theorem cd_i110_58 : cd_I 110 58 = some (.getfield 98, 11, 3) := by decide +kernel
theorem cd_i110_61 : cd_I 110 61 = some (.iconst 1, 0, 0) := by decide +kernel
theorem cd_i110_62 : cd_I 110 62 = some (.isub, 0, 0) := by decide +kernel
theorem cd_i110_63 : cd_I 110 63 = some (.putfield 98, 11, 3) := by decide +kernel
theorem cd_i110_66 : cd_I 110 66 = some (.aload_n 0, 0, 0) := by decide +kernel
theorem cd_i110_67 : cd_I 110 67 = some (.getfield 24, 11, 8) := by decide +kernel
theorem cd_i110_70 : cd_I 110 70 = some (.iload_n 1, 0, 0) := by decide +kernel
theorem cd_i110_71 : cd_I 110 71 = some (.iconst 2, 0, 0) := by decide +kernel
theorem cd_i110_72 : cd_I 110 72 = some (.iastore, 0, 0) := by decide +kernel
theorem cd_i110_73 : cd_I 110 73 = some (.aload_n 0, 0, 0) := by decide +kernel
theorem cd_i110_74 : cd_I 110 74 = some (.getfield 36, 11, 12) := by decide +kernel
theorem cd_i110_77 : cd_I 110 77 = some (.iload_n 1, 0, 0) := by decide +kernel
theorem cd_i110_78 : cd_I 110 78 = some (.iconst 3, 0, 0) := by decide +kernel
theorem cd_i110_79 : cd_I 110 79 = some (.iload_n 2, 0, 0) := by decide +kernel
theorem cd_i110_80 : cd_I 110 80 = some (.iadd, 0, 0) := by decide +kernel
theorem cd_i110_81 : cd_I 110 81 = some (.iastore, 0, 0) := by decide +kernel
theorem cd_i110_82 : cd_I 110 82 = some (.aload_n 0, 0, 0) := by decide +kernel
theorem cd_i110_83 : cd_I 110 83 = some (.iload_n 1, 0, 0) := by decide +kernel
theorem cd_i110_84 : cd_I 110 84 = some (.invokevirtual 149, 112, 1) := by decide +kernel
theorem cd_i110_87 : cd_I 110 87 = some (.return_, 0, 0) := by decide +kernel
theorem cd_i110_88 : cd_I 110 88 = some (.aload_n 0, 0, 0) := by decide +kernel
theorem cd_i110_89 : cd_I 110 89 = some (.getfield 27, 11, 9) := by decide +kernel
theorem cd_i110_92 : cd_I 110 92 = some (.iload_n 1, 0, 0) := by decide +kernel
theorem cd_i110_93 : cd_I 110 93 = some (.aload_n 0, 0, 0) := by decide +kernel
theorem cd_i110_94 : cd_I 110 94 = some (.bipush 7, 0, 0) := by decide +kernel
theorem cd_i110_96 : cd_I 110 96 = some (.bipush 115, 0, 0) := by decide +kernel
theorem cd_i110_98 : cd_I 110 98 = some (.bipush 116, 0, 0) := by decide +kernel
theorem cd_i110_100 : cd_I 110 100 = some (.bipush 97, 0, 0) := by decide +kernel
theorem cd_i110_102 : cd_I 110 102 = some (.bipush 116, 0, 0) := by decide +kernel
theorem cd_i110_104 : cd_I 110 104 = some (.bipush 105, 0, 0) := by decide +kernel
theorem cd_i110_106 : cd_I 110 106 = some (.bipush 99, 0, 0) := by decide +kernel
theorem cd_i110_108 : cd_I 110 108 = some (.invokevirtual 145, 111, 7) := by decide +kernel
theorem cd_i110_111 : cd_I 110 111 = some (.bastore, 0, 0) := by decide +kernel
theorem cd_i110_112 : cd_I 110 112 = some (.aload_n 0, 0, 0) := by decide +kernel
theorem cd_i110_113 : cd_I 110 113 = some (.getfield 33, 11, 11) := by decide +kernel
theorem cd_i110_116 : cd_I 110 116 = some (.iload_n 1, 0, 0) := by decide +kernel
theorem cd_i110_117 : cd_I 110 117 = some (.aload_n 0, 0, 0) := by decide +kernel
theorem cd_i110_118 : cd_I 110 118 = some (.invokevirtual 153, 117, 0) := by decide +kernel
theorem cd_i110_121 : cd_I 110 121 = some (.iastore, 0, 0) := by decide +kernel
theorem cd_i110_122 : cd_I 110 122 = some (.aload_n 0, 0, 0) := by decide +kernel
theorem cd_i110_123 : cd_I 110 123 = some (.getfield 24, 11, 8) := by decide +kernel
theorem cd_i110_126 : cd_I 110 126 = some (.iload_n 1, 0, 0) := by decide +kernel
theorem cd_i110_127 : cd_I 110 127 = some (.aload_n 0, 0, 0) := by decide +kernel
theorem cd_i110_128 : cd_I 110 128 = some (.iconst 0, 0, 0) := by decide +kernel
theorem cd_i110_129 : cd_I 110 129 = some (.invokevirtual 105, 105, 1) := by decide +kernel
theorem cd_i110_132 : cd_I 110 132 = some (.bipush 40, 0, 0) := by decide +kernel
theorem cd_i110_134 : cd_I 110 134 = some (.if_icmp .ne 7, 141, 0) := by decide +kernel
theorem cd_i110_137 : cd_I 110 137 = some (.iconst 1, 0, 0) := by decide +kernel
theorem cd_i110_138 : cd_I 110 138 = some (.goto 4, 142, 0) := by decide +kernel
theorem cd_i110_141 : cd_I 110 141 = some (.iconst 0, 0, 0) := by decide +kernel
theorem cd_i110_142 : cd_I 110 142 = some (.iastore, 0, 0) := by decide +kernel
theorem cd_i110_143 : cd_I 110 143 = some (.aload_n 0, 0, 0) := by decide +kernel
theorem cd_i110_144 : cd_I 110 144 = some (.getfield 39, 11, 13) := by decide +kernel
theorem cd_i110_147 : cd_I 110 147 = some (.iload_n 1, 0, 0) := by decide +kernel
theorem cd_i110_148 : cd_I 110 148 = some (.iconst 0, 0, 0) := by decide +kernel
theorem cd_i110_149 : cd_I 110 149 = some (.iastore, 0, 0) := by decide +kernel
theorem cd_i110_150 : cd_I 110 150 = some (.aload_n 0, 0, 0) := by decide +kernel
theorem cd_i110_151 : cd_I 110 151 = some (.getfield 24, 11, 8) := by decide +kernel
theorem cd_i110_154 : cd_I 110 154 = some (.iload_n 1, 0, 0) := by decide +kernel
theorem cd_i110_155 : cd_I 110 155 = some (.iaload, 0, 0) := by decide +kernel
theorem cd_i110_156 : cd_I 110 156 = some (.iconst 1, 0, 0) := by decide +kernel
theorem cd_i110_157 : cd_I 110 157 = some (.if_icmp .ne 8, 165, 0) := by decide +kernel
theorem cd_i110_160 : cd_I 110 160 = some (.aload_n 0, 0, 0) := by decide +kernel
theorem cd_i110_161 : cd_I 110 161 = some (.iload_n 1, 0, 0) := by decide +kernel
theorem cd_i110_162 : cd_I 110 162 = some (.invokevirtual 149, 112, 1) := by decide +kernel
theorem cd_i110_165 : cd_I 110 165 = some (.aload_n 0, 0, 0) := by decide +kernel
theorem cd_i110_166 : cd_I 110 166 = some (.bipush 58, 0, 0) := by decide +kernel
theorem cd_i110_168 : cd_I 110 168 = some (.invokevirtual 138, 109, 1) := by decide +kernel
theorem cd_i110_171 : cd_I 110 171 = some (.aload_n 0, 0, 0) := by decide +kernel
theorem cd_i110_172 : cd_I 110 172 = some (.getfield 36, 11, 12) := by decide +kernel
theorem cd_i110_175 : cd_I 110 175 = some (.iload_n 1, 0, 0) := by decide +kernel
theorem cd_i110_176 : cd_I 110 176 = some (.aload_n 0, 0, 0) := by decide +kernel
theorem cd_i110_177 : cd_I 110 177 = some (.getfield 101, 11, 4) := by decide +kernel
theorem cd_i110_180 : cd_I 110 180 = some (.ifCond .eq 10, 190, 0) := by decide +kernel
theorem cd_i110_183 : cd_I 110 183 = some (.aload_n 0, 0, 0) := by decide +kernel
theorem cd_i110_184 : cd_I 110 184 = some (.invokevirtual 142, 113, 0) := by decide +kernel
theorem cd_i110_187 : cd_I 110 187 = some (.goto 4, 191, 0) := by decide +kernel
theorem cd_i110_190 : cd_I 110 190 = some (.iconst 0, 0, 0) := by decide +kernel
theorem cd_i110_191 : cd_I 110 191 = some (.iastore, 0, 0) := by decide +kernel
theorem cd_i110_192 : cd_I 110 192 = some (.return_, 0, 0) := by decide +kernel
theorem cd_i111_0 : cd_I 111 0 = some (.aload_n 0, 0, 0) := by decide +kernel
theorem cd_i111_1 : cd_I 111 1 = some (.iconst 0, 0, 0) := by decide +kernel
theorem cd_i111_2 : cd_I 111 2 = some (.invokevirtual 105, 105, 1) := by decide +kernel
theorem cd_i111_5 : cd_I 111 5 = some (.iload_n 2, 0, 0) := by decide +kernel
theorem cd_i111_6 : cd_I 111 6 = some (.if_icmp .ne 36, 42, 0) := by decide +kernel
theorem cd_i111_9 : cd_I 111 9 = some (.aload_n 0, 0, 0) := by decide +kernel
theorem cd_i111_10 : cd_I 111 10 = some (.iconst 1, 0, 0) := by decide +kernel
theorem cd_i111_11 : cd_I 111 11 = some (.invokevirtual 105, 105, 1) := by decide +kernel
theorem cd_i111_14 : cd_I 111 14 = some (.iload_n 3, 0, 0) := by decide +kernel
theorem cd_i111_15 : cd_I 111 15 = some (.if_icmp .ne 27, 42, 0) := by decide +kernel
theorem cd_i111_18 : cd_I 111 18 = some (.aload_n 0, 0, 0) := by decide +kernel
theorem cd_i111_19 : cd_I 111 19 = some (.iconst 2, 0, 0) := by decide +kernel
theorem cd_i111_20 : cd_I 111 20 = some (.invokevirtual 105, 105, 1) := by decide +kernel
theorem cd_i111_23 : cd_I 111 23 = some (.iload 4, 0, 0) := by decide +kernel
theorem cd_i111_25 : cd_I 111 25 = some (.if_icmp .ne 17, 42, 0) := by decide +kernel
theorem cd_i111_28 : cd_I 111 28 = some (.aload_n 0, 0, 0) := by decide +kernel
theorem cd_i111_29 : cd_I 111 29 = some (.iconst 3, 0, 0) := by decide +kernel
theorem cd_i111_30 : cd_I 111 30 = some (.invokevirtual 105, 105, 1) := by decide +kernel
theorem cd_i111_33 : cd_I 111 33 = some (.iload 5, 0, 0) := by decide +kernel
theorem cd_i111_35 : cd_I 111 35 = some (.if_icmp .ne 7, 42, 0) := by decide +kernel
theorem cd_i111_38 : cd_I 111 38 = some (.iconst 1, 0, 0) := by decide +kernel
theorem cd_i111_39 : cd_I 111 39 = some (.goto 4, 43, 0) := by decide +kernel
theorem cd_i111_42 : cd_I 111 42 = some (.iconst 0, 0, 0) := by decide +kernel
theorem cd_i111_43 : cd_I 111 43 = some (.istore 8, 0, 0) := by decide +kernel
theorem cd_i111_45 : cd_I 111 45 = some (.iload 8, 0, 0) := by decide +kernel
theorem cd_i111_47 : cd_I 111 47 = some (.ifCond .eq 38, 85, 0) := by decide +kernel
theorem cd_i111_50 : cd_I 111 50 = some (.iload_n 1, 0, 0) := by decide +kernel
theorem cd_i111_51 : cd_I 111 51 = some (.iconst 5, 0, 0) := by decide +kernel
theorem cd_i111_52 : cd_I 111 52 = some (.if_icmp .lt 13, 65, 0) := by decide +kernel
theorem cd_i111_55 : cd_I 111 55 = some (.aload_n 0, 0, 0) := by decide +kernel
theorem cd_i111_56 : cd_I 111 56 = some (.iconst 4, 0, 0) := by decide +kernel
theorem cd_i111_57 : cd_I 111 57 = some (.invokevirtual 105, 105, 1) := by decide +kernel
theorem cd_i111_60 : cd_I 111 60 = some (.iload 6, 0, 0) := by decide +kernel
theorem cd_i111_62 : cd_I 111 62 = some (.if_icmp .ne 23, 85, 0) := by decide +kernel
theorem cd_i111_65 : cd_I 111 65 = some (.iload_n 1, 0, 0) := by decide +kernel
theorem cd_i111_66 : cd_I 111 66 = some (.bipush 6, 0, 0) := by decide +kernel
theorem cd_i111_68 : cd_I 111 68 = some (.if_icmp .lt 13, 81, 0) := by decide +kernel
theorem cd_i111_71 : cd_I 111 71 = some (.aload_n 0, 0, 0) := by decide +kernel
theorem cd_i111_72 : cd_I 111 72 = some (.iconst 5, 0, 0) := by decide +kernel
theorem cd_i111_73 : cd_I 111 73 = some (.invokevirtual 105, 105, 1) := by decide +kernel
theorem cd_i111_76 : cd_I 111 76 = some (.iload 7, 0, 0) := by decide +kernel
theorem cd_i111_78 : cd_I 111 78 = some (.if_icmp .ne 7, 85, 0) := by decide +kernel
theorem cd_i111_81 : cd_I 111 81 = some (.iconst 1, 0, 0) := by decide +kernel
theorem cd_i111_82 : cd_I 111 82 = some (.goto 4, 86, 0) := by decide +kernel
theorem cd_i111_85 : cd_I 111 85 = some (.iconst 0, 0, 0) := by decide +kernel
theorem cd_i111_86 : cd_I 111 86 = some (.istore 8, 0, 0) := by decide +kernel
theorem cd_i111_88 : cd_I 111 88 = some (.iload 8, 0, 0) := by decide +kernel
theorem cd_i111_90 : cd_I 111 90 = some (.ifCond .eq 52, 142, 0) := by decide +kernel
theorem cd_i111_93 : cd_I 111 93 = some (.iload_n 1, 0, 0) := by decide +kernel
theorem cd_i111_94 : cd_I 111 94 = some (.bipush 7, 0, 0) := by decide +kernel
theorem cd_i111_96 : cd_I 111 96 = some (.if_icmp .lt 42, 138, 0) := by decide +kernel
theorem cd_i111_99 : cd_I 111 99 = some (.aload_n 0, 0, 0) := by decide +kernel
theorem cd_i111_100 : cd_I 111 100 = some (.bipush 6, 0, 0) := by decide +kernel
theorem cd_i111_102 : cd_I 111 102 = some (.invokevirtual 105, 105, 1) := by decide +kernel
theorem cd_i111_105 : cd_I 111 105 = some (.iload_n 1, 0, 0) := by decide +kernel
theorem cd_i111_106 : cd_I 111 106 = some (.bipush 7, 0, 0) := by decide +kernel
theorem cd_i111_108 : cd_I 111 108 = some (.if_icmp .ne 8, 116, 0) := by decide +kernel
theorem cd_i111_111 : cd_I 111 111 = some (.bipush 32, 0, 0) := by decide +kernel
theorem cd_i111_113 : cd_I 111 113 = some (.goto 5, 118, 0) := by decide +kernel
theorem cd_i111_116 : cd_I 111 116 = some (.bipush 101, 0, 0) := by decide +kernel
theorem cd_i111_118 : cd_I 111 118 = some (.if_icmp .ne 24, 142, 0) := by decide +kernel
theorem cd_i111_121 : cd_I 111 121 = some (.iload_n 1, 0, 0) := by decide +kernel
theorem cd_i111_122 : cd_I 111 122 = some (.bipush 8, 0, 0) := by decide +kernel
theorem cd_i111_124 : cd_I 111 124 = some (.if_icmp .lt 14, 138, 0) := by decide +kernel
theorem cd_i111_127 : cd_I 111 127 = some (.aload_n 0, 0, 0) := by decide +kernel
theorem cd_i111_128 : cd_I 111 128 = some (.bipush 7, 0, 0) := by decide +kernel
theorem cd_i111_130 : cd_I 111 130 = some (.invokevirtual 105, 105, 1) := by decide +kernel
theorem cd_i111_133 : cd_I 111 133 = some (.bipush 32, 0, 0) := by decide +kernel
theorem cd_i111_135 : cd_I 111 135 = some (.if_icmp .ne 7, 142, 0) := by decide +kernel
theorem cd_i111_138 : cd_I 111 138 = some (.iconst 1, 0, 0) := by decide +kernel
theorem cd_i111_139 : cd_I 111 139 = some (.goto 4, 143, 0) := by decide +kernel
theorem cd_i111_142 : cd_I 111 142 = some (.iconst 0, 0, 0) := by decide +kernel
theorem cd_i111_143 : cd_I 111 143 = some (.istore 8, 0, 0) := by decide +kernel
theorem cd_i111_145 : cd_I 111 145 = some (.aload_n 0, 0, 0) := by decide +kernel
theorem cd_i111_146 : cd_I 111 146 = some (.iload 8, 0, 0) := by decide +kernel
theorem cd_i111_148 : cd_I 111 148 = some (.ifCond .eq 12, 160, 0) := by decide +kernel
theorem cd_i111_151 : cd_I 111 151 = some (.aload_n 0, 0, 0) := by decide +kernel
theorem cd_i111_152 : cd_I 111 152 = some (.getfield 98, 11, 3) := by decide +kernel
theorem cd_i111_155 : cd_I 111 155 = some (.iload_n 1, 0, 0) := by decide +kernel
theorem cd_i111_156 : cd_I 111 156 = some (.iadd, 0, 0) := by decide +kernel
theorem cd_i111_157 : cd_I 111 157 = some (.goto 7, 164, 0) := by decide +kernel
theorem cd_i111_160 : cd_I 111 160 = some (.aload_n 0, 0, 0) := by decide +kernel
theorem cd_i111_161 : cd_I 111 161 = some (.getfield 98, 11, 3) := by decide +kernel
theorem cd_i111_164 : cd_I 111 164 = some (.putfield 98, 11, 3) := by decide +kernel
theorem cd_i111_167 : cd_I 111 167 = some (.iload 8, 0, 0) := by decide +kernel
theorem cd_i111_169 : cd_I 111 169 = some (.ireturn, 0, 0) := by decide +kernel
theorem cd_i112_0 : cd_I 112 0 = some (.aload_n 0, 0, 0) := by decide +kernel
theorem cd_i112_1 : cd_I 112 1 = some (.getfield 39, 11, 13) := by decide +kernel
theorem cd_i112_4 : cd_I 112 4 = some (.iload_n 1, 0, 0) := by decide +kernel
theorem cd_i112_5 : cd_I 112 5 = some (.iconst 0, 0, 0) := by decide +kernel
theorem cd_i112_6 : cd_I 112 6 = some (.iastore, 0, 0) := by decide +kernel
theorem cd_i112_7 : cd_I 112 7 = some (.aload_n 0, 0, 0) := by decide +kernel
theorem cd_i112_8 : cd_I 112 8 = some (.bipush 40, 0, 0) := by decide +kernel
theorem cd_i112_10 : cd_I 112 10 = some (.invokevirtual 138, 109, 1) := by decide +kernel
theorem cd_i112_13 : cd_I 112 13 = some (.aload_n 0, 0, 0) := by decide +kernel
theorem cd_i112_14 : cd_I 112 14 = some (.getfield 101, 11, 4) := by decide +kernel
theorem cd_i112_17 : cd_I 112 17 = some (.ifCond .eq 98, 115, 0) := by decide +kernel
theorem cd_i112_20 : cd_I 112 20 = some (.aload_n 0, 0, 0) := by decide +kernel
theorem cd_i112_21 : cd_I 112 21 = some (.bipush 41, 0, 0) := by decide +kernel
theorem cd_i112_23 : cd_I 112 23 = some (.invokevirtual 109, 108, 1) := by decide +kernel
theorem cd_i112_26 : cd_I 112 26 = some (.ifCond .ne 89, 115, 0) := by decide +kernel
theorem cd_i112_29 : cd_I 112 29 = some (.aload_n 0, 0, 0) := by decide +kernel
theorem cd_i112_30 : cd_I 112 30 = some (.getfield 39, 11, 13) := by decide +kernel
theorem cd_i112_33 : cd_I 112 33 = some (.iload_n 1, 0, 0) := by decide +kernel
theorem cd_i112_34 : cd_I 112 34 = some (.iaload, 0, 0) := by decide +kernel
theorem cd_i112_35 : cd_I 112 35 = some (.ifCond .le 9, 44, 0) := by decide +kernel
theorem cd_i112_38 : cd_I 112 38 = some (.aload_n 0, 0, 0) := by decide +kernel
theorem cd_i112_39 : cd_I 112 39 = some (.bipush 44, 0, 0) := by decide +kernel
theorem cd_i112_41 : cd_I 112 41 = some (.invokevirtual 138, 109, 1) := by decide +kernel
theorem cd_i112_44 : cd_I 112 44 = some (.aload_n 0, 0, 0) := by decide +kernel
theorem cd_i112_45 : cd_I 112 45 = some (.aload_n 0, 0, 0) := by decide +kernel
theorem cd_i112_46 : cd_I 112 46 = some (.getfield 39, 11, 13) := by decide +kernel
theorem cd_i112_49 : cd_I 112 49 = some (.iload_n 1, 0, 0) := by decide +kernel
theorem cd_i112_50 : cd_I 112 50 = some (.iaload, 0, 0) := by decide +kernel
theorem cd_i112_51 : cd_I 112 51 = some (.iconst 2, 0, 0) := by decide +kernel
theorem cd_i112_52 : cd_I 112 52 = some (.if_icmp .ge 7, 59, 0) := by decide +kernel
theorem cd_i112_55 : cd_I 112 55 = some (.iconst 1, 0, 0) := by decide +kernel
theorem cd_i112_56 : cd_I 112 56 = some (.goto 4, 60, 0) := by decide +kernel
theorem cd_i112_59 : cd_I 112 59 = some (.iconst 0, 0, 0) := by decide +kernel
theorem cd_i112_60 : cd_I 112 60 = some (.invokevirtual 113, 107, 1) := by decide +kernel
theorem cd_i112_63 : cd_I 112 63 = some (.aload_n 0, 0, 0) := by decide +kernel
theorem cd_i112_64 : cd_I 112 64 = some (.getfield 101, 11, 4) := by decide +kernel
theorem cd_i112_67 : cd_I 112 67 = some (.ifCond .eq 10, 77, 0) := by decide +kernel
theorem cd_i112_70 : cd_I 112 70 = some (.aload_n 0, 0, 0) := by decide +kernel
theorem cd_i112_71 : cd_I 112 71 = some (.invokevirtual 142, 113, 0) := by decide +kernel
theorem cd_i112_74 : cd_I 112 74 = some (.goto 4, 78, 0) := by decide +kernel
theorem cd_i112_77 : cd_I 112 77 = some (.iconst 0, 0, 0) := by decide +kernel
theorem cd_i112_78 : cd_I 112 78 = some (.istore_n 2, 0, 0) := by decide +kernel
theorem cd_i112_79 : cd_I 112 79 = some (.aload_n 0, 0, 0) := by decide +kernel
theorem cd_i112_80 : cd_I 112 80 = some (.getfield 101, 11, 4) := by decide +kernel
theorem cd_i112_83 : cd_I 112 83 = some (.ifCond .eq 19, 102, 0) := by decide +kernel
theorem cd_i112_86 : cd_I 112 86 = some (.aload_n 0, 0, 0) := by decide +kernel
theorem cd_i112_87 : cd_I 112 87 = some (.getfield 42, 11, 14) := by decide +kernel
theorem cd_i112_90 : cd_I 112 90 = some (.iconst 2, 0, 0) := by decide +kernel
theorem cd_i112_91 : cd_I 112 91 = some (.iload_n 1, 0, 0) := by decide +kernel
theorem cd_i112_92 : cd_I 112 92 = some (.imul, 0, 0) := by decide +kernel
theorem cd_i112_93 : cd_I 112 93 = some (.aload_n 0, 0, 0) := by decide +kernel
theorem cd_i112_94 : cd_I 112 94 = some (.getfield 39, 11, 13) := by decide +kernel
theorem cd_i112_97 : cd_I 112 97 = some (.iload_n 1, 0, 0) := by decide +kernel
theorem cd_i112_98 : cd_I 112 98 = some (.iaload, 0, 0) := by decide +kernel
theorem cd_i112_99 : cd_I 112 99 = some (.iadd, 0, 0) := by decide +kernel
theorem cd_i112_100 : cd_I 112 100 = some (.iload_n 2, 0, 0) := by decide +kernel
theorem cd_i112_101 : cd_I 112 101 = some (.iastore, 0, 0) := by decide +kernel
theorem cd_i112_102 : cd_I 112 102 = some (.aload_n 0, 0, 0) := by decide +kernel
theorem cd_i112_103 : cd_I 112 103 = some (.getfield 39, 11, 13) := by decide +kernel
theorem cd_i112_106 : cd_I 112 106 = some (.iload_n 1, 0, 0) := by decide +kernel
theorem cd_i112_107 : cd_I 112 107 = some (.dup2, 0, 0) := by decide +kernel
theorem cd_i112_108 : cd_I 112 108 = some (.iaload, 0, 0) := by decide +kernel
theorem cd_i112_109 : cd_I 112 109 = some (.iconst 1, 0, 0) := by decide +kernel
theorem cd_i112_110 : cd_I 112 110 = some (.iadd, 0, 0) := by decide +kernel
theorem cd_i112_111 : cd_I 112 111 = some (.iastore, 0, 0) := by decide +kernel
theorem cd_i112_112 : cd_I 112 112 = some (.goto (-99), 13, 0) := by decide +kernel
theorem cd_i112_115 : cd_I 112 115 = some (.return_, 0, 0) := by decide +kernel
theorem cd_i113_0 : cd_I 113 0 = some (.aload_n 0, 0, 0) := by decide +kernel
theorem cd_i113_1 : cd_I 113 1 = some (.iconst 0, 0, 0) := by decide +kernel
theorem cd_i113_2 : cd_I 113 2 = some (.invokevirtual 105, 105, 1) := by decide +kernel
theorem cd_i113_5 : cd_I 113 5 = some (.invokestatic 132, 106, 1) := by decide +kernel
theorem cd_i113_8 : cd_I 113 8 = some (.ifCond .eq 10, 18, 0) := by decide +kernel
theorem cd_i113_11 : cd_I 113 11 = some (.iconst 3, 0, 0) := by decide +kernel
theorem cd_i113_12 : cd_I 113 12 = some (.aload_n 0, 0, 0) := by decide +kernel
theorem cd_i113_13 : cd_I 113 13 = some (.invokevirtual 135, 104, 0) := by decide +kernel
theorem cd_i113_16 : cd_I 113 16 = some (.iadd, 0, 0) := by decide +kernel
theorem cd_i113_17 : cd_I 113 17 = some (.ireturn, 0, 0) := by decide +kernel
theorem cd_i113_18 : cd_I 113 18 = some (.aload_n 0, 0, 0) := by decide +kernel
theorem cd_i113_19 : cd_I 113 19 = some (.invokevirtual 124, 114, 0) := by decide +kernel
theorem cd_i113_22 : cd_I 113 22 = some (.istore_n 1, 0, 0) := by decide +kernel
theorem cd_i113_23 : cd_I 113 23 = some (.iload_n 1, 0, 0) := by decide +kernel
theorem cd_i113_24 : cd_I 113 24 = some (.bipush 105, 0, 0) := by decide +kernel
theorem cd_i113_26 : cd_I 113 26 = some (.bipush 110, 0, 0) := by decide +kernel
theorem cd_i113_28 : cd_I 113 28 = some (.bipush 116, 0, 0) := by decide +kernel
theorem cd_i113_30 : cd_I 113 30 = some (.iconst 0, 0, 0) := by decide +kernel
theorem cd_i113_31 : cd_I 113 31 = some (.invokestatic 120, 116, 4) := by decide +kernel
theorem cd_i113_34 : cd_I 113 34 = some (.if_icmp .ne 7, 41, 0) := by decide +kernel
theorem cd_i113_37 : cd_I 113 37 = some (.iconst 0, 0, 0) := by decide +kernel
theorem cd_i113_38 : cd_I 113 38 = some (.goto 42, 80, 0) := by decide +kernel
theorem cd_i113_41 : cd_I 113 41 = some (.iload_n 1, 0, 0) := by decide +kernel
theorem cd_i113_42 : cd_I 113 42 = some (.bipush 108, 0, 0) := by decide +kernel
theorem cd_i113_44 : cd_I 113 44 = some (.bipush 111, 0, 0) := by decide +kernel
theorem cd_i113_46 : cd_I 113 46 = some (.bipush 110, 0, 0) := by decide +kernel
theorem cd_i113_48 : cd_I 113 48 = some (.bipush 103, 0, 0) := by decide +kernel
theorem cd_i113_50 : cd_I 113 50 = some (.invokestatic 120, 116, 4) := by decide +kernel
theorem cd_i113_53 : cd_I 113 53 = some (.if_icmp .ne 7, 60, 0) := by decide +kernel
theorem cd_i113_56 : cd_I 113 56 = some (.iconst 1, 0, 0) := by decide +kernel
theorem cd_i113_57 : cd_I 113 57 = some (.goto 23, 80, 0) := by decide +kernel
theorem cd_i113_60 : cd_I 113 60 = some (.iload_n 1, 0, 0) := by decide +kernel
theorem cd_i113_61 : cd_I 113 61 = some (.bipush 98, 0, 0) := by decide +kernel
theorem cd_i113_63 : cd_I 113 63 = some (.bipush 111, 0, 0) := by decide +kernel
theorem cd_i113_65 : cd_I 113 65 = some (.bipush 111, 0, 0) := by decide +kernel
theorem cd_i113_67 : cd_I 113 67 = some (.bipush 108, 0, 0) := by decide +kernel
theorem cd_i113_69 : cd_I 113 69 = some (.invokestatic 120, 116, 4) := by decide +kernel
theorem cd_i113_72 : cd_I 113 72 = some (.if_icmp .ne 7, 79, 0) := by decide +kernel
theorem cd_i113_75 : cd_I 113 75 = some (.iconst 2, 0, 0) := by decide +kernel
theorem cd_i113_76 : cd_I 113 76 = some (.goto 4, 80, 0) := by decide +kernel
theorem cd_i113_79 : cd_I 113 79 = some (.iconst (-1), 0, 0) := by decide +kernel
theorem cd_i113_80 : cd_I 113 80 = some (.istore_n 2, 0, 0) := by decide +kernel
theorem cd_i113_81 : cd_I 113 81 = some (.aload_n 0, 0, 0) := by decide +kernel
theorem cd_i113_82 : cd_I 113 82 = some (.iload_n 2, 0, 0) := by decide +kernel
theorem cd_i113_83 : cd_I 113 83 = some (.iconst (-1), 0, 0) := by decide +kernel
theorem cd_i113_84 : cd_I 113 84 = some (.if_icmp .eq 7, 91, 0) := by decide +kernel
theorem cd_i113_87 : cd_I 113 87 = some (.iconst 1, 0, 0) := by decide +kernel
theorem cd_i113_88 : cd_I 113 88 = some (.goto 4, 92, 0) := by decide +kernel
theorem cd_i113_91 : cd_I 113 91 = some (.iconst 0, 0, 0) := by decide +kernel
theorem cd_i113_92 : cd_I 113 92 = some (.invokevirtual 113, 107, 1) := by decide +kernel
theorem cd_i113_95 : cd_I 113 95 = some (.iload_n 2, 0, 0) := by decide +kernel
theorem cd_i113_96 : cd_I 113 96 = some (.ireturn, 0, 0) := by decide +kernel
theorem cd_i114_0 : cd_I 114 0 = some (.iconst 0, 0, 0) := by decide +kernel
theorem cd_i114_1 : cd_I 114 1 = some (.istore_n 1, 0, 0) := by decide +kernel
theorem cd_i114_2 : cd_I 114 2 = some (.iconst 0, 0, 0) := by decide +kernel
theorem cd_i114_3 : cd_I 114 3 = some (.istore_n 2, 0, 0) := by decide +kernel
theorem cd_i114_4 : cd_I 114 4 = some (.aload_n 0, 0, 0) := by decide +kernel
theorem cd_i114_5 : cd_I 114 5 = some (.iconst 0, 0, 0) := by decide +kernel
theorem cd_i114_6 : cd_I 114 6 = some (.invokevirtual 105, 105, 1) := by decide +kernel
theorem cd_i114_9 : cd_I 114 9 = some (.invokestatic 117, 115, 1) := by decide +kernel
theorem cd_i114_12 : cd_I 114 12 = some (.ifCond .eq 42, 54, 0) := by decide +kernel
theorem cd_i114_15 : cd_I 114 15 = some (.iload_n 2, 0, 0) := by decide +kernel
theorem cd_i114_16 : cd_I 114 16 = some (.iconst 4, 0, 0) := by decide +kernel
theorem cd_i114_17 : cd_I 114 17 = some (.if_icmp .ge 19, 36, 0) := by decide +kernel
theorem cd_i114_20 : cd_I 114 20 = some (.bipush 27, 0, 0) := by decide +kernel
theorem cd_i114_22 : cd_I 114 22 = some (.iload_n 1, 0, 0) := by decide +kernel
theorem cd_i114_23 : cd_I 114 23 = some (.imul, 0, 0) := by decide +kernel
theorem cd_i114_24 : cd_I 114 24 = some (.aload_n 0, 0, 0) := by decide +kernel
theorem cd_i114_25 : cd_I 114 25 = some (.iconst 0, 0, 0) := by decide +kernel
theorem cd_i114_26 : cd_I 114 26 = some (.invokevirtual 105, 105, 1) := by decide +kernel
theorem cd_i114_29 : cd_I 114 29 = some (.iadd, 0, 0) := by decide +kernel
theorem cd_i114_30 : cd_I 114 30 = some (.bipush 96, 0, 0) := by decide +kernel
theorem cd_i114_32 : cd_I 114 32 = some (.isub, 0, 0) := by decide +kernel
theorem cd_i114_33 : cd_I 114 33 = some (.goto 4, 37, 0) := by decide +kernel
theorem cd_i114_36 : cd_I 114 36 = some (.iconst 0, 0, 0) := by decide +kernel
theorem cd_i114_37 : cd_I 114 37 = some (.istore_n 1, 0, 0) := by decide +kernel
theorem cd_i114_38 : cd_I 114 38 = some (.iinc 2 1, 0, 0) := by decide +kernel
theorem cd_i114_41 : cd_I 114 41 = some (.aload_n 0, 0, 0) := by decide +kernel
theorem cd_i114_42 : cd_I 114 42 = some (.dup, 0, 0) := by decide +kernel
theorem cd_i114_43 : cd_I 114 43 = some (.getfield 98, 11, 3) := by decide +kernel
theorem cd_i114_46 : cd_I 114 46 = some (.iconst 1, 0, 0) := by decide +kernel
theorem cd_i114_47 : cd_I 114 47 = some (.iadd, 0, 0) := by decide +kernel
theorem cd_i114_48 : cd_I 114 48 = some (.putfield 98, 11, 3) := by decide +kernel
theorem cd_i114_51 : cd_I 114 51 = some (.goto (-47), 4, 0) := by decide +kernel
theorem cd_i114_54 : cd_I 114 54 = some (.iload_n 2, 0, 0) := by decide +kernel
theorem cd_i114_55 : cd_I 114 55 = some (.iconst 4, 0, 0) := by decide +kernel
theorem cd_i114_56 : cd_I 114 56 = some (.if_icmp .le 7, 63, 0) := by decide +kernel
theorem cd_i114_59 : cd_I 114 59 = some (.iconst 0, 0, 0) := by decide +kernel
theorem cd_i114_60 : cd_I 114 60 = some (.goto 4, 64, 0) := by decide +kernel
theorem cd_i114_63 : cd_I 114 63 = some (.iload_n 1, 0, 0) := by decide +kernel
theorem cd_i114_64 : cd_I 114 64 = some (.ireturn, 0, 0) := by decide +kernel
theorem cd_i115_0 : cd_I 115 0 = some (.iload_n 0, 0, 0) := by decide +kernel
theorem cd_i115_1 : cd_I 115 1 = some (.bipush 97, 0, 0) := by decide +kernel
theorem cd_i115_3 : cd_I 115 3 = some (.if_icmp .lt 13, 16, 0) := by decide +kernel
theorem cd_i115_6 : cd_I 115 6 = some (.iload_n 0, 0, 0) := by decide +kernel
theorem cd_i115_7 : cd_I 115 7 = some (.bipush 122, 0, 0) := by decide +kernel
theorem cd_i115_9 : cd_I 115 9 = some (.if_icmp .gt 7, 16, 0) := by decide +kernel
theorem cd_i115_12 : cd_I 115 12 = some (.iconst 1, 0, 0) := by decide +kernel
theorem cd_i115_13 : cd_I 115 13 = some (.goto 4, 17, 0) := by decide +kernel
theorem cd_i115_16 : cd_I 115 16 = some (.iconst 0, 0, 0) := by decide +kernel
theorem cd_i115_17 : cd_I 115 17 = some (.ireturn, 0, 0) := by decide +kernel
theorem cd_i116_0 : cd_I 116 0 = some (.iload_n 0, 0, 0) := by decide +kernel
theorem cd_i116_1 : cd_I 116 1 = some (.bipush 96, 0, 0) := by decide +kernel
theorem cd_i116_3 : cd_I 116 3 = some (.isub, 0, 0) := by decide +kernel
theorem cd_i116_4 : cd_I 116 4 = some (.istore 4, 0, 0) := by decide +kernel
theorem cd_i116_6 : cd_I 116 6 = some (.iload_n 1, 0, 0) := by decide +kernel
theorem cd_i116_7 : cd_I 116 7 = some (.ifCond .le 16, 23, 0) := by decide +kernel
theorem cd_i116_10 : cd_I 116 10 = some (.bipush 27, 0, 0) := by decide +kernel
theorem cd_i116_12 : cd_I 116 12 = some (.iload 4, 0, 0) := by decide +kernel
theorem cd_i116_14 : cd_I 116 14 = some (.imul, 0, 0) := by decide +kernel
theorem cd_i116_15 : cd_I 116 15 = some (.iload_n 1, 0, 0) := by decide +kernel
theorem cd_i116_16 : cd_I 116 16 = some (.iadd, 0, 0) := by decide +kernel
theorem cd_i116_17 : cd_I 116 17 = some (.bipush 96, 0, 0) := by decide +kernel
theorem cd_i116_19 : cd_I 116 19 = some (.isub, 0, 0) := by decide +kernel
theorem cd_i116_20 : cd_I 116 20 = some (.goto 5, 25, 0) := by decide +kernel
theorem cd_i116_23 : cd_I 116 23 = some (.iload 4, 0, 0) := by decide +kernel
theorem cd_i116_25 : cd_I 116 25 = some (.istore 4, 0, 0) := by decide +kernel
theorem cd_i116_27 : cd_I 116 27 = some (.iload_n 2, 0, 0) := by decide +kernel
theorem cd_i116_28 : cd_I 116 28 = some (.ifCond .le 16, 44, 0) := by decide +kernel
theorem cd_i116_31 : cd_I 116 31 = some (.bipush 27, 0, 0) := by decide +kernel
theorem cd_i116_33 : cd_I 116 33 = some (.iload 4, 0, 0) := by decide +kernel
theorem cd_i116_35 : cd_I 116 35 = some (.imul, 0, 0) := by decide +kernel
theorem cd_i116_36 : cd_I 116 36 = some (.iload_n 2, 0, 0) := by decide +kernel
theorem cd_i116_37 : cd_I 116 37 = some (.iadd, 0, 0) := by decide +kernel
theorem cd_i116_38 : cd_I 116 38 = some (.bipush 96, 0, 0) := by decide +kernel
theorem cd_i116_40 : cd_I 116 40 = some (.isub, 0, 0) := by decide +kernel
theorem cd_i116_41 : cd_I 116 41 = some (.goto 5, 46, 0) := by decide +kernel
theorem cd_i116_44 : cd_I 116 44 = some (.iload 4, 0, 0) := by decide +kernel
theorem cd_i116_46 : cd_I 116 46 = some (.istore 4, 0, 0) := by decide +kernel
theorem cd_i116_48 : cd_I 116 48 = some (.iload_n 3, 0, 0) := by decide +kernel
theorem cd_i116_49 : cd_I 116 49 = some (.ifCond .le 16, 65, 0) := by decide +kernel
theorem cd_i116_52 : cd_I 116 52 = some (.bipush 27, 0, 0) := by decide +kernel
theorem cd_i116_54 : cd_I 116 54 = some (.iload 4, 0, 0) := by decide +kernel
theorem cd_i116_56 : cd_I 116 56 = some (.imul, 0, 0) := by decide +kernel
theorem cd_i116_57 : cd_I 116 57 = some (.iload_n 3, 0, 0) := by decide +kernel
theorem cd_i116_58 : cd_I 116 58 = some (.iadd, 0, 0) := by decide +kernel
theorem cd_i116_59 : cd_I 116 59 = some (.bipush 96, 0, 0) := by decide +kernel
theorem cd_i116_61 : cd_I 116 61 = some (.isub, 0, 0) := by decide +kernel
theorem cd_i116_62 : cd_I 116 62 = some (.goto 5, 67, 0) := by decide +kernel
theorem cd_i116_65 : cd_I 116 65 = some (.iload 4, 0, 0) := by decide +kernel
theorem cd_i116_67 : cd_I 116 67 = some (.ireturn, 0, 0) := by decide +kernel
theorem cd_i117_0 : cd_I 117 0 = some (.aload_n 0, 0, 0) := by decide +kernel
theorem cd_i117_1 : cd_I 117 1 = some (.invokevirtual 124, 114, 0) := by decide +kernel
theorem cd_i117_4 : cd_I 117 4 = some (.istore_n 1, 0, 0) := by decide +kernel
theorem cd_i117_5 : cd_I 117 5 = some (.aload_n 0, 0, 0) := by decide +kernel
theorem cd_i117_6 : cd_I 117 6 = some (.iload_n 1, 0, 0) := by decide +kernel
theorem cd_i117_7 : cd_I 117 7 = some (.ifCond .le 14, 21, 0) := by decide +kernel
theorem cd_i117_10 : cd_I 117 10 = some (.iload_n 1, 0, 0) := by decide +kernel
theorem cd_i117_11 : cd_I 117 11 = some (.invokestatic 128, 118, 1) := by decide +kernel
theorem cd_i117_14 : cd_I 117 14 = some (.ifCond .ne 7, 21, 0) := by decide +kernel
theorem cd_i117_17 : cd_I 117 17 = some (.iconst 1, 0, 0) := by decide +kernel
theorem cd_i117_18 : cd_I 117 18 = some (.goto 4, 22, 0) := by decide +kernel
theorem cd_i117_21 : cd_I 117 21 = some (.iconst 0, 0, 0) := by decide +kernel
theorem cd_i117_22 : cd_I 117 22 = some (.invokevirtual 113, 107, 1) := by decide +kernel
theorem cd_i117_25 : cd_I 117 25 = some (.iload_n 1, 0, 0) := by decide +kernel
theorem cd_i117_26 : cd_I 117 26 = some (.ireturn, 0, 0) := by decide +kernel
theorem cd_i118_0 : cd_I 118 0 = some (.iload_n 0, 0, 0) := by decide +kernel
theorem cd_i118_1 : cd_I 118 1 = some (.bipush 110, 0, 0) := by decide +kernel
theorem cd_i118_3 : cd_I 118 3 = some (.bipush 101, 0, 0) := by decide +kernel
theorem cd_i118_5 : cd_I 118 5 = some (.bipush 119, 0, 0) := by decide +kernel
theorem cd_i118_7 : cd_I 118 7 = some (.iconst 0, 0, 0) := by decide +kernel
theorem cd_i118_8 : cd_I 118 8 = some (.invokestatic 120, 116, 4) := by decide +kernel
theorem cd_i118_11 : cd_I 118 11 = some (.if_icmp .eq 47, 58, 0) := by decide +kernel
theorem cd_i118_14 : cd_I 118 14 = some (.iload_n 0, 0, 0) := by decide +kernel
theorem cd_i118_15 : cd_I 118 15 = some (.bipush 105, 0, 0) := by decide +kernel
theorem cd_i118_17 : cd_I 118 17 = some (.bipush 110, 0, 0) := by decide +kernel
theorem cd_i118_19 : cd_I 118 19 = some (.bipush 116, 0, 0) := by decide +kernel
theorem cd_i118_21 : cd_I 118 21 = some (.iconst 0, 0, 0) := by decide +kernel
theorem cd_i118_22 : cd_I 118 22 = some (.invokestatic 120, 116, 4) := by decide +kernel
theorem cd_i118_25 : cd_I 118 25 = some (.if_icmp .eq 33, 58, 0) := by decide +kernel
theorem cd_i118_28 : cd_I 118 28 = some (.iload_n 0, 0, 0) := by decide +kernel
theorem cd_i118_29 : cd_I 118 29 = some (.bipush 108, 0, 0) := by decide +kernel
theorem cd_i118_31 : cd_I 118 31 = some (.bipush 111, 0, 0) := by decide +kernel
theorem cd_i118_33 : cd_I 118 33 = some (.bipush 110, 0, 0) := by decide +kernel
theorem cd_i118_35 : cd_I 118 35 = some (.bipush 103, 0, 0) := by decide +kernel
theorem cd_i118_37 : cd_I 118 37 = some (.invokestatic 120, 116, 4) := by decide +kernel
theorem cd_i118_40 : cd_I 118 40 = some (.if_icmp .eq 18, 58, 0) := by decide +kernel
theorem cd_i118_43 : cd_I 118 43 = some (.iload_n 0, 0, 0) := by decide +kernel
theorem cd_i118_44 : cd_I 118 44 = some (.bipush 98, 0, 0) := by decide +kernel
theorem cd_i118_46 : cd_I 118 46 = some (.bipush 111, 0, 0) := by decide +kernel
theorem cd_i118_48 : cd_I 118 48 = some (.bipush 111, 0, 0) := by decide +kernel
theorem cd_i118_50 : cd_I 118 50 = some (.bipush 108, 0, 0) := by decide +kernel
theorem cd_i118_52 : cd_I 118 52 = some (.invokestatic 120, 116, 4) := by decide +kernel
theorem cd_i118_55 : cd_I 118 55 = some (.if_icmp .ne 7, 62, 0) := by decide +kernel
theorem cd_i118_58 : cd_I 118 58 = some (.iconst 1, 0, 0) := by decide +kernel
theorem cd_i118_59 : cd_I 118 59 = some (.goto 4, 63, 0) := by decide +kernel
theorem cd_i118_62 : cd_I 118 62 = some (.iconst 0, 0, 0) := by decide +kernel
theorem cd_i118_63 : cd_I 118 63 = some (.ireturn, 0, 0) := by decide +kernel
theorem cd_i119_0 : cd_I 119 0 = some (.iload_n 2, 0, 0) := by decide +kernel
theorem cd_i119_1 : cd_I 119 1 = some (.istore_n 3, 0, 0) := by decide +kernel
theorem cd_i119_2 : cd_I 119 2 = some (.iload_n 3, 0, 0) := by decide +kernel
theorem cd_i119_3 : cd_I 119 3 = some (.iconst (-1), 0, 0) := by decide +kernel
theorem cd_i119_4 : cd_I 119 4 = some (.if_icmp .eq 131, 135, 0) := by decide +kernel
theorem cd_i119_7 : cd_I 119 7 = some (.bipush 6, 0, 0) := by decide +kernel
theorem cd_i119_9 : cd_I 119 9 = some (.iload_n 3, 0, 0) := by decide +kernel
theorem cd_i119_10 : cd_I 119 10 = some (.imul, 0, 0) := by decide +kernel
theorem cd_i119_11 : cd_I 119 11 = some (.istore 4, 0, 0) := by decide +kernel
theorem cd_i119_13 : cd_I 119 13 = some (.iload 4, 0, 0) := by decide +kernel
theorem cd_i119_15 : cd_I 119 15 = some (.bipush 6, 0, 0) := by decide +kernel
theorem cd_i119_17 : cd_I 119 17 = some (.iload_n 3, 0, 0) := by decide +kernel
theorem cd_i119_18 : cd_I 119 18 = some (.imul, 0, 0) := by decide +kernel
theorem cd_i119_19 : cd_I 119 19 = some (.aload_n 0, 0, 0) := by decide +kernel
theorem cd_i119_20 : cd_I 119 20 = some (.getfield 21, 11, 7) := by decide +kernel
theorem cd_i119_23 : cd_I 119 23 = some (.iload_n 3, 0, 0) := by decide +kernel
theorem cd_i119_24 : cd_I 119 24 = some (.iaload, 0, 0) := by decide +kernel
theorem cd_i119_25 : cd_I 119 25 = some (.iadd, 0, 0) := by decide +kernel
theorem cd_i119_26 : cd_I 119 26 = some (.if_icmp .ge 99, 125, 0) := by decide +kernel
theorem cd_i119_29 : cd_I 119 29 = some (.aload_n 0, 0, 0) := by decide +kernel
theorem cd_i119_30 : cd_I 119 30 = some (.getfield 24, 11, 8) := by decide +kernel
theorem cd_i119_33 : cd_I 119 33 = some (.iload_n 1, 0, 0) := by decide +kernel
theorem cd_i119_34 : cd_I 119 34 = some (.iaload, 0, 0) := by decide +kernel
theorem cd_i119_35 : cd_I 119 35 = some (.iconst 1, 0, 0) := by decide +kernel
theorem cd_i119_36 : cd_I 119 36 = some (.if_icmp .ne 44, 80, 0) := by decide +kernel
theorem cd_i119_39 : cd_I 119 39 = some (.aload_n 0, 0, 0) := by decide +kernel
theorem cd_i119_40 : cd_I 119 40 = some (.getfield 24, 11, 8) := by decide +kernel
theorem cd_i119_43 : cd_I 119 43 = some (.iload 4, 0, 0) := by decide +kernel
theorem cd_i119_45 : cd_I 119 45 = some (.iaload, 0, 0) := by decide +kernel
theorem cd_i119_46 : cd_I 119 46 = some (.iconst 1, 0, 0) := by decide +kernel
theorem cd_i119_47 : cd_I 119 47 = some (.if_icmp .ne 33, 80, 0) := by decide +kernel
theorem cd_i119_50 : cd_I 119 50 = some (.aload_n 0, 0, 0) := by decide +kernel
theorem cd_i119_51 : cd_I 119 51 = some (.getfield 33, 11, 11) := by decide +kernel
theorem cd_i119_54 : cd_I 119 54 = some (.iload_n 1, 0, 0) := by decide +kernel
theorem cd_i119_55 : cd_I 119 55 = some (.iaload, 0, 0) := by decide +kernel
theorem cd_i119_56 : cd_I 119 56 = some (.aload_n 0, 0, 0) := by decide +kernel
theorem cd_i119_57 : cd_I 119 57 = some (.getfield 33, 11, 11) := by decide +kernel
theorem cd_i119_60 : cd_I 119 60 = some (.iload 4, 0, 0) := by decide +kernel
theorem cd_i119_62 : cd_I 119 62 = some (.iaload, 0, 0) := by decide +kernel
theorem cd_i119_63 : cd_I 119 63 = some (.if_icmp .ne 17, 80, 0) := by decide +kernel
theorem cd_i119_66 : cd_I 119 66 = some (.aload_n 0, 0, 0) := by decide +kernel
theorem cd_i119_67 : cd_I 119 67 = some (.getfield 30, 11, 10) := by decide +kernel
theorem cd_i119_70 : cd_I 119 70 = some (.iload 4, 0, 0) := by decide +kernel
theorem cd_i119_72 : cd_I 119 72 = some (.baload, 0, 0) := by decide +kernel
theorem cd_i119_73 : cd_I 119 73 = some (.ifCond .ne 7, 80, 0) := by decide +kernel
theorem cd_i119_76 : cd_I 119 76 = some (.iconst 1, 0, 0) := by decide +kernel
theorem cd_i119_77 : cd_I 119 77 = some (.goto 4, 81, 0) := by decide +kernel
theorem cd_i119_80 : cd_I 119 80 = some (.iconst 0, 0, 0) := by decide +kernel
theorem cd_i119_81 : cd_I 119 81 = some (.istore 5, 0, 0) := by decide +kernel
theorem cd_i119_83 : cd_I 119 83 = some (.iload 5, 0, 0) := by decide +kernel
theorem cd_i119_85 : cd_I 119 85 = some (.ifCond .eq 34, 119, 0) := by decide +kernel
theorem cd_i119_88 : cd_I 119 88 = some (.aload_n 0, 0, 0) := by decide +kernel
theorem cd_i119_89 : cd_I 119 89 = some (.getfield 27, 11, 9) := by decide +kernel
theorem cd_i119_92 : cd_I 119 92 = some (.iload_n 1, 0, 0) := by decide +kernel
theorem cd_i119_93 : cd_I 119 93 = some (.baload, 0, 0) := by decide +kernel
theorem cd_i119_94 : cd_I 119 94 = some (.ifCond .ne 23, 117, 0) := by decide +kernel
theorem cd_i119_97 : cd_I 119 97 = some (.aload_n 0, 0, 0) := by decide +kernel
theorem cd_i119_98 : cd_I 119 98 = some (.getfield 27, 11, 9) := by decide +kernel
theorem cd_i119_101 : cd_I 119 101 = some (.iload 4, 0, 0) := by decide +kernel
theorem cd_i119_103 : cd_I 119 103 = some (.baload, 0, 0) := by decide +kernel
theorem cd_i119_104 : cd_I 119 104 = some (.ifCond .ne 13, 117, 0) := by decide +kernel
theorem cd_i119_107 : cd_I 119 107 = some (.aload_n 0, 0, 0) := by decide +kernel
theorem cd_i119_108 : cd_I 119 108 = some (.iload_n 1, 0, 0) := by decide +kernel
theorem cd_i119_109 : cd_I 119 109 = some (.iload 4, 0, 0) := by decide +kernel
theorem cd_i119_111 : cd_I 119 111 = some (.invokevirtual 156, 120, 2) := by decide +kernel
theorem cd_i119_114 : cd_I 119 114 = some (.ifCond .ne 5, 119, 0) := by decide +kernel
theorem cd_i119_117 : cd_I 119 117 = some (.iconst 0, 0, 0) := by decide +kernel
theorem cd_i119_118 : cd_I 119 118 = some (.ireturn, 0, 0) := by decide +kernel
theorem cd_i119_119 : cd_I 119 119 = some (.iinc 4 1, 0, 0) := by decide +kernel
theorem cd_i119_122 : cd_I 119 122 = some (.goto (-109), 13, 0) := by decide +kernel
theorem cd_i119_125 : cd_I 119 125 = some (.aload_n 0, 0, 0) := by decide +kernel
theorem cd_i119_126 : cd_I 119 126 = some (.getfield 17, 11, 6) := by decide +kernel
theorem cd_i119_129 : cd_I 119 129 = some (.iload_n 3, 0, 0) := by decide +kernel
theorem cd_i119_130 : cd_I 119 130 = some (.iaload, 0, 0) := by decide +kernel
theorem cd_i119_131 : cd_I 119 131 = some (.istore_n 3, 0, 0) := by decide +kernel
theorem cd_i119_132 : cd_I 119 132 = some (.goto (-130), 2, 0) := by decide +kernel
theorem cd_i119_135 : cd_I 119 135 = some (.iconst 1, 0, 0) := by decide +kernel
theorem cd_i119_136 : cd_I 119 136 = some (.ireturn, 0, 0) := by decide +kernel
