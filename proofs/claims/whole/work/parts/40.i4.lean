theorem cd_i120_0 : cd_I 120 0 = some (.aload_n 0, 0, 0) := by decide +kernel
theorem cd_i120_1 : cd_I 120 1 = some (.getfield 36, 11, 12) := by decide +kernel
theorem cd_i120_4 : cd_I 120 4 = some (.iload_n 1, 0, 0) := by decide +kernel
theorem cd_i120_5 : cd_I 120 5 = some (.iaload, 0, 0) := by decide +kernel
theorem cd_i120_6 : cd_I 120 6 = some (.aload_n 0, 0, 0) := by decide +kernel
theorem cd_i120_7 : cd_I 120 7 = some (.getfield 36, 11, 12) := by decide +kernel
theorem cd_i120_10 : cd_I 120 10 = some (.iload_n 2, 0, 0) := by decide +kernel
theorem cd_i120_11 : cd_I 120 11 = some (.iaload, 0, 0) := by decide +kernel
theorem cd_i120_12 : cd_I 120 12 = some (.if_icmp .ne 22, 34, 0) := by decide +kernel
theorem cd_i120_15 : cd_I 120 15 = some (.aload_n 0, 0, 0) := by decide +kernel
theorem cd_i120_16 : cd_I 120 16 = some (.getfield 39, 11, 13) := by decide +kernel
theorem cd_i120_19 : cd_I 120 19 = some (.iload_n 1, 0, 0) := by decide +kernel
theorem cd_i120_20 : cd_I 120 20 = some (.iaload, 0, 0) := by decide +kernel
theorem cd_i120_21 : cd_I 120 21 = some (.aload_n 0, 0, 0) := by decide +kernel
theorem cd_i120_22 : cd_I 120 22 = some (.getfield 39, 11, 13) := by decide +kernel
theorem cd_i120_25 : cd_I 120 25 = some (.iload_n 2, 0, 0) := by decide +kernel
theorem cd_i120_26 : cd_I 120 26 = some (.iaload, 0, 0) := by decide +kernel
theorem cd_i120_27 : cd_I 120 27 = some (.if_icmp .ne 7, 34, 0) := by decide +kernel
theorem cd_i120_30 : cd_I 120 30 = some (.iconst 1, 0, 0) := by decide +kernel
theorem cd_i120_31 : cd_I 120 31 = some (.goto 4, 35, 0) := by decide +kernel
theorem cd_i120_34 : cd_I 120 34 = some (.iconst 0, 0, 0) := by decide +kernel
theorem cd_i120_35 : cd_I 120 35 = some (.istore_n 3, 0, 0) := by decide +kernel
theorem cd_i120_36 : cd_I 120 36 = some (.iconst 0, 0, 0) := by decide +kernel
theorem cd_i120_37 : cd_I 120 37 = some (.istore 4, 0, 0) := by decide +kernel
theorem cd_i120_39 : cd_I 120 39 = some (.iload 4, 0, 0) := by decide +kernel
theorem cd_i120_41 : cd_I 120 41 = some (.aload_n 0, 0, 0) := by decide +kernel
theorem cd_i120_42 : cd_I 120 42 = some (.getfield 39, 11, 13) := by decide +kernel
theorem cd_i120_45 : cd_I 120 45 = some (.iload_n 1, 0, 0) := by decide +kernel
theorem cd_i120_46 : cd_I 120 46 = some (.iaload, 0, 0) := by decide +kernel
theorem cd_i120_47 : cd_I 120 47 = some (.if_icmp .ge 44, 91, 0) := by decide +kernel
theorem cd_i120_50 : cd_I 120 50 = some (.iload_n 3, 0, 0) := by decide +kernel
theorem cd_i120_51 : cd_I 120 51 = some (.ifCond .eq 40, 91, 0) := by decide +kernel
theorem cd_i120_54 : cd_I 120 54 = some (.aload_n 0, 0, 0) := by decide +kernel
theorem cd_i120_55 : cd_I 120 55 = some (.getfield 42, 11, 14) := by decide +kernel
theorem cd_i120_58 : cd_I 120 58 = some (.iconst 2, 0, 0) := by decide +kernel
theorem cd_i120_59 : cd_I 120 59 = some (.iload_n 1, 0, 0) := by decide +kernel
theorem cd_i120_60 : cd_I 120 60 = some (.imul, 0, 0) := by decide +kernel
theorem cd_i120_61 : cd_I 120 61 = some (.iload 4, 0, 0) := by decide +kernel
theorem cd_i120_63 : cd_I 120 63 = some (.iadd, 0, 0) := by decide +kernel
theorem cd_i120_64 : cd_I 120 64 = some (.iaload, 0, 0) := by decide +kernel
theorem cd_i120_65 : cd_I 120 65 = some (.aload_n 0, 0, 0) := by decide +kernel
theorem cd_i120_66 : cd_I 120 66 = some (.getfield 42, 11, 14) := by decide +kernel
theorem cd_i120_69 : cd_I 120 69 = some (.iconst 2, 0, 0) := by decide +kernel
theorem cd_i120_70 : cd_I 120 70 = some (.iload_n 2, 0, 0) := by decide +kernel
theorem cd_i120_71 : cd_I 120 71 = some (.imul, 0, 0) := by decide +kernel
theorem cd_i120_72 : cd_I 120 72 = some (.iload 4, 0, 0) := by decide +kernel
theorem cd_i120_74 : cd_I 120 74 = some (.iadd, 0, 0) := by decide +kernel
theorem cd_i120_75 : cd_I 120 75 = some (.iaload, 0, 0) := by decide +kernel
theorem cd_i120_76 : cd_I 120 76 = some (.if_icmp .ne 7, 83, 0) := by decide +kernel
theorem cd_i120_79 : cd_I 120 79 = some (.iconst 1, 0, 0) := by decide +kernel
theorem cd_i120_80 : cd_I 120 80 = some (.goto 4, 84, 0) := by decide +kernel
theorem cd_i120_83 : cd_I 120 83 = some (.iconst 0, 0, 0) := by decide +kernel
theorem cd_i120_84 : cd_I 120 84 = some (.istore_n 3, 0, 0) := by decide +kernel
theorem cd_i120_85 : cd_I 120 85 = some (.iinc 4 1, 0, 0) := by decide +kernel
theorem cd_i120_88 : cd_I 120 88 = some (.goto (-49), 39, 0) := by decide +kernel
theorem cd_i120_91 : cd_I 120 91 = some (.iload_n 3, 0, 0) := by decide +kernel
theorem cd_i120_92 : cd_I 120 92 = some (.ireturn, 0, 0) := by decide +kernel
theorem cd_i121_0 : cd_I 121 0 = some (.aload_n 0, 0, 0) := by decide +kernel
theorem cd_i121_1 : cd_I 121 1 = some (.iload_n 1, 0, 0) := by decide +kernel
theorem cd_i121_2 : cd_I 121 2 = some (.putfield 88, 11, 0) := by decide +kernel
theorem cd_i121_5 : cd_I 121 5 = some (.iconst 0, 0, 0) := by decide +kernel
theorem cd_i121_6 : cd_I 121 6 = some (.ireturn, 0, 0) := by decide +kernel
theorem cd_i122_0 : cd_I 122 0 = some (.aload_n 0, 0, 0) := by decide +kernel
theorem cd_i122_1 : cd_I 122 1 = some (.getfield 24, 11, 8) := by decide +kernel
theorem cd_i122_4 : cd_I 122 4 = some (.iload_n 2, 0, 0) := by decide +kernel
theorem cd_i122_5 : cd_I 122 5 = some (.aload_n 0, 0, 0) := by decide +kernel
theorem cd_i122_6 : cd_I 122 6 = some (.getfield 24, 11, 8) := by decide +kernel
theorem cd_i122_9 : cd_I 122 9 = some (.iload_n 1, 0, 0) := by decide +kernel
theorem cd_i122_10 : cd_I 122 10 = some (.iaload, 0, 0) := by decide +kernel
theorem cd_i122_11 : cd_I 122 11 = some (.iastore, 0, 0) := by decide +kernel
theorem cd_i122_12 : cd_I 122 12 = some (.aload_n 0, 0, 0) := by decide +kernel
theorem cd_i122_13 : cd_I 122 13 = some (.getfield 27, 11, 9) := by decide +kernel
theorem cd_i122_16 : cd_I 122 16 = some (.iload_n 2, 0, 0) := by decide +kernel
theorem cd_i122_17 : cd_I 122 17 = some (.aload_n 0, 0, 0) := by decide +kernel
theorem cd_i122_18 : cd_I 122 18 = some (.getfield 27, 11, 9) := by decide +kernel
theorem cd_i122_21 : cd_I 122 21 = some (.iload_n 1, 0, 0) := by decide +kernel
theorem cd_i122_22 : cd_I 122 22 = some (.baload, 0, 0) := by decide +kernel
theorem cd_i122_23 : cd_I 122 23 = some (.bastore, 0, 0) := by decide +kernel
theorem cd_i122_24 : cd_I 122 24 = some (.aload_n 0, 0, 0) := by decide +kernel
theorem cd_i122_25 : cd_I 122 25 = some (.getfield 30, 11, 10) := by decide +kernel
theorem cd_i122_28 : cd_I 122 28 = some (.iload_n 2, 0, 0) := by decide +kernel
theorem cd_i122_29 : cd_I 122 29 = some (.aload_n 0, 0, 0) := by decide +kernel
theorem cd_i122_30 : cd_I 122 30 = some (.getfield 30, 11, 10) := by decide +kernel
theorem cd_i122_33 : cd_I 122 33 = some (.iload_n 1, 0, 0) := by decide +kernel
theorem cd_i122_34 : cd_I 122 34 = some (.baload, 0, 0) := by decide +kernel
theorem cd_i122_35 : cd_I 122 35 = some (.bastore, 0, 0) := by decide +kernel
theorem cd_i122_36 : cd_I 122 36 = some (.aload_n 0, 0, 0) := by decide +kernel
theorem cd_i122_37 : cd_I 122 37 = some (.getfield 33, 11, 11) := by decide +kernel
theorem cd_i122_40 : cd_I 122 40 = some (.iload_n 2, 0, 0) := by decide +kernel
theorem cd_i122_41 : cd_I 122 41 = some (.aload_n 0, 0, 0) := by decide +kernel
theorem cd_i122_42 : cd_I 122 42 = some (.getfield 33, 11, 11) := by decide +kernel
theorem cd_i122_45 : cd_I 122 45 = some (.iload_n 1, 0, 0) := by decide +kernel
theorem cd_i122_46 : cd_I 122 46 = some (.iaload, 0, 0) := by decide +kernel
theorem cd_i122_47 : cd_I 122 47 = some (.iastore, 0, 0) := by decide +kernel
theorem cd_i122_48 : cd_I 122 48 = some (.aload_n 0, 0, 0) := by decide +kernel
theorem cd_i122_49 : cd_I 122 49 = some (.getfield 36, 11, 12) := by decide +kernel
theorem cd_i122_52 : cd_I 122 52 = some (.iload_n 2, 0, 0) := by decide +kernel
theorem cd_i122_53 : cd_I 122 53 = some (.aload_n 0, 0, 0) := by decide +kernel
theorem cd_i122_54 : cd_I 122 54 = some (.getfield 36, 11, 12) := by decide +kernel
theorem cd_i122_57 : cd_I 122 57 = some (.iload_n 1, 0, 0) := by decide +kernel
theorem cd_i122_58 : cd_I 122 58 = some (.iaload, 0, 0) := by decide +kernel
theorem cd_i122_59 : cd_I 122 59 = some (.iastore, 0, 0) := by decide +kernel
theorem cd_i122_60 : cd_I 122 60 = some (.aload_n 0, 0, 0) := by decide +kernel
theorem cd_i122_61 : cd_I 122 61 = some (.getfield 39, 11, 13) := by decide +kernel
theorem cd_i122_64 : cd_I 122 64 = some (.iload_n 2, 0, 0) := by decide +kernel
theorem cd_i122_65 : cd_I 122 65 = some (.aload_n 0, 0, 0) := by decide +kernel
theorem cd_i122_66 : cd_I 122 66 = some (.getfield 39, 11, 13) := by decide +kernel
theorem cd_i122_69 : cd_I 122 69 = some (.iload_n 1, 0, 0) := by decide +kernel
theorem cd_i122_70 : cd_I 122 70 = some (.iaload, 0, 0) := by decide +kernel
theorem cd_i122_71 : cd_I 122 71 = some (.iastore, 0, 0) := by decide +kernel
theorem cd_i122_72 : cd_I 122 72 = some (.aload_n 0, 0, 0) := by decide +kernel
theorem cd_i122_73 : cd_I 122 73 = some (.getfield 42, 11, 14) := by decide +kernel
theorem cd_i122_76 : cd_I 122 76 = some (.iconst 2, 0, 0) := by decide +kernel
theorem cd_i122_77 : cd_I 122 77 = some (.iload_n 2, 0, 0) := by decide +kernel
theorem cd_i122_78 : cd_I 122 78 = some (.imul, 0, 0) := by decide +kernel
theorem cd_i122_79 : cd_I 122 79 = some (.aload_n 0, 0, 0) := by decide +kernel
theorem cd_i122_80 : cd_I 122 80 = some (.getfield 42, 11, 14) := by decide +kernel
theorem cd_i122_83 : cd_I 122 83 = some (.iconst 2, 0, 0) := by decide +kernel
theorem cd_i122_84 : cd_I 122 84 = some (.iload_n 1, 0, 0) := by decide +kernel
theorem cd_i122_85 : cd_I 122 85 = some (.imul, 0, 0) := by decide +kernel
theorem cd_i122_86 : cd_I 122 86 = some (.iaload, 0, 0) := by decide +kernel
theorem cd_i122_87 : cd_I 122 87 = some (.iastore, 0, 0) := by decide +kernel
theorem cd_i122_88 : cd_I 122 88 = some (.aload_n 0, 0, 0) := by decide +kernel
theorem cd_i122_89 : cd_I 122 89 = some (.getfield 42, 11, 14) := by decide +kernel
theorem cd_i122_92 : cd_I 122 92 = some (.iconst 2, 0, 0) := by decide +kernel
theorem cd_i122_93 : cd_I 122 93 = some (.iload_n 2, 0, 0) := by decide +kernel
theorem cd_i122_94 : cd_I 122 94 = some (.imul, 0, 0) := by decide +kernel
theorem cd_i122_95 : cd_I 122 95 = some (.iconst 1, 0, 0) := by decide +kernel
theorem cd_i122_96 : cd_I 122 96 = some (.iadd, 0, 0) := by decide +kernel
theorem cd_i122_97 : cd_I 122 97 = some (.aload_n 0, 0, 0) := by decide +kernel
theorem cd_i122_98 : cd_I 122 98 = some (.getfield 42, 11, 14) := by decide +kernel
theorem cd_i122_101 : cd_I 122 101 = some (.iconst 2, 0, 0) := by decide +kernel
theorem cd_i122_102 : cd_I 122 102 = some (.iload_n 1, 0, 0) := by decide +kernel
theorem cd_i122_103 : cd_I 122 103 = some (.imul, 0, 0) := by decide +kernel
theorem cd_i122_104 : cd_I 122 104 = some (.iconst 1, 0, 0) := by decide +kernel
theorem cd_i122_105 : cd_I 122 105 = some (.iadd, 0, 0) := by decide +kernel
theorem cd_i122_106 : cd_I 122 106 = some (.iaload, 0, 0) := by decide +kernel
theorem cd_i122_107 : cd_I 122 107 = some (.iastore, 0, 0) := by decide +kernel
theorem cd_i122_108 : cd_I 122 108 = some (.return_, 0, 0) := by decide +kernel
theorem cd_i123_0 : cd_I 123 0 = some (.aload_n 0, 0, 0) := by decide +kernel
theorem cd_i123_1 : cd_I 123 1 = some (.getfield 183, 11, 15) := by decide +kernel
theorem cd_i123_4 : cd_I 123 4 = some (.iconst 5, 0, 0) := by decide +kernel
theorem cd_i123_5 : cd_I 123 5 = some (.if_icmp .ne 14, 19, 0) := by decide +kernel
theorem cd_i123_8 : cd_I 123 8 = some (.aload_n 0, 0, 0) := by decide +kernel
theorem cd_i123_9 : cd_I 123 9 = some (.iconst 0, 0, 0) := by decide +kernel
theorem cd_i123_10 : cd_I 123 10 = some (.putfield 95, 11, 2) := by decide +kernel
theorem cd_i123_13 : cd_I 123 13 = some (.aload_n 0, 0, 0) := by decide +kernel
theorem cd_i123_14 : cd_I 123 14 = some (.iconst 2, 0, 0) := by decide +kernel
theorem cd_i123_15 : cd_I 123 15 = some (.invokevirtual 176, 121, 1) := by decide +kernel
theorem cd_i123_18 : cd_I 123 18 = some (.ireturn, 0, 0) := by decide +kernel
theorem cd_i123_19 : cd_I 123 19 = some (.aload_n 0, 0, 0) := by decide +kernel
theorem cd_i123_20 : cd_I 123 20 = some (.iconst 0, 0, 0) := by decide +kernel
theorem cd_i123_21 : cd_I 123 21 = some (.putfield 98, 11, 3) := by decide +kernel
theorem cd_i123_24 : cd_I 123 24 = some (.aload_n 0, 0, 0) := by decide +kernel
theorem cd_i123_25 : cd_I 123 25 = some (.iconst 1, 0, 0) := by decide +kernel
theorem cd_i123_26 : cd_I 123 26 = some (.putfield 101, 11, 4) := by decide +kernel
theorem cd_i123_29 : cd_I 123 29 = some (.aload_n 0, 0, 0) := by decide +kernel
theorem cd_i123_30 : cd_I 123 30 = some (.invokevirtual 153, 117, 0) := by decide +kernel
theorem cd_i123_33 : cd_I 123 33 = some (.istore_n 1, 0, 0) := by decide +kernel
theorem cd_i123_34 : cd_I 123 34 = some (.aload_n 0, 0, 0) := by decide +kernel
theorem cd_i123_35 : cd_I 123 35 = some (.bipush 58, 0, 0) := by decide +kernel
theorem cd_i123_37 : cd_I 123 37 = some (.invokevirtual 138, 109, 1) := by decide +kernel
theorem cd_i123_40 : cd_I 123 40 = some (.aload_n 0, 0, 0) := by decide +kernel
theorem cd_i123_41 : cd_I 123 41 = some (.getfield 101, 11, 4) := by decide +kernel
theorem cd_i123_44 : cd_I 123 44 = some (.ifCond .eq 10, 54, 0) := by decide +kernel
theorem cd_i123_47 : cd_I 123 47 = some (.aload_n 0, 0, 0) := by decide +kernel
theorem cd_i123_48 : cd_I 123 48 = some (.invokevirtual 142, 113, 0) := by decide +kernel
theorem cd_i123_51 : cd_I 123 51 = some (.goto 4, 55, 0) := by decide +kernel
theorem cd_i123_54 : cd_I 123 54 = some (.iconst 0, 0, 0) := by decide +kernel
theorem cd_i123_55 : cd_I 123 55 = some (.istore_n 2, 0, 0) := by decide +kernel
theorem cd_i123_56 : cd_I 123 56 = some (.aload_n 0, 0, 0) := by decide +kernel
theorem cd_i123_57 : cd_I 123 57 = some (.aload_n 0, 0, 0) := by decide +kernel
theorem cd_i123_58 : cd_I 123 58 = some (.getfield 98, 11, 3) := by decide +kernel
theorem cd_i123_61 : cd_I 123 61 = some (.aload_n 0, 0, 0) := by decide +kernel
theorem cd_i123_62 : cd_I 123 62 = some (.getfield 95, 11, 2) := by decide +kernel
theorem cd_i123_65 : cd_I 123 65 = some (.if_icmp .ne 16, 81, 0) := by decide +kernel
theorem cd_i123_68 : cd_I 123 68 = some (.aload_n 0, 0, 0) := by decide +kernel
theorem cd_i123_69 : cd_I 123 69 = some (.iload_n 1, 0, 0) := by decide +kernel
theorem cd_i123_70 : cd_I 123 70 = some (.invokevirtual 186, 124, 1) := by decide +kernel
theorem cd_i123_73 : cd_I 123 73 = some (.iconst (-1), 0, 0) := by decide +kernel
theorem cd_i123_74 : cd_I 123 74 = some (.if_icmp .ne 7, 81, 0) := by decide +kernel
theorem cd_i123_77 : cd_I 123 77 = some (.iconst 1, 0, 0) := by decide +kernel
theorem cd_i123_78 : cd_I 123 78 = some (.goto 4, 82, 0) := by decide +kernel
theorem cd_i123_81 : cd_I 123 81 = some (.iconst 0, 0, 0) := by decide +kernel
theorem cd_i123_82 : cd_I 123 82 = some (.invokevirtual 113, 107, 1) := by decide +kernel
theorem cd_i123_85 : cd_I 123 85 = some (.aload_n 0, 0, 0) := by decide +kernel
theorem cd_i123_86 : cd_I 123 86 = some (.iconst 0, 0, 0) := by decide +kernel
theorem cd_i123_87 : cd_I 123 87 = some (.putfield 95, 11, 2) := by decide +kernel
theorem cd_i123_90 : cd_I 123 90 = some (.aload_n 0, 0, 0) := by decide +kernel
theorem cd_i123_91 : cd_I 123 91 = some (.getfield 101, 11, 4) := by decide +kernel
theorem cd_i123_94 : cd_I 123 94 = some (.ifCond .ne 9, 103, 0) := by decide +kernel
theorem cd_i123_97 : cd_I 123 97 = some (.aload_n 0, 0, 0) := by decide +kernel
theorem cd_i123_98 : cd_I 123 98 = some (.iconst 1, 0, 0) := by decide +kernel
theorem cd_i123_99 : cd_I 123 99 = some (.invokevirtual 176, 121, 1) := by decide +kernel
theorem cd_i123_102 : cd_I 123 102 = some (.ireturn, 0, 0) := by decide +kernel
theorem cd_i123_103 : cd_I 123 103 = some (.aload_n 0, 0, 0) := by decide +kernel
theorem cd_i123_104 : cd_I 123 104 = some (.iconst 0, 0, 0) := by decide +kernel
theorem cd_i123_105 : cd_I 123 105 = some (.putfield 88, 11, 0) := by decide +kernel
theorem cd_i123_108 : cd_I 123 108 = some (.aload_n 0, 0, 0) := by decide +kernel
theorem cd_i123_109 : cd_I 123 109 = some (.getfield 45, 11, 16) := by decide +kernel
theorem cd_i123_112 : cd_I 123 112 = some (.aload_n 0, 0, 0) := by decide +kernel
theorem cd_i123_113 : cd_I 123 113 = some (.getfield 183, 11, 15) := by decide +kernel
theorem cd_i123_116 : cd_I 123 116 = some (.iload_n 1, 0, 0) := by decide +kernel
theorem cd_i123_117 : cd_I 123 117 = some (.iastore, 0, 0) := by decide +kernel
theorem cd_i123_118 : cd_I 123 118 = some (.aload_n 0, 0, 0) := by decide +kernel
theorem cd_i123_119 : cd_I 123 119 = some (.getfield 48, 11, 17) := by decide +kernel
theorem cd_i123_122 : cd_I 123 122 = some (.aload_n 0, 0, 0) := by decide +kernel
theorem cd_i123_123 : cd_I 123 123 = some (.getfield 183, 11, 15) := by decide +kernel
theorem cd_i123_126 : cd_I 123 126 = some (.iload_n 2, 0, 0) := by decide +kernel
theorem cd_i123_127 : cd_I 123 127 = some (.iastore, 0, 0) := by decide +kernel
theorem cd_i123_128 : cd_I 123 128 = some (.aload_n 0, 0, 0) := by decide +kernel
theorem cd_i123_129 : cd_I 123 129 = some (.dup, 0, 0) := by decide +kernel
theorem cd_i123_130 : cd_I 123 130 = some (.getfield 183, 11, 15) := by decide +kernel
theorem cd_i123_133 : cd_I 123 133 = some (.iconst 1, 0, 0) := by decide +kernel
theorem cd_i123_134 : cd_I 123 134 = some (.iadd, 0, 0) := by decide +kernel
theorem cd_i123_135 : cd_I 123 135 = some (.putfield 183, 11, 15) := by decide +kernel
theorem cd_i123_138 : cd_I 123 138 = some (.aload_n 0, 0, 0) := by decide +kernel
theorem cd_i123_139 : cd_I 123 139 = some (.getfield 183, 11, 15) := by decide +kernel
theorem cd_i123_142 : cd_I 123 142 = some (.ireturn, 0, 0) := by decide +kernel
theorem cd_i124_0 : cd_I 124 0 = some (.iconst (-1), 0, 0) := by decide +kernel
theorem cd_i124_1 : cd_I 124 1 = some (.istore_n 2, 0, 0) := by decide +kernel
theorem cd_i124_2 : cd_I 124 2 = some (.iconst 0, 0, 0) := by decide +kernel
theorem cd_i124_3 : cd_I 124 3 = some (.istore_n 3, 0, 0) := by decide +kernel
theorem cd_i124_4 : cd_I 124 4 = some (.iload_n 3, 0, 0) := by decide +kernel
theorem cd_i124_5 : cd_I 124 5 = some (.aload_n 0, 0, 0) := by decide +kernel
theorem cd_i124_6 : cd_I 124 6 = some (.getfield 183, 11, 15) := by decide +kernel
theorem cd_i124_9 : cd_I 124 9 = some (.if_icmp .ge 25, 34, 0) := by decide +kernel
theorem cd_i124_12 : cd_I 124 12 = some (.aload_n 0, 0, 0) := by decide +kernel
theorem cd_i124_13 : cd_I 124 13 = some (.getfield 45, 11, 16) := by decide +kernel
theorem cd_i124_16 : cd_I 124 16 = some (.iload_n 3, 0, 0) := by decide +kernel
theorem cd_i124_17 : cd_I 124 17 = some (.iaload, 0, 0) := by decide +kernel
theorem cd_i124_18 : cd_I 124 18 = some (.iload_n 1, 0, 0) := by decide +kernel
theorem cd_i124_19 : cd_I 124 19 = some (.if_icmp .ne 7, 26, 0) := by decide +kernel
theorem cd_i124_22 : cd_I 124 22 = some (.iload_n 3, 0, 0) := by decide +kernel
theorem cd_i124_23 : cd_I 124 23 = some (.goto 4, 27, 0) := by decide +kernel
theorem cd_i124_26 : cd_I 124 26 = some (.iload_n 2, 0, 0) := by decide +kernel
theorem cd_i124_27 : cd_I 124 27 = some (.istore_n 2, 0, 0) := by decide +kernel
theorem cd_i124_28 : cd_I 124 28 = some (.iinc 3 1, 0, 0) := by decide +kernel
theorem cd_i124_31 : cd_I 124 31 = some (.goto (-27), 4, 0) := by decide +kernel
theorem cd_i124_34 : cd_I 124 34 = some (.iload_n 2, 0, 0) := by decide +kernel
theorem cd_i124_35 : cd_I 124 35 = some (.ireturn, 0, 0) := by decide +kernel
theorem cd_i125_0 : cd_I 125 0 = some (.aload_n 0, 0, 0) := by decide +kernel
theorem cd_i125_1 : cd_I 125 1 = some (.iconst 0, 0, 0) := by decide +kernel
theorem cd_i125_2 : cd_I 125 2 = some (.putfield 88, 11, 0) := by decide +kernel
theorem cd_i125_5 : cd_I 125 5 = some (.aload_n 0, 0, 0) := by decide +kernel
theorem cd_i125_6 : cd_I 125 6 = some (.iconst 0, 0, 0) := by decide +kernel
theorem cd_i125_7 : cd_I 125 7 = some (.putfield 183, 11, 15) := by decide +kernel
theorem cd_i125_10 : cd_I 125 10 = some (.return_, 0, 0) := by decide +kernel
theorem cd_i126_0 : cd_I 126 0 = some (.aload_n 0, 0, 0) := by decide +kernel
theorem cd_i126_1 : cd_I 126 1 = some (.iload_n 1, 0, 0) := by decide +kernel
theorem cd_i126_2 : cd_I 126 2 = some (.iconst (-1), 0, 0) := by decide +kernel
theorem cd_i126_3 : cd_I 126 3 = some (.bipush 9, 0, 0) := by decide +kernel
theorem cd_i126_5 : cd_I 126 5 = some (.invokestatic 91, 101, 3) := by decide +kernel
theorem cd_i126_8 : cd_I 126 8 = some (.ifCond .eq 7, 15, 0) := by decide +kernel
theorem cd_i126_11 : cd_I 126 11 = some (.iconst 1, 0, 0) := by decide +kernel
theorem cd_i126_12 : cd_I 126 12 = some (.goto 4, 16, 0) := by decide +kernel
theorem cd_i126_15 : cd_I 126 15 = some (.iconst 0, 0, 0) := by decide +kernel
theorem cd_i126_16 : cd_I 126 16 = some (.putfield 88, 11, 0) := by decide +kernel
theorem cd_i126_19 : cd_I 126 19 = some (.aload_n 0, 0, 0) := by decide +kernel
theorem cd_i126_20 : cd_I 126 20 = some (.aload_n 0, 0, 0) := by decide +kernel
theorem cd_i126_21 : cd_I 126 21 = some (.getfield 88, 11, 0) := by decide +kernel
theorem cd_i126_24 : cd_I 126 24 = some (.ifCond .ne 7, 31, 0) := by decide +kernel
theorem cd_i126_27 : cd_I 126 27 = some (.iload_n 1, 0, 0) := by decide +kernel
theorem cd_i126_28 : cd_I 126 28 = some (.goto 7, 35, 0) := by decide +kernel
theorem cd_i126_31 : cd_I 126 31 = some (.aload_n 0, 0, 0) := by decide +kernel
theorem cd_i126_32 : cd_I 126 32 = some (.getfield 51, 11, 18) := by decide +kernel
theorem cd_i126_35 : cd_I 126 35 = some (.putfield 51, 11, 18) := by decide +kernel
theorem cd_i126_38 : cd_I 126 38 = some (.return_, 0, 0) := by decide +kernel
theorem cd_i127_0 : cd_I 127 0 = some (.aload_n 0, 0, 0) := by decide +kernel
theorem cd_i127_1 : cd_I 127 1 = some (.iconst 0, 0, 0) := by decide +kernel
theorem cd_i127_2 : cd_I 127 2 = some (.putfield 88, 11, 0) := by decide +kernel
theorem cd_i127_5 : cd_I 127 5 = some (.iload_n 1, 0, 0) := by decide +kernel
theorem cd_i127_6 : cd_I 127 6 = some (.iconst 0, 0, 0) := by decide +kernel
theorem cd_i127_7 : cd_I 127 7 = some (.bipush 12, 0, 0) := by decide +kernel
theorem cd_i127_9 : cd_I 127 9 = some (.invokestatic 91, 101, 3) := by decide +kernel
theorem cd_i127_12 : cd_I 127 12 = some (.ifCond .ne 26, 38, 0) := by decide +kernel
theorem cd_i127_15 : cd_I 127 15 = some (.iload_n 2, 0, 0) := by decide +kernel
theorem cd_i127_16 : cd_I 127 16 = some (.iconst 0, 0, 0) := by decide +kernel
theorem cd_i127_17 : cd_I 127 17 = some (.bipush 12, 0, 0) := by decide +kernel
theorem cd_i127_19 : cd_I 127 19 = some (.invokestatic 91, 101, 3) := by decide +kernel
theorem cd_i127_22 : cd_I 127 22 = some (.ifCond .ne 16, 38, 0) := by decide +kernel
theorem cd_i127_25 : cd_I 127 25 = some (.aload_n 0, 0, 0) := by decide +kernel
theorem cd_i127_26 : cd_I 127 26 = some (.iload_n 1, 0, 0) := by decide +kernel
theorem cd_i127_27 : cd_I 127 27 = some (.iload_n 2, 0, 0) := by decide +kernel
theorem cd_i127_28 : cd_I 127 28 = some (.invokevirtual 192, 128, 2) := by decide +kernel
theorem cd_i127_31 : cd_I 127 31 = some (.ifCond .eq 7, 38, 0) := by decide +kernel
theorem cd_i127_34 : cd_I 127 34 = some (.iconst 1, 0, 0) := by decide +kernel
theorem cd_i127_35 : cd_I 127 35 = some (.goto 4, 39, 0) := by decide +kernel
theorem cd_i127_38 : cd_I 127 38 = some (.iconst 0, 0, 0) := by decide +kernel
theorem cd_i127_39 : cd_I 127 39 = some (.ireturn, 0, 0) := by decide +kernel
theorem cd_i128_0 : cd_I 128 0 = some (.iload_n 1, 0, 0) := by decide +kernel
theorem cd_i128_1 : cd_I 128 1 = some (.iload_n 2, 0, 0) := by decide +kernel
theorem cd_i128_2 : cd_I 128 2 = some (.if_icmp .eq 12, 14, 0) := by decide +kernel
theorem cd_i128_5 : cd_I 128 5 = some (.iload_n 1, 0, 0) := by decide +kernel
theorem cd_i128_6 : cd_I 128 6 = some (.ifCond .ne 12, 18, 0) := by decide +kernel
theorem cd_i128_9 : cd_I 128 9 = some (.iload_n 2, 0, 0) := by decide +kernel
theorem cd_i128_10 : cd_I 128 10 = some (.iconst 1, 0, 0) := by decide +kernel
theorem cd_i128_11 : cd_I 128 11 = some (.if_icmp .ne 7, 18, 0) := by decide +kernel
theorem cd_i128_14 : cd_I 128 14 = some (.iconst 1, 0, 0) := by decide +kernel
theorem cd_i128_15 : cd_I 128 15 = some (.goto 4, 19, 0) := by decide +kernel
theorem cd_i128_18 : cd_I 128 18 = some (.iconst 0, 0, 0) := by decide +kernel
theorem cd_i128_19 : cd_I 128 19 = some (.istore_n 3, 0, 0) := by decide +kernel
theorem cd_i128_20 : cd_I 128 20 = some (.iload_n 1, 0, 0) := by decide +kernel
theorem cd_i128_21 : cd_I 128 21 = some (.iconst 3, 0, 0) := by decide +kernel
theorem cd_i128_22 : cd_I 128 22 = some (.if_icmp .ge 7, 29, 0) := by decide +kernel
theorem cd_i128_25 : cd_I 128 25 = some (.iconst (-1), 0, 0) := by decide +kernel
theorem cd_i128_26 : cd_I 128 26 = some (.goto 6, 32, 0) := by decide +kernel
theorem cd_i128_29 : cd_I 128 29 = some (.iload_n 1, 0, 0) := by decide +kernel
theorem cd_i128_30 : cd_I 128 30 = some (.iconst 3, 0, 0) := by decide +kernel
theorem cd_i128_31 : cd_I 128 31 = some (.isub, 0, 0) := by decide +kernel
theorem cd_i128_32 : cd_I 128 32 = some (.istore 4, 0, 0) := by decide +kernel
theorem cd_i128_34 : cd_I 128 34 = some (.iload 4, 0, 0) := by decide +kernel
theorem cd_i128_36 : cd_I 128 36 = some (.iconst (-1), 0, 0) := by decide +kernel
theorem cd_i128_37 : cd_I 128 37 = some (.if_icmp .eq 32, 69, 0) := by decide +kernel
theorem cd_i128_40 : cd_I 128 40 = some (.iload_n 3, 0, 0) := by decide +kernel
theorem cd_i128_41 : cd_I 128 41 = some (.ifCond .ne 11, 52, 0) := by decide +kernel
theorem cd_i128_44 : cd_I 128 44 = some (.iconst 3, 0, 0) := by decide +kernel
theorem cd_i128_45 : cd_I 128 45 = some (.iload 4, 0, 0) := by decide +kernel
theorem cd_i128_47 : cd_I 128 47 = some (.iadd, 0, 0) := by decide +kernel
theorem cd_i128_48 : cd_I 128 48 = some (.iload_n 2, 0, 0) := by decide +kernel
theorem cd_i128_49 : cd_I 128 49 = some (.if_icmp .ne 7, 56, 0) := by decide +kernel
theorem cd_i128_52 : cd_I 128 52 = some (.iconst 1, 0, 0) := by decide +kernel
theorem cd_i128_53 : cd_I 128 53 = some (.goto 4, 57, 0) := by decide +kernel
theorem cd_i128_56 : cd_I 128 56 = some (.iconst 0, 0, 0) := by decide +kernel
theorem cd_i128_57 : cd_I 128 57 = some (.istore_n 3, 0, 0) := by decide +kernel
theorem cd_i128_58 : cd_I 128 58 = some (.aload_n 0, 0, 0) := by decide +kernel
theorem cd_i128_59 : cd_I 128 59 = some (.iload 4, 0, 0) := by decide +kernel
theorem cd_i128_61 : cd_I 128 61 = some (.invokevirtual 189, 129, 1) := by decide +kernel
theorem cd_i128_64 : cd_I 128 64 = some (.istore 4, 0, 0) := by decide +kernel
theorem cd_i128_66 : cd_I 128 66 = some (.goto (-32), 34, 0) := by decide +kernel
theorem cd_i128_69 : cd_I 128 69 = some (.iload_n 3, 0, 0) := by decide +kernel
theorem cd_i128_70 : cd_I 128 70 = some (.ireturn, 0, 0) := by decide +kernel
theorem cd_i129_0 : cd_I 129 0 = some (.aload_n 0, 0, 0) := by decide +kernel
theorem cd_i129_1 : cd_I 129 1 = some (.getfield 13, 11, 5) := by decide +kernel
theorem cd_i129_4 : cd_I 129 4 = some (.iload_n 1, 0, 0) := by decide +kernel
theorem cd_i129_5 : cd_I 129 5 = some (.baload, 0, 0) := by decide +kernel
theorem cd_i129_6 : cd_I 129 6 = some (.ifCond .eq 12, 18, 0) := by decide +kernel
theorem cd_i129_9 : cd_I 129 9 = some (.aload_n 0, 0, 0) := by decide +kernel
theorem cd_i129_10 : cd_I 129 10 = some (.getfield 17, 11, 6) := by decide +kernel
theorem cd_i129_13 : cd_I 129 13 = some (.iload_n 1, 0, 0) := by decide +kernel
theorem cd_i129_14 : cd_I 129 14 = some (.iaload, 0, 0) := by decide +kernel
theorem cd_i129_15 : cd_I 129 15 = some (.goto 4, 19, 0) := by decide +kernel
theorem cd_i129_18 : cd_I 129 18 = some (.iconst (-1), 0, 0) := by decide +kernel
theorem cd_i129_19 : cd_I 129 19 = some (.ireturn, 0, 0) := by decide +kernel
theorem cd_i130_0 : cd_I 130 0 = some (.iload_n 1, 0, 0) := by decide +kernel
theorem cd_i130_1 : cd_I 130 1 = some (.iconst 0, 0, 0) := by decide +kernel
theorem cd_i130_2 : cd_I 130 2 = some (.bipush 12, 0, 0) := by decide +kernel
theorem cd_i130_4 : cd_I 130 4 = some (.invokestatic 91, 101, 3) := by decide +kernel
theorem cd_i130_7 : cd_I 130 7 = some (.ifCond .ne 12, 19, 0) := by decide +kernel
theorem cd_i130_10 : cd_I 130 10 = some (.iload_n 2, 0, 0) := by decide +kernel
theorem cd_i130_11 : cd_I 130 11 = some (.iconst 0, 0, 0) := by decide +kernel
theorem cd_i130_12 : cd_I 130 12 = some (.iconst 3, 0, 0) := by decide +kernel
theorem cd_i130_13 : cd_I 130 13 = some (.invokestatic 91, 101, 3) := by decide +kernel
theorem cd_i130_16 : cd_I 130 16 = some (.ifCond .eq 9, 25, 0) := by decide +kernel
theorem cd_i130_19 : cd_I 130 19 = some (.aload_n 0, 0, 0) := by decide +kernel
theorem cd_i130_20 : cd_I 130 20 = some (.iconst 1, 0, 0) := by decide +kernel
theorem cd_i130_21 : cd_I 130 21 = some (.invokevirtual 176, 121, 1) := by decide +kernel
theorem cd_i130_24 : cd_I 130 24 = some (.ireturn, 0, 0) := by decide +kernel
theorem cd_i130_25 : cd_I 130 25 = some (.aload_n 0, 0, 0) := by decide +kernel
theorem cd_i130_26 : cd_I 130 26 = some (.iconst 0, 0, 0) := by decide +kernel
theorem cd_i130_27 : cd_I 130 27 = some (.putfield 88, 11, 0) := by decide +kernel
theorem cd_i130_30 : cd_I 130 30 = some (.aload_n 0, 0, 0) := by decide +kernel
theorem cd_i130_31 : cd_I 130 31 = some (.iconst 0, 0, 0) := by decide +kernel
theorem cd_i130_32 : cd_I 130 32 = some (.putfield 207, 11, 19) := by decide +kernel
theorem cd_i130_35 : cd_I 130 35 = some (.iconst 0, 0, 0) := by decide +kernel
theorem cd_i130_36 : cd_I 130 36 = some (.istore_n 3, 0, 0) := by decide +kernel
theorem cd_i130_37 : cd_I 130 37 = some (.iload_n 3, 0, 0) := by decide +kernel
theorem cd_i130_38 : cd_I 130 38 = some (.iload_n 2, 0, 0) := by decide +kernel
theorem cd_i130_39 : cd_I 130 39 = some (.if_icmp .gt 33, 72, 0) := by decide +kernel
theorem cd_i130_42 : cd_I 130 42 = some (.aload_n 0, 0, 0) := by decide +kernel
theorem cd_i130_43 : cd_I 130 43 = some (.aload_n 0, 0, 0) := by decide +kernel
theorem cd_i130_44 : cd_I 130 44 = some (.getfield 207, 11, 19) := by decide +kernel
theorem cd_i130_47 : cd_I 130 47 = some (.putfield 210, 11, 24) := by decide +kernel
theorem cd_i130_50 : cd_I 130 50 = some (.iload_n 3, 0, 0) := by decide +kernel
theorem cd_i130_51 : cd_I 130 51 = some (.ifCond .ne 10, 61, 0) := by decide +kernel
theorem cd_i130_54 : cd_I 130 54 = some (.aload_n 0, 0, 0) := by decide +kernel
theorem cd_i130_55 : cd_I 130 55 = some (.invokevirtual 241, 131, 0) := by decide +kernel
theorem cd_i130_58 : cd_I 130 58 = some (.goto 8, 66, 0) := by decide +kernel
theorem cd_i130_61 : cd_I 130 61 = some (.aload_n 0, 0, 0) := by decide +kernel
theorem cd_i130_62 : cd_I 130 62 = some (.iload_n 3, 0, 0) := by decide +kernel
theorem cd_i130_63 : cd_I 130 63 = some (.invokevirtual 244, 137, 1) := by decide +kernel
theorem cd_i130_66 : cd_I 130 66 = some (.iinc 3 1, 0, 0) := by decide +kernel
theorem cd_i130_69 : cd_I 130 69 = some (.goto (-32), 37, 0) := by decide +kernel
theorem cd_i130_72 : cd_I 130 72 = some (.aload_n 0, 0, 0) := by decide +kernel
theorem cd_i130_73 : cd_I 130 73 = some (.iconst 0, 0, 0) := by decide +kernel
theorem cd_i130_74 : cd_I 130 74 = some (.putfield 247, 11, 27) := by decide +kernel
theorem cd_i130_77 : cd_I 130 77 = some (.iconst 0, 0, 0) := by decide +kernel
theorem cd_i130_78 : cd_I 130 78 = some (.istore_n 3, 0, 0) := by decide +kernel
theorem cd_i130_79 : cd_I 130 79 = some (.iload_n 3, 0, 0) := by decide +kernel
theorem cd_i130_80 : cd_I 130 80 = some (.aload_n 0, 0, 0) := by decide +kernel
theorem cd_i130_81 : cd_I 130 81 = some (.getfield 207, 11, 19) := by decide +kernel
theorem cd_i130_84 : cd_I 130 84 = some (.if_icmp .ge 37, 121, 0) := by decide +kernel
theorem cd_i130_87 : cd_I 130 87 = some (.aload_n 0, 0, 0) := by decide +kernel
theorem cd_i130_88 : cd_I 130 88 = some (.getfield 247, 11, 27) := by decide +kernel
theorem cd_i130_91 : cd_I 130 91 = some (.bipush 10, 0, 0) := by decide +kernel
theorem cd_i130_93 : cd_I 130 93 = some (.if_icmp .ge 28, 121, 0) := by decide +kernel
theorem cd_i130_96 : cd_I 130 96 = some (.aload_n 0, 0, 0) := by decide +kernel
theorem cd_i130_97 : cd_I 130 97 = some (.aload_n 0, 0, 0) := by decide +kernel
theorem cd_i130_98 : cd_I 130 98 = some (.getfield 58, 11, 21) := by decide +kernel
theorem cd_i130_101 : cd_I 130 101 = some (.iload_n 3, 0, 0) := by decide +kernel
theorem cd_i130_102 : cd_I 130 102 = some (.iaload, 0, 0) := by decide +kernel
theorem cd_i130_103 : cd_I 130 103 = some (.iload_n 1, 0, 0) := by decide +kernel
theorem cd_i130_104 : cd_I 130 104 = some (.invokevirtual 192, 128, 2) := by decide +kernel
theorem cd_i130_107 : cd_I 130 107 = some (.ifCond .eq 8, 115, 0) := by decide +kernel
theorem cd_i130_110 : cd_I 130 110 = some (.aload_n 0, 0, 0) := by decide +kernel
theorem cd_i130_111 : cd_I 130 111 = some (.iload_n 3, 0, 0) := by decide +kernel
theorem cd_i130_112 : cd_I 130 112 = some (.invokevirtual 250, 145, 1) := by decide +kernel
theorem cd_i130_115 : cd_I 130 115 = some (.iinc 3 1, 0, 0) := by decide +kernel
theorem cd_i130_118 : cd_I 130 118 = some (.goto (-39), 79, 0) := by decide +kernel
theorem cd_i130_121 : cd_I 130 121 = some (.aload_n 0, 0, 0) := by decide +kernel
theorem cd_i130_122 : cd_I 130 122 = some (.getfield 247, 11, 27) := by decide +kernel
theorem cd_i130_125 : cd_I 130 125 = some (.ireturn, 0, 0) := by decide +kernel
theorem cd_i131_0 : cd_I 131 0 = some (.iconst 0, 0, 0) := by decide +kernel
theorem cd_i131_1 : cd_I 131 1 = some (.istore_n 1, 0, 0) := by decide +kernel
theorem cd_i131_2 : cd_I 131 2 = some (.iload_n 1, 0, 0) := by decide +kernel
theorem cd_i131_3 : cd_I 131 3 = some (.aload_n 0, 0, 0) := by decide +kernel
theorem cd_i131_4 : cd_I 131 4 = some (.getfield 183, 11, 15) := by decide +kernel
theorem cd_i131_7 : cd_I 131 7 = some (.if_icmp .ge 35, 42, 0) := by decide +kernel
theorem cd_i131_10 : cd_I 131 10 = some (.aload_n 0, 0, 0) := by decide +kernel
theorem cd_i131_11 : cd_I 131 11 = some (.iconst 0, 0, 0) := by decide +kernel
theorem cd_i131_12 : cd_I 131 12 = some (.putfield 201, 11, 25) := by decide +kernel
theorem cd_i131_15 : cd_I 131 15 = some (.aload_n 0, 0, 0) := by decide +kernel
theorem cd_i131_16 : cd_I 131 16 = some (.aload_n 0, 0, 0) := by decide +kernel
theorem cd_i131_17 : cd_I 131 17 = some (.getfield 45, 11, 16) := by decide +kernel
theorem cd_i131_20 : cd_I 131 20 = some (.iload_n 1, 0, 0) := by decide +kernel
theorem cd_i131_21 : cd_I 131 21 = some (.iaload, 0, 0) := by decide +kernel
theorem cd_i131_22 : cd_I 131 22 = some (.invokevirtual 222, 132, 1) := by decide +kernel
theorem cd_i131_25 : cd_I 131 25 = some (.aload_n 0, 0, 0) := by decide +kernel
theorem cd_i131_26 : cd_I 131 26 = some (.iconst 0, 0, 0) := by decide +kernel
theorem cd_i131_27 : cd_I 131 27 = some (.aload_n 0, 0, 0) := by decide +kernel
theorem cd_i131_28 : cd_I 131 28 = some (.getfield 48, 11, 17) := by decide +kernel
theorem cd_i131_31 : cd_I 131 31 = some (.iload_n 1, 0, 0) := by decide +kernel
theorem cd_i131_32 : cd_I 131 32 = some (.iaload, 0, 0) := by decide +kernel
theorem cd_i131_33 : cd_I 131 33 = some (.invokevirtual 232, 134, 2) := by decide +kernel
theorem cd_i131_36 : cd_I 131 36 = some (.iinc 1 1, 0, 0) := by decide +kernel
theorem cd_i131_39 : cd_I 131 39 = some (.goto (-37), 2, 0) := by decide +kernel
theorem cd_i131_42 : cd_I 131 42 = some (.return_, 0, 0) := by decide +kernel
theorem cd_i132_0 : cd_I 132 0 = some (.iconst 1, 0, 0) := by decide +kernel
theorem cd_i132_1 : cd_I 132 1 = some (.istore_n 2, 0, 0) := by decide +kernel
theorem cd_i132_2 : cd_I 132 2 = some (.iload_n 2, 0, 0) := by decide +kernel
theorem cd_i132_3 : cd_I 132 3 = some (.iload_n 1, 0, 0) := by decide +kernel
theorem cd_i132_4 : cd_I 132 4 = some (.bipush 27, 0, 0) := by decide +kernel
theorem cd_i132_6 : cd_I 132 6 = some (.idiv, 0, 0) := by decide +kernel
theorem cd_i132_7 : cd_I 132 7 = some (.if_icmp .gt 11, 18, 0) := by decide +kernel
theorem cd_i132_10 : cd_I 132 10 = some (.iload_n 2, 0, 0) := by decide +kernel
theorem cd_i132_11 : cd_I 132 11 = some (.bipush 27, 0, 0) := by decide +kernel
theorem cd_i132_13 : cd_I 132 13 = some (.imul, 0, 0) := by decide +kernel
theorem cd_i132_14 : cd_I 132 14 = some (.istore_n 2, 0, 0) := by decide +kernel
theorem cd_i132_15 : cd_I 132 15 = some (.goto (-13), 2, 0) := by decide +kernel
theorem cd_i132_18 : cd_I 132 18 = some (.iload_n 2, 0, 0) := by decide +kernel
theorem cd_i132_19 : cd_I 132 19 = some (.istore_n 3, 0, 0) := by decide +kernel
theorem cd_i132_20 : cd_I 132 20 = some (.iload_n 3, 0, 0) := by decide +kernel
theorem cd_i132_21 : cd_I 132 21 = some (.ifCond .le 25, 46, 0) := by decide +kernel
theorem cd_i132_24 : cd_I 132 24 = some (.aload_n 0, 0, 0) := by decide +kernel
theorem cd_i132_25 : cd_I 132 25 = some (.bipush 96, 0, 0) := by decide +kernel
theorem cd_i132_27 : cd_I 132 27 = some (.iload_n 1, 0, 0) := by decide +kernel
theorem cd_i132_28 : cd_I 132 28 = some (.iload_n 3, 0, 0) := by decide +kernel
theorem cd_i132_29 : cd_I 132 29 = some (.idiv, 0, 0) := by decide +kernel
theorem cd_i132_30 : cd_I 132 30 = some (.bipush 27, 0, 0) := by decide +kernel
theorem cd_i132_32 : cd_I 132 32 = some (.irem, 0, 0) := by decide +kernel
theorem cd_i132_33 : cd_I 132 33 = some (.iadd, 0, 0) := by decide +kernel
theorem cd_i132_34 : cd_I 132 34 = some (.i2c, 0, 0) := by decide +kernel
theorem cd_i132_35 : cd_I 132 35 = some (.invokevirtual 204, 133, 1) := by decide +kernel
theorem cd_i132_38 : cd_I 132 38 = some (.iload_n 3, 0, 0) := by decide +kernel
theorem cd_i132_39 : cd_I 132 39 = some (.bipush 27, 0, 0) := by decide +kernel
theorem cd_i132_41 : cd_I 132 41 = some (.idiv, 0, 0) := by decide +kernel
theorem cd_i132_42 : cd_I 132 42 = some (.istore_n 3, 0, 0) := by decide +kernel
theorem cd_i132_43 : cd_I 132 43 = some (.goto (-23), 20, 0) := by decide +kernel
theorem cd_i132_46 : cd_I 132 46 = some (.return_, 0, 0) := by decide +kernel
theorem cd_i133_0 : cd_I 133 0 = some (.aload_n 0, 0, 0) := by decide +kernel
theorem cd_i133_1 : cd_I 133 1 = some (.getfield 201, 11, 25) := by decide +kernel
theorem cd_i133_4 : cd_I 133 4 = some (.sipush 200, 0, 0) := by decide +kernel
theorem cd_i133_7 : cd_I 133 7 = some (.if_icmp .ge 13, 20, 0) := by decide +kernel
theorem cd_i133_10 : cd_I 133 10 = some (.aload_n 0, 0, 0) := by decide +kernel
theorem cd_i133_11 : cd_I 133 11 = some (.getfield 67, 11, 26) := by decide +kernel
theorem cd_i133_14 : cd_I 133 14 = some (.aload_n 0, 0, 0) := by decide +kernel
theorem cd_i133_15 : cd_I 133 15 = some (.getfield 201, 11, 25) := by decide +kernel
theorem cd_i133_18 : cd_I 133 18 = some (.iload_n 1, 0, 0) := by decide +kernel
theorem cd_i133_19 : cd_I 133 19 = some (.castore, 0, 0) := by decide +kernel
theorem cd_i133_20 : cd_I 133 20 = some (.aload_n 0, 0, 0) := by decide +kernel
theorem cd_i133_21 : cd_I 133 21 = some (.dup, 0, 0) := by decide +kernel
theorem cd_i133_22 : cd_I 133 22 = some (.getfield 201, 11, 25) := by decide +kernel
theorem cd_i133_25 : cd_I 133 25 = some (.iconst 1, 0, 0) := by decide +kernel
theorem cd_i133_26 : cd_I 133 26 = some (.iadd, 0, 0) := by decide +kernel
theorem cd_i133_27 : cd_I 133 27 = some (.putfield 201, 11, 25) := by decide +kernel
theorem cd_i133_30 : cd_I 133 30 = some (.return_, 0, 0) := by decide +kernel
theorem cd_i134_0 : cd_I 134 0 = some (.aload_n 0, 0, 0) := by decide +kernel
theorem cd_i134_1 : cd_I 134 1 = some (.getfield 201, 11, 25) := by decide +kernel
theorem cd_i134_4 : cd_I 134 4 = some (.bipush 24, 0, 0) := by decide +kernel
theorem cd_i134_6 : cd_I 134 6 = some (.if_icmp .le 4, 10, 0) := by decide +kernel
theorem cd_i134_9 : cd_I 134 9 = some (.return_, 0, 0) := by decide +kernel
theorem cd_i134_10 : cd_I 134 10 = some (.aload_n 0, 0, 0) := by decide +kernel
theorem cd_i134_11 : cd_I 134 11 = some (.getfield 207, 11, 19) := by decide +kernel
theorem cd_i134_14 : cd_I 134 14 = some (.istore_n 3, 0, 0) := by decide +kernel
theorem cd_i134_15 : cd_I 134 15 = some (.iload_n 3, 0, 0) := by decide +kernel
theorem cd_i134_16 : cd_I 134 16 = some (.aload_n 0, 0, 0) := by decide +kernel
theorem cd_i134_17 : cd_I 134 17 = some (.getfield 210, 11, 24) := by decide +kernel
theorem cd_i134_20 : cd_I 134 20 = some (.if_icmp .le 19, 39, 0) := by decide +kernel
theorem cd_i134_23 : cd_I 134 23 = some (.aload_n 0, 0, 0) := by decide +kernel
theorem cd_i134_24 : cd_I 134 24 = some (.iload_n 3, 0, 0) := by decide +kernel
theorem cd_i134_25 : cd_I 134 25 = some (.iconst 1, 0, 0) := by decide +kernel
theorem cd_i134_26 : cd_I 134 26 = some (.isub, 0, 0) := by decide +kernel
theorem cd_i134_27 : cd_I 134 27 = some (.invokevirtual 213, 135, 1) := by decide +kernel
theorem cd_i134_30 : cd_I 134 30 = some (.ifCond .eq 9, 39, 0) := by decide +kernel
theorem cd_i134_33 : cd_I 134 33 = some (.iinc 3 (-1), 0, 0) := by decide +kernel
theorem cd_i134_36 : cd_I 134 36 = some (.goto (-21), 15, 0) := by decide +kernel
theorem cd_i134_39 : cd_I 134 39 = some (.iload_n 3, 0, 0) := by decide +kernel
theorem cd_i134_40 : cd_I 134 40 = some (.aload_n 0, 0, 0) := by decide +kernel
theorem cd_i134_41 : cd_I 134 41 = some (.getfield 210, 11, 24) := by decide +kernel
theorem cd_i134_44 : cd_I 134 44 = some (.isub, 0, 0) := by decide +kernel
theorem cd_i134_45 : cd_I 134 45 = some (.bipush 7, 0, 0) := by decide +kernel
theorem cd_i134_47 : cd_I 134 47 = some (.if_icmp .le 4, 51, 0) := by decide +kernel
theorem cd_i134_50 : cd_I 134 50 = some (.return_, 0, 0) := by decide +kernel
theorem cd_i134_51 : cd_I 134 51 = some (.aload_n 0, 0, 0) := by decide +kernel
theorem cd_i134_52 : cd_I 134 52 = some (.getfield 207, 11, 19) := by decide +kernel
theorem cd_i134_55 : cd_I 134 55 = some (.istore 4, 0, 0) := by decide +kernel
theorem cd_i134_57 : cd_I 134 57 = some (.iload 4, 0, 0) := by decide +kernel
theorem cd_i134_59 : cd_I 134 59 = some (.iload_n 3, 0, 0) := by decide +kernel
theorem cd_i134_60 : cd_I 134 60 = some (.if_icmp .le 19, 79, 0) := by decide +kernel
theorem cd_i134_63 : cd_I 134 63 = some (.aload_n 0, 0, 0) := by decide +kernel
theorem cd_i134_64 : cd_I 134 64 = some (.iload 4, 0, 0) := by decide +kernel
theorem cd_i134_66 : cd_I 134 66 = some (.iconst 1, 0, 0) := by decide +kernel
theorem cd_i134_67 : cd_I 134 67 = some (.isub, 0, 0) := by decide +kernel
theorem cd_i134_68 : cd_I 134 68 = some (.iload 4, 0, 0) := by decide +kernel
theorem cd_i134_70 : cd_I 134 70 = some (.invokevirtual 216, 136, 2) := by decide +kernel
theorem cd_i134_73 : cd_I 134 73 = some (.iinc 4 (-1), 0, 0) := by decide +kernel
theorem cd_i134_76 : cd_I 134 76 = some (.goto (-19), 57, 0) := by decide +kernel
theorem cd_i134_79 : cd_I 134 79 = some (.aload_n 0, 0, 0) := by decide +kernel
theorem cd_i134_80 : cd_I 134 80 = some (.getfield 55, 11, 20) := by decide +kernel
theorem cd_i134_83 : cd_I 134 83 = some (.iload_n 3, 0, 0) := by decide +kernel
theorem cd_i134_84 : cd_I 134 84 = some (.iload_n 1, 0, 0) := by decide +kernel
theorem cd_i134_85 : cd_I 134 85 = some (.iastore, 0, 0) := by decide +kernel
theorem cd_i134_86 : cd_I 134 86 = some (.aload_n 0, 0, 0) := by decide +kernel
theorem cd_i134_87 : cd_I 134 87 = some (.getfield 58, 11, 21) := by decide +kernel
theorem cd_i134_90 : cd_I 134 90 = some (.iload_n 3, 0, 0) := by decide +kernel
theorem cd_i134_91 : cd_I 134 91 = some (.iload_n 2, 0, 0) := by decide +kernel
theorem cd_i134_92 : cd_I 134 92 = some (.iastore, 0, 0) := by decide +kernel
theorem cd_i134_93 : cd_I 134 93 = some (.aload_n 0, 0, 0) := by decide +kernel
theorem cd_i134_94 : cd_I 134 94 = some (.getfield 61, 11, 22) := by decide +kernel
theorem cd_i134_97 : cd_I 134 97 = some (.iload_n 3, 0, 0) := by decide +kernel
theorem cd_i134_98 : cd_I 134 98 = some (.aload_n 0, 0, 0) := by decide +kernel
theorem cd_i134_99 : cd_I 134 99 = some (.getfield 201, 11, 25) := by decide +kernel
theorem cd_i134_102 : cd_I 134 102 = some (.iastore, 0, 0) := by decide +kernel
theorem cd_i134_103 : cd_I 134 103 = some (.iconst 0, 0, 0) := by decide +kernel
theorem cd_i134_104 : cd_I 134 104 = some (.istore 4, 0, 0) := by decide +kernel
theorem cd_i134_106 : cd_I 134 106 = some (.iload 4, 0, 0) := by decide +kernel
theorem cd_i134_108 : cd_I 134 108 = some (.aload_n 0, 0, 0) := by decide +kernel
theorem cd_i134_109 : cd_I 134 109 = some (.getfield 201, 11, 25) := by decide +kernel
theorem cd_i134_112 : cd_I 134 112 = some (.if_icmp .ge 28, 140, 0) := by decide +kernel
theorem cd_i134_115 : cd_I 134 115 = some (.aload_n 0, 0, 0) := by decide +kernel
theorem cd_i134_116 : cd_I 134 116 = some (.getfield 64, 11, 23) := by decide +kernel
theorem cd_i134_119 : cd_I 134 119 = some (.bipush 24, 0, 0) := by decide +kernel
theorem cd_i134_121 : cd_I 134 121 = some (.iload_n 3, 0, 0) := by decide +kernel
theorem cd_i134_122 : cd_I 134 122 = some (.imul, 0, 0) := by decide +kernel
theorem cd_i134_123 : cd_I 134 123 = some (.iload 4, 0, 0) := by decide +kernel
theorem cd_i134_125 : cd_I 134 125 = some (.iadd, 0, 0) := by decide +kernel
theorem cd_i134_126 : cd_I 134 126 = some (.aload_n 0, 0, 0) := by decide +kernel
theorem cd_i134_127 : cd_I 134 127 = some (.getfield 67, 11, 26) := by decide +kernel
theorem cd_i134_130 : cd_I 134 130 = some (.iload 4, 0, 0) := by decide +kernel
theorem cd_i134_132 : cd_I 134 132 = some (.caload, 0, 0) := by decide +kernel
theorem cd_i134_133 : cd_I 134 133 = some (.castore, 0, 0) := by decide +kernel
theorem cd_i134_134 : cd_I 134 134 = some (.iinc 4 1, 0, 0) := by decide +kernel
theorem cd_i134_137 : cd_I 134 137 = some (.goto (-31), 106, 0) := by decide +kernel
theorem cd_i134_140 : cd_I 134 140 = some (.aload_n 0, 0, 0) := by decide +kernel
theorem cd_i134_141 : cd_I 134 141 = some (.aload_n 0, 0, 0) := by decide +kernel
theorem cd_i134_142 : cd_I 134 142 = some (.getfield 207, 11, 19) := by decide +kernel
theorem cd_i134_145 : cd_I 134 145 = some (.aload_n 0, 0, 0) := by decide +kernel
theorem cd_i134_146 : cd_I 134 146 = some (.getfield 210, 11, 24) := by decide +kernel
theorem cd_i134_149 : cd_I 134 149 = some (.isub, 0, 0) := by decide +kernel
theorem cd_i134_150 : cd_I 134 150 = some (.bipush 8, 0, 0) := by decide +kernel
theorem cd_i134_152 : cd_I 134 152 = some (.if_icmp .ge 12, 164, 0) := by decide +kernel
theorem cd_i134_155 : cd_I 134 155 = some (.aload_n 0, 0, 0) := by decide +kernel
theorem cd_i134_156 : cd_I 134 156 = some (.getfield 207, 11, 19) := by decide +kernel
theorem cd_i134_159 : cd_I 134 159 = some (.iconst 1, 0, 0) := by decide +kernel
theorem cd_i134_160 : cd_I 134 160 = some (.iadd, 0, 0) := by decide +kernel
theorem cd_i134_161 : cd_I 134 161 = some (.goto 7, 168, 0) := by decide +kernel
theorem cd_i134_164 : cd_I 134 164 = some (.aload_n 0, 0, 0) := by decide +kernel
theorem cd_i134_165 : cd_I 134 165 = some (.getfield 207, 11, 19) := by decide +kernel
theorem cd_i134_168 : cd_I 134 168 = some (.putfield 207, 11, 19) := by decide +kernel
theorem cd_i134_171 : cd_I 134 171 = some (.return_, 0, 0) := by decide +kernel
theorem cd_i135_0 : cd_I 135 0 = some (.iconst 0, 0, 0) := by decide +kernel
theorem cd_i135_1 : cd_I 135 1 = some (.istore_n 2, 0, 0) := by decide +kernel
theorem cd_i135_2 : cd_I 135 2 = some (.iload_n 2, 0, 0) := by decide +kernel
theorem cd_i135_3 : cd_I 135 3 = some (.aload_n 0, 0, 0) := by decide +kernel
theorem cd_i135_4 : cd_I 135 4 = some (.getfield 201, 11, 25) := by decide +kernel
theorem cd_i135_7 : cd_I 135 7 = some (.if_icmp .ge 65, 72, 0) := by decide +kernel
theorem cd_i135_10 : cd_I 135 10 = some (.iload_n 2, 0, 0) := by decide +kernel
theorem cd_i135_11 : cd_I 135 11 = some (.aload_n 0, 0, 0) := by decide +kernel
theorem cd_i135_12 : cd_I 135 12 = some (.getfield 61, 11, 22) := by decide +kernel
theorem cd_i135_15 : cd_I 135 15 = some (.iload_n 1, 0, 0) := by decide +kernel
theorem cd_i135_16 : cd_I 135 16 = some (.iaload, 0, 0) := by decide +kernel
theorem cd_i135_17 : cd_I 135 17 = some (.if_icmp .ge 55, 72, 0) := by decide +kernel
theorem cd_i135_20 : cd_I 135 20 = some (.aload_n 0, 0, 0) := by decide +kernel
theorem cd_i135_21 : cd_I 135 21 = some (.getfield 67, 11, 26) := by decide +kernel
theorem cd_i135_24 : cd_I 135 24 = some (.iload_n 2, 0, 0) := by decide +kernel
theorem cd_i135_25 : cd_I 135 25 = some (.caload, 0, 0) := by decide +kernel
theorem cd_i135_26 : cd_I 135 26 = some (.aload_n 0, 0, 0) := by decide +kernel
theorem cd_i135_27 : cd_I 135 27 = some (.getfield 64, 11, 23) := by decide +kernel
theorem cd_i135_30 : cd_I 135 30 = some (.bipush 24, 0, 0) := by decide +kernel
theorem cd_i135_32 : cd_I 135 32 = some (.iload_n 1, 0, 0) := by decide +kernel
theorem cd_i135_33 : cd_I 135 33 = some (.imul, 0, 0) := by decide +kernel
theorem cd_i135_34 : cd_I 135 34 = some (.iload_n 2, 0, 0) := by decide +kernel
theorem cd_i135_35 : cd_I 135 35 = some (.iadd, 0, 0) := by decide +kernel
theorem cd_i135_36 : cd_I 135 36 = some (.caload, 0, 0) := by decide +kernel
theorem cd_i135_37 : cd_I 135 37 = some (.if_icmp .eq 29, 66, 0) := by decide +kernel
theorem cd_i135_40 : cd_I 135 40 = some (.aload_n 0, 0, 0) := by decide +kernel
theorem cd_i135_41 : cd_I 135 41 = some (.getfield 67, 11, 26) := by decide +kernel
theorem cd_i135_44 : cd_I 135 44 = some (.iload_n 2, 0, 0) := by decide +kernel
theorem cd_i135_45 : cd_I 135 45 = some (.caload, 0, 0) := by decide +kernel
theorem cd_i135_46 : cd_I 135 46 = some (.aload_n 0, 0, 0) := by decide +kernel
theorem cd_i135_47 : cd_I 135 47 = some (.getfield 64, 11, 23) := by decide +kernel
theorem cd_i135_50 : cd_I 135 50 = some (.bipush 24, 0, 0) := by decide +kernel
theorem cd_i135_52 : cd_I 135 52 = some (.iload_n 1, 0, 0) := by decide +kernel
theorem cd_i135_53 : cd_I 135 53 = some (.imul, 0, 0) := by decide +kernel
theorem cd_i135_54 : cd_I 135 54 = some (.iload_n 2, 0, 0) := by decide +kernel
theorem cd_i135_55 : cd_I 135 55 = some (.iadd, 0, 0) := by decide +kernel
theorem cd_i135_56 : cd_I 135 56 = some (.caload, 0, 0) := by decide +kernel
theorem cd_i135_57 : cd_I 135 57 = some (.if_icmp .ge 7, 64, 0) := by decide +kernel
theorem cd_i135_60 : cd_I 135 60 = some (.iconst 1, 0, 0) := by decide +kernel
theorem cd_i135_61 : cd_I 135 61 = some (.goto 4, 65, 0) := by decide +kernel
theorem cd_i135_64 : cd_I 135 64 = some (.iconst 0, 0, 0) := by decide +kernel
theorem cd_i135_65 : cd_I 135 65 = some (.ireturn, 0, 0) := by decide +kernel
theorem cd_i135_66 : cd_I 135 66 = some (.iinc 2 1, 0, 0) := by decide +kernel
theorem cd_i135_69 : cd_I 135 69 = some (.goto (-67), 2, 0) := by decide +kernel
theorem cd_i135_72 : cd_I 135 72 = some (.aload_n 0, 0, 0) := by decide +kernel
theorem cd_i135_73 : cd_I 135 73 = some (.getfield 201, 11, 25) := by decide +kernel
theorem cd_i135_76 : cd_I 135 76 = some (.aload_n 0, 0, 0) := by decide +kernel
theorem cd_i135_77 : cd_I 135 77 = some (.getfield 61, 11, 22) := by decide +kernel
theorem cd_i135_80 : cd_I 135 80 = some (.iload_n 1, 0, 0) := by decide +kernel
theorem cd_i135_81 : cd_I 135 81 = some (.iaload, 0, 0) := by decide +kernel
theorem cd_i135_82 : cd_I 135 82 = some (.if_icmp .ge 7, 89, 0) := by decide +kernel
theorem cd_i135_85 : cd_I 135 85 = some (.iconst 1, 0, 0) := by decide +kernel
theorem cd_i135_86 : cd_I 135 86 = some (.goto 4, 90, 0) := by decide +kernel
theorem cd_i135_89 : cd_I 135 89 = some (.iconst 0, 0, 0) := by decide +kernel
theorem cd_i135_90 : cd_I 135 90 = some (.ireturn, 0, 0) := by decide +kernel
theorem cd_i136_0 : cd_I 136 0 = some (.aload_n 0, 0, 0) := by decide +kernel
theorem cd_i136_1 : cd_I 136 1 = some (.getfield 55, 11, 20) := by decide +kernel
theorem cd_i136_4 : cd_I 136 4 = some (.iload_n 2, 0, 0) := by decide +kernel
theorem cd_i136_5 : cd_I 136 5 = some (.aload_n 0, 0, 0) := by decide +kernel
theorem cd_i136_6 : cd_I 136 6 = some (.getfield 55, 11, 20) := by decide +kernel
theorem cd_i136_9 : cd_I 136 9 = some (.iload_n 1, 0, 0) := by decide +kernel
theorem cd_i136_10 : cd_I 136 10 = some (.iaload, 0, 0) := by decide +kernel
theorem cd_i136_11 : cd_I 136 11 = some (.iastore, 0, 0) := by decide +kernel
theorem cd_i136_12 : cd_I 136 12 = some (.aload_n 0, 0, 0) := by decide +kernel
theorem cd_i136_13 : cd_I 136 13 = some (.getfield 58, 11, 21) := by decide +kernel
theorem cd_i136_16 : cd_I 136 16 = some (.iload_n 2, 0, 0) := by decide +kernel
theorem cd_i136_17 : cd_I 136 17 = some (.aload_n 0, 0, 0) := by decide +kernel
theorem cd_i136_18 : cd_I 136 18 = some (.getfield 58, 11, 21) := by decide +kernel
theorem cd_i136_21 : cd_I 136 21 = some (.iload_n 1, 0, 0) := by decide +kernel
theorem cd_i136_22 : cd_I 136 22 = some (.iaload, 0, 0) := by decide +kernel
theorem cd_i136_23 : cd_I 136 23 = some (.iastore, 0, 0) := by decide +kernel
theorem cd_i136_24 : cd_I 136 24 = some (.aload_n 0, 0, 0) := by decide +kernel
theorem cd_i136_25 : cd_I 136 25 = some (.getfield 61, 11, 22) := by decide +kernel
theorem cd_i136_28 : cd_I 136 28 = some (.iload_n 2, 0, 0) := by decide +kernel
theorem cd_i136_29 : cd_I 136 29 = some (.aload_n 0, 0, 0) := by decide +kernel
theorem cd_i136_30 : cd_I 136 30 = some (.getfield 61, 11, 22) := by decide +kernel
theorem cd_i136_33 : cd_I 136 33 = some (.iload_n 1, 0, 0) := by decide +kernel
theorem cd_i136_34 : cd_I 136 34 = some (.iaload, 0, 0) := by decide +kernel
theorem cd_i136_35 : cd_I 136 35 = some (.iastore, 0, 0) := by decide +kernel
theorem cd_i136_36 : cd_I 136 36 = some (.iconst 0, 0, 0) := by decide +kernel
theorem cd_i136_37 : cd_I 136 37 = some (.istore_n 3, 0, 0) := by decide +kernel
theorem cd_i136_38 : cd_I 136 38 = some (.iload_n 3, 0, 0) := by decide +kernel
theorem cd_i136_39 : cd_I 136 39 = some (.bipush 24, 0, 0) := by decide +kernel
theorem cd_i136_41 : cd_I 136 41 = some (.if_icmp .ge 31, 72, 0) := by decide +kernel
theorem cd_i136_44 : cd_I 136 44 = some (.aload_n 0, 0, 0) := by decide +kernel
theorem cd_i136_45 : cd_I 136 45 = some (.getfield 64, 11, 23) := by decide +kernel
theorem cd_i136_48 : cd_I 136 48 = some (.bipush 24, 0, 0) := by decide +kernel
theorem cd_i136_50 : cd_I 136 50 = some (.iload_n 2, 0, 0) := by decide +kernel
theorem cd_i136_51 : cd_I 136 51 = some (.imul, 0, 0) := by decide +kernel
theorem cd_i136_52 : cd_I 136 52 = some (.iload_n 3, 0, 0) := by decide +kernel
theorem cd_i136_53 : cd_I 136 53 = some (.iadd, 0, 0) := by decide +kernel
theorem cd_i136_54 : cd_I 136 54 = some (.aload_n 0, 0, 0) := by decide +kernel
theorem cd_i136_55 : cd_I 136 55 = some (.getfield 64, 11, 23) := by decide +kernel
theorem cd_i136_58 : cd_I 136 58 = some (.bipush 24, 0, 0) := by decide +kernel
theorem cd_i136_60 : cd_I 136 60 = some (.iload_n 1, 0, 0) := by decide +kernel
theorem cd_i136_61 : cd_I 136 61 = some (.imul, 0, 0) := by decide +kernel
theorem cd_i136_62 : cd_I 136 62 = some (.iload_n 3, 0, 0) := by decide +kernel
theorem cd_i136_63 : cd_I 136 63 = some (.iadd, 0, 0) := by decide +kernel
theorem cd_i136_64 : cd_I 136 64 = some (.caload, 0, 0) := by decide +kernel
theorem cd_i136_65 : cd_I 136 65 = some (.castore, 0, 0) := by decide +kernel
theorem cd_i136_66 : cd_I 136 66 = some (.iinc 3 1, 0, 0) := by decide +kernel
theorem cd_i136_69 : cd_I 136 69 = some (.goto (-31), 38, 0) := by decide +kernel
theorem cd_i136_72 : cd_I 136 72 = some (.return_, 0, 0) := by decide +kernel
theorem cd_i137_0 : cd_I 137 0 = some (.aload_n 0, 0, 0) := by decide +kernel
theorem cd_i137_1 : cd_I 137 1 = some (.getfield 207, 11, 19) := by decide +kernel
theorem cd_i137_4 : cd_I 137 4 = some (.istore_n 2, 0, 0) := by decide +kernel
theorem cd_i137_5 : cd_I 137 5 = some (.iconst 0, 0, 0) := by decide +kernel
theorem cd_i137_6 : cd_I 137 6 = some (.istore_n 3, 0, 0) := by decide +kernel
theorem cd_i137_7 : cd_I 137 7 = some (.iload_n 3, 0, 0) := by decide +kernel
theorem cd_i137_8 : cd_I 137 8 = some (.bipush 60, 0, 0) := by decide +kernel
theorem cd_i137_10 : cd_I 137 10 = some (.if_icmp .ge 129, 139, 0) := by decide +kernel
theorem cd_i137_13 : cd_I 137 13 = some (.aload_n 0, 0, 0) := by decide +kernel
theorem cd_i137_14 : cd_I 137 14 = some (.getfield 13, 11, 5) := by decide +kernel
theorem cd_i137_17 : cd_I 137 17 = some (.iload_n 3, 0, 0) := by decide +kernel
theorem cd_i137_18 : cd_I 137 18 = some (.bipush 6, 0, 0) := by decide +kernel
theorem cd_i137_20 : cd_I 137 20 = some (.idiv, 0, 0) := by decide +kernel
theorem cd_i137_21 : cd_I 137 21 = some (.baload, 0, 0) := by decide +kernel
theorem cd_i137_22 : cd_I 137 22 = some (.ifCond .eq 23, 45, 0) := by decide +kernel
theorem cd_i137_25 : cd_I 137 25 = some (.iload_n 3, 0, 0) := by decide +kernel
theorem cd_i137_26 : cd_I 137 26 = some (.bipush 6, 0, 0) := by decide +kernel
theorem cd_i137_28 : cd_I 137 28 = some (.irem, 0, 0) := by decide +kernel
theorem cd_i137_29 : cd_I 137 29 = some (.aload_n 0, 0, 0) := by decide +kernel
theorem cd_i137_30 : cd_I 137 30 = some (.getfield 21, 11, 7) := by decide +kernel
theorem cd_i137_33 : cd_I 137 33 = some (.iload_n 3, 0, 0) := by decide +kernel
theorem cd_i137_34 : cd_I 137 34 = some (.bipush 6, 0, 0) := by decide +kernel
theorem cd_i137_36 : cd_I 137 36 = some (.idiv, 0, 0) := by decide +kernel
theorem cd_i137_37 : cd_I 137 37 = some (.iaload, 0, 0) := by decide +kernel
theorem cd_i137_38 : cd_I 137 38 = some (.if_icmp .ge 7, 45, 0) := by decide +kernel
theorem cd_i137_41 : cd_I 137 41 = some (.iconst 1, 0, 0) := by decide +kernel
theorem cd_i137_42 : cd_I 137 42 = some (.goto 4, 46, 0) := by decide +kernel
theorem cd_i137_45 : cd_I 137 45 = some (.iconst 0, 0, 0) := by decide +kernel
theorem cd_i137_46 : cd_I 137 46 = some (.istore 4, 0, 0) := by decide +kernel
theorem cd_i137_48 : cd_I 137 48 = some (.iload 4, 0, 0) := by decide +kernel
theorem cd_i137_50 : cd_I 137 50 = some (.ifCond .eq 28, 78, 0) := by decide +kernel
theorem cd_i137_53 : cd_I 137 53 = some (.aload_n 0, 0, 0) := by decide +kernel
theorem cd_i137_54 : cd_I 137 54 = some (.getfield 27, 11, 9) := by decide +kernel
theorem cd_i137_57 : cd_I 137 57 = some (.iload_n 3, 0, 0) := by decide +kernel
theorem cd_i137_58 : cd_I 137 58 = some (.baload, 0, 0) := by decide +kernel
theorem cd_i137_59 : cd_I 137 59 = some (.ifCond .eq 19, 78, 0) := by decide +kernel
theorem cd_i137_62 : cd_I 137 62 = some (.aload_n 0, 0, 0) := by decide +kernel
theorem cd_i137_63 : cd_I 137 63 = some (.iload_n 3, 0, 0) := by decide +kernel
theorem cd_i137_64 : cd_I 137 64 = some (.invokevirtual 195, 138, 1) := by decide +kernel
theorem cd_i137_67 : cd_I 137 67 = some (.ifCond .eq 11, 78, 0) := by decide +kernel
theorem cd_i137_70 : cd_I 137 70 = some (.aload_n 0, 0, 0) := by decide +kernel
theorem cd_i137_71 : cd_I 137 71 = some (.iload_n 3, 0, 0) := by decide +kernel
theorem cd_i137_72 : cd_I 137 72 = some (.iconst (-1), 0, 0) := by decide +kernel
theorem cd_i137_73 : cd_I 137 73 = some (.iload_n 1, 0, 0) := by decide +kernel
theorem cd_i137_74 : cd_I 137 74 = some (.iload_n 2, 0, 0) := by decide +kernel
theorem cd_i137_75 : cd_I 137 75 = some (.invokevirtual 235, 139, 4) := by decide +kernel
theorem cd_i137_78 : cd_I 137 78 = some (.iconst 0, 0, 0) := by decide +kernel
theorem cd_i137_79 : cd_I 137 79 = some (.istore 5, 0, 0) := by decide +kernel
theorem cd_i137_81 : cd_I 137 81 = some (.iload 5, 0, 0) := by decide +kernel
theorem cd_i137_83 : cd_I 137 83 = some (.iload_n 2, 0, 0) := by decide +kernel
theorem cd_i137_84 : cd_I 137 84 = some (.if_icmp .ge 49, 133, 0) := by decide +kernel
theorem cd_i137_87 : cd_I 137 87 = some (.iload 4, 0, 0) := by decide +kernel
theorem cd_i137_89 : cd_I 137 89 = some (.ifCond .eq 44, 133, 0) := by decide +kernel
theorem cd_i137_92 : cd_I 137 92 = some (.aload_n 0, 0, 0) := by decide +kernel
theorem cd_i137_93 : cd_I 137 93 = some (.getfield 55, 11, 20) := by decide +kernel
theorem cd_i137_96 : cd_I 137 96 = some (.iload 5, 0, 0) := by decide +kernel
theorem cd_i137_98 : cd_I 137 98 = some (.iaload, 0, 0) := by decide +kernel
theorem cd_i137_99 : cd_I 137 99 = some (.iload_n 1, 0, 0) := by decide +kernel
theorem cd_i137_100 : cd_I 137 100 = some (.if_icmp .ge 27, 127, 0) := by decide +kernel
theorem cd_i137_103 : cd_I 137 103 = some (.aload_n 0, 0, 0) := by decide +kernel
theorem cd_i137_104 : cd_I 137 104 = some (.aload_n 0, 0, 0) := by decide +kernel
theorem cd_i137_105 : cd_I 137 105 = some (.getfield 58, 11, 21) := by decide +kernel
theorem cd_i137_108 : cd_I 137 108 = some (.iload 5, 0, 0) := by decide +kernel
theorem cd_i137_110 : cd_I 137 110 = some (.iaload, 0, 0) := by decide +kernel
theorem cd_i137_111 : cd_I 137 111 = some (.iload_n 3, 0, 0) := by decide +kernel
theorem cd_i137_112 : cd_I 137 112 = some (.invokevirtual 238, 143, 2) := by decide +kernel
theorem cd_i137_115 : cd_I 137 115 = some (.ifCond .eq 12, 127, 0) := by decide +kernel
theorem cd_i137_118 : cd_I 137 118 = some (.aload_n 0, 0, 0) := by decide +kernel
theorem cd_i137_119 : cd_I 137 119 = some (.iload_n 3, 0, 0) := by decide +kernel
theorem cd_i137_120 : cd_I 137 120 = some (.iload 5, 0, 0) := by decide +kernel
theorem cd_i137_122 : cd_I 137 122 = some (.iload_n 1, 0, 0) := by decide +kernel
theorem cd_i137_123 : cd_I 137 123 = some (.iload_n 2, 0, 0) := by decide +kernel
theorem cd_i137_124 : cd_I 137 124 = some (.invokevirtual 235, 139, 4) := by decide +kernel
theorem cd_i137_127 : cd_I 137 127 = some (.iinc 5 1, 0, 0) := by decide +kernel
theorem cd_i137_130 : cd_I 137 130 = some (.goto (-49), 81, 0) := by decide +kernel
theorem cd_i137_133 : cd_I 137 133 = some (.iinc 3 1, 0, 0) := by decide +kernel
theorem cd_i137_136 : cd_I 137 136 = some (.goto (-129), 7, 0) := by decide +kernel
theorem cd_i137_139 : cd_I 137 139 = some (.return_, 0, 0) := by decide +kernel
theorem cd_i138_0 : cd_I 138 0 = some (.aload_n 0, 0, 0) := by decide +kernel
theorem cd_i138_1 : cd_I 138 1 = some (.getfield 30, 11, 10) := by decide +kernel
theorem cd_i138_4 : cd_I 138 4 = some (.iload_n 1, 0, 0) := by decide +kernel
theorem cd_i138_5 : cd_I 138 5 = some (.baload, 0, 0) := by decide +kernel
theorem cd_i138_6 : cd_I 138 6 = some (.ifCond .eq 14, 20, 0) := by decide +kernel
theorem cd_i138_9 : cd_I 138 9 = some (.aload_n 0, 0, 0) := by decide +kernel
theorem cd_i138_10 : cd_I 138 10 = some (.getfield 51, 11, 18) := by decide +kernel
theorem cd_i138_13 : cd_I 138 13 = some (.iload_n 1, 0, 0) := by decide +kernel
theorem cd_i138_14 : cd_I 138 14 = some (.bipush 6, 0, 0) := by decide +kernel
theorem cd_i138_16 : cd_I 138 16 = some (.idiv, 0, 0) := by decide +kernel
theorem cd_i138_17 : cd_I 138 17 = some (.if_icmp .ne 7, 24, 0) := by decide +kernel
theorem cd_i138_20 : cd_I 138 20 = some (.iconst 1, 0, 0) := by decide +kernel
theorem cd_i138_21 : cd_I 138 21 = some (.goto 4, 25, 0) := by decide +kernel
theorem cd_i138_24 : cd_I 138 24 = some (.iconst 0, 0, 0) := by decide +kernel
theorem cd_i138_25 : cd_I 138 25 = some (.ireturn, 0, 0) := by decide +kernel
theorem cd_i139_0 : cd_I 139 0 = some (.iload_n 3, 0, 0) := by decide +kernel
theorem cd_i139_1 : cd_I 139 1 = some (.iconst 1, 0, 0) := by decide +kernel
theorem cd_i139_2 : cd_I 139 2 = some (.isub, 0, 0) := by decide +kernel
theorem cd_i139_3 : cd_I 139 3 = some (.aload_n 0, 0, 0) := by decide +kernel
theorem cd_i139_4 : cd_I 139 4 = some (.iload_n 2, 0, 0) := by decide +kernel
theorem cd_i139_5 : cd_I 139 5 = some (.invokevirtual 225, 140, 1) := by decide +kernel
theorem cd_i139_8 : cd_I 139 8 = some (.isub, 0, 0) := by decide +kernel
theorem cd_i139_9 : cd_I 139 9 = some (.istore 5, 0, 0) := by decide +kernel
theorem cd_i139_11 : cd_I 139 11 = some (.aload_n 0, 0, 0) := by decide +kernel
theorem cd_i139_12 : cd_I 139 12 = some (.getfield 39, 11, 13) := by decide +kernel
theorem cd_i139_15 : cd_I 139 15 = some (.iload_n 1, 0, 0) := by decide +kernel
theorem cd_i139_16 : cd_I 139 16 = some (.iaload, 0, 0) := by decide +kernel
theorem cd_i139_17 : cd_I 139 17 = some (.ifCond .le 8, 25, 0) := by decide +kernel
theorem cd_i139_20 : cd_I 139 20 = some (.iload 4, 0, 0) := by decide +kernel
theorem cd_i139_22 : cd_I 139 22 = some (.goto 4, 26, 0) := by decide +kernel
theorem cd_i139_25 : cd_I 139 25 = some (.iconst 1, 0, 0) := by decide +kernel
theorem cd_i139_26 : cd_I 139 26 = some (.istore 6, 0, 0) := by decide +kernel
theorem cd_i139_28 : cd_I 139 28 = some (.aload_n 0, 0, 0) := by decide +kernel
theorem cd_i139_29 : cd_I 139 29 = some (.getfield 39, 11, 13) := by decide +kernel
theorem cd_i139_32 : cd_I 139 32 = some (.iload_n 1, 0, 0) := by decide +kernel
theorem cd_i139_33 : cd_I 139 33 = some (.iaload, 0, 0) := by decide +kernel
theorem cd_i139_34 : cd_I 139 34 = some (.iconst 1, 0, 0) := by decide +kernel
theorem cd_i139_35 : cd_I 139 35 = some (.if_icmp .le 8, 43, 0) := by decide +kernel
theorem cd_i139_38 : cd_I 139 38 = some (.iload 4, 0, 0) := by decide +kernel
theorem cd_i139_40 : cd_I 139 40 = some (.goto 4, 44, 0) := by decide +kernel
theorem cd_i139_43 : cd_I 139 43 = some (.iconst 1, 0, 0) := by decide +kernel
theorem cd_i139_44 : cd_I 139 44 = some (.istore 7, 0, 0) := by decide +kernel
theorem cd_i139_46 : cd_I 139 46 = some (.iconst 0, 0, 0) := by decide +kernel
theorem cd_i139_47 : cd_I 139 47 = some (.istore 8, 0, 0) := by decide +kernel
theorem cd_i139_49 : cd_I 139 49 = some (.iload 8, 0, 0) := by decide +kernel
theorem cd_i139_51 : cd_I 139 51 = some (.iload 6, 0, 0) := by decide +kernel
theorem cd_i139_53 : cd_I 139 53 = some (.if_icmp .ge 172, 225, 0) := by decide +kernel
theorem cd_i139_56 : cd_I 139 56 = some (.aload_n 0, 0, 0) := by decide +kernel
theorem cd_i139_57 : cd_I 139 57 = some (.getfield 39, 11, 13) := by decide +kernel
theorem cd_i139_60 : cd_I 139 60 = some (.iload_n 1, 0, 0) := by decide +kernel
theorem cd_i139_61 : cd_I 139 61 = some (.iaload, 0, 0) := by decide +kernel
theorem cd_i139_62 : cd_I 139 62 = some (.ifCond .le 8, 70, 0) := by decide +kernel
theorem cd_i139_65 : cd_I 139 65 = some (.iload 8, 0, 0) := by decide +kernel
theorem cd_i139_67 : cd_I 139 67 = some (.goto 4, 71, 0) := by decide +kernel
theorem cd_i139_70 : cd_I 139 70 = some (.iconst (-1), 0, 0) := by decide +kernel
theorem cd_i139_71 : cd_I 139 71 = some (.istore 9, 0, 0) := by decide +kernel
theorem cd_i139_73 : cd_I 139 73 = some (.iload 9, 0, 0) := by decide +kernel
theorem cd_i139_75 : cd_I 139 75 = some (.iconst (-1), 0, 0) := by decide +kernel
theorem cd_i139_76 : cd_I 139 76 = some (.if_icmp .eq 25, 101, 0) := by decide +kernel
theorem cd_i139_79 : cd_I 139 79 = some (.aload_n 0, 0, 0) := by decide +kernel
theorem cd_i139_80 : cd_I 139 80 = some (.aload_n 0, 0, 0) := by decide +kernel
theorem cd_i139_81 : cd_I 139 81 = some (.getfield 58, 11, 21) := by decide +kernel
theorem cd_i139_84 : cd_I 139 84 = some (.iload 9, 0, 0) := by decide +kernel
theorem cd_i139_86 : cd_I 139 86 = some (.iaload, 0, 0) := by decide +kernel
theorem cd_i139_87 : cd_I 139 87 = some (.aload_n 0, 0, 0) := by decide +kernel
theorem cd_i139_88 : cd_I 139 88 = some (.getfield 42, 11, 14) := by decide +kernel
theorem cd_i139_91 : cd_I 139 91 = some (.iconst 2, 0, 0) := by decide +kernel
theorem cd_i139_92 : cd_I 139 92 = some (.iload_n 1, 0, 0) := by decide +kernel
theorem cd_i139_93 : cd_I 139 93 = some (.imul, 0, 0) := by decide +kernel
theorem cd_i139_94 : cd_I 139 94 = some (.iaload, 0, 0) := by decide +kernel
theorem cd_i139_95 : cd_I 139 95 = some (.invokevirtual 192, 128, 2) := by decide +kernel
theorem cd_i139_98 : cd_I 139 98 = some (.ifCond .eq 7, 105, 0) := by decide +kernel
theorem cd_i139_101 : cd_I 139 101 = some (.iconst 1, 0, 0) := by decide +kernel
theorem cd_i139_102 : cd_I 139 102 = some (.goto 4, 106, 0) := by decide +kernel
theorem cd_i139_105 : cd_I 139 105 = some (.iconst 0, 0, 0) := by decide +kernel
theorem cd_i139_106 : cd_I 139 106 = some (.istore 10, 0, 0) := by decide +kernel
theorem cd_i139_108 : cd_I 139 108 = some (.iconst 0, 0, 0) := by decide +kernel
theorem cd_i139_109 : cd_I 139 109 = some (.istore 11, 0, 0) := by decide +kernel
theorem cd_i139_111 : cd_I 139 111 = some (.iload 11, 0, 0) := by decide +kernel
theorem cd_i139_113 : cd_I 139 113 = some (.iload 7, 0, 0) := by decide +kernel
theorem cd_i139_115 : cd_I 139 115 = some (.if_icmp .ge 104, 219, 0) := by decide +kernel
theorem cd_i139_118 : cd_I 139 118 = some (.iload 10, 0, 0) := by decide +kernel
theorem cd_i139_120 : cd_I 139 120 = some (.ifCond .eq 99, 219, 0) := by decide +kernel
theorem cd_i139_123 : cd_I 139 123 = some (.aload_n 0, 0, 0) := by decide +kernel
theorem cd_i139_124 : cd_I 139 124 = some (.getfield 39, 11, 13) := by decide +kernel
theorem cd_i139_127 : cd_I 139 127 = some (.iload_n 1, 0, 0) := by decide +kernel
theorem cd_i139_128 : cd_I 139 128 = some (.iaload, 0, 0) := by decide +kernel
theorem cd_i139_129 : cd_I 139 129 = some (.iconst 1, 0, 0) := by decide +kernel
theorem cd_i139_130 : cd_I 139 130 = some (.if_icmp .le 8, 138, 0) := by decide +kernel
theorem cd_i139_133 : cd_I 139 133 = some (.iload 11, 0, 0) := by decide +kernel
theorem cd_i139_135 : cd_I 139 135 = some (.goto 4, 139, 0) := by decide +kernel
theorem cd_i139_138 : cd_I 139 138 = some (.iconst (-1), 0, 0) := by decide +kernel
theorem cd_i139_139 : cd_I 139 139 = some (.istore 12, 0, 0) := by decide +kernel
theorem cd_i139_141 : cd_I 139 141 = some (.aload_n 0, 0, 0) := by decide +kernel
theorem cd_i139_142 : cd_I 139 142 = some (.iload 9, 0, 0) := by decide +kernel
theorem cd_i139_144 : cd_I 139 144 = some (.invokevirtual 225, 140, 1) := by decide +kernel
theorem cd_i139_147 : cd_I 139 147 = some (.aload_n 0, 0, 0) := by decide +kernel
theorem cd_i139_148 : cd_I 139 148 = some (.iload 12, 0, 0) := by decide +kernel
theorem cd_i139_150 : cd_I 139 150 = some (.invokevirtual 225, 140, 1) := by decide +kernel
theorem cd_i139_153 : cd_I 139 153 = some (.iadd, 0, 0) := by decide +kernel
theorem cd_i139_154 : cd_I 139 154 = some (.iload 5, 0, 0) := by decide +kernel
theorem cd_i139_156 : cd_I 139 156 = some (.if_icmp .ne 57, 213, 0) := by decide +kernel
theorem cd_i139_159 : cd_I 139 159 = some (.iload 12, 0, 0) := by decide +kernel
theorem cd_i139_161 : cd_I 139 161 = some (.iconst (-1), 0, 0) := by decide +kernel
theorem cd_i139_162 : cd_I 139 162 = some (.if_icmp .eq 30, 192, 0) := by decide +kernel
theorem cd_i139_165 : cd_I 139 165 = some (.aload_n 0, 0, 0) := by decide +kernel
theorem cd_i139_166 : cd_I 139 166 = some (.aload_n 0, 0, 0) := by decide +kernel
theorem cd_i139_167 : cd_I 139 167 = some (.getfield 58, 11, 21) := by decide +kernel
theorem cd_i139_170 : cd_I 139 170 = some (.iload 12, 0, 0) := by decide +kernel
theorem cd_i139_172 : cd_I 139 172 = some (.iaload, 0, 0) := by decide +kernel
theorem cd_i139_173 : cd_I 139 173 = some (.aload_n 0, 0, 0) := by decide +kernel
theorem cd_i139_174 : cd_I 139 174 = some (.getfield 42, 11, 14) := by decide +kernel
theorem cd_i139_177 : cd_I 139 177 = some (.iconst 2, 0, 0) := by decide +kernel
theorem cd_i139_178 : cd_I 139 178 = some (.iload_n 1, 0, 0) := by decide +kernel
theorem cd_i139_179 : cd_I 139 179 = some (.imul, 0, 0) := by decide +kernel
theorem cd_i139_180 : cd_I 139 180 = some (.iconst 1, 0, 0) := by decide +kernel
theorem cd_i139_181 : cd_I 139 181 = some (.iadd, 0, 0) := by decide +kernel
theorem cd_i139_182 : cd_I 139 182 = some (.iaload, 0, 0) := by decide +kernel
theorem cd_i139_183 : cd_I 139 183 = some (.invokevirtual 192, 128, 2) := by decide +kernel
theorem cd_i139_186 : cd_I 139 186 = some (.ifCond .ne 6, 192, 0) := by decide +kernel
theorem cd_i139_189 : cd_I 139 189 = some (.goto 24, 213, 0) := by decide +kernel
theorem cd_i139_192 : cd_I 139 192 = some (.aload_n 0, 0, 0) := by decide +kernel
theorem cd_i139_193 : cd_I 139 193 = some (.iload_n 1, 0, 0) := by decide +kernel
theorem cd_i139_194 : cd_I 139 194 = some (.iload_n 2, 0, 0) := by decide +kernel
theorem cd_i139_195 : cd_I 139 195 = some (.iload 9, 0, 0) := by decide +kernel
theorem cd_i139_197 : cd_I 139 197 = some (.iload 12, 0, 0) := by decide +kernel
theorem cd_i139_199 : cd_I 139 199 = some (.invokevirtual 228, 141, 4) := by decide +kernel
theorem cd_i139_202 : cd_I 139 202 = some (.aload_n 0, 0, 0) := by decide +kernel
theorem cd_i139_203 : cd_I 139 203 = some (.iload_n 3, 0, 0) := by decide +kernel
theorem cd_i139_204 : cd_I 139 204 = some (.aload_n 0, 0, 0) := by decide +kernel
theorem cd_i139_205 : cd_I 139 205 = some (.getfield 36, 11, 12) := by decide +kernel
theorem cd_i139_208 : cd_I 139 208 = some (.iload_n 1, 0, 0) := by decide +kernel
theorem cd_i139_209 : cd_I 139 209 = some (.iaload, 0, 0) := by decide +kernel
theorem cd_i139_210 : cd_I 139 210 = some (.invokevirtual 232, 134, 2) := by decide +kernel
theorem cd_i139_213 : cd_I 139 213 = some (.iinc 11 1, 0, 0) := by decide +kernel
theorem cd_i139_216 : cd_I 139 216 = some (.goto (-105), 111, 0) := by decide +kernel
theorem cd_i139_219 : cd_I 139 219 = some (.iinc 8 1, 0, 0) := by decide +kernel
theorem cd_i139_222 : cd_I 139 222 = some (.goto (-173), 49, 0) := by decide +kernel
theorem cd_i139_225 : cd_I 139 225 = some (.return_, 0, 0) := by decide +kernel
theorem cd_i140_0 : cd_I 140 0 = some (.iload_n 1, 0, 0) := by decide +kernel
theorem cd_i140_1 : cd_I 140 1 = some (.iconst (-1), 0, 0) := by decide +kernel
theorem cd_i140_2 : cd_I 140 2 = some (.if_icmp .ne 7, 9, 0) := by decide +kernel
theorem cd_i140_5 : cd_I 140 5 = some (.iconst 0, 0, 0) := by decide +kernel
theorem cd_i140_6 : cd_I 140 6 = some (.goto 9, 15, 0) := by decide +kernel
theorem cd_i140_9 : cd_I 140 9 = some (.aload_n 0, 0, 0) := by decide +kernel
theorem cd_i140_10 : cd_I 140 10 = some (.getfield 55, 11, 20) := by decide +kernel
theorem cd_i140_13 : cd_I 140 13 = some (.iload_n 1, 0, 0) := by decide +kernel
theorem cd_i140_14 : cd_I 140 14 = some (.iaload, 0, 0) := by decide +kernel
theorem cd_i140_15 : cd_I 140 15 = some (.ireturn, 0, 0) := by decide +kernel
