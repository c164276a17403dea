theorem cd_i72_0 : cd_I 72 0 = some (.aload_n 0, 0, 0) := by decide +kernel
theorem cd_i72_1 : cd_I 72 1 = some (.getfield 15, 8, 1) := by decide +kernel
theorem cd_i72_4 : cd_I 72 4 = some (.aload_n 0, 0, 0) := by decide +kernel
theorem cd_i72_5 : cd_I 72 5 = some (.getfield 9, 8, 0) := by decide +kernel
theorem cd_i72_8 : cd_I 72 8 = some (.arraylength, 0, 0) := by decide +kernel
theorem cd_i72_9 : cd_I 72 9 = some (.if_icmp .ge 23, 32, 0) := by decide +kernel
theorem cd_i72_12 : cd_I 72 12 = some (.aload_n 0, 0, 0) := by decide +kernel
theorem cd_i72_13 : cd_I 72 13 = some (.getfield 9, 8, 0) := by decide +kernel
theorem cd_i72_16 : cd_I 72 16 = some (.aload_n 0, 0, 0) := by decide +kernel
theorem cd_i72_17 : cd_I 72 17 = some (.getfield 15, 8, 1) := by decide +kernel
theorem cd_i72_20 : cd_I 72 20 = some (.iload_n 1, 0, 0) := by decide +kernel
theorem cd_i72_21 : cd_I 72 21 = some (.castore, 0, 0) := by decide +kernel
theorem cd_i72_22 : cd_I 72 22 = some (.aload_n 0, 0, 0) := by decide +kernel
theorem cd_i72_23 : cd_I 72 23 = some (.dup, 0, 0) := by decide +kernel
theorem cd_i72_24 : cd_I 72 24 = some (.getfield 15, 8, 1) := by decide +kernel
theorem cd_i72_27 : cd_I 72 27 = some (.iconst 1, 0, 0) := by decide +kernel
theorem cd_i72_28 : cd_I 72 28 = some (.iadd, 0, 0) := by decide +kernel
theorem cd_i72_29 : cd_I 72 29 = some (.putfield 15, 8, 1) := by decide +kernel
theorem cd_i72_32 : cd_I 72 32 = some (.return_, 0, 0) := by decide +kernel
theorem cd_i73_0 : cd_I 73 0 = some (.aload_n 0, 0, 0) := by decide +kernel
theorem cd_i73_1 : cd_I 73 1 = some (.aload_n 1, 0, 0) := by decide +kernel
theorem cd_i73_2 : cd_I 73 2 = some (.invokevirtual 30, 74, 1) := by decide +kernel
theorem cd_i73_5 : cd_I 73 5 = some (.ifCond .ne 4, 9, 0) := by decide +kernel
theorem cd_i73_8 : cd_I 73 8 = some (.return_, 0, 0) := by decide +kernel
theorem cd_i73_9 : cd_I 73 9 = some (.aload_n 0, 0, 0) := by decide +kernel
theorem cd_i73_10 : cd_I 73 10 = some (.getfield 22, 10, 1) := by decide +kernel
theorem cd_i73_13 : cd_I 73 13 = some (.aload_n 0, 0, 0) := by decide +kernel
theorem cd_i73_14 : cd_I 73 14 = some (.getfield 11, 10, 0) := by decide +kernel
theorem cd_i73_17 : cd_I 73 17 = some (.arraylength, 0, 0) := by decide +kernel
theorem cd_i73_18 : cd_I 73 18 = some (.if_icmp .ge 13, 31, 0) := by decide +kernel
theorem cd_i73_21 : cd_I 73 21 = some (.aload_n 0, 0, 0) := by decide +kernel
theorem cd_i73_22 : cd_I 73 22 = some (.dup, 0, 0) := by decide +kernel
theorem cd_i73_23 : cd_I 73 23 = some (.getfield 22, 10, 1) := by decide +kernel
theorem cd_i73_26 : cd_I 73 26 = some (.iconst 1, 0, 0) := by decide +kernel
theorem cd_i73_27 : cd_I 73 27 = some (.iadd, 0, 0) := by decide +kernel
theorem cd_i73_28 : cd_I 73 28 = some (.putfield 22, 10, 1) := by decide +kernel
theorem cd_i73_31 : cd_I 73 31 = some (.aload_n 0, 0, 0) := by decide +kernel
theorem cd_i73_32 : cd_I 73 32 = some (.getfield 22, 10, 1) := by decide +kernel
theorem cd_i73_35 : cd_I 73 35 = some (.iconst 1, 0, 0) := by decide +kernel
theorem cd_i73_36 : cd_I 73 36 = some (.isub, 0, 0) := by decide +kernel
theorem cd_i73_37 : cd_I 73 37 = some (.istore_n 2, 0, 0) := by decide +kernel
theorem cd_i73_38 : cd_I 73 38 = some (.aload_n 0, 0, 0) := by decide +kernel
theorem cd_i73_39 : cd_I 73 39 = some (.getfield 11, 10, 0) := by decide +kernel
theorem cd_i73_42 : cd_I 73 42 = some (.iload_n 2, 0, 0) := by decide +kernel
theorem cd_i73_43 : cd_I 73 43 = some (.aaload, 0, 0) := by decide +kernel
theorem cd_i73_44 : cd_I 73 44 = some (.astore_n 3, 0, 0) := by decide +kernel
theorem cd_i73_45 : cd_I 73 45 = some (.iload_n 2, 0, 0) := by decide +kernel
theorem cd_i73_46 : cd_I 73 46 = some (.ifCond .le 38, 84, 0) := by decide +kernel
theorem cd_i73_49 : cd_I 73 49 = some (.aload_n 1, 0, 0) := by decide +kernel
theorem cd_i73_50 : cd_I 73 50 = some (.aload_n 0, 0, 0) := by decide +kernel
theorem cd_i73_51 : cd_I 73 51 = some (.getfield 11, 10, 0) := by decide +kernel
theorem cd_i73_54 : cd_I 73 54 = some (.iload_n 2, 0, 0) := by decide +kernel
theorem cd_i73_55 : cd_I 73 55 = some (.iconst 1, 0, 0) := by decide +kernel
theorem cd_i73_56 : cd_I 73 56 = some (.isub, 0, 0) := by decide +kernel
theorem cd_i73_57 : cd_I 73 57 = some (.aaload, 0, 0) := by decide +kernel
theorem cd_i73_58 : cd_I 73 58 = some (.invokevirtual 26, 76, 1) := by decide +kernel
theorem cd_i73_61 : cd_I 73 61 = some (.ifCond .eq 23, 84, 0) := by decide +kernel
theorem cd_i73_64 : cd_I 73 64 = some (.aload_n 0, 0, 0) := by decide +kernel
theorem cd_i73_65 : cd_I 73 65 = some (.getfield 11, 10, 0) := by decide +kernel
theorem cd_i73_68 : cd_I 73 68 = some (.iload_n 2, 0, 0) := by decide +kernel
theorem cd_i73_69 : cd_I 73 69 = some (.aload_n 0, 0, 0) := by decide +kernel
theorem cd_i73_70 : cd_I 73 70 = some (.getfield 11, 10, 0) := by decide +kernel
theorem cd_i73_73 : cd_I 73 73 = some (.iload_n 2, 0, 0) := by decide +kernel
theorem cd_i73_74 : cd_I 73 74 = some (.iconst 1, 0, 0) := by decide +kernel
theorem cd_i73_75 : cd_I 73 75 = some (.isub, 0, 0) := by decide +kernel
theorem cd_i73_76 : cd_I 73 76 = some (.aaload, 0, 0) := by decide +kernel
theorem cd_i73_77 : cd_I 73 77 = some (.aastore, 0, 0) := by decide +kernel
theorem cd_i73_78 : cd_I 73 78 = some (.iinc 2 (-1), 0, 0) := by decide +kernel
theorem cd_i73_81 : cd_I 73 81 = some (.goto (-36), 45, 0) := by decide +kernel
theorem cd_i73_84 : cd_I 73 84 = some (.aload_n 0, 0, 0) := by decide +kernel
theorem cd_i73_85 : cd_I 73 85 = some (.getfield 11, 10, 0) := by decide +kernel
theorem cd_i73_88 : cd_I 73 88 = some (.iload_n 2, 0, 0) := by decide +kernel
theorem cd_i73_89 : cd_I 73 89 = some (.aload_n 3, 0, 0) := by decide +kernel
theorem cd_i73_90 : cd_I 73 90 = some (.aastore, 0, 0) := by decide +kernel
theorem cd_i73_91 : cd_I 73 91 = some (.aload_n 3, 0, 0) := by decide +kernel
theorem cd_i73_92 : cd_I 73 92 = some (.aload_n 1, 0, 0) := by decide +kernel
theorem cd_i73_93 : cd_I 73 93 = some (.invokevirtual 33, 77, 1) := by decide +kernel
theorem cd_i73_96 : cd_I 73 96 = some (.return_, 0, 0) := by decide +kernel
theorem cd_i74_0 : cd_I 74 0 = some (.aload_n 1, 0, 0) := by decide +kernel
theorem cd_i74_1 : cd_I 74 1 = some (.invokevirtual 18, 75, 0) := by decide +kernel
theorem cd_i74_4 : cd_I 74 4 = some (.ifCond .eq 5, 9, 0) := by decide +kernel
theorem cd_i74_7 : cd_I 74 7 = some (.iconst 0, 0, 0) := by decide +kernel
theorem cd_i74_8 : cd_I 74 8 = some (.ireturn, 0, 0) := by decide +kernel
theorem cd_i74_9 : cd_I 74 9 = some (.aload_n 0, 0, 0) := by decide +kernel
theorem cd_i74_10 : cd_I 74 10 = some (.getfield 22, 10, 1) := by decide +kernel
theorem cd_i74_13 : cd_I 74 13 = some (.aload_n 0, 0, 0) := by decide +kernel
theorem cd_i74_14 : cd_I 74 14 = some (.getfield 11, 10, 0) := by decide +kernel
theorem cd_i74_17 : cd_I 74 17 = some (.arraylength, 0, 0) := by decide +kernel
theorem cd_i74_18 : cd_I 74 18 = some (.if_icmp .lt 22, 40, 0) := by decide +kernel
theorem cd_i74_21 : cd_I 74 21 = some (.aload_n 1, 0, 0) := by decide +kernel
theorem cd_i74_22 : cd_I 74 22 = some (.aload_n 0, 0, 0) := by decide +kernel
theorem cd_i74_23 : cd_I 74 23 = some (.getfield 11, 10, 0) := by decide +kernel
theorem cd_i74_26 : cd_I 74 26 = some (.aload_n 0, 0, 0) := by decide +kernel
theorem cd_i74_27 : cd_I 74 27 = some (.getfield 11, 10, 0) := by decide +kernel
theorem cd_i74_30 : cd_I 74 30 = some (.arraylength, 0, 0) := by decide +kernel
theorem cd_i74_31 : cd_I 74 31 = some (.iconst 1, 0, 0) := by decide +kernel
theorem cd_i74_32 : cd_I 74 32 = some (.isub, 0, 0) := by decide +kernel
theorem cd_i74_33 : cd_I 74 33 = some (.aaload, 0, 0) := by decide +kernel
theorem cd_i74_34 : cd_I 74 34 = some (.invokevirtual 26, 76, 1) := by decide +kernel
theorem cd_i74_37 : cd_I 74 37 = some (.ifCond .eq 7, 44, 0) := by decide +kernel
theorem cd_i74_40 : cd_I 74 40 = some (.iconst 1, 0, 0) := by decide +kernel
theorem cd_i74_41 : cd_I 74 41 = some (.goto 4, 45, 0) := by decide +kernel
theorem cd_i74_44 : cd_I 74 44 = some (.iconst 0, 0, 0) := by decide +kernel
theorem cd_i74_45 : cd_I 74 45 = some (.ireturn, 0, 0) := by decide +kernel
theorem cd_i75_0 : cd_I 75 0 = some (.aload_n 0, 0, 0) := by decide +kernel
theorem cd_i75_1 : cd_I 75 1 = some (.getfield 15, 8, 1) := by decide +kernel
theorem cd_i75_4 : cd_I 75 4 = some (.bipush 24, 0, 0) := by decide +kernel
theorem cd_i75_6 : cd_I 75 6 = some (.if_icmp .le 7, 13, 0) := by decide +kernel
theorem cd_i75_9 : cd_I 75 9 = some (.iconst 1, 0, 0) := by decide +kernel
theorem cd_i75_10 : cd_I 75 10 = some (.goto 4, 14, 0) := by decide +kernel
theorem cd_i75_13 : cd_I 75 13 = some (.iconst 0, 0, 0) := by decide +kernel
theorem cd_i75_14 : cd_I 75 14 = some (.ireturn, 0, 0) := by decide +kernel
theorem cd_i76_0 : cd_I 76 0 = some (.iconst 0, 0, 0) := by decide +kernel
theorem cd_i76_1 : cd_I 76 1 = some (.istore_n 2, 0, 0) := by decide +kernel
theorem cd_i76_2 : cd_I 76 2 = some (.iload_n 2, 0, 0) := by decide +kernel
theorem cd_i76_3 : cd_I 76 3 = some (.aload_n 0, 0, 0) := by decide +kernel
theorem cd_i76_4 : cd_I 76 4 = some (.getfield 15, 8, 1) := by decide +kernel
theorem cd_i76_7 : cd_I 76 7 = some (.if_icmp .ge 53, 60, 0) := by decide +kernel
theorem cd_i76_10 : cd_I 76 10 = some (.iload_n 2, 0, 0) := by decide +kernel
theorem cd_i76_11 : cd_I 76 11 = some (.aload_n 1, 0, 0) := by decide +kernel
theorem cd_i76_12 : cd_I 76 12 = some (.getfield 15, 8, 1) := by decide +kernel
theorem cd_i76_15 : cd_I 76 15 = some (.if_icmp .ge 45, 60, 0) := by decide +kernel
theorem cd_i76_18 : cd_I 76 18 = some (.aload_n 0, 0, 0) := by decide +kernel
theorem cd_i76_19 : cd_I 76 19 = some (.getfield 9, 8, 0) := by decide +kernel
theorem cd_i76_22 : cd_I 76 22 = some (.iload_n 2, 0, 0) := by decide +kernel
theorem cd_i76_23 : cd_I 76 23 = some (.caload, 0, 0) := by decide +kernel
theorem cd_i76_24 : cd_I 76 24 = some (.aload_n 1, 0, 0) := by decide +kernel
theorem cd_i76_25 : cd_I 76 25 = some (.getfield 9, 8, 0) := by decide +kernel
theorem cd_i76_28 : cd_I 76 28 = some (.iload_n 2, 0, 0) := by decide +kernel
theorem cd_i76_29 : cd_I 76 29 = some (.caload, 0, 0) := by decide +kernel
theorem cd_i76_30 : cd_I 76 30 = some (.if_icmp .eq 24, 54, 0) := by decide +kernel
theorem cd_i76_33 : cd_I 76 33 = some (.aload_n 0, 0, 0) := by decide +kernel
theorem cd_i76_34 : cd_I 76 34 = some (.getfield 9, 8, 0) := by decide +kernel
theorem cd_i76_37 : cd_I 76 37 = some (.iload_n 2, 0, 0) := by decide +kernel
theorem cd_i76_38 : cd_I 76 38 = some (.caload, 0, 0) := by decide +kernel
theorem cd_i76_39 : cd_I 76 39 = some (.aload_n 1, 0, 0) := by decide +kernel
theorem cd_i76_40 : cd_I 76 40 = some (.getfield 9, 8, 0) := by decide +kernel
theorem cd_i76_43 : cd_I 76 43 = some (.iload_n 2, 0, 0) := by decide +kernel
theorem cd_i76_44 : cd_I 76 44 = some (.caload, 0, 0) := by decide +kernel
theorem cd_i76_45 : cd_I 76 45 = some (.if_icmp .ge 7, 52, 0) := by decide +kernel
theorem cd_i76_48 : cd_I 76 48 = some (.iconst 1, 0, 0) := by decide +kernel
theorem cd_i76_49 : cd_I 76 49 = some (.goto 4, 53, 0) := by decide +kernel
theorem cd_i76_52 : cd_I 76 52 = some (.iconst 0, 0, 0) := by decide +kernel
theorem cd_i76_53 : cd_I 76 53 = some (.ireturn, 0, 0) := by decide +kernel
theorem cd_i76_54 : cd_I 76 54 = some (.iinc 2 1, 0, 0) := by decide +kernel
theorem cd_i76_57 : cd_I 76 57 = some (.goto (-55), 2, 0) := by decide +kernel
theorem cd_i76_60 : cd_I 76 60 = some (.aload_n 0, 0, 0) := by decide +kernel
theorem cd_i76_61 : cd_I 76 61 = some (.getfield 15, 8, 1) := by decide +kernel
theorem cd_i76_64 : cd_I 76 64 = some (.aload_n 1, 0, 0) := by decide +kernel
theorem cd_i76_65 : cd_I 76 65 = some (.getfield 15, 8, 1) := by decide +kernel
theorem cd_i76_68 : cd_I 76 68 = some (.if_icmp .ge 7, 75, 0) := by decide +kernel
theorem cd_i76_71 : cd_I 76 71 = some (.iconst 1, 0, 0) := by decide +kernel
theorem cd_i76_72 : cd_I 76 72 = some (.goto 4, 76, 0) := by decide +kernel
theorem cd_i76_75 : cd_I 76 75 = some (.iconst 0, 0, 0) := by decide +kernel
theorem cd_i76_76 : cd_I 76 76 = some (.ireturn, 0, 0) := by decide +kernel
theorem cd_i77_0 : cd_I 77 0 = some (.aload_n 1, 0, 0) := by decide +kernel
theorem cd_i77_1 : cd_I 77 1 = some (.getfield 9, 8, 0) := by decide +kernel
theorem cd_i77_4 : cd_I 77 4 = some (.iconst 0, 0, 0) := by decide +kernel
theorem cd_i77_5 : cd_I 77 5 = some (.aload_n 0, 0, 0) := by decide +kernel
theorem cd_i77_6 : cd_I 77 6 = some (.getfield 9, 8, 0) := by decide +kernel
theorem cd_i77_9 : cd_I 77 9 = some (.iconst 0, 0, 0) := by decide +kernel
theorem cd_i77_10 : cd_I 77 10 = some (.aload_n 1, 0, 0) := by decide +kernel
theorem cd_i77_11 : cd_I 77 11 = some (.getfield 15, 8, 1) := by decide +kernel
theorem cd_i77_14 : cd_I 77 14 = some (.invokestatic 38, 1004, 5) := by decide +kernel
theorem cd_i77_17 : cd_I 77 17 = some (.aload_n 0, 0, 0) := by decide +kernel
theorem cd_i77_18 : cd_I 77 18 = some (.aload_n 1, 0, 0) := by decide +kernel
theorem cd_i77_19 : cd_I 77 19 = some (.getfield 15, 8, 1) := by decide +kernel
theorem cd_i77_22 : cd_I 77 22 = some (.putfield 15, 8, 1) := by decide +kernel
theorem cd_i77_25 : cd_I 77 25 = some (.aload_n 0, 0, 0) := by decide +kernel
theorem cd_i77_26 : cd_I 77 26 = some (.aload_n 1, 0, 0) := by decide +kernel
theorem cd_i77_27 : cd_I 77 27 = some (.getfield 44, 8, 2) := by decide +kernel
theorem cd_i77_30 : cd_I 77 30 = some (.putfield 44, 8, 2) := by decide +kernel
theorem cd_i77_33 : cd_I 77 33 = some (.aload_n 0, 0, 0) := by decide +kernel
theorem cd_i77_34 : cd_I 77 34 = some (.aload_n 1, 0, 0) := by decide +kernel
theorem cd_i77_35 : cd_I 77 35 = some (.getfield 47, 8, 3) := by decide +kernel
theorem cd_i77_38 : cd_I 77 38 = some (.putfield 47, 8, 3) := by decide +kernel
theorem cd_i77_41 : cd_I 77 41 = some (.return_, 0, 0) := by decide +kernel
theorem cd_i78_0 : cd_I 78 0 = some (.aload_n 0, 0, 0) := by decide +kernel
theorem cd_i78_1 : cd_I 78 1 = some (.iload_n 1, 0, 0) := by decide +kernel
theorem cd_i78_2 : cd_I 78 2 = some (.invokevirtual 41, 70, 1) := by decide +kernel
theorem cd_i78_5 : cd_I 78 5 = some (.iconst 0, 0, 0) := by decide +kernel
theorem cd_i78_6 : cd_I 78 6 = some (.istore_n 2, 0, 0) := by decide +kernel
theorem cd_i78_7 : cd_I 78 7 = some (.iload_n 2, 0, 0) := by decide +kernel
theorem cd_i78_8 : cd_I 78 8 = some (.bipush 10, 0, 0) := by decide +kernel
theorem cd_i78_10 : cd_I 78 10 = some (.if_icmp .ge 17, 27, 0) := by decide +kernel
theorem cd_i78_13 : cd_I 78 13 = some (.aload_n 0, 0, 0) := by decide +kernel
theorem cd_i78_14 : cd_I 78 14 = some (.iload_n 2, 0, 0) := by decide +kernel
theorem cd_i78_15 : cd_I 78 15 = some (.iload_n 1, 0, 0) := by decide +kernel
theorem cd_i78_16 : cd_I 78 16 = some (.iconst 1, 0, 0) := by decide +kernel
theorem cd_i78_17 : cd_I 78 17 = some (.isub, 0, 0) := by decide +kernel
theorem cd_i78_18 : cd_I 78 18 = some (.invokevirtual 71, 79, 2) := by decide +kernel
theorem cd_i78_21 : cd_I 78 21 = some (.iinc 2 1, 0, 0) := by decide +kernel
theorem cd_i78_24 : cd_I 78 24 = some (.goto (-17), 7, 0) := by decide +kernel
theorem cd_i78_27 : cd_I 78 27 = some (.iconst 0, 0, 0) := by decide +kernel
theorem cd_i78_28 : cd_I 78 28 = some (.istore_n 2, 0, 0) := by decide +kernel
theorem cd_i78_29 : cd_I 78 29 = some (.iload_n 2, 0, 0) := by decide +kernel
theorem cd_i78_30 : cd_I 78 30 = some (.iload_n 1, 0, 0) := by decide +kernel
theorem cd_i78_31 : cd_I 78 31 = some (.if_icmp .ge 50, 81, 0) := by decide +kernel
theorem cd_i78_34 : cd_I 78 34 = some (.aload_n 0, 0, 0) := by decide +kernel
theorem cd_i78_35 : cd_I 78 35 = some (.getfield 11, 3, 2) := by decide +kernel
theorem cd_i78_38 : cd_I 78 38 = some (.iload_n 2, 0, 0) := by decide +kernel
theorem cd_i78_39 : cd_I 78 39 = some (.aaload, 0, 0) := by decide +kernel
theorem cd_i78_40 : cd_I 78 40 = some (.astore_n 3, 0, 0) := by decide +kernel
theorem cd_i78_41 : cd_I 78 41 = some (.iconst 0, 0, 0) := by decide +kernel
theorem cd_i78_42 : cd_I 78 42 = some (.istore 4, 0, 0) := by decide +kernel
theorem cd_i78_44 : cd_I 78 44 = some (.iload 4, 0, 0) := by decide +kernel
theorem cd_i78_46 : cd_I 78 46 = some (.aload_n 3, 0, 0) := by decide +kernel
theorem cd_i78_47 : cd_I 78 47 = some (.getfield 75, 10, 1) := by decide +kernel
theorem cd_i78_50 : cd_I 78 50 = some (.if_icmp .ge 25, 75, 0) := by decide +kernel
theorem cd_i78_53 : cd_I 78 53 = some (.aload_n 0, 0, 0) := by decide +kernel
theorem cd_i78_54 : cd_I 78 54 = some (.aload_n 3, 0, 0) := by decide +kernel
theorem cd_i78_55 : cd_I 78 55 = some (.getfield 76, 10, 0) := by decide +kernel
theorem cd_i78_58 : cd_I 78 58 = some (.iload 4, 0, 0) := by decide +kernel
theorem cd_i78_60 : cd_I 78 60 = some (.aaload, 0, 0) := by decide +kernel
theorem cd_i78_61 : cd_I 78 61 = some (.iload_n 1, 0, 0) := by decide +kernel
theorem cd_i78_62 : cd_I 78 62 = some (.iconst 1, 0, 0) := by decide +kernel
theorem cd_i78_63 : cd_I 78 63 = some (.isub, 0, 0) := by decide +kernel
theorem cd_i78_64 : cd_I 78 64 = some (.iload_n 2, 0, 0) := by decide +kernel
theorem cd_i78_65 : cd_I 78 65 = some (.isub, 0, 0) := by decide +kernel
theorem cd_i78_66 : cd_I 78 66 = some (.invokevirtual 79, 85, 2) := by decide +kernel
theorem cd_i78_69 : cd_I 78 69 = some (.iinc 4 1, 0, 0) := by decide +kernel
theorem cd_i78_72 : cd_I 78 72 = some (.goto (-28), 44, 0) := by decide +kernel
theorem cd_i78_75 : cd_I 78 75 = some (.iinc 2 1, 0, 0) := by decide +kernel
theorem cd_i78_78 : cd_I 78 78 = some (.goto (-49), 29, 0) := by decide +kernel
theorem cd_i78_81 : cd_I 78 81 = some (.return_, 0, 0) := by decide +kernel
theorem cd_i79_0 : cd_I 79 0 = some (.aload_n 0, 0, 0) := by decide +kernel
theorem cd_i79_1 : cd_I 79 1 = some (.getfield 28, 3, 0) := by decide +kernel
theorem cd_i79_4 : cd_I 79 4 = some (.iload_n 1, 0, 0) := by decide +kernel
theorem cd_i79_5 : cd_I 79 5 = some (.invokevirtual 95, 22, 1) := by decide +kernel
theorem cd_i79_8 : cd_I 79 8 = some (.astore_n 3, 0, 0) := by decide +kernel
theorem cd_i79_9 : cd_I 79 9 = some (.aload_n 3, 0, 0) := by decide +kernel
theorem cd_i79_10 : cd_I 79 10 = some (.ifnonnull 4, 14, 0) := by decide +kernel
theorem cd_i79_13 : cd_I 79 13 = some (.return_, 0, 0) := by decide +kernel
theorem cd_i79_14 : cd_I 79 14 = some (.iconst 0, 0, 0) := by decide +kernel
theorem cd_i79_15 : cd_I 79 15 = some (.istore 4, 0, 0) := by decide +kernel
theorem cd_i79_17 : cd_I 79 17 = some (.iload 4, 0, 0) := by decide +kernel
theorem cd_i79_19 : cd_I 79 19 = some (.aload_n 3, 0, 0) := by decide +kernel
theorem cd_i79_20 : cd_I 79 20 = some (.getfield 99, 4, 3) := by decide +kernel
theorem cd_i79_23 : cd_I 79 23 = some (.if_icmp .ge 131, 154, 0) := by decide +kernel
theorem cd_i79_26 : cd_I 79 26 = some (.aload_n 3, 0, 0) := by decide +kernel
theorem cd_i79_27 : cd_I 79 27 = some (.getfield 102, 4, 2) := by decide +kernel
theorem cd_i79_30 : cd_I 79 30 = some (.iload 4, 0, 0) := by decide +kernel
theorem cd_i79_32 : cd_I 79 32 = some (.aaload, 0, 0) := by decide +kernel
theorem cd_i79_33 : cd_I 79 33 = some (.astore 5, 0, 0) := by decide +kernel
theorem cd_i79_35 : cd_I 79 35 = some (.aload 5, 0, 0) := by decide +kernel
theorem cd_i79_37 : cd_I 79 37 = some (.getfield 105, 7, 0) := by decide +kernel
theorem cd_i79_40 : cd_I 79 40 = some (.getstatic 111, 2, 0) := by decide +kernel
theorem cd_i79_43 : cd_I 79 43 = some (.if_acmp .ne 7, 50, 0) := by decide +kernel
theorem cd_i79_46 : cd_I 79 46 = some (.iconst 1, 0, 0) := by decide +kernel
theorem cd_i79_47 : cd_I 79 47 = some (.goto 4, 51, 0) := by decide +kernel
theorem cd_i79_50 : cd_I 79 50 = some (.iconst 0, 0, 0) := by decide +kernel
theorem cd_i79_51 : cd_I 79 51 = some (.istore 6, 0, 0) := by decide +kernel
theorem cd_i79_53 : cd_I 79 53 = some (.iload 6, 0, 0) := by decide +kernel
theorem cd_i79_55 : cd_I 79 55 = some (.ifCond .ne 11, 66, 0) := by decide +kernel
theorem cd_i79_58 : cd_I 79 58 = some (.aload 5, 0, 0) := by decide +kernel
theorem cd_i79_60 : cd_I 79 60 = some (.getfield 116, 7, 2) := by decide +kernel
theorem cd_i79_63 : cd_I 79 63 = some (.ifCond .eq 85, 148, 0) := by decide +kernel
theorem cd_i79_66 : cd_I 79 66 = some (.aload_n 0, 0, 0) := by decide +kernel
theorem cd_i79_67 : cd_I 79 67 = some (.getfield 28, 3, 0) := by decide +kernel
theorem cd_i79_70 : cd_I 79 70 = some (.aload_n 3, 0, 0) := by decide +kernel
theorem cd_i79_71 : cd_I 79 71 = some (.aload 5, 0, 0) := by decide +kernel
theorem cd_i79_73 : cd_I 79 73 = some (.invokevirtual 120, 30, 2) := by decide +kernel
theorem cd_i79_76 : cd_I 79 76 = some (.ifCond .eq 72, 148, 0) := by decide +kernel
theorem cd_i79_79 : cd_I 79 79 = some (.aload_n 0, 0, 0) := by decide +kernel
theorem cd_i79_80 : cd_I 79 80 = some (.getfield 24, 3, 4) := by decide +kernel
theorem cd_i79_83 : cd_I 79 83 = some (.iconst 0, 0, 0) := by decide +kernel
theorem cd_i79_84 : cd_I 79 84 = some (.putfield 51, 8, 1) := by decide +kernel
theorem cd_i79_87 : cd_I 79 87 = some (.iload 6, 0, 0) := by decide +kernel
theorem cd_i79_89 : cd_I 79 89 = some (.ifCond .eq 23, 112, 0) := by decide +kernel
theorem cd_i79_92 : cd_I 79 92 = some (.aload_n 0, 0, 0) := by decide +kernel
theorem cd_i79_93 : cd_I 79 93 = some (.getfield 24, 3, 4) := by decide +kernel
theorem cd_i79_96 : cd_I 79 96 = some (.ldc 124, 13, 0) := by decide +kernel
theorem cd_i79_98 : cd_I 79 98 = some (.invokevirtual 126, 80, 1) := by decide +kernel
theorem cd_i79_101 : cd_I 79 101 = some (.aload_n 0, 0, 0) := by decide +kernel
theorem cd_i79_102 : cd_I 79 102 = some (.getfield 24, 3, 4) := by decide +kernel
theorem cd_i79_105 : cd_I 79 105 = some (.iload_n 1, 0, 0) := by decide +kernel
theorem cd_i79_106 : cd_I 79 106 = some (.invokevirtual 130, 81, 1) := by decide +kernel
theorem cd_i79_109 : cd_I 79 109 = some (.goto 32, 141, 0) := by decide +kernel
theorem cd_i79_112 : cd_I 79 112 = some (.aload_n 0, 0, 0) := by decide +kernel
theorem cd_i79_113 : cd_I 79 113 = some (.getfield 24, 3, 4) := by decide +kernel
theorem cd_i79_116 : cd_I 79 116 = some (.iload_n 1, 0, 0) := by decide +kernel
theorem cd_i79_117 : cd_I 79 117 = some (.invokevirtual 130, 81, 1) := by decide +kernel
theorem cd_i79_120 : cd_I 79 120 = some (.aload_n 0, 0, 0) := by decide +kernel
theorem cd_i79_121 : cd_I 79 121 = some (.getfield 24, 3, 4) := by decide +kernel
theorem cd_i79_124 : cd_I 79 124 = some (.bipush 46, 0, 0) := by decide +kernel
theorem cd_i79_126 : cd_I 79 126 = some (.invokevirtual 133, 72, 1) := by decide +kernel
theorem cd_i79_129 : cd_I 79 129 = some (.aload_n 0, 0, 0) := by decide +kernel
theorem cd_i79_130 : cd_I 79 130 = some (.getfield 24, 3, 4) := by decide +kernel
theorem cd_i79_133 : cd_I 79 133 = some (.aload 5, 0, 0) := by decide +kernel
theorem cd_i79_135 : cd_I 79 135 = some (.getfield 137, 7, 3) := by decide +kernel
theorem cd_i79_138 : cd_I 79 138 = some (.invokevirtual 58, 71, 1) := by decide +kernel
theorem cd_i79_141 : cd_I 79 141 = some (.aload_n 0, 0, 0) := by decide +kernel
theorem cd_i79_142 : cd_I 79 142 = some (.aload 5, 0, 0) := by decide +kernel
theorem cd_i79_144 : cd_I 79 144 = some (.iload_n 2, 0, 0) := by decide +kernel
theorem cd_i79_145 : cd_I 79 145 = some (.invokevirtual 140, 82, 2) := by decide +kernel
theorem cd_i79_148 : cd_I 79 148 = some (.iinc 4 1, 0, 0) := by decide +kernel
theorem cd_i79_151 : cd_I 79 151 = some (.goto (-134), 17, 0) := by decide +kernel
theorem cd_i79_154 : cd_I 79 154 = some (.return_, 0, 0) := by decide +kernel
theorem cd_i80_0 : cd_I 80 0 = some (.iconst 0, 0, 0) := by decide +kernel
theorem cd_i80_1 : cd_I 80 1 = some (.istore_n 2, 0, 0) := by decide +kernel
theorem cd_i80_2 : cd_I 80 2 = some (.iload_n 2, 0, 0) := by decide +kernel
theorem cd_i80_3 : cd_I 80 3 = some (.aload_n 1, 0, 0) := by decide +kernel
theorem cd_i80_4 : cd_I 80 4 = some (.invokevirtual 19, 40, 0) := by decide +kernel
theorem cd_i80_7 : cd_I 80 7 = some (.if_icmp .ge 18, 25, 0) := by decide +kernel
theorem cd_i80_10 : cd_I 80 10 = some (.aload_n 0, 0, 0) := by decide +kernel
theorem cd_i80_11 : cd_I 80 11 = some (.aload_n 1, 0, 0) := by decide +kernel
theorem cd_i80_12 : cd_I 80 12 = some (.iload_n 2, 0, 0) := by decide +kernel
theorem cd_i80_13 : cd_I 80 13 = some (.invokevirtual 24, 42, 1) := by decide +kernel
theorem cd_i80_16 : cd_I 80 16 = some (.invokevirtual 28, 72, 1) := by decide +kernel
theorem cd_i80_19 : cd_I 80 19 = some (.iinc 2 1, 0, 0) := by decide +kernel
theorem cd_i80_22 : cd_I 80 22 = some (.goto (-20), 2, 0) := by decide +kernel
theorem cd_i80_25 : cd_I 80 25 = some (.return_, 0, 0) := by decide +kernel
theorem cd_i81_0 : cd_I 81 0 = some (.aload_n 0, 0, 0) := by decide +kernel
theorem cd_i81_1 : cd_I 81 1 = some (.bipush 65, 0, 0) := by decide +kernel
theorem cd_i81_3 : cd_I 81 3 = some (.iload_n 1, 0, 0) := by decide +kernel
theorem cd_i81_4 : cd_I 81 4 = some (.iadd, 0, 0) := by decide +kernel
theorem cd_i81_5 : cd_I 81 5 = some (.i2c, 0, 0) := by decide +kernel
theorem cd_i81_6 : cd_I 81 6 = some (.invokevirtual 28, 72, 1) := by decide +kernel
theorem cd_i81_9 : cd_I 81 9 = some (.return_, 0, 0) := by decide +kernel
theorem cd_i82_0 : cd_I 82 0 = some (.aload_n 0, 0, 0) := by decide +kernel
theorem cd_i82_1 : cd_I 82 1 = some (.getfield 24, 3, 4) := by decide +kernel
theorem cd_i82_4 : cd_I 82 4 = some (.aload_n 1, 0, 0) := by decide +kernel
theorem cd_i82_5 : cd_I 82 5 = some (.getfield 159, 7, 6) := by decide +kernel
theorem cd_i82_8 : cd_I 82 8 = some (.putfield 64, 8, 2) := by decide +kernel
theorem cd_i82_11 : cd_I 82 11 = some (.aload_n 1, 0, 0) := by decide +kernel
theorem cd_i82_12 : cd_I 82 12 = some (.getfield 105, 7, 0) := by decide +kernel
theorem cd_i82_15 : cd_I 82 15 = some (.getstatic 160, 0, 0) := by decide +kernel
theorem cd_i82_18 : cd_I 82 18 = some (.if_acmp .eq 22, 40, 0) := by decide +kernel
theorem cd_i82_21 : cd_I 82 21 = some (.aload_n 0, 0, 0) := by decide +kernel
theorem cd_i82_22 : cd_I 82 22 = some (.getfield 24, 3, 4) := by decide +kernel
theorem cd_i82_25 : cd_I 82 25 = some (.bipush 40, 0, 0) := by decide +kernel
theorem cd_i82_27 : cd_I 82 27 = some (.invokevirtual 133, 72, 1) := by decide +kernel
theorem cd_i82_30 : cd_I 82 30 = some (.aload_n 0, 0, 0) := by decide +kernel
theorem cd_i82_31 : cd_I 82 31 = some (.aload_n 1, 0, 0) := by decide +kernel
theorem cd_i82_32 : cd_I 82 32 = some (.iconst 0, 0, 0) := by decide +kernel
theorem cd_i82_33 : cd_I 82 33 = some (.iload_n 2, 0, 0) := by decide +kernel
theorem cd_i82_34 : cd_I 82 34 = some (.invokevirtual 163, 83, 3) := by decide +kernel
theorem cd_i82_37 : cd_I 82 37 = some (.goto 18, 55, 0) := by decide +kernel
theorem cd_i82_40 : cd_I 82 40 = some (.iload_n 2, 0, 0) := by decide +kernel
theorem cd_i82_41 : cd_I 82 41 = some (.ifCond .ne 14, 55, 0) := by decide +kernel
theorem cd_i82_44 : cd_I 82 44 = some (.aload_n 0, 0, 0) := by decide +kernel
theorem cd_i82_45 : cd_I 82 45 = some (.getfield 37, 3, 5) := by decide +kernel
theorem cd_i82_48 : cd_I 82 48 = some (.aload_n 0, 0, 0) := by decide +kernel
theorem cd_i82_49 : cd_I 82 49 = some (.getfield 24, 3, 4) := by decide +kernel
theorem cd_i82_52 : cd_I 82 52 = some (.invokevirtual 67, 73, 1) := by decide +kernel
theorem cd_i82_55 : cd_I 82 55 = some (.return_, 0, 0) := by decide +kernel
theorem cd_i83_0 : cd_I 83 0 = some (.aload_n 0, 0, 0) := by decide +kernel
theorem cd_i83_1 : cd_I 83 1 = some (.getfield 37, 3, 5) := by decide +kernel
theorem cd_i83_4 : cd_I 83 4 = some (.aload_n 0, 0, 0) := by decide +kernel
theorem cd_i83_5 : cd_I 83 5 = some (.getfield 24, 3, 4) := by decide +kernel
theorem cd_i83_8 : cd_I 83 8 = some (.invokevirtual 147, 74, 1) := by decide +kernel
theorem cd_i83_11 : cd_I 83 11 = some (.ifCond .ne 4, 15, 0) := by decide +kernel
theorem cd_i83_14 : cd_I 83 14 = some (.return_, 0, 0) := by decide +kernel
theorem cd_i83_15 : cd_I 83 15 = some (.iload_n 2, 0, 0) := by decide +kernel
theorem cd_i83_16 : cd_I 83 16 = some (.aload_n 1, 0, 0) := by decide +kernel
theorem cd_i83_17 : cd_I 83 17 = some (.getfield 167, 7, 5) := by decide +kernel
theorem cd_i83_20 : cd_I 83 20 = some (.if_icmp .lt 28, 48, 0) := by decide +kernel
theorem cd_i83_23 : cd_I 83 23 = some (.iload_n 3, 0, 0) := by decide +kernel
theorem cd_i83_24 : cd_I 83 24 = some (.ifCond .ne 23, 47, 0) := by decide +kernel
theorem cd_i83_27 : cd_I 83 27 = some (.aload_n 0, 0, 0) := by decide +kernel
theorem cd_i83_28 : cd_I 83 28 = some (.getfield 24, 3, 4) := by decide +kernel
theorem cd_i83_31 : cd_I 83 31 = some (.bipush 41, 0, 0) := by decide +kernel
theorem cd_i83_33 : cd_I 83 33 = some (.invokevirtual 133, 72, 1) := by decide +kernel
theorem cd_i83_36 : cd_I 83 36 = some (.aload_n 0, 0, 0) := by decide +kernel
theorem cd_i83_37 : cd_I 83 37 = some (.getfield 37, 3, 5) := by decide +kernel
theorem cd_i83_40 : cd_I 83 40 = some (.aload_n 0, 0, 0) := by decide +kernel
theorem cd_i83_41 : cd_I 83 41 = some (.getfield 24, 3, 4) := by decide +kernel
theorem cd_i83_44 : cd_I 83 44 = some (.invokevirtual 67, 73, 1) := by decide +kernel
theorem cd_i83_47 : cd_I 83 47 = some (.return_, 0, 0) := by decide +kernel
theorem cd_i83_48 : cd_I 83 48 = some (.iload_n 2, 0, 0) := by decide +kernel
theorem cd_i83_49 : cd_I 83 49 = some (.ifCond .le 12, 61, 0) := by decide +kernel
theorem cd_i83_52 : cd_I 83 52 = some (.aload_n 0, 0, 0) := by decide +kernel
theorem cd_i83_53 : cd_I 83 53 = some (.getfield 24, 3, 4) := by decide +kernel
theorem cd_i83_56 : cd_I 83 56 = some (.bipush 44, 0, 0) := by decide +kernel
theorem cd_i83_58 : cd_I 83 58 = some (.invokevirtual 133, 72, 1) := by decide +kernel
theorem cd_i83_61 : cd_I 83 61 = some (.aload_n 0, 0, 0) := by decide +kernel
theorem cd_i83_62 : cd_I 83 62 = some (.getfield 24, 3, 4) := by decide +kernel
theorem cd_i83_65 : cd_I 83 65 = some (.getfield 51, 8, 1) := by decide +kernel
theorem cd_i83_68 : cd_I 83 68 = some (.istore 4, 0, 0) := by decide +kernel
theorem cd_i83_70 : cd_I 83 70 = some (.bipush 24, 0, 0) := by decide +kernel
theorem cd_i83_72 : cd_I 83 72 = some (.iload 4, 0, 0) := by decide +kernel
theorem cd_i83_74 : cd_I 83 74 = some (.isub, 0, 0) := by decide +kernel
theorem cd_i83_75 : cd_I 83 75 = some (.iconst 2, 0, 0) := by decide +kernel
theorem cd_i83_76 : cd_I 83 76 = some (.aload_n 1, 0, 0) := by decide +kernel
theorem cd_i83_77 : cd_I 83 77 = some (.getfield 167, 7, 5) := by decide +kernel
theorem cd_i83_80 : cd_I 83 80 = some (.iload_n 2, 0, 0) := by decide +kernel
theorem cd_i83_81 : cd_I 83 81 = some (.isub, 0, 0) := by decide +kernel
theorem cd_i83_82 : cd_I 83 82 = some (.iconst 1, 0, 0) := by decide +kernel
theorem cd_i83_83 : cd_I 83 83 = some (.isub, 0, 0) := by decide +kernel
theorem cd_i83_84 : cd_I 83 84 = some (.imul, 0, 0) := by decide +kernel
theorem cd_i83_85 : cd_I 83 85 = some (.isub, 0, 0) := by decide +kernel
theorem cd_i83_86 : cd_I 83 86 = some (.iconst 1, 0, 0) := by decide +kernel
theorem cd_i83_87 : cd_I 83 87 = some (.isub, 0, 0) := by decide +kernel
theorem cd_i83_88 : cd_I 83 88 = some (.istore 5, 0, 0) := by decide +kernel
theorem cd_i83_90 : cd_I 83 90 = some (.iload_n 2, 0, 0) := by decide +kernel
theorem cd_i83_91 : cd_I 83 91 = some (.iconst 1, 0, 0) := by decide +kernel
theorem cd_i83_92 : cd_I 83 92 = some (.iadd, 0, 0) := by decide +kernel
theorem cd_i83_93 : cd_I 83 93 = some (.aload_n 1, 0, 0) := by decide +kernel
theorem cd_i83_94 : cd_I 83 94 = some (.getfield 167, 7, 5) := by decide +kernel
theorem cd_i83_97 : cd_I 83 97 = some (.if_icmp .ne 7, 104, 0) := by decide +kernel
theorem cd_i83_100 : cd_I 83 100 = some (.iconst 1, 0, 0) := by decide +kernel
theorem cd_i83_101 : cd_I 83 101 = some (.goto 4, 105, 0) := by decide +kernel
theorem cd_i83_104 : cd_I 83 104 = some (.iconst 0, 0, 0) := by decide +kernel
theorem cd_i83_105 : cd_I 83 105 = some (.istore 6, 0, 0) := by decide +kernel
theorem cd_i83_107 : cd_I 83 107 = some (.iload 6, 0, 0) := by decide +kernel
theorem cd_i83_109 : cd_I 83 109 = some (.ifCond .eq 7, 116, 0) := by decide +kernel
theorem cd_i83_112 : cd_I 83 112 = some (.iload_n 3, 0, 0) := by decide +kernel
theorem cd_i83_113 : cd_I 83 113 = some (.goto 4, 117, 0) := by decide +kernel
theorem cd_i83_116 : cd_I 83 116 = some (.iconst 0, 0, 0) := by decide +kernel
theorem cd_i83_117 : cd_I 83 117 = some (.istore 7, 0, 0) := by decide +kernel
theorem cd_i83_119 : cd_I 83 119 = some (.iload 7, 0, 0) := by decide +kernel
theorem cd_i83_121 : cd_I 83 121 = some (.iload_n 3, 0, 0) := by decide +kernel
theorem cd_i83_122 : cd_I 83 122 = some (.if_icmp .gt 108, 230, 0) := by decide +kernel
theorem cd_i83_125 : cd_I 83 125 = some (.aload_n 0, 0, 0) := by decide +kernel
theorem cd_i83_126 : cd_I 83 126 = some (.getfield 11, 3, 2) := by decide +kernel
theorem cd_i83_129 : cd_I 83 129 = some (.iload 7, 0, 0) := by decide +kernel
theorem cd_i83_131 : cd_I 83 131 = some (.aaload, 0, 0) := by decide +kernel
theorem cd_i83_132 : cd_I 83 132 = some (.astore 8, 0, 0) := by decide +kernel
theorem cd_i83_134 : cd_I 83 134 = some (.iconst 0, 0, 0) := by decide +kernel
theorem cd_i83_135 : cd_I 83 135 = some (.istore 9, 0, 0) := by decide +kernel
theorem cd_i83_137 : cd_I 83 137 = some (.iload 9, 0, 0) := by decide +kernel
theorem cd_i83_139 : cd_I 83 139 = some (.aload 8, 0, 0) := by decide +kernel
theorem cd_i83_141 : cd_I 83 141 = some (.getfield 75, 10, 1) := by decide +kernel
theorem cd_i83_144 : cd_I 83 144 = some (.if_icmp .ge 80, 224, 0) := by decide +kernel
theorem cd_i83_147 : cd_I 83 147 = some (.aload 8, 0, 0) := by decide +kernel
theorem cd_i83_149 : cd_I 83 149 = some (.getfield 76, 10, 0) := by decide +kernel
theorem cd_i83_152 : cd_I 83 152 = some (.iload 9, 0, 0) := by decide +kernel
theorem cd_i83_154 : cd_I 83 154 = some (.aaload, 0, 0) := by decide +kernel
theorem cd_i83_155 : cd_I 83 155 = some (.astore 10, 0, 0) := by decide +kernel
theorem cd_i83_157 : cd_I 83 157 = some (.aload 10, 0, 0) := by decide +kernel
theorem cd_i83_159 : cd_I 83 159 = some (.getfield 51, 8, 1) := by decide +kernel
theorem cd_i83_162 : cd_I 83 162 = some (.iload 5, 0, 0) := by decide +kernel
theorem cd_i83_164 : cd_I 83 164 = some (.if_icmp .gt 54, 218, 0) := by decide +kernel
theorem cd_i83_167 : cd_I 83 167 = some (.aload_n 0, 0, 0) := by decide +kernel
theorem cd_i83_168 : cd_I 83 168 = some (.getfield 28, 3, 0) := by decide +kernel
theorem cd_i83_171 : cd_I 83 171 = some (.aload 10, 0, 0) := by decide +kernel
theorem cd_i83_173 : cd_I 83 173 = some (.getfield 64, 8, 2) := by decide +kernel
theorem cd_i83_176 : cd_I 83 176 = some (.aload_n 1, 0, 0) := by decide +kernel
theorem cd_i83_177 : cd_I 83 177 = some (.getfield 168, 7, 4) := by decide +kernel
theorem cd_i83_180 : cd_I 83 180 = some (.iload_n 2, 0, 0) := by decide +kernel
theorem cd_i83_181 : cd_I 83 181 = some (.iaload, 0, 0) := by decide +kernel
theorem cd_i83_182 : cd_I 83 182 = some (.invokevirtual 86, 16, 2) := by decide +kernel
theorem cd_i83_185 : cd_I 83 185 = some (.ifCond .eq 33, 218, 0) := by decide +kernel
theorem cd_i83_188 : cd_I 83 188 = some (.aload_n 0, 0, 0) := by decide +kernel
theorem cd_i83_189 : cd_I 83 189 = some (.getfield 24, 3, 4) := by decide +kernel
theorem cd_i83_192 : cd_I 83 192 = some (.iload 4, 0, 0) := by decide +kernel
theorem cd_i83_194 : cd_I 83 194 = some (.putfield 51, 8, 1) := by decide +kernel
theorem cd_i83_197 : cd_I 83 197 = some (.aload_n 0, 0, 0) := by decide +kernel
theorem cd_i83_198 : cd_I 83 198 = some (.getfield 24, 3, 4) := by decide +kernel
theorem cd_i83_201 : cd_I 83 201 = some (.aload 10, 0, 0) := by decide +kernel
theorem cd_i83_203 : cd_I 83 203 = some (.invokevirtual 144, 84, 1) := by decide +kernel
theorem cd_i83_206 : cd_I 83 206 = some (.aload_n 0, 0, 0) := by decide +kernel
theorem cd_i83_207 : cd_I 83 207 = some (.aload_n 1, 0, 0) := by decide +kernel
theorem cd_i83_208 : cd_I 83 208 = some (.iload_n 2, 0, 0) := by decide +kernel
theorem cd_i83_209 : cd_I 83 209 = some (.iconst 1, 0, 0) := by decide +kernel
theorem cd_i83_210 : cd_I 83 210 = some (.iadd, 0, 0) := by decide +kernel
theorem cd_i83_211 : cd_I 83 211 = some (.iload_n 3, 0, 0) := by decide +kernel
theorem cd_i83_212 : cd_I 83 212 = some (.iload 7, 0, 0) := by decide +kernel
theorem cd_i83_214 : cd_I 83 214 = some (.isub, 0, 0) := by decide +kernel
theorem cd_i83_215 : cd_I 83 215 = some (.invokevirtual 163, 83, 3) := by decide +kernel
theorem cd_i83_218 : cd_I 83 218 = some (.iinc 9 1, 0, 0) := by decide +kernel
theorem cd_i83_221 : cd_I 83 221 = some (.goto (-84), 137, 0) := by decide +kernel
theorem cd_i83_224 : cd_I 83 224 = some (.iinc 7 1, 0, 0) := by decide +kernel
theorem cd_i83_227 : cd_I 83 227 = some (.goto (-108), 119, 0) := by decide +kernel
theorem cd_i83_230 : cd_I 83 230 = some (.return_, 0, 0) := by decide +kernel
theorem cd_i84_0 : cd_I 84 0 = some (.aload_n 1, 0, 0) := by decide +kernel
theorem cd_i84_1 : cd_I 84 1 = some (.getfield 15, 8, 1) := by decide +kernel
theorem cd_i84_4 : cd_I 84 4 = some (.aload_n 0, 0, 0) := by decide +kernel
theorem cd_i84_5 : cd_I 84 5 = some (.getfield 9, 8, 0) := by decide +kernel
theorem cd_i84_8 : cd_I 84 8 = some (.arraylength, 0, 0) := by decide +kernel
theorem cd_i84_9 : cd_I 84 9 = some (.aload_n 0, 0, 0) := by decide +kernel
theorem cd_i84_10 : cd_I 84 10 = some (.getfield 15, 8, 1) := by decide +kernel
theorem cd_i84_13 : cd_I 84 13 = some (.isub, 0, 0) := by decide +kernel
theorem cd_i84_14 : cd_I 84 14 = some (.invokestatic 32, 1003, 2) := by decide +kernel
theorem cd_i84_17 : cd_I 84 17 = some (.istore_n 2, 0, 0) := by decide +kernel
theorem cd_i84_18 : cd_I 84 18 = some (.aload_n 1, 0, 0) := by decide +kernel
theorem cd_i84_19 : cd_I 84 19 = some (.getfield 9, 8, 0) := by decide +kernel
theorem cd_i84_22 : cd_I 84 22 = some (.iconst 0, 0, 0) := by decide +kernel
theorem cd_i84_23 : cd_I 84 23 = some (.aload_n 0, 0, 0) := by decide +kernel
theorem cd_i84_24 : cd_I 84 24 = some (.getfield 9, 8, 0) := by decide +kernel
theorem cd_i84_27 : cd_I 84 27 = some (.aload_n 0, 0, 0) := by decide +kernel
theorem cd_i84_28 : cd_I 84 28 = some (.getfield 15, 8, 1) := by decide +kernel
theorem cd_i84_31 : cd_I 84 31 = some (.iload_n 2, 0, 0) := by decide +kernel
theorem cd_i84_32 : cd_I 84 32 = some (.invokestatic 38, 1004, 5) := by decide +kernel
theorem cd_i84_35 : cd_I 84 35 = some (.aload_n 0, 0, 0) := by decide +kernel
theorem cd_i84_36 : cd_I 84 36 = some (.dup, 0, 0) := by decide +kernel
theorem cd_i84_37 : cd_I 84 37 = some (.getfield 15, 8, 1) := by decide +kernel
theorem cd_i84_40 : cd_I 84 40 = some (.iload_n 2, 0, 0) := by decide +kernel
theorem cd_i84_41 : cd_I 84 41 = some (.iadd, 0, 0) := by decide +kernel
theorem cd_i84_42 : cd_I 84 42 = some (.putfield 15, 8, 1) := by decide +kernel
theorem cd_i84_45 : cd_I 84 45 = some (.return_, 0, 0) := by decide +kernel
theorem cd_i85_0 : cd_I 85 0 = some (.aload_n 0, 0, 0) := by decide +kernel
theorem cd_i85_1 : cd_I 85 1 = some (.getfield 24, 3, 4) := by decide +kernel
theorem cd_i85_4 : cd_I 85 4 = some (.iconst 0, 0, 0) := by decide +kernel
theorem cd_i85_5 : cd_I 85 5 = some (.putfield 51, 8, 1) := by decide +kernel
theorem cd_i85_8 : cd_I 85 8 = some (.aload_n 0, 0, 0) := by decide +kernel
theorem cd_i85_9 : cd_I 85 9 = some (.getfield 24, 3, 4) := by decide +kernel
theorem cd_i85_12 : cd_I 85 12 = some (.aload_n 1, 0, 0) := by decide +kernel
theorem cd_i85_13 : cd_I 85 13 = some (.invokevirtual 144, 84, 1) := by decide +kernel
theorem cd_i85_16 : cd_I 85 16 = some (.aload_n 0, 0, 0) := by decide +kernel
theorem cd_i85_17 : cd_I 85 17 = some (.getfield 24, 3, 4) := by decide +kernel
theorem cd_i85_20 : cd_I 85 20 = some (.bipush 46, 0, 0) := by decide +kernel
theorem cd_i85_22 : cd_I 85 22 = some (.invokevirtual 133, 72, 1) := by decide +kernel
theorem cd_i85_25 : cd_I 85 25 = some (.aload_n 0, 0, 0) := by decide +kernel
theorem cd_i85_26 : cd_I 85 26 = some (.getfield 37, 3, 5) := by decide +kernel
theorem cd_i85_29 : cd_I 85 29 = some (.aload_n 0, 0, 0) := by decide +kernel
theorem cd_i85_30 : cd_I 85 30 = some (.getfield 24, 3, 4) := by decide +kernel
theorem cd_i85_33 : cd_I 85 33 = some (.invokevirtual 147, 74, 1) := by decide +kernel
theorem cd_i85_36 : cd_I 85 36 = some (.ifCond .ne 4, 40, 0) := by decide +kernel
theorem cd_i85_39 : cd_I 85 39 = some (.return_, 0, 0) := by decide +kernel
theorem cd_i85_40 : cd_I 85 40 = some (.aload_n 0, 0, 0) := by decide +kernel
theorem cd_i85_41 : cd_I 85 41 = some (.getfield 24, 3, 4) := by decide +kernel
theorem cd_i85_44 : cd_I 85 44 = some (.getfield 51, 8, 1) := by decide +kernel
theorem cd_i85_47 : cd_I 85 47 = some (.istore_n 3, 0, 0) := by decide +kernel
theorem cd_i85_48 : cd_I 85 48 = some (.aload_n 1, 0, 0) := by decide +kernel
theorem cd_i85_49 : cd_I 85 49 = some (.getfield 64, 8, 2) := by decide +kernel
theorem cd_i85_52 : cd_I 85 52 = some (.iconst 3, 0, 0) := by decide +kernel
theorem cd_i85_53 : cd_I 85 53 = some (.isub, 0, 0) := by decide +kernel
theorem cd_i85_54 : cd_I 85 54 = some (.istore 4, 0, 0) := by decide +kernel
theorem cd_i85_56 : cd_I 85 56 = some (.aload_n 0, 0, 0) := by decide +kernel
theorem cd_i85_57 : cd_I 85 57 = some (.getfield 28, 3, 0) := by decide +kernel
theorem cd_i85_60 : cd_I 85 60 = some (.iload 4, 0, 0) := by decide +kernel
theorem cd_i85_62 : cd_I 85 62 = some (.invokevirtual 95, 22, 1) := by decide +kernel
theorem cd_i85_65 : cd_I 85 65 = some (.astore 5, 0, 0) := by decide +kernel
theorem cd_i85_67 : cd_I 85 67 = some (.aload 5, 0, 0) := by decide +kernel
theorem cd_i85_69 : cd_I 85 69 = some (.ifnull 83, 152, 0) := by decide +kernel
theorem cd_i85_72 : cd_I 85 72 = some (.iconst 0, 0, 0) := by decide +kernel
theorem cd_i85_73 : cd_I 85 73 = some (.istore 6, 0, 0) := by decide +kernel
theorem cd_i85_75 : cd_I 85 75 = some (.iload 6, 0, 0) := by decide +kernel
theorem cd_i85_77 : cd_I 85 77 = some (.aload 5, 0, 0) := by decide +kernel
theorem cd_i85_79 : cd_I 85 79 = some (.getfield 99, 4, 3) := by decide +kernel
theorem cd_i85_82 : cd_I 85 82 = some (.if_icmp .ge 60, 142, 0) := by decide +kernel
theorem cd_i85_85 : cd_I 85 85 = some (.aload 5, 0, 0) := by decide +kernel
theorem cd_i85_87 : cd_I 85 87 = some (.getfield 102, 4, 2) := by decide +kernel
theorem cd_i85_90 : cd_I 85 90 = some (.iload 6, 0, 0) := by decide +kernel
theorem cd_i85_92 : cd_I 85 92 = some (.aaload, 0, 0) := by decide +kernel
theorem cd_i85_93 : cd_I 85 93 = some (.astore 7, 0, 0) := by decide +kernel
theorem cd_i85_95 : cd_I 85 95 = some (.aload_n 0, 0, 0) := by decide +kernel
theorem cd_i85_96 : cd_I 85 96 = some (.getfield 28, 3, 0) := by decide +kernel
theorem cd_i85_99 : cd_I 85 99 = some (.iload 4, 0, 0) := by decide +kernel
theorem cd_i85_101 : cd_I 85 101 = some (.aload 7, 0, 0) := by decide +kernel
theorem cd_i85_103 : cd_I 85 103 = some (.invokevirtual 151, 26, 2) := by decide +kernel
theorem cd_i85_106 : cd_I 85 106 = some (.ifCond .eq 30, 136, 0) := by decide +kernel
theorem cd_i85_109 : cd_I 85 109 = some (.aload_n 0, 0, 0) := by decide +kernel
theorem cd_i85_110 : cd_I 85 110 = some (.getfield 24, 3, 4) := by decide +kernel
theorem cd_i85_113 : cd_I 85 113 = some (.iload_n 3, 0, 0) := by decide +kernel
theorem cd_i85_114 : cd_I 85 114 = some (.putfield 51, 8, 1) := by decide +kernel
theorem cd_i85_117 : cd_I 85 117 = some (.aload_n 0, 0, 0) := by decide +kernel
theorem cd_i85_118 : cd_I 85 118 = some (.getfield 24, 3, 4) := by decide +kernel
theorem cd_i85_121 : cd_I 85 121 = some (.aload 7, 0, 0) := by decide +kernel
theorem cd_i85_123 : cd_I 85 123 = some (.getfield 137, 7, 3) := by decide +kernel
theorem cd_i85_126 : cd_I 85 126 = some (.invokevirtual 58, 71, 1) := by decide +kernel
theorem cd_i85_129 : cd_I 85 129 = some (.aload_n 0, 0, 0) := by decide +kernel
theorem cd_i85_130 : cd_I 85 130 = some (.aload 7, 0, 0) := by decide +kernel
theorem cd_i85_132 : cd_I 85 132 = some (.iload_n 2, 0, 0) := by decide +kernel
theorem cd_i85_133 : cd_I 85 133 = some (.invokevirtual 140, 82, 2) := by decide +kernel
theorem cd_i85_136 : cd_I 85 136 = some (.iinc 6 1, 0, 0) := by decide +kernel
theorem cd_i85_139 : cd_I 85 139 = some (.goto (-64), 75, 0) := by decide +kernel
theorem cd_i85_142 : cd_I 85 142 = some (.aload 5, 0, 0) := by decide +kernel
theorem cd_i85_144 : cd_I 85 144 = some (.getfield 155, 4, 1) := by decide +kernel
theorem cd_i85_147 : cd_I 85 147 = some (.astore 5, 0, 0) := by decide +kernel
theorem cd_i85_149 : cd_I 85 149 = some (.goto (-82), 67, 0) := by decide +kernel
theorem cd_i85_152 : cd_I 85 152 = some (.return_, 0, 0) := by decide +kernel
theorem cd_i86_0 : cd_I 86 0 = some (.aload_n 0, 0, 0) := by decide +kernel
theorem cd_i86_1 : cd_I 86 1 = some (.iconst 0, 0, 0) := by decide +kernel
theorem cd_i86_2 : cd_I 86 2 = some (.putfield 83, 3, 6) := by decide +kernel
theorem cd_i86_5 : cd_I 86 5 = some (.iconst 0, 0, 0) := by decide +kernel
theorem cd_i86_6 : cd_I 86 6 = some (.istore_n 3, 0, 0) := by decide +kernel
theorem cd_i86_7 : cd_I 86 7 = some (.iload_n 3, 0, 0) := by decide +kernel
theorem cd_i86_8 : cd_I 86 8 = some (.iload_n 2, 0, 0) := by decide +kernel
theorem cd_i86_9 : cd_I 86 9 = some (.if_icmp .gt 94, 103, 0) := by decide +kernel
theorem cd_i86_12 : cd_I 86 12 = some (.aload_n 0, 0, 0) := by decide +kernel
theorem cd_i86_13 : cd_I 86 13 = some (.getfield 11, 3, 2) := by decide +kernel
theorem cd_i86_16 : cd_I 86 16 = some (.iload_n 3, 0, 0) := by decide +kernel
theorem cd_i86_17 : cd_I 86 17 = some (.aaload, 0, 0) := by decide +kernel
theorem cd_i86_18 : cd_I 86 18 = some (.astore 4, 0, 0) := by decide +kernel
theorem cd_i86_20 : cd_I 86 20 = some (.iconst 0, 0, 0) := by decide +kernel
theorem cd_i86_21 : cd_I 86 21 = some (.istore 5, 0, 0) := by decide +kernel
theorem cd_i86_23 : cd_I 86 23 = some (.iload 5, 0, 0) := by decide +kernel
theorem cd_i86_25 : cd_I 86 25 = some (.aload 4, 0, 0) := by decide +kernel
theorem cd_i86_27 : cd_I 86 27 = some (.getfield 75, 10, 1) := by decide +kernel
theorem cd_i86_30 : cd_I 86 30 = some (.if_icmp .ge 67, 97, 0) := by decide +kernel
theorem cd_i86_33 : cd_I 86 33 = some (.aload_n 0, 0, 0) := by decide +kernel
theorem cd_i86_34 : cd_I 86 34 = some (.getfield 83, 3, 6) := by decide +kernel
theorem cd_i86_37 : cd_I 86 37 = some (.bipush 10, 0, 0) := by decide +kernel
theorem cd_i86_39 : cd_I 86 39 = some (.if_icmp .ge 58, 97, 0) := by decide +kernel
theorem cd_i86_42 : cd_I 86 42 = some (.aload_n 0, 0, 0) := by decide +kernel
theorem cd_i86_43 : cd_I 86 43 = some (.getfield 28, 3, 0) := by decide +kernel
theorem cd_i86_46 : cd_I 86 46 = some (.aload 4, 0, 0) := by decide +kernel
theorem cd_i86_48 : cd_I 86 48 = some (.getfield 76, 10, 0) := by decide +kernel
theorem cd_i86_51 : cd_I 86 51 = some (.iload 5, 0, 0) := by decide +kernel
theorem cd_i86_53 : cd_I 86 53 = some (.aaload, 0, 0) := by decide +kernel
theorem cd_i86_54 : cd_I 86 54 = some (.getfield 64, 8, 2) := by decide +kernel
theorem cd_i86_57 : cd_I 86 57 = some (.iload_n 1, 0, 0) := by decide +kernel
theorem cd_i86_58 : cd_I 86 58 = some (.invokevirtual 86, 16, 2) := by decide +kernel
theorem cd_i86_61 : cd_I 86 61 = some (.ifCond .eq 30, 91, 0) := by decide +kernel
theorem cd_i86_64 : cd_I 86 64 = some (.aload_n 0, 0, 0) := by decide +kernel
theorem cd_i86_65 : cd_I 86 65 = some (.getfield 19, 3, 3) := by decide +kernel
theorem cd_i86_68 : cd_I 86 68 = some (.aload_n 0, 0, 0) := by decide +kernel
theorem cd_i86_69 : cd_I 86 69 = some (.getfield 83, 3, 6) := by decide +kernel
theorem cd_i86_72 : cd_I 86 72 = some (.aload 4, 0, 0) := by decide +kernel
theorem cd_i86_74 : cd_I 86 74 = some (.getfield 76, 10, 0) := by decide +kernel
theorem cd_i86_77 : cd_I 86 77 = some (.iload 5, 0, 0) := by decide +kernel
theorem cd_i86_79 : cd_I 86 79 = some (.aaload, 0, 0) := by decide +kernel
theorem cd_i86_80 : cd_I 86 80 = some (.aastore, 0, 0) := by decide +kernel
theorem cd_i86_81 : cd_I 86 81 = some (.aload_n 0, 0, 0) := by decide +kernel
theorem cd_i86_82 : cd_I 86 82 = some (.dup, 0, 0) := by decide +kernel
theorem cd_i86_83 : cd_I 86 83 = some (.getfield 83, 3, 6) := by decide +kernel
theorem cd_i86_86 : cd_I 86 86 = some (.iconst 1, 0, 0) := by decide +kernel
theorem cd_i86_87 : cd_I 86 87 = some (.iadd, 0, 0) := by decide +kernel
theorem cd_i86_88 : cd_I 86 88 = some (.putfield 83, 3, 6) := by decide +kernel
theorem cd_i86_91 : cd_I 86 91 = some (.iinc 5 1, 0, 0) := by decide +kernel
theorem cd_i86_94 : cd_I 86 94 = some (.goto (-71), 23, 0) := by decide +kernel
theorem cd_i86_97 : cd_I 86 97 = some (.iinc 3 1, 0, 0) := by decide +kernel
theorem cd_i86_100 : cd_I 86 100 = some (.goto (-93), 7, 0) := by decide +kernel
theorem cd_i86_103 : cd_I 86 103 = some (.aload_n 0, 0, 0) := by decide +kernel
theorem cd_i86_104 : cd_I 86 104 = some (.getfield 83, 3, 6) := by decide +kernel
theorem cd_i86_107 : cd_I 86 107 = some (.ireturn, 0, 0) := by decide +kernel
theorem cd_i87_0 : cd_I 87 0 = some (.aload_n 0, 0, 0) := by decide +kernel
theorem cd_i87_1 : cd_I 87 1 = some (.getfield 44, 0, 4) := by decide +kernel
theorem cd_i87_4 : cd_I 87 4 = some (.invokevirtual 122, 88, 0) := by decide +kernel
theorem cd_i87_7 : cd_I 87 7 = some (.istore_n 1, 0, 0) := by decide +kernel
theorem cd_i87_8 : cd_I 87 8 = some (.aload_n 0, 0, 0) := by decide +kernel
theorem cd_i87_9 : cd_I 87 9 = some (.getfield 10, 0, 0) := by decide +kernel
theorem cd_i87_12 : cd_I 87 12 = some (.invokevirtual 77, 60, 0) := by decide +kernel
theorem cd_i87_15 : cd_I 87 15 = some (.iload_n 1, 0, 0) := by decide +kernel
theorem cd_i87_16 : cd_I 87 16 = some (.iconst (-1), 0, 0) := by decide +kernel
theorem cd_i87_17 : cd_I 87 17 = some (.if_icmp .ne 11, 28, 0) := by decide +kernel
theorem cd_i87_20 : cd_I 87 20 = some (.new 80, 12, 82) := by decide +kernel
theorem cd_i87_28 : cd_I 87 28 = some (.aload_n 0, 0, 0) := by decide +kernel
theorem cd_i87_29 : cd_I 87 29 = some (.aload_n 0, 0, 0) := by decide +kernel
theorem cd_i87_30 : cd_I 87 30 = some (.getfield 44, 0, 4) := by decide +kernel
theorem cd_i87_33 : cd_I 87 33 = some (.getfield 126, 6, 3) := by decide +kernel
theorem cd_i87_36 : cd_I 87 36 = some (.putfield 57, 0, 6) := by decide +kernel
theorem cd_i87_39 : cd_I 87 39 = some (.iload_n 1, 0, 0) := by decide +kernel
theorem cd_i87_40 : cd_I 87 40 = some (.ireturn, 0, 0) := by decide +kernel
theorem cd_i88_0 : cd_I 88 0 = some (.aload_n 0, 0, 0) := by decide +kernel
theorem cd_i88_1 : cd_I 88 1 = some (.iconst 0, 0, 0) := by decide +kernel
theorem cd_i88_2 : cd_I 88 2 = some (.putfield 23, 6, 3) := by decide +kernel
theorem cd_i88_5 : cd_I 88 5 = some (.aload_n 0, 0, 0) := by decide +kernel
theorem cd_i88_6 : cd_I 88 6 = some (.iconst 0, 0, 0) := by decide +kernel
theorem cd_i88_7 : cd_I 88 7 = some (.invokevirtual 27, 89, 1) := by decide +kernel
theorem cd_i88_10 : cd_I 88 10 = some (.istore_n 1, 0, 0) := by decide +kernel
theorem cd_i88_11 : cd_I 88 11 = some (.aload_n 0, 0, 0) := by decide +kernel
theorem cd_i88_12 : cd_I 88 12 = some (.getfield 9, 6, 0) := by decide +kernel
theorem cd_i88_15 : cd_I 88 15 = some (.invokevirtual 31, 59, 0) := by decide +kernel
theorem cd_i88_18 : cd_I 88 18 = some (.ifCond .eq 7, 25, 0) := by decide +kernel
theorem cd_i88_21 : cd_I 88 21 = some (.iload_n 1, 0, 0) := by decide +kernel
theorem cd_i88_22 : cd_I 88 22 = some (.goto 4, 26, 0) := by decide +kernel
theorem cd_i88_25 : cd_I 88 25 = some (.iconst (-1), 0, 0) := by decide +kernel
theorem cd_i88_26 : cd_I 88 26 = some (.ireturn, 0, 0) := by decide +kernel
theorem cd_i89_0 : cd_I 89 0 = some (.iload_n 1, 0, 0) := by decide +kernel
theorem cd_i89_1 : cd_I 89 1 = some (.bipush 6, 0, 0) := by decide +kernel
theorem cd_i89_3 : cd_I 89 3 = some (.if_icmp .le 5, 8, 0) := by decide +kernel
theorem cd_i89_6 : cd_I 89 6 = some (.iconst (-1), 0, 0) := by decide +kernel
theorem cd_i89_7 : cd_I 89 7 = some (.ireturn, 0, 0) := by decide +kernel
theorem cd_i89_8 : cd_I 89 8 = some (.aload_n 0, 0, 0) := by decide +kernel
theorem cd_i89_9 : cd_I 89 9 = some (.iload_n 1, 0, 0) := by decide +kernel
theorem cd_i89_10 : cd_I 89 10 = some (.invokevirtual 37, 90, 1) := by decide +kernel
theorem cd_i89_13 : cd_I 89 13 = some (.istore_n 2, 0, 0) := by decide +kernel
theorem cd_i89_14 : cd_I 89 14 = some (.iconst 0, 0, 0) := by decide +kernel
theorem cd_i89_15 : cd_I 89 15 = some (.istore_n 3, 0, 0) := by decide +kernel
theorem cd_i89_16 : cd_I 89 16 = some (.iload_n 3, 0, 0) := by decide +kernel
theorem cd_i89_17 : cd_I 89 17 = some (.bipush 120, 0, 0) := by decide +kernel
theorem cd_i89_19 : cd_I 89 19 = some (.if_icmp .ge 33, 52, 0) := by decide +kernel
theorem cd_i89_22 : cd_I 89 22 = some (.iload_n 2, 0, 0) := by decide +kernel
theorem cd_i89_23 : cd_I 89 23 = some (.iconst (-1), 0, 0) := by decide +kernel
theorem cd_i89_24 : cd_I 89 24 = some (.if_icmp .eq 28, 52, 0) := by decide +kernel
theorem cd_i89_27 : cd_I 89 27 = some (.aload_n 0, 0, 0) := by decide +kernel
theorem cd_i89_28 : cd_I 89 28 = some (.getfield 9, 6, 0) := by decide +kernel
theorem cd_i89_31 : cd_I 89 31 = some (.bipush 46, 0, 0) := by decide +kernel
theorem cd_i89_33 : cd_I 89 33 = some (.invokevirtual 40, 34, 1) := by decide +kernel
theorem cd_i89_36 : cd_I 89 36 = some (.ifCond .eq 16, 52, 0) := by decide +kernel
theorem cd_i89_39 : cd_I 89 39 = some (.aload_n 0, 0, 0) := by decide +kernel
theorem cd_i89_40 : cd_I 89 40 = some (.iload_n 2, 0, 0) := by decide +kernel
theorem cd_i89_41 : cd_I 89 41 = some (.iload_n 1, 0, 0) := by decide +kernel
theorem cd_i89_42 : cd_I 89 42 = some (.invokevirtual 44, 97, 2) := by decide +kernel
theorem cd_i89_45 : cd_I 89 45 = some (.istore_n 2, 0, 0) := by decide +kernel
theorem cd_i89_46 : cd_I 89 46 = some (.iinc 3 1, 0, 0) := by decide +kernel
theorem cd_i89_49 : cd_I 89 49 = some (.goto (-33), 16, 0) := by decide +kernel
theorem cd_i89_52 : cd_I 89 52 = some (.iload_n 2, 0, 0) := by decide +kernel
theorem cd_i89_53 : cd_I 89 53 = some (.ireturn, 0, 0) := by decide +kernel
theorem cd_i90_0 : cd_I 90 0 = some (.aload_n 0, 0, 0) := by decide +kernel
theorem cd_i90_1 : cd_I 90 1 = some (.getfield 9, 6, 0) := by decide +kernel
theorem cd_i90_4 : cd_I 90 4 = some (.ldc 48, 13, 0) := by decide +kernel
theorem cd_i90_6 : cd_I 90 6 = some (.invokevirtual 50, 39, 1) := by decide +kernel
theorem cd_i90_9 : cd_I 90 9 = some (.ifCond .eq 23, 32, 0) := by decide +kernel
theorem cd_i90_12 : cd_I 90 12 = some (.aload_n 0, 0, 0) := by decide +kernel
theorem cd_i90_13 : cd_I 90 13 = some (.aload_n 0, 0, 0) := by decide +kernel
theorem cd_i90_14 : cd_I 90 14 = some (.getfield 15, 6, 1) := by decide +kernel
theorem cd_i90_17 : cd_I 90 17 = some (.aload_n 0, 0, 0) := by decide +kernel
theorem cd_i90_18 : cd_I 90 18 = some (.getfield 9, 6, 0) := by decide +kernel
theorem cd_i90_21 : cd_I 90 21 = some (.invokevirtual 54, 33, 0) := by decide +kernel
theorem cd_i90_24 : cd_I 90 24 = some (.invokevirtual 58, 91, 1) := by decide +kernel
theorem cd_i90_27 : cd_I 90 27 = some (.iload_n 1, 0, 0) := by decide +kernel
theorem cd_i90_28 : cd_I 90 28 = some (.invokevirtual 64, 93, 2) := by decide +kernel
theorem cd_i90_31 : cd_I 90 31 = some (.ireturn, 0, 0) := by decide +kernel
theorem cd_i90_32 : cd_I 90 32 = some (.aload_n 0, 0, 0) := by decide +kernel
theorem cd_i90_33 : cd_I 90 33 = some (.getfield 9, 6, 0) := by decide +kernel
theorem cd_i90_36 : cd_I 90 36 = some (.invokevirtual 54, 33, 0) := by decide +kernel
theorem cd_i90_39 : cd_I 90 39 = some (.istore_n 2, 0, 0) := by decide +kernel
theorem cd_i90_40 : cd_I 90 40 = some (.iload_n 2, 0, 0) := by decide +kernel
theorem cd_i90_41 : cd_I 90 41 = some (.iconst (-1), 0, 0) := by decide +kernel
theorem cd_i90_42 : cd_I 90 42 = some (.if_icmp .ne 18, 60, 0) := by decide +kernel
theorem cd_i90_45 : cd_I 90 45 = some (.aload_n 0, 0, 0) := by decide +kernel
theorem cd_i90_46 : cd_I 90 46 = some (.getfield 19, 6, 2) := by decide +kernel
theorem cd_i90_49 : cd_I 90 49 = some (.aload_n 0, 0, 0) := by decide +kernel
theorem cd_i90_50 : cd_I 90 50 = some (.getfield 9, 6, 0) := by decide +kernel
theorem cd_i90_53 : cd_I 90 53 = some (.invokevirtual 68, 54, 0) := by decide +kernel
theorem cd_i90_56 : cd_I 90 56 = some (.invokevirtual 71, 66, 1) := by decide +kernel
theorem cd_i90_59 : cd_I 90 59 = some (.ireturn, 0, 0) := by decide +kernel
theorem cd_i90_60 : cd_I 90 60 = some (.aload_n 0, 0, 0) := by decide +kernel
theorem cd_i90_61 : cd_I 90 61 = some (.getfield 9, 6, 0) := by decide +kernel
theorem cd_i90_64 : cd_I 90 64 = some (.bipush 46, 0, 0) := by decide +kernel
theorem cd_i90_66 : cd_I 90 66 = some (.invokevirtual 40, 34, 1) := by decide +kernel
theorem cd_i90_69 : cd_I 90 69 = some (.ifCond .ne 5, 74, 0) := by decide +kernel
theorem cd_i90_72 : cd_I 90 72 = some (.iconst (-1), 0, 0) := by decide +kernel
theorem cd_i90_73 : cd_I 90 73 = some (.ireturn, 0, 0) := by decide +kernel
theorem cd_i90_74 : cd_I 90 74 = some (.aload_n 0, 0, 0) := by decide +kernel
theorem cd_i90_75 : cd_I 90 75 = some (.getfield 9, 6, 0) := by decide +kernel
theorem cd_i90_78 : cd_I 90 78 = some (.invokevirtual 68, 54, 0) := by decide +kernel
theorem cd_i90_81 : cd_I 90 81 = some (.istore_n 3, 0, 0) := by decide +kernel
theorem cd_i90_82 : cd_I 90 82 = some (.aload_n 0, 0, 0) := by decide +kernel
theorem cd_i90_83 : cd_I 90 83 = some (.aload_n 0, 0, 0) := by decide +kernel
theorem cd_i90_84 : cd_I 90 84 = some (.getfield 15, 6, 1) := by decide +kernel
theorem cd_i90_87 : cd_I 90 87 = some (.iload_n 2, 0, 0) := by decide +kernel
theorem cd_i90_88 : cd_I 90 88 = some (.aload_n 0, 0, 0) := by decide +kernel
theorem cd_i90_89 : cd_I 90 89 = some (.invokevirtual 76, 95, 0) := by decide +kernel
theorem cd_i90_92 : cd_I 90 92 = some (.iload_n 3, 0, 0) := by decide +kernel
theorem cd_i90_93 : cd_I 90 93 = some (.invokevirtual 80, 96, 3) := by decide +kernel
theorem cd_i90_96 : cd_I 90 96 = some (.iload_n 1, 0, 0) := by decide +kernel
theorem cd_i90_97 : cd_I 90 97 = some (.invokevirtual 64, 93, 2) := by decide +kernel
theorem cd_i90_100 : cd_I 90 100 = some (.ireturn, 0, 0) := by decide +kernel
theorem cd_i91_0 : cd_I 91 0 = some (.aload_n 0, 0, 0) := by decide +kernel
theorem cd_i91_1 : cd_I 91 1 = some (.iload_n 1, 0, 0) := by decide +kernel
theorem cd_i91_2 : cd_I 91 2 = some (.getstatic 57, 2, 0) := by decide +kernel
theorem cd_i91_5 : cd_I 91 5 = some (.iconst 0, 0, 0) := by decide +kernel
theorem cd_i91_6 : cd_I 91 6 = some (.invokevirtual 80, 92, 3) := by decide +kernel
theorem cd_i91_9 : cd_I 91 9 = some (.areturn, 0, 0) := by decide +kernel
theorem cd_i92_0 : cd_I 92 0 = some (.aload_n 0, 0, 0) := by decide +kernel
theorem cd_i92_1 : cd_I 92 1 = some (.iload_n 1, 0, 0) := by decide +kernel
theorem cd_i92_2 : cd_I 92 2 = some (.invokevirtual 28, 22, 1) := by decide +kernel
theorem cd_i92_5 : cd_I 92 5 = some (.astore 4, 0, 0) := by decide +kernel
theorem cd_i92_7 : cd_I 92 7 = some (.aload 4, 0, 0) := by decide +kernel
theorem cd_i92_9 : cd_I 92 9 = some (.ifnonnull 5, 14, 0) := by decide +kernel
theorem cd_i92_12 : cd_I 92 12 = some (.aconst_null, 0, 0) := by decide +kernel
theorem cd_i92_13 : cd_I 92 13 = some (.areturn, 0, 0) := by decide +kernel
theorem cd_i92_14 : cd_I 92 14 = some (.aload 4, 0, 0) := by decide +kernel
theorem cd_i92_16 : cd_I 92 16 = some (.aload_n 2, 0, 0) := by decide +kernel
theorem cd_i92_17 : cd_I 92 17 = some (.iload_n 3, 0, 0) := by decide +kernel
theorem cd_i92_18 : cd_I 92 18 = some (.invokevirtual 42, 28, 2) := by decide +kernel
theorem cd_i92_21 : cd_I 92 21 = some (.astore 5, 0, 0) := by decide +kernel
theorem cd_i92_23 : cd_I 92 23 = some (.aload 5, 0, 0) := by decide +kernel
theorem cd_i92_25 : cd_I 92 25 = some (.ifnull 19, 44, 0) := by decide +kernel
theorem cd_i92_28 : cd_I 92 28 = some (.aload_n 0, 0, 0) := by decide +kernel
theorem cd_i92_29 : cd_I 92 29 = some (.aload 4, 0, 0) := by decide +kernel
theorem cd_i92_31 : cd_I 92 31 = some (.aload 5, 0, 0) := by decide +kernel
theorem cd_i92_33 : cd_I 92 33 = some (.invokevirtual 49, 30, 2) := by decide +kernel
theorem cd_i92_36 : cd_I 92 36 = some (.ifCond .eq 8, 44, 0) := by decide +kernel
theorem cd_i92_39 : cd_I 92 39 = some (.aload 5, 0, 0) := by decide +kernel
theorem cd_i92_41 : cd_I 92 41 = some (.goto 4, 45, 0) := by decide +kernel
theorem cd_i92_44 : cd_I 92 44 = some (.aconst_null, 0, 0) := by decide +kernel
theorem cd_i92_45 : cd_I 92 45 = some (.areturn, 0, 0) := by decide +kernel
theorem cd_i93_0 : cd_I 93 0 = some (.aload_n 1, 0, 0) := by decide +kernel
theorem cd_i93_1 : cd_I 93 1 = some (.ifnonnull 5, 6, 0) := by decide +kernel
theorem cd_i93_4 : cd_I 93 4 = some (.iconst (-1), 0, 0) := by decide +kernel
theorem cd_i93_5 : cd_I 93 5 = some (.ireturn, 0, 0) := by decide +kernel
theorem cd_i93_6 : cd_I 93 6 = some (.aload_n 0, 0, 0) := by decide +kernel
theorem cd_i93_7 : cd_I 93 7 = some (.dup, 0, 0) := by decide +kernel
theorem cd_i93_8 : cd_I 93 8 = some (.getfield 23, 6, 3) := by decide +kernel
theorem cd_i93_11 : cd_I 93 11 = some (.iconst 1, 0, 0) := by decide +kernel
theorem cd_i93_12 : cd_I 93 12 = some (.iadd, 0, 0) := by decide +kernel
theorem cd_i93_13 : cd_I 93 13 = some (.putfield 23, 6, 3) := by decide +kernel
theorem cd_i93_16 : cd_I 93 16 = some (.aload_n 1, 0, 0) := by decide +kernel
theorem cd_i93_17 : cd_I 93 17 = some (.getfield 99, 7, 0) := by decide +kernel
theorem cd_i93_20 : cd_I 93 20 = some (.getstatic 96, 0, 0) := by decide +kernel
theorem cd_i93_23 : cd_I 93 23 = some (.if_acmp .eq 14, 37, 0) := by decide +kernel
theorem cd_i93_26 : cd_I 93 26 = some (.aload_n 0, 0, 0) := by decide +kernel
theorem cd_i93_27 : cd_I 93 27 = some (.aload_n 1, 0, 0) := by decide +kernel
theorem cd_i93_28 : cd_I 93 28 = some (.iload_n 2, 0, 0) := by decide +kernel
theorem cd_i93_29 : cd_I 93 29 = some (.invokevirtual 104, 94, 2) := by decide +kernel
theorem cd_i93_32 : cd_I 93 32 = some (.ifCond .ne 5, 37, 0) := by decide +kernel
theorem cd_i93_35 : cd_I 93 35 = some (.iconst (-1), 0, 0) := by decide +kernel
theorem cd_i93_36 : cd_I 93 36 = some (.ireturn, 0, 0) := by decide +kernel
theorem cd_i93_37 : cd_I 93 37 = some (.aload_n 1, 0, 0) := by decide +kernel
theorem cd_i93_38 : cd_I 93 38 = some (.getfield 108, 7, 6) := by decide +kernel
theorem cd_i93_41 : cd_I 93 41 = some (.ireturn, 0, 0) := by decide +kernel
theorem cd_i94_0 : cd_I 94 0 = some (.aload_n 0, 0, 0) := by decide +kernel
theorem cd_i94_1 : cd_I 94 1 = some (.getfield 9, 6, 0) := by decide +kernel
theorem cd_i94_4 : cd_I 94 4 = some (.bipush 40, 0, 0) := by decide +kernel
theorem cd_i94_6 : cd_I 94 6 = some (.invokevirtual 40, 34, 1) := by decide +kernel
theorem cd_i94_9 : cd_I 94 9 = some (.ifCond .ne 5, 14, 0) := by decide +kernel
theorem cd_i94_12 : cd_I 94 12 = some (.iconst 0, 0, 0) := by decide +kernel
theorem cd_i94_13 : cd_I 94 13 = some (.ireturn, 0, 0) := by decide +kernel
theorem cd_i94_14 : cd_I 94 14 = some (.iconst 0, 0, 0) := by decide +kernel
theorem cd_i94_15 : cd_I 94 15 = some (.istore_n 3, 0, 0) := by decide +kernel
theorem cd_i94_16 : cd_I 94 16 = some (.iload_n 3, 0, 0) := by decide +kernel
theorem cd_i94_17 : cd_I 94 17 = some (.aload_n 1, 0, 0) := by decide +kernel
theorem cd_i94_18 : cd_I 94 18 = some (.getfield 111, 7, 5) := by decide +kernel
theorem cd_i94_21 : cd_I 94 21 = some (.if_icmp .ge 62, 83, 0) := by decide +kernel
theorem cd_i94_24 : cd_I 94 24 = some (.iload_n 3, 0, 0) := by decide +kernel
theorem cd_i94_25 : cd_I 94 25 = some (.ifCond .le 17, 42, 0) := by decide +kernel
theorem cd_i94_28 : cd_I 94 28 = some (.aload_n 0, 0, 0) := by decide +kernel
theorem cd_i94_29 : cd_I 94 29 = some (.getfield 9, 6, 0) := by decide +kernel
theorem cd_i94_32 : cd_I 94 32 = some (.bipush 44, 0, 0) := by decide +kernel
theorem cd_i94_34 : cd_I 94 34 = some (.invokevirtual 40, 34, 1) := by decide +kernel
theorem cd_i94_37 : cd_I 94 37 = some (.ifCond .ne 5, 42, 0) := by decide +kernel
theorem cd_i94_40 : cd_I 94 40 = some (.iconst 0, 0, 0) := by decide +kernel
theorem cd_i94_41 : cd_I 94 41 = some (.ireturn, 0, 0) := by decide +kernel
theorem cd_i94_42 : cd_I 94 42 = some (.aload_n 0, 0, 0) := by decide +kernel
theorem cd_i94_43 : cd_I 94 43 = some (.iload_n 2, 0, 0) := by decide +kernel
theorem cd_i94_44 : cd_I 94 44 = some (.iconst 1, 0, 0) := by decide +kernel
theorem cd_i94_45 : cd_I 94 45 = some (.iadd, 0, 0) := by decide +kernel
theorem cd_i94_46 : cd_I 94 46 = some (.invokevirtual 27, 89, 1) := by decide +kernel
theorem cd_i94_49 : cd_I 94 49 = some (.istore 4, 0, 0) := by decide +kernel
theorem cd_i94_51 : cd_I 94 51 = some (.iload 4, 0, 0) := by decide +kernel
theorem cd_i94_53 : cd_I 94 53 = some (.iconst (-1), 0, 0) := by decide +kernel
theorem cd_i94_54 : cd_I 94 54 = some (.if_icmp .eq 21, 75, 0) := by decide +kernel
theorem cd_i94_57 : cd_I 94 57 = some (.aload_n 0, 0, 0) := by decide +kernel
theorem cd_i94_58 : cd_I 94 58 = some (.getfield 15, 6, 1) := by decide +kernel
theorem cd_i94_61 : cd_I 94 61 = some (.iload 4, 0, 0) := by decide +kernel
theorem cd_i94_63 : cd_I 94 63 = some (.aload_n 1, 0, 0) := by decide +kernel
theorem cd_i94_64 : cd_I 94 64 = some (.getfield 114, 7, 4) := by decide +kernel
theorem cd_i94_67 : cd_I 94 67 = some (.iload_n 3, 0, 0) := by decide +kernel
theorem cd_i94_68 : cd_I 94 68 = some (.iaload, 0, 0) := by decide +kernel
theorem cd_i94_69 : cd_I 94 69 = some (.invokevirtual 118, 16, 2) := by decide +kernel
theorem cd_i94_72 : cd_I 94 72 = some (.ifCond .ne 5, 77, 0) := by decide +kernel
theorem cd_i94_75 : cd_I 94 75 = some (.iconst 0, 0, 0) := by decide +kernel
theorem cd_i94_76 : cd_I 94 76 = some (.ireturn, 0, 0) := by decide +kernel
theorem cd_i94_77 : cd_I 94 77 = some (.iinc 3 1, 0, 0) := by decide +kernel
theorem cd_i94_80 : cd_I 94 80 = some (.goto (-64), 16, 0) := by decide +kernel
theorem cd_i94_83 : cd_I 94 83 = some (.aload_n 0, 0, 0) := by decide +kernel
theorem cd_i94_84 : cd_I 94 84 = some (.getfield 9, 6, 0) := by decide +kernel
theorem cd_i94_87 : cd_I 94 87 = some (.bipush 41, 0, 0) := by decide +kernel
theorem cd_i94_89 : cd_I 94 89 = some (.invokevirtual 40, 34, 1) := by decide +kernel
theorem cd_i94_92 : cd_I 94 92 = some (.ireturn, 0, 0) := by decide +kernel
theorem cd_i95_0 : cd_I 95 0 = some (.aload_n 0, 0, 0) := by decide +kernel
theorem cd_i95_1 : cd_I 95 1 = some (.getfield 9, 6, 0) := by decide +kernel
theorem cd_i95_4 : cd_I 95 4 = some (.bipush 40, 0, 0) := by decide +kernel
theorem cd_i95_6 : cd_I 95 6 = some (.invokevirtual 87, 35, 1) := by decide +kernel
theorem cd_i95_9 : cd_I 95 9 = some (.ifCond .eq 9, 18, 0) := by decide +kernel
theorem cd_i95_12 : cd_I 95 12 = some (.getstatic 90, 1, 0) := by decide +kernel
theorem cd_i95_15 : cd_I 95 15 = some (.goto 6, 21, 0) := by decide +kernel
theorem cd_i95_18 : cd_I 95 18 = some (.getstatic 96, 0, 0) := by decide +kernel
theorem cd_i95_21 : cd_I 95 21 = some (.areturn, 0, 0) := by decide +kernel
theorem cd_i96_0 : cd_I 96 0 = some (.aload_n 0, 0, 0) := by decide +kernel
theorem cd_i96_1 : cd_I 96 1 = some (.iload_n 1, 0, 0) := by decide +kernel
theorem cd_i96_2 : cd_I 96 2 = some (.aload_n 2, 0, 0) := by decide +kernel
theorem cd_i96_3 : cd_I 96 3 = some (.iload_n 3, 0, 0) := by decide +kernel
theorem cd_i96_4 : cd_I 96 4 = some (.invokevirtual 80, 92, 3) := by decide +kernel
theorem cd_i96_7 : cd_I 96 7 = some (.astore 4, 0, 0) := by decide +kernel
theorem cd_i96_9 : cd_I 96 9 = some (.aload 4, 0, 0) := by decide +kernel
theorem cd_i96_11 : cd_I 96 11 = some (.ifnull 16, 27, 0) := by decide +kernel
theorem cd_i96_14 : cd_I 96 14 = some (.aload 4, 0, 0) := by decide +kernel
theorem cd_i96_16 : cd_I 96 16 = some (.getfield 46, 7, 2) := by decide +kernel
theorem cd_i96_19 : cd_I 96 19 = some (.ifCond .eq 8, 27, 0) := by decide +kernel
theorem cd_i96_22 : cd_I 96 22 = some (.aload 4, 0, 0) := by decide +kernel
theorem cd_i96_24 : cd_I 96 24 = some (.goto 4, 28, 0) := by decide +kernel
theorem cd_i96_27 : cd_I 96 27 = some (.aconst_null, 0, 0) := by decide +kernel
theorem cd_i96_28 : cd_I 96 28 = some (.areturn, 0, 0) := by decide +kernel
theorem cd_i97_0 : cd_I 97 0 = some (.aload_n 0, 0, 0) := by decide +kernel
theorem cd_i97_1 : cd_I 97 1 = some (.getfield 9, 6, 0) := by decide +kernel
theorem cd_i97_4 : cd_I 97 4 = some (.invokevirtual 68, 54, 0) := by decide +kernel
theorem cd_i97_7 : cd_I 97 7 = some (.istore_n 3, 0, 0) := by decide +kernel
theorem cd_i97_8 : cd_I 97 8 = some (.aload_n 0, 0, 0) := by decide +kernel
theorem cd_i97_9 : cd_I 97 9 = some (.aload_n 0, 0, 0) := by decide +kernel
theorem cd_i97_10 : cd_I 97 10 = some (.getfield 15, 6, 1) := by decide +kernel
theorem cd_i97_13 : cd_I 97 13 = some (.iload_n 1, 0, 0) := by decide +kernel
theorem cd_i97_14 : cd_I 97 14 = some (.iconst 3, 0, 0) := by decide +kernel
theorem cd_i97_15 : cd_I 97 15 = some (.isub, 0, 0) := by decide +kernel
theorem cd_i97_16 : cd_I 97 16 = some (.aload_n 0, 0, 0) := by decide +kernel
theorem cd_i97_17 : cd_I 97 17 = some (.invokevirtual 76, 95, 0) := by decide +kernel
theorem cd_i97_20 : cd_I 97 20 = some (.iload_n 3, 0, 0) := by decide +kernel
theorem cd_i97_21 : cd_I 97 21 = some (.invokevirtual 84, 27, 3) := by decide +kernel
theorem cd_i97_24 : cd_I 97 24 = some (.iload_n 2, 0, 0) := by decide +kernel
theorem cd_i97_25 : cd_I 97 25 = some (.invokevirtual 64, 93, 2) := by decide +kernel
theorem cd_i97_28 : cd_I 97 28 = some (.ireturn, 0, 0) := by decide +kernel
theorem cd_i98_0 : cd_I 98 0 = some (.aload_n 0, 0, 0) := by decide +kernel
theorem cd_i98_1 : cd_I 98 1 = some (.invokespecial 1, 1000, 0) := by decide +kernel
theorem cd_i98_4 : cd_I 98 4 = some (.aload_n 0, 0, 0) := by decide +kernel
theorem cd_i98_5 : cd_I 98 5 = some (.bipush 120, 0, 0) := by decide +kernel
theorem cd_i98_7 : cd_I 98 7 = some (.newarray .char, 0, 0) := by decide +kernel
theorem cd_i98_9 : cd_I 98 9 = some (.putfield 7, 11, 1) := by decide +kernel
theorem cd_i98_12 : cd_I 98 12 = some (.aload_n 0, 0, 0) := by decide +kernel
theorem cd_i98_13 : cd_I 98 13 = some (.bipush 10, 0, 0) := by decide +kernel
theorem cd_i98_15 : cd_I 98 15 = some (.newarray .boolean, 0, 0) := by decide +kernel
theorem cd_i98_17 : cd_I 98 17 = some (.putfield 13, 11, 5) := by decide +kernel
theorem cd_i98_20 : cd_I 98 20 = some (.aload_n 0, 0, 0) := by decide +kernel
theorem cd_i98_21 : cd_I 98 21 = some (.bipush 10, 0, 0) := by decide +kernel
theorem cd_i98_23 : cd_I 98 23 = some (.newarray .int, 0, 0) := by decide +kernel
theorem cd_i98_25 : cd_I 98 25 = some (.putfield 17, 11, 6) := by decide +kernel
theorem cd_i98_28 : cd_I 98 28 = some (.aload_n 0, 0, 0) := by decide +kernel
theorem cd_i98_29 : cd_I 98 29 = some (.bipush 10, 0, 0) := by decide +kernel
theorem cd_i98_31 : cd_I 98 31 = some (.newarray .int, 0, 0) := by decide +kernel
theorem cd_i98_33 : cd_I 98 33 = some (.putfield 21, 11, 7) := by decide +kernel
theorem cd_i98_36 : cd_I 98 36 = some (.aload_n 0, 0, 0) := by decide +kernel
theorem cd_i98_37 : cd_I 98 37 = some (.bipush 66, 0, 0) := by decide +kernel
theorem cd_i98_39 : cd_I 98 39 = some (.newarray .int, 0, 0) := by decide +kernel
theorem cd_i98_41 : cd_I 98 41 = some (.putfield 24, 11, 8) := by decide +kernel
theorem cd_i98_44 : cd_I 98 44 = some (.aload_n 0, 0, 0) := by decide +kernel
theorem cd_i98_45 : cd_I 98 45 = some (.bipush 66, 0, 0) := by decide +kernel
theorem cd_i98_47 : cd_I 98 47 = some (.newarray .boolean, 0, 0) := by decide +kernel
theorem cd_i98_49 : cd_I 98 49 = some (.putfield 27, 11, 9) := by decide +kernel
theorem cd_i98_52 : cd_I 98 52 = some (.aload_n 0, 0, 0) := by decide +kernel
theorem cd_i98_53 : cd_I 98 53 = some (.bipush 66, 0, 0) := by decide +kernel
theorem cd_i98_55 : cd_I 98 55 = some (.newarray .boolean, 0, 0) := by decide +kernel
theorem cd_i98_57 : cd_I 98 57 = some (.putfield 30, 11, 10) := by decide +kernel
theorem cd_i98_60 : cd_I 98 60 = some (.aload_n 0, 0, 0) := by decide +kernel
theorem cd_i98_61 : cd_I 98 61 = some (.bipush 66, 0, 0) := by decide +kernel
theorem cd_i98_63 : cd_I 98 63 = some (.newarray .int, 0, 0) := by decide +kernel
theorem cd_i98_65 : cd_I 98 65 = some (.putfield 33, 11, 11) := by decide +kernel
theorem cd_i98_68 : cd_I 98 68 = some (.aload_n 0, 0, 0) := by decide +kernel
theorem cd_i98_69 : cd_I 98 69 = some (.bipush 66, 0, 0) := by decide +kernel
theorem cd_i98_71 : cd_I 98 71 = some (.newarray .int, 0, 0) := by decide +kernel
theorem cd_i98_73 : cd_I 98 73 = some (.putfield 36, 11, 12) := by decide +kernel
theorem cd_i98_76 : cd_I 98 76 = some (.aload_n 0, 0, 0) := by decide +kernel
theorem cd_i98_77 : cd_I 98 77 = some (.bipush 66, 0, 0) := by decide +kernel
theorem cd_i98_79 : cd_I 98 79 = some (.newarray .int, 0, 0) := by decide +kernel
theorem cd_i98_81 : cd_I 98 81 = some (.putfield 39, 11, 13) := by decide +kernel
theorem cd_i98_84 : cd_I 98 84 = some (.aload_n 0, 0, 0) := by decide +kernel
theorem cd_i98_85 : cd_I 98 85 = some (.sipush 132, 0, 0) := by decide +kernel
theorem cd_i98_88 : cd_I 98 88 = some (.newarray .int, 0, 0) := by decide +kernel
theorem cd_i98_90 : cd_I 98 90 = some (.putfield 42, 11, 14) := by decide +kernel
theorem cd_i98_93 : cd_I 98 93 = some (.aload_n 0, 0, 0) := by decide +kernel
theorem cd_i98_94 : cd_I 98 94 = some (.iconst 5, 0, 0) := by decide +kernel
theorem cd_i98_95 : cd_I 98 95 = some (.newarray .int, 0, 0) := by decide +kernel
theorem cd_i98_97 : cd_I 98 97 = some (.putfield 45, 11, 16) := by decide +kernel
theorem cd_i98_100 : cd_I 98 100 = some (.aload_n 0, 0, 0) := by decide +kernel
theorem cd_i98_101 : cd_I 98 101 = some (.iconst 5, 0, 0) := by decide +kernel
theorem cd_i98_102 : cd_I 98 102 = some (.newarray .int, 0, 0) := by decide +kernel
theorem cd_i98_104 : cd_I 98 104 = some (.putfield 48, 11, 17) := by decide +kernel
theorem cd_i98_107 : cd_I 98 107 = some (.aload_n 0, 0, 0) := by decide +kernel
theorem cd_i98_108 : cd_I 98 108 = some (.iconst (-1), 0, 0) := by decide +kernel
theorem cd_i98_109 : cd_I 98 109 = some (.putfield 51, 11, 18) := by decide +kernel
theorem cd_i98_112 : cd_I 98 112 = some (.aload_n 0, 0, 0) := by decide +kernel
theorem cd_i98_113 : cd_I 98 113 = some (.bipush 33, 0, 0) := by decide +kernel
theorem cd_i98_115 : cd_I 98 115 = some (.newarray .int, 0, 0) := by decide +kernel
theorem cd_i98_117 : cd_I 98 117 = some (.putfield 55, 11, 20) := by decide +kernel
theorem cd_i98_120 : cd_I 98 120 = some (.aload_n 0, 0, 0) := by decide +kernel
theorem cd_i98_121 : cd_I 98 121 = some (.bipush 33, 0, 0) := by decide +kernel
theorem cd_i98_123 : cd_I 98 123 = some (.newarray .int, 0, 0) := by decide +kernel
theorem cd_i98_125 : cd_I 98 125 = some (.putfield 58, 11, 21) := by decide +kernel
theorem cd_i98_128 : cd_I 98 128 = some (.aload_n 0, 0, 0) := by decide +kernel
theorem cd_i98_129 : cd_I 98 129 = some (.bipush 33, 0, 0) := by decide +kernel
theorem cd_i98_131 : cd_I 98 131 = some (.newarray .int, 0, 0) := by decide +kernel
theorem cd_i98_133 : cd_I 98 133 = some (.putfield 61, 11, 22) := by decide +kernel
theorem cd_i98_136 : cd_I 98 136 = some (.aload_n 0, 0, 0) := by decide +kernel
theorem cd_i98_137 : cd_I 98 137 = some (.sipush 792, 0, 0) := by decide +kernel
theorem cd_i98_140 : cd_I 98 140 = some (.newarray .char, 0, 0) := by decide +kernel
theorem cd_i98_142 : cd_I 98 142 = some (.putfield 64, 11, 23) := by decide +kernel
theorem cd_i98_145 : cd_I 98 145 = some (.aload_n 0, 0, 0) := by decide +kernel
theorem cd_i98_146 : cd_I 98 146 = some (.sipush 200, 0, 0) := by decide +kernel
theorem cd_i98_149 : cd_I 98 149 = some (.newarray .char, 0, 0) := by decide +kernel
theorem cd_i98_151 : cd_I 98 151 = some (.putfield 67, 11, 26) := by decide +kernel
theorem cd_i98_154 : cd_I 98 154 = some (.aload_n 0, 0, 0) := by decide +kernel
theorem cd_i98_155 : cd_I 98 155 = some (.bipush 10, 0, 0) := by decide +kernel
theorem cd_i98_157 : cd_I 98 157 = some (.newarray .int, 0, 0) := by decide +kernel
theorem cd_i98_159 : cd_I 98 159 = some (.putfield 70, 11, 28) := by decide +kernel
theorem cd_i98_162 : cd_I 98 162 = some (.aload_n 0, 0, 0) := by decide +kernel
theorem cd_i98_163 : cd_I 98 163 = some (.bipush 10, 0, 0) := by decide +kernel
theorem cd_i98_165 : cd_I 98 165 = some (.newarray .int, 0, 0) := by decide +kernel
theorem cd_i98_167 : cd_I 98 167 = some (.putfield 73, 11, 29) := by decide +kernel
theorem cd_i98_170 : cd_I 98 170 = some (.aload_n 0, 0, 0) := by decide +kernel
theorem cd_i98_171 : cd_I 98 171 = some (.bipush 10, 0, 0) := by decide +kernel
theorem cd_i98_173 : cd_I 98 173 = some (.newarray .int, 0, 0) := by decide +kernel
theorem cd_i98_175 : cd_I 98 175 = some (.putfield 76, 11, 30) := by decide +kernel
theorem cd_i98_178 : cd_I 98 178 = some (.aload_n 0, 0, 0) := by decide +kernel
theorem cd_i98_179 : cd_I 98 179 = some (.sipush 240, 0, 0) := by decide +kernel
theorem cd_i98_182 : cd_I 98 182 = some (.newarray .char, 0, 0) := by decide +kernel
theorem cd_i98_184 : cd_I 98 184 = some (.putfield 79, 11, 31) := by decide +kernel
theorem cd_i98_187 : cd_I 98 187 = some (.aload_n 0, 0, 0) := by decide +kernel
theorem cd_i98_188 : cd_I 98 188 = some (.sipush 130, 0, 0) := by decide +kernel
theorem cd_i98_191 : cd_I 98 191 = some (.newarray .int, 0, 0) := by decide +kernel
theorem cd_i98_193 : cd_I 98 193 = some (.putfield 82, 11, 34) := by decide +kernel
theorem cd_i98_196 : cd_I 98 196 = some (.aload_n 0, 0, 0) := by decide +kernel
theorem cd_i98_197 : cd_I 98 197 = some (.sipush 130, 0, 0) := by decide +kernel
theorem cd_i98_200 : cd_I 98 200 = some (.newarray .int, 0, 0) := by decide +kernel
theorem cd_i98_202 : cd_I 98 202 = some (.putfield 85, 11, 35) := by decide +kernel
theorem cd_i98_205 : cd_I 98 205 = some (.return_, 0, 0) := by decide +kernel
