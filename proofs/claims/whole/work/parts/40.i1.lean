theorem cd_i32_0 : cd_I 32 0 = some (.aload_n 0, 0, 0) := by decide +kernel
theorem cd_i32_1 : cd_I 32 1 = some (.getfield 9, 5, 0) := by decide +kernel
theorem cd_i32_4 : cd_I 32 4 = some (.invokevirtual 19, 33, 0) := by decide +kernel
theorem cd_i32_7 : cd_I 32 7 = some (.istore_n 1, 0, 0) := by decide +kernel
theorem cd_i32_8 : cd_I 32 8 = some (.iload_n 1, 0, 0) := by decide +kernel
theorem cd_i32_9 : cd_I 32 9 = some (.iconst (-1), 0, 0) := by decide +kernel
theorem cd_i32_10 : cd_I 32 10 = some (.if_icmp .eq 19, 29, 0) := by decide +kernel
theorem cd_i32_13 : cd_I 32 13 = some (.aload_n 0, 0, 0) := by decide +kernel
theorem cd_i32_14 : cd_I 32 14 = some (.getfield 9, 5, 0) := by decide +kernel
theorem cd_i32_17 : cd_I 32 17 = some (.bipush 58, 0, 0) := by decide +kernel
theorem cd_i32_19 : cd_I 32 19 = some (.invokevirtual 25, 34, 1) := by decide +kernel
theorem cd_i32_22 : cd_I 32 22 = some (.ifCond .eq 7, 29, 0) := by decide +kernel
theorem cd_i32_25 : cd_I 32 25 = some (.iconst 1, 0, 0) := by decide +kernel
theorem cd_i32_26 : cd_I 32 26 = some (.goto 4, 30, 0) := by decide +kernel
theorem cd_i32_29 : cd_I 32 29 = some (.iconst 0, 0, 0) := by decide +kernel
theorem cd_i32_30 : cd_I 32 30 = some (.istore_n 2, 0, 0) := by decide +kernel
theorem cd_i32_31 : cd_I 32 31 = some (.iload_n 2, 0, 0) := by decide +kernel
theorem cd_i32_32 : cd_I 32 32 = some (.ifCond .eq 20, 52, 0) := by decide +kernel
theorem cd_i32_35 : cd_I 32 35 = some (.aload_n 0, 0, 0) := by decide +kernel
theorem cd_i32_36 : cd_I 32 36 = some (.getfield 15, 5, 1) := by decide +kernel
theorem cd_i32_39 : cd_I 32 39 = some (.aload_n 0, 0, 0) := by decide +kernel
theorem cd_i32_40 : cd_I 32 40 = some (.getfield 9, 5, 0) := by decide +kernel
theorem cd_i32_43 : cd_I 32 43 = some (.invokevirtual 19, 33, 0) := by decide +kernel
theorem cd_i32_46 : cd_I 32 46 = some (.invokevirtual 29, 22, 1) := by decide +kernel
theorem cd_i32_49 : cd_I 32 49 = some (.goto 4, 53, 0) := by decide +kernel
theorem cd_i32_52 : cd_I 32 52 = some (.aconst_null, 0, 0) := by decide +kernel
theorem cd_i32_53 : cd_I 32 53 = some (.astore_n 3, 0, 0) := by decide +kernel
theorem cd_i32_54 : cd_I 32 54 = some (.iload_n 1, 0, 0) := by decide +kernel
theorem cd_i32_55 : cd_I 32 55 = some (.iconst (-1), 0, 0) := by decide +kernel
theorem cd_i32_56 : cd_I 32 56 = some (.if_icmp .eq 23, 79, 0) := by decide +kernel
theorem cd_i32_59 : cd_I 32 59 = some (.iload_n 2, 0, 0) := by decide +kernel
theorem cd_i32_60 : cd_I 32 60 = some (.ifCond .eq 7, 67, 0) := by decide +kernel
theorem cd_i32_63 : cd_I 32 63 = some (.aload_n 3, 0, 0) := by decide +kernel
theorem cd_i32_64 : cd_I 32 64 = some (.ifnull 15, 79, 0) := by decide +kernel
theorem cd_i32_67 : cd_I 32 67 = some (.aload_n 0, 0, 0) := by decide +kernel
theorem cd_i32_68 : cd_I 32 68 = some (.getfield 9, 5, 0) := by decide +kernel
theorem cd_i32_71 : cd_I 32 71 = some (.bipush 123, 0, 0) := by decide +kernel
theorem cd_i32_73 : cd_I 32 73 = some (.invokevirtual 25, 34, 1) := by decide +kernel
theorem cd_i32_76 : cd_I 32 76 = some (.ifCond .ne 5, 81, 0) := by decide +kernel
theorem cd_i32_79 : cd_I 32 79 = some (.aconst_null, 0, 0) := by decide +kernel
theorem cd_i32_80 : cd_I 32 80 = some (.areturn, 0, 0) := by decide +kernel
theorem cd_i32_81 : cd_I 32 81 = some (.new 35, 4, 0) := by decide +kernel
theorem cd_i32_84 : cd_I 32 84 = some (.dup, 0, 0) := by decide +kernel
theorem cd_i32_85 : cd_I 32 85 = some (.iload_n 1, 0, 0) := by decide +kernel
theorem cd_i32_86 : cd_I 32 86 = some (.aload_n 3, 0, 0) := by decide +kernel
theorem cd_i32_87 : cd_I 32 87 = some (.invokespecial 37, 36, 2) := by decide +kernel
theorem cd_i32_90 : cd_I 32 90 = some (.areturn, 0, 0) := by decide +kernel
theorem cd_i33_0 : cd_I 33 0 = some (.aload_n 0, 0, 0) := by decide +kernel
theorem cd_i33_1 : cd_I 33 1 = some (.getfield 19, 1, 2) := by decide +kernel
theorem cd_i33_4 : cd_I 33 4 = some (.aload_n 0, 0, 0) := by decide +kernel
theorem cd_i33_5 : cd_I 33 5 = some (.getfield 15, 1, 1) := by decide +kernel
theorem cd_i33_8 : cd_I 33 8 = some (.if_icmp .eq 21, 29, 0) := by decide +kernel
theorem cd_i33_11 : cd_I 33 11 = some (.aload_n 0, 0, 0) := by decide +kernel
theorem cd_i33_12 : cd_I 33 12 = some (.getfield 9, 1, 0) := by decide +kernel
theorem cd_i33_15 : cd_I 33 15 = some (.aload_n 0, 0, 0) := by decide +kernel
theorem cd_i33_16 : cd_I 33 16 = some (.getfield 19, 1, 2) := by decide +kernel
theorem cd_i33_19 : cd_I 33 19 = some (.caload, 0, 0) := by decide +kernel
theorem cd_i33_20 : cd_I 33 20 = some (.bipush 65, 0, 0) := by decide +kernel
theorem cd_i33_22 : cd_I 33 22 = some (.isub, 0, 0) := by decide +kernel
theorem cd_i33_23 : cd_I 33 23 = some (.invokestatic 35, 24, 1) := by decide +kernel
theorem cd_i33_26 : cd_I 33 26 = some (.ifCond .ne 5, 31, 0) := by decide +kernel
theorem cd_i33_29 : cd_I 33 29 = some (.iconst (-1), 0, 0) := by decide +kernel
theorem cd_i33_30 : cd_I 33 30 = some (.ireturn, 0, 0) := by decide +kernel
theorem cd_i33_31 : cd_I 33 31 = some (.aload_n 0, 0, 0) := by decide +kernel
theorem cd_i33_32 : cd_I 33 32 = some (.getfield 9, 1, 0) := by decide +kernel
theorem cd_i33_35 : cd_I 33 35 = some (.aload_n 0, 0, 0) := by decide +kernel
theorem cd_i33_36 : cd_I 33 36 = some (.dup, 0, 0) := by decide +kernel
theorem cd_i33_37 : cd_I 33 37 = some (.getfield 19, 1, 2) := by decide +kernel
theorem cd_i33_40 : cd_I 33 40 = some (.dup_x1, 0, 0) := by decide +kernel
theorem cd_i33_41 : cd_I 33 41 = some (.iconst 1, 0, 0) := by decide +kernel
theorem cd_i33_42 : cd_I 33 42 = some (.iadd, 0, 0) := by decide +kernel
theorem cd_i33_43 : cd_I 33 43 = some (.putfield 19, 1, 2) := by decide +kernel
theorem cd_i33_46 : cd_I 33 46 = some (.caload, 0, 0) := by decide +kernel
theorem cd_i33_47 : cd_I 33 47 = some (.bipush 65, 0, 0) := by decide +kernel
theorem cd_i33_49 : cd_I 33 49 = some (.isub, 0, 0) := by decide +kernel
theorem cd_i33_50 : cd_I 33 50 = some (.ireturn, 0, 0) := by decide +kernel
theorem cd_i34_0 : cd_I 34 0 = some (.aload_n 0, 0, 0) := by decide +kernel
theorem cd_i34_1 : cd_I 34 1 = some (.iload_n 1, 0, 0) := by decide +kernel
theorem cd_i34_2 : cd_I 34 2 = some (.invokevirtual 22, 35, 1) := by decide +kernel
theorem cd_i34_5 : cd_I 34 5 = some (.ifCond .ne 5, 10, 0) := by decide +kernel
theorem cd_i34_8 : cd_I 34 8 = some (.iconst 0, 0, 0) := by decide +kernel
theorem cd_i34_9 : cd_I 34 9 = some (.ireturn, 0, 0) := by decide +kernel
theorem cd_i34_10 : cd_I 34 10 = some (.aload_n 0, 0, 0) := by decide +kernel
theorem cd_i34_11 : cd_I 34 11 = some (.dup, 0, 0) := by decide +kernel
theorem cd_i34_12 : cd_I 34 12 = some (.getfield 19, 1, 2) := by decide +kernel
theorem cd_i34_15 : cd_I 34 15 = some (.iconst 1, 0, 0) := by decide +kernel
theorem cd_i34_16 : cd_I 34 16 = some (.iadd, 0, 0) := by decide +kernel
theorem cd_i34_17 : cd_I 34 17 = some (.putfield 19, 1, 2) := by decide +kernel
theorem cd_i34_20 : cd_I 34 20 = some (.iconst 1, 0, 0) := by decide +kernel
theorem cd_i34_21 : cd_I 34 21 = some (.ireturn, 0, 0) := by decide +kernel
theorem cd_i35_0 : cd_I 35 0 = some (.aload_n 0, 0, 0) := by decide +kernel
theorem cd_i35_1 : cd_I 35 1 = some (.getfield 19, 1, 2) := by decide +kernel
theorem cd_i35_4 : cd_I 35 4 = some (.aload_n 0, 0, 0) := by decide +kernel
theorem cd_i35_5 : cd_I 35 5 = some (.getfield 15, 1, 1) := by decide +kernel
theorem cd_i35_8 : cd_I 35 8 = some (.if_icmp .ge 20, 28, 0) := by decide +kernel
theorem cd_i35_11 : cd_I 35 11 = some (.aload_n 0, 0, 0) := by decide +kernel
theorem cd_i35_12 : cd_I 35 12 = some (.getfield 9, 1, 0) := by decide +kernel
theorem cd_i35_15 : cd_I 35 15 = some (.aload_n 0, 0, 0) := by decide +kernel
theorem cd_i35_16 : cd_I 35 16 = some (.getfield 19, 1, 2) := by decide +kernel
theorem cd_i35_19 : cd_I 35 19 = some (.caload, 0, 0) := by decide +kernel
theorem cd_i35_20 : cd_I 35 20 = some (.iload_n 1, 0, 0) := by decide +kernel
theorem cd_i35_21 : cd_I 35 21 = some (.if_icmp .ne 7, 28, 0) := by decide +kernel
theorem cd_i35_24 : cd_I 35 24 = some (.iconst 1, 0, 0) := by decide +kernel
theorem cd_i35_25 : cd_I 35 25 = some (.goto 4, 29, 0) := by decide +kernel
theorem cd_i35_28 : cd_I 35 28 = some (.iconst 0, 0, 0) := by decide +kernel
theorem cd_i35_29 : cd_I 35 29 = some (.ireturn, 0, 0) := by decide +kernel
theorem cd_i36_0 : cd_I 36 0 = some (.aload_n 0, 0, 0) := by decide +kernel
theorem cd_i36_1 : cd_I 36 1 = some (.invokespecial 3, 1000, 0) := by decide +kernel
theorem cd_i36_4 : cd_I 36 4 = some (.aload_n 0, 0, 0) := by decide +kernel
theorem cd_i36_5 : cd_I 36 5 = some (.bipush 6, 0, 0) := by decide +kernel
theorem cd_i36_7 : cd_I 36 7 = some (.anewarray 9, 7, 0) := by decide +kernel
theorem cd_i36_10 : cd_I 36 10 = some (.putfield 11, 4, 2) := by decide +kernel
theorem cd_i36_13 : cd_I 36 13 = some (.aload_n 0, 0, 0) := by decide +kernel
theorem cd_i36_14 : cd_I 36 14 = some (.iload_n 1, 0, 0) := by decide +kernel
theorem cd_i36_15 : cd_I 36 15 = some (.putfield 17, 4, 0) := by decide +kernel
theorem cd_i36_18 : cd_I 36 18 = some (.aload_n 0, 0, 0) := by decide +kernel
theorem cd_i36_19 : cd_I 36 19 = some (.aload_n 2, 0, 0) := by decide +kernel
theorem cd_i36_20 : cd_I 36 20 = some (.putfield 21, 4, 1) := by decide +kernel
theorem cd_i36_23 : cd_I 36 23 = some (.return_, 0, 0) := by decide +kernel
theorem cd_i37_0 : cd_I 37 0 = some (.aload_n 0, 0, 0) := by decide +kernel
theorem cd_i37_1 : cd_I 37 1 = some (.getfield 9, 5, 0) := by decide +kernel
theorem cd_i37_4 : cd_I 37 4 = some (.bipush 125, 0, 0) := by decide +kernel
theorem cd_i37_6 : cd_I 37 6 = some (.invokevirtual 25, 34, 1) := by decide +kernel
theorem cd_i37_9 : cd_I 37 9 = some (.ifCond .eq 5, 14, 0) := by decide +kernel
theorem cd_i37_12 : cd_I 37 12 = some (.iconst 1, 0, 0) := by decide +kernel
theorem cd_i37_13 : cd_I 37 13 = some (.ireturn, 0, 0) := by decide +kernel
theorem cd_i37_14 : cd_I 37 14 = some (.iconst 0, 0, 0) := by decide +kernel
theorem cd_i37_15 : cd_I 37 15 = some (.istore_n 2, 0, 0) := by decide +kernel
theorem cd_i37_16 : cd_I 37 16 = some (.iload_n 2, 0, 0) := by decide +kernel
theorem cd_i37_17 : cd_I 37 17 = some (.bipush 6, 0, 0) := by decide +kernel
theorem cd_i37_19 : cd_I 37 19 = some (.if_icmp .ge 41, 60, 0) := by decide +kernel
theorem cd_i37_22 : cd_I 37 22 = some (.aload_n 0, 0, 0) := by decide +kernel
theorem cd_i37_23 : cd_I 37 23 = some (.aload_n 1, 0, 0) := by decide +kernel
theorem cd_i37_24 : cd_I 37 24 = some (.invokevirtual 40, 38, 1) := by decide +kernel
theorem cd_i37_27 : cd_I 37 27 = some (.ifCond .ne 5, 32, 0) := by decide +kernel
theorem cd_i37_30 : cd_I 37 30 = some (.iconst 0, 0, 0) := by decide +kernel
theorem cd_i37_31 : cd_I 37 31 = some (.ireturn, 0, 0) := by decide +kernel
theorem cd_i37_32 : cd_I 37 32 = some (.aload_n 0, 0, 0) := by decide +kernel
theorem cd_i37_33 : cd_I 37 33 = some (.getfield 9, 5, 0) := by decide +kernel
theorem cd_i37_36 : cd_I 37 36 = some (.bipush 59, 0, 0) := by decide +kernel
theorem cd_i37_38 : cd_I 37 38 = some (.invokevirtual 25, 34, 1) := by decide +kernel
theorem cd_i37_41 : cd_I 37 41 = some (.ifCond .ne 13, 54, 0) := by decide +kernel
theorem cd_i37_44 : cd_I 37 44 = some (.aload_n 0, 0, 0) := by decide +kernel
theorem cd_i37_45 : cd_I 37 45 = some (.getfield 9, 5, 0) := by decide +kernel
theorem cd_i37_48 : cd_I 37 48 = some (.bipush 125, 0, 0) := by decide +kernel
theorem cd_i37_50 : cd_I 37 50 = some (.invokevirtual 25, 34, 1) := by decide +kernel
theorem cd_i37_53 : cd_I 37 53 = some (.ireturn, 0, 0) := by decide +kernel
theorem cd_i37_54 : cd_I 37 54 = some (.iinc 2 1, 0, 0) := by decide +kernel
theorem cd_i37_57 : cd_I 37 57 = some (.goto (-41), 16, 0) := by decide +kernel
theorem cd_i37_60 : cd_I 37 60 = some (.iconst 0, 0, 0) := by decide +kernel
theorem cd_i37_61 : cd_I 37 61 = some (.ireturn, 0, 0) := by decide +kernel
theorem cd_i38_0 : cd_I 38 0 = some (.aload_n 0, 0, 0) := by decide +kernel
theorem cd_i38_1 : cd_I 38 1 = some (.getfield 9, 5, 0) := by decide +kernel
theorem cd_i38_4 : cd_I 38 4 = some (.ldc 44, 10, 0) := by decide +kernel
theorem cd_i38_6 : cd_I 38 6 = some (.invokevirtual 46, 39, 1) := by decide +kernel
theorem cd_i38_9 : cd_I 38 9 = some (.istore_n 2, 0, 0) := by decide +kernel
theorem cd_i38_10 : cd_I 38 10 = some (.aload_n 0, 0, 0) := by decide +kernel
theorem cd_i38_11 : cd_I 38 11 = some (.getfield 9, 5, 0) := by decide +kernel
theorem cd_i38_14 : cd_I 38 14 = some (.ldc 50, 11, 0) := by decide +kernel
theorem cd_i38_16 : cd_I 38 16 = some (.invokevirtual 46, 39, 1) := by decide +kernel
theorem cd_i38_19 : cd_I 38 19 = some (.ifCond .eq 15, 34, 0) := by decide +kernel
theorem cd_i38_22 : cd_I 38 22 = some (.aload_n 0, 0, 0) := by decide +kernel
theorem cd_i38_23 : cd_I 38 23 = some (.iload_n 2, 0, 0) := by decide +kernel
theorem cd_i38_24 : cd_I 38 24 = some (.aload_n 1, 0, 0) := by decide +kernel
theorem cd_i38_25 : cd_I 38 25 = some (.getfield 52, 4, 0) := by decide +kernel
theorem cd_i38_28 : cd_I 38 28 = some (.invokevirtual 56, 47, 2) := by decide +kernel
theorem cd_i38_31 : cd_I 38 31 = some (.goto 8, 39, 0) := by decide +kernel
theorem cd_i38_34 : cd_I 38 34 = some (.aload_n 0, 0, 0) := by decide +kernel
theorem cd_i38_35 : cd_I 38 35 = some (.iload_n 2, 0, 0) := by decide +kernel
theorem cd_i38_36 : cd_I 38 36 = some (.invokevirtual 60, 53, 1) := by decide +kernel
theorem cd_i38_39 : cd_I 38 39 = some (.astore_n 3, 0, 0) := by decide +kernel
theorem cd_i38_40 : cd_I 38 40 = some (.aload_n 3, 0, 0) := by decide +kernel
theorem cd_i38_41 : cd_I 38 41 = some (.ifnull 23, 64, 0) := by decide +kernel
theorem cd_i38_44 : cd_I 38 44 = some (.aload_n 1, 0, 0) := by decide +kernel
theorem cd_i38_45 : cd_I 38 45 = some (.aload_n 3, 0, 0) := by decide +kernel
theorem cd_i38_46 : cd_I 38 46 = some (.invokevirtual 64, 55, 1) := by decide +kernel
theorem cd_i38_49 : cd_I 38 49 = some (.ifCond .eq 15, 64, 0) := by decide +kernel
theorem cd_i38_52 : cd_I 38 52 = some (.aload_n 1, 0, 0) := by decide +kernel
theorem cd_i38_53 : cd_I 38 53 = some (.aload_n 3, 0, 0) := by decide +kernel
theorem cd_i38_54 : cd_I 38 54 = some (.invokevirtual 68, 58, 1) := by decide +kernel
theorem cd_i38_57 : cd_I 38 57 = some (.ifCond .eq 7, 64, 0) := by decide +kernel
theorem cd_i38_60 : cd_I 38 60 = some (.iconst 1, 0, 0) := by decide +kernel
theorem cd_i38_61 : cd_I 38 61 = some (.goto 4, 65, 0) := by decide +kernel
theorem cd_i38_64 : cd_I 38 64 = some (.iconst 0, 0, 0) := by decide +kernel
theorem cd_i38_65 : cd_I 38 65 = some (.ireturn, 0, 0) := by decide +kernel
theorem cd_i39_0 : cd_I 39 0 = some (.aload_n 1, 0, 0) := by decide +kernel
theorem cd_i39_1 : cd_I 39 1 = some (.invokevirtual 26, 40, 0) := by decide +kernel
theorem cd_i39_4 : cd_I 39 4 = some (.aload_n 0, 0, 0) := by decide +kernel
theorem cd_i39_5 : cd_I 39 5 = some (.getfield 15, 1, 1) := by decide +kernel
theorem cd_i39_8 : cd_I 39 8 = some (.aload_n 0, 0, 0) := by decide +kernel
theorem cd_i39_9 : cd_I 39 9 = some (.getfield 19, 1, 2) := by decide +kernel
theorem cd_i39_12 : cd_I 39 12 = some (.isub, 0, 0) := by decide +kernel
theorem cd_i39_13 : cd_I 39 13 = some (.if_icmp .le 5, 18, 0) := by decide +kernel
theorem cd_i39_16 : cd_I 39 16 = some (.iconst 0, 0, 0) := by decide +kernel
theorem cd_i39_17 : cd_I 39 17 = some (.ireturn, 0, 0) := by decide +kernel
theorem cd_i39_18 : cd_I 39 18 = some (.iconst 0, 0, 0) := by decide +kernel
theorem cd_i39_19 : cd_I 39 19 = some (.istore_n 2, 0, 0) := by decide +kernel
theorem cd_i39_20 : cd_I 39 20 = some (.iload_n 2, 0, 0) := by decide +kernel
theorem cd_i39_21 : cd_I 39 21 = some (.aload_n 1, 0, 0) := by decide +kernel
theorem cd_i39_22 : cd_I 39 22 = some (.invokevirtual 26, 40, 0) := by decide +kernel
theorem cd_i39_25 : cd_I 39 25 = some (.if_icmp .ge 30, 55, 0) := by decide +kernel
theorem cd_i39_28 : cd_I 39 28 = some (.aload_n 0, 0, 0) := by decide +kernel
theorem cd_i39_29 : cd_I 39 29 = some (.getfield 9, 1, 0) := by decide +kernel
theorem cd_i39_32 : cd_I 39 32 = some (.aload_n 0, 0, 0) := by decide +kernel
theorem cd_i39_33 : cd_I 39 33 = some (.getfield 19, 1, 2) := by decide +kernel
theorem cd_i39_36 : cd_I 39 36 = some (.iload_n 2, 0, 0) := by decide +kernel
theorem cd_i39_37 : cd_I 39 37 = some (.iadd, 0, 0) := by decide +kernel
theorem cd_i39_38 : cd_I 39 38 = some (.caload, 0, 0) := by decide +kernel
theorem cd_i39_39 : cd_I 39 39 = some (.aload_n 1, 0, 0) := by decide +kernel
theorem cd_i39_40 : cd_I 39 40 = some (.iload_n 2, 0, 0) := by decide +kernel
theorem cd_i39_41 : cd_I 39 41 = some (.invokevirtual 31, 42, 1) := by decide +kernel
theorem cd_i39_44 : cd_I 39 44 = some (.if_icmp .eq 5, 49, 0) := by decide +kernel
theorem cd_i39_47 : cd_I 39 47 = some (.iconst 0, 0, 0) := by decide +kernel
theorem cd_i39_48 : cd_I 39 48 = some (.ireturn, 0, 0) := by decide +kernel
theorem cd_i39_49 : cd_I 39 49 = some (.iinc 2 1, 0, 0) := by decide +kernel
theorem cd_i39_52 : cd_I 39 52 = some (.goto (-32), 20, 0) := by decide +kernel
theorem cd_i39_55 : cd_I 39 55 = some (.aload_n 0, 0, 0) := by decide +kernel
theorem cd_i39_56 : cd_I 39 56 = some (.dup, 0, 0) := by decide +kernel
theorem cd_i39_57 : cd_I 39 57 = some (.getfield 19, 1, 2) := by decide +kernel
theorem cd_i39_60 : cd_I 39 60 = some (.aload_n 1, 0, 0) := by decide +kernel
theorem cd_i39_61 : cd_I 39 61 = some (.invokevirtual 26, 40, 0) := by decide +kernel
theorem cd_i39_64 : cd_I 39 64 = some (.iadd, 0, 0) := by decide +kernel
theorem cd_i39_65 : cd_I 39 65 = some (.putfield 19, 1, 2) := by decide +kernel
theorem cd_i39_68 : cd_I 39 68 = some (.iconst 1, 0, 0) := by decide +kernel
theorem cd_i39_69 : cd_I 39 69 = some (.ireturn, 0, 0) := by decide +kernel
theorem cd_i40_0 : cd_I 40 0 = some (.aload_n 0, 0, 0) := by decide +kernel
theorem cd_i40_1 : cd_I 40 1 = some (.getfield 9, 50, 0) := by decide +kernel
theorem cd_i40_4 : cd_I 40 4 = some (.arraylength, 0, 0) := by decide +kernel
theorem cd_i40_5 : cd_I 40 5 = some (.aload_n 0, 0, 0) := by decide +kernel
theorem cd_i40_6 : cd_I 40 6 = some (.invokevirtual 335, 41, 0) := by decide +kernel
theorem cd_i40_9 : cd_I 40 9 = some (.ishr, 0, 0) := by decide +kernel
theorem cd_i40_10 : cd_I 40 10 = some (.ireturn, 0, 0) := by decide +kernel
theorem cd_i41_0 : cd_I 41 0 = some (.getstatic 38, 3, 0) := by decide +kernel
theorem cd_i41_3 : cd_I 41 3 = some (.ifCond .eq 10, 13, 0) := by decide +kernel
theorem cd_i41_6 : cd_I 41 6 = some (.aload_n 0, 0, 0) := by decide +kernel
theorem cd_i41_7 : cd_I 41 7 = some (.getfield 15, 50, 1) := by decide +kernel
theorem cd_i41_10 : cd_I 41 10 = some (.goto 4, 14, 0) := by decide +kernel
theorem cd_i41_13 : cd_I 41 13 = some (.iconst 1, 0, 0) := by decide +kernel
theorem cd_i41_14 : cd_I 41 14 = some (.ireturn, 0, 0) := by decide +kernel
theorem cd_i42_0 : cd_I 42 0 = some (.aload_n 0, 0, 0) := by decide +kernel
theorem cd_i42_1 : cd_I 42 1 = some (.invokevirtual 492, 43, 0) := by decide +kernel
theorem cd_i42_4 : cd_I 42 4 = some (.ifCond .eq 12, 16, 0) := by decide +kernel
theorem cd_i42_7 : cd_I 42 7 = some (.aload_n 0, 0, 0) := by decide +kernel
theorem cd_i42_8 : cd_I 42 8 = some (.getfield 9, 50, 0) := by decide +kernel
theorem cd_i42_11 : cd_I 42 11 = some (.iload_n 1, 0, 0) := by decide +kernel
theorem cd_i42_12 : cd_I 42 12 = some (.invokestatic 495, 44, 2) := by decide +kernel
theorem cd_i42_15 : cd_I 42 15 = some (.ireturn, 0, 0) := by decide +kernel
theorem cd_i42_16 : cd_I 42 16 = some (.aload_n 0, 0, 0) := by decide +kernel
theorem cd_i42_17 : cd_I 42 17 = some (.getfield 9, 50, 0) := by decide +kernel
theorem cd_i42_20 : cd_I 42 20 = some (.iload_n 1, 0, 0) := by decide +kernel
theorem cd_i42_24 : cd_I 42 24 = some (.ireturn, 0, 0) := by decide +kernel
theorem cd_i43_0 : cd_I 43 0 = some (.getstatic 38, 3, 0) := by decide +kernel
theorem cd_i43_3 : cd_I 43 3 = some (.ifCond .eq 14, 17, 0) := by decide +kernel
theorem cd_i43_6 : cd_I 43 6 = some (.aload_n 0, 0, 0) := by decide +kernel
theorem cd_i43_7 : cd_I 43 7 = some (.getfield 15, 50, 1) := by decide +kernel
theorem cd_i43_10 : cd_I 43 10 = some (.ifCond .ne 7, 17, 0) := by decide +kernel
theorem cd_i43_13 : cd_I 43 13 = some (.iconst 1, 0, 0) := by decide +kernel
theorem cd_i43_14 : cd_I 43 14 = some (.goto 4, 18, 0) := by decide +kernel
theorem cd_i43_17 : cd_I 43 17 = some (.iconst 0, 0, 0) := by decide +kernel
theorem cd_i43_18 : cd_I 43 18 = some (.ireturn, 0, 0) := by decide +kernel
theorem cd_i44_0 : cd_I 44 0 = some (.iload_n 1, 0, 0) := by decide +kernel
theorem cd_i44_1 : cd_I 44 1 = some (.aload_n 0, 0, 0) := by decide +kernel
theorem cd_i44_2 : cd_I 44 2 = some (.arraylength, 0, 0) := by decide +kernel
theorem cd_i44_3 : cd_I 44 3 = some (.invokestatic 9, 45, 2) := by decide +kernel
theorem cd_i44_6 : cd_I 44 6 = some (.aload_n 0, 0, 0) := by decide +kernel
theorem cd_i44_7 : cd_I 44 7 = some (.iload_n 1, 0, 0) := by decide +kernel
theorem cd_i44_8 : cd_I 44 8 = some (.baload, 0, 0) := by decide +kernel
theorem cd_i44_9 : cd_I 44 9 = some (.sipush 255, 0, 0) := by decide +kernel
theorem cd_i44_12 : cd_I 44 12 = some (.iand, 0, 0) := by decide +kernel
theorem cd_i44_13 : cd_I 44 13 = some (.i2c, 0, 0) := by decide +kernel
theorem cd_i44_14 : cd_I 44 14 = some (.ireturn, 0, 0) := by decide +kernel
theorem cd_i45_0 : cd_I 45 0 = some (.iload_n 0, 0, 0) := by decide +kernel
theorem cd_i45_1 : cd_I 45 1 = some (.iload_n 1, 0, 0) := by decide +kernel
theorem cd_i45_2 : cd_I 45 2 = some (.getstatic 1053, 4, 0) := by decide +kernel
theorem cd_i45_5 : cd_I 45 5 = some (.invokestatic 1059, 46, 3) := by decide +kernel
theorem cd_i45_8 : cd_I 45 8 = some (.pop, 0, 0) := by decide +kernel
theorem cd_i45_9 : cd_I 45 9 = some (.return_, 0, 0) := by decide +kernel
theorem cd_i46_0 : cd_I 46 0 = some (.iload_n 0, 0, 0) := by decide +kernel
theorem cd_i46_1 : cd_I 46 1 = some (.ifCond .lt 8, 9, 0) := by decide +kernel
theorem cd_i46_4 : cd_I 46 4 = some (.iload_n 0, 0, 0) := by decide +kernel
theorem cd_i46_5 : cd_I 46 5 = some (.iload_n 1, 0, 0) := by decide +kernel
theorem cd_i46_6 : cd_I 46 6 = some (.if_icmp .lt 10, 16, 0) := by decide +kernel
theorem cd_i46_9 : cd_I 46 9 = some (.aload_n 2, 0, 0) := by decide +kernel
theorem cd_i46_10 : cd_I 46 10 = some (.iload_n 0, 0, 0) := by decide +kernel
theorem cd_i46_11 : cd_I 46 11 = some (.iload_n 1, 0, 0) := by decide +kernel
theorem cd_i46_15 : cd_I 46 15 = some (.athrow, 0, 0) := by decide +kernel
theorem cd_i46_16 : cd_I 46 16 = some (.iload_n 0, 0, 0) := by decide +kernel
theorem cd_i46_17 : cd_I 46 17 = some (.ireturn, 0, 0) := by decide +kernel
theorem cd_i47_0 : cd_I 47 0 = some (.new 71, 7, 0) := by decide +kernel
theorem cd_i47_3 : cd_I 47 3 = some (.dup, 0, 0) := by decide +kernel
theorem cd_i47_4 : cd_I 47 4 = some (.getstatic 73, 2, 0) := by decide +kernel
theorem cd_i47_7 : cd_I 47 7 = some (.iload_n 1, 0, 0) := by decide +kernel
theorem cd_i47_8 : cd_I 47 8 = some (.iconst 0, 0, 0) := by decide +kernel
theorem cd_i47_9 : cd_I 47 9 = some (.iconst 0, 0, 0) := by decide +kernel
theorem cd_i47_10 : cd_I 47 10 = some (.invokespecial 79, 48, 4) := by decide +kernel
theorem cd_i47_13 : cd_I 47 13 = some (.astore_n 3, 0, 0) := by decide +kernel
theorem cd_i47_14 : cd_I 47 14 = some (.aload_n 3, 0, 0) := by decide +kernel
theorem cd_i47_15 : cd_I 47 15 = some (.iconst 3, 0, 0) := by decide +kernel
theorem cd_i47_16 : cd_I 47 16 = some (.iload_n 2, 0, 0) := by decide +kernel
theorem cd_i47_17 : cd_I 47 17 = some (.iadd, 0, 0) := by decide +kernel
theorem cd_i47_18 : cd_I 47 18 = some (.putfield 82, 7, 6) := by decide +kernel
theorem cd_i47_21 : cd_I 47 21 = some (.aload_n 0, 0, 0) := by decide +kernel
theorem cd_i47_22 : cd_I 47 22 = some (.aload_n 3, 0, 0) := by decide +kernel
theorem cd_i47_23 : cd_I 47 23 = some (.invokevirtual 85, 49, 1) := by decide +kernel
theorem cd_i47_26 : cd_I 47 26 = some (.ifCond .eq 7, 33, 0) := by decide +kernel
theorem cd_i47_29 : cd_I 47 29 = some (.aload_n 3, 0, 0) := by decide +kernel
theorem cd_i47_30 : cd_I 47 30 = some (.goto 4, 34, 0) := by decide +kernel
theorem cd_i47_33 : cd_I 47 33 = some (.aconst_null, 0, 0) := by decide +kernel
theorem cd_i47_34 : cd_I 47 34 = some (.areturn, 0, 0) := by decide +kernel
theorem cd_i48_0 : cd_I 48 0 = some (.aload_n 0, 0, 0) := by decide +kernel
theorem cd_i48_1 : cd_I 48 1 = some (.invokespecial 3, 1000, 0) := by decide +kernel
theorem cd_i48_4 : cd_I 48 4 = some (.aload_n 0, 0, 0) := by decide +kernel
theorem cd_i48_5 : cd_I 48 5 = some (.iconst 2, 0, 0) := by decide +kernel
theorem cd_i48_6 : cd_I 48 6 = some (.newarray .int, 0, 0) := by decide +kernel
theorem cd_i48_8 : cd_I 48 8 = some (.putfield 9, 7, 4) := by decide +kernel
theorem cd_i48_11 : cd_I 48 11 = some (.aload_n 0, 0, 0) := by decide +kernel
theorem cd_i48_12 : cd_I 48 12 = some (.aload_n 1, 0, 0) := by decide +kernel
theorem cd_i48_13 : cd_I 48 13 = some (.putfield 15, 7, 0) := by decide +kernel
theorem cd_i48_16 : cd_I 48 16 = some (.aload_n 0, 0, 0) := by decide +kernel
theorem cd_i48_17 : cd_I 48 17 = some (.iload_n 2, 0, 0) := by decide +kernel
theorem cd_i48_18 : cd_I 48 18 = some (.putfield 19, 7, 1) := by decide +kernel
theorem cd_i48_21 : cd_I 48 21 = some (.aload_n 0, 0, 0) := by decide +kernel
theorem cd_i48_22 : cd_I 48 22 = some (.iload_n 3, 0, 0) := by decide +kernel
theorem cd_i48_23 : cd_I 48 23 = some (.putfield 23, 7, 2) := by decide +kernel
theorem cd_i48_26 : cd_I 48 26 = some (.aload_n 0, 0, 0) := by decide +kernel
theorem cd_i48_27 : cd_I 48 27 = some (.iload 4, 0, 0) := by decide +kernel
theorem cd_i48_29 : cd_I 48 29 = some (.putfield 26, 7, 3) := by decide +kernel
theorem cd_i48_32 : cd_I 48 32 = some (.return_, 0, 0) := by decide +kernel
theorem cd_i49_0 : cd_I 49 0 = some (.aload_n 0, 0, 0) := by decide +kernel
theorem cd_i49_1 : cd_I 49 1 = some (.getfield 9, 5, 0) := by decide +kernel
theorem cd_i49_4 : cd_I 49 4 = some (.bipush 41, 0, 0) := by decide +kernel
theorem cd_i49_6 : cd_I 49 6 = some (.invokevirtual 25, 34, 1) := by decide +kernel
theorem cd_i49_9 : cd_I 49 9 = some (.ifCond .eq 5, 14, 0) := by decide +kernel
theorem cd_i49_12 : cd_I 49 12 = some (.iconst 1, 0, 0) := by decide +kernel
theorem cd_i49_13 : cd_I 49 13 = some (.ireturn, 0, 0) := by decide +kernel
theorem cd_i49_14 : cd_I 49 14 = some (.iconst 0, 0, 0) := by decide +kernel
theorem cd_i49_15 : cd_I 49 15 = some (.istore_n 2, 0, 0) := by decide +kernel
theorem cd_i49_16 : cd_I 49 16 = some (.iload_n 2, 0, 0) := by decide +kernel
theorem cd_i49_17 : cd_I 49 17 = some (.iconst 2, 0, 0) := by decide +kernel
theorem cd_i49_18 : cd_I 49 18 = some (.if_icmp .ge 51, 69, 0) := by decide +kernel
theorem cd_i49_21 : cd_I 49 21 = some (.aload_n 0, 0, 0) := by decide +kernel
theorem cd_i49_22 : cd_I 49 22 = some (.getfield 9, 5, 0) := by decide +kernel
theorem cd_i49_25 : cd_I 49 25 = some (.invokevirtual 99, 50, 0) := by decide +kernel
theorem cd_i49_28 : cd_I 49 28 = some (.istore_n 3, 0, 0) := by decide +kernel
theorem cd_i49_29 : cd_I 49 29 = some (.iload_n 3, 0, 0) := by decide +kernel
theorem cd_i49_30 : cd_I 49 30 = some (.iconst (-1), 0, 0) := by decide +kernel
theorem cd_i49_31 : cd_I 49 31 = some (.if_icmp .ne 5, 36, 0) := by decide +kernel
theorem cd_i49_34 : cd_I 49 34 = some (.iconst 0, 0, 0) := by decide +kernel
theorem cd_i49_35 : cd_I 49 35 = some (.ireturn, 0, 0) := by decide +kernel
theorem cd_i49_36 : cd_I 49 36 = some (.aload_n 1, 0, 0) := by decide +kernel
theorem cd_i49_37 : cd_I 49 37 = some (.iload_n 3, 0, 0) := by decide +kernel
theorem cd_i49_38 : cd_I 49 38 = some (.invokevirtual 102, 52, 1) := by decide +kernel
theorem cd_i49_41 : cd_I 49 41 = some (.aload_n 0, 0, 0) := by decide +kernel
theorem cd_i49_42 : cd_I 49 42 = some (.getfield 9, 5, 0) := by decide +kernel
theorem cd_i49_45 : cd_I 49 45 = some (.bipush 44, 0, 0) := by decide +kernel
theorem cd_i49_47 : cd_I 49 47 = some (.invokevirtual 25, 34, 1) := by decide +kernel
theorem cd_i49_50 : cd_I 49 50 = some (.ifCond .ne 13, 63, 0) := by decide +kernel
theorem cd_i49_53 : cd_I 49 53 = some (.aload_n 0, 0, 0) := by decide +kernel
theorem cd_i49_54 : cd_I 49 54 = some (.getfield 9, 5, 0) := by decide +kernel
theorem cd_i49_57 : cd_I 49 57 = some (.bipush 41, 0, 0) := by decide +kernel
theorem cd_i49_59 : cd_I 49 59 = some (.invokevirtual 25, 34, 1) := by decide +kernel
theorem cd_i49_62 : cd_I 49 62 = some (.ireturn, 0, 0) := by decide +kernel
theorem cd_i49_63 : cd_I 49 63 = some (.iinc 2 1, 0, 0) := by decide +kernel
theorem cd_i49_66 : cd_I 49 66 = some (.goto (-50), 16, 0) := by decide +kernel
theorem cd_i49_69 : cd_I 49 69 = some (.iconst 0, 0, 0) := by decide +kernel
theorem cd_i49_70 : cd_I 49 70 = some (.ireturn, 0, 0) := by decide +kernel
theorem cd_i50_0 : cd_I 50 0 = some (.aload_n 0, 0, 0) := by decide +kernel
theorem cd_i50_1 : cd_I 50 1 = some (.invokevirtual 39, 33, 0) := by decide +kernel
theorem cd_i50_4 : cd_I 50 4 = some (.istore_n 1, 0, 0) := by decide +kernel
theorem cd_i50_5 : cd_I 50 5 = some (.iload_n 1, 0, 0) := by decide +kernel
theorem cd_i50_6 : cd_I 50 6 = some (.iconst (-1), 0, 0) := by decide +kernel
theorem cd_i50_7 : cd_I 50 7 = some (.if_icmp .eq 7, 14, 0) := by decide +kernel
theorem cd_i50_10 : cd_I 50 10 = some (.iconst 3, 0, 0) := by decide +kernel
theorem cd_i50_11 : cd_I 50 11 = some (.iload_n 1, 0, 0) := by decide +kernel
theorem cd_i50_12 : cd_I 50 12 = some (.iadd, 0, 0) := by decide +kernel
theorem cd_i50_13 : cd_I 50 13 = some (.ireturn, 0, 0) := by decide +kernel
theorem cd_i50_14 : cd_I 50 14 = some (.aload_n 0, 0, 0) := by decide +kernel
theorem cd_i50_15 : cd_I 50 15 = some (.invokevirtual 42, 51, 0) := by decide +kernel
theorem cd_i50_18 : cd_I 50 18 = some (.lookupswitch 40 #[(6909556, 34), (1651470188, 38), (1819242087, 36)], 0, 0) := by decide +kernel
theorem cd_i50_52 : cd_I 50 52 = some (.iconst 0, 0, 0) := by decide +kernel
theorem cd_i50_53 : cd_I 50 53 = some (.ireturn, 0, 0) := by decide +kernel
theorem cd_i50_54 : cd_I 50 54 = some (.iconst 1, 0, 0) := by decide +kernel
theorem cd_i50_55 : cd_I 50 55 = some (.ireturn, 0, 0) := by decide +kernel
theorem cd_i50_56 : cd_I 50 56 = some (.iconst 2, 0, 0) := by decide +kernel
theorem cd_i50_57 : cd_I 50 57 = some (.ireturn, 0, 0) := by decide +kernel
theorem cd_i50_58 : cd_I 50 58 = some (.iconst (-1), 0, 0) := by decide +kernel
theorem cd_i50_59 : cd_I 50 59 = some (.ireturn, 0, 0) := by decide +kernel
theorem cd_i51_0 : cd_I 51 0 = some (.aload_n 0, 0, 0) := by decide +kernel
theorem cd_i51_1 : cd_I 51 1 = some (.getfield 19, 1, 2) := by decide +kernel
theorem cd_i51_4 : cd_I 51 4 = some (.istore_n 1, 0, 0) := by decide +kernel
theorem cd_i51_5 : cd_I 51 5 = some (.iconst 0, 0, 0) := by decide +kernel
theorem cd_i51_6 : cd_I 51 6 = some (.istore_n 2, 0, 0) := by decide +kernel
theorem cd_i51_7 : cd_I 51 7 = some (.aload_n 0, 0, 0) := by decide +kernel
theorem cd_i51_8 : cd_I 51 8 = some (.getfield 19, 1, 2) := by decide +kernel
theorem cd_i51_11 : cd_I 51 11 = some (.aload_n 0, 0, 0) := by decide +kernel
theorem cd_i51_12 : cd_I 51 12 = some (.getfield 15, 1, 1) := by decide +kernel
theorem cd_i51_15 : cd_I 51 15 = some (.if_icmp .ge 48, 63, 0) := by decide +kernel
theorem cd_i51_18 : cd_I 51 18 = some (.aload_n 0, 0, 0) := by decide +kernel
theorem cd_i51_19 : cd_I 51 19 = some (.getfield 9, 1, 0) := by decide +kernel
theorem cd_i51_22 : cd_I 51 22 = some (.aload_n 0, 0, 0) := by decide +kernel
theorem cd_i51_23 : cd_I 51 23 = some (.getfield 19, 1, 2) := by decide +kernel
theorem cd_i51_26 : cd_I 51 26 = some (.caload, 0, 0) := by decide +kernel
theorem cd_i51_27 : cd_I 51 27 = some (.istore_n 3, 0, 0) := by decide +kernel
theorem cd_i51_28 : cd_I 51 28 = some (.iload_n 3, 0, 0) := by decide +kernel
theorem cd_i51_29 : cd_I 51 29 = some (.bipush 97, 0, 0) := by decide +kernel
theorem cd_i51_31 : cd_I 51 31 = some (.if_icmp .lt 32, 63, 0) := by decide +kernel
theorem cd_i51_34 : cd_I 51 34 = some (.iload_n 3, 0, 0) := by decide +kernel
theorem cd_i51_35 : cd_I 51 35 = some (.bipush 122, 0, 0) := by decide +kernel
theorem cd_i51_37 : cd_I 51 37 = some (.if_icmp .le 6, 43, 0) := by decide +kernel
theorem cd_i51_40 : cd_I 51 40 = some (.goto 23, 63, 0) := by decide +kernel
theorem cd_i51_43 : cd_I 51 43 = some (.iload_n 2, 0, 0) := by decide +kernel
theorem cd_i51_44 : cd_I 51 44 = some (.bipush 8, 0, 0) := by decide +kernel
theorem cd_i51_46 : cd_I 51 46 = some (.ishl, 0, 0) := by decide +kernel
theorem cd_i51_47 : cd_I 51 47 = some (.iload_n 3, 0, 0) := by decide +kernel
theorem cd_i51_48 : cd_I 51 48 = some (.ior, 0, 0) := by decide +kernel
theorem cd_i51_49 : cd_I 51 49 = some (.istore_n 2, 0, 0) := by decide +kernel
theorem cd_i51_50 : cd_I 51 50 = some (.aload_n 0, 0, 0) := by decide +kernel
theorem cd_i51_51 : cd_I 51 51 = some (.dup, 0, 0) := by decide +kernel
theorem cd_i51_52 : cd_I 51 52 = some (.getfield 19, 1, 2) := by decide +kernel
theorem cd_i51_55 : cd_I 51 55 = some (.iconst 1, 0, 0) := by decide +kernel
theorem cd_i51_56 : cd_I 51 56 = some (.iadd, 0, 0) := by decide +kernel
theorem cd_i51_57 : cd_I 51 57 = some (.putfield 19, 1, 2) := by decide +kernel
theorem cd_i51_60 : cd_I 51 60 = some (.goto (-53), 7, 0) := by decide +kernel
theorem cd_i51_63 : cd_I 51 63 = some (.aload_n 0, 0, 0) := by decide +kernel
theorem cd_i51_64 : cd_I 51 64 = some (.getfield 19, 1, 2) := by decide +kernel
theorem cd_i51_67 : cd_I 51 67 = some (.iload_n 1, 0, 0) := by decide +kernel
theorem cd_i51_68 : cd_I 51 68 = some (.isub, 0, 0) := by decide +kernel
theorem cd_i51_69 : cd_I 51 69 = some (.iconst 4, 0, 0) := by decide +kernel
theorem cd_i51_70 : cd_I 51 70 = some (.if_icmp .gt 7, 77, 0) := by decide +kernel
theorem cd_i51_73 : cd_I 51 73 = some (.iload_n 2, 0, 0) := by decide +kernel
theorem cd_i51_74 : cd_I 51 74 = some (.goto 4, 78, 0) := by decide +kernel
theorem cd_i51_77 : cd_I 51 77 = some (.iconst 0, 0, 0) := by decide +kernel
theorem cd_i51_78 : cd_I 51 78 = some (.ireturn, 0, 0) := by decide +kernel
theorem cd_i52_0 : cd_I 52 0 = some (.aload_n 0, 0, 0) := by decide +kernel
theorem cd_i52_1 : cd_I 52 1 = some (.getfield 30, 7, 5) := by decide +kernel
theorem cd_i52_4 : cd_I 52 4 = some (.aload_n 0, 0, 0) := by decide +kernel
theorem cd_i52_5 : cd_I 52 5 = some (.getfield 9, 7, 4) := by decide +kernel
theorem cd_i52_8 : cd_I 52 8 = some (.arraylength, 0, 0) := by decide +kernel
theorem cd_i52_9 : cd_I 52 9 = some (.if_icmp .ge 23, 32, 0) := by decide +kernel
theorem cd_i52_12 : cd_I 52 12 = some (.aload_n 0, 0, 0) := by decide +kernel
theorem cd_i52_13 : cd_I 52 13 = some (.getfield 9, 7, 4) := by decide +kernel
theorem cd_i52_16 : cd_I 52 16 = some (.aload_n 0, 0, 0) := by decide +kernel
theorem cd_i52_17 : cd_I 52 17 = some (.getfield 30, 7, 5) := by decide +kernel
theorem cd_i52_20 : cd_I 52 20 = some (.iload_n 1, 0, 0) := by decide +kernel
theorem cd_i52_21 : cd_I 52 21 = some (.iastore, 0, 0) := by decide +kernel
theorem cd_i52_22 : cd_I 52 22 = some (.aload_n 0, 0, 0) := by decide +kernel
theorem cd_i52_23 : cd_I 52 23 = some (.dup, 0, 0) := by decide +kernel
theorem cd_i52_24 : cd_I 52 24 = some (.getfield 30, 7, 5) := by decide +kernel
theorem cd_i52_27 : cd_I 52 27 = some (.iconst 1, 0, 0) := by decide +kernel
theorem cd_i52_28 : cd_I 52 28 = some (.iadd, 0, 0) := by decide +kernel
theorem cd_i52_29 : cd_I 52 29 = some (.putfield 30, 7, 5) := by decide +kernel
theorem cd_i52_32 : cd_I 52 32 = some (.return_, 0, 0) := by decide +kernel
theorem cd_i53_0 : cd_I 53 0 = some (.aload_n 0, 0, 0) := by decide +kernel
theorem cd_i53_1 : cd_I 53 1 = some (.getfield 9, 5, 0) := by decide +kernel
theorem cd_i53_4 : cd_I 53 4 = some (.ldc 88, 12, 0) := by decide +kernel
theorem cd_i53_6 : cd_I 53 6 = some (.invokevirtual 46, 39, 1) := by decide +kernel
theorem cd_i53_9 : cd_I 53 9 = some (.istore_n 2, 0, 0) := by decide +kernel
theorem cd_i53_10 : cd_I 53 10 = some (.aload_n 0, 0, 0) := by decide +kernel
theorem cd_i53_11 : cd_I 53 11 = some (.getfield 9, 5, 0) := by decide +kernel
theorem cd_i53_14 : cd_I 53 14 = some (.invokevirtual 90, 54, 0) := by decide +kernel
theorem cd_i53_17 : cd_I 53 17 = some (.istore_n 3, 0, 0) := by decide +kernel
theorem cd_i53_18 : cd_I 53 18 = some (.iload_n 3, 0, 0) := by decide +kernel
theorem cd_i53_19 : cd_I 53 19 = some (.ifCond .ne 5, 24, 0) := by decide +kernel
theorem cd_i53_22 : cd_I 53 22 = some (.aconst_null, 0, 0) := by decide +kernel
theorem cd_i53_23 : cd_I 53 23 = some (.areturn, 0, 0) := by decide +kernel
theorem cd_i53_24 : cd_I 53 24 = some (.aload_n 0, 0, 0) := by decide +kernel
theorem cd_i53_25 : cd_I 53 25 = some (.getfield 9, 5, 0) := by decide +kernel
theorem cd_i53_28 : cd_I 53 28 = some (.bipush 40, 0, 0) := by decide +kernel
theorem cd_i53_30 : cd_I 53 30 = some (.invokevirtual 25, 34, 1) := by decide +kernel
theorem cd_i53_33 : cd_I 53 33 = some (.istore 4, 0, 0) := by decide +kernel
theorem cd_i53_35 : cd_I 53 35 = some (.iload 4, 0, 0) := by decide +kernel
theorem cd_i53_37 : cd_I 53 37 = some (.ifCond .eq 9, 46, 0) := by decide +kernel
theorem cd_i53_40 : cd_I 53 40 = some (.getstatic 93, 1, 0) := by decide +kernel
theorem cd_i53_43 : cd_I 53 43 = some (.goto 6, 49, 0) := by decide +kernel
theorem cd_i53_46 : cd_I 53 46 = some (.getstatic 96, 0, 0) := by decide +kernel
theorem cd_i53_49 : cd_I 53 49 = some (.astore 5, 0, 0) := by decide +kernel
theorem cd_i53_51 : cd_I 53 51 = some (.new 71, 7, 0) := by decide +kernel
theorem cd_i53_54 : cd_I 53 54 = some (.dup, 0, 0) := by decide +kernel
theorem cd_i53_55 : cd_I 53 55 = some (.aload 5, 0, 0) := by decide +kernel
theorem cd_i53_57 : cd_I 53 57 = some (.iload_n 1, 0, 0) := by decide +kernel
theorem cd_i53_58 : cd_I 53 58 = some (.iload_n 2, 0, 0) := by decide +kernel
theorem cd_i53_59 : cd_I 53 59 = some (.iload_n 3, 0, 0) := by decide +kernel
theorem cd_i53_60 : cd_I 53 60 = some (.invokespecial 79, 48, 4) := by decide +kernel
theorem cd_i53_63 : cd_I 53 63 = some (.astore 6, 0, 0) := by decide +kernel
theorem cd_i53_65 : cd_I 53 65 = some (.iload 4, 0, 0) := by decide +kernel
theorem cd_i53_67 : cd_I 53 67 = some (.ifCond .eq 12, 79, 0) := by decide +kernel
theorem cd_i53_70 : cd_I 53 70 = some (.aload_n 0, 0, 0) := by decide +kernel
theorem cd_i53_71 : cd_I 53 71 = some (.aload 6, 0, 0) := by decide +kernel
theorem cd_i53_73 : cd_I 53 73 = some (.invokevirtual 85, 49, 1) := by decide +kernel
theorem cd_i53_76 : cd_I 53 76 = some (.ifCond .eq 15, 91, 0) := by decide +kernel
theorem cd_i53_79 : cd_I 53 79 = some (.aload_n 0, 0, 0) := by decide +kernel
theorem cd_i53_80 : cd_I 53 80 = some (.getfield 9, 5, 0) := by decide +kernel
theorem cd_i53_83 : cd_I 53 83 = some (.bipush 58, 0, 0) := by decide +kernel
theorem cd_i53_85 : cd_I 53 85 = some (.invokevirtual 25, 34, 1) := by decide +kernel
theorem cd_i53_88 : cd_I 53 88 = some (.ifCond .ne 5, 93, 0) := by decide +kernel
theorem cd_i53_91 : cd_I 53 91 = some (.aconst_null, 0, 0) := by decide +kernel
theorem cd_i53_92 : cd_I 53 92 = some (.areturn, 0, 0) := by decide +kernel
theorem cd_i53_93 : cd_I 53 93 = some (.aload 6, 0, 0) := by decide +kernel
theorem cd_i53_95 : cd_I 53 95 = some (.aload_n 0, 0, 0) := by decide +kernel
theorem cd_i53_96 : cd_I 53 96 = some (.getfield 9, 5, 0) := by decide +kernel
theorem cd_i53_99 : cd_I 53 99 = some (.invokevirtual 99, 50, 0) := by decide +kernel
theorem cd_i53_102 : cd_I 53 102 = some (.putfield 82, 7, 6) := by decide +kernel
theorem cd_i53_105 : cd_I 53 105 = some (.aload 6, 0, 0) := by decide +kernel
theorem cd_i53_107 : cd_I 53 107 = some (.getfield 82, 7, 6) := by decide +kernel
theorem cd_i53_110 : cd_I 53 110 = some (.iconst (-1), 0, 0) := by decide +kernel
theorem cd_i53_111 : cd_I 53 111 = some (.if_icmp .ne 7, 118, 0) := by decide +kernel
theorem cd_i53_114 : cd_I 53 114 = some (.aconst_null, 0, 0) := by decide +kernel
theorem cd_i53_115 : cd_I 53 115 = some (.goto 5, 120, 0) := by decide +kernel
theorem cd_i53_118 : cd_I 53 118 = some (.aload 6, 0, 0) := by decide +kernel
theorem cd_i53_120 : cd_I 53 120 = some (.areturn, 0, 0) := by decide +kernel
theorem cd_i54_0 : cd_I 54 0 = some (.aload_n 0, 0, 0) := by decide +kernel
theorem cd_i54_1 : cd_I 54 1 = some (.invokevirtual 42, 51, 0) := by decide +kernel
theorem cd_i54_4 : cd_I 54 4 = some (.istore_n 1, 0, 0) := by decide +kernel
theorem cd_i54_5 : cd_I 54 5 = some (.iload_n 1, 0, 0) := by decide +kernel
theorem cd_i54_6 : cd_I 54 6 = some (.lookupswitch 44 #[(6909556, 42), (7234935, 42), (1651470188, 42), (1819242087, 42)], 0, 0) := by decide +kernel
theorem cd_i54_48 : cd_I 54 48 = some (.iconst 0, 0, 0) := by decide +kernel
theorem cd_i54_49 : cd_I 54 49 = some (.ireturn, 0, 0) := by decide +kernel
theorem cd_i54_50 : cd_I 54 50 = some (.iload_n 1, 0, 0) := by decide +kernel
theorem cd_i54_51 : cd_I 54 51 = some (.ireturn, 0, 0) := by decide +kernel
theorem cd_i55_0 : cd_I 55 0 = some (.aload_n 0, 0, 0) := by decide +kernel
theorem cd_i55_1 : cd_I 55 1 = some (.aload_n 1, 0, 0) := by decide +kernel
theorem cd_i55_2 : cd_I 55 2 = some (.getfield 32, 7, 0) := by decide +kernel
theorem cd_i55_5 : cd_I 55 5 = some (.aload_n 1, 0, 0) := by decide +kernel
theorem cd_i55_6 : cd_I 55 6 = some (.getfield 36, 7, 3) := by decide +kernel
theorem cd_i55_9 : cd_I 55 9 = some (.invokevirtual 39, 28, 2) := by decide +kernel
theorem cd_i55_12 : cd_I 55 12 = some (.ifnull 5, 17, 0) := by decide +kernel
theorem cd_i55_15 : cd_I 55 15 = some (.iconst 0, 0, 0) := by decide +kernel
theorem cd_i55_16 : cd_I 55 16 = some (.ireturn, 0, 0) := by decide +kernel
theorem cd_i55_17 : cd_I 55 17 = some (.aload_n 1, 0, 0) := by decide +kernel
theorem cd_i55_18 : cd_I 55 18 = some (.getfield 32, 7, 0) := by decide +kernel
theorem cd_i55_21 : cd_I 55 21 = some (.getstatic 43, 1, 0) := by decide +kernel
theorem cd_i55_24 : cd_I 55 24 = some (.if_acmp .ne 11, 35, 0) := by decide +kernel
theorem cd_i55_27 : cd_I 55 27 = some (.aload_n 0, 0, 0) := by decide +kernel
theorem cd_i55_28 : cd_I 55 28 = some (.aload_n 1, 0, 0) := by decide +kernel
theorem cd_i55_29 : cd_I 55 29 = some (.invokevirtual 48, 56, 1) := by decide +kernel
theorem cd_i55_32 : cd_I 55 32 = some (.ifCond .eq 7, 39, 0) := by decide +kernel
theorem cd_i55_35 : cd_I 55 35 = some (.iconst 1, 0, 0) := by decide +kernel
theorem cd_i55_36 : cd_I 55 36 = some (.goto 4, 40, 0) := by decide +kernel
theorem cd_i55_39 : cd_I 55 39 = some (.iconst 0, 0, 0) := by decide +kernel
theorem cd_i55_40 : cd_I 55 40 = some (.ireturn, 0, 0) := by decide +kernel
theorem cd_i56_0 : cd_I 56 0 = some (.aload_n 0, 0, 0) := by decide +kernel
theorem cd_i56_1 : cd_I 56 1 = some (.getfield 21, 4, 1) := by decide +kernel
theorem cd_i56_4 : cd_I 56 4 = some (.astore_n 2, 0, 0) := by decide +kernel
theorem cd_i56_5 : cd_I 56 5 = some (.aload_n 2, 0, 0) := by decide +kernel
theorem cd_i56_6 : cd_I 56 6 = some (.ifnull 58, 64, 0) := by decide +kernel
theorem cd_i56_9 : cd_I 56 9 = some (.aload_n 2, 0, 0) := by decide +kernel
theorem cd_i56_10 : cd_I 56 10 = some (.getstatic 43, 1, 0) := by decide +kernel
theorem cd_i56_13 : cd_I 56 13 = some (.aload_n 1, 0, 0) := by decide +kernel
theorem cd_i56_14 : cd_I 56 14 = some (.getfield 36, 7, 3) := by decide +kernel
theorem cd_i56_17 : cd_I 56 17 = some (.invokevirtual 39, 28, 2) := by decide +kernel
theorem cd_i56_20 : cd_I 56 20 = some (.astore_n 3, 0, 0) := by decide +kernel
theorem cd_i56_21 : cd_I 56 21 = some (.aload_n 3, 0, 0) := by decide +kernel
theorem cd_i56_22 : cd_I 56 22 = some (.ifnull 34, 56, 0) := by decide +kernel
theorem cd_i56_25 : cd_I 56 25 = some (.aload_n 3, 0, 0) := by decide +kernel
theorem cd_i56_26 : cd_I 56 26 = some (.getfield 52, 7, 1) := by decide +kernel
theorem cd_i56_29 : cd_I 56 29 = some (.ifCond .ne 27, 56, 0) := by decide +kernel
theorem cd_i56_32 : cd_I 56 32 = some (.aload_n 3, 0, 0) := by decide +kernel
theorem cd_i56_33 : cd_I 56 33 = some (.getfield 56, 7, 2) := by decide +kernel
theorem cd_i56_36 : cd_I 56 36 = some (.ifCond .ne 18, 54, 0) := by decide +kernel
theorem cd_i56_39 : cd_I 56 39 = some (.aload_n 1, 0, 0) := by decide +kernel
theorem cd_i56_40 : cd_I 56 40 = some (.getfield 56, 7, 2) := by decide +kernel
theorem cd_i56_43 : cd_I 56 43 = some (.ifCond .ne 11, 54, 0) := by decide +kernel
theorem cd_i56_46 : cd_I 56 46 = some (.aload_n 1, 0, 0) := by decide +kernel
theorem cd_i56_47 : cd_I 56 47 = some (.aload_n 3, 0, 0) := by decide +kernel
theorem cd_i56_48 : cd_I 56 48 = some (.invokevirtual 59, 57, 1) := by decide +kernel
theorem cd_i56_51 : cd_I 56 51 = some (.ifCond .ne 5, 56, 0) := by decide +kernel
theorem cd_i56_54 : cd_I 56 54 = some (.iconst 0, 0, 0) := by decide +kernel
theorem cd_i56_55 : cd_I 56 55 = some (.ireturn, 0, 0) := by decide +kernel
theorem cd_i56_56 : cd_I 56 56 = some (.aload_n 2, 0, 0) := by decide +kernel
theorem cd_i56_57 : cd_I 56 57 = some (.getfield 21, 4, 1) := by decide +kernel
theorem cd_i56_60 : cd_I 56 60 = some (.astore_n 2, 0, 0) := by decide +kernel
theorem cd_i56_61 : cd_I 56 61 = some (.goto (-56), 5, 0) := by decide +kernel
theorem cd_i56_64 : cd_I 56 64 = some (.iconst 1, 0, 0) := by decide +kernel
theorem cd_i56_65 : cd_I 56 65 = some (.ireturn, 0, 0) := by decide +kernel
theorem cd_i57_0 : cd_I 57 0 = some (.aload_n 0, 0, 0) := by decide +kernel
theorem cd_i57_1 : cd_I 57 1 = some (.getfield 33, 7, 6) := by decide +kernel
theorem cd_i57_4 : cd_I 57 4 = some (.aload_n 1, 0, 0) := by decide +kernel
theorem cd_i57_5 : cd_I 57 5 = some (.getfield 33, 7, 6) := by decide +kernel
theorem cd_i57_8 : cd_I 57 8 = some (.if_icmp .ne 14, 22, 0) := by decide +kernel
theorem cd_i57_11 : cd_I 57 11 = some (.aload_n 0, 0, 0) := by decide +kernel
theorem cd_i57_12 : cd_I 57 12 = some (.getfield 30, 7, 5) := by decide +kernel
theorem cd_i57_15 : cd_I 57 15 = some (.aload_n 1, 0, 0) := by decide +kernel
theorem cd_i57_16 : cd_I 57 16 = some (.getfield 30, 7, 5) := by decide +kernel
theorem cd_i57_19 : cd_I 57 19 = some (.if_icmp .eq 5, 24, 0) := by decide +kernel
theorem cd_i57_22 : cd_I 57 22 = some (.iconst 0, 0, 0) := by decide +kernel
theorem cd_i57_23 : cd_I 57 23 = some (.ireturn, 0, 0) := by decide +kernel
theorem cd_i57_24 : cd_I 57 24 = some (.iconst 0, 0, 0) := by decide +kernel
theorem cd_i57_25 : cd_I 57 25 = some (.istore_n 2, 0, 0) := by decide +kernel
theorem cd_i57_26 : cd_I 57 26 = some (.iload_n 2, 0, 0) := by decide +kernel
theorem cd_i57_27 : cd_I 57 27 = some (.aload_n 0, 0, 0) := by decide +kernel
theorem cd_i57_28 : cd_I 57 28 = some (.getfield 30, 7, 5) := by decide +kernel
theorem cd_i57_31 : cd_I 57 31 = some (.if_icmp .ge 26, 57, 0) := by decide +kernel
theorem cd_i57_34 : cd_I 57 34 = some (.aload_n 0, 0, 0) := by decide +kernel
theorem cd_i57_35 : cd_I 57 35 = some (.getfield 9, 7, 4) := by decide +kernel
theorem cd_i57_38 : cd_I 57 38 = some (.iload_n 2, 0, 0) := by decide +kernel
theorem cd_i57_39 : cd_I 57 39 = some (.iaload, 0, 0) := by decide +kernel
theorem cd_i57_40 : cd_I 57 40 = some (.aload_n 1, 0, 0) := by decide +kernel
theorem cd_i57_41 : cd_I 57 41 = some (.getfield 9, 7, 4) := by decide +kernel
theorem cd_i57_44 : cd_I 57 44 = some (.iload_n 2, 0, 0) := by decide +kernel
theorem cd_i57_45 : cd_I 57 45 = some (.iaload, 0, 0) := by decide +kernel
theorem cd_i57_46 : cd_I 57 46 = some (.if_icmp .eq 5, 51, 0) := by decide +kernel
theorem cd_i57_49 : cd_I 57 49 = some (.iconst 0, 0, 0) := by decide +kernel
theorem cd_i57_50 : cd_I 57 50 = some (.ireturn, 0, 0) := by decide +kernel
theorem cd_i57_51 : cd_I 57 51 = some (.iinc 2 1, 0, 0) := by decide +kernel
theorem cd_i57_54 : cd_I 57 54 = some (.goto (-28), 26, 0) := by decide +kernel
theorem cd_i57_57 : cd_I 57 57 = some (.iconst 1, 0, 0) := by decide +kernel
theorem cd_i57_58 : cd_I 57 58 = some (.ireturn, 0, 0) := by decide +kernel
theorem cd_i58_0 : cd_I 58 0 = some (.aload_n 0, 0, 0) := by decide +kernel
theorem cd_i58_1 : cd_I 58 1 = some (.getfield 25, 4, 3) := by decide +kernel
theorem cd_i58_4 : cd_I 58 4 = some (.aload_n 0, 0, 0) := by decide +kernel
theorem cd_i58_5 : cd_I 58 5 = some (.getfield 11, 4, 2) := by decide +kernel
theorem cd_i58_8 : cd_I 58 8 = some (.arraylength, 0, 0) := by decide +kernel
theorem cd_i58_9 : cd_I 58 9 = some (.if_icmp .ne 5, 14, 0) := by decide +kernel
theorem cd_i58_12 : cd_I 58 12 = some (.iconst 0, 0, 0) := by decide +kernel
theorem cd_i58_13 : cd_I 58 13 = some (.ireturn, 0, 0) := by decide +kernel
theorem cd_i58_14 : cd_I 58 14 = some (.aload_n 0, 0, 0) := by decide +kernel
theorem cd_i58_15 : cd_I 58 15 = some (.getfield 11, 4, 2) := by decide +kernel
theorem cd_i58_18 : cd_I 58 18 = some (.aload_n 0, 0, 0) := by decide +kernel
theorem cd_i58_19 : cd_I 58 19 = some (.getfield 25, 4, 3) := by decide +kernel
theorem cd_i58_22 : cd_I 58 22 = some (.aload_n 1, 0, 0) := by decide +kernel
theorem cd_i58_23 : cd_I 58 23 = some (.aastore, 0, 0) := by decide +kernel
theorem cd_i58_24 : cd_I 58 24 = some (.aload_n 0, 0, 0) := by decide +kernel
theorem cd_i58_25 : cd_I 58 25 = some (.dup, 0, 0) := by decide +kernel
theorem cd_i58_26 : cd_I 58 26 = some (.getfield 25, 4, 3) := by decide +kernel
theorem cd_i58_29 : cd_I 58 29 = some (.iconst 1, 0, 0) := by decide +kernel
theorem cd_i58_30 : cd_I 58 30 = some (.iadd, 0, 0) := by decide +kernel
theorem cd_i58_31 : cd_I 58 31 = some (.putfield 25, 4, 3) := by decide +kernel
theorem cd_i58_34 : cd_I 58 34 = some (.iconst 1, 0, 0) := by decide +kernel
theorem cd_i58_35 : cd_I 58 35 = some (.ireturn, 0, 0) := by decide +kernel
theorem cd_i59_0 : cd_I 59 0 = some (.aload_n 0, 0, 0) := by decide +kernel
theorem cd_i59_1 : cd_I 59 1 = some (.getfield 19, 1, 2) := by decide +kernel
theorem cd_i59_4 : cd_I 59 4 = some (.aload_n 0, 0, 0) := by decide +kernel
theorem cd_i59_5 : cd_I 59 5 = some (.getfield 15, 1, 1) := by decide +kernel
theorem cd_i59_8 : cd_I 59 8 = some (.if_icmp .ne 7, 15, 0) := by decide +kernel
theorem cd_i59_11 : cd_I 59 11 = some (.iconst 1, 0, 0) := by decide +kernel
theorem cd_i59_12 : cd_I 59 12 = some (.goto 4, 16, 0) := by decide +kernel
theorem cd_i59_15 : cd_I 59 15 = some (.iconst 0, 0, 0) := by decide +kernel
theorem cd_i59_16 : cd_I 59 16 = some (.ireturn, 0, 0) := by decide +kernel
theorem cd_i60_0 : cd_I 60 0 = some (.aload_n 0, 0, 0) := by decide +kernel
theorem cd_i60_1 : cd_I 60 1 = some (.iconst 0, 0, 0) := by decide +kernel
theorem cd_i60_2 : cd_I 60 2 = some (.putfield 15, 1, 1) := by decide +kernel
theorem cd_i60_5 : cd_I 60 5 = some (.aload_n 0, 0, 0) := by decide +kernel
theorem cd_i60_6 : cd_I 60 6 = some (.iconst 0, 0, 0) := by decide +kernel
theorem cd_i60_7 : cd_I 60 7 = some (.putfield 19, 1, 2) := by decide +kernel
theorem cd_i60_10 : cd_I 60 10 = some (.return_, 0, 0) := by decide +kernel
theorem cd_i61_0 : cd_I 61 0 = some (.aload_n 0, 0, 0) := by decide +kernel
theorem cd_i61_1 : cd_I 61 1 = some (.aload_n 1, 0, 0) := by decide +kernel
theorem cd_i61_2 : cd_I 61 2 = some (.getfield 25, 4, 0) := by decide +kernel
theorem cd_i61_5 : cd_I 61 5 = some (.invokevirtual 28, 22, 1) := by decide +kernel
theorem cd_i61_8 : cd_I 61 8 = some (.ifnull 5, 13, 0) := by decide +kernel
theorem cd_i61_11 : cd_I 61 11 = some (.iconst 0, 0, 0) := by decide +kernel
theorem cd_i61_12 : cd_I 61 12 = some (.ireturn, 0, 0) := by decide +kernel
theorem cd_i61_13 : cd_I 61 13 = some (.aload_n 0, 0, 0) := by decide +kernel
theorem cd_i61_14 : cd_I 61 14 = some (.getfield 11, 2, 0) := by decide +kernel
theorem cd_i61_17 : cd_I 61 17 = some (.aload_n 1, 0, 0) := by decide +kernel
theorem cd_i61_18 : cd_I 61 18 = some (.getfield 25, 4, 0) := by decide +kernel
theorem cd_i61_21 : cd_I 61 21 = some (.aload_n 1, 0, 0) := by decide +kernel
theorem cd_i61_22 : cd_I 61 22 = some (.aastore, 0, 0) := by decide +kernel
theorem cd_i61_23 : cd_I 61 23 = some (.aload_n 1, 0, 0) := by decide +kernel
theorem cd_i61_24 : cd_I 61 24 = some (.getfield 32, 4, 1) := by decide +kernel
theorem cd_i61_27 : cd_I 61 27 = some (.astore_n 2, 0, 0) := by decide +kernel
theorem cd_i61_28 : cd_I 61 28 = some (.aload_n 2, 0, 0) := by decide +kernel
theorem cd_i61_29 : cd_I 61 29 = some (.ifnull 28, 57, 0) := by decide +kernel
theorem cd_i61_32 : cd_I 61 32 = some (.aload_n 0, 0, 0) := by decide +kernel
theorem cd_i61_33 : cd_I 61 33 = some (.getfield 17, 2, 1) := by decide +kernel
theorem cd_i61_36 : cd_I 61 36 = some (.iconst 3, 0, 0) := by decide +kernel
theorem cd_i61_37 : cd_I 61 37 = some (.aload_n 1, 0, 0) := by decide +kernel
theorem cd_i61_38 : cd_I 61 38 = some (.getfield 25, 4, 0) := by decide +kernel
theorem cd_i61_41 : cd_I 61 41 = some (.iadd, 0, 0) := by decide +kernel
theorem cd_i61_42 : cd_I 61 42 = some (.dup2, 0, 0) := by decide +kernel
theorem cd_i61_43 : cd_I 61 43 = some (.iaload, 0, 0) := by decide +kernel
theorem cd_i61_44 : cd_I 61 44 = some (.aload_n 0, 0, 0) := by decide +kernel
theorem cd_i61_45 : cd_I 61 45 = some (.getfield 17, 2, 1) := by decide +kernel
theorem cd_i61_48 : cd_I 61 48 = some (.iconst 3, 0, 0) := by decide +kernel
theorem cd_i61_49 : cd_I 61 49 = some (.aload_n 2, 0, 0) := by decide +kernel
theorem cd_i61_50 : cd_I 61 50 = some (.getfield 25, 4, 0) := by decide +kernel
theorem cd_i61_53 : cd_I 61 53 = some (.iadd, 0, 0) := by decide +kernel
theorem cd_i61_54 : cd_I 61 54 = some (.iaload, 0, 0) := by decide +kernel
theorem cd_i61_55 : cd_I 61 55 = some (.ior, 0, 0) := by decide +kernel
theorem cd_i61_56 : cd_I 61 56 = some (.iastore, 0, 0) := by decide +kernel
theorem cd_i61_57 : cd_I 61 57 = some (.iconst 1, 0, 0) := by decide +kernel
theorem cd_i61_58 : cd_I 61 58 = some (.ireturn, 0, 0) := by decide +kernel
theorem cd_i62_0 : cd_I 62 0 = some (.aload_n 0, 0, 0) := by decide +kernel
theorem cd_i62_1 : cd_I 62 1 = some (.getfield 26, 0, 2) := by decide +kernel
theorem cd_i62_4 : cd_I 62 4 = some (.invokevirtual 94, 63, 0) := by decide +kernel
theorem cd_i62_7 : cd_I 62 7 = some (.istore_n 1, 0, 0) := by decide +kernel
theorem cd_i62_8 : cd_I 62 8 = some (.iload_n 1, 0, 0) := by decide +kernel
theorem cd_i62_9 : cd_I 62 9 = some (.ifCond .ne 14, 23, 0) := by decide +kernel
theorem cd_i62_12 : cd_I 62 12 = some (.aload_n 0, 0, 0) := by decide +kernel
theorem cd_i62_13 : cd_I 62 13 = some (.invokevirtual 97, 64, 0) := by decide +kernel
theorem cd_i62_16 : cd_I 62 16 = some (.ifCond .eq 7, 23, 0) := by decide +kernel
theorem cd_i62_19 : cd_I 62 19 = some (.iconst 1, 0, 0) := by decide +kernel
theorem cd_i62_20 : cd_I 62 20 = some (.goto 4, 24, 0) := by decide +kernel
theorem cd_i62_23 : cd_I 62 23 = some (.iconst 0, 0, 0) := by decide +kernel
theorem cd_i62_24 : cd_I 62 24 = some (.istore_n 2, 0, 0) := by decide +kernel
theorem cd_i62_25 : cd_I 62 25 = some (.aload_n 0, 0, 0) := by decide +kernel
theorem cd_i62_26 : cd_I 62 26 = some (.getfield 10, 0, 0) := by decide +kernel
theorem cd_i62_29 : cd_I 62 29 = some (.invokevirtual 77, 60, 0) := by decide +kernel
theorem cd_i62_32 : cd_I 62 32 = some (.iload_n 1, 0, 0) := by decide +kernel
theorem cd_i62_33 : cd_I 62 33 = some (.ifCond .eq 11, 44, 0) := by decide +kernel
theorem cd_i62_36 : cd_I 62 36 = some (.new 86, 13, 88) := by decide +kernel
theorem cd_i62_44 : cd_I 62 44 = some (.iload_n 2, 0, 0) := by decide +kernel
theorem cd_i62_45 : cd_I 62 45 = some (.ifCond .ne 11, 56, 0) := by decide +kernel
theorem cd_i62_48 : cd_I 62 48 = some (.new 80, 12, 82) := by decide +kernel
theorem cd_i62_56 : cd_I 62 56 = some (.aload_n 0, 0, 0) := by decide +kernel
theorem cd_i62_57 : cd_I 62 57 = some (.getfield 26, 0, 2) := by decide +kernel
theorem cd_i62_60 : cd_I 62 60 = some (.getfield 100, 9, 2) := by decide +kernel
theorem cd_i62_63 : cd_I 62 63 = some (.ireturn, 0, 0) := by decide +kernel
theorem cd_i63_0 : cd_I 63 0 = some (.aload_n 0, 0, 0) := by decide +kernel
theorem cd_i63_1 : cd_I 63 1 = some (.getfield 18, 9, 2) := by decide +kernel
theorem cd_i63_4 : cd_I 63 4 = some (.iconst 5, 0, 0) := by decide +kernel
theorem cd_i63_5 : cd_I 63 5 = some (.if_icmp .ne 7, 12, 0) := by decide +kernel
theorem cd_i63_8 : cd_I 63 8 = some (.iconst 1, 0, 0) := by decide +kernel
theorem cd_i63_9 : cd_I 63 9 = some (.goto 4, 13, 0) := by decide +kernel
theorem cd_i63_12 : cd_I 63 12 = some (.iconst 0, 0, 0) := by decide +kernel
theorem cd_i63_13 : cd_I 63 13 = some (.ireturn, 0, 0) := by decide +kernel
theorem cd_i64_0 : cd_I 64 0 = some (.aload_n 0, 0, 0) := by decide +kernel
theorem cd_i64_1 : cd_I 64 1 = some (.getfield 10, 0, 0) := by decide +kernel
theorem cd_i64_4 : cd_I 64 4 = some (.invokevirtual 166, 54, 0) := by decide +kernel
theorem cd_i64_7 : cd_I 64 7 = some (.istore_n 1, 0, 0) := by decide +kernel
theorem cd_i64_8 : cd_I 64 8 = some (.iload_n 1, 0, 0) := by decide +kernel
theorem cd_i64_9 : cd_I 64 9 = some (.ifCond .eq 15, 24, 0) := by decide +kernel
theorem cd_i64_12 : cd_I 64 12 = some (.aload_n 0, 0, 0) := by decide +kernel
theorem cd_i64_13 : cd_I 64 13 = some (.getfield 10, 0, 0) := by decide +kernel
theorem cd_i64_16 : cd_I 64 16 = some (.bipush 58, 0, 0) := by decide +kernel
theorem cd_i64_18 : cd_I 64 18 = some (.invokevirtual 169, 34, 1) := by decide +kernel
theorem cd_i64_21 : cd_I 64 21 = some (.ifCond .ne 5, 26, 0) := by decide +kernel
theorem cd_i64_24 : cd_I 64 24 = some (.iconst 0, 0, 0) := by decide +kernel
theorem cd_i64_25 : cd_I 64 25 = some (.ireturn, 0, 0) := by decide +kernel
theorem cd_i64_26 : cd_I 64 26 = some (.aload_n 0, 0, 0) := by decide +kernel
theorem cd_i64_27 : cd_I 64 27 = some (.getfield 10, 0, 0) := by decide +kernel
theorem cd_i64_30 : cd_I 64 30 = some (.invokevirtual 173, 50, 0) := by decide +kernel
theorem cd_i64_33 : cd_I 64 33 = some (.istore_n 2, 0, 0) := by decide +kernel
theorem cd_i64_34 : cd_I 64 34 = some (.iload_n 2, 0, 0) := by decide +kernel
theorem cd_i64_35 : cd_I 64 35 = some (.iconst (-1), 0, 0) := by decide +kernel
theorem cd_i64_36 : cd_I 64 36 = some (.if_icmp .eq 29, 65, 0) := by decide +kernel
theorem cd_i64_39 : cd_I 64 39 = some (.aload_n 0, 0, 0) := by decide +kernel
theorem cd_i64_40 : cd_I 64 40 = some (.getfield 10, 0, 0) := by decide +kernel
theorem cd_i64_43 : cd_I 64 43 = some (.invokevirtual 73, 59, 0) := by decide +kernel
theorem cd_i64_46 : cd_I 64 46 = some (.ifCond .eq 19, 65, 0) := by decide +kernel
theorem cd_i64_49 : cd_I 64 49 = some (.aload_n 0, 0, 0) := by decide +kernel
theorem cd_i64_50 : cd_I 64 50 = some (.getfield 26, 0, 2) := by decide +kernel
theorem cd_i64_53 : cd_I 64 53 = some (.iload_n 1, 0, 0) := by decide +kernel
theorem cd_i64_54 : cd_I 64 54 = some (.iload_n 2, 0, 0) := by decide +kernel
theorem cd_i64_55 : cd_I 64 55 = some (.invokevirtual 176, 65, 2) := by decide +kernel
theorem cd_i64_58 : cd_I 64 58 = some (.ifCond .eq 7, 65, 0) := by decide +kernel
theorem cd_i64_61 : cd_I 64 61 = some (.iconst 1, 0, 0) := by decide +kernel
theorem cd_i64_62 : cd_I 64 62 = some (.goto 4, 66, 0) := by decide +kernel
theorem cd_i64_65 : cd_I 64 65 = some (.iconst 0, 0, 0) := by decide +kernel
theorem cd_i64_66 : cd_I 64 66 = some (.ireturn, 0, 0) := by decide +kernel
theorem cd_i65_0 : cd_I 65 0 = some (.aload_n 0, 0, 0) := by decide +kernel
theorem cd_i65_1 : cd_I 65 1 = some (.invokevirtual 22, 63, 0) := by decide +kernel
theorem cd_i65_4 : cd_I 65 4 = some (.ifCond .ne 12, 16, 0) := by decide +kernel
theorem cd_i65_7 : cd_I 65 7 = some (.aload_n 0, 0, 0) := by decide +kernel
theorem cd_i65_8 : cd_I 65 8 = some (.iload_n 1, 0, 0) := by decide +kernel
theorem cd_i65_9 : cd_I 65 9 = some (.invokevirtual 26, 66, 1) := by decide +kernel
theorem cd_i65_12 : cd_I 65 12 = some (.iconst (-1), 0, 0) := by decide +kernel
theorem cd_i65_13 : cd_I 65 13 = some (.if_icmp .eq 5, 18, 0) := by decide +kernel
theorem cd_i65_16 : cd_I 65 16 = some (.iconst 0, 0, 0) := by decide +kernel
theorem cd_i65_17 : cd_I 65 17 = some (.ireturn, 0, 0) := by decide +kernel
theorem cd_i65_18 : cd_I 65 18 = some (.aload_n 0, 0, 0) := by decide +kernel
theorem cd_i65_19 : cd_I 65 19 = some (.getfield 9, 9, 0) := by decide +kernel
theorem cd_i65_22 : cd_I 65 22 = some (.aload_n 0, 0, 0) := by decide +kernel
theorem cd_i65_23 : cd_I 65 23 = some (.getfield 18, 9, 2) := by decide +kernel
theorem cd_i65_26 : cd_I 65 26 = some (.iload_n 1, 0, 0) := by decide +kernel
theorem cd_i65_27 : cd_I 65 27 = some (.iastore, 0, 0) := by decide +kernel
theorem cd_i65_28 : cd_I 65 28 = some (.aload_n 0, 0, 0) := by decide +kernel
theorem cd_i65_29 : cd_I 65 29 = some (.getfield 15, 9, 1) := by decide +kernel
theorem cd_i65_32 : cd_I 65 32 = some (.aload_n 0, 0, 0) := by decide +kernel
theorem cd_i65_33 : cd_I 65 33 = some (.getfield 18, 9, 2) := by decide +kernel
theorem cd_i65_36 : cd_I 65 36 = some (.iload_n 2, 0, 0) := by decide +kernel
theorem cd_i65_37 : cd_I 65 37 = some (.iastore, 0, 0) := by decide +kernel
theorem cd_i65_38 : cd_I 65 38 = some (.aload_n 0, 0, 0) := by decide +kernel
theorem cd_i65_39 : cd_I 65 39 = some (.dup, 0, 0) := by decide +kernel
theorem cd_i65_40 : cd_I 65 40 = some (.getfield 18, 9, 2) := by decide +kernel
theorem cd_i65_43 : cd_I 65 43 = some (.iconst 1, 0, 0) := by decide +kernel
theorem cd_i65_44 : cd_I 65 44 = some (.iadd, 0, 0) := by decide +kernel
theorem cd_i65_45 : cd_I 65 45 = some (.putfield 18, 9, 2) := by decide +kernel
theorem cd_i65_48 : cd_I 65 48 = some (.iconst 1, 0, 0) := by decide +kernel
theorem cd_i65_49 : cd_I 65 49 = some (.ireturn, 0, 0) := by decide +kernel
theorem cd_i66_0 : cd_I 66 0 = some (.iconst 0, 0, 0) := by decide +kernel
theorem cd_i66_1 : cd_I 66 1 = some (.istore_n 2, 0, 0) := by decide +kernel
theorem cd_i66_2 : cd_I 66 2 = some (.iload_n 2, 0, 0) := by decide +kernel
theorem cd_i66_3 : cd_I 66 3 = some (.aload_n 0, 0, 0) := by decide +kernel
theorem cd_i66_4 : cd_I 66 4 = some (.getfield 18, 9, 2) := by decide +kernel
theorem cd_i66_7 : cd_I 66 7 = some (.if_icmp .ge 26, 33, 0) := by decide +kernel
theorem cd_i66_10 : cd_I 66 10 = some (.aload_n 0, 0, 0) := by decide +kernel
theorem cd_i66_11 : cd_I 66 11 = some (.getfield 9, 9, 0) := by decide +kernel
theorem cd_i66_14 : cd_I 66 14 = some (.iload_n 2, 0, 0) := by decide +kernel
theorem cd_i66_15 : cd_I 66 15 = some (.iaload, 0, 0) := by decide +kernel
theorem cd_i66_16 : cd_I 66 16 = some (.iload_n 1, 0, 0) := by decide +kernel
theorem cd_i66_17 : cd_I 66 17 = some (.if_icmp .ne 10, 27, 0) := by decide +kernel
theorem cd_i66_20 : cd_I 66 20 = some (.aload_n 0, 0, 0) := by decide +kernel
theorem cd_i66_21 : cd_I 66 21 = some (.getfield 15, 9, 1) := by decide +kernel
theorem cd_i66_24 : cd_I 66 24 = some (.iload_n 2, 0, 0) := by decide +kernel
theorem cd_i66_25 : cd_I 66 25 = some (.iaload, 0, 0) := by decide +kernel
theorem cd_i66_26 : cd_I 66 26 = some (.ireturn, 0, 0) := by decide +kernel
theorem cd_i66_27 : cd_I 66 27 = some (.iinc 2 1, 0, 0) := by decide +kernel
theorem cd_i66_30 : cd_I 66 30 = some (.goto (-28), 2, 0) := by decide +kernel
theorem cd_i66_33 : cd_I 66 33 = some (.iconst (-1), 0, 0) := by decide +kernel
theorem cd_i66_34 : cd_I 66 34 = some (.ireturn, 0, 0) := by decide +kernel
theorem cd_i67_0 : cd_I 67 0 = some (.iload_n 1, 0, 0) := by decide +kernel
theorem cd_i67_1 : cd_I 67 1 = some (.iconst (-1), 0, 0) := by decide +kernel
theorem cd_i67_2 : cd_I 67 2 = some (.if_icmp .eq 18, 20, 0) := by decide +kernel
theorem cd_i67_5 : cd_I 67 5 = some (.iload_n 1, 0, 0) := by decide +kernel
theorem cd_i67_6 : cd_I 67 6 = some (.invokestatic 101, 24, 1) := by decide +kernel
theorem cd_i67_9 : cd_I 67 9 = some (.ifCond .ne 11, 20, 0) := by decide +kernel
theorem cd_i67_12 : cd_I 67 12 = some (.new 80, 12, 82) := by decide +kernel
theorem cd_i67_20 : cd_I 67 20 = some (.aload_n 0, 0, 0) := by decide +kernel
theorem cd_i67_21 : cd_I 67 21 = some (.getfield 19, 0, 1) := by decide +kernel
theorem cd_i67_24 : cd_I 67 24 = some (.iload_n 1, 0, 0) := by decide +kernel
theorem cd_i67_25 : cd_I 67 25 = some (.putfield 105, 2, 2) := by decide +kernel
theorem cd_i67_28 : cd_I 67 28 = some (.return_, 0, 0) := by decide +kernel
theorem cd_i68_0 : cd_I 68 0 = some (.iload_n 1, 0, 0) := by decide +kernel
theorem cd_i68_1 : cd_I 68 1 = some (.invokestatic 108, 15, 1) := by decide +kernel
theorem cd_i68_4 : cd_I 68 4 = some (.ifCond .eq 12, 16, 0) := by decide +kernel
theorem cd_i68_7 : cd_I 68 7 = some (.iload_n 2, 0, 0) := by decide +kernel
theorem cd_i68_8 : cd_I 68 8 = some (.ifCond .lt 8, 16, 0) := by decide +kernel
theorem cd_i68_11 : cd_I 68 11 = some (.iload_n 2, 0, 0) := by decide +kernel
theorem cd_i68_12 : cd_I 68 12 = some (.iconst 3, 0, 0) := by decide +kernel
theorem cd_i68_13 : cd_I 68 13 = some (.if_icmp .le 11, 24, 0) := by decide +kernel
theorem cd_i68_16 : cd_I 68 16 = some (.new 80, 12, 82) := by decide +kernel
theorem cd_i68_24 : cd_I 68 24 = some (.aload_n 0, 0, 0) := by decide +kernel
theorem cd_i68_25 : cd_I 68 25 = some (.getfield 53, 0, 5) := by decide +kernel
theorem cd_i68_28 : cd_I 68 28 = some (.invokevirtual 111, 69, 0) := by decide +kernel
theorem cd_i68_31 : cd_I 68 31 = some (.iconst 1, 0, 0) := by decide +kernel
theorem cd_i68_32 : cd_I 68 32 = some (.istore_n 3, 0, 0) := by decide +kernel
theorem cd_i68_33 : cd_I 68 33 = some (.iload_n 3, 0, 0) := by decide +kernel
theorem cd_i68_34 : cd_I 68 34 = some (.iload_n 2, 0, 0) := by decide +kernel
theorem cd_i68_35 : cd_I 68 35 = some (.if_icmp .gt 17, 52, 0) := by decide +kernel
theorem cd_i68_38 : cd_I 68 38 = some (.aload_n 0, 0, 0) := by decide +kernel
theorem cd_i68_39 : cd_I 68 39 = some (.getfield 53, 0, 5) := by decide +kernel
theorem cd_i68_42 : cd_I 68 42 = some (.iload_n 3, 0, 0) := by decide +kernel
theorem cd_i68_43 : cd_I 68 43 = some (.invokevirtual 114, 78, 1) := by decide +kernel
theorem cd_i68_46 : cd_I 68 46 = some (.iinc 3 1, 0, 0) := by decide +kernel
theorem cd_i68_49 : cd_I 68 49 = some (.goto (-16), 33, 0) := by decide +kernel
theorem cd_i68_52 : cd_I 68 52 = some (.aload_n 0, 0, 0) := by decide +kernel
theorem cd_i68_53 : cd_I 68 53 = some (.getfield 53, 0, 5) := by decide +kernel
theorem cd_i68_56 : cd_I 68 56 = some (.iload_n 1, 0, 0) := by decide +kernel
theorem cd_i68_57 : cd_I 68 57 = some (.iload_n 2, 0, 0) := by decide +kernel
theorem cd_i68_58 : cd_I 68 58 = some (.invokevirtual 118, 86, 2) := by decide +kernel
theorem cd_i68_61 : cd_I 68 61 = some (.ireturn, 0, 0) := by decide +kernel
theorem cd_i69_0 : cd_I 69 0 = some (.aload_n 0, 0, 0) := by decide +kernel
theorem cd_i69_1 : cd_I 69 1 = some (.iconst 0, 0, 0) := by decide +kernel
theorem cd_i69_2 : cd_I 69 2 = some (.invokevirtual 41, 70, 1) := by decide +kernel
theorem cd_i69_5 : cd_I 69 5 = some (.iconst 0, 0, 0) := by decide +kernel
theorem cd_i69_6 : cd_I 69 6 = some (.istore_n 1, 0, 0) := by decide +kernel
theorem cd_i69_7 : cd_I 69 7 = some (.iload_n 1, 0, 0) := by decide +kernel
theorem cd_i69_8 : cd_I 69 8 = some (.aload_n 0, 0, 0) := by decide +kernel
theorem cd_i69_9 : cd_I 69 9 = some (.getfield 32, 3, 1) := by decide +kernel
theorem cd_i69_12 : cd_I 69 12 = some (.getfield 45, 9, 2) := by decide +kernel
theorem cd_i69_15 : cd_I 69 15 = some (.if_icmp .ge 60, 75, 0) := by decide +kernel
theorem cd_i69_18 : cd_I 69 18 = some (.aload_n 0, 0, 0) := by decide +kernel
theorem cd_i69_19 : cd_I 69 19 = some (.getfield 24, 3, 4) := by decide +kernel
theorem cd_i69_22 : cd_I 69 22 = some (.iconst 0, 0, 0) := by decide +kernel
theorem cd_i69_23 : cd_I 69 23 = some (.putfield 51, 8, 1) := by decide +kernel
theorem cd_i69_26 : cd_I 69 26 = some (.aload_n 0, 0, 0) := by decide +kernel
theorem cd_i69_27 : cd_I 69 27 = some (.getfield 24, 3, 4) := by decide +kernel
theorem cd_i69_30 : cd_I 69 30 = some (.aload_n 0, 0, 0) := by decide +kernel
theorem cd_i69_31 : cd_I 69 31 = some (.getfield 32, 3, 1) := by decide +kernel
theorem cd_i69_34 : cd_I 69 34 = some (.getfield 54, 9, 0) := by decide +kernel
theorem cd_i69_37 : cd_I 69 37 = some (.iload_n 1, 0, 0) := by decide +kernel
theorem cd_i69_38 : cd_I 69 38 = some (.iaload, 0, 0) := by decide +kernel
theorem cd_i69_39 : cd_I 69 39 = some (.invokevirtual 58, 71, 1) := by decide +kernel
theorem cd_i69_42 : cd_I 69 42 = some (.aload_n 0, 0, 0) := by decide +kernel
theorem cd_i69_43 : cd_I 69 43 = some (.getfield 24, 3, 4) := by decide +kernel
theorem cd_i69_46 : cd_I 69 46 = some (.aload_n 0, 0, 0) := by decide +kernel
theorem cd_i69_47 : cd_I 69 47 = some (.getfield 32, 3, 1) := by decide +kernel
theorem cd_i69_50 : cd_I 69 50 = some (.getfield 61, 9, 1) := by decide +kernel
theorem cd_i69_53 : cd_I 69 53 = some (.iload_n 1, 0, 0) := by decide +kernel
theorem cd_i69_54 : cd_I 69 54 = some (.iaload, 0, 0) := by decide +kernel
theorem cd_i69_55 : cd_I 69 55 = some (.putfield 64, 8, 2) := by decide +kernel
theorem cd_i69_58 : cd_I 69 58 = some (.aload_n 0, 0, 0) := by decide +kernel
theorem cd_i69_59 : cd_I 69 59 = some (.getfield 37, 3, 5) := by decide +kernel
theorem cd_i69_62 : cd_I 69 62 = some (.aload_n 0, 0, 0) := by decide +kernel
theorem cd_i69_63 : cd_I 69 63 = some (.getfield 24, 3, 4) := by decide +kernel
theorem cd_i69_66 : cd_I 69 66 = some (.invokevirtual 67, 73, 1) := by decide +kernel
theorem cd_i69_69 : cd_I 69 69 = some (.iinc 1 1, 0, 0) := by decide +kernel
theorem cd_i69_72 : cd_I 69 72 = some (.goto (-65), 7, 0) := by decide +kernel
theorem cd_i69_75 : cd_I 69 75 = some (.return_, 0, 0) := by decide +kernel
theorem cd_i70_0 : cd_I 70 0 = some (.aload_n 0, 0, 0) := by decide +kernel
theorem cd_i70_1 : cd_I 70 1 = some (.aload_n 0, 0, 0) := by decide +kernel
theorem cd_i70_2 : cd_I 70 2 = some (.getfield 11, 3, 2) := by decide +kernel
theorem cd_i70_5 : cd_I 70 5 = some (.iload_n 1, 0, 0) := by decide +kernel
theorem cd_i70_6 : cd_I 70 6 = some (.aaload, 0, 0) := by decide +kernel
theorem cd_i70_7 : cd_I 70 7 = some (.putfield 37, 3, 5) := by decide +kernel
theorem cd_i70_10 : cd_I 70 10 = some (.aload_n 0, 0, 0) := by decide +kernel
theorem cd_i70_11 : cd_I 70 11 = some (.getfield 37, 3, 5) := by decide +kernel
theorem cd_i70_14 : cd_I 70 14 = some (.iconst 0, 0, 0) := by decide +kernel
theorem cd_i70_15 : cd_I 70 15 = some (.putfield 75, 10, 1) := by decide +kernel
theorem cd_i70_18 : cd_I 70 18 = some (.aload_n 0, 0, 0) := by decide +kernel
theorem cd_i70_19 : cd_I 70 19 = some (.getfield 24, 3, 4) := by decide +kernel
theorem cd_i70_22 : cd_I 70 22 = some (.iload_n 1, 0, 0) := by decide +kernel
theorem cd_i70_23 : cd_I 70 23 = some (.putfield 92, 8, 3) := by decide +kernel
theorem cd_i70_26 : cd_I 70 26 = some (.return_, 0, 0) := by decide +kernel
theorem cd_i71_0 : cd_I 71 0 = some (.bipush 24, 0, 0) := by decide +kernel
theorem cd_i71_2 : cd_I 71 2 = some (.istore_n 2, 0, 0) := by decide +kernel
theorem cd_i71_3 : cd_I 71 3 = some (.iload_n 2, 0, 0) := by decide +kernel
theorem cd_i71_4 : cd_I 71 4 = some (.ifCond .lt 27, 31, 0) := by decide +kernel
theorem cd_i71_7 : cd_I 71 7 = some (.iload_n 1, 0, 0) := by decide +kernel
theorem cd_i71_8 : cd_I 71 8 = some (.iload_n 2, 0, 0) := by decide +kernel
theorem cd_i71_9 : cd_I 71 9 = some (.ishr, 0, 0) := by decide +kernel
theorem cd_i71_10 : cd_I 71 10 = some (.sipush 255, 0, 0) := by decide +kernel
theorem cd_i71_13 : cd_I 71 13 = some (.iand, 0, 0) := by decide +kernel
theorem cd_i71_14 : cd_I 71 14 = some (.istore_n 3, 0, 0) := by decide +kernel
theorem cd_i71_15 : cd_I 71 15 = some (.iload_n 3, 0, 0) := by decide +kernel
theorem cd_i71_16 : cd_I 71 16 = some (.ifCond .eq 9, 25, 0) := by decide +kernel
theorem cd_i71_19 : cd_I 71 19 = some (.aload_n 0, 0, 0) := by decide +kernel
theorem cd_i71_20 : cd_I 71 20 = some (.iload_n 3, 0, 0) := by decide +kernel
theorem cd_i71_21 : cd_I 71 21 = some (.i2c, 0, 0) := by decide +kernel
theorem cd_i71_22 : cd_I 71 22 = some (.invokevirtual 28, 72, 1) := by decide +kernel
theorem cd_i71_25 : cd_I 71 25 = some (.iinc 2 (-8), 0, 0) := by decide +kernel
theorem cd_i71_28 : cd_I 71 28 = some (.goto (-25), 3, 0) := by decide +kernel
theorem cd_i71_31 : cd_I 71 31 = some (.return_, 0, 0) := by decide +kernel
