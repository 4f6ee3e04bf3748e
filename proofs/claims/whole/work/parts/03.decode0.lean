theorem d_VG_init_0 : decode prog_1_method_1_code 0 = .ok (.aload_n 0, 1) := by decide +kernel
theorem d_VG_init_1 : decode prog_1_method_1_code 1 = .ok (.invokespecial 1, 3) := by decide +kernel
theorem d_VG_init_4 : decode prog_1_method_1_code 4 = .ok (.new 7, 3) := by decide +kernel
theorem d_VG_init_7 : decode prog_1_method_1_code 7 = .ok (.dup, 1) := by decide +kernel
theorem d_VG_init_8 : decode prog_1_method_1_code 8 = .ok (.iconst 3, 1) := by decide +kernel
theorem d_VG_init_9 : decode prog_1_method_1_code 9 = .ok (.bipush 6, 2) := by decide +kernel
theorem d_VG_init_11 : decode prog_1_method_1_code 11 = .ok (.iload_n 1, 1) := by decide +kernel
theorem d_VG_init_12 : decode prog_1_method_1_code 12 = .ok (.invokestatic 9, 3) := by decide +kernel
theorem d_VG_init_15 : decode prog_1_method_1_code 15 = .ok (.invokestatic 15, 3) := by decide +kernel
theorem d_VG_init_18 : decode prog_1_method_1_code 18 = .ok (.iconst 2, 1) := by decide +kernel
theorem d_VG_init_19 : decode prog_1_method_1_code 19 = .ok (.iconst 3, 1) := by decide +kernel
theorem d_VG_init_20 : decode prog_1_method_1_code 20 = .ok (.iload_n 2, 1) := by decide +kernel
theorem d_VG_init_21 : decode prog_1_method_1_code 21 = .ok (.invokestatic 9, 3) := by decide +kernel
theorem d_VG_init_24 : decode prog_1_method_1_code 24 = .ok (.invokestatic 15, 3) := by decide +kernel
theorem d_VG_init_27 : decode prog_1_method_1_code 27 = .ok (.invokespecial 18, 3) := by decide +kernel
theorem d_VG_init_30 : decode prog_1_method_1_code 30 = .ok (.astore_n 3, 1) := by decide +kernel
theorem d_VG_init_31 : decode prog_1_method_1_code 31 = .ok (.aload_n 0, 1) := by decide +kernel
theorem d_VG_init_32 : decode prog_1_method_1_code 32 = .ok (.new 21, 3) := by decide +kernel
theorem d_VG_init_35 : decode prog_1_method_1_code 35 = .ok (.dup, 1) := by decide +kernel
theorem d_VG_init_36 : decode prog_1_method_1_code 36 = .ok (.invokespecial 23, 3) := by decide +kernel
theorem d_VG_init_39 : decode prog_1_method_1_code 39 = .ok (.putfield 24, 3) := by decide +kernel
theorem d_VG_init_42 : decode prog_1_method_1_code 42 = .ok (.aload_n 0, 1) := by decide +kernel
theorem d_VG_init_43 : decode prog_1_method_1_code 43 = .ok (.new 30, 3) := by decide +kernel
theorem d_VG_init_46 : decode prog_1_method_1_code 46 = .ok (.dup, 1) := by decide +kernel
theorem d_VG_init_47 : decode prog_1_method_1_code 47 = .ok (.aload_n 3, 1) := by decide +kernel
theorem d_VG_init_48 : decode prog_1_method_1_code 48 = .ok (.aload_n 0, 1) := by decide +kernel
theorem d_VG_init_49 : decode prog_1_method_1_code 49 = .ok (.getfield 24, 3) := by decide +kernel
theorem d_VG_init_52 : decode prog_1_method_1_code 52 = .ok (.invokespecial 32, 3) := by decide +kernel
theorem d_VG_init_55 : decode prog_1_method_1_code 55 = .ok (.putfield 35, 3) := by decide +kernel
theorem d_VG_init_58 : decode prog_1_method_1_code 58 = .ok (.aload_n 0, 1) := by decide +kernel
theorem d_VG_init_59 : decode prog_1_method_1_code 59 = .ok (.new 39, 3) := by decide +kernel
theorem d_VG_init_62 : decode prog_1_method_1_code 62 = .ok (.dup, 1) := by decide +kernel
theorem d_VG_init_63 : decode prog_1_method_1_code 63 = .ok (.aload_n 0, 1) := by decide +kernel
theorem d_VG_init_64 : decode prog_1_method_1_code 64 = .ok (.getfield 24, 3) := by decide +kernel
theorem d_VG_init_67 : decode prog_1_method_1_code 67 = .ok (.invokespecial 41, 3) := by decide +kernel
theorem d_VG_init_70 : decode prog_1_method_1_code 70 = .ok (.putfield 44, 3) := by decide +kernel
theorem d_VG_init_73 : decode prog_1_method_1_code 73 = .ok (.aload_n 0, 1) := by decide +kernel
theorem d_VG_init_74 : decode prog_1_method_1_code 74 = .ok (.aload_n 3, 1) := by decide +kernel
theorem d_VG_init_75 : decode prog_1_method_1_code 75 = .ok (.getfield 48, 3) := by decide +kernel
theorem d_VG_init_78 : decode prog_1_method_1_code 78 = .ok (.anewarray 52, 3) := by decide +kernel
theorem d_VG_init_81 : decode prog_1_method_1_code 81 = .ok (.putfield 54, 3) := by decide +kernel
theorem d_VG_init_84 : decode prog_1_method_1_code 84 = .ok (.iconst 0, 1) := by decide +kernel
theorem d_VG_init_85 : decode prog_1_method_1_code 85 = .ok (.istore 4, 2) := by decide +kernel
theorem d_VG_init_87 : decode prog_1_method_1_code 87 = .ok (.iload 4, 2) := by decide +kernel
theorem d_VG_init_89 : decode prog_1_method_1_code 89 = .ok (.aload_n 3, 1) := by decide +kernel
theorem d_VG_init_90 : decode prog_1_method_1_code 90 = .ok (.getfield 48, 3) := by decide +kernel
theorem d_VG_init_93 : decode prog_1_method_1_code 93 = .ok (.if_icmp .ge 30, 3) := by decide +kernel
theorem d_VG_init_96 : decode prog_1_method_1_code 96 = .ok (.aload_n 0, 1) := by decide +kernel
theorem d_VG_init_97 : decode prog_1_method_1_code 97 = .ok (.getfield 54, 3) := by decide +kernel
theorem d_VG_init_100 : decode prog_1_method_1_code 100 = .ok (.iload 4, 2) := by decide +kernel
theorem d_VG_init_102 : decode prog_1_method_1_code 102 = .ok (.new 52, 3) := by decide +kernel
theorem d_VG_init_105 : decode prog_1_method_1_code 105 = .ok (.dup, 1) := by decide +kernel
theorem d_VG_init_106 : decode prog_1_method_1_code 106 = .ok (.iload 4, 2) := by decide +kernel
theorem d_VG_init_108 : decode prog_1_method_1_code 108 = .ok (.aload_n 3, 1) := by decide +kernel
theorem d_VG_init_109 : decode prog_1_method_1_code 109 = .ok (.aload_n 0, 1) := by decide +kernel
theorem d_VG_init_110 : decode prog_1_method_1_code 110 = .ok (.getfield 24, 3) := by decide +kernel
theorem d_VG_init_113 : decode prog_1_method_1_code 113 = .ok (.invokespecial 57, 3) := by decide +kernel
theorem d_VG_init_116 : decode prog_1_method_1_code 116 = .ok (.aastore, 1) := by decide +kernel
theorem d_VG_init_117 : decode prog_1_method_1_code 117 = .ok (.iinc 4 1, 3) := by decide +kernel
theorem d_VG_init_120 : decode prog_1_method_1_code 120 = .ok (.goto (-33), 3) := by decide +kernel
theorem d_VG_init_123 : decode prog_1_method_1_code 123 = .ok (.return_, 1) := by decide +kernel
theorem d_Object_init_0 : decode object_method_1_code 0 = .ok (.return_, 1) := by decide +kernel
theorem d_Math_min_0 : decode prog_18_method_69_code 0 = .ok (.iload_n 0, 1) := by decide +kernel
theorem d_Math_min_1 : decode prog_18_method_69_code 1 = .ok (.iload_n 1, 1) := by decide +kernel
theorem d_Math_min_2 : decode prog_18_method_69_code 2 = .ok (.if_icmp .gt 7, 3) := by decide +kernel
theorem d_Math_min_5 : decode prog_18_method_69_code 5 = .ok (.iload_n 0, 1) := by decide +kernel
theorem d_Math_min_6 : decode prog_18_method_69_code 6 = .ok (.goto 4, 3) := by decide +kernel
theorem d_Math_min_9 : decode prog_18_method_69_code 9 = .ok (.iload_n 1, 1) := by decide +kernel
theorem d_Math_min_10 : decode prog_18_method_69_code 10 = .ok (.ireturn, 1) := by decide +kernel
theorem d_Math_max_0 : decode prog_18_method_65_code 0 = .ok (.iload_n 0, 1) := by decide +kernel
theorem d_Math_max_1 : decode prog_18_method_65_code 1 = .ok (.iload_n 1, 1) := by decide +kernel
theorem d_Math_max_2 : decode prog_18_method_65_code 2 = .ok (.if_icmp .lt 7, 3) := by decide +kernel
theorem d_Math_max_5 : decode prog_18_method_65_code 5 = .ok (.iload_n 0, 1) := by decide +kernel
theorem d_Math_max_6 : decode prog_18_method_65_code 6 = .ok (.goto 4, 3) := by decide +kernel
theorem d_Math_max_9 : decode prog_18_method_65_code 9 = .ok (.iload_n 1, 1) := by decide +kernel
theorem d_Math_max_10 : decode prog_18_method_65_code 10 = .ok (.ireturn, 1) := by decide +kernel
theorem d_Plan_init_0 : decode prog_11_method_1_code 0 = .ok (.aload_n 0, 1) := by decide +kernel
theorem d_Plan_init_1 : decode prog_11_method_1_code 1 = .ok (.invokespecial 3, 3) := by decide +kernel
theorem d_Plan_init_4 : decode prog_11_method_1_code 4 = .ok (.aload_n 0, 1) := by decide +kernel
theorem d_Plan_init_5 : decode prog_11_method_1_code 5 = .ok (.iload_n 1, 1) := by decide +kernel
theorem d_Plan_init_6 : decode prog_11_method_1_code 6 = .ok (.putfield 9, 3) := by decide +kernel
theorem d_Plan_init_9 : decode prog_11_method_1_code 9 = .ok (.aload_n 0, 1) := by decide +kernel
theorem d_Plan_init_10 : decode prog_11_method_1_code 10 = .ok (.iload_n 2, 1) := by decide +kernel
theorem d_Plan_init_11 : decode prog_11_method_1_code 11 = .ok (.putfield 15, 3) := by decide +kernel
theorem d_Plan_init_14 : decode prog_11_method_1_code 14 = .ok (.return_, 1) := by decide +kernel
theorem d_Post_init_0 : decode prog_12_method_1_code 0 = .ok (.aload_n 0, 1) := by decide +kernel
theorem d_Post_init_1 : decode prog_12_method_1_code 1 = .ok (.invokespecial 3, 3) := by decide +kernel
theorem d_Post_init_4 : decode prog_12_method_1_code 4 = .ok (.aload_n 0, 1) := by decide +kernel
theorem d_Post_init_5 : decode prog_12_method_1_code 5 = .ok (.bipush 65, 2) := by decide +kernel
theorem d_Post_init_7 : decode prog_12_method_1_code 7 = .ok (.anewarray 9, 3) := by decide +kernel
theorem d_Post_init_10 : decode prog_12_method_1_code 10 = .ok (.putfield 11, 3) := by decide +kernel
theorem d_Post_init_13 : decode prog_12_method_1_code 13 = .ok (.aload_n 0, 1) := by decide +kernel
theorem d_Post_init_14 : decode prog_12_method_1_code 14 = .ok (.bipush 64, 2) := by decide +kernel
theorem d_Post_init_16 : decode prog_12_method_1_code 16 = .ok (.newarray .int, 2) := by decide +kernel
theorem d_Post_init_18 : decode prog_12_method_1_code 18 = .ok (.putfield 17, 3) := by decide +kernel
theorem d_Post_init_21 : decode prog_12_method_1_code 21 = .ok (.iconst 0, 1) := by decide +kernel
theorem d_Post_init_22 : decode prog_12_method_1_code 22 = .ok (.istore_n 1, 1) := by decide +kernel
theorem d_Post_init_23 : decode prog_12_method_1_code 23 = .ok (.iload_n 1, 1) := by decide +kernel
theorem d_Post_init_24 : decode prog_12_method_1_code 24 = .ok (.bipush 64, 2) := by decide +kernel
theorem d_Post_init_26 : decode prog_12_method_1_code 26 = .ok (.if_icmp .gt 22, 3) := by decide +kernel
theorem d_Post_init_29 : decode prog_12_method_1_code 29 = .ok (.aload_n 0, 1) := by decide +kernel
theorem d_Post_init_30 : decode prog_12_method_1_code 30 = .ok (.getfield 11, 3) := by decide +kernel
theorem d_Post_init_33 : decode prog_12_method_1_code 33 = .ok (.iload_n 1, 1) := by decide +kernel
theorem d_Post_init_34 : decode prog_12_method_1_code 34 = .ok (.new 9, 3) := by decide +kernel
theorem d_Post_init_37 : decode prog_12_method_1_code 37 = .ok (.dup, 1) := by decide +kernel
theorem d_Post_init_38 : decode prog_12_method_1_code 38 = .ok (.invokespecial 21, 3) := by decide +kernel
theorem d_Post_init_41 : decode prog_12_method_1_code 41 = .ok (.aastore, 1) := by decide +kernel
theorem d_Post_init_42 : decode prog_12_method_1_code 42 = .ok (.iinc 1 1, 3) := by decide +kernel
theorem d_Post_init_45 : decode prog_12_method_1_code 45 = .ok (.goto (-22), 3) := by decide +kernel
theorem d_Post_init_48 : decode prog_12_method_1_code 48 = .ok (.iconst 0, 1) := by decide +kernel
theorem d_Post_init_49 : decode prog_12_method_1_code 49 = .ok (.istore_n 1, 1) := by decide +kernel
theorem d_Post_init_50 : decode prog_12_method_1_code 50 = .ok (.iload_n 1, 1) := by decide +kernel
theorem d_Post_init_51 : decode prog_12_method_1_code 51 = .ok (.bipush 64, 2) := by decide +kernel
theorem d_Post_init_53 : decode prog_12_method_1_code 53 = .ok (.if_icmp .ge 16, 3) := by decide +kernel
theorem d_Post_init_56 : decode prog_12_method_1_code 56 = .ok (.aload_n 0, 1) := by decide +kernel
theorem d_Post_init_57 : decode prog_12_method_1_code 57 = .ok (.getfield 17, 3) := by decide +kernel
theorem d_Post_init_60 : decode prog_12_method_1_code 60 = .ok (.iload_n 1, 1) := by decide +kernel
theorem d_Post_init_61 : decode prog_12_method_1_code 61 = .ok (.iload_n 1, 1) := by decide +kernel
theorem d_Post_init_62 : decode prog_12_method_1_code 62 = .ok (.iastore, 1) := by decide +kernel
theorem d_Post_init_63 : decode prog_12_method_1_code 63 = .ok (.iinc 1 1, 3) := by decide +kernel
theorem d_Post_init_66 : decode prog_12_method_1_code 66 = .ok (.goto (-16), 3) := by decide +kernel
theorem d_Post_init_69 : decode prog_12_method_1_code 69 = .ok (.return_, 1) := by decide +kernel
theorem d_Message_init_0 : decode prog_9_method_1_code 0 = .ok (.aload_n 0, 1) := by decide +kernel
theorem d_Message_init_1 : decode prog_9_method_1_code 1 = .ok (.invokespecial 1, 3) := by decide +kernel
theorem d_Message_init_4 : decode prog_9_method_1_code 4 = .ok (.aload_n 0, 1) := by decide +kernel
theorem d_Message_init_5 : decode prog_9_method_1_code 5 = .ok (.new 7, 3) := by decide +kernel
theorem d_Message_init_8 : decode prog_9_method_1_code 8 = .ok (.dup, 1) := by decide +kernel
theorem d_Message_init_9 : decode prog_9_method_1_code 9 = .ok (.invokespecial 9, 3) := by decide +kernel
theorem d_Message_init_12 : decode prog_9_method_1_code 12 = .ok (.putfield 10, 3) := by decide +kernel
theorem d_Message_init_15 : decode prog_9_method_1_code 15 = .ok (.return_, 1) := by decide +kernel
theorem d_Copy_init_0 : decode prog_4_method_1_code 0 = .ok (.aload_n 0, 1) := by decide +kernel
theorem d_Copy_init_1 : decode prog_4_method_1_code 1 = .ok (.invokespecial 3, 3) := by decide +kernel
theorem d_Copy_init_4 : decode prog_4_method_1_code 4 = .ok (.aload_n 0, 1) := by decide +kernel
theorem d_Copy_init_5 : decode prog_4_method_1_code 5 = .ok (.bipush 40, 2) := by decide +kernel
theorem d_Copy_init_7 : decode prog_4_method_1_code 7 = .ok (.newarray .int, 2) := by decide +kernel
theorem d_Copy_init_9 : decode prog_4_method_1_code 9 = .ok (.putfield 9, 3) := by decide +kernel
theorem d_Copy_init_12 : decode prog_4_method_1_code 12 = .ok (.aload_n 0, 1) := by decide +kernel
theorem d_Copy_init_13 : decode prog_4_method_1_code 13 = .ok (.bipush 8, 2) := by decide +kernel
theorem d_Copy_init_15 : decode prog_4_method_1_code 15 = .ok (.newarray .int, 2) := by decide +kernel
theorem d_Copy_init_17 : decode prog_4_method_1_code 17 = .ok (.putfield 15, 3) := by decide +kernel
theorem d_Copy_init_20 : decode prog_4_method_1_code 20 = .ok (.aload_n 0, 1) := by decide +kernel
theorem d_Copy_init_21 : decode prog_4_method_1_code 21 = .ok (.bipush 8, 2) := by decide +kernel
theorem d_Copy_init_23 : decode prog_4_method_1_code 23 = .ok (.anewarray 18, 3) := by decide +kernel
theorem d_Copy_init_26 : decode prog_4_method_1_code 26 = .ok (.putfield 20, 3) := by decide +kernel
theorem d_Copy_init_29 : decode prog_4_method_1_code 29 = .ok (.return_, 1) := by decide +kernel
theorem d_MapKeeper_init_0 : decode prog_7_method_1_code 0 = .ok (.aload_n 0, 1) := by decide +kernel
theorem d_MapKeeper_init_1 : decode prog_7_method_1_code 1 = .ok (.invokespecial 3, 3) := by decide +kernel
theorem d_MapKeeper_init_4 : decode prog_7_method_1_code 4 = .ok (.aload_n 0, 1) := by decide +kernel
theorem d_MapKeeper_init_5 : decode prog_7_method_1_code 5 = .ok (.iconst 1, 1) := by decide +kernel
theorem d_MapKeeper_init_6 : decode prog_7_method_1_code 6 = .ok (.putfield 9, 3) := by decide +kernel
theorem d_MapKeeper_init_9 : decode prog_7_method_1_code 9 = .ok (.aload_n 0, 1) := by decide +kernel
theorem d_MapKeeper_init_10 : decode prog_7_method_1_code 10 = .ok (.aload_n 1, 1) := by decide +kernel
theorem d_MapKeeper_init_11 : decode prog_7_method_1_code 11 = .ok (.putfield 15, 3) := by decide +kernel
theorem d_MapKeeper_init_14 : decode prog_7_method_1_code 14 = .ok (.aload_n 0, 1) := by decide +kernel
theorem d_MapKeeper_init_15 : decode prog_7_method_1_code 15 = .ok (.aload_n 2, 1) := by decide +kernel
theorem d_MapKeeper_init_16 : decode prog_7_method_1_code 16 = .ok (.putfield 19, 3) := by decide +kernel
theorem d_MapKeeper_init_19 : decode prog_7_method_1_code 19 = .ok (.aload_n 0, 1) := by decide +kernel
theorem d_MapKeeper_init_20 : decode prog_7_method_1_code 20 = .ok (.aload_n 1, 1) := by decide +kernel
theorem d_MapKeeper_init_21 : decode prog_7_method_1_code 21 = .ok (.invokevirtual 23, 3) := by decide +kernel
theorem d_MapKeeper_init_24 : decode prog_7_method_1_code 24 = .ok (.putfield 29, 3) := by decide +kernel
theorem d_MapKeeper_init_27 : decode prog_7_method_1_code 27 = .ok (.aload_n 0, 1) := by decide +kernel
theorem d_MapKeeper_init_28 : decode prog_7_method_1_code 28 = .ok (.aload_n 1, 1) := by decide +kernel
theorem d_MapKeeper_init_29 : decode prog_7_method_1_code 29 = .ok (.aload_n 0, 1) := by decide +kernel
theorem d_MapKeeper_init_30 : decode prog_7_method_1_code 30 = .ok (.getfield 29, 3) := by decide +kernel
theorem d_MapKeeper_init_33 : decode prog_7_method_1_code 33 = .ok (.invokevirtual 32, 3) := by decide +kernel
theorem d_MapKeeper_init_36 : decode prog_7_method_1_code 36 = .ok (.putfield 36, 3) := by decide +kernel
theorem d_MapKeeper_init_39 : decode prog_7_method_1_code 39 = .ok (.aload_n 0, 1) := by decide +kernel
theorem d_MapKeeper_init_40 : decode prog_7_method_1_code 40 = .ok (.aload_n 1, 1) := by decide +kernel
theorem d_MapKeeper_init_41 : decode prog_7_method_1_code 41 = .ok (.getfield 39, 3) := by decide +kernel
theorem d_MapKeeper_init_44 : decode prog_7_method_1_code 44 = .ok (.newarray .int, 2) := by decide +kernel
theorem d_MapKeeper_init_46 : decode prog_7_method_1_code 46 = .ok (.putfield 42, 3) := by decide +kernel
theorem d_MapKeeper_init_49 : decode prog_7_method_1_code 49 = .ok (.iconst 0, 1) := by decide +kernel
theorem d_MapKeeper_init_50 : decode prog_7_method_1_code 50 = .ok (.istore_n 3, 1) := by decide +kernel
theorem d_MapKeeper_init_51 : decode prog_7_method_1_code 51 = .ok (.iload_n 3, 1) := by decide +kernel
theorem d_MapKeeper_init_52 : decode prog_7_method_1_code 52 = .ok (.aload_n 1, 1) := by decide +kernel
theorem d_MapKeeper_init_53 : decode prog_7_method_1_code 53 = .ok (.getfield 39, 3) := by decide +kernel
theorem d_MapKeeper_init_56 : decode prog_7_method_1_code 56 = .ok (.if_icmp .ge 19, 3) := by decide +kernel
theorem d_MapKeeper_init_59 : decode prog_7_method_1_code 59 = .ok (.aload_n 0, 1) := by decide +kernel
theorem d_MapKeeper_init_60 : decode prog_7_method_1_code 60 = .ok (.getfield 42, 3) := by decide +kernel
theorem d_MapKeeper_init_63 : decode prog_7_method_1_code 63 = .ok (.iload_n 3, 1) := by decide +kernel
theorem d_MapKeeper_init_64 : decode prog_7_method_1_code 64 = .ok (.aload_n 0, 1) := by decide +kernel
theorem d_MapKeeper_init_65 : decode prog_7_method_1_code 65 = .ok (.getfield 9, 3) := by decide +kernel
theorem d_MapKeeper_init_68 : decode prog_7_method_1_code 68 = .ok (.iastore, 1) := by decide +kernel
theorem d_MapKeeper_init_69 : decode prog_7_method_1_code 69 = .ok (.iinc 3 1, 3) := by decide +kernel
theorem d_MapKeeper_init_72 : decode prog_7_method_1_code 72 = .ok (.goto (-21), 3) := by decide +kernel
theorem d_MapKeeper_init_75 : decode prog_7_method_1_code 75 = .ok (.return_, 1) := by decide +kernel
theorem d_Plan_all_0 : decode prog_11_method_2_code 0 = .ok (.iconst 1, 1) := by decide +kernel
theorem d_Plan_all_1 : decode prog_11_method_2_code 1 = .ok (.aload_n 0, 1) := by decide +kernel
theorem d_Plan_all_2 : decode prog_11_method_2_code 2 = .ok (.getfield 9, 3) := by decide +kernel
theorem d_Plan_all_5 : decode prog_11_method_2_code 5 = .ok (.ishl, 1) := by decide +kernel
theorem d_Plan_all_6 : decode prog_11_method_2_code 6 = .ok (.iconst 1, 1) := by decide +kernel
theorem d_Plan_all_7 : decode prog_11_method_2_code 7 = .ok (.isub, 1) := by decide +kernel
theorem d_Plan_all_8 : decode prog_11_method_2_code 8 = .ok (.ireturn, 1) := by decide +kernel
theorem d_Plan_greatest_0 : decode prog_11_method_5_code 0 = .ok (.iconst (-1), 1) := by decide +kernel
theorem d_Plan_greatest_1 : decode prog_11_method_5_code 1 = .ok (.istore_n 2, 1) := by decide +kernel
theorem d_Plan_greatest_2 : decode prog_11_method_5_code 2 = .ok (.iconst 0, 1) := by decide +kernel
theorem d_Plan_greatest_3 : decode prog_11_method_5_code 3 = .ok (.istore_n 3, 1) := by decide +kernel
theorem d_Plan_greatest_4 : decode prog_11_method_5_code 4 = .ok (.iload_n 3, 1) := by decide +kernel
theorem d_Plan_greatest_5 : decode prog_11_method_5_code 5 = .ok (.aload_n 0, 1) := by decide +kernel
theorem d_Plan_greatest_6 : decode prog_11_method_5_code 6 = .ok (.getfield 9, 3) := by decide +kernel
theorem d_Plan_greatest_9 : decode prog_11_method_5_code 9 = .ok (.if_icmp .ge 41, 3) := by decide +kernel
theorem d_Plan_greatest_12 : decode prog_11_method_5_code 12 = .ok (.iload_n 1, 1) := by decide +kernel
theorem d_Plan_greatest_13 : decode prog_11_method_5_code 13 = .ok (.iload_n 3, 1) := by decide +kernel
theorem d_Plan_greatest_14 : decode prog_11_method_5_code 14 = .ok (.iushr, 1) := by decide +kernel
theorem d_Plan_greatest_15 : decode prog_11_method_5_code 15 = .ok (.iconst 1, 1) := by decide +kernel
theorem d_Plan_greatest_16 : decode prog_11_method_5_code 16 = .ok (.iand, 1) := by decide +kernel
theorem d_Plan_greatest_17 : decode prog_11_method_5_code 17 = .ok (.ifCond .eq 27, 3) := by decide +kernel
theorem d_Plan_greatest_20 : decode prog_11_method_5_code 20 = .ok (.iload_n 2, 1) := by decide +kernel
theorem d_Plan_greatest_21 : decode prog_11_method_5_code 21 = .ok (.iconst (-1), 1) := by decide +kernel
theorem d_Plan_greatest_22 : decode prog_11_method_5_code 22 = .ok (.if_icmp .eq 20, 3) := by decide +kernel
theorem d_Plan_greatest_25 : decode prog_11_method_5_code 25 = .ok (.iload_n 3, 1) := by decide +kernel
theorem d_Plan_greatest_26 : decode prog_11_method_5_code 26 = .ok (.bipush 37, 2) := by decide +kernel
theorem d_Plan_greatest_28 : decode prog_11_method_5_code 28 = .ok (.imul, 1) := by decide +kernel
theorem d_Plan_greatest_29 : decode prog_11_method_5_code 29 = .ok (.bipush 11, 2) := by decide +kernel
theorem d_Plan_greatest_31 : decode prog_11_method_5_code 31 = .ok (.irem, 1) := by decide +kernel
theorem d_Plan_greatest_32 : decode prog_11_method_5_code 32 = .ok (.iload_n 2, 1) := by decide +kernel
theorem d_Plan_greatest_33 : decode prog_11_method_5_code 33 = .ok (.bipush 37, 2) := by decide +kernel
theorem d_Plan_greatest_35 : decode prog_11_method_5_code 35 = .ok (.imul, 1) := by decide +kernel
theorem d_Plan_greatest_36 : decode prog_11_method_5_code 36 = .ok (.bipush 11, 2) := by decide +kernel
theorem d_Plan_greatest_38 : decode prog_11_method_5_code 38 = .ok (.irem, 1) := by decide +kernel
theorem d_Plan_greatest_39 : decode prog_11_method_5_code 39 = .ok (.if_icmp .le 5, 3) := by decide +kernel
theorem d_Plan_greatest_42 : decode prog_11_method_5_code 42 = .ok (.iload_n 3, 1) := by decide +kernel
theorem d_Plan_greatest_43 : decode prog_11_method_5_code 43 = .ok (.istore_n 2, 1) := by decide +kernel
theorem d_Plan_greatest_44 : decode prog_11_method_5_code 44 = .ok (.iinc 3 1, 3) := by decide +kernel
theorem d_Plan_greatest_47 : decode prog_11_method_5_code 47 = .ok (.goto (-43), 3) := by decide +kernel
theorem d_Plan_greatest_50 : decode prog_11_method_5_code 50 = .ok (.iload_n 2, 1) := by decide +kernel
theorem d_Plan_greatest_51 : decode prog_11_method_5_code 51 = .ok (.ireturn, 1) := by decide +kernel
theorem d_Desk_init_0 : decode prog_5_method_1_code 0 = .ok (.aload_n 0, 1) := by decide +kernel
theorem d_Desk_init_1 : decode prog_5_method_1_code 1 = .ok (.invokespecial 3, 3) := by decide +kernel
theorem d_Desk_init_4 : decode prog_5_method_1_code 4 = .ok (.aload_n 0, 1) := by decide +kernel
theorem d_Desk_init_5 : decode prog_5_method_1_code 5 = .ok (.bipush 8, 2) := by decide +kernel
theorem d_Desk_init_7 : decode prog_5_method_1_code 7 = .ok (.anewarray 9, 3) := by decide +kernel
theorem d_Desk_init_10 : decode prog_5_method_1_code 10 = .ok (.putfield 11, 3) := by decide +kernel
theorem d_Desk_init_13 : decode prog_5_method_1_code 13 = .ok (.aload_n 0, 1) := by decide +kernel
theorem d_Desk_init_14 : decode prog_5_method_1_code 14 = .ok (.bipush 8, 2) := by decide +kernel
theorem d_Desk_init_16 : decode prog_5_method_1_code 16 = .ok (.newarray .boolean, 2) := by decide +kernel
theorem d_Desk_init_18 : decode prog_5_method_1_code 18 = .ok (.putfield 17, 3) := by decide +kernel
theorem d_Desk_init_21 : decode prog_5_method_1_code 21 = .ok (.aload_n 0, 1) := by decide +kernel
theorem d_Desk_init_22 : decode prog_5_method_1_code 22 = .ok (.sipush 512, 3) := by decide +kernel
theorem d_Desk_init_25 : decode prog_5_method_1_code 25 = .ok (.newarray .int, 2) := by decide +kernel
theorem d_Desk_init_27 : decode prog_5_method_1_code 27 = .ok (.putfield 21, 3) := by decide +kernel
theorem d_Desk_init_30 : decode prog_5_method_1_code 30 = .ok (.aload_n 0, 1) := by decide +kernel
theorem d_Desk_init_31 : decode prog_5_method_1_code 31 = .ok (.aload_n 1, 1) := by decide +kernel
theorem d_Desk_init_32 : decode prog_5_method_1_code 32 = .ok (.putfield 25, 3) := by decide +kernel
theorem d_Desk_init_35 : decode prog_5_method_1_code 35 = .ok (.return_, 1) := by decide +kernel
theorem d_Node_init_0 : decode prog_10_method_1_code 0 = .ok (.aload_n 0, 1) := by decide +kernel
theorem d_Node_init_1 : decode prog_10_method_1_code 1 = .ok (.invokespecial 3, 3) := by decide +kernel
theorem d_Node_init_4 : decode prog_10_method_1_code 4 = .ok (.aload_n 0, 1) := by decide +kernel
theorem d_Node_init_5 : decode prog_10_method_1_code 5 = .ok (.new 9, 3) := by decide +kernel
theorem d_Node_init_8 : decode prog_10_method_1_code 8 = .ok (.dup, 1) := by decide +kernel
theorem d_Node_init_9 : decode prog_10_method_1_code 9 = .ok (.invokespecial 11, 3) := by decide +kernel
theorem d_Node_init_12 : decode prog_10_method_1_code 12 = .ok (.putfield 12, 3) := by decide +kernel
theorem d_Node_init_15 : decode prog_10_method_1_code 15 = .ok (.aload_n 0, 1) := by decide +kernel
theorem d_Node_init_16 : decode prog_10_method_1_code 16 = .ok (.new 9, 3) := by decide +kernel
theorem d_Node_init_19 : decode prog_10_method_1_code 19 = .ok (.dup, 1) := by decide +kernel
theorem d_Node_init_20 : decode prog_10_method_1_code 20 = .ok (.invokespecial 11, 3) := by decide +kernel
theorem d_Node_init_23 : decode prog_10_method_1_code 23 = .ok (.putfield 18, 3) := by decide +kernel
theorem d_Node_init_26 : decode prog_10_method_1_code 26 = .ok (.aload_n 0, 1) := by decide +kernel
theorem d_Node_init_27 : decode prog_10_method_1_code 27 = .ok (.iconst 1, 1) := by decide +kernel
theorem d_Node_init_28 : decode prog_10_method_1_code 28 = .ok (.putfield 21, 3) := by decide +kernel
theorem d_Node_init_31 : decode prog_10_method_1_code 31 = .ok (.aload_n 0, 1) := by decide +kernel
theorem d_Node_init_32 : decode prog_10_method_1_code 32 = .ok (.iload_n 1, 1) := by decide +kernel
theorem d_Node_init_33 : decode prog_10_method_1_code 33 = .ok (.putfield 25, 3) := by decide +kernel
theorem d_Node_init_36 : decode prog_10_method_1_code 36 = .ok (.aload_n 0, 1) := by decide +kernel
theorem d_Node_init_37 : decode prog_10_method_1_code 37 = .ok (.aload_n 2, 1) := by decide +kernel
theorem d_Node_init_38 : decode prog_10_method_1_code 38 = .ok (.putfield 29, 3) := by decide +kernel
theorem d_Node_init_41 : decode prog_10_method_1_code 41 = .ok (.aload_n 0, 1) := by decide +kernel
theorem d_Node_init_42 : decode prog_10_method_1_code 42 = .ok (.aload_n 3, 1) := by decide +kernel
theorem d_Node_init_43 : decode prog_10_method_1_code 43 = .ok (.putfield 33, 3) := by decide +kernel
theorem d_Node_init_46 : decode prog_10_method_1_code 46 = .ok (.aload_n 0, 1) := by decide +kernel
theorem d_Node_init_47 : decode prog_10_method_1_code 47 = .ok (.new 37, 3) := by decide +kernel
theorem d_Node_init_50 : decode prog_10_method_1_code 50 = .ok (.dup, 1) := by decide +kernel
theorem d_Node_init_51 : decode prog_10_method_1_code 51 = .ok (.aload_n 2, 1) := by decide +kernel
theorem d_Node_init_52 : decode prog_10_method_1_code 52 = .ok (.getfield 39, 3) := by decide +kernel
theorem d_Node_init_55 : decode prog_10_method_1_code 55 = .ok (.invokespecial 44, 3) := by decide +kernel
theorem d_Node_init_58 : decode prog_10_method_1_code 58 = .ok (.putfield 47, 3) := by decide +kernel
theorem d_Node_init_61 : decode prog_10_method_1_code 61 = .ok (.aload_n 2, 1) := by decide +kernel
theorem d_Node_init_62 : decode prog_10_method_1_code 62 = .ok (.aload_n 2, 1) := by decide +kernel
theorem d_Node_init_63 : decode prog_10_method_1_code 63 = .ok (.invokevirtual 51, 3) := by decide +kernel
theorem d_Node_init_66 : decode prog_10_method_1_code 66 = .ok (.invokevirtual 55, 3) := by decide +kernel
theorem d_Node_init_69 : decode prog_10_method_1_code 69 = .ok (.istore 4, 2) := by decide +kernel
theorem d_Node_init_71 : decode prog_10_method_1_code 71 = .ok (.aload_n 0, 1) := by decide +kernel
theorem d_Node_init_72 : decode prog_10_method_1_code 72 = .ok (.getfield 12, 3) := by decide +kernel
theorem d_Node_init_75 : decode prog_10_method_1_code 75 = .ok (.iconst 1, 1) := by decide +kernel
theorem d_Node_init_76 : decode prog_10_method_1_code 76 = .ok (.iload 4, 2) := by decide +kernel
theorem d_Node_init_78 : decode prog_10_method_1_code 78 = .ok (.aload_n 2, 1) := by decide +kernel
theorem d_Node_init_79 : decode prog_10_method_1_code 79 = .ok (.iload 4, 2) := by decide +kernel
theorem d_Node_init_81 : decode prog_10_method_1_code 81 = .ok (.invokevirtual 59, 3) := by decide +kernel
theorem d_Node_init_84 : decode prog_10_method_1_code 84 = .ok (.invokevirtual 62, 3) := by decide +kernel
theorem d_Node_init_87 : decode prog_10_method_1_code 87 = .ok (.aload_n 0, 1) := by decide +kernel
theorem d_Node_init_88 : decode prog_10_method_1_code 88 = .ok (.getfield 18, 3) := by decide +kernel
theorem d_Node_init_91 : decode prog_10_method_1_code 91 = .ok (.aload_n 0, 1) := by decide +kernel
theorem d_Node_init_92 : decode prog_10_method_1_code 92 = .ok (.getfield 12, 3) := by decide +kernel
theorem d_Node_init_95 : decode prog_10_method_1_code 95 = .ok (.invokevirtual 66, 3) := by decide +kernel
theorem d_Node_init_98 : decode prog_10_method_1_code 98 = .ok (.return_, 1) := by decide +kernel
theorem d_Memory_init_0 : decode prog_8_method_1_code 0 = .ok (.aload_n 0, 1) := by decide +kernel
theorem d_Memory_init_1 : decode prog_8_method_1_code 1 = .ok (.invokespecial 1, 3) := by decide +kernel
theorem d_Memory_init_4 : decode prog_8_method_1_code 4 = .ok (.aload_n 0, 1) := by decide +kernel
theorem d_Memory_init_5 : decode prog_8_method_1_code 5 = .ok (.new 7, 3) := by decide +kernel
theorem d_Memory_init_8 : decode prog_8_method_1_code 8 = .ok (.dup, 1) := by decide +kernel
theorem d_Memory_init_9 : decode prog_8_method_1_code 9 = .ok (.invokespecial 9, 3) := by decide +kernel
theorem d_Memory_init_12 : decode prog_8_method_1_code 12 = .ok (.putfield 10, 3) := by decide +kernel
theorem d_Memory_init_15 : decode prog_8_method_1_code 15 = .ok (.return_, 1) := by decide +kernel
theorem d_Reports_init_0 : decode prog_13_method_1_code 0 = .ok (.aload_n 0, 1) := by decide +kernel
theorem d_Reports_init_1 : decode prog_13_method_1_code 1 = .ok (.invokespecial 3, 3) := by decide +kernel
theorem d_Reports_init_4 : decode prog_13_method_1_code 4 = .ok (.aload_n 0, 1) := by decide +kernel
theorem d_Reports_init_5 : decode prog_13_method_1_code 5 = .ok (.iload_n 1, 1) := by decide +kernel
theorem d_Reports_init_6 : decode prog_13_method_1_code 6 = .ok (.newarray .boolean, 2) := by decide +kernel
theorem d_Reports_init_8 : decode prog_13_method_1_code 8 = .ok (.putfield 9, 3) := by decide +kernel
theorem d_Reports_init_11 : decode prog_13_method_1_code 11 = .ok (.aload_n 0, 1) := by decide +kernel
theorem d_Reports_init_12 : decode prog_13_method_1_code 12 = .ok (.iload_n 1, 1) := by decide +kernel
theorem d_Reports_init_13 : decode prog_13_method_1_code 13 = .ok (.newarray .int, 2) := by decide +kernel
theorem d_Reports_init_15 : decode prog_13_method_1_code 15 = .ok (.putfield 15, 3) := by decide +kernel
theorem d_Reports_init_18 : decode prog_13_method_1_code 18 = .ok (.aload_n 0, 1) := by decide +kernel
theorem d_Reports_init_19 : decode prog_13_method_1_code 19 = .ok (.iload_n 1, 1) := by decide +kernel
theorem d_Reports_init_20 : decode prog_13_method_1_code 20 = .ok (.newarray .int, 2) := by decide +kernel
theorem d_Reports_init_22 : decode prog_13_method_1_code 22 = .ok (.putfield 19, 3) := by decide +kernel
theorem d_Reports_init_25 : decode prog_13_method_1_code 25 = .ok (.return_, 1) := by decide +kernel
theorem d_Plan_keepers_0 : decode prog_11_method_4_code 0 = .ok (.iload_n 1, 1) := by decide +kernel
theorem d_Plan_keepers_1 : decode prog_11_method_4_code 1 = .ok (.aload_n 0, 1) := by decide +kernel
theorem d_Plan_keepers_2 : decode prog_11_method_4_code 2 = .ok (.invokevirtual 18, 3) := by decide +kernel
theorem d_Plan_keepers_5 : decode prog_11_method_4_code 5 = .ok (.iand, 1) := by decide +kernel
theorem d_Plan_keepers_6 : decode prog_11_method_4_code 6 = .ok (.invokestatic 22, 3) := by decide +kernel
theorem d_Plan_keepers_9 : decode prog_11_method_4_code 9 = .ok (.aload_n 0, 1) := by decide +kernel
theorem d_Plan_keepers_10 : decode prog_11_method_4_code 10 = .ok (.getfield 15, 3) := by decide +kernel
theorem d_Plan_keepers_13 : decode prog_11_method_4_code 13 = .ok (.if_icmp .ge 5, 3) := by decide +kernel
theorem d_Plan_keepers_16 : decode prog_11_method_4_code 16 = .ok (.iconst 0, 1) := by decide +kernel
theorem d_Plan_keepers_17 : decode prog_11_method_4_code 17 = .ok (.ireturn, 1) := by decide +kernel
theorem d_Plan_keepers_18 : decode prog_11_method_4_code 18 = .ok (.iconst 0, 1) := by decide +kernel
theorem d_Plan_keepers_19 : decode prog_11_method_4_code 19 = .ok (.istore_n 2, 1) := by decide +kernel
theorem d_Plan_keepers_20 : decode prog_11_method_4_code 20 = .ok (.iconst 0, 1) := by decide +kernel
theorem d_Plan_keepers_21 : decode prog_11_method_4_code 21 = .ok (.istore_n 3, 1) := by decide +kernel
theorem d_Plan_keepers_22 : decode prog_11_method_4_code 22 = .ok (.iload_n 3, 1) := by decide +kernel
theorem d_Plan_keepers_23 : decode prog_11_method_4_code 23 = .ok (.aload_n 0, 1) := by decide +kernel
theorem d_Plan_keepers_24 : decode prog_11_method_4_code 24 = .ok (.getfield 15, 3) := by decide +kernel
theorem d_Plan_keepers_27 : decode prog_11_method_4_code 27 = .ok (.if_icmp .ge 23, 3) := by decide +kernel
theorem d_Plan_keepers_30 : decode prog_11_method_4_code 30 = .ok (.iload_n 2, 1) := by decide +kernel
theorem d_Plan_keepers_31 : decode prog_11_method_4_code 31 = .ok (.iconst 1, 1) := by decide +kernel
theorem d_Plan_keepers_32 : decode prog_11_method_4_code 32 = .ok (.aload_n 0, 1) := by decide +kernel
theorem d_Plan_keepers_33 : decode prog_11_method_4_code 33 = .ok (.iload_n 1, 1) := by decide +kernel
theorem d_Plan_keepers_34 : decode prog_11_method_4_code 34 = .ok (.iload_n 2, 1) := by decide +kernel
theorem d_Plan_keepers_35 : decode prog_11_method_4_code 35 = .ok (.iconst (-1), 1) := by decide +kernel
theorem d_Plan_keepers_36 : decode prog_11_method_4_code 36 = .ok (.ixor, 1) := by decide +kernel
theorem d_Plan_keepers_37 : decode prog_11_method_4_code 37 = .ok (.iand, 1) := by decide +kernel
theorem d_Plan_keepers_38 : decode prog_11_method_4_code 38 = .ok (.invokevirtual 28, 3) := by decide +kernel
theorem d_Plan_keepers_41 : decode prog_11_method_4_code 41 = .ok (.ishl, 1) := by decide +kernel
theorem d_Plan_keepers_42 : decode prog_11_method_4_code 42 = .ok (.ior, 1) := by decide +kernel
theorem d_Plan_keepers_43 : decode prog_11_method_4_code 43 = .ok (.istore_n 2, 1) := by decide +kernel
theorem d_Plan_keepers_44 : decode prog_11_method_4_code 44 = .ok (.iinc 3 1, 3) := by decide +kernel
theorem d_Plan_keepers_47 : decode prog_11_method_4_code 47 = .ok (.goto (-25), 3) := by decide +kernel
theorem d_Plan_keepers_50 : decode prog_11_method_4_code 50 = .ok (.iload_n 2, 1) := by decide +kernel
theorem d_Plan_keepers_51 : decode prog_11_method_4_code 51 = .ok (.ireturn, 1) := by decide +kernel
theorem d_Integer_bitCount_0 : decode prog_17_method_49_code 0 = .ok (.iload_n 0, 1) := by decide +kernel
theorem d_Integer_bitCount_1 : decode prog_17_method_49_code 1 = .ok (.iload_n 0, 1) := by decide +kernel
theorem d_Integer_bitCount_2 : decode prog_17_method_49_code 2 = .ok (.iconst 1, 1) := by decide +kernel
theorem d_Integer_bitCount_3 : decode prog_17_method_49_code 3 = .ok (.iushr, 1) := by decide +kernel
theorem d_Integer_bitCount_4 : decode prog_17_method_49_code 4 = .ok (.ldc_w 265, 3) := by decide +kernel
theorem d_Integer_bitCount_7 : decode prog_17_method_49_code 7 = .ok (.iand, 1) := by decide +kernel
theorem d_Integer_bitCount_8 : decode prog_17_method_49_code 8 = .ok (.isub, 1) := by decide +kernel
theorem d_Integer_bitCount_9 : decode prog_17_method_49_code 9 = .ok (.istore_n 0, 1) := by decide +kernel
theorem d_Integer_bitCount_10 : decode prog_17_method_49_code 10 = .ok (.iload_n 0, 1) := by decide +kernel
theorem d_Integer_bitCount_11 : decode prog_17_method_49_code 11 = .ok (.ldc_w 266, 3) := by decide +kernel
theorem d_Integer_bitCount_14 : decode prog_17_method_49_code 14 = .ok (.iand, 1) := by decide +kernel
theorem d_Integer_bitCount_15 : decode prog_17_method_49_code 15 = .ok (.iload_n 0, 1) := by decide +kernel
theorem d_Integer_bitCount_16 : decode prog_17_method_49_code 16 = .ok (.iconst 2, 1) := by decide +kernel
theorem d_Integer_bitCount_17 : decode prog_17_method_49_code 17 = .ok (.iushr, 1) := by decide +kernel
theorem d_Integer_bitCount_18 : decode prog_17_method_49_code 18 = .ok (.ldc_w 266, 3) := by decide +kernel
theorem d_Integer_bitCount_21 : decode prog_17_method_49_code 21 = .ok (.iand, 1) := by decide +kernel
theorem d_Integer_bitCount_22 : decode prog_17_method_49_code 22 = .ok (.iadd, 1) := by decide +kernel
theorem d_Integer_bitCount_23 : decode prog_17_method_49_code 23 = .ok (.istore_n 0, 1) := by decide +kernel
theorem d_Integer_bitCount_24 : decode prog_17_method_49_code 24 = .ok (.iload_n 0, 1) := by decide +kernel
theorem d_Integer_bitCount_25 : decode prog_17_method_49_code 25 = .ok (.iload_n 0, 1) := by decide +kernel
theorem d_Integer_bitCount_26 : decode prog_17_method_49_code 26 = .ok (.iconst 4, 1) := by decide +kernel
theorem d_Integer_bitCount_27 : decode prog_17_method_49_code 27 = .ok (.iushr, 1) := by decide +kernel
theorem d_Integer_bitCount_28 : decode prog_17_method_49_code 28 = .ok (.iadd, 1) := by decide +kernel
theorem d_Integer_bitCount_29 : decode prog_17_method_49_code 29 = .ok (.ldc_w 267, 3) := by decide +kernel
theorem d_Integer_bitCount_32 : decode prog_17_method_49_code 32 = .ok (.iand, 1) := by decide +kernel
theorem d_Integer_bitCount_33 : decode prog_17_method_49_code 33 = .ok (.istore_n 0, 1) := by decide +kernel
theorem d_Integer_bitCount_34 : decode prog_17_method_49_code 34 = .ok (.iload_n 0, 1) := by decide +kernel
theorem d_Integer_bitCount_35 : decode prog_17_method_49_code 35 = .ok (.iload_n 0, 1) := by decide +kernel
theorem d_Integer_bitCount_36 : decode prog_17_method_49_code 36 = .ok (.bipush 8, 2) := by decide +kernel
theorem d_Integer_bitCount_38 : decode prog_17_method_49_code 38 = .ok (.iushr, 1) := by decide +kernel
theorem d_Integer_bitCount_39 : decode prog_17_method_49_code 39 = .ok (.iadd, 1) := by decide +kernel
theorem d_Integer_bitCount_40 : decode prog_17_method_49_code 40 = .ok (.istore_n 0, 1) := by decide +kernel
theorem d_Integer_bitCount_41 : decode prog_17_method_49_code 41 = .ok (.iload_n 0, 1) := by decide +kernel
theorem d_Integer_bitCount_42 : decode prog_17_method_49_code 42 = .ok (.iload_n 0, 1) := by decide +kernel
theorem d_Integer_bitCount_43 : decode prog_17_method_49_code 43 = .ok (.bipush 16, 2) := by decide +kernel
theorem d_Integer_bitCount_45 : decode prog_17_method_49_code 45 = .ok (.iushr, 1) := by decide +kernel
theorem d_Integer_bitCount_46 : decode prog_17_method_49_code 46 = .ok (.iadd, 1) := by decide +kernel
theorem d_Integer_bitCount_47 : decode prog_17_method_49_code 47 = .ok (.istore_n 0, 1) := by decide +kernel
theorem d_Integer_bitCount_48 : decode prog_17_method_49_code 48 = .ok (.iload_n 0, 1) := by decide +kernel
theorem d_Integer_bitCount_49 : decode prog_17_method_49_code 49 = .ok (.bipush 63, 2) := by decide +kernel
theorem d_Integer_bitCount_51 : decode prog_17_method_49_code 51 = .ok (.iand, 1) := by decide +kernel
theorem d_Integer_bitCount_52 : decode prog_17_method_49_code 52 = .ok (.ireturn, 1) := by decide +kernel
theorem d_Memory_enter_0 : decode prog_8_method_2_code 0 = .ok (.aload_n 0, 1) := by decide +kernel
theorem d_Memory_enter_1 : decode prog_8_method_2_code 1 = .ok (.iload_n 1, 1) := by decide +kernel
theorem d_Memory_enter_2 : decode prog_8_method_2_code 2 = .ok (.putfield 16, 3) := by decide +kernel
theorem d_Memory_enter_5 : decode prog_8_method_2_code 5 = .ok (.aload_n 0, 1) := by decide +kernel
theorem d_Memory_enter_6 : decode prog_8_method_2_code 6 = .ok (.iload_n 2, 1) := by decide +kernel
theorem d_Memory_enter_7 : decode prog_8_method_2_code 7 = .ok (.putfield 20, 3) := by decide +kernel
theorem d_Memory_enter_10 : decode prog_8_method_2_code 10 = .ok (.aload_n 0, 1) := by decide +kernel
theorem d_Memory_enter_11 : decode prog_8_method_2_code 11 = .ok (.iload_n 3, 1) := by decide +kernel
theorem d_Memory_enter_12 : decode prog_8_method_2_code 12 = .ok (.putfield 23, 3) := by decide +kernel
theorem d_Memory_enter_15 : decode prog_8_method_2_code 15 = .ok (.return_, 1) := by decide +kernel
theorem d_Memory_become_0 : decode prog_8_method_4_code 0 = .ok (.aload_n 0, 1) := by decide +kernel
theorem d_Memory_become_1 : decode prog_8_method_4_code 1 = .ok (.aload_n 1, 1) := by decide +kernel
theorem d_Memory_become_2 : decode prog_8_method_4_code 2 = .ok (.getfield 16, 3) := by decide +kernel
theorem d_Memory_become_5 : decode prog_8_method_4_code 5 = .ok (.aload_n 1, 1) := by decide +kernel
theorem d_Memory_become_6 : decode prog_8_method_4_code 6 = .ok (.getfield 20, 3) := by decide +kernel
theorem d_Memory_become_9 : decode prog_8_method_4_code 9 = .ok (.aload_n 1, 1) := by decide +kernel
theorem d_Memory_become_10 : decode prog_8_method_4_code 10 = .ok (.getfield 23, 3) := by decide +kernel
theorem d_Memory_become_13 : decode prog_8_method_4_code 13 = .ok (.invokevirtual 26, 3) := by decide +kernel
theorem d_Memory_become_16 : decode prog_8_method_4_code 16 = .ok (.aload_n 0, 1) := by decide +kernel
theorem d_Memory_become_17 : decode prog_8_method_4_code 17 = .ok (.getfield 10, 3) := by decide +kernel
theorem d_Memory_become_20 : decode prog_8_method_4_code 20 = .ok (.aload_n 1, 1) := by decide +kernel
theorem d_Memory_become_21 : decode prog_8_method_4_code 21 = .ok (.getfield 10, 3) := by decide +kernel
theorem d_Memory_become_24 : decode prog_8_method_4_code 24 = .ok (.iconst 1, 1) := by decide +kernel
theorem d_Memory_become_25 : decode prog_8_method_4_code 25 = .ok (.invokevirtual 30, 3) := by decide +kernel
theorem d_Memory_become_28 : decode prog_8_method_4_code 28 = .ok (.return_, 1) := by decide +kernel
theorem d_Copy_copyFrom_0 : decode prog_4_method_9_code 0 = .ok (.aload_n 0, 1) := by decide +kernel
theorem d_Copy_copyFrom_1 : decode prog_4_method_9_code 1 = .ok (.aload_n 1, 1) := by decide +kernel
theorem d_Copy_copyFrom_2 : decode prog_4_method_9_code 2 = .ok (.getfield 28, 3) := by decide +kernel
theorem d_Copy_copyFrom_5 : decode prog_4_method_9_code 5 = .ok (.putfield 28, 3) := by decide +kernel
theorem d_Copy_copyFrom_8 : decode prog_4_method_9_code 8 = .ok (.aload_n 0, 1) := by decide +kernel
theorem d_Copy_copyFrom_9 : decode prog_4_method_9_code 9 = .ok (.aload_n 1, 1) := by decide +kernel
theorem d_Copy_copyFrom_10 : decode prog_4_method_9_code 10 = .ok (.getfield 35, 3) := by decide +kernel
theorem d_Copy_copyFrom_13 : decode prog_4_method_9_code 13 = .ok (.putfield 35, 3) := by decide +kernel
theorem d_Copy_copyFrom_16 : decode prog_4_method_9_code 16 = .ok (.iconst 0, 1) := by decide +kernel
theorem d_Copy_copyFrom_17 : decode prog_4_method_9_code 17 = .ok (.istore_n 3, 1) := by decide +kernel
theorem d_Copy_copyFrom_18 : decode prog_4_method_9_code 18 = .ok (.iload_n 3, 1) := by decide +kernel
theorem d_Copy_copyFrom_19 : decode prog_4_method_9_code 19 = .ok (.bipush 8, 2) := by decide +kernel
theorem d_Copy_copyFrom_21 : decode prog_4_method_9_code 21 = .ok (.if_icmp .ge 21, 3) := by decide +kernel
theorem d_Copy_copyFrom_24 : decode prog_4_method_9_code 24 = .ok (.aload_n 0, 1) := by decide +kernel
theorem d_Copy_copyFrom_25 : decode prog_4_method_9_code 25 = .ok (.getfield 20, 3) := by decide +kernel
theorem d_Copy_copyFrom_28 : decode prog_4_method_9_code 28 = .ok (.iload_n 3, 1) := by decide +kernel
theorem d_Copy_copyFrom_29 : decode prog_4_method_9_code 29 = .ok (.aload_n 1, 1) := by decide +kernel
theorem d_Copy_copyFrom_30 : decode prog_4_method_9_code 30 = .ok (.getfield 20, 3) := by decide +kernel
theorem d_Copy_copyFrom_33 : decode prog_4_method_9_code 33 = .ok (.iload_n 3, 1) := by decide +kernel
theorem d_Copy_copyFrom_34 : decode prog_4_method_9_code 34 = .ok (.aaload, 1) := by decide +kernel
theorem d_Copy_copyFrom_35 : decode prog_4_method_9_code 35 = .ok (.aastore, 1) := by decide +kernel
theorem d_Copy_copyFrom_36 : decode prog_4_method_9_code 36 = .ok (.iinc 3 1, 3) := by decide +kernel
theorem d_Copy_copyFrom_39 : decode prog_4_method_9_code 39 = .ok (.goto (-21), 3) := by decide +kernel
theorem d_Copy_copyFrom_42 : decode prog_4_method_9_code 42 = .ok (.iload_n 2, 1) := by decide +kernel
theorem d_Copy_copyFrom_43 : decode prog_4_method_9_code 43 = .ok (.ifCond .eq 41, 3) := by decide +kernel
theorem d_Copy_copyFrom_46 : decode prog_4_method_9_code 46 = .ok (.aload_n 0, 1) := by decide +kernel
theorem d_Copy_copyFrom_47 : decode prog_4_method_9_code 47 = .ok (.aload_n 1, 1) := by decide +kernel
theorem d_Copy_copyFrom_48 : decode prog_4_method_9_code 48 = .ok (.getfield 24, 3) := by decide +kernel
theorem d_Copy_copyFrom_51 : decode prog_4_method_9_code 51 = .ok (.putfield 24, 3) := by decide +kernel
theorem d_Copy_copyFrom_54 : decode prog_4_method_9_code 54 = .ok (.aload_n 1, 1) := by decide +kernel
theorem d_Copy_copyFrom_55 : decode prog_4_method_9_code 55 = .ok (.getfield 9, 3) := by decide +kernel
theorem d_Copy_copyFrom_58 : decode prog_4_method_9_code 58 = .ok (.iconst 0, 1) := by decide +kernel
theorem d_Copy_copyFrom_59 : decode prog_4_method_9_code 59 = .ok (.aload_n 0, 1) := by decide +kernel
theorem d_Copy_copyFrom_60 : decode prog_4_method_9_code 60 = .ok (.getfield 9, 3) := by decide +kernel
theorem d_Copy_copyFrom_63 : decode prog_4_method_9_code 63 = .ok (.iconst 0, 1) := by decide +kernel
theorem d_Copy_copyFrom_64 : decode prog_4_method_9_code 64 = .ok (.bipush 40, 2) := by decide +kernel
theorem d_Copy_copyFrom_66 : decode prog_4_method_9_code 66 = .ok (.invokestatic 74, 3) := by decide +kernel
theorem d_Copy_copyFrom_69 : decode prog_4_method_9_code 69 = .ok (.aload_n 1, 1) := by decide +kernel
theorem d_Copy_copyFrom_70 : decode prog_4_method_9_code 70 = .ok (.getfield 15, 3) := by decide +kernel
theorem d_Copy_copyFrom_73 : decode prog_4_method_9_code 73 = .ok (.iconst 0, 1) := by decide +kernel
theorem d_Copy_copyFrom_74 : decode prog_4_method_9_code 74 = .ok (.aload_n 0, 1) := by decide +kernel
theorem d_Copy_copyFrom_75 : decode prog_4_method_9_code 75 = .ok (.getfield 15, 3) := by decide +kernel
theorem d_Copy_copyFrom_78 : decode prog_4_method_9_code 78 = .ok (.iconst 0, 1) := by decide +kernel
theorem d_Copy_copyFrom_79 : decode prog_4_method_9_code 79 = .ok (.bipush 8, 2) := by decide +kernel
theorem d_Copy_copyFrom_81 : decode prog_4_method_9_code 81 = .ok (.invokestatic 74, 3) := by decide +kernel
theorem d_Copy_copyFrom_84 : decode prog_4_method_9_code 84 = .ok (.return_, 1) := by decide +kernel
theorem d_VG_give_0 : decode prog_1_method_2_code 0 = .ok (.iload_n 1, 1) := by decide +kernel
theorem d_VG_give_1 : decode prog_1_method_2_code 1 = .ok (.ifCond .lt 27, 3) := by decide +kernel
theorem d_VG_give_4 : decode prog_1_method_2_code 4 = .ok (.iload_n 1, 1) := by decide +kernel
theorem d_VG_give_5 : decode prog_1_method_2_code 5 = .ok (.iconst 4, 1) := by decide +kernel
theorem d_VG_give_6 : decode prog_1_method_2_code 6 = .ok (.if_icmp .gt 22, 3) := by decide +kernel
theorem d_VG_give_9 : decode prog_1_method_2_code 9 = .ok (.iload_n 2, 1) := by decide +kernel
theorem d_VG_give_10 : decode prog_1_method_2_code 10 = .ok (.invokestatic 60, 3) := by decide +kernel
theorem d_VG_give_13 : decode prog_1_method_2_code 13 = .ok (.ifCond .eq 15, 3) := by decide +kernel
theorem d_VG_give_16 : decode prog_1_method_2_code 16 = .ok (.iload_n 1, 1) := by decide +kernel
theorem d_VG_give_17 : decode prog_1_method_2_code 17 = .ok (.iconst 4, 1) := by decide +kernel
theorem d_VG_give_18 : decode prog_1_method_2_code 18 = .ok (.if_icmp .ne 12, 3) := by decide +kernel
theorem d_VG_give_21 : decode prog_1_method_2_code 21 = .ok (.iload_n 3, 1) := by decide +kernel
theorem d_VG_give_22 : decode prog_1_method_2_code 22 = .ok (.invokestatic 60, 3) := by decide +kernel
theorem d_VG_give_25 : decode prog_1_method_2_code 25 = .ok (.ifCond .ne 5, 3) := by decide +kernel
theorem d_VG_give_28 : decode prog_1_method_2_code 28 = .ok (.iconst (-1), 1) := by decide +kernel
theorem d_VG_give_29 : decode prog_1_method_2_code 29 = .ok (.ireturn, 1) := by decide +kernel
theorem d_VG_give_30 : decode prog_1_method_2_code 30 = .ok (.aload_n 0, 1) := by decide +kernel
theorem d_VG_give_31 : decode prog_1_method_2_code 31 = .ok (.getfield 44, 3) := by decide +kernel
theorem d_VG_give_34 : decode prog_1_method_2_code 34 = .ok (.invokevirtual 64, 3) := by decide +kernel
theorem d_VG_give_37 : decode prog_1_method_2_code 37 = .ok (.ifCond .eq 6, 3) := by decide +kernel
theorem d_VG_give_40 : decode prog_1_method_2_code 40 = .ok (.bipush (-2), 2) := by decide +kernel
theorem d_VG_give_42 : decode prog_1_method_2_code 42 = .ok (.ireturn, 1) := by decide +kernel
theorem d_VG_give_43 : decode prog_1_method_2_code 43 = .ok (.aload_n 0, 1) := by decide +kernel
theorem d_VG_give_44 : decode prog_1_method_2_code 44 = .ok (.iconst 0, 1) := by decide +kernel
theorem d_VG_give_45 : decode prog_1_method_2_code 45 = .ok (.putfield 68, 3) := by decide +kernel
theorem d_VG_give_48 : decode prog_1_method_2_code 48 = .ok (.aload_n 0, 1) := by decide +kernel
theorem d_VG_give_49 : decode prog_1_method_2_code 49 = .ok (.getfield 44, 3) := by decide +kernel
theorem d_VG_give_52 : decode prog_1_method_2_code 52 = .ok (.iload_n 1, 1) := by decide +kernel
theorem d_VG_give_53 : decode prog_1_method_2_code 53 = .ok (.iload_n 2, 1) := by decide +kernel
theorem d_VG_give_54 : decode prog_1_method_2_code 54 = .ok (.iload_n 3, 1) := by decide +kernel
theorem d_VG_give_55 : decode prog_1_method_2_code 55 = .ok (.invokevirtual 72, 3) := by decide +kernel
theorem d_VG_give_58 : decode prog_1_method_2_code 58 = .ok (.astore 4, 2) := by decide +kernel
theorem d_VG_give_60 : decode prog_1_method_2_code 60 = .ok (.aload_n 0, 1) := by decide +kernel
theorem d_VG_give_61 : decode prog_1_method_2_code 61 = .ok (.getfield 44, 3) := by decide +kernel
theorem d_VG_give_64 : decode prog_1_method_2_code 64 = .ok (.aload 4, 2) := by decide +kernel
theorem d_VG_give_66 : decode prog_1_method_2_code 66 = .ok (.aload_n 0, 1) := by decide +kernel
theorem d_VG_give_67 : decode prog_1_method_2_code 67 = .ok (.getfield 35, 3) := by decide +kernel
theorem d_VG_give_70 : decode prog_1_method_2_code 70 = .ok (.getfield 76, 3) := by decide +kernel
theorem d_VG_give_73 : decode prog_1_method_2_code 73 = .ok (.aload_n 0, 1) := by decide +kernel
theorem d_VG_give_74 : decode prog_1_method_2_code 74 = .ok (.getfield 35, 3) := by decide +kernel
theorem d_VG_give_77 : decode prog_1_method_2_code 77 = .ok (.getfield 79, 3) := by decide +kernel
theorem d_VG_give_80 : decode prog_1_method_2_code 80 = .ok (.invokevirtual 82, 3) := by decide +kernel
theorem d_VG_give_83 : decode prog_1_method_2_code 83 = .ok (.aload 4, 2) := by decide +kernel
theorem d_VG_give_85 : decode prog_1_method_2_code 85 = .ok (.getfield 86, 3) := by decide +kernel
theorem d_VG_give_88 : decode prog_1_method_2_code 88 = .ok (.ireturn, 1) := by decide +kernel
theorem d_VG_isKey_0 : decode prog_1_method_15_code 0 = .ok (.iload_n 0, 1) := by decide +kernel
theorem d_VG_isKey_1 : decode prog_1_method_15_code 1 = .ok (.ifCond .lt 13, 3) := by decide +kernel
theorem d_VG_isKey_4 : decode prog_1_method_15_code 4 = .ok (.iload_n 0, 1) := by decide +kernel
theorem d_VG_isKey_5 : decode prog_1_method_15_code 5 = .ok (.bipush 40, 2) := by decide +kernel
theorem d_VG_isKey_7 : decode prog_1_method_15_code 7 = .ok (.if_icmp .ge 7, 3) := by decide +kernel
theorem d_VG_isKey_10 : decode prog_1_method_15_code 10 = .ok (.iconst 1, 1) := by decide +kernel
theorem d_VG_isKey_11 : decode prog_1_method_15_code 11 = .ok (.goto 4, 3) := by decide +kernel
theorem d_VG_isKey_14 : decode prog_1_method_15_code 14 = .ok (.iconst 0, 1) := by decide +kernel
theorem d_VG_isKey_15 : decode prog_1_method_15_code 15 = .ok (.ireturn, 1) := by decide +kernel
theorem d_Desk_isFull_0 : decode prog_5_method_3_code 0 = .ok (.aload_n 0, 1) := by decide +kernel
theorem d_Desk_isFull_1 : decode prog_5_method_3_code 1 = .ok (.invokevirtual 36, 3) := by decide +kernel
theorem d_Desk_isFull_4 : decode prog_5_method_3_code 4 = .ok (.bipush 8, 2) := by decide +kernel
theorem d_Desk_isFull_6 : decode prog_5_method_3_code 6 = .ok (.if_icmp .ge 13, 3) := by decide +kernel
theorem d_Desk_isFull_9 : decode prog_5_method_3_code 9 = .ok (.aload_n 0, 1) := by decide +kernel
theorem d_Desk_isFull_10 : decode prog_5_method_3_code 10 = .ok (.getfield 29, 3) := by decide +kernel
theorem d_Desk_isFull_13 : decode prog_5_method_3_code 13 = .ok (.sipush 512, 3) := by decide +kernel
theorem d_Desk_isFull_16 : decode prog_5_method_3_code 16 = .ok (.if_icmp .lt 7, 3) := by decide +kernel
theorem d_Desk_isFull_19 : decode prog_5_method_3_code 19 = .ok (.iconst 1, 1) := by decide +kernel
theorem d_Desk_isFull_20 : decode prog_5_method_3_code 20 = .ok (.goto 4, 3) := by decide +kernel
theorem d_Desk_isFull_23 : decode prog_5_method_3_code 23 = .ok (.iconst 0, 1) := by decide +kernel
theorem d_Desk_isFull_24 : decode prog_5_method_3_code 24 = .ok (.ireturn, 1) := by decide +kernel
theorem d_Desk_open_0 : decode prog_5_method_2_code 0 = .ok (.aload_n 0, 1) := by decide +kernel
theorem d_Desk_open_1 : decode prog_5_method_2_code 1 = .ok (.getfield 29, 3) := by decide +kernel
theorem d_Desk_open_4 : decode prog_5_method_2_code 4 = .ok (.aload_n 0, 1) := by decide +kernel
theorem d_Desk_open_5 : decode prog_5_method_2_code 5 = .ok (.getfield 33, 3) := by decide +kernel
theorem d_Desk_open_8 : decode prog_5_method_2_code 8 = .ok (.isub, 1) := by decide +kernel
theorem d_Desk_open_9 : decode prog_5_method_2_code 9 = .ok (.ireturn, 1) := by decide +kernel
theorem d_Desk_accept_0 : decode prog_5_method_4_code 0 = .ok (.new 9, 3) := by decide +kernel
theorem d_Desk_accept_3 : decode prog_5_method_4_code 3 = .ok (.dup, 1) := by decide +kernel
theorem d_Desk_accept_4 : decode prog_5_method_4_code 4 = .ok (.aload_n 0, 1) := by decide +kernel
theorem d_Desk_accept_5 : decode prog_5_method_4_code 5 = .ok (.getfield 29, 3) := by decide +kernel
theorem d_Desk_accept_8 : decode prog_5_method_4_code 8 = .ok (.iload_n 1, 1) := by decide +kernel
theorem d_Desk_accept_9 : decode prog_5_method_4_code 9 = .ok (.iload_n 2, 1) := by decide +kernel
theorem d_Desk_accept_10 : decode prog_5_method_4_code 10 = .ok (.iload_n 3, 1) := by decide +kernel
theorem d_Desk_accept_11 : decode prog_5_method_4_code 11 = .ok (.invokespecial 40, 3) := by decide +kernel
theorem d_Desk_accept_14 : decode prog_5_method_4_code 14 = .ok (.astore 4, 2) := by decide +kernel
theorem d_Desk_accept_16 : decode prog_5_method_4_code 16 = .ok (.aload_n 0, 1) := by decide +kernel
theorem d_Desk_accept_17 : decode prog_5_method_4_code 17 = .ok (.getfield 11, 3) := by decide +kernel
theorem d_Desk_accept_20 : decode prog_5_method_4_code 20 = .ok (.aload_n 0, 1) := by decide +kernel
theorem d_Desk_accept_21 : decode prog_5_method_4_code 21 = .ok (.getfield 29, 3) := by decide +kernel
theorem d_Desk_accept_24 : decode prog_5_method_4_code 24 = .ok (.bipush 8, 2) := by decide +kernel
theorem d_Desk_accept_26 : decode prog_5_method_4_code 26 = .ok (.irem, 1) := by decide +kernel
theorem d_Desk_accept_27 : decode prog_5_method_4_code 27 = .ok (.aload 4, 2) := by decide +kernel
theorem d_Desk_accept_29 : decode prog_5_method_4_code 29 = .ok (.aastore, 1) := by decide +kernel
theorem d_Desk_accept_30 : decode prog_5_method_4_code 30 = .ok (.aload_n 0, 1) := by decide +kernel
theorem d_Desk_accept_31 : decode prog_5_method_4_code 31 = .ok (.getfield 17, 3) := by decide +kernel
theorem d_Desk_accept_34 : decode prog_5_method_4_code 34 = .ok (.aload_n 0, 1) := by decide +kernel
theorem d_Desk_accept_35 : decode prog_5_method_4_code 35 = .ok (.getfield 29, 3) := by decide +kernel
theorem d_Desk_accept_38 : decode prog_5_method_4_code 38 = .ok (.bipush 8, 2) := by decide +kernel
theorem d_Desk_accept_40 : decode prog_5_method_4_code 40 = .ok (.irem, 1) := by decide +kernel
theorem d_Desk_accept_41 : decode prog_5_method_4_code 41 = .ok (.iconst 0, 1) := by decide +kernel
theorem d_Desk_accept_42 : decode prog_5_method_4_code 42 = .ok (.bastore, 1) := by decide +kernel
theorem d_Desk_accept_43 : decode prog_5_method_4_code 43 = .ok (.aload_n 0, 1) := by decide +kernel
theorem d_Desk_accept_44 : decode prog_5_method_4_code 44 = .ok (.dup, 1) := by decide +kernel
theorem d_Desk_accept_45 : decode prog_5_method_4_code 45 = .ok (.getfield 29, 3) := by decide +kernel
theorem d_Desk_accept_48 : decode prog_5_method_4_code 48 = .ok (.iconst 1, 1) := by decide +kernel
theorem d_Desk_accept_49 : decode prog_5_method_4_code 49 = .ok (.iadd, 1) := by decide +kernel
theorem d_Desk_accept_50 : decode prog_5_method_4_code 50 = .ok (.putfield 29, 3) := by decide +kernel
theorem d_Desk_accept_53 : decode prog_5_method_4_code 53 = .ok (.aload 4, 2) := by decide +kernel
theorem d_Desk_accept_55 : decode prog_5_method_4_code 55 = .ok (.areturn, 1) := by decide +kernel
theorem d_Command_init_0 : decode prog_3_method_1_code 0 = .ok (.aload_n 0, 1) := by decide +kernel
theorem d_Command_init_1 : decode prog_3_method_1_code 1 = .ok (.invokespecial 1, 3) := by decide +kernel
theorem d_Command_init_4 : decode prog_3_method_1_code 4 = .ok (.aload_n 0, 1) := by decide +kernel
theorem d_Command_init_5 : decode prog_3_method_1_code 5 = .ok (.iload_n 1, 1) := by decide +kernel
theorem d_Command_init_6 : decode prog_3_method_1_code 6 = .ok (.putfield 7, 3) := by decide +kernel
theorem d_Command_init_9 : decode prog_3_method_1_code 9 = .ok (.aload_n 0, 1) := by decide +kernel
theorem d_Command_init_10 : decode prog_3_method_1_code 10 = .ok (.iload_n 2, 1) := by decide +kernel
theorem d_Command_init_11 : decode prog_3_method_1_code 11 = .ok (.putfield 13, 3) := by decide +kernel
theorem d_Command_init_14 : decode prog_3_method_1_code 14 = .ok (.aload_n 0, 1) := by decide +kernel
theorem d_Command_init_15 : decode prog_3_method_1_code 15 = .ok (.iload_n 3, 1) := by decide +kernel
theorem d_Command_init_16 : decode prog_3_method_1_code 16 = .ok (.putfield 16, 3) := by decide +kernel
theorem d_Command_init_19 : decode prog_3_method_1_code 19 = .ok (.aload_n 0, 1) := by decide +kernel
theorem d_Command_init_20 : decode prog_3_method_1_code 20 = .ok (.iload 4, 2) := by decide +kernel
theorem d_Command_init_22 : decode prog_3_method_1_code 22 = .ok (.putfield 19, 3) := by decide +kernel
theorem d_Command_init_25 : decode prog_3_method_1_code 25 = .ok (.return_, 1) := by decide +kernel
theorem d_Desk_request_0 : decode prog_5_method_5_code 0 = .ok (.iload_n 2, 1) := by decide +kernel
theorem d_Desk_request_1 : decode prog_5_method_5_code 1 = .ok (.iconst (-1), 1) := by decide +kernel
theorem d_Desk_request_2 : decode prog_5_method_5_code 2 = .ok (.if_icmp .eq 20, 3) := by decide +kernel
theorem d_Desk_request_5 : decode prog_5_method_5_code 5 = .ok (.aload_n 0, 1) := by decide +kernel
theorem d_Desk_request_6 : decode prog_5_method_5_code 6 = .ok (.getfield 25, 3) := by decide +kernel
theorem d_Desk_request_9 : decode prog_5_method_5_code 9 = .ok (.getstatic 43, 3) := by decide +kernel
theorem d_Desk_request_12 : decode prog_5_method_5_code 12 = .ok (.iconst (-1), 1) := by decide +kernel
theorem d_Desk_request_13 : decode prog_5_method_5_code 13 = .ok (.iload_n 2, 1) := by decide +kernel
theorem d_Desk_request_14 : decode prog_5_method_5_code 14 = .ok (.iload_n 3, 1) := by decide +kernel
theorem d_Desk_request_15 : decode prog_5_method_5_code 15 = .ok (.invokevirtual 49, 3) := by decide +kernel
theorem d_Desk_request_18 : decode prog_5_method_5_code 18 = .ok (.aload_n 1, 1) := by decide +kernel
theorem d_Desk_request_19 : decode prog_5_method_5_code 19 = .ok (.putfield 55, 3) := by decide +kernel
theorem d_Desk_request_22 : decode prog_5_method_5_code 22 = .ok (.return_, 1) := by decide +kernel
theorem d_Post_send_0 : decode prog_12_method_2_code 0 = .ok (.aload_n 0, 1) := by decide +kernel
theorem d_Post_send_1 : decode prog_12_method_2_code 1 = .ok (.getfield 11, 3) := by decide +kernel
theorem d_Post_send_4 : decode prog_12_method_2_code 4 = .ok (.bipush 64, 2) := by decide +kernel
theorem d_Post_send_6 : decode prog_12_method_2_code 6 = .ok (.aaload, 1) := by decide +kernel
theorem d_Post_send_7 : decode prog_12_method_2_code 7 = .ok (.astore 5, 2) := by decide +kernel
theorem d_Post_send_9 : decode prog_12_method_2_code 9 = .ok (.aload_n 0, 1) := by decide +kernel
theorem d_Post_send_10 : decode prog_12_method_2_code 10 = .ok (.getfield 22, 3) := by decide +kernel
theorem d_Post_send_13 : decode prog_12_method_2_code 13 = .ok (.bipush 64, 2) := by decide +kernel
theorem d_Post_send_15 : decode prog_12_method_2_code 15 = .ok (.if_icmp .ge 29, 3) := by decide +kernel
theorem d_Post_send_18 : decode prog_12_method_2_code 18 = .ok (.aload_n 0, 1) := by decide +kernel
theorem d_Post_send_19 : decode prog_12_method_2_code 19 = .ok (.getfield 11, 3) := by decide +kernel
theorem d_Post_send_22 : decode prog_12_method_2_code 22 = .ok (.aload_n 0, 1) := by decide +kernel
theorem d_Post_send_23 : decode prog_12_method_2_code 23 = .ok (.getfield 17, 3) := by decide +kernel
theorem d_Post_send_26 : decode prog_12_method_2_code 26 = .ok (.aload_n 0, 1) := by decide +kernel
theorem d_Post_send_27 : decode prog_12_method_2_code 27 = .ok (.getfield 22, 3) := by decide +kernel
theorem d_Post_send_30 : decode prog_12_method_2_code 30 = .ok (.iaload, 1) := by decide +kernel
theorem d_Post_send_31 : decode prog_12_method_2_code 31 = .ok (.aaload, 1) := by decide +kernel
theorem d_Post_send_32 : decode prog_12_method_2_code 32 = .ok (.astore 5, 2) := by decide +kernel
theorem d_Post_send_34 : decode prog_12_method_2_code 34 = .ok (.aload_n 0, 1) := by decide +kernel
theorem d_Post_send_35 : decode prog_12_method_2_code 35 = .ok (.dup, 1) := by decide +kernel
theorem d_Post_send_36 : decode prog_12_method_2_code 36 = .ok (.getfield 22, 3) := by decide +kernel
theorem d_Post_send_39 : decode prog_12_method_2_code 39 = .ok (.iconst 1, 1) := by decide +kernel
theorem d_Post_send_40 : decode prog_12_method_2_code 40 = .ok (.iadd, 1) := by decide +kernel
theorem d_Post_send_41 : decode prog_12_method_2_code 41 = .ok (.putfield 22, 3) := by decide +kernel
theorem d_Post_send_44 : decode prog_12_method_2_code 44 = .ok (.aload 5, 2) := by decide +kernel
theorem d_Post_send_46 : decode prog_12_method_2_code 46 = .ok (.aload_n 1, 1) := by decide +kernel
theorem d_Post_send_47 : decode prog_12_method_2_code 47 = .ok (.putfield 26, 3) := by decide +kernel
theorem d_Post_send_50 : decode prog_12_method_2_code 50 = .ok (.aload 5, 2) := by decide +kernel
theorem d_Post_send_52 : decode prog_12_method_2_code 52 = .ok (.iload_n 2, 1) := by decide +kernel
theorem d_Post_send_53 : decode prog_12_method_2_code 53 = .ok (.putfield 30, 3) := by decide +kernel
theorem d_Post_send_56 : decode prog_12_method_2_code 56 = .ok (.aload 5, 2) := by decide +kernel
theorem d_Post_send_58 : decode prog_12_method_2_code 58 = .ok (.iload_n 3, 1) := by decide +kernel
theorem d_Post_send_59 : decode prog_12_method_2_code 59 = .ok (.putfield 33, 3) := by decide +kernel
theorem d_Post_send_62 : decode prog_12_method_2_code 62 = .ok (.aload 5, 2) := by decide +kernel
theorem d_Post_send_64 : decode prog_12_method_2_code 64 = .ok (.iload 4, 2) := by decide +kernel
theorem d_Post_send_66 : decode prog_12_method_2_code 66 = .ok (.putfield 36, 3) := by decide +kernel
theorem d_Post_send_69 : decode prog_12_method_2_code 69 = .ok (.aload 5, 2) := by decide +kernel
theorem d_Post_send_71 : decode prog_12_method_2_code 71 = .ok (.areturn, 1) := by decide +kernel
theorem d_VG_deliver_0 : decode prog_1_method_3_code 0 = .ok (.aload_n 0, 1) := by decide +kernel
theorem d_VG_deliver_1 : decode prog_1_method_3_code 1 = .ok (.iconst 0, 1) := by decide +kernel
theorem d_VG_deliver_2 : decode prog_1_method_3_code 2 = .ok (.putfield 68, 3) := by decide +kernel
theorem d_VG_deliver_5 : decode prog_1_method_3_code 5 = .ok (.aload_n 0, 1) := by decide +kernel
theorem d_VG_deliver_6 : decode prog_1_method_3_code 6 = .ok (.iload_n 1, 1) := by decide +kernel
theorem d_VG_deliver_7 : decode prog_1_method_3_code 7 = .ok (.iconst 1, 1) := by decide +kernel
theorem d_VG_deliver_8 : decode prog_1_method_3_code 8 = .ok (.invokevirtual 91, 3) := by decide +kernel
theorem d_VG_deliver_11 : decode prog_1_method_3_code 11 = .ok (.return_, 1) := by decide +kernel
theorem d_VG_bring_0 : decode prog_1_method_19_code 0 = .ok (.aload_n 0, 1) := by decide +kernel
theorem d_VG_bring_1 : decode prog_1_method_19_code 1 = .ok (.getfield 24, 3) := by decide +kernel
theorem d_VG_bring_4 : decode prog_1_method_19_code 4 = .ok (.getfield 125, 3) := by decide +kernel
theorem d_VG_bring_7 : decode prog_1_method_19_code 7 = .ok (.ifCond .ne 4, 3) := by decide +kernel
theorem d_VG_bring_10 : decode prog_1_method_19_code 10 = .ok (.return_, 1) := by decide +kernel
theorem d_VG_bring_11 : decode prog_1_method_19_code 11 = .ok (.iload_n 1, 1) := by decide +kernel
theorem d_VG_bring_12 : decode prog_1_method_19_code 12 = .ok (.aload_n 0, 1) := by decide +kernel
theorem d_VG_bring_13 : decode prog_1_method_19_code 13 = .ok (.getfield 24, 3) := by decide +kernel
theorem d_VG_bring_16 : decode prog_1_method_19_code 16 = .ok (.getfield 125, 3) := by decide +kernel
theorem d_VG_bring_19 : decode prog_1_method_19_code 19 = .ok (.invokestatic 180, 3) := by decide +kernel
theorem d_VG_bring_22 : decode prog_1_method_19_code 22 = .ok (.istore_n 3, 1) := by decide +kernel
theorem d_VG_bring_23 : decode prog_1_method_19_code 23 = .ok (.iconst 0, 1) := by decide +kernel
theorem d_VG_bring_24 : decode prog_1_method_19_code 24 = .ok (.istore 4, 2) := by decide +kernel
theorem d_VG_bring_26 : decode prog_1_method_19_code 26 = .ok (.iload 4, 2) := by decide +kernel
theorem d_VG_bring_28 : decode prog_1_method_19_code 28 = .ok (.iload_n 2, 1) := by decide +kernel
theorem d_VG_bring_29 : decode prog_1_method_19_code 29 = .ok (.if_icmp .ge 21, 3) := by decide +kernel
theorem d_VG_bring_32 : decode prog_1_method_19_code 32 = .ok (.aload_n 0, 1) := by decide +kernel
theorem d_VG_bring_33 : decode prog_1_method_19_code 33 = .ok (.aload_n 0, 1) := by decide +kernel
theorem d_VG_bring_34 : decode prog_1_method_19_code 34 = .ok (.getfield 24, 3) := by decide +kernel
theorem d_VG_bring_37 : decode prog_1_method_19_code 37 = .ok (.iload_n 3, 1) := by decide +kernel
theorem d_VG_bring_38 : decode prog_1_method_19_code 38 = .ok (.invokevirtual 183, 3) := by decide +kernel
theorem d_VG_bring_41 : decode prog_1_method_19_code 41 = .ok (.invokevirtual 187, 3) := by decide +kernel
theorem d_VG_bring_44 : decode prog_1_method_19_code 44 = .ok (.iinc 4 1, 3) := by decide +kernel
theorem d_VG_bring_47 : decode prog_1_method_19_code 47 = .ok (.goto (-21), 3) := by decide +kernel
theorem d_VG_bring_50 : decode prog_1_method_19_code 50 = .ok (.aload_n 0, 1) := by decide +kernel
theorem d_VG_bring_51 : decode prog_1_method_19_code 51 = .ok (.getfield 24, 3) := by decide +kernel
theorem d_VG_bring_54 : decode prog_1_method_19_code 54 = .ok (.iload_n 3, 1) := by decide +kernel
theorem d_VG_bring_55 : decode prog_1_method_19_code 55 = .ok (.invokevirtual 191, 3) := by decide +kernel
theorem d_VG_bring_58 : decode prog_1_method_19_code 58 = .ok (.return_, 1) := by decide +kernel
theorem d_Math_floorMod_0 : decode prog_18_method_50_code 0 = .ok (.iload_n 0, 1) := by decide +kernel
theorem d_Math_floorMod_1 : decode prog_18_method_50_code 1 = .ok (.iload_n 1, 1) := by decide +kernel
theorem d_Math_floorMod_2 : decode prog_18_method_50_code 2 = .ok (.irem, 1) := by decide +kernel
theorem d_Math_floorMod_3 : decode prog_18_method_50_code 3 = .ok (.istore_n 2, 1) := by decide +kernel
theorem d_Math_floorMod_4 : decode prog_18_method_50_code 4 = .ok (.iload_n 0, 1) := by decide +kernel
theorem d_Math_floorMod_5 : decode prog_18_method_50_code 5 = .ok (.iload_n 1, 1) := by decide +kernel
theorem d_Math_floorMod_6 : decode prog_18_method_50_code 6 = .ok (.ixor, 1) := by decide +kernel
theorem d_Math_floorMod_7 : decode prog_18_method_50_code 7 = .ok (.ifCond .ge 11, 3) := by decide +kernel
theorem d_Math_floorMod_10 : decode prog_18_method_50_code 10 = .ok (.iload_n 2, 1) := by decide +kernel
theorem d_Math_floorMod_11 : decode prog_18_method_50_code 11 = .ok (.ifCond .eq 7, 3) := by decide +kernel
theorem d_Math_floorMod_14 : decode prog_18_method_50_code 14 = .ok (.iload_n 2, 1) := by decide +kernel
theorem d_Math_floorMod_15 : decode prog_18_method_50_code 15 = .ok (.iload_n 1, 1) := by decide +kernel
theorem d_Math_floorMod_16 : decode prog_18_method_50_code 16 = .ok (.iadd, 1) := by decide +kernel
theorem d_Math_floorMod_17 : decode prog_18_method_50_code 17 = .ok (.ireturn, 1) := by decide +kernel
theorem d_Math_floorMod_18 : decode prog_18_method_50_code 18 = .ok (.iload_n 2, 1) := by decide +kernel
theorem d_Math_floorMod_19 : decode prog_18_method_50_code 19 = .ok (.ireturn, 1) := by decide +kernel
theorem d_Post_look_0 : decode prog_12_method_3_code 0 = .ok (.iload_n 1, 1) := by decide +kernel
theorem d_Post_look_1 : decode prog_12_method_3_code 1 = .ok (.ifCond .lt 25, 3) := by decide +kernel
theorem d_Post_look_4 : decode prog_12_method_3_code 4 = .ok (.iload_n 1, 1) := by decide +kernel
theorem d_Post_look_5 : decode prog_12_method_3_code 5 = .ok (.aload_n 0, 1) := by decide +kernel
theorem d_Post_look_6 : decode prog_12_method_3_code 6 = .ok (.getfield 22, 3) := by decide +kernel
theorem d_Post_look_9 : decode prog_12_method_3_code 9 = .ok (.if_icmp .ge 17, 3) := by decide +kernel
theorem d_Post_look_12 : decode prog_12_method_3_code 12 = .ok (.aload_n 0, 1) := by decide +kernel
theorem d_Post_look_13 : decode prog_12_method_3_code 13 = .ok (.getfield 11, 3) := by decide +kernel
theorem d_Post_look_16 : decode prog_12_method_3_code 16 = .ok (.aload_n 0, 1) := by decide +kernel
theorem d_Post_look_17 : decode prog_12_method_3_code 17 = .ok (.getfield 17, 3) := by decide +kernel
theorem d_Post_look_20 : decode prog_12_method_3_code 20 = .ok (.iload_n 1, 1) := by decide +kernel
theorem d_Post_look_21 : decode prog_12_method_3_code 21 = .ok (.iaload, 1) := by decide +kernel
theorem d_Post_look_22 : decode prog_12_method_3_code 22 = .ok (.aaload, 1) := by decide +kernel
theorem d_Post_look_23 : decode prog_12_method_3_code 23 = .ok (.goto 10, 3) := by decide +kernel
theorem d_Post_look_26 : decode prog_12_method_3_code 26 = .ok (.aload_n 0, 1) := by decide +kernel
theorem d_Post_look_27 : decode prog_12_method_3_code 27 = .ok (.getfield 11, 3) := by decide +kernel
theorem d_Post_look_30 : decode prog_12_method_3_code 30 = .ok (.bipush 64, 2) := by decide +kernel
theorem d_Post_look_32 : decode prog_12_method_3_code 32 = .ok (.aaload, 1) := by decide +kernel
theorem d_Post_look_33 : decode prog_12_method_3_code 33 = .ok (.areturn, 1) := by decide +kernel
theorem d_VG_arrive_0 : decode prog_1_method_22_code 0 = .ok (.aload_n 1, 1) := by decide +kernel
theorem d_VG_arrive_1 : decode prog_1_method_22_code 1 = .ok (.getfield 195, 3) := by decide +kernel
theorem d_VG_arrive_4 : decode prog_1_method_22_code 4 = .ok (.getstatic 201, 3) := by decide +kernel
theorem d_VG_arrive_7 : decode prog_1_method_22_code 7 = .ok (.if_acmp .ne 14, 3) := by decide +kernel
theorem d_VG_arrive_10 : decode prog_1_method_22_code 10 = .ok (.aload_n 0, 1) := by decide +kernel
theorem d_VG_arrive_11 : decode prog_1_method_22_code 11 = .ok (.getfield 35, 3) := by decide +kernel
theorem d_VG_arrive_14 : decode prog_1_method_22_code 14 = .ok (.aload_n 1, 1) := by decide +kernel
theorem d_VG_arrive_15 : decode prog_1_method_22_code 15 = .ok (.invokevirtual 206, 3) := by decide +kernel
theorem d_VG_arrive_18 : decode prog_1_method_22_code 18 = .ok (.goto 63, 3) := by decide +kernel
theorem d_VG_arrive_21 : decode prog_1_method_22_code 21 = .ok (.aload_n 1, 1) := by decide +kernel
theorem d_VG_arrive_22 : decode prog_1_method_22_code 22 = .ok (.getfield 195, 3) := by decide +kernel
theorem d_VG_arrive_25 : decode prog_1_method_22_code 25 = .ok (.getstatic 209, 3) := by decide +kernel
theorem d_VG_arrive_28 : decode prog_1_method_22_code 28 = .ok (.if_acmp .ne 14, 3) := by decide +kernel
theorem d_VG_arrive_31 : decode prog_1_method_22_code 31 = .ok (.aload_n 0, 1) := by decide +kernel
theorem d_VG_arrive_32 : decode prog_1_method_22_code 32 = .ok (.getfield 44, 3) := by decide +kernel
theorem d_VG_arrive_35 : decode prog_1_method_22_code 35 = .ok (.aload_n 1, 1) := by decide +kernel
theorem d_VG_arrive_36 : decode prog_1_method_22_code 36 = .ok (.invokevirtual 212, 3) := by decide +kernel
theorem d_VG_arrive_39 : decode prog_1_method_22_code 39 = .ok (.goto 42, 3) := by decide +kernel
theorem d_VG_arrive_42 : decode prog_1_method_22_code 42 = .ok (.aload_n 0, 1) := by decide +kernel
theorem d_VG_arrive_43 : decode prog_1_method_22_code 43 = .ok (.aload_n 1, 1) := by decide +kernel
theorem d_VG_arrive_44 : decode prog_1_method_22_code 44 = .ok (.getfield 213, 3) := by decide +kernel
theorem d_VG_arrive_47 : decode prog_1_method_22_code 47 = .ok (.invokevirtual 102, 3) := by decide +kernel
theorem d_VG_arrive_50 : decode prog_1_method_22_code 50 = .ok (.ifCond .eq 31, 3) := by decide +kernel
theorem d_VG_arrive_53 : decode prog_1_method_22_code 53 = .ok (.aload_n 0, 1) := by decide +kernel
theorem d_VG_arrive_54 : decode prog_1_method_22_code 54 = .ok (.getfield 54, 3) := by decide +kernel
theorem d_VG_arrive_57 : decode prog_1_method_22_code 57 = .ok (.aload_n 1, 1) := by decide +kernel
theorem d_VG_arrive_58 : decode prog_1_method_22_code 58 = .ok (.getfield 213, 3) := by decide +kernel
theorem d_VG_arrive_61 : decode prog_1_method_22_code 61 = .ok (.aaload, 1) := by decide +kernel
theorem d_VG_arrive_62 : decode prog_1_method_22_code 62 = .ok (.getfield 105, 3) := by decide +kernel
theorem d_VG_arrive_65 : decode prog_1_method_22_code 65 = .ok (.ifCond .eq 16, 3) := by decide +kernel
theorem d_VG_arrive_68 : decode prog_1_method_22_code 68 = .ok (.aload_n 0, 1) := by decide +kernel
theorem d_VG_arrive_69 : decode prog_1_method_22_code 69 = .ok (.getfield 54, 3) := by decide +kernel
theorem d_VG_arrive_72 : decode prog_1_method_22_code 72 = .ok (.aload_n 1, 1) := by decide +kernel
theorem d_VG_arrive_73 : decode prog_1_method_22_code 73 = .ok (.getfield 213, 3) := by decide +kernel
theorem d_VG_arrive_76 : decode prog_1_method_22_code 76 = .ok (.aaload, 1) := by decide +kernel
theorem d_VG_arrive_77 : decode prog_1_method_22_code 77 = .ok (.aload_n 1, 1) := by decide +kernel
theorem d_VG_arrive_78 : decode prog_1_method_22_code 78 = .ok (.invokevirtual 216, 3) := by decide +kernel
theorem d_VG_arrive_81 : decode prog_1_method_22_code 81 = .ok (.return_, 1) := by decide +kernel
theorem d_MapKeeper_hear_0 : decode prog_7_method_4_code 0 = .ok (.aload_n 1, 1) := by decide +kernel
theorem d_MapKeeper_hear_1 : decode prog_7_method_4_code 1 = .ok (.getfield 64, 3) := by decide +kernel
theorem d_MapKeeper_hear_4 : decode prog_7_method_4_code 4 = .ok (.ifCond .lt 42, 3) := by decide +kernel
theorem d_MapKeeper_hear_7 : decode prog_7_method_4_code 7 = .ok (.aload_n 1, 1) := by decide +kernel
theorem d_MapKeeper_hear_8 : decode prog_7_method_4_code 8 = .ok (.getfield 64, 3) := by decide +kernel
theorem d_MapKeeper_hear_11 : decode prog_7_method_4_code 11 = .ok (.aload_n 0, 1) := by decide +kernel
theorem d_MapKeeper_hear_12 : decode prog_7_method_4_code 12 = .ok (.getfield 15, 3) := by decide +kernel
theorem d_MapKeeper_hear_15 : decode prog_7_method_4_code 15 = .ok (.getfield 39, 3) := by decide +kernel
theorem d_MapKeeper_hear_18 : decode prog_7_method_4_code 18 = .ok (.if_icmp .ge 28, 3) := by decide +kernel
theorem d_MapKeeper_hear_21 : decode prog_7_method_4_code 21 = .ok (.aload_n 0, 1) := by decide +kernel
theorem d_MapKeeper_hear_22 : decode prog_7_method_4_code 22 = .ok (.getfield 42, 3) := by decide +kernel
theorem d_MapKeeper_hear_25 : decode prog_7_method_4_code 25 = .ok (.aload_n 1, 1) := by decide +kernel
theorem d_MapKeeper_hear_26 : decode prog_7_method_4_code 26 = .ok (.getfield 64, 3) := by decide +kernel
theorem d_MapKeeper_hear_29 : decode prog_7_method_4_code 29 = .ok (.aload_n 0, 1) := by decide +kernel
theorem d_MapKeeper_hear_30 : decode prog_7_method_4_code 30 = .ok (.getfield 42, 3) := by decide +kernel
theorem d_MapKeeper_hear_33 : decode prog_7_method_4_code 33 = .ok (.aload_n 1, 1) := by decide +kernel
theorem d_MapKeeper_hear_34 : decode prog_7_method_4_code 34 = .ok (.getfield 64, 3) := by decide +kernel
theorem d_MapKeeper_hear_37 : decode prog_7_method_4_code 37 = .ok (.iaload, 1) := by decide +kernel
theorem d_MapKeeper_hear_38 : decode prog_7_method_4_code 38 = .ok (.aload_n 1, 1) := by decide +kernel
theorem d_MapKeeper_hear_39 : decode prog_7_method_4_code 39 = .ok (.getfield 67, 3) := by decide +kernel
theorem d_MapKeeper_hear_42 : decode prog_7_method_4_code 42 = .ok (.invokestatic 68, 3) := by decide +kernel
theorem d_MapKeeper_hear_45 : decode prog_7_method_4_code 45 = .ok (.iastore, 1) := by decide +kernel
theorem d_MapKeeper_hear_46 : decode prog_7_method_4_code 46 = .ok (.return_, 1) := by decide +kernel
theorem d_Desk_hear_0 : decode prog_5_method_7_code 0 = .ok (.aload_n 1, 1) := by decide +kernel
theorem d_Desk_hear_1 : decode prog_5_method_7_code 1 = .ok (.getfield 65, 3) := by decide +kernel
theorem d_Desk_hear_4 : decode prog_5_method_7_code 4 = .ok (.istore_n 2, 1) := by decide +kernel
theorem d_Desk_hear_5 : decode prog_5_method_7_code 5 = .ok (.iload_n 2, 1) := by decide +kernel
theorem d_Desk_hear_6 : decode prog_5_method_7_code 6 = .ok (.aload_n 0, 1) := by decide +kernel
theorem d_Desk_hear_7 : decode prog_5_method_7_code 7 = .ok (.getfield 33, 3) := by decide +kernel
theorem d_Desk_hear_10 : decode prog_5_method_7_code 10 = .ok (.if_icmp .lt 31, 3) := by decide +kernel
theorem d_Desk_hear_13 : decode prog_5_method_7_code 13 = .ok (.iload_n 2, 1) := by decide +kernel
theorem d_Desk_hear_14 : decode prog_5_method_7_code 14 = .ok (.aload_n 0, 1) := by decide +kernel
theorem d_Desk_hear_15 : decode prog_5_method_7_code 15 = .ok (.getfield 29, 3) := by decide +kernel
theorem d_Desk_hear_18 : decode prog_5_method_7_code 18 = .ok (.if_icmp .ge 23, 3) := by decide +kernel
theorem d_Desk_hear_21 : decode prog_5_method_7_code 21 = .ok (.aload_n 0, 1) := by decide +kernel
theorem d_Desk_hear_22 : decode prog_5_method_7_code 22 = .ok (.getfield 21, 3) := by decide +kernel
theorem d_Desk_hear_25 : decode prog_5_method_7_code 25 = .ok (.iload_n 2, 1) := by decide +kernel
theorem d_Desk_hear_26 : decode prog_5_method_7_code 26 = .ok (.aload_n 1, 1) := by decide +kernel
theorem d_Desk_hear_27 : decode prog_5_method_7_code 27 = .ok (.getfield 68, 3) := by decide +kernel
theorem d_Desk_hear_30 : decode prog_5_method_7_code 30 = .ok (.iastore, 1) := by decide +kernel
theorem d_Desk_hear_31 : decode prog_5_method_7_code 31 = .ok (.aload_n 0, 1) := by decide +kernel
theorem d_Desk_hear_32 : decode prog_5_method_7_code 32 = .ok (.getfield 17, 3) := by decide +kernel
theorem d_Desk_hear_35 : decode prog_5_method_7_code 35 = .ok (.iload_n 2, 1) := by decide +kernel
theorem d_Desk_hear_36 : decode prog_5_method_7_code 36 = .ok (.bipush 8, 2) := by decide +kernel
theorem d_Desk_hear_38 : decode prog_5_method_7_code 38 = .ok (.irem, 1) := by decide +kernel
theorem d_Desk_hear_39 : decode prog_5_method_7_code 39 = .ok (.iconst 1, 1) := by decide +kernel
theorem d_Desk_hear_40 : decode prog_5_method_7_code 40 = .ok (.bastore, 1) := by decide +kernel
theorem d_Desk_hear_41 : decode prog_5_method_7_code 41 = .ok (.return_, 1) := by decide +kernel
theorem d_VG_isNode_0 : decode prog_1_method_16_code 0 = .ok (.iload_n 1, 1) := by decide +kernel
theorem d_VG_isNode_1 : decode prog_1_method_16_code 1 = .ok (.ifCond .lt 16, 3) := by decide +kernel
theorem d_VG_isNode_4 : decode prog_1_method_16_code 4 = .ok (.iload_n 1, 1) := by decide +kernel
theorem d_VG_isNode_5 : decode prog_1_method_16_code 5 = .ok (.aload_n 0, 1) := by decide +kernel
theorem d_VG_isNode_6 : decode prog_1_method_16_code 6 = .ok (.getfield 54, 3) := by decide +kernel
theorem d_VG_isNode_9 : decode prog_1_method_16_code 9 = .ok (.arraylength, 1) := by decide +kernel
theorem d_VG_isNode_10 : decode prog_1_method_16_code 10 = .ok (.if_icmp .ge 7, 3) := by decide +kernel
theorem d_VG_isNode_13 : decode prog_1_method_16_code 13 = .ok (.iconst 1, 1) := by decide +kernel
theorem d_VG_isNode_14 : decode prog_1_method_16_code 14 = .ok (.goto 4, 3) := by decide +kernel
theorem d_VG_isNode_17 : decode prog_1_method_16_code 17 = .ok (.iconst 0, 1) := by decide +kernel
theorem d_VG_isNode_18 : decode prog_1_method_16_code 18 = .ok (.ireturn, 1) := by decide +kernel
theorem d_Node_hear_0 : decode prog_10_method_4_code 0 = .ok (.aload_n 1, 1) := by decide +kernel
theorem d_Node_hear_1 : decode prog_10_method_4_code 1 = .ok (.getfield 85, 3) := by decide +kernel
theorem d_Node_hear_4 : decode prog_10_method_4_code 4 = .ok (.getstatic 91, 3) := by decide +kernel
theorem d_Node_hear_7 : decode prog_10_method_4_code 7 = .ok (.if_acmp .ne 9, 3) := by decide +kernel
theorem d_Node_hear_10 : decode prog_10_method_4_code 10 = .ok (.aload_n 0, 1) := by decide +kernel
theorem d_Node_hear_11 : decode prog_10_method_4_code 11 = .ok (.aload_n 1, 1) := by decide +kernel
theorem d_Node_hear_12 : decode prog_10_method_4_code 12 = .ok (.invokevirtual 96, 3) := by decide +kernel
theorem d_Node_hear_15 : decode prog_10_method_4_code 15 = .ok (.return_, 1) := by decide +kernel
theorem d_Node_hear_16 : decode prog_10_method_4_code 16 = .ok (.aload_n 1, 1) := by decide +kernel
theorem d_Node_hear_17 : decode prog_10_method_4_code 17 = .ok (.getfield 100, 3) := by decide +kernel
theorem d_Node_hear_20 : decode prog_10_method_4_code 20 = .ok (.aload_n 0, 1) := by decide +kernel
theorem d_Node_hear_21 : decode prog_10_method_4_code 21 = .ok (.getfield 12, 3) := by decide +kernel
theorem d_Node_hear_24 : decode prog_10_method_4_code 24 = .ok (.getfield 103, 3) := by decide +kernel
theorem d_Node_hear_27 : decode prog_10_method_4_code 27 = .ok (.if_icmp .eq 4, 3) := by decide +kernel
theorem d_Node_hear_30 : decode prog_10_method_4_code 30 = .ok (.return_, 1) := by decide +kernel
theorem d_Node_hear_31 : decode prog_10_method_4_code 31 = .ok (.getstatic 104, 3) := by decide +kernel
theorem d_Node_hear_34 : decode prog_10_method_4_code 34 = .ok (.aload_n 1, 1) := by decide +kernel
theorem d_Node_hear_35 : decode prog_10_method_4_code 35 = .ok (.getfield 85, 3) := by decide +kernel
theorem d_Node_hear_38 : decode prog_10_method_4_code 38 = .ok (.invokevirtual 110, 3) := by decide +kernel
theorem d_Node_hear_41 : decode prog_10_method_4_code 41 = .ok (.iaload, 1) := by decide +kernel
theorem d_Node_hear_42 : decode prog_10_method_4_code 42 = .ok (.tableswitch 199 1 7 #[42, 53, 61, 83, 130, 130, 176], 42) := by decide +kernel
theorem d_Node_hear_84 : decode prog_10_method_4_code 84 = .ok (.aload_n 0, 1) := by decide +kernel
theorem d_Node_hear_85 : decode prog_10_method_4_code 85 = .ok (.aload_n 1, 1) := by decide +kernel
theorem d_Node_hear_86 : decode prog_10_method_4_code 86 = .ok (.getfield 113, 3) := by decide +kernel
theorem d_Node_hear_89 : decode prog_10_method_4_code 89 = .ok (.invokevirtual 117, 3) := by decide +kernel
theorem d_Node_hear_92 : decode prog_10_method_4_code 92 = .ok (.goto 149, 3) := by decide +kernel
theorem d_Node_hear_95 : decode prog_10_method_4_code 95 = .ok (.aload_n 0, 1) := by decide +kernel
theorem d_Node_hear_96 : decode prog_10_method_4_code 96 = .ok (.iconst 1, 1) := by decide +kernel
theorem d_Node_hear_97 : decode prog_10_method_4_code 97 = .ok (.putfield 82, 3) := by decide +kernel
theorem d_Node_hear_100 : decode prog_10_method_4_code 100 = .ok (.goto 141, 3) := by decide +kernel
theorem d_Node_hear_103 : decode prog_10_method_4_code 103 = .ok (.aload_n 0, 1) := by decide +kernel
theorem d_Node_hear_104 : decode prog_10_method_4_code 104 = .ok (.getfield 47, 3) := by decide +kernel
theorem d_Node_hear_107 : decode prog_10_method_4_code 107 = .ok (.aload_n 1, 1) := by decide +kernel
theorem d_Node_hear_108 : decode prog_10_method_4_code 108 = .ok (.getfield 121, 3) := by decide +kernel
theorem d_Node_hear_111 : decode prog_10_method_4_code 111 = .ok (.aload_n 1, 1) := by decide +kernel
theorem d_Node_hear_112 : decode prog_10_method_4_code 112 = .ok (.getfield 124, 3) := by decide +kernel
theorem d_Node_hear_115 : decode prog_10_method_4_code 115 = .ok (.aload_n 1, 1) := by decide +kernel
theorem d_Node_hear_116 : decode prog_10_method_4_code 116 = .ok (.getfield 127, 3) := by decide +kernel
theorem d_Node_hear_119 : decode prog_10_method_4_code 119 = .ok (.invokevirtual 130, 3) := by decide +kernel
theorem d_Node_hear_122 : decode prog_10_method_4_code 122 = .ok (.goto 119, 3) := by decide +kernel
theorem d_Node_hear_125 : decode prog_10_method_4_code 125 = .ok (.aload_n 0, 1) := by decide +kernel
theorem d_Node_hear_126 : decode prog_10_method_4_code 126 = .ok (.getfield 33, 3) := by decide +kernel
theorem d_Node_hear_129 : decode prog_10_method_4_code 129 = .ok (.getstatic 133, 3) := by decide +kernel
theorem d_Node_hear_132 : decode prog_10_method_4_code 132 = .ok (.aload_n 0, 1) := by decide +kernel
theorem d_Node_hear_133 : decode prog_10_method_4_code 133 = .ok (.getfield 25, 3) := by decide +kernel
theorem d_Node_hear_136 : decode prog_10_method_4_code 136 = .ok (.aload_n 1, 1) := by decide +kernel
theorem d_Node_hear_137 : decode prog_10_method_4_code 137 = .ok (.getfield 121, 3) := by decide +kernel
theorem d_Node_hear_140 : decode prog_10_method_4_code 140 = .ok (.aload_n 0, 1) := by decide +kernel
theorem d_Node_hear_141 : decode prog_10_method_4_code 141 = .ok (.getfield 12, 3) := by decide +kernel
theorem d_Node_hear_144 : decode prog_10_method_4_code 144 = .ok (.getfield 103, 3) := by decide +kernel
theorem d_Node_hear_147 : decode prog_10_method_4_code 147 = .ok (.invokevirtual 136, 3) := by decide +kernel
theorem d_Node_hear_150 : decode prog_10_method_4_code 150 = .ok (.getfield 142, 3) := by decide +kernel
theorem d_Node_hear_153 : decode prog_10_method_4_code 153 = .ok (.aload_n 0, 1) := by decide +kernel
theorem d_Node_hear_154 : decode prog_10_method_4_code 154 = .ok (.getfield 12, 3) := by decide +kernel
theorem d_Node_hear_157 : decode prog_10_method_4_code 157 = .ok (.getfield 146, 3) := by decide +kernel
theorem d_Node_hear_160 : decode prog_10_method_4_code 160 = .ok (.iconst 1, 1) := by decide +kernel
theorem d_Node_hear_161 : decode prog_10_method_4_code 161 = .ok (.invokevirtual 147, 3) := by decide +kernel
theorem d_Node_hear_164 : decode prog_10_method_4_code 164 = .ok (.aload_n 0, 1) := by decide +kernel
theorem d_Node_hear_165 : decode prog_10_method_4_code 165 = .ok (.iconst 1, 1) := by decide +kernel
theorem d_Node_hear_166 : decode prog_10_method_4_code 166 = .ok (.putfield 82, 3) := by decide +kernel
theorem d_Node_hear_169 : decode prog_10_method_4_code 169 = .ok (.goto 72, 3) := by decide +kernel
theorem d_Node_hear_172 : decode prog_10_method_4_code 172 = .ok (.aload_n 0, 1) := by decide +kernel
theorem d_Node_hear_173 : decode prog_10_method_4_code 173 = .ok (.dup, 1) := by decide +kernel
theorem d_Node_hear_174 : decode prog_10_method_4_code 174 = .ok (.getfield 76, 3) := by decide +kernel
theorem d_Node_hear_177 : decode prog_10_method_4_code 177 = .ok (.aload_n 0, 1) := by decide +kernel
theorem d_Node_hear_178 : decode prog_10_method_4_code 178 = .ok (.getfield 12, 3) := by decide +kernel
theorem d_Node_hear_181 : decode prog_10_method_4_code 181 = .ok (.getfield 146, 3) := by decide +kernel
theorem d_Node_hear_184 : decode prog_10_method_4_code 184 = .ok (.aload_n 1, 1) := by decide +kernel
theorem d_Node_hear_185 : decode prog_10_method_4_code 185 = .ok (.getfield 142, 3) := by decide +kernel
theorem d_Node_hear_188 : decode prog_10_method_4_code 188 = .ok (.aload_n 1, 1) := by decide +kernel
theorem d_Node_hear_189 : decode prog_10_method_4_code 189 = .ok (.getfield 85, 3) := by decide +kernel
theorem d_Node_hear_192 : decode prog_10_method_4_code 192 = .ok (.getstatic 133, 3) := by decide +kernel
theorem d_Node_hear_195 : decode prog_10_method_4_code 195 = .ok (.if_acmp .ne 7, 3) := by decide +kernel
theorem d_Node_hear_198 : decode prog_10_method_4_code 198 = .ok (.iconst 1, 1) := by decide +kernel
theorem d_Node_hear_199 : decode prog_10_method_4_code 199 = .ok (.goto 4, 3) := by decide +kernel
theorem d_Node_hear_202 : decode prog_10_method_4_code 202 = .ok (.iconst 0, 1) := by decide +kernel
theorem d_Node_hear_203 : decode prog_10_method_4_code 203 = .ok (.invokevirtual 153, 3) := by decide +kernel
theorem d_Node_hear_206 : decode prog_10_method_4_code 206 = .ok (.ior, 1) := by decide +kernel
theorem d_Node_hear_207 : decode prog_10_method_4_code 207 = .ok (.putfield 76, 3) := by decide +kernel
theorem d_Node_hear_210 : decode prog_10_method_4_code 210 = .ok (.aload_n 0, 1) := by decide +kernel
theorem d_Node_hear_211 : decode prog_10_method_4_code 211 = .ok (.iconst 1, 1) := by decide +kernel
theorem d_Node_hear_212 : decode prog_10_method_4_code 212 = .ok (.putfield 82, 3) := by decide +kernel
theorem d_Node_hear_215 : decode prog_10_method_4_code 215 = .ok (.goto 26, 3) := by decide +kernel
theorem d_Node_hear_218 : decode prog_10_method_4_code 218 = .ok (.aload_n 0, 1) := by decide +kernel
theorem d_Node_hear_219 : decode prog_10_method_4_code 219 = .ok (.getfield 12, 3) := by decide +kernel
theorem d_Node_hear_222 : decode prog_10_method_4_code 222 = .ok (.getfield 146, 3) := by decide +kernel
theorem d_Node_hear_225 : decode prog_10_method_4_code 225 = .ok (.invokevirtual 157, 3) := by decide +kernel
theorem d_Node_hear_228 : decode prog_10_method_4_code 228 = .ok (.aload_n 0, 1) := by decide +kernel
theorem d_Node_hear_229 : decode prog_10_method_4_code 229 = .ok (.iconst 1, 1) := by decide +kernel
theorem d_Node_hear_230 : decode prog_10_method_4_code 230 = .ok (.putfield 76, 3) := by decide +kernel
theorem d_Node_hear_233 : decode prog_10_method_4_code 233 = .ok (.aload_n 0, 1) := by decide +kernel
theorem d_Node_hear_234 : decode prog_10_method_4_code 234 = .ok (.iconst 1, 1) := by decide +kernel
theorem d_Node_hear_235 : decode prog_10_method_4_code 235 = .ok (.putfield 82, 3) := by decide +kernel
theorem d_Node_hear_238 : decode prog_10_method_4_code 238 = .ok (.goto 3, 3) := by decide +kernel
theorem d_Node_hear_241 : decode prog_10_method_4_code 241 = .ok (.return_, 1) := by decide +kernel
theorem d_Node_hearMap_0 : decode prog_10_method_5_code 0 = .ok (.aload_n 0, 1) := by decide +kernel
theorem d_Node_hearMap_1 : decode prog_10_method_5_code 1 = .ok (.iconst 1, 1) := by decide +kernel
theorem d_Node_hearMap_2 : decode prog_10_method_5_code 2 = .ok (.putfield 79, 3) := by decide +kernel
theorem d_Node_hearMap_5 : decode prog_10_method_5_code 5 = .ok (.aload_n 1, 1) := by decide +kernel
theorem d_Node_hearMap_6 : decode prog_10_method_5_code 6 = .ok (.getfield 100, 3) := by decide +kernel
theorem d_Node_hearMap_9 : decode prog_10_method_5_code 9 = .ok (.aload_n 0, 1) := by decide +kernel
theorem d_Node_hearMap_10 : decode prog_10_method_5_code 10 = .ok (.getfield 12, 3) := by decide +kernel
theorem d_Node_hearMap_13 : decode prog_10_method_5_code 13 = .ok (.getfield 103, 3) := by decide +kernel
theorem d_Node_hearMap_16 : decode prog_10_method_5_code 16 = .ok (.if_icmp .le 52, 3) := by decide +kernel
theorem d_Node_hearMap_19 : decode prog_10_method_5_code 19 = .ok (.aload_n 0, 1) := by decide +kernel
theorem d_Node_hearMap_20 : decode prog_10_method_5_code 20 = .ok (.getfield 29, 3) := by decide +kernel
theorem d_Node_hearMap_23 : decode prog_10_method_5_code 23 = .ok (.aload_n 1, 1) := by decide +kernel
theorem d_Node_hearMap_24 : decode prog_10_method_5_code 24 = .ok (.getfield 160, 3) := by decide +kernel
theorem d_Node_hearMap_27 : decode prog_10_method_5_code 27 = .ok (.invokevirtual 55, 3) := by decide +kernel
theorem d_Node_hearMap_30 : decode prog_10_method_5_code 30 = .ok (.istore_n 2, 1) := by decide +kernel
theorem d_Node_hearMap_31 : decode prog_10_method_5_code 31 = .ok (.aload_n 0, 1) := by decide +kernel
theorem d_Node_hearMap_32 : decode prog_10_method_5_code 32 = .ok (.getfield 12, 3) := by decide +kernel
theorem d_Node_hearMap_35 : decode prog_10_method_5_code 35 = .ok (.aload_n 1, 1) := by decide +kernel
theorem d_Node_hearMap_36 : decode prog_10_method_5_code 36 = .ok (.getfield 100, 3) := by decide +kernel
theorem d_Node_hearMap_39 : decode prog_10_method_5_code 39 = .ok (.iload_n 2, 1) := by decide +kernel
theorem d_Node_hearMap_40 : decode prog_10_method_5_code 40 = .ok (.aload_n 0, 1) := by decide +kernel
theorem d_Node_hearMap_41 : decode prog_10_method_5_code 41 = .ok (.getfield 29, 3) := by decide +kernel
theorem d_Node_hearMap_44 : decode prog_10_method_5_code 44 = .ok (.iload_n 2, 1) := by decide +kernel
theorem d_Node_hearMap_45 : decode prog_10_method_5_code 45 = .ok (.invokevirtual 59, 3) := by decide +kernel
theorem d_Node_hearMap_48 : decode prog_10_method_5_code 48 = .ok (.invokevirtual 62, 3) := by decide +kernel
theorem d_Node_hearMap_51 : decode prog_10_method_5_code 51 = .ok (.aload_n 0, 1) := by decide +kernel
theorem d_Node_hearMap_52 : decode prog_10_method_5_code 52 = .ok (.getfield 47, 3) := by decide +kernel
theorem d_Node_hearMap_55 : decode prog_10_method_5_code 55 = .ok (.invokevirtual 73, 3) := by decide +kernel
theorem d_Node_hearMap_58 : decode prog_10_method_5_code 58 = .ok (.aload_n 0, 1) := by decide +kernel
theorem d_Node_hearMap_59 : decode prog_10_method_5_code 59 = .ok (.iconst 1, 1) := by decide +kernel
theorem d_Node_hearMap_60 : decode prog_10_method_5_code 60 = .ok (.putfield 76, 3) := by decide +kernel
theorem d_Node_hearMap_63 : decode prog_10_method_5_code 63 = .ok (.aload_n 0, 1) := by decide +kernel
theorem d_Node_hearMap_64 : decode prog_10_method_5_code 64 = .ok (.iconst 1, 1) := by decide +kernel
theorem d_Node_hearMap_65 : decode prog_10_method_5_code 65 = .ok (.putfield 82, 3) := by decide +kernel
theorem d_Node_hearMap_68 : decode prog_10_method_5_code 68 = .ok (.return_, 1) := by decide +kernel
theorem d_Reports_clear_0 : decode prog_13_method_2_code 0 = .ok (.iconst 0, 1) := by decide +kernel
theorem d_Reports_clear_1 : decode prog_13_method_2_code 1 = .ok (.istore_n 1, 1) := by decide +kernel
theorem d_Reports_clear_2 : decode prog_13_method_2_code 2 = .ok (.iload_n 1, 1) := by decide +kernel
theorem d_Reports_clear_3 : decode prog_13_method_2_code 3 = .ok (.aload_n 0, 1) := by decide +kernel
theorem d_Reports_clear_4 : decode prog_13_method_2_code 4 = .ok (.getfield 9, 3) := by decide +kernel
theorem d_Reports_clear_7 : decode prog_13_method_2_code 7 = .ok (.arraylength, 1) := by decide +kernel
theorem d_Reports_clear_8 : decode prog_13_method_2_code 8 = .ok (.if_icmp .ge 16, 3) := by decide +kernel
theorem d_Reports_clear_11 : decode prog_13_method_2_code 11 = .ok (.aload_n 0, 1) := by decide +kernel
theorem d_Reports_clear_12 : decode prog_13_method_2_code 12 = .ok (.getfield 9, 3) := by decide +kernel
theorem d_Reports_clear_15 : decode prog_13_method_2_code 15 = .ok (.iload_n 1, 1) := by decide +kernel
theorem d_Reports_clear_16 : decode prog_13_method_2_code 16 = .ok (.iconst 0, 1) := by decide +kernel
theorem d_Reports_clear_17 : decode prog_13_method_2_code 17 = .ok (.bastore, 1) := by decide +kernel
theorem d_Reports_clear_18 : decode prog_13_method_2_code 18 = .ok (.iinc 1 1, 3) := by decide +kernel
theorem d_Reports_clear_21 : decode prog_13_method_2_code 21 = .ok (.goto (-19), 3) := by decide +kernel
theorem d_Reports_clear_24 : decode prog_13_method_2_code 24 = .ok (.aload_n 0, 1) := by decide +kernel
theorem d_Reports_clear_25 : decode prog_13_method_2_code 25 = .ok (.iconst 0, 1) := by decide +kernel
theorem d_Reports_clear_26 : decode prog_13_method_2_code 26 = .ok (.putfield 22, 3) := by decide +kernel
theorem d_Reports_clear_29 : decode prog_13_method_2_code 29 = .ok (.aload_n 0, 1) := by decide +kernel
theorem d_Reports_clear_30 : decode prog_13_method_2_code 30 = .ok (.iconst 0, 1) := by decide +kernel
theorem d_Reports_clear_31 : decode prog_13_method_2_code 31 = .ok (.putfield 26, 3) := by decide +kernel
theorem d_Reports_clear_34 : decode prog_13_method_2_code 34 = .ok (.return_, 1) := by decide +kernel
theorem d_Enum_ordinal_0 : decode prog_16_method_2_code 0 = .ok (.aload_n 0, 1) := by decide +kernel
theorem d_Enum_ordinal_1 : decode prog_16_method_2_code 1 = .ok (.getfield 7, 3) := by decide +kernel
theorem d_Enum_ordinal_4 : decode prog_16_method_2_code 4 = .ok (.ireturn, 1) := by decide +kernel
theorem d_Node_hearCommand_0 : decode prog_10_method_6_code 0 = .ok (.aload_n 1, 1) := by decide +kernel
theorem d_Node_hearCommand_1 : decode prog_10_method_6_code 1 = .ok (.ifnull 27, 3) := by decide +kernel
theorem d_Node_hearCommand_4 : decode prog_10_method_6_code 4 = .ok (.aload_n 0, 1) := by decide +kernel
theorem d_Node_hearCommand_5 : decode prog_10_method_6_code 5 = .ok (.getfield 12, 3) := by decide +kernel
theorem d_Node_hearCommand_8 : decode prog_10_method_6_code 8 = .ok (.getfield 163, 3) := by decide +kernel
theorem d_Node_hearCommand_11 : decode prog_10_method_6_code 11 = .ok (.aload_n 0, 1) := by decide +kernel
theorem d_Node_hearCommand_12 : decode prog_10_method_6_code 12 = .ok (.getfield 25, 3) := by decide +kernel
theorem d_Node_hearCommand_15 : decode prog_10_method_6_code 15 = .ok (.if_icmp .ne 13, 3) := by decide +kernel
theorem d_Node_hearCommand_18 : decode prog_10_method_6_code 18 = .ok (.aload_n 0, 1) := by decide +kernel
theorem d_Node_hearCommand_19 : decode prog_10_method_6_code 19 = .ok (.getfield 47, 3) := by decide +kernel
theorem d_Node_hearCommand_22 : decode prog_10_method_6_code 22 = .ok (.getfield 166, 3) := by decide +kernel
theorem d_Node_hearCommand_25 : decode prog_10_method_6_code 25 = .ok (.ifCond .ne 4, 3) := by decide +kernel
theorem d_Node_hearCommand_28 : decode prog_10_method_6_code 28 = .ok (.return_, 1) := by decide +kernel
theorem d_Node_hearCommand_29 : decode prog_10_method_6_code 29 = .ok (.aload_n 0, 1) := by decide +kernel
theorem d_Node_hearCommand_30 : decode prog_10_method_6_code 30 = .ok (.getfield 12, 3) := by decide +kernel
theorem d_Node_hearCommand_33 : decode prog_10_method_6_code 33 = .ok (.getfield 146, 3) := by decide +kernel
theorem d_Node_hearCommand_36 : decode prog_10_method_6_code 36 = .ok (.aload_n 1, 1) := by decide +kernel
theorem d_Node_hearCommand_37 : decode prog_10_method_6_code 37 = .ok (.getfield 169, 3) := by decide +kernel
theorem d_Node_hearCommand_40 : decode prog_10_method_6_code 40 = .ok (.invokevirtual 174, 3) := by decide +kernel
theorem d_Node_hearCommand_43 : decode prog_10_method_6_code 43 = .ok (.ifCond .eq 14, 3) := by decide +kernel
theorem d_Node_hearCommand_46 : decode prog_10_method_6_code 46 = .ok (.aload_n 0, 1) := by decide +kernel
theorem d_Node_hearCommand_47 : decode prog_10_method_6_code 47 = .ok (.aload_n 1, 1) := by decide +kernel
theorem d_Node_hearCommand_48 : decode prog_10_method_6_code 48 = .ok (.getfield 169, 3) := by decide +kernel
theorem d_Node_hearCommand_51 : decode prog_10_method_6_code 51 = .ok (.invokevirtual 178, 3) := by decide +kernel
theorem d_Node_hearCommand_54 : decode prog_10_method_6_code 54 = .ok (.goto 23, 3) := by decide +kernel
theorem d_Node_hearCommand_57 : decode prog_10_method_6_code 57 = .ok (.aload_n 0, 1) := by decide +kernel
theorem d_Node_hearCommand_58 : decode prog_10_method_6_code 58 = .ok (.dup, 1) := by decide +kernel
theorem d_Node_hearCommand_59 : decode prog_10_method_6_code 59 = .ok (.getfield 76, 3) := by decide +kernel
theorem d_Node_hearCommand_62 : decode prog_10_method_6_code 62 = .ok (.aload_n 0, 1) := by decide +kernel
theorem d_Node_hearCommand_63 : decode prog_10_method_6_code 63 = .ok (.getfield 12, 3) := by decide +kernel
theorem d_Node_hearCommand_66 : decode prog_10_method_6_code 66 = .ok (.getfield 146, 3) := by decide +kernel
theorem d_Node_hearCommand_69 : decode prog_10_method_6_code 69 = .ok (.aload_n 1, 1) := by decide +kernel
theorem d_Node_hearCommand_70 : decode prog_10_method_6_code 70 = .ok (.invokevirtual 181, 3) := by decide +kernel
theorem d_Node_hearCommand_73 : decode prog_10_method_6_code 73 = .ok (.ior, 1) := by decide +kernel
theorem d_Node_hearCommand_74 : decode prog_10_method_6_code 74 = .ok (.putfield 76, 3) := by decide +kernel
theorem d_Node_hearCommand_77 : decode prog_10_method_6_code 77 = .ok (.return_, 1) := by decide +kernel
theorem d_Copy_remembers_0 : decode prog_4_method_3_code 0 = .ok (.iload_n 1, 1) := by decide +kernel
theorem d_Copy_remembers_1 : decode prog_4_method_3_code 1 = .ok (.ifCond .lt 26, 3) := by decide +kernel
theorem d_Copy_remembers_4 : decode prog_4_method_3_code 4 = .ok (.iload_n 1, 1) := by decide +kernel
theorem d_Copy_remembers_5 : decode prog_4_method_3_code 5 = .ok (.aload_n 0, 1) := by decide +kernel
theorem d_Copy_remembers_6 : decode prog_4_method_3_code 6 = .ok (.getfield 28, 3) := by decide +kernel
theorem d_Copy_remembers_9 : decode prog_4_method_3_code 9 = .ok (.if_icmp .ge 18, 3) := by decide +kernel
theorem d_Copy_remembers_12 : decode prog_4_method_3_code 12 = .ok (.iload_n 1, 1) := by decide +kernel
theorem d_Copy_remembers_13 : decode prog_4_method_3_code 13 = .ok (.aload_n 0, 1) := by decide +kernel
theorem d_Copy_remembers_14 : decode prog_4_method_3_code 14 = .ok (.getfield 28, 3) := by decide +kernel
theorem d_Copy_remembers_17 : decode prog_4_method_3_code 17 = .ok (.bipush 8, 2) := by decide +kernel
theorem d_Copy_remembers_19 : decode prog_4_method_3_code 19 = .ok (.isub, 1) := by decide +kernel
theorem d_Copy_remembers_20 : decode prog_4_method_3_code 20 = .ok (.if_icmp .lt 7, 3) := by decide +kernel
theorem d_Copy_remembers_23 : decode prog_4_method_3_code 23 = .ok (.iconst 1, 1) := by decide +kernel
theorem d_Copy_remembers_24 : decode prog_4_method_3_code 24 = .ok (.goto 4, 3) := by decide +kernel
theorem d_Copy_remembers_27 : decode prog_4_method_3_code 27 = .ok (.iconst 0, 1) := by decide +kernel
theorem d_Copy_remembers_28 : decode prog_4_method_3_code 28 = .ok (.ireturn, 1) := by decide +kernel
theorem d_Node_tellAnswer_0 : decode prog_10_method_7_code 0 = .ok (.aload_n 0, 1) := by decide +kernel
theorem d_Node_tellAnswer_1 : decode prog_10_method_7_code 1 = .ok (.getfield 33, 3) := by decide +kernel
theorem d_Node_tellAnswer_4 : decode prog_10_method_7_code 4 = .ok (.getstatic 185, 3) := by decide +kernel
theorem d_Node_tellAnswer_7 : decode prog_10_method_7_code 7 = .ok (.aload_n 0, 1) := by decide +kernel
theorem d_Node_tellAnswer_8 : decode prog_10_method_7_code 8 = .ok (.getfield 25, 3) := by decide +kernel
theorem d_Node_tellAnswer_11 : decode prog_10_method_7_code 11 = .ok (.iconst (-1), 1) := by decide +kernel
theorem d_Node_tellAnswer_12 : decode prog_10_method_7_code 12 = .ok (.aload_n 0, 1) := by decide +kernel
theorem d_Node_tellAnswer_13 : decode prog_10_method_7_code 13 = .ok (.getfield 12, 3) := by decide +kernel
theorem d_Node_tellAnswer_16 : decode prog_10_method_7_code 16 = .ok (.getfield 103, 3) := by decide +kernel
theorem d_Node_tellAnswer_19 : decode prog_10_method_7_code 19 = .ok (.invokevirtual 136, 3) := by decide +kernel
theorem d_Node_tellAnswer_22 : decode prog_10_method_7_code 22 = .ok (.astore_n 2, 1) := by decide +kernel
theorem d_Node_tellAnswer_23 : decode prog_10_method_7_code 23 = .ok (.aload_n 2, 1) := by decide +kernel
theorem d_Node_tellAnswer_24 : decode prog_10_method_7_code 24 = .ok (.iload_n 1, 1) := by decide +kernel
theorem d_Node_tellAnswer_25 : decode prog_10_method_7_code 25 = .ok (.putfield 188, 3) := by decide +kernel
theorem d_Node_tellAnswer_28 : decode prog_10_method_7_code 28 = .ok (.aload_n 2, 1) := by decide +kernel
theorem d_Node_tellAnswer_29 : decode prog_10_method_7_code 29 = .ok (.aload_n 0, 1) := by decide +kernel
theorem d_Node_tellAnswer_30 : decode prog_10_method_7_code 30 = .ok (.getfield 12, 3) := by decide +kernel
theorem d_Node_tellAnswer_33 : decode prog_10_method_7_code 33 = .ok (.getfield 146, 3) := by decide +kernel
theorem d_Node_tellAnswer_36 : decode prog_10_method_7_code 36 = .ok (.getfield 189, 3) := by decide +kernel
theorem d_Node_tellAnswer_39 : decode prog_10_method_7_code 39 = .ok (.iload_n 1, 1) := by decide +kernel
theorem d_Node_tellAnswer_40 : decode prog_10_method_7_code 40 = .ok (.bipush 8, 2) := by decide +kernel
theorem d_Node_tellAnswer_42 : decode prog_10_method_7_code 42 = .ok (.irem, 1) := by decide +kernel
theorem d_Node_tellAnswer_43 : decode prog_10_method_7_code 43 = .ok (.iaload, 1) := by decide +kernel
theorem d_Node_tellAnswer_44 : decode prog_10_method_7_code 44 = .ok (.putfield 192, 3) := by decide +kernel
theorem d_Node_tellAnswer_47 : decode prog_10_method_7_code 47 = .ok (.return_, 1) := by decide +kernel
theorem d_Copy_append_0 : decode prog_4_method_4_code 0 = .ok (.aload_n 1, 1) := by decide +kernel
theorem d_Copy_append_1 : decode prog_4_method_4_code 1 = .ok (.ifnull 28, 3) := by decide +kernel
theorem d_Copy_append_4 : decode prog_4_method_4_code 4 = .ok (.aload_n 1, 1) := by decide +kernel
theorem d_Copy_append_5 : decode prog_4_method_4_code 5 = .ok (.getfield 32, 3) := by decide +kernel
theorem d_Copy_append_8 : decode prog_4_method_4_code 8 = .ok (.aload_n 0, 1) := by decide +kernel
theorem d_Copy_append_9 : decode prog_4_method_4_code 9 = .ok (.getfield 35, 3) := by decide +kernel
theorem d_Copy_append_12 : decode prog_4_method_4_code 12 = .ok (.if_icmp .ne 17, 3) := by decide +kernel
theorem d_Copy_append_15 : decode prog_4_method_4_code 15 = .ok (.aload_n 0, 1) := by decide +kernel
theorem d_Copy_append_16 : decode prog_4_method_4_code 16 = .ok (.getfield 35, 3) := by decide +kernel
theorem d_Copy_append_19 : decode prog_4_method_4_code 19 = .ok (.aload_n 0, 1) := by decide +kernel
theorem d_Copy_append_20 : decode prog_4_method_4_code 20 = .ok (.getfield 28, 3) := by decide +kernel
theorem d_Copy_append_23 : decode prog_4_method_4_code 23 = .ok (.isub, 1) := by decide +kernel
theorem d_Copy_append_24 : decode prog_4_method_4_code 24 = .ok (.bipush 8, 2) := by decide +kernel
theorem d_Copy_append_26 : decode prog_4_method_4_code 26 = .ok (.if_icmp .lt 5, 3) := by decide +kernel
theorem d_Copy_append_29 : decode prog_4_method_4_code 29 = .ok (.iconst 0, 1) := by decide +kernel
theorem d_Copy_append_30 : decode prog_4_method_4_code 30 = .ok (.ireturn, 1) := by decide +kernel
theorem d_Copy_append_31 : decode prog_4_method_4_code 31 = .ok (.aload_n 0, 1) := by decide +kernel
theorem d_Copy_append_32 : decode prog_4_method_4_code 32 = .ok (.getfield 20, 3) := by decide +kernel
theorem d_Copy_append_35 : decode prog_4_method_4_code 35 = .ok (.aload_n 0, 1) := by decide +kernel
theorem d_Copy_append_36 : decode prog_4_method_4_code 36 = .ok (.getfield 35, 3) := by decide +kernel
theorem d_Copy_append_39 : decode prog_4_method_4_code 39 = .ok (.bipush 8, 2) := by decide +kernel
theorem d_Copy_append_41 : decode prog_4_method_4_code 41 = .ok (.irem, 1) := by decide +kernel
theorem d_Copy_append_42 : decode prog_4_method_4_code 42 = .ok (.aload_n 1, 1) := by decide +kernel
theorem d_Copy_append_43 : decode prog_4_method_4_code 43 = .ok (.aastore, 1) := by decide +kernel
theorem d_Copy_append_44 : decode prog_4_method_4_code 44 = .ok (.aload_n 0, 1) := by decide +kernel
theorem d_Copy_append_45 : decode prog_4_method_4_code 45 = .ok (.dup, 1) := by decide +kernel
theorem d_Copy_append_46 : decode prog_4_method_4_code 46 = .ok (.getfield 35, 3) := by decide +kernel
theorem d_Copy_append_49 : decode prog_4_method_4_code 49 = .ok (.iconst 1, 1) := by decide +kernel
theorem d_Copy_append_50 : decode prog_4_method_4_code 50 = .ok (.iadd, 1) := by decide +kernel
theorem d_Copy_append_51 : decode prog_4_method_4_code 51 = .ok (.putfield 35, 3) := by decide +kernel
theorem d_Copy_append_54 : decode prog_4_method_4_code 54 = .ok (.iconst 1, 1) := by decide +kernel
theorem d_Copy_append_55 : decode prog_4_method_4_code 55 = .ok (.ireturn, 1) := by decide +kernel
theorem d_Reports_note_0 : decode prog_13_method_3_code 0 = .ok (.iload_n 1, 1) := by decide +kernel
theorem d_Reports_note_1 : decode prog_13_method_3_code 1 = .ok (.ifCond .lt 33, 3) := by decide +kernel
theorem d_Reports_note_4 : decode prog_13_method_3_code 4 = .ok (.iload_n 1, 1) := by decide +kernel
theorem d_Reports_note_5 : decode prog_13_method_3_code 5 = .ok (.aload_n 0, 1) := by decide +kernel
theorem d_Reports_note_6 : decode prog_13_method_3_code 6 = .ok (.getfield 9, 3) := by decide +kernel
theorem d_Reports_note_9 : decode prog_13_method_3_code 9 = .ok (.arraylength, 1) := by decide +kernel
theorem d_Reports_note_10 : decode prog_13_method_3_code 10 = .ok (.if_icmp .ge 24, 3) := by decide +kernel
theorem d_Reports_note_13 : decode prog_13_method_3_code 13 = .ok (.aload_n 0, 1) := by decide +kernel
theorem d_Reports_note_14 : decode prog_13_method_3_code 14 = .ok (.getfield 9, 3) := by decide +kernel
theorem d_Reports_note_17 : decode prog_13_method_3_code 17 = .ok (.iload_n 1, 1) := by decide +kernel
theorem d_Reports_note_18 : decode prog_13_method_3_code 18 = .ok (.iconst 1, 1) := by decide +kernel
theorem d_Reports_note_19 : decode prog_13_method_3_code 19 = .ok (.bastore, 1) := by decide +kernel
theorem d_Reports_note_20 : decode prog_13_method_3_code 20 = .ok (.aload_n 0, 1) := by decide +kernel
theorem d_Reports_note_21 : decode prog_13_method_3_code 21 = .ok (.getfield 15, 3) := by decide +kernel
theorem d_Reports_note_24 : decode prog_13_method_3_code 24 = .ok (.iload_n 1, 1) := by decide +kernel
theorem d_Reports_note_25 : decode prog_13_method_3_code 25 = .ok (.iload_n 2, 1) := by decide +kernel
theorem d_Reports_note_26 : decode prog_13_method_3_code 26 = .ok (.iastore, 1) := by decide +kernel
theorem d_Reports_note_27 : decode prog_13_method_3_code 27 = .ok (.aload_n 0, 1) := by decide +kernel
theorem d_Reports_note_28 : decode prog_13_method_3_code 28 = .ok (.getfield 19, 3) := by decide +kernel
theorem d_Reports_note_31 : decode prog_13_method_3_code 31 = .ok (.iload_n 1, 1) := by decide +kernel
theorem d_Reports_note_32 : decode prog_13_method_3_code 32 = .ok (.iload_n 3, 1) := by decide +kernel
theorem d_Reports_note_33 : decode prog_13_method_3_code 33 = .ok (.iastore, 1) := by decide +kernel
theorem d_Reports_note_34 : decode prog_13_method_3_code 34 = .ok (.return_, 1) := by decide +kernel
theorem d_Copy_follow_0 : decode prog_4_method_8_code 0 = .ok (.aload_n 1, 1) := by decide +kernel
theorem d_Copy_follow_1 : decode prog_4_method_8_code 1 = .ok (.aload_n 0, 1) := by decide +kernel
theorem d_Copy_follow_2 : decode prog_4_method_8_code 2 = .ok (.getfield 35, 3) := by decide +kernel
theorem d_Copy_follow_5 : decode prog_4_method_8_code 5 = .ok (.invokevirtual 59, 3) := by decide +kernel
theorem d_Copy_follow_8 : decode prog_4_method_8_code 8 = .ok (.ifCond .ne 15, 3) := by decide +kernel
theorem d_Copy_follow_11 : decode prog_4_method_8_code 11 = .ok (.iload_n 2, 1) := by decide +kernel
theorem d_Copy_follow_12 : decode prog_4_method_8_code 12 = .ok (.ifCond .eq 9, 3) := by decide +kernel
theorem d_Copy_follow_15 : decode prog_4_method_8_code 15 = .ok (.aload_n 0, 1) := by decide +kernel
theorem d_Copy_follow_16 : decode prog_4_method_8_code 16 = .ok (.aload_n 1, 1) := by decide +kernel
theorem d_Copy_follow_17 : decode prog_4_method_8_code 17 = .ok (.iconst 1, 1) := by decide +kernel
theorem d_Copy_follow_18 : decode prog_4_method_8_code 18 = .ok (.invokevirtual 63, 3) := by decide +kernel
theorem d_Copy_follow_21 : decode prog_4_method_8_code 21 = .ok (.iload_n 2, 1) := by decide +kernel
theorem d_Copy_follow_22 : decode prog_4_method_8_code 22 = .ok (.ireturn, 1) := by decide +kernel
theorem d_Copy_follow_23 : decode prog_4_method_8_code 23 = .ok (.iconst 0, 1) := by decide +kernel
theorem d_Copy_follow_24 : decode prog_4_method_8_code 24 = .ok (.istore_n 3, 1) := by decide +kernel
theorem d_Copy_follow_25 : decode prog_4_method_8_code 25 = .ok (.aload_n 0, 1) := by decide +kernel
theorem d_Copy_follow_26 : decode prog_4_method_8_code 26 = .ok (.getfield 35, 3) := by decide +kernel
theorem d_Copy_follow_29 : decode prog_4_method_8_code 29 = .ok (.istore 4, 2) := by decide +kernel
theorem d_Copy_follow_31 : decode prog_4_method_8_code 31 = .ok (.iload 4, 2) := by decide +kernel
theorem d_Copy_follow_33 : decode prog_4_method_8_code 33 = .ok (.aload_n 1, 1) := by decide +kernel
theorem d_Copy_follow_34 : decode prog_4_method_8_code 34 = .ok (.getfield 35, 3) := by decide +kernel
theorem d_Copy_follow_37 : decode prog_4_method_8_code 37 = .ok (.if_icmp .ge 37, 3) := by decide +kernel
theorem d_Copy_follow_40 : decode prog_4_method_8_code 40 = .ok (.iload_n 3, 1) := by decide +kernel
theorem d_Copy_follow_41 : decode prog_4_method_8_code 41 = .ok (.aload_n 0, 1) := by decide +kernel
theorem d_Copy_follow_42 : decode prog_4_method_8_code 42 = .ok (.aload_n 1, 1) := by decide +kernel
theorem d_Copy_follow_43 : decode prog_4_method_8_code 43 = .ok (.getfield 28, 3) := by decide +kernel
theorem d_Copy_follow_46 : decode prog_4_method_8_code 46 = .ok (.invokevirtual 67, 3) := by decide +kernel
theorem d_Copy_follow_49 : decode prog_4_method_8_code 49 = .ok (.ior, 1) := by decide +kernel
theorem d_Copy_follow_50 : decode prog_4_method_8_code 50 = .ok (.istore_n 3, 1) := by decide +kernel
theorem d_Copy_follow_51 : decode prog_4_method_8_code 51 = .ok (.iload_n 3, 1) := by decide +kernel
theorem d_Copy_follow_52 : decode prog_4_method_8_code 52 = .ok (.aload_n 0, 1) := by decide +kernel
theorem d_Copy_follow_53 : decode prog_4_method_8_code 53 = .ok (.aload_n 1, 1) := by decide +kernel
theorem d_Copy_follow_54 : decode prog_4_method_8_code 54 = .ok (.getfield 20, 3) := by decide +kernel
theorem d_Copy_follow_57 : decode prog_4_method_8_code 57 = .ok (.iload 4, 2) := by decide +kernel
theorem d_Copy_follow_59 : decode prog_4_method_8_code 59 = .ok (.bipush 8, 2) := by decide +kernel
theorem d_Copy_follow_61 : decode prog_4_method_8_code 61 = .ok (.irem, 1) := by decide +kernel
theorem d_Copy_follow_62 : decode prog_4_method_8_code 62 = .ok (.aaload, 1) := by decide +kernel
theorem d_Copy_follow_63 : decode prog_4_method_8_code 63 = .ok (.invokevirtual 70, 3) := by decide +kernel
theorem d_Copy_follow_66 : decode prog_4_method_8_code 66 = .ok (.ior, 1) := by decide +kernel
theorem d_Copy_follow_67 : decode prog_4_method_8_code 67 = .ok (.istore_n 3, 1) := by decide +kernel
theorem d_Copy_follow_68 : decode prog_4_method_8_code 68 = .ok (.iinc 4 1, 3) := by decide +kernel
theorem d_Copy_follow_71 : decode prog_4_method_8_code 71 = .ok (.goto (-40), 3) := by decide +kernel
theorem d_Copy_follow_74 : decode prog_4_method_8_code 74 = .ok (.aload_n 0, 1) := by decide +kernel
theorem d_Copy_follow_75 : decode prog_4_method_8_code 75 = .ok (.aload_n 1, 1) := by decide +kernel
theorem d_Copy_follow_76 : decode prog_4_method_8_code 76 = .ok (.getfield 28, 3) := by decide +kernel
theorem d_Copy_follow_79 : decode prog_4_method_8_code 79 = .ok (.invokevirtual 67, 3) := by decide +kernel
theorem d_Copy_follow_82 : decode prog_4_method_8_code 82 = .ok (.iload_n 3, 1) := by decide +kernel
theorem d_Copy_follow_83 : decode prog_4_method_8_code 83 = .ok (.ior, 1) := by decide +kernel
theorem d_Copy_follow_84 : decode prog_4_method_8_code 84 = .ok (.ireturn, 1) := by decide +kernel
theorem d_Copy_reachesBackTo_0 : decode prog_4_method_7_code 0 = .ok (.iload_n 1, 1) := by decide +kernel
theorem d_Copy_reachesBackTo_1 : decode prog_4_method_7_code 1 = .ok (.aload_n 0, 1) := by decide +kernel
theorem d_Copy_reachesBackTo_2 : decode prog_4_method_7_code 2 = .ok (.getfield 35, 3) := by decide +kernel
theorem d_Copy_reachesBackTo_5 : decode prog_4_method_7_code 5 = .ok (.bipush 8, 2) := by decide +kernel
theorem d_Copy_reachesBackTo_7 : decode prog_4_method_7_code 7 = .ok (.isub, 1) := by decide +kernel
theorem d_Copy_reachesBackTo_8 : decode prog_4_method_7_code 8 = .ok (.if_icmp .lt 7, 3) := by decide +kernel
theorem d_Copy_reachesBackTo_11 : decode prog_4_method_7_code 11 = .ok (.iconst 1, 1) := by decide +kernel
theorem d_Copy_reachesBackTo_12 : decode prog_4_method_7_code 12 = .ok (.goto 4, 3) := by decide +kernel
theorem d_Copy_reachesBackTo_15 : decode prog_4_method_7_code 15 = .ok (.iconst 0, 1) := by decide +kernel
theorem d_Copy_reachesBackTo_16 : decode prog_4_method_7_code 16 = .ok (.ireturn, 1) := by decide +kernel
theorem d_Copy_doUpTo_0 : decode prog_4_method_5_code 0 = .ok (.aload_n 0, 1) := by decide +kernel
theorem d_Copy_doUpTo_1 : decode prog_4_method_5_code 1 = .ok (.getfield 28, 3) := by decide +kernel
theorem d_Copy_doUpTo_4 : decode prog_4_method_5_code 4 = .ok (.istore_n 2, 1) := by decide +kernel
theorem d_Copy_doUpTo_5 : decode prog_4_method_5_code 5 = .ok (.iload_n 1, 1) := by decide +kernel
theorem d_Copy_doUpTo_6 : decode prog_4_method_5_code 6 = .ok (.aload_n 0, 1) := by decide +kernel
theorem d_Copy_doUpTo_7 : decode prog_4_method_5_code 7 = .ok (.getfield 35, 3) := by decide +kernel
theorem d_Copy_doUpTo_10 : decode prog_4_method_5_code 10 = .ok (.invokestatic 38, 3) := by decide +kernel
theorem d_Copy_doUpTo_13 : decode prog_4_method_5_code 13 = .ok (.istore_n 3, 1) := by decide +kernel
theorem d_Copy_doUpTo_14 : decode prog_4_method_5_code 14 = .ok (.aload_n 0, 1) := by decide +kernel
theorem d_Copy_doUpTo_15 : decode prog_4_method_5_code 15 = .ok (.getfield 28, 3) := by decide +kernel
theorem d_Copy_doUpTo_18 : decode prog_4_method_5_code 18 = .ok (.iload_n 3, 1) := by decide +kernel
theorem d_Copy_doUpTo_19 : decode prog_4_method_5_code 19 = .ok (.if_icmp .ge 44, 3) := by decide +kernel
theorem d_Copy_doUpTo_22 : decode prog_4_method_5_code 22 = .ok (.aload_n 0, 1) := by decide +kernel
theorem d_Copy_doUpTo_23 : decode prog_4_method_5_code 23 = .ok (.getfield 15, 3) := by decide +kernel
theorem d_Copy_doUpTo_26 : decode prog_4_method_5_code 26 = .ok (.aload_n 0, 1) := by decide +kernel
theorem d_Copy_doUpTo_27 : decode prog_4_method_5_code 27 = .ok (.getfield 28, 3) := by decide +kernel
theorem d_Copy_doUpTo_30 : decode prog_4_method_5_code 30 = .ok (.bipush 8, 2) := by decide +kernel
theorem d_Copy_doUpTo_32 : decode prog_4_method_5_code 32 = .ok (.irem, 1) := by decide +kernel
theorem d_Copy_doUpTo_33 : decode prog_4_method_5_code 33 = .ok (.aload_n 0, 1) := by decide +kernel
theorem d_Copy_doUpTo_34 : decode prog_4_method_5_code 34 = .ok (.aload_n 0, 1) := by decide +kernel
theorem d_Copy_doUpTo_35 : decode prog_4_method_5_code 35 = .ok (.getfield 20, 3) := by decide +kernel
theorem d_Copy_doUpTo_38 : decode prog_4_method_5_code 38 = .ok (.aload_n 0, 1) := by decide +kernel
theorem d_Copy_doUpTo_39 : decode prog_4_method_5_code 39 = .ok (.getfield 28, 3) := by decide +kernel
theorem d_Copy_doUpTo_42 : decode prog_4_method_5_code 42 = .ok (.bipush 8, 2) := by decide +kernel
theorem d_Copy_doUpTo_44 : decode prog_4_method_5_code 44 = .ok (.irem, 1) := by decide +kernel
theorem d_Copy_doUpTo_45 : decode prog_4_method_5_code 45 = .ok (.aaload, 1) := by decide +kernel
theorem d_Copy_doUpTo_46 : decode prog_4_method_5_code 46 = .ok (.invokevirtual 44, 3) := by decide +kernel
theorem d_Copy_doUpTo_49 : decode prog_4_method_5_code 49 = .ok (.iastore, 1) := by decide +kernel
theorem d_Copy_doUpTo_50 : decode prog_4_method_5_code 50 = .ok (.aload_n 0, 1) := by decide +kernel
theorem d_Copy_doUpTo_51 : decode prog_4_method_5_code 51 = .ok (.dup, 1) := by decide +kernel
theorem d_Copy_doUpTo_52 : decode prog_4_method_5_code 52 = .ok (.getfield 28, 3) := by decide +kernel
theorem d_Copy_doUpTo_55 : decode prog_4_method_5_code 55 = .ok (.iconst 1, 1) := by decide +kernel
theorem d_Copy_doUpTo_56 : decode prog_4_method_5_code 56 = .ok (.iadd, 1) := by decide +kernel
theorem d_Copy_doUpTo_57 : decode prog_4_method_5_code 57 = .ok (.putfield 28, 3) := by decide +kernel
theorem d_Copy_doUpTo_60 : decode prog_4_method_5_code 60 = .ok (.goto (-46), 3) := by decide +kernel
theorem d_Copy_doUpTo_63 : decode prog_4_method_5_code 63 = .ok (.aload_n 0, 1) := by decide +kernel
theorem d_Copy_doUpTo_64 : decode prog_4_method_5_code 64 = .ok (.getfield 28, 3) := by decide +kernel
theorem d_Copy_doUpTo_67 : decode prog_4_method_5_code 67 = .ok (.iload_n 2, 1) := by decide +kernel
theorem d_Copy_doUpTo_68 : decode prog_4_method_5_code 68 = .ok (.if_icmp .le 7, 3) := by decide +kernel
theorem d_Copy_doUpTo_71 : decode prog_4_method_5_code 71 = .ok (.iconst 1, 1) := by decide +kernel
theorem d_Copy_doUpTo_72 : decode prog_4_method_5_code 72 = .ok (.goto 4, 3) := by decide +kernel
theorem d_Copy_doUpTo_75 : decode prog_4_method_5_code 75 = .ok (.iconst 0, 1) := by decide +kernel
theorem d_Copy_doUpTo_76 : decode prog_4_method_5_code 76 = .ok (.ireturn, 1) := by decide +kernel
theorem d_Copy_perform_0 : decode prog_4_method_6_code 0 = .ok (.aload_n 1, 1) := by decide +kernel
theorem d_Copy_perform_1 : decode prog_4_method_6_code 1 = .ok (.ifnonnull 5, 3) := by decide +kernel
theorem d_Copy_perform_4 : decode prog_4_method_6_code 4 = .ok (.iconst 0, 1) := by decide +kernel
theorem d_Copy_perform_5 : decode prog_4_method_6_code 5 = .ok (.ireturn, 1) := by decide +kernel
theorem d_Copy_perform_6 : decode prog_4_method_6_code 6 = .ok (.aload_n 1, 1) := by decide +kernel
theorem d_Copy_perform_7 : decode prog_4_method_6_code 7 = .ok (.getfield 48, 3) := by decide +kernel
theorem d_Copy_perform_10 : decode prog_4_method_6_code 10 = .ok (.istore_n 2, 1) := by decide +kernel
theorem d_Copy_perform_11 : decode prog_4_method_6_code 11 = .ok (.aload_n 1, 1) := by decide +kernel
theorem d_Copy_perform_12 : decode prog_4_method_6_code 12 = .ok (.getfield 51, 3) := by decide +kernel
theorem d_Copy_perform_15 : decode prog_4_method_6_code 15 = .ok (.istore_n 3, 1) := by decide +kernel
theorem d_Copy_perform_16 : decode prog_4_method_6_code 16 = .ok (.lconst 1, 1) := by decide +kernel
theorem d_Copy_perform_17 : decode prog_4_method_6_code 17 = .ok (.iload_n 2, 1) := by decide +kernel
theorem d_Copy_perform_18 : decode prog_4_method_6_code 18 = .ok (.lshl, 1) := by decide +kernel
theorem d_Copy_perform_19 : decode prog_4_method_6_code 19 = .ok (.lstore 4, 2) := by decide +kernel
theorem d_Copy_perform_21 : decode prog_4_method_6_code 21 = .ok (.aload_n 0, 1) := by decide +kernel
theorem d_Copy_perform_22 : decode prog_4_method_6_code 22 = .ok (.getfield 24, 3) := by decide +kernel
theorem d_Copy_perform_25 : decode prog_4_method_6_code 25 = .ok (.lload 4, 2) := by decide +kernel
theorem d_Copy_perform_27 : decode prog_4_method_6_code 27 = .ok (.land, 1) := by decide +kernel
theorem d_Copy_perform_28 : decode prog_4_method_6_code 28 = .ok (.lconst 0, 1) := by decide +kernel
theorem d_Copy_perform_29 : decode prog_4_method_6_code 29 = .ok (.lcmp, 1) := by decide +kernel
theorem d_Copy_perform_30 : decode prog_4_method_6_code 30 = .ok (.ifCond .eq 7, 3) := by decide +kernel
theorem d_Copy_perform_33 : decode prog_4_method_6_code 33 = .ok (.iconst 1, 1) := by decide +kernel
theorem d_Copy_perform_34 : decode prog_4_method_6_code 34 = .ok (.goto 4, 3) := by decide +kernel
theorem d_Copy_perform_37 : decode prog_4_method_6_code 37 = .ok (.iconst 0, 1) := by decide +kernel
theorem d_Copy_perform_38 : decode prog_4_method_6_code 38 = .ok (.istore 6, 2) := by decide +kernel
theorem d_Copy_perform_40 : decode prog_4_method_6_code 40 = .ok (.aload_n 1, 1) := by decide +kernel
theorem d_Copy_perform_41 : decode prog_4_method_6_code 41 = .ok (.getfield 54, 3) := by decide +kernel
theorem d_Copy_perform_44 : decode prog_4_method_6_code 44 = .ok (.tableswitch 166 0 4 #[36, 57, 166, 82, 110], 36) := by decide +kernel
theorem d_Copy_perform_80 : decode prog_4_method_6_code 80 = .ok (.aload_n 0, 1) := by decide +kernel
theorem d_Copy_perform_81 : decode prog_4_method_6_code 81 = .ok (.dup, 1) := by decide +kernel
theorem d_Copy_perform_82 : decode prog_4_method_6_code 82 = .ok (.getfield 24, 3) := by decide +kernel
theorem d_Copy_perform_85 : decode prog_4_method_6_code 85 = .ok (.lload 4, 2) := by decide +kernel
theorem d_Copy_perform_87 : decode prog_4_method_6_code 87 = .ok (.lor, 1) := by decide +kernel
theorem d_Copy_perform_88 : decode prog_4_method_6_code 88 = .ok (.putfield 24, 3) := by decide +kernel
theorem d_Copy_perform_91 : decode prog_4_method_6_code 91 = .ok (.aload_n 0, 1) := by decide +kernel
theorem d_Copy_perform_92 : decode prog_4_method_6_code 92 = .ok (.getfield 9, 3) := by decide +kernel
theorem d_Copy_perform_95 : decode prog_4_method_6_code 95 = .ok (.iload_n 2, 1) := by decide +kernel
theorem d_Copy_perform_96 : decode prog_4_method_6_code 96 = .ok (.iload_n 3, 1) := by decide +kernel
theorem d_Copy_perform_97 : decode prog_4_method_6_code 97 = .ok (.iastore, 1) := by decide +kernel
theorem d_Copy_perform_98 : decode prog_4_method_6_code 98 = .ok (.iload 6, 2) := by decide +kernel
theorem d_Copy_perform_100 : decode prog_4_method_6_code 100 = .ok (.ireturn, 1) := by decide +kernel
theorem d_Copy_perform_101 : decode prog_4_method_6_code 101 = .ok (.aload_n 0, 1) := by decide +kernel
theorem d_Copy_perform_102 : decode prog_4_method_6_code 102 = .ok (.dup, 1) := by decide +kernel
theorem d_Copy_perform_103 : decode prog_4_method_6_code 103 = .ok (.getfield 24, 3) := by decide +kernel
theorem d_Copy_perform_106 : decode prog_4_method_6_code 106 = .ok (.lload 4, 2) := by decide +kernel
theorem d_Copy_perform_108 : decode prog_4_method_6_code 108 = .ok (.ldc2_w 57, 3) := by decide +kernel
theorem d_Copy_perform_111 : decode prog_4_method_6_code 111 = .ok (.lxor, 1) := by decide +kernel
theorem d_Copy_perform_112 : decode prog_4_method_6_code 112 = .ok (.land, 1) := by decide +kernel
theorem d_Copy_perform_113 : decode prog_4_method_6_code 113 = .ok (.putfield 24, 3) := by decide +kernel
theorem d_Copy_perform_116 : decode prog_4_method_6_code 116 = .ok (.aload_n 0, 1) := by decide +kernel
theorem d_Copy_perform_117 : decode prog_4_method_6_code 117 = .ok (.getfield 9, 3) := by decide +kernel
theorem d_Copy_perform_120 : decode prog_4_method_6_code 120 = .ok (.iload_n 2, 1) := by decide +kernel
theorem d_Copy_perform_121 : decode prog_4_method_6_code 121 = .ok (.iconst 0, 1) := by decide +kernel
theorem d_Copy_perform_122 : decode prog_4_method_6_code 122 = .ok (.iastore, 1) := by decide +kernel
theorem d_Copy_perform_123 : decode prog_4_method_6_code 123 = .ok (.iload 6, 2) := by decide +kernel
theorem d_Copy_perform_125 : decode prog_4_method_6_code 125 = .ok (.ireturn, 1) := by decide +kernel
theorem d_Copy_perform_126 : decode prog_4_method_6_code 126 = .ok (.aload_n 0, 1) := by decide +kernel
theorem d_Copy_perform_127 : decode prog_4_method_6_code 127 = .ok (.dup, 1) := by decide +kernel
theorem d_Copy_perform_128 : decode prog_4_method_6_code 128 = .ok (.getfield 24, 3) := by decide +kernel
theorem d_Copy_perform_131 : decode prog_4_method_6_code 131 = .ok (.lload 4, 2) := by decide +kernel
theorem d_Copy_perform_133 : decode prog_4_method_6_code 133 = .ok (.lor, 1) := by decide +kernel
theorem d_Copy_perform_134 : decode prog_4_method_6_code 134 = .ok (.putfield 24, 3) := by decide +kernel
theorem d_Copy_perform_137 : decode prog_4_method_6_code 137 = .ok (.aload_n 0, 1) := by decide +kernel
theorem d_Copy_perform_138 : decode prog_4_method_6_code 138 = .ok (.getfield 9, 3) := by decide +kernel
theorem d_Copy_perform_141 : decode prog_4_method_6_code 141 = .ok (.iload_n 2, 1) := by decide +kernel
theorem d_Copy_perform_142 : decode prog_4_method_6_code 142 = .ok (.dup2, 1) := by decide +kernel
theorem d_Copy_perform_143 : decode prog_4_method_6_code 143 = .ok (.iaload, 1) := by decide +kernel
theorem d_Copy_perform_144 : decode prog_4_method_6_code 144 = .ok (.iload_n 3, 1) := by decide +kernel
theorem d_Copy_perform_145 : decode prog_4_method_6_code 145 = .ok (.iadd, 1) := by decide +kernel
theorem d_Copy_perform_146 : decode prog_4_method_6_code 146 = .ok (.iastore, 1) := by decide +kernel
theorem d_Copy_perform_147 : decode prog_4_method_6_code 147 = .ok (.aload_n 0, 1) := by decide +kernel
theorem d_Copy_perform_148 : decode prog_4_method_6_code 148 = .ok (.getfield 9, 3) := by decide +kernel
theorem d_Copy_perform_151 : decode prog_4_method_6_code 151 = .ok (.iload_n 2, 1) := by decide +kernel
theorem d_Copy_perform_152 : decode prog_4_method_6_code 152 = .ok (.iaload, 1) := by decide +kernel
theorem d_Copy_perform_153 : decode prog_4_method_6_code 153 = .ok (.ireturn, 1) := by decide +kernel
theorem d_Copy_perform_154 : decode prog_4_method_6_code 154 = .ok (.iload_n 2, 1) := by decide +kernel
theorem d_Copy_perform_155 : decode prog_4_method_6_code 155 = .ok (.iload_n 3, 1) := by decide +kernel
theorem d_Copy_perform_156 : decode prog_4_method_6_code 156 = .ok (.if_icmp .eq 51, 3) := by decide +kernel
theorem d_Copy_perform_159 : decode prog_4_method_6_code 159 = .ok (.aload_n 0, 1) := by decide +kernel
theorem d_Copy_perform_160 : decode prog_4_method_6_code 160 = .ok (.aload_n 0, 1) := by decide +kernel
theorem d_Copy_perform_161 : decode prog_4_method_6_code 161 = .ok (.getfield 24, 3) := by decide +kernel
theorem d_Copy_perform_164 : decode prog_4_method_6_code 164 = .ok (.lload 4, 2) := by decide +kernel
theorem d_Copy_perform_166 : decode prog_4_method_6_code 166 = .ok (.ldc2_w 57, 3) := by decide +kernel
theorem d_Copy_perform_169 : decode prog_4_method_6_code 169 = .ok (.lxor, 1) := by decide +kernel
theorem d_Copy_perform_170 : decode prog_4_method_6_code 170 = .ok (.land, 1) := by decide +kernel
theorem d_Copy_perform_171 : decode prog_4_method_6_code 171 = .ok (.lconst 1, 1) := by decide +kernel
theorem d_Copy_perform_172 : decode prog_4_method_6_code 172 = .ok (.iload_n 3, 1) := by decide +kernel
theorem d_Copy_perform_173 : decode prog_4_method_6_code 173 = .ok (.lshl, 1) := by decide +kernel
theorem d_Copy_perform_174 : decode prog_4_method_6_code 174 = .ok (.ldc2_w 57, 3) := by decide +kernel
theorem d_Copy_perform_177 : decode prog_4_method_6_code 177 = .ok (.lxor, 1) := by decide +kernel
theorem d_Copy_perform_178 : decode prog_4_method_6_code 178 = .ok (.land, 1) := by decide +kernel
theorem d_Copy_perform_179 : decode prog_4_method_6_code 179 = .ok (.iload 6, 2) := by decide +kernel
theorem d_Copy_perform_181 : decode prog_4_method_6_code 181 = .ok (.i2l, 1) := by decide +kernel
theorem d_Copy_perform_182 : decode prog_4_method_6_code 182 = .ok (.iload_n 3, 1) := by decide +kernel
theorem d_Copy_perform_183 : decode prog_4_method_6_code 183 = .ok (.lshl, 1) := by decide +kernel
theorem d_Copy_perform_184 : decode prog_4_method_6_code 184 = .ok (.lor, 1) := by decide +kernel
theorem d_Copy_perform_185 : decode prog_4_method_6_code 185 = .ok (.putfield 24, 3) := by decide +kernel
theorem d_Copy_perform_188 : decode prog_4_method_6_code 188 = .ok (.aload_n 0, 1) := by decide +kernel
theorem d_Copy_perform_189 : decode prog_4_method_6_code 189 = .ok (.getfield 9, 3) := by decide +kernel
theorem d_Copy_perform_192 : decode prog_4_method_6_code 192 = .ok (.iload_n 3, 1) := by decide +kernel
theorem d_Copy_perform_193 : decode prog_4_method_6_code 193 = .ok (.aload_n 0, 1) := by decide +kernel
theorem d_Copy_perform_194 : decode prog_4_method_6_code 194 = .ok (.getfield 9, 3) := by decide +kernel
theorem d_Copy_perform_197 : decode prog_4_method_6_code 197 = .ok (.iload_n 2, 1) := by decide +kernel
theorem d_Copy_perform_198 : decode prog_4_method_6_code 198 = .ok (.iaload, 1) := by decide +kernel
theorem d_Copy_perform_199 : decode prog_4_method_6_code 199 = .ok (.iastore, 1) := by decide +kernel
theorem d_Copy_perform_200 : decode prog_4_method_6_code 200 = .ok (.aload_n 0, 1) := by decide +kernel
theorem d_Copy_perform_201 : decode prog_4_method_6_code 201 = .ok (.getfield 9, 3) := by decide +kernel
theorem d_Copy_perform_204 : decode prog_4_method_6_code 204 = .ok (.iload_n 2, 1) := by decide +kernel
theorem d_Copy_perform_205 : decode prog_4_method_6_code 205 = .ok (.iconst 0, 1) := by decide +kernel
theorem d_Copy_perform_206 : decode prog_4_method_6_code 206 = .ok (.iastore, 1) := by decide +kernel
theorem d_Copy_perform_207 : decode prog_4_method_6_code 207 = .ok (.iload 6, 2) := by decide +kernel
theorem d_Copy_perform_209 : decode prog_4_method_6_code 209 = .ok (.ireturn, 1) := by decide +kernel
theorem d_Copy_perform_210 : decode prog_4_method_6_code 210 = .ok (.aload_n 0, 1) := by decide +kernel
theorem d_Copy_perform_211 : decode prog_4_method_6_code 211 = .ok (.getfield 9, 3) := by decide +kernel
theorem d_Copy_perform_214 : decode prog_4_method_6_code 214 = .ok (.iload_n 2, 1) := by decide +kernel
theorem d_Copy_perform_215 : decode prog_4_method_6_code 215 = .ok (.iaload, 1) := by decide +kernel
theorem d_Copy_perform_216 : decode prog_4_method_6_code 216 = .ok (.ireturn, 1) := by decide +kernel
theorem d_Copy_empty_0 : decode prog_4_method_10_code 0 = .ok (.aload_n 0, 1) := by decide +kernel
theorem d_Copy_empty_1 : decode prog_4_method_10_code 1 = .ok (.iconst 0, 1) := by decide +kernel
theorem d_Copy_empty_2 : decode prog_4_method_10_code 2 = .ok (.putfield 28, 3) := by decide +kernel
theorem d_Copy_empty_5 : decode prog_4_method_10_code 5 = .ok (.aload_n 0, 1) := by decide +kernel
theorem d_Copy_empty_6 : decode prog_4_method_10_code 6 = .ok (.iconst 0, 1) := by decide +kernel
theorem d_Copy_empty_7 : decode prog_4_method_10_code 7 = .ok (.putfield 35, 3) := by decide +kernel
theorem d_Copy_empty_10 : decode prog_4_method_10_code 10 = .ok (.aload_n 0, 1) := by decide +kernel
theorem d_Copy_empty_11 : decode prog_4_method_10_code 11 = .ok (.lconst 0, 1) := by decide +kernel
theorem d_Copy_empty_12 : decode prog_4_method_10_code 12 = .ok (.putfield 24, 3) := by decide +kernel
theorem d_Copy_empty_15 : decode prog_4_method_10_code 15 = .ok (.iconst 0, 1) := by decide +kernel
theorem d_Copy_empty_16 : decode prog_4_method_10_code 16 = .ok (.istore_n 1, 1) := by decide +kernel
theorem d_Copy_empty_17 : decode prog_4_method_10_code 17 = .ok (.iload_n 1, 1) := by decide +kernel
theorem d_Copy_empty_18 : decode prog_4_method_10_code 18 = .ok (.bipush 40, 2) := by decide +kernel
theorem d_Copy_empty_20 : decode prog_4_method_10_code 20 = .ok (.if_icmp .ge 16, 3) := by decide +kernel
theorem d_Copy_empty_23 : decode prog_4_method_10_code 23 = .ok (.aload_n 0, 1) := by decide +kernel
theorem d_Copy_empty_24 : decode prog_4_method_10_code 24 = .ok (.getfield 9, 3) := by decide +kernel
theorem d_Copy_empty_27 : decode prog_4_method_10_code 27 = .ok (.iload_n 1, 1) := by decide +kernel
theorem d_Copy_empty_28 : decode prog_4_method_10_code 28 = .ok (.iconst 0, 1) := by decide +kernel
theorem d_Copy_empty_29 : decode prog_4_method_10_code 29 = .ok (.iastore, 1) := by decide +kernel
theorem d_Copy_empty_30 : decode prog_4_method_10_code 30 = .ok (.iinc 1 1, 3) := by decide +kernel
theorem d_Copy_empty_33 : decode prog_4_method_10_code 33 = .ok (.goto (-16), 3) := by decide +kernel
theorem d_Copy_empty_36 : decode prog_4_method_10_code 36 = .ok (.return_, 1) := by decide +kernel
theorem d_Post_remove_0 : decode prog_12_method_4_code 0 = .ok (.iload_n 1, 1) := by decide +kernel
theorem d_Post_remove_1 : decode prog_12_method_4_code 1 = .ok (.ifCond .lt 11, 3) := by decide +kernel
theorem d_Post_remove_4 : decode prog_12_method_4_code 4 = .ok (.iload_n 1, 1) := by decide +kernel
theorem d_Post_remove_5 : decode prog_12_method_4_code 5 = .ok (.aload_n 0, 1) := by decide +kernel
theorem d_Post_remove_6 : decode prog_12_method_4_code 6 = .ok (.getfield 22, 3) := by decide +kernel
theorem d_Post_remove_9 : decode prog_12_method_4_code 9 = .ok (.if_icmp .lt 4, 3) := by decide +kernel
theorem d_Post_remove_12 : decode prog_12_method_4_code 12 = .ok (.return_, 1) := by decide +kernel
theorem d_Post_remove_13 : decode prog_12_method_4_code 13 = .ok (.aload_n 0, 1) := by decide +kernel
theorem d_Post_remove_14 : decode prog_12_method_4_code 14 = .ok (.getfield 17, 3) := by decide +kernel
theorem d_Post_remove_17 : decode prog_12_method_4_code 17 = .ok (.iload_n 1, 1) := by decide +kernel
theorem d_Post_remove_18 : decode prog_12_method_4_code 18 = .ok (.iaload, 1) := by decide +kernel
theorem d_Post_remove_19 : decode prog_12_method_4_code 19 = .ok (.istore_n 2, 1) := by decide +kernel
theorem d_Post_remove_20 : decode prog_12_method_4_code 20 = .ok (.aload_n 0, 1) := by decide +kernel
theorem d_Post_remove_21 : decode prog_12_method_4_code 21 = .ok (.dup, 1) := by decide +kernel
theorem d_Post_remove_22 : decode prog_12_method_4_code 22 = .ok (.getfield 22, 3) := by decide +kernel
theorem d_Post_remove_25 : decode prog_12_method_4_code 25 = .ok (.iconst 1, 1) := by decide +kernel
theorem d_Post_remove_26 : decode prog_12_method_4_code 26 = .ok (.isub, 1) := by decide +kernel
theorem d_Post_remove_27 : decode prog_12_method_4_code 27 = .ok (.putfield 22, 3) := by decide +kernel
theorem d_Post_remove_30 : decode prog_12_method_4_code 30 = .ok (.aload_n 0, 1) := by decide +kernel
theorem d_Post_remove_31 : decode prog_12_method_4_code 31 = .ok (.getfield 17, 3) := by decide +kernel
theorem d_Post_remove_34 : decode prog_12_method_4_code 34 = .ok (.iload_n 1, 1) := by decide +kernel
theorem d_Post_remove_35 : decode prog_12_method_4_code 35 = .ok (.iconst 1, 1) := by decide +kernel
theorem d_Post_remove_36 : decode prog_12_method_4_code 36 = .ok (.iadd, 1) := by decide +kernel
theorem d_Post_remove_37 : decode prog_12_method_4_code 37 = .ok (.aload_n 0, 1) := by decide +kernel
theorem d_Post_remove_38 : decode prog_12_method_4_code 38 = .ok (.getfield 17, 3) := by decide +kernel
theorem d_Post_remove_41 : decode prog_12_method_4_code 41 = .ok (.iload_n 1, 1) := by decide +kernel
theorem d_Post_remove_42 : decode prog_12_method_4_code 42 = .ok (.aload_n 0, 1) := by decide +kernel
theorem d_Post_remove_43 : decode prog_12_method_4_code 43 = .ok (.getfield 22, 3) := by decide +kernel
theorem d_Post_remove_46 : decode prog_12_method_4_code 46 = .ok (.iload_n 1, 1) := by decide +kernel
theorem d_Post_remove_47 : decode prog_12_method_4_code 47 = .ok (.isub, 1) := by decide +kernel
theorem d_Post_remove_48 : decode prog_12_method_4_code 48 = .ok (.invokestatic 39, 3) := by decide +kernel
theorem d_Post_remove_51 : decode prog_12_method_4_code 51 = .ok (.aload_n 0, 1) := by decide +kernel
theorem d_Post_remove_52 : decode prog_12_method_4_code 52 = .ok (.getfield 17, 3) := by decide +kernel
theorem d_Post_remove_55 : decode prog_12_method_4_code 55 = .ok (.aload_n 0, 1) := by decide +kernel
theorem d_Post_remove_56 : decode prog_12_method_4_code 56 = .ok (.getfield 22, 3) := by decide +kernel
theorem d_Post_remove_59 : decode prog_12_method_4_code 59 = .ok (.iload_n 2, 1) := by decide +kernel
theorem d_Post_remove_60 : decode prog_12_method_4_code 60 = .ok (.iastore, 1) := by decide +kernel
theorem d_Post_remove_61 : decode prog_12_method_4_code 61 = .ok (.return_, 1) := by decide +kernel
theorem d_VG_lose_0 : decode prog_1_method_4_code 0 = .ok (.aload_n 0, 1) := by decide +kernel
theorem d_VG_lose_1 : decode prog_1_method_4_code 1 = .ok (.iconst 0, 1) := by decide +kernel
theorem d_VG_lose_2 : decode prog_1_method_4_code 2 = .ok (.putfield 68, 3) := by decide +kernel
theorem d_VG_lose_5 : decode prog_1_method_4_code 5 = .ok (.aload_n 0, 1) := by decide +kernel
theorem d_VG_lose_6 : decode prog_1_method_4_code 6 = .ok (.iload_n 1, 1) := by decide +kernel
theorem d_VG_lose_7 : decode prog_1_method_4_code 7 = .ok (.invokevirtual 94, 3) := by decide +kernel
theorem d_VG_lose_10 : decode prog_1_method_4_code 10 = .ok (.return_, 1) := by decide +kernel
theorem d_VG_drop_0 : decode prog_1_method_20_code 0 = .ok (.aload_n 0, 1) := by decide +kernel
theorem d_VG_drop_1 : decode prog_1_method_20_code 1 = .ok (.getfield 24, 3) := by decide +kernel
theorem d_VG_drop_4 : decode prog_1_method_20_code 4 = .ok (.getfield 125, 3) := by decide +kernel
theorem d_VG_drop_7 : decode prog_1_method_20_code 7 = .ok (.ifCond .le 21, 3) := by decide +kernel
theorem d_VG_drop_10 : decode prog_1_method_20_code 10 = .ok (.aload_n 0, 1) := by decide +kernel
theorem d_VG_drop_11 : decode prog_1_method_20_code 11 = .ok (.getfield 24, 3) := by decide +kernel
theorem d_VG_drop_14 : decode prog_1_method_20_code 14 = .ok (.iload_n 1, 1) := by decide +kernel
theorem d_VG_drop_15 : decode prog_1_method_20_code 15 = .ok (.aload_n 0, 1) := by decide +kernel
theorem d_VG_drop_16 : decode prog_1_method_20_code 16 = .ok (.getfield 24, 3) := by decide +kernel
theorem d_VG_drop_19 : decode prog_1_method_20_code 19 = .ok (.getfield 125, 3) := by decide +kernel
theorem d_VG_drop_22 : decode prog_1_method_20_code 22 = .ok (.invokestatic 180, 3) := by decide +kernel
theorem d_VG_drop_25 : decode prog_1_method_20_code 25 = .ok (.invokevirtual 191, 3) := by decide +kernel
theorem d_VG_drop_28 : decode prog_1_method_20_code 28 = .ok (.return_, 1) := by decide +kernel
theorem d_VG_twice_0 : decode prog_1_method_5_code 0 = .ok (.aload_n 0, 1) := by decide +kernel
theorem d_VG_twice_1 : decode prog_1_method_5_code 1 = .ok (.iconst 0, 1) := by decide +kernel
theorem d_VG_twice_2 : decode prog_1_method_5_code 2 = .ok (.putfield 68, 3) := by decide +kernel
theorem d_VG_twice_5 : decode prog_1_method_5_code 5 = .ok (.aload_n 0, 1) := by decide +kernel
theorem d_VG_twice_6 : decode prog_1_method_5_code 6 = .ok (.iload_n 1, 1) := by decide +kernel
theorem d_VG_twice_7 : decode prog_1_method_5_code 7 = .ok (.iconst 2, 1) := by decide +kernel
theorem d_VG_twice_8 : decode prog_1_method_5_code 8 = .ok (.invokevirtual 91, 3) := by decide +kernel
theorem d_VG_twice_11 : decode prog_1_method_5_code 11 = .ok (.return_, 1) := by decide +kernel
theorem d_VG_stir_0 : decode prog_1_method_6_code 0 = .ok (.iload_n 1, 1) := by decide +kernel
theorem d_VG_stir_1 : decode prog_1_method_6_code 1 = .ok (.iconst 1, 1) := by decide +kernel
theorem d_VG_stir_2 : decode prog_1_method_6_code 2 = .ok (.if_icmp .lt 10, 3) := by decide +kernel
theorem d_VG_stir_5 : decode prog_1_method_6_code 5 = .ok (.iload_n 1, 1) := by decide +kernel
theorem d_VG_stir_6 : decode prog_1_method_6_code 6 = .ok (.sipush 500, 3) := by decide +kernel
theorem d_VG_stir_9 : decode prog_1_method_6_code 9 = .ok (.if_icmp .le 5, 3) := by decide +kernel
theorem d_VG_stir_12 : decode prog_1_method_6_code 12 = .ok (.iconst (-1), 1) := by decide +kernel
theorem d_VG_stir_13 : decode prog_1_method_6_code 13 = .ok (.ireturn, 1) := by decide +kernel
theorem d_VG_stir_14 : decode prog_1_method_6_code 14 = .ok (.aload_n 0, 1) := by decide +kernel
theorem d_VG_stir_15 : decode prog_1_method_6_code 15 = .ok (.iconst 0, 1) := by decide +kernel
theorem d_VG_stir_16 : decode prog_1_method_6_code 16 = .ok (.putfield 68, 3) := by decide +kernel
theorem d_VG_stir_19 : decode prog_1_method_6_code 19 = .ok (.iload_n 2, 1) := by decide +kernel
theorem d_VG_stir_20 : decode prog_1_method_6_code 20 = .ok (.istore_n 3, 1) := by decide +kernel
theorem d_VG_stir_21 : decode prog_1_method_6_code 21 = .ok (.iconst 0, 1) := by decide +kernel
theorem d_VG_stir_22 : decode prog_1_method_6_code 22 = .ok (.istore 4, 2) := by decide +kernel
theorem d_VG_stir_24 : decode prog_1_method_6_code 24 = .ok (.iload 4, 2) := by decide +kernel
theorem d_VG_stir_26 : decode prog_1_method_6_code 26 = .ok (.iload_n 1, 1) := by decide +kernel
theorem d_VG_stir_27 : decode prog_1_method_6_code 27 = .ok (.if_icmp .ge 77, 3) := by decide +kernel
theorem d_VG_stir_30 : decode prog_1_method_6_code 30 = .ok (.iload_n 3, 1) := by decide +kernel
theorem d_VG_stir_31 : decode prog_1_method_6_code 31 = .ok (.ldc 98, 2) := by decide +kernel
theorem d_VG_stir_33 : decode prog_1_method_6_code 33 = .ok (.imul, 1) := by decide +kernel
theorem d_VG_stir_34 : decode prog_1_method_6_code 34 = .ok (.sipush 12345, 3) := by decide +kernel
theorem d_VG_stir_37 : decode prog_1_method_6_code 37 = .ok (.iadd, 1) := by decide +kernel
theorem d_VG_stir_38 : decode prog_1_method_6_code 38 = .ok (.istore_n 3, 1) := by decide +kernel
theorem d_VG_stir_39 : decode prog_1_method_6_code 39 = .ok (.iload_n 3, 1) := by decide +kernel
theorem d_VG_stir_40 : decode prog_1_method_6_code 40 = .ok (.bipush 8, 2) := by decide +kernel
theorem d_VG_stir_42 : decode prog_1_method_6_code 42 = .ok (.iushr, 1) := by decide +kernel
theorem d_VG_stir_43 : decode prog_1_method_6_code 43 = .ok (.istore 5, 2) := by decide +kernel
theorem d_VG_stir_45 : decode prog_1_method_6_code 45 = .ok (.iload 5, 2) := by decide +kernel
theorem d_VG_stir_47 : decode prog_1_method_6_code 47 = .ok (.bipush 8, 2) := by decide +kernel
theorem d_VG_stir_49 : decode prog_1_method_6_code 49 = .ok (.irem, 1) := by decide +kernel
theorem d_VG_stir_50 : decode prog_1_method_6_code 50 = .ok (.istore 6, 2) := by decide +kernel
theorem d_VG_stir_52 : decode prog_1_method_6_code 52 = .ok (.iload 5, 2) := by decide +kernel
theorem d_VG_stir_54 : decode prog_1_method_6_code 54 = .ok (.bipush 8, 2) := by decide +kernel
theorem d_VG_stir_56 : decode prog_1_method_6_code 56 = .ok (.idiv, 1) := by decide +kernel
theorem d_VG_stir_57 : decode prog_1_method_6_code 57 = .ok (.istore 7, 2) := by decide +kernel
theorem d_VG_stir_59 : decode prog_1_method_6_code 59 = .ok (.iload 6, 2) := by decide +kernel
theorem d_VG_stir_61 : decode prog_1_method_6_code 61 = .ok (.iconst 5, 1) := by decide +kernel
theorem d_VG_stir_62 : decode prog_1_method_6_code 62 = .ok (.if_icmp .ge 13, 3) := by decide +kernel
theorem d_VG_stir_65 : decode prog_1_method_6_code 65 = .ok (.aload_n 0, 1) := by decide +kernel
theorem d_VG_stir_66 : decode prog_1_method_6_code 66 = .ok (.iload 7, 2) := by decide +kernel
theorem d_VG_stir_68 : decode prog_1_method_6_code 68 = .ok (.iconst 1, 1) := by decide +kernel
theorem d_VG_stir_69 : decode prog_1_method_6_code 69 = .ok (.invokevirtual 91, 3) := by decide +kernel
theorem d_VG_stir_72 : decode prog_1_method_6_code 72 = .ok (.goto 26, 3) := by decide +kernel
theorem d_VG_stir_75 : decode prog_1_method_6_code 75 = .ok (.iload 6, 2) := by decide +kernel
theorem d_VG_stir_77 : decode prog_1_method_6_code 77 = .ok (.bipush 7, 2) := by decide +kernel
theorem d_VG_stir_79 : decode prog_1_method_6_code 79 = .ok (.if_icmp .ge 12, 3) := by decide +kernel
theorem d_VG_stir_82 : decode prog_1_method_6_code 82 = .ok (.aload_n 0, 1) := by decide +kernel
theorem d_VG_stir_83 : decode prog_1_method_6_code 83 = .ok (.iload 7, 2) := by decide +kernel
theorem d_VG_stir_85 : decode prog_1_method_6_code 85 = .ok (.invokevirtual 94, 3) := by decide +kernel
theorem d_VG_stir_88 : decode prog_1_method_6_code 88 = .ok (.goto 10, 3) := by decide +kernel
theorem d_VG_stir_91 : decode prog_1_method_6_code 91 = .ok (.aload_n 0, 1) := by decide +kernel
theorem d_VG_stir_92 : decode prog_1_method_6_code 92 = .ok (.iload 7, 2) := by decide +kernel
theorem d_VG_stir_94 : decode prog_1_method_6_code 94 = .ok (.iconst 2, 1) := by decide +kernel
theorem d_VG_stir_95 : decode prog_1_method_6_code 95 = .ok (.invokevirtual 91, 3) := by decide +kernel
theorem d_VG_stir_98 : decode prog_1_method_6_code 98 = .ok (.iinc 4 1, 3) := by decide +kernel
theorem d_VG_stir_101 : decode prog_1_method_6_code 101 = .ok (.goto (-77), 3) := by decide +kernel
theorem d_VG_stir_104 : decode prog_1_method_6_code 104 = .ok (.iload_n 1, 1) := by decide +kernel
theorem d_VG_stir_105 : decode prog_1_method_6_code 105 = .ok (.ireturn, 1) := by decide +kernel
theorem d_VG_tick_0 : decode prog_1_method_7_code 0 = .ok (.iload_n 1, 1) := by decide +kernel
theorem d_VG_tick_1 : decode prog_1_method_7_code 1 = .ok (.iconst 1, 1) := by decide +kernel
theorem d_VG_tick_2 : decode prog_1_method_7_code 2 = .ok (.if_icmp .lt 9, 3) := by decide +kernel
theorem d_VG_tick_5 : decode prog_1_method_7_code 5 = .ok (.iload_n 1, 1) := by decide +kernel
theorem d_VG_tick_6 : decode prog_1_method_7_code 6 = .ok (.bipush 50, 2) := by decide +kernel
theorem d_VG_tick_8 : decode prog_1_method_7_code 8 = .ok (.if_icmp .le 5, 3) := by decide +kernel
theorem d_VG_tick_11 : decode prog_1_method_7_code 11 = .ok (.iconst (-1), 1) := by decide +kernel
theorem d_VG_tick_12 : decode prog_1_method_7_code 12 = .ok (.ireturn, 1) := by decide +kernel
theorem d_VG_tick_13 : decode prog_1_method_7_code 13 = .ok (.aload_n 0, 1) := by decide +kernel
theorem d_VG_tick_14 : decode prog_1_method_7_code 14 = .ok (.iconst 0, 1) := by decide +kernel
theorem d_VG_tick_15 : decode prog_1_method_7_code 15 = .ok (.putfield 68, 3) := by decide +kernel
theorem d_VG_tick_18 : decode prog_1_method_7_code 18 = .ok (.iconst 0, 1) := by decide +kernel
theorem d_VG_tick_19 : decode prog_1_method_7_code 19 = .ok (.istore_n 2, 1) := by decide +kernel
theorem d_VG_tick_20 : decode prog_1_method_7_code 20 = .ok (.iload_n 2, 1) := by decide +kernel
theorem d_VG_tick_21 : decode prog_1_method_7_code 21 = .ok (.iload_n 1, 1) := by decide +kernel
theorem d_VG_tick_22 : decode prog_1_method_7_code 22 = .ok (.if_icmp .ge 13, 3) := by decide +kernel
theorem d_VG_tick_25 : decode prog_1_method_7_code 25 = .ok (.aload_n 0, 1) := by decide +kernel
theorem d_VG_tick_26 : decode prog_1_method_7_code 26 = .ok (.invokevirtual 99, 3) := by decide +kernel
theorem d_VG_tick_29 : decode prog_1_method_7_code 29 = .ok (.iinc 2 1, 3) := by decide +kernel
theorem d_VG_tick_32 : decode prog_1_method_7_code 32 = .ok (.goto (-12), 3) := by decide +kernel
theorem d_VG_tick_35 : decode prog_1_method_7_code 35 = .ok (.iload_n 1, 1) := by decide +kernel
theorem d_VG_tick_36 : decode prog_1_method_7_code 36 = .ok (.ireturn, 1) := by decide +kernel
theorem d_VG_passOneTick_0 : decode prog_1_method_18_code 0 = .ok (.aload_n 0, 1) := by decide +kernel
theorem d_VG_passOneTick_1 : decode prog_1_method_18_code 1 = .ok (.getfield 35, 3) := by decide +kernel
theorem d_VG_passOneTick_4 : decode prog_1_method_18_code 4 = .ok (.invokevirtual 115, 3) := by decide +kernel
theorem d_VG_passOneTick_7 : decode prog_1_method_18_code 7 = .ok (.aload_n 0, 1) := by decide +kernel
theorem d_VG_passOneTick_8 : decode prog_1_method_18_code 8 = .ok (.getfield 44, 3) := by decide +kernel
theorem d_VG_passOneTick_11 : decode prog_1_method_18_code 11 = .ok (.aload_n 0, 1) := by decide +kernel
theorem d_VG_passOneTick_12 : decode prog_1_method_18_code 12 = .ok (.getfield 35, 3) := by decide +kernel
theorem d_VG_passOneTick_15 : decode prog_1_method_18_code 15 = .ok (.getfield 76, 3) := by decide +kernel
theorem d_VG_passOneTick_18 : decode prog_1_method_18_code 18 = .ok (.aload_n 0, 1) := by decide +kernel
theorem d_VG_passOneTick_19 : decode prog_1_method_18_code 19 = .ok (.getfield 35, 3) := by decide +kernel
theorem d_VG_passOneTick_22 : decode prog_1_method_18_code 22 = .ok (.getfield 79, 3) := by decide +kernel
theorem d_VG_passOneTick_25 : decode prog_1_method_18_code 25 = .ok (.invokevirtual 174, 3) := by decide +kernel
theorem d_VG_passOneTick_28 : decode prog_1_method_18_code 28 = .ok (.iconst 0, 1) := by decide +kernel
theorem d_VG_passOneTick_29 : decode prog_1_method_18_code 29 = .ok (.istore_n 1, 1) := by decide +kernel
theorem d_VG_passOneTick_30 : decode prog_1_method_18_code 30 = .ok (.iload_n 1, 1) := by decide +kernel
theorem d_VG_passOneTick_31 : decode prog_1_method_18_code 31 = .ok (.aload_n 0, 1) := by decide +kernel
theorem d_VG_passOneTick_32 : decode prog_1_method_18_code 32 = .ok (.getfield 54, 3) := by decide +kernel
theorem d_VG_passOneTick_35 : decode prog_1_method_18_code 35 = .ok (.arraylength, 1) := by decide +kernel
theorem d_VG_passOneTick_36 : decode prog_1_method_18_code 36 = .ok (.if_icmp .ge 18, 3) := by decide +kernel
theorem d_VG_passOneTick_39 : decode prog_1_method_18_code 39 = .ok (.aload_n 0, 1) := by decide +kernel
theorem d_VG_passOneTick_40 : decode prog_1_method_18_code 40 = .ok (.getfield 54, 3) := by decide +kernel
theorem d_VG_passOneTick_43 : decode prog_1_method_18_code 43 = .ok (.iload_n 1, 1) := by decide +kernel
theorem d_VG_passOneTick_44 : decode prog_1_method_18_code 44 = .ok (.aaload, 1) := by decide +kernel
theorem d_VG_passOneTick_45 : decode prog_1_method_18_code 45 = .ok (.invokevirtual 177, 3) := by decide +kernel
theorem d_VG_passOneTick_48 : decode prog_1_method_18_code 48 = .ok (.iinc 1 1, 3) := by decide +kernel
theorem d_VG_passOneTick_51 : decode prog_1_method_18_code 51 = .ok (.goto (-21), 3) := by decide +kernel
theorem d_VG_passOneTick_54 : decode prog_1_method_18_code 54 = .ok (.return_, 1) := by decide +kernel
theorem d_MapKeeper_proclaim_0 : decode prog_7_method_3_code 0 = .ok (.iconst 0, 1) := by decide +kernel
theorem d_MapKeeper_proclaim_1 : decode prog_7_method_3_code 1 = .ok (.istore_n 1, 1) := by decide +kernel
theorem d_MapKeeper_proclaim_2 : decode prog_7_method_3_code 2 = .ok (.iload_n 1, 1) := by decide +kernel
theorem d_MapKeeper_proclaim_3 : decode prog_7_method_3_code 3 = .ok (.aload_n 0, 1) := by decide +kernel
theorem d_MapKeeper_proclaim_4 : decode prog_7_method_3_code 4 = .ok (.getfield 15, 3) := by decide +kernel
theorem d_MapKeeper_proclaim_7 : decode prog_7_method_3_code 7 = .ok (.getfield 39, 3) := by decide +kernel
theorem d_MapKeeper_proclaim_10 : decode prog_7_method_3_code 10 = .ok (.if_icmp .ge 45, 3) := by decide +kernel
theorem d_MapKeeper_proclaim_13 : decode prog_7_method_3_code 13 = .ok (.aload_n 0, 1) := by decide +kernel
theorem d_MapKeeper_proclaim_14 : decode prog_7_method_3_code 14 = .ok (.getfield 42, 3) := by decide +kernel
theorem d_MapKeeper_proclaim_17 : decode prog_7_method_3_code 17 = .ok (.iload_n 1, 1) := by decide +kernel
theorem d_MapKeeper_proclaim_18 : decode prog_7_method_3_code 18 = .ok (.iaload, 1) := by decide +kernel
theorem d_MapKeeper_proclaim_19 : decode prog_7_method_3_code 19 = .ok (.aload_n 0, 1) := by decide +kernel
theorem d_MapKeeper_proclaim_20 : decode prog_7_method_3_code 20 = .ok (.getfield 9, 3) := by decide +kernel
theorem d_MapKeeper_proclaim_23 : decode prog_7_method_3_code 23 = .ok (.if_icmp .ge 26, 3) := by decide +kernel
theorem d_MapKeeper_proclaim_26 : decode prog_7_method_3_code 26 = .ok (.aload_n 0, 1) := by decide +kernel
theorem d_MapKeeper_proclaim_27 : decode prog_7_method_3_code 27 = .ok (.getfield 19, 3) := by decide +kernel
theorem d_MapKeeper_proclaim_30 : decode prog_7_method_3_code 30 = .ok (.getstatic 49, 3) := by decide +kernel
theorem d_MapKeeper_proclaim_33 : decode prog_7_method_3_code 33 = .ok (.iconst (-1), 1) := by decide +kernel
theorem d_MapKeeper_proclaim_34 : decode prog_7_method_3_code 34 = .ok (.iload_n 1, 1) := by decide +kernel
theorem d_MapKeeper_proclaim_35 : decode prog_7_method_3_code 35 = .ok (.aload_n 0, 1) := by decide +kernel
theorem d_MapKeeper_proclaim_36 : decode prog_7_method_3_code 36 = .ok (.getfield 9, 3) := by decide +kernel
theorem d_MapKeeper_proclaim_39 : decode prog_7_method_3_code 39 = .ok (.invokevirtual 55, 3) := by decide +kernel
theorem d_MapKeeper_proclaim_42 : decode prog_7_method_3_code 42 = .ok (.aload_n 0, 1) := by decide +kernel
theorem d_MapKeeper_proclaim_43 : decode prog_7_method_3_code 43 = .ok (.getfield 29, 3) := by decide +kernel
theorem d_MapKeeper_proclaim_46 : decode prog_7_method_3_code 46 = .ok (.putfield 61, 3) := by decide +kernel
theorem d_MapKeeper_proclaim_49 : decode prog_7_method_3_code 49 = .ok (.iinc 1 1, 3) := by decide +kernel
theorem d_MapKeeper_proclaim_52 : decode prog_7_method_3_code 52 = .ok (.goto (-50), 3) := by decide +kernel
theorem d_MapKeeper_proclaim_55 : decode prog_7_method_3_code 55 = .ok (.return_, 1) := by decide +kernel
theorem d_Desk_requestAll_0 : decode prog_5_method_6_code 0 = .ok (.aload_n 0, 1) := by decide +kernel
theorem d_Desk_requestAll_1 : decode prog_5_method_6_code 1 = .ok (.getfield 33, 3) := by decide +kernel
theorem d_Desk_requestAll_4 : decode prog_5_method_6_code 4 = .ok (.istore_n 3, 1) := by decide +kernel
theorem d_Desk_requestAll_5 : decode prog_5_method_6_code 5 = .ok (.iload_n 3, 1) := by decide +kernel
theorem d_Desk_requestAll_6 : decode prog_5_method_6_code 6 = .ok (.aload_n 0, 1) := by decide +kernel
theorem d_Desk_requestAll_7 : decode prog_5_method_6_code 7 = .ok (.getfield 29, 3) := by decide +kernel
theorem d_Desk_requestAll_10 : decode prog_5_method_6_code 10 = .ok (.if_icmp .ge 36, 3) := by decide +kernel
theorem d_Desk_requestAll_13 : decode prog_5_method_6_code 13 = .ok (.aload_n 0, 1) := by decide +kernel
theorem d_Desk_requestAll_14 : decode prog_5_method_6_code 14 = .ok (.getfield 17, 3) := by decide +kernel
theorem d_Desk_requestAll_17 : decode prog_5_method_6_code 17 = .ok (.iload_n 3, 1) := by decide +kernel
theorem d_Desk_requestAll_18 : decode prog_5_method_6_code 18 = .ok (.bipush 8, 2) := by decide +kernel
theorem d_Desk_requestAll_20 : decode prog_5_method_6_code 20 = .ok (.irem, 1) := by decide +kernel
theorem d_Desk_requestAll_21 : decode prog_5_method_6_code 21 = .ok (.baload, 1) := by decide +kernel
theorem d_Desk_requestAll_22 : decode prog_5_method_6_code 22 = .ok (.ifCond .ne 18, 3) := by decide +kernel
theorem d_Desk_requestAll_25 : decode prog_5_method_6_code 25 = .ok (.aload_n 0, 1) := by decide +kernel
theorem d_Desk_requestAll_26 : decode prog_5_method_6_code 26 = .ok (.aload_n 0, 1) := by decide +kernel
theorem d_Desk_requestAll_27 : decode prog_5_method_6_code 27 = .ok (.getfield 11, 3) := by decide +kernel
theorem d_Desk_requestAll_30 : decode prog_5_method_6_code 30 = .ok (.iload_n 3, 1) := by decide +kernel
theorem d_Desk_requestAll_31 : decode prog_5_method_6_code 31 = .ok (.bipush 8, 2) := by decide +kernel
theorem d_Desk_requestAll_33 : decode prog_5_method_6_code 33 = .ok (.irem, 1) := by decide +kernel
theorem d_Desk_requestAll_34 : decode prog_5_method_6_code 34 = .ok (.aaload, 1) := by decide +kernel
theorem d_Desk_requestAll_35 : decode prog_5_method_6_code 35 = .ok (.iload_n 1, 1) := by decide +kernel
theorem d_Desk_requestAll_36 : decode prog_5_method_6_code 36 = .ok (.iload_n 2, 1) := by decide +kernel
theorem d_Desk_requestAll_37 : decode prog_5_method_6_code 37 = .ok (.invokevirtual 61, 3) := by decide +kernel
theorem d_Desk_requestAll_40 : decode prog_5_method_6_code 40 = .ok (.iinc 3 1, 3) := by decide +kernel
theorem d_Desk_requestAll_43 : decode prog_5_method_6_code 43 = .ok (.goto (-38), 3) := by decide +kernel
theorem d_Desk_requestAll_46 : decode prog_5_method_6_code 46 = .ok (.return_, 1) := by decide +kernel
theorem d_Node_work_0 : decode prog_10_method_8_code 0 = .ok (.aload_n 0, 1) := by decide +kernel
theorem d_Node_work_1 : decode prog_10_method_8_code 1 = .ok (.getfield 21, 3) := by decide +kernel
theorem d_Node_work_4 : decode prog_10_method_8_code 4 = .ok (.ifCond .ne 4, 3) := by decide +kernel
theorem d_Node_work_7 : decode prog_10_method_8_code 7 = .ok (.return_, 1) := by decide +kernel
theorem d_Node_work_8 : decode prog_10_method_8_code 8 = .ok (.aload_n 0, 1) := by decide +kernel
theorem d_Node_work_9 : decode prog_10_method_8_code 9 = .ok (.invokevirtual 70, 3) := by decide +kernel
theorem d_Node_work_12 : decode prog_10_method_8_code 12 = .ok (.aload_n 0, 1) := by decide +kernel
theorem d_Node_work_13 : decode prog_10_method_8_code 13 = .ok (.getfield 79, 3) := by decide +kernel
theorem d_Node_work_16 : decode prog_10_method_8_code 16 = .ok (.ifCond .eq 31, 3) := by decide +kernel
theorem d_Node_work_19 : decode prog_10_method_8_code 19 = .ok (.aload_n 0, 1) := by decide +kernel
theorem d_Node_work_20 : decode prog_10_method_8_code 20 = .ok (.getfield 33, 3) := by decide +kernel
theorem d_Node_work_23 : decode prog_10_method_8_code 23 = .ok (.getstatic 195, 3) := by decide +kernel
theorem d_Node_work_26 : decode prog_10_method_8_code 26 = .ok (.aload_n 0, 1) := by decide +kernel
theorem d_Node_work_27 : decode prog_10_method_8_code 27 = .ok (.getfield 25, 3) := by decide +kernel
theorem d_Node_work_30 : decode prog_10_method_8_code 30 = .ok (.iconst (-1), 1) := by decide +kernel
theorem d_Node_work_31 : decode prog_10_method_8_code 31 = .ok (.aload_n 0, 1) := by decide +kernel
theorem d_Node_work_32 : decode prog_10_method_8_code 32 = .ok (.getfield 12, 3) := by decide +kernel
theorem d_Node_work_35 : decode prog_10_method_8_code 35 = .ok (.getfield 103, 3) := by decide +kernel
theorem d_Node_work_38 : decode prog_10_method_8_code 38 = .ok (.invokevirtual 136, 3) := by decide +kernel
theorem d_Node_work_41 : decode prog_10_method_8_code 41 = .ok (.pop, 1) := by decide +kernel
theorem d_Node_work_42 : decode prog_10_method_8_code 42 = .ok (.aload_n 0, 1) := by decide +kernel
theorem d_Node_work_43 : decode prog_10_method_8_code 43 = .ok (.iconst 0, 1) := by decide +kernel
theorem d_Node_work_44 : decode prog_10_method_8_code 44 = .ok (.putfield 79, 3) := by decide +kernel
theorem d_Node_work_47 : decode prog_10_method_8_code 47 = .ok (.aload_n 0, 1) := by decide +kernel
theorem d_Node_work_48 : decode prog_10_method_8_code 48 = .ok (.getfield 12, 3) := by decide +kernel
theorem d_Node_work_51 : decode prog_10_method_8_code 51 = .ok (.getfield 163, 3) := by decide +kernel
theorem d_Node_work_54 : decode prog_10_method_8_code 54 = .ok (.aload_n 0, 1) := by decide +kernel
theorem d_Node_work_55 : decode prog_10_method_8_code 55 = .ok (.getfield 25, 3) := by decide +kernel
theorem d_Node_work_58 : decode prog_10_method_8_code 58 = .ok (.if_icmp .ne 10, 3) := by decide +kernel
theorem d_Node_work_61 : decode prog_10_method_8_code 61 = .ok (.aload_n 0, 1) := by decide +kernel
theorem d_Node_work_62 : decode prog_10_method_8_code 62 = .ok (.invokevirtual 198, 3) := by decide +kernel
theorem d_Node_work_65 : decode prog_10_method_8_code 65 = .ok (.goto 78, 3) := by decide +kernel
theorem d_Node_work_68 : decode prog_10_method_8_code 68 = .ok (.aload_n 0, 1) := by decide +kernel
theorem d_Node_work_69 : decode prog_10_method_8_code 69 = .ok (.getfield 82, 3) := by decide +kernel
theorem d_Node_work_72 : decode prog_10_method_8_code 72 = .ok (.ifCond .eq 71, 3) := by decide +kernel
theorem d_Node_work_75 : decode prog_10_method_8_code 75 = .ok (.aload_n 0, 1) := by decide +kernel
theorem d_Node_work_76 : decode prog_10_method_8_code 76 = .ok (.getfield 12, 3) := by decide +kernel
theorem d_Node_work_79 : decode prog_10_method_8_code 79 = .ok (.getfield 163, 3) := by decide +kernel
theorem d_Node_work_82 : decode prog_10_method_8_code 82 = .ok (.iconst (-1), 1) := by decide +kernel
theorem d_Node_work_83 : decode prog_10_method_8_code 83 = .ok (.if_icmp .eq 60, 3) := by decide +kernel
theorem d_Node_work_86 : decode prog_10_method_8_code 86 = .ok (.aload_n 0, 1) := by decide +kernel
theorem d_Node_work_87 : decode prog_10_method_8_code 87 = .ok (.getfield 33, 3) := by decide +kernel
theorem d_Node_work_90 : decode prog_10_method_8_code 90 = .ok (.getstatic 201, 3) := by decide +kernel
theorem d_Node_work_93 : decode prog_10_method_8_code 93 = .ok (.aload_n 0, 1) := by decide +kernel
theorem d_Node_work_94 : decode prog_10_method_8_code 94 = .ok (.getfield 25, 3) := by decide +kernel
theorem d_Node_work_97 : decode prog_10_method_8_code 97 = .ok (.aload_n 0, 1) := by decide +kernel
theorem d_Node_work_98 : decode prog_10_method_8_code 98 = .ok (.getfield 12, 3) := by decide +kernel
theorem d_Node_work_101 : decode prog_10_method_8_code 101 = .ok (.getfield 163, 3) := by decide +kernel
theorem d_Node_work_104 : decode prog_10_method_8_code 104 = .ok (.aload_n 0, 1) := by decide +kernel
theorem d_Node_work_105 : decode prog_10_method_8_code 105 = .ok (.getfield 12, 3) := by decide +kernel
theorem d_Node_work_108 : decode prog_10_method_8_code 108 = .ok (.getfield 103, 3) := by decide +kernel
theorem d_Node_work_111 : decode prog_10_method_8_code 111 = .ok (.invokevirtual 136, 3) := by decide +kernel
theorem d_Node_work_114 : decode prog_10_method_8_code 114 = .ok (.astore_n 1, 1) := by decide +kernel
theorem d_Node_work_115 : decode prog_10_method_8_code 115 = .ok (.aload_n 1, 1) := by decide +kernel
theorem d_Node_work_116 : decode prog_10_method_8_code 116 = .ok (.aload_n 0, 1) := by decide +kernel
theorem d_Node_work_117 : decode prog_10_method_8_code 117 = .ok (.getfield 12, 3) := by decide +kernel
theorem d_Node_work_120 : decode prog_10_method_8_code 120 = .ok (.getfield 146, 3) := by decide +kernel
theorem d_Node_work_123 : decode prog_10_method_8_code 123 = .ok (.getfield 204, 3) := by decide +kernel
theorem d_Node_work_126 : decode prog_10_method_8_code 126 = .ok (.putfield 124, 3) := by decide +kernel
theorem d_Node_work_129 : decode prog_10_method_8_code 129 = .ok (.aload_n 1, 1) := by decide +kernel
theorem d_Node_work_130 : decode prog_10_method_8_code 130 = .ok (.aload_n 0, 1) := by decide +kernel
theorem d_Node_work_131 : decode prog_10_method_8_code 131 = .ok (.getfield 12, 3) := by decide +kernel
theorem d_Node_work_134 : decode prog_10_method_8_code 134 = .ok (.getfield 146, 3) := by decide +kernel
theorem d_Node_work_137 : decode prog_10_method_8_code 137 = .ok (.getfield 205, 3) := by decide +kernel
theorem d_Node_work_140 : decode prog_10_method_8_code 140 = .ok (.putfield 127, 3) := by decide +kernel
theorem d_Node_work_143 : decode prog_10_method_8_code 143 = .ok (.aload_n 0, 1) := by decide +kernel
theorem d_Node_work_144 : decode prog_10_method_8_code 144 = .ok (.iconst 0, 1) := by decide +kernel
theorem d_Node_work_145 : decode prog_10_method_8_code 145 = .ok (.putfield 82, 3) := by decide +kernel
theorem d_Node_work_148 : decode prog_10_method_8_code 148 = .ok (.return_, 1) := by decide +kernel
theorem d_Node_flush_0 : decode prog_10_method_3_code 0 = .ok (.aload_n 0, 1) := by decide +kernel
theorem d_Node_flush_1 : decode prog_10_method_3_code 1 = .ok (.getfield 76, 3) := by decide +kernel
theorem d_Node_flush_4 : decode prog_10_method_3_code 4 = .ok (.ifCond .eq 19, 3) := by decide +kernel
theorem d_Node_flush_7 : decode prog_10_method_3_code 7 = .ok (.aload_n 0, 1) := by decide +kernel
theorem d_Node_flush_8 : decode prog_10_method_3_code 8 = .ok (.getfield 18, 3) := by decide +kernel
theorem d_Node_flush_11 : decode prog_10_method_3_code 11 = .ok (.aload_n 0, 1) := by decide +kernel
theorem d_Node_flush_12 : decode prog_10_method_3_code 12 = .ok (.getfield 12, 3) := by decide +kernel
theorem d_Node_flush_15 : decode prog_10_method_3_code 15 = .ok (.invokevirtual 66, 3) := by decide +kernel
theorem d_Node_flush_18 : decode prog_10_method_3_code 18 = .ok (.aload_n 0, 1) := by decide +kernel
theorem d_Node_flush_19 : decode prog_10_method_3_code 19 = .ok (.iconst 0, 1) := by decide +kernel
theorem d_Node_flush_20 : decode prog_10_method_3_code 20 = .ok (.putfield 76, 3) := by decide +kernel
theorem d_Node_flush_23 : decode prog_10_method_3_code 23 = .ok (.return_, 1) := by decide +kernel
theorem d_Node_lead_0 : decode prog_10_method_9_code 0 = .ok (.aload_n 0, 1) := by decide +kernel
theorem d_Node_lead_1 : decode prog_10_method_9_code 1 = .ok (.getfield 47, 3) := by decide +kernel
theorem d_Node_lead_4 : decode prog_10_method_9_code 4 = .ok (.aload_n 0, 1) := by decide +kernel
theorem d_Node_lead_5 : decode prog_10_method_9_code 5 = .ok (.getfield 25, 3) := by decide +kernel
theorem d_Node_lead_8 : decode prog_10_method_9_code 8 = .ok (.aload_n 0, 1) := by decide +kernel
theorem d_Node_lead_9 : decode prog_10_method_9_code 9 = .ok (.getfield 12, 3) := by decide +kernel
theorem d_Node_lead_12 : decode prog_10_method_9_code 12 = .ok (.getfield 146, 3) := by decide +kernel
theorem d_Node_lead_15 : decode prog_10_method_9_code 15 = .ok (.getfield 204, 3) := by decide +kernel
theorem d_Node_lead_18 : decode prog_10_method_9_code 18 = .ok (.aload_n 0, 1) := by decide +kernel
theorem d_Node_lead_19 : decode prog_10_method_9_code 19 = .ok (.getfield 12, 3) := by decide +kernel
theorem d_Node_lead_22 : decode prog_10_method_9_code 22 = .ok (.getfield 146, 3) := by decide +kernel
theorem d_Node_lead_25 : decode prog_10_method_9_code 25 = .ok (.getfield 205, 3) := by decide +kernel
theorem d_Node_lead_28 : decode prog_10_method_9_code 28 = .ok (.invokevirtual 130, 3) := by decide +kernel
theorem d_Node_lead_31 : decode prog_10_method_9_code 31 = .ok (.aload_n 0, 1) := by decide +kernel
theorem d_Node_lead_32 : decode prog_10_method_9_code 32 = .ok (.getfield 47, 3) := by decide +kernel
theorem d_Node_lead_35 : decode prog_10_method_9_code 35 = .ok (.getfield 166, 3) := by decide +kernel
theorem d_Node_lead_38 : decode prog_10_method_9_code 38 = .ok (.ifCond .ne 7, 3) := by decide +kernel
theorem d_Node_lead_41 : decode prog_10_method_9_code 41 = .ok (.aload_n 0, 1) := by decide +kernel
theorem d_Node_lead_42 : decode prog_10_method_9_code 42 = .ok (.invokevirtual 206, 3) := by decide +kernel
theorem d_Node_lead_45 : decode prog_10_method_9_code 45 = .ok (.aload_n 0, 1) := by decide +kernel
theorem d_Node_lead_46 : decode prog_10_method_9_code 46 = .ok (.getfield 47, 3) := by decide +kernel
theorem d_Node_lead_49 : decode prog_10_method_9_code 49 = .ok (.getfield 166, 3) := by decide +kernel
theorem d_Node_lead_52 : decode prog_10_method_9_code 52 = .ok (.ifCond .eq 7, 3) := by decide +kernel
theorem d_Node_lead_55 : decode prog_10_method_9_code 55 = .ok (.aload_n 0, 1) := by decide +kernel
theorem d_Node_lead_56 : decode prog_10_method_9_code 56 = .ok (.invokevirtual 209, 3) := by decide +kernel
theorem d_Node_lead_59 : decode prog_10_method_9_code 59 = .ok (.iconst 0, 1) := by decide +kernel
theorem d_Node_lead_60 : decode prog_10_method_9_code 60 = .ok (.istore_n 1, 1) := by decide +kernel
theorem d_Node_lead_61 : decode prog_10_method_9_code 61 = .ok (.iload_n 1, 1) := by decide +kernel
theorem d_Node_lead_62 : decode prog_10_method_9_code 62 = .ok (.aload_n 0, 1) := by decide +kernel
theorem d_Node_lead_63 : decode prog_10_method_9_code 63 = .ok (.getfield 29, 3) := by decide +kernel
theorem d_Node_lead_66 : decode prog_10_method_9_code 66 = .ok (.getfield 39, 3) := by decide +kernel
theorem d_Node_lead_69 : decode prog_10_method_9_code 69 = .ok (.if_icmp .ge 22, 3) := by decide +kernel
theorem d_Node_lead_72 : decode prog_10_method_9_code 72 = .ok (.iload_n 1, 1) := by decide +kernel
theorem d_Node_lead_73 : decode prog_10_method_9_code 73 = .ok (.aload_n 0, 1) := by decide +kernel
theorem d_Node_lead_74 : decode prog_10_method_9_code 74 = .ok (.getfield 25, 3) := by decide +kernel
theorem d_Node_lead_77 : decode prog_10_method_9_code 77 = .ok (.if_icmp .eq 8, 3) := by decide +kernel
theorem d_Node_lead_80 : decode prog_10_method_9_code 80 = .ok (.aload_n 0, 1) := by decide +kernel
theorem d_Node_lead_81 : decode prog_10_method_9_code 81 = .ok (.iload_n 1, 1) := by decide +kernel
theorem d_Node_lead_82 : decode prog_10_method_9_code 82 = .ok (.invokevirtual 212, 3) := by decide +kernel
theorem d_Node_lead_85 : decode prog_10_method_9_code 85 = .ok (.iinc 1 1, 3) := by decide +kernel
theorem d_Node_lead_88 : decode prog_10_method_9_code 88 = .ok (.goto (-27), 3) := by decide +kernel
theorem d_Node_lead_91 : decode prog_10_method_9_code 91 = .ok (.return_, 1) := by decide +kernel
theorem d_Node_prepare_0 : decode prog_10_method_10_code 0 = .ok (.aload_n 0, 1) := by decide +kernel
theorem d_Node_prepare_1 : decode prog_10_method_10_code 1 = .ok (.getfield 47, 3) := by decide +kernel
theorem d_Node_prepare_4 : decode prog_10_method_10_code 4 = .ok (.invokevirtual 215, 3) := by decide +kernel
theorem d_Node_prepare_7 : decode prog_10_method_10_code 7 = .ok (.aload_n 0, 1) := by decide +kernel
theorem d_Node_prepare_8 : decode prog_10_method_10_code 8 = .ok (.getfield 29, 3) := by decide +kernel
theorem d_Node_prepare_11 : decode prog_10_method_10_code 11 = .ok (.invokevirtual 218, 3) := by decide +kernel
theorem d_Node_prepare_14 : decode prog_10_method_10_code 14 = .ok (.if_icmp .ge 4, 3) := by decide +kernel
theorem d_Node_prepare_17 : decode prog_10_method_10_code 17 = .ok (.return_, 1) := by decide +kernel
theorem d_Node_prepare_18 : decode prog_10_method_10_code 18 = .ok (.aload_n 0, 1) := by decide +kernel
theorem d_Node_prepare_19 : decode prog_10_method_10_code 19 = .ok (.getfield 47, 3) := by decide +kernel
theorem d_Node_prepare_22 : decode prog_10_method_10_code 22 = .ok (.aload_n 0, 1) := by decide +kernel
theorem d_Node_prepare_23 : decode prog_10_method_10_code 23 = .ok (.getfield 25, 3) := by decide +kernel
theorem d_Node_prepare_26 : decode prog_10_method_10_code 26 = .ok (.invokevirtual 221, 3) := by decide +kernel
theorem d_Node_prepare_29 : decode prog_10_method_10_code 29 = .ok (.istore_n 1, 1) := by decide +kernel
theorem d_Node_prepare_30 : decode prog_10_method_10_code 30 = .ok (.iload_n 1, 1) := by decide +kernel
theorem d_Node_prepare_31 : decode prog_10_method_10_code 31 = .ok (.aload_n 0, 1) := by decide +kernel
