theorem d_Node_prepare_32 : decode prog_10_method_10_code 32 = .ok (.getfield 25, 3) := by decide +kernel
theorem d_Node_prepare_35 : decode prog_10_method_10_code 35 = .ok (.if_icmp .ne 31, 3) := by decide +kernel
theorem d_Node_prepare_38 : decode prog_10_method_10_code 38 = .ok (.aload_n 0, 1) := by decide +kernel
theorem d_Node_prepare_39 : decode prog_10_method_10_code 39 = .ok (.getfield 47, 3) := by decide +kernel
theorem d_Node_prepare_42 : decode prog_10_method_10_code 42 = .ok (.iconst 1, 1) := by decide +kernel
theorem d_Node_prepare_43 : decode prog_10_method_10_code 43 = .ok (.putfield 166, 3) := by decide +kernel
theorem d_Node_prepare_46 : decode prog_10_method_10_code 46 = .ok (.aload_n 0, 1) := by decide +kernel
theorem d_Node_prepare_47 : decode prog_10_method_10_code 47 = .ok (.getfield 47, 3) := by decide +kernel
theorem d_Node_prepare_50 : decode prog_10_method_10_code 50 = .ok (.aload_n 0, 1) := by decide +kernel
theorem d_Node_prepare_51 : decode prog_10_method_10_code 51 = .ok (.getfield 12, 3) := by decide +kernel
theorem d_Node_prepare_54 : decode prog_10_method_10_code 54 = .ok (.getfield 146, 3) := by decide +kernel
theorem d_Node_prepare_57 : decode prog_10_method_10_code 57 = .ok (.getfield 204, 3) := by decide +kernel
theorem d_Node_prepare_60 : decode prog_10_method_10_code 60 = .ok (.putfield 224, 3) := by decide +kernel
theorem d_Node_prepare_63 : decode prog_10_method_10_code 63 = .ok (.goto 26, 3) := by decide +kernel
theorem d_Node_prepare_66 : decode prog_10_method_10_code 66 = .ok (.aload_n 0, 1) := by decide +kernel
theorem d_Node_prepare_67 : decode prog_10_method_10_code 67 = .ok (.getfield 33, 3) := by decide +kernel
theorem d_Node_prepare_70 : decode prog_10_method_10_code 70 = .ok (.getstatic 227, 3) := by decide +kernel
theorem d_Node_prepare_73 : decode prog_10_method_10_code 73 = .ok (.aload_n 0, 1) := by decide +kernel
theorem d_Node_prepare_74 : decode prog_10_method_10_code 74 = .ok (.getfield 25, 3) := by decide +kernel
theorem d_Node_prepare_77 : decode prog_10_method_10_code 77 = .ok (.iload_n 1, 1) := by decide +kernel
theorem d_Node_prepare_78 : decode prog_10_method_10_code 78 = .ok (.aload_n 0, 1) := by decide +kernel
theorem d_Node_prepare_79 : decode prog_10_method_10_code 79 = .ok (.getfield 12, 3) := by decide +kernel
theorem d_Node_prepare_82 : decode prog_10_method_10_code 82 = .ok (.getfield 103, 3) := by decide +kernel
theorem d_Node_prepare_85 : decode prog_10_method_10_code 85 = .ok (.invokevirtual 136, 3) := by decide +kernel
theorem d_Node_prepare_88 : decode prog_10_method_10_code 88 = .ok (.pop, 1) := by decide +kernel
theorem d_Node_prepare_89 : decode prog_10_method_10_code 89 = .ok (.return_, 1) := by decide +kernel
theorem d_Reports_size_0 : decode prog_13_method_4_code 0 = .ok (.iconst 0, 1) := by decide +kernel
theorem d_Reports_size_1 : decode prog_13_method_4_code 1 = .ok (.istore_n 1, 1) := by decide +kernel
theorem d_Reports_size_2 : decode prog_13_method_4_code 2 = .ok (.iconst 0, 1) := by decide +kernel
theorem d_Reports_size_3 : decode prog_13_method_4_code 3 = .ok (.istore_n 2, 1) := by decide +kernel
theorem d_Reports_size_4 : decode prog_13_method_4_code 4 = .ok (.iload_n 2, 1) := by decide +kernel
theorem d_Reports_size_5 : decode prog_13_method_4_code 5 = .ok (.aload_n 0, 1) := by decide +kernel
theorem d_Reports_size_6 : decode prog_13_method_4_code 6 = .ok (.getfield 9, 3) := by decide +kernel
theorem d_Reports_size_9 : decode prog_13_method_4_code 9 = .ok (.arraylength, 1) := by decide +kernel
theorem d_Reports_size_10 : decode prog_13_method_4_code 10 = .ok (.if_icmp .ge 21, 3) := by decide +kernel
theorem d_Reports_size_13 : decode prog_13_method_4_code 13 = .ok (.aload_n 0, 1) := by decide +kernel
theorem d_Reports_size_14 : decode prog_13_method_4_code 14 = .ok (.getfield 9, 3) := by decide +kernel
theorem d_Reports_size_17 : decode prog_13_method_4_code 17 = .ok (.iload_n 2, 1) := by decide +kernel
theorem d_Reports_size_18 : decode prog_13_method_4_code 18 = .ok (.baload, 1) := by decide +kernel
theorem d_Reports_size_19 : decode prog_13_method_4_code 19 = .ok (.ifCond .eq 6, 3) := by decide +kernel
theorem d_Reports_size_22 : decode prog_13_method_4_code 22 = .ok (.iinc 1 1, 3) := by decide +kernel
theorem d_Reports_size_25 : decode prog_13_method_4_code 25 = .ok (.iinc 2 1, 3) := by decide +kernel
theorem d_Reports_size_28 : decode prog_13_method_4_code 28 = .ok (.goto (-24), 3) := by decide +kernel
theorem d_Reports_size_31 : decode prog_13_method_4_code 31 = .ok (.iload_n 1, 1) := by decide +kernel
theorem d_Reports_size_32 : decode prog_13_method_4_code 32 = .ok (.ireturn, 1) := by decide +kernel
theorem d_Plan_quorum_0 : decode prog_11_method_3_code 0 = .ok (.aload_n 0, 1) := by decide +kernel
theorem d_Plan_quorum_1 : decode prog_11_method_3_code 1 = .ok (.getfield 9, 3) := by decide +kernel
theorem d_Plan_quorum_4 : decode prog_11_method_3_code 4 = .ok (.aload_n 0, 1) := by decide +kernel
theorem d_Plan_quorum_5 : decode prog_11_method_3_code 5 = .ok (.getfield 15, 3) := by decide +kernel
theorem d_Plan_quorum_8 : decode prog_11_method_3_code 8 = .ok (.isub, 1) := by decide +kernel
theorem d_Plan_quorum_9 : decode prog_11_method_3_code 9 = .ok (.iconst 1, 1) := by decide +kernel
theorem d_Plan_quorum_10 : decode prog_11_method_3_code 10 = .ok (.iadd, 1) := by decide +kernel
theorem d_Plan_quorum_11 : decode prog_11_method_3_code 11 = .ok (.ireturn, 1) := by decide +kernel
theorem d_Reports_furthest_0 : decode prog_13_method_5_code 0 = .ok (.iload_n 1, 1) := by decide +kernel
theorem d_Reports_furthest_1 : decode prog_13_method_5_code 1 = .ok (.istore_n 2, 1) := by decide +kernel
theorem d_Reports_furthest_2 : decode prog_13_method_5_code 2 = .ok (.iconst 0, 1) := by decide +kernel
theorem d_Reports_furthest_3 : decode prog_13_method_5_code 3 = .ok (.istore_n 3, 1) := by decide +kernel
theorem d_Reports_furthest_4 : decode prog_13_method_5_code 4 = .ok (.iload_n 3, 1) := by decide +kernel
theorem d_Reports_furthest_5 : decode prog_13_method_5_code 5 = .ok (.aload_n 0, 1) := by decide +kernel
theorem d_Reports_furthest_6 : decode prog_13_method_5_code 6 = .ok (.getfield 9, 3) := by decide +kernel
theorem d_Reports_furthest_9 : decode prog_13_method_5_code 9 = .ok (.arraylength, 1) := by decide +kernel
theorem d_Reports_furthest_10 : decode prog_13_method_5_code 10 = .ok (.if_icmp .ge 35, 3) := by decide +kernel
theorem d_Reports_furthest_13 : decode prog_13_method_5_code 13 = .ok (.aload_n 0, 1) := by decide +kernel
theorem d_Reports_furthest_14 : decode prog_13_method_5_code 14 = .ok (.getfield 9, 3) := by decide +kernel
theorem d_Reports_furthest_17 : decode prog_13_method_5_code 17 = .ok (.iload_n 3, 1) := by decide +kernel
theorem d_Reports_furthest_18 : decode prog_13_method_5_code 18 = .ok (.baload, 1) := by decide +kernel
theorem d_Reports_furthest_19 : decode prog_13_method_5_code 19 = .ok (.ifCond .eq 20, 3) := by decide +kernel
theorem d_Reports_furthest_22 : decode prog_13_method_5_code 22 = .ok (.aload_n 0, 1) := by decide +kernel
theorem d_Reports_furthest_23 : decode prog_13_method_5_code 23 = .ok (.getfield 15, 3) := by decide +kernel
theorem d_Reports_furthest_26 : decode prog_13_method_5_code 26 = .ok (.iload_n 3, 1) := by decide +kernel
theorem d_Reports_furthest_27 : decode prog_13_method_5_code 27 = .ok (.iaload, 1) := by decide +kernel
theorem d_Reports_furthest_28 : decode prog_13_method_5_code 28 = .ok (.aload_n 0, 1) := by decide +kernel
theorem d_Reports_furthest_29 : decode prog_13_method_5_code 29 = .ok (.getfield 15, 3) := by decide +kernel
theorem d_Reports_furthest_32 : decode prog_13_method_5_code 32 = .ok (.iload_n 2, 1) := by decide +kernel
theorem d_Reports_furthest_33 : decode prog_13_method_5_code 33 = .ok (.iaload, 1) := by decide +kernel
theorem d_Reports_furthest_34 : decode prog_13_method_5_code 34 = .ok (.if_icmp .le 5, 3) := by decide +kernel
theorem d_Reports_furthest_37 : decode prog_13_method_5_code 37 = .ok (.iload_n 3, 1) := by decide +kernel
theorem d_Reports_furthest_38 : decode prog_13_method_5_code 38 = .ok (.istore_n 2, 1) := by decide +kernel
theorem d_Reports_furthest_39 : decode prog_13_method_5_code 39 = .ok (.iinc 3 1, 3) := by decide +kernel
theorem d_Reports_furthest_42 : decode prog_13_method_5_code 42 = .ok (.goto (-38), 3) := by decide +kernel
theorem d_Reports_furthest_45 : decode prog_13_method_5_code 45 = .ok (.iload_n 2, 1) := by decide +kernel
theorem d_Reports_furthest_46 : decode prog_13_method_5_code 46 = .ok (.ireturn, 1) := by decide +kernel
theorem d_Node_doWhatIsAgreed_0 : decode prog_10_method_11_code 0 = .ok (.aload_n 0, 1) := by decide +kernel
theorem d_Node_doWhatIsAgreed_1 : decode prog_10_method_11_code 1 = .ok (.getfield 12, 3) := by decide +kernel
theorem d_Node_doWhatIsAgreed_4 : decode prog_10_method_11_code 4 = .ok (.getfield 146, 3) := by decide +kernel
theorem d_Node_doWhatIsAgreed_7 : decode prog_10_method_11_code 7 = .ok (.getfield 205, 3) := by decide +kernel
theorem d_Node_doWhatIsAgreed_10 : decode prog_10_method_11_code 10 = .ok (.istore_n 1, 1) := by decide +kernel
theorem d_Node_doWhatIsAgreed_11 : decode prog_10_method_11_code 11 = .ok (.aload_n 0, 1) := by decide +kernel
theorem d_Node_doWhatIsAgreed_12 : decode prog_10_method_11_code 12 = .ok (.dup, 1) := by decide +kernel
theorem d_Node_doWhatIsAgreed_13 : decode prog_10_method_11_code 13 = .ok (.getfield 76, 3) := by decide +kernel
theorem d_Node_doWhatIsAgreed_16 : decode prog_10_method_11_code 16 = .ok (.aload_n 0, 1) := by decide +kernel
theorem d_Node_doWhatIsAgreed_17 : decode prog_10_method_11_code 17 = .ok (.getfield 12, 3) := by decide +kernel
theorem d_Node_doWhatIsAgreed_20 : decode prog_10_method_11_code 20 = .ok (.getfield 146, 3) := by decide +kernel
theorem d_Node_doWhatIsAgreed_23 : decode prog_10_method_11_code 23 = .ok (.aload_n 0, 1) := by decide +kernel
theorem d_Node_doWhatIsAgreed_24 : decode prog_10_method_11_code 24 = .ok (.getfield 47, 3) := by decide +kernel
theorem d_Node_doWhatIsAgreed_27 : decode prog_10_method_11_code 27 = .ok (.aload_n 0, 1) := by decide +kernel
theorem d_Node_doWhatIsAgreed_28 : decode prog_10_method_11_code 28 = .ok (.getfield 12, 3) := by decide +kernel
theorem d_Node_doWhatIsAgreed_31 : decode prog_10_method_11_code 31 = .ok (.getfield 230, 3) := by decide +kernel
theorem d_Node_doWhatIsAgreed_34 : decode prog_10_method_11_code 34 = .ok (.invokevirtual 232, 3) := by decide +kernel
theorem d_Node_doWhatIsAgreed_37 : decode prog_10_method_11_code 37 = .ok (.invokevirtual 235, 3) := by decide +kernel
theorem d_Node_doWhatIsAgreed_40 : decode prog_10_method_11_code 40 = .ok (.ior, 1) := by decide +kernel
theorem d_Node_doWhatIsAgreed_41 : decode prog_10_method_11_code 41 = .ok (.putfield 76, 3) := by decide +kernel
theorem d_Node_doWhatIsAgreed_44 : decode prog_10_method_11_code 44 = .ok (.iload_n 1, 1) := by decide +kernel
theorem d_Node_doWhatIsAgreed_45 : decode prog_10_method_11_code 45 = .ok (.istore_n 2, 1) := by decide +kernel
theorem d_Node_doWhatIsAgreed_46 : decode prog_10_method_11_code 46 = .ok (.iload_n 2, 1) := by decide +kernel
theorem d_Node_doWhatIsAgreed_47 : decode prog_10_method_11_code 47 = .ok (.aload_n 0, 1) := by decide +kernel
theorem d_Node_doWhatIsAgreed_48 : decode prog_10_method_11_code 48 = .ok (.getfield 12, 3) := by decide +kernel
theorem d_Node_doWhatIsAgreed_51 : decode prog_10_method_11_code 51 = .ok (.getfield 146, 3) := by decide +kernel
theorem d_Node_doWhatIsAgreed_54 : decode prog_10_method_11_code 54 = .ok (.getfield 205, 3) := by decide +kernel
theorem d_Node_doWhatIsAgreed_57 : decode prog_10_method_11_code 57 = .ok (.if_icmp .ge 14, 3) := by decide +kernel
theorem d_Node_doWhatIsAgreed_60 : decode prog_10_method_11_code 60 = .ok (.aload_n 0, 1) := by decide +kernel
theorem d_Node_doWhatIsAgreed_61 : decode prog_10_method_11_code 61 = .ok (.iload_n 2, 1) := by decide +kernel
theorem d_Node_doWhatIsAgreed_62 : decode prog_10_method_11_code 62 = .ok (.invokevirtual 178, 3) := by decide +kernel
theorem d_Node_doWhatIsAgreed_65 : decode prog_10_method_11_code 65 = .ok (.iinc 2 1, 3) := by decide +kernel
theorem d_Node_doWhatIsAgreed_68 : decode prog_10_method_11_code 68 = .ok (.goto (-22), 3) := by decide +kernel
theorem d_Node_doWhatIsAgreed_71 : decode prog_10_method_11_code 71 = .ok (.return_, 1) := by decide +kernel
theorem d_Reports_agreed_0 : decode prog_13_method_6_code 0 = .ok (.sipush 512, 3) := by decide +kernel
theorem d_Reports_agreed_3 : decode prog_13_method_6_code 3 = .ok (.istore_n 2, 1) := by decide +kernel
theorem d_Reports_agreed_4 : decode prog_13_method_6_code 4 = .ok (.iconst 0, 1) := by decide +kernel
theorem d_Reports_agreed_5 : decode prog_13_method_6_code 5 = .ok (.istore_n 3, 1) := by decide +kernel
theorem d_Reports_agreed_6 : decode prog_13_method_6_code 6 = .ok (.iload_n 3, 1) := by decide +kernel
theorem d_Reports_agreed_7 : decode prog_13_method_6_code 7 = .ok (.aload_n 0, 1) := by decide +kernel
theorem d_Reports_agreed_8 : decode prog_13_method_6_code 8 = .ok (.getfield 9, 3) := by decide +kernel
theorem d_Reports_agreed_11 : decode prog_13_method_6_code 11 = .ok (.arraylength, 1) := by decide +kernel
theorem d_Reports_agreed_12 : decode prog_13_method_6_code 12 = .ok (.if_icmp .ge 41, 3) := by decide +kernel
theorem d_Reports_agreed_15 : decode prog_13_method_6_code 15 = .ok (.iload_n 1, 1) := by decide +kernel
theorem d_Reports_agreed_16 : decode prog_13_method_6_code 16 = .ok (.iload_n 3, 1) := by decide +kernel
theorem d_Reports_agreed_17 : decode prog_13_method_6_code 17 = .ok (.iushr, 1) := by decide +kernel
theorem d_Reports_agreed_18 : decode prog_13_method_6_code 18 = .ok (.iconst 1, 1) := by decide +kernel
theorem d_Reports_agreed_19 : decode prog_13_method_6_code 19 = .ok (.iand, 1) := by decide +kernel
theorem d_Reports_agreed_20 : decode prog_13_method_6_code 20 = .ok (.ifCond .eq 27, 3) := by decide +kernel
theorem d_Reports_agreed_23 : decode prog_13_method_6_code 23 = .ok (.iload_n 2, 1) := by decide +kernel
theorem d_Reports_agreed_24 : decode prog_13_method_6_code 24 = .ok (.aload_n 0, 1) := by decide +kernel
theorem d_Reports_agreed_25 : decode prog_13_method_6_code 25 = .ok (.getfield 9, 3) := by decide +kernel
theorem d_Reports_agreed_28 : decode prog_13_method_6_code 28 = .ok (.iload_n 3, 1) := by decide +kernel
theorem d_Reports_agreed_29 : decode prog_13_method_6_code 29 = .ok (.baload, 1) := by decide +kernel
theorem d_Reports_agreed_30 : decode prog_13_method_6_code 30 = .ok (.ifCond .eq 12, 3) := by decide +kernel
theorem d_Reports_agreed_33 : decode prog_13_method_6_code 33 = .ok (.aload_n 0, 1) := by decide +kernel
theorem d_Reports_agreed_34 : decode prog_13_method_6_code 34 = .ok (.getfield 15, 3) := by decide +kernel
theorem d_Reports_agreed_37 : decode prog_13_method_6_code 37 = .ok (.iload_n 3, 1) := by decide +kernel
theorem d_Reports_agreed_38 : decode prog_13_method_6_code 38 = .ok (.iaload, 1) := by decide +kernel
theorem d_Reports_agreed_39 : decode prog_13_method_6_code 39 = .ok (.goto 4, 3) := by decide +kernel
theorem d_Reports_agreed_42 : decode prog_13_method_6_code 42 = .ok (.iconst 0, 1) := by decide +kernel
theorem d_Reports_agreed_43 : decode prog_13_method_6_code 43 = .ok (.invokestatic 30, 3) := by decide +kernel
theorem d_Reports_agreed_46 : decode prog_13_method_6_code 46 = .ok (.istore_n 2, 1) := by decide +kernel
theorem d_Reports_agreed_47 : decode prog_13_method_6_code 47 = .ok (.iinc 3 1, 3) := by decide +kernel
theorem d_Reports_agreed_50 : decode prog_13_method_6_code 50 = .ok (.goto (-44), 3) := by decide +kernel
theorem d_Reports_agreed_53 : decode prog_13_method_6_code 53 = .ok (.iload_n 2, 1) := by decide +kernel
theorem d_Reports_agreed_54 : decode prog_13_method_6_code 54 = .ok (.ireturn, 1) := by decide +kernel
theorem d_Node_guide_0 : decode prog_10_method_12_code 0 = .ok (.aload_n 0, 1) := by decide +kernel
theorem d_Node_guide_1 : decode prog_10_method_12_code 1 = .ok (.getfield 47, 3) := by decide +kernel
theorem d_Node_guide_4 : decode prog_10_method_12_code 4 = .ok (.getfield 238, 3) := by decide +kernel
theorem d_Node_guide_7 : decode prog_10_method_12_code 7 = .ok (.iload_n 1, 1) := by decide +kernel
theorem d_Node_guide_8 : decode prog_10_method_12_code 8 = .ok (.baload, 1) := by decide +kernel
theorem d_Node_guide_9 : decode prog_10_method_12_code 9 = .ok (.ifCond .ne 29, 3) := by decide +kernel
theorem d_Node_guide_12 : decode prog_10_method_12_code 12 = .ok (.aload_n 0, 1) := by decide +kernel
theorem d_Node_guide_13 : decode prog_10_method_12_code 13 = .ok (.getfield 33, 3) := by decide +kernel
theorem d_Node_guide_16 : decode prog_10_method_12_code 16 = .ok (.getstatic 242, 3) := by decide +kernel
theorem d_Node_guide_19 : decode prog_10_method_12_code 19 = .ok (.aload_n 0, 1) := by decide +kernel
theorem d_Node_guide_20 : decode prog_10_method_12_code 20 = .ok (.getfield 25, 3) := by decide +kernel
theorem d_Node_guide_23 : decode prog_10_method_12_code 23 = .ok (.iload_n 1, 1) := by decide +kernel
theorem d_Node_guide_24 : decode prog_10_method_12_code 24 = .ok (.aload_n 0, 1) := by decide +kernel
theorem d_Node_guide_25 : decode prog_10_method_12_code 25 = .ok (.getfield 12, 3) := by decide +kernel
theorem d_Node_guide_28 : decode prog_10_method_12_code 28 = .ok (.getfield 103, 3) := by decide +kernel
theorem d_Node_guide_31 : decode prog_10_method_12_code 31 = .ok (.invokevirtual 136, 3) := by decide +kernel
theorem d_Node_guide_34 : decode prog_10_method_12_code 34 = .ok (.pop, 1) := by decide +kernel
theorem d_Node_guide_35 : decode prog_10_method_12_code 35 = .ok (.goto 145, 3) := by decide +kernel
theorem d_Node_guide_38 : decode prog_10_method_12_code 38 = .ok (.aload_n 0, 1) := by decide +kernel
theorem d_Node_guide_39 : decode prog_10_method_12_code 39 = .ok (.getfield 47, 3) := by decide +kernel
theorem d_Node_guide_42 : decode prog_10_method_12_code 42 = .ok (.getfield 166, 3) := by decide +kernel
theorem d_Node_guide_45 : decode prog_10_method_12_code 45 = .ok (.ifCond .eq 66, 3) := by decide +kernel
theorem d_Node_guide_48 : decode prog_10_method_12_code 48 = .ok (.aload_n 0, 1) := by decide +kernel
theorem d_Node_guide_49 : decode prog_10_method_12_code 49 = .ok (.getfield 12, 3) := by decide +kernel
theorem d_Node_guide_52 : decode prog_10_method_12_code 52 = .ok (.iload_n 1, 1) := by decide +kernel
theorem d_Node_guide_53 : decode prog_10_method_12_code 53 = .ok (.invokevirtual 245, 3) := by decide +kernel
theorem d_Node_guide_56 : decode prog_10_method_12_code 56 = .ok (.ifCond .eq 55, 3) := by decide +kernel
theorem d_Node_guide_59 : decode prog_10_method_12_code 59 = .ok (.aload_n 0, 1) := by decide +kernel
theorem d_Node_guide_60 : decode prog_10_method_12_code 60 = .ok (.getfield 47, 3) := by decide +kernel
theorem d_Node_guide_63 : decode prog_10_method_12_code 63 = .ok (.getfield 248, 3) := by decide +kernel
theorem d_Node_guide_66 : decode prog_10_method_12_code 66 = .ok (.iload_n 1, 1) := by decide +kernel
theorem d_Node_guide_67 : decode prog_10_method_12_code 67 = .ok (.iaload, 1) := by decide +kernel
theorem d_Node_guide_68 : decode prog_10_method_12_code 68 = .ok (.aload_n 0, 1) := by decide +kernel
theorem d_Node_guide_69 : decode prog_10_method_12_code 69 = .ok (.getfield 12, 3) := by decide +kernel
theorem d_Node_guide_72 : decode prog_10_method_12_code 72 = .ok (.getfield 146, 3) := by decide +kernel
theorem d_Node_guide_75 : decode prog_10_method_12_code 75 = .ok (.getfield 204, 3) := by decide +kernel
theorem d_Node_guide_78 : decode prog_10_method_12_code 78 = .ok (.if_icmp .lt 25, 3) := by decide +kernel
theorem d_Node_guide_81 : decode prog_10_method_12_code 81 = .ok (.aload_n 0, 1) := by decide +kernel
theorem d_Node_guide_82 : decode prog_10_method_12_code 82 = .ok (.getfield 47, 3) := by decide +kernel
theorem d_Node_guide_85 : decode prog_10_method_12_code 85 = .ok (.getfield 251, 3) := by decide +kernel
theorem d_Node_guide_88 : decode prog_10_method_12_code 88 = .ok (.iload_n 1, 1) := by decide +kernel
theorem d_Node_guide_89 : decode prog_10_method_12_code 89 = .ok (.iaload, 1) := by decide +kernel
theorem d_Node_guide_90 : decode prog_10_method_12_code 90 = .ok (.aload_n 0, 1) := by decide +kernel
theorem d_Node_guide_91 : decode prog_10_method_12_code 91 = .ok (.getfield 12, 3) := by decide +kernel
theorem d_Node_guide_94 : decode prog_10_method_12_code 94 = .ok (.getfield 146, 3) := by decide +kernel
theorem d_Node_guide_97 : decode prog_10_method_12_code 97 = .ok (.getfield 205, 3) := by decide +kernel
theorem d_Node_guide_100 : decode prog_10_method_12_code 100 = .ok (.if_icmp .ge 80, 3) := by decide +kernel
theorem d_Node_guide_103 : decode prog_10_method_12_code 103 = .ok (.aload_n 0, 1) := by decide +kernel
theorem d_Node_guide_104 : decode prog_10_method_12_code 104 = .ok (.iload_n 1, 1) := by decide +kernel
theorem d_Node_guide_105 : decode prog_10_method_12_code 105 = .ok (.invokevirtual 254, 3) := by decide +kernel
theorem d_Node_guide_108 : decode prog_10_method_12_code 108 = .ok (.goto 72, 3) := by decide +kernel
theorem d_Node_guide_111 : decode prog_10_method_12_code 111 = .ok (.aload_n 0, 1) := by decide +kernel
theorem d_Node_guide_112 : decode prog_10_method_12_code 112 = .ok (.getfield 47, 3) := by decide +kernel
theorem d_Node_guide_115 : decode prog_10_method_12_code 115 = .ok (.getfield 166, 3) := by decide +kernel
theorem d_Node_guide_118 : decode prog_10_method_12_code 118 = .ok (.ifCond .eq 62, 3) := by decide +kernel
theorem d_Node_guide_121 : decode prog_10_method_12_code 121 = .ok (.aload_n 0, 1) := by decide +kernel
theorem d_Node_guide_122 : decode prog_10_method_12_code 122 = .ok (.getfield 47, 3) := by decide +kernel
theorem d_Node_guide_125 : decode prog_10_method_12_code 125 = .ok (.getfield 248, 3) := by decide +kernel
theorem d_Node_guide_128 : decode prog_10_method_12_code 128 = .ok (.iload_n 1, 1) := by decide +kernel
theorem d_Node_guide_129 : decode prog_10_method_12_code 129 = .ok (.iaload, 1) := by decide +kernel
theorem d_Node_guide_130 : decode prog_10_method_12_code 130 = .ok (.ifCond .le 50, 3) := by decide +kernel
theorem d_Node_guide_133 : decode prog_10_method_12_code 133 = .ok (.aload_n 0, 1) := by decide +kernel
theorem d_Node_guide_134 : decode prog_10_method_12_code 134 = .ok (.getfield 47, 3) := by decide +kernel
theorem d_Node_guide_137 : decode prog_10_method_12_code 137 = .ok (.aload_n 0, 1) := by decide +kernel
theorem d_Node_guide_138 : decode prog_10_method_12_code 138 = .ok (.getfield 12, 3) := by decide +kernel
theorem d_Node_guide_141 : decode prog_10_method_12_code 141 = .ok (.getfield 230, 3) := by decide +kernel
theorem d_Node_guide_144 : decode prog_10_method_12_code 144 = .ok (.invokevirtual 232, 3) := by decide +kernel
theorem d_Node_guide_147 : decode prog_10_method_12_code 147 = .ok (.aload_n 0, 1) := by decide +kernel
theorem d_Node_guide_148 : decode prog_10_method_12_code 148 = .ok (.getfield 47, 3) := by decide +kernel
theorem d_Node_guide_151 : decode prog_10_method_12_code 151 = .ok (.getfield 224, 3) := by decide +kernel
theorem d_Node_guide_154 : decode prog_10_method_12_code 154 = .ok (.if_icmp .lt 26, 3) := by decide +kernel
theorem d_Node_guide_157 : decode prog_10_method_12_code 157 = .ok (.aload_n 0, 1) := by decide +kernel
theorem d_Node_guide_158 : decode prog_10_method_12_code 158 = .ok (.getfield 33, 3) := by decide +kernel
theorem d_Node_guide_161 : decode prog_10_method_12_code 161 = .ok (.getstatic 257, 3) := by decide +kernel
theorem d_Node_guide_164 : decode prog_10_method_12_code 164 = .ok (.aload_n 0, 1) := by decide +kernel
theorem d_Node_guide_165 : decode prog_10_method_12_code 165 = .ok (.getfield 25, 3) := by decide +kernel
theorem d_Node_guide_168 : decode prog_10_method_12_code 168 = .ok (.iload_n 1, 1) := by decide +kernel
theorem d_Node_guide_169 : decode prog_10_method_12_code 169 = .ok (.aload_n 0, 1) := by decide +kernel
theorem d_Node_guide_170 : decode prog_10_method_12_code 170 = .ok (.getfield 12, 3) := by decide +kernel
theorem d_Node_guide_173 : decode prog_10_method_12_code 173 = .ok (.getfield 103, 3) := by decide +kernel
theorem d_Node_guide_176 : decode prog_10_method_12_code 176 = .ok (.invokevirtual 136, 3) := by decide +kernel
theorem d_Node_guide_179 : decode prog_10_method_12_code 179 = .ok (.pop, 1) := by decide +kernel
theorem d_Node_guide_180 : decode prog_10_method_12_code 180 = .ok (.return_, 1) := by decide +kernel
theorem d_Memory_keeps_0 : decode prog_8_method_3_code 0 = .ok (.aload_n 0, 1) := by decide +kernel
theorem d_Memory_keeps_1 : decode prog_8_method_3_code 1 = .ok (.getfield 20, 3) := by decide +kernel
theorem d_Memory_keeps_4 : decode prog_8_method_3_code 4 = .ok (.iload_n 1, 1) := by decide +kernel
theorem d_Memory_keeps_5 : decode prog_8_method_3_code 5 = .ok (.iushr, 1) := by decide +kernel
theorem d_Memory_keeps_6 : decode prog_8_method_3_code 6 = .ok (.iconst 1, 1) := by decide +kernel
theorem d_Memory_keeps_7 : decode prog_8_method_3_code 7 = .ok (.iand, 1) := by decide +kernel
theorem d_Memory_keeps_8 : decode prog_8_method_3_code 8 = .ok (.ifCond .eq 7, 3) := by decide +kernel
theorem d_Memory_keeps_11 : decode prog_8_method_3_code 11 = .ok (.iconst 1, 1) := by decide +kernel
theorem d_Memory_keeps_12 : decode prog_8_method_3_code 12 = .ok (.goto 4, 3) := by decide +kernel
theorem d_Memory_keeps_15 : decode prog_8_method_3_code 15 = .ok (.iconst 0, 1) := by decide +kernel
theorem d_Memory_keeps_16 : decode prog_8_method_3_code 16 = .ok (.ireturn, 1) := by decide +kernel
theorem d_Node_sendCopy_0 : decode prog_10_method_13_code 0 = .ok (.aload_n 0, 1) := by decide +kernel
theorem d_Node_sendCopy_1 : decode prog_10_method_13_code 1 = .ok (.getfield 12, 3) := by decide +kernel
theorem d_Node_sendCopy_4 : decode prog_10_method_13_code 4 = .ok (.getfield 146, 3) := by decide +kernel
theorem d_Node_sendCopy_7 : decode prog_10_method_13_code 7 = .ok (.aload_n 0, 1) := by decide +kernel
theorem d_Node_sendCopy_8 : decode prog_10_method_13_code 8 = .ok (.getfield 47, 3) := by decide +kernel
theorem d_Node_sendCopy_11 : decode prog_10_method_13_code 11 = .ok (.getfield 248, 3) := by decide +kernel
theorem d_Node_sendCopy_14 : decode prog_10_method_13_code 14 = .ok (.iload_n 1, 1) := by decide +kernel
theorem d_Node_sendCopy_15 : decode prog_10_method_13_code 15 = .ok (.iaload, 1) := by decide +kernel
theorem d_Node_sendCopy_16 : decode prog_10_method_13_code 16 = .ok (.invokevirtual 260, 3) := by decide +kernel
theorem d_Node_sendCopy_19 : decode prog_10_method_13_code 19 = .ok (.ifCond .ne 7, 3) := by decide +kernel
theorem d_Node_sendCopy_22 : decode prog_10_method_13_code 22 = .ok (.iconst 1, 1) := by decide +kernel
theorem d_Node_sendCopy_23 : decode prog_10_method_13_code 23 = .ok (.goto 4, 3) := by decide +kernel
theorem d_Node_sendCopy_26 : decode prog_10_method_13_code 26 = .ok (.iconst 0, 1) := by decide +kernel
theorem d_Node_sendCopy_27 : decode prog_10_method_13_code 27 = .ok (.istore_n 2, 1) := by decide +kernel
theorem d_Node_sendCopy_28 : decode prog_10_method_13_code 28 = .ok (.iload_n 2, 1) := by decide +kernel
theorem d_Node_sendCopy_29 : decode prog_10_method_13_code 29 = .ok (.ifCond .eq 9, 3) := by decide +kernel
theorem d_Node_sendCopy_32 : decode prog_10_method_13_code 32 = .ok (.getstatic 133, 3) := by decide +kernel
theorem d_Node_sendCopy_35 : decode prog_10_method_13_code 35 = .ok (.goto 6, 3) := by decide +kernel
theorem d_Node_sendCopy_38 : decode prog_10_method_13_code 38 = .ok (.getstatic 263, 3) := by decide +kernel
theorem d_Node_sendCopy_41 : decode prog_10_method_13_code 41 = .ok (.astore_n 3, 1) := by decide +kernel
theorem d_Node_sendCopy_42 : decode prog_10_method_13_code 42 = .ok (.aload_n 0, 1) := by decide +kernel
theorem d_Node_sendCopy_43 : decode prog_10_method_13_code 43 = .ok (.getfield 33, 3) := by decide +kernel
theorem d_Node_sendCopy_46 : decode prog_10_method_13_code 46 = .ok (.aload_n 3, 1) := by decide +kernel
theorem d_Node_sendCopy_47 : decode prog_10_method_13_code 47 = .ok (.aload_n 0, 1) := by decide +kernel
theorem d_Node_sendCopy_48 : decode prog_10_method_13_code 48 = .ok (.getfield 25, 3) := by decide +kernel
theorem d_Node_sendCopy_51 : decode prog_10_method_13_code 51 = .ok (.iload_n 1, 1) := by decide +kernel
theorem d_Node_sendCopy_52 : decode prog_10_method_13_code 52 = .ok (.aload_n 0, 1) := by decide +kernel
theorem d_Node_sendCopy_53 : decode prog_10_method_13_code 53 = .ok (.getfield 12, 3) := by decide +kernel
theorem d_Node_sendCopy_56 : decode prog_10_method_13_code 56 = .ok (.getfield 103, 3) := by decide +kernel
theorem d_Node_sendCopy_59 : decode prog_10_method_13_code 59 = .ok (.invokevirtual 136, 3) := by decide +kernel
theorem d_Node_sendCopy_62 : decode prog_10_method_13_code 62 = .ok (.getfield 142, 3) := by decide +kernel
theorem d_Node_sendCopy_65 : decode prog_10_method_13_code 65 = .ok (.aload_n 0, 1) := by decide +kernel
theorem d_Node_sendCopy_66 : decode prog_10_method_13_code 66 = .ok (.getfield 12, 3) := by decide +kernel
theorem d_Node_sendCopy_69 : decode prog_10_method_13_code 69 = .ok (.getfield 146, 3) := by decide +kernel
theorem d_Node_sendCopy_72 : decode prog_10_method_13_code 72 = .ok (.iload_n 2, 1) := by decide +kernel
theorem d_Node_sendCopy_73 : decode prog_10_method_13_code 73 = .ok (.invokevirtual 147, 3) := by decide +kernel
theorem d_Node_sendCopy_76 : decode prog_10_method_13_code 76 = .ok (.return_, 1) := by decide +kernel
theorem d_VG_crash_0 : decode prog_1_method_8_code 0 = .ok (.aload_n 0, 1) := by decide +kernel
theorem d_VG_crash_1 : decode prog_1_method_8_code 1 = .ok (.iload_n 1, 1) := by decide +kernel
theorem d_VG_crash_2 : decode prog_1_method_8_code 2 = .ok (.invokevirtual 102, 3) := by decide +kernel
theorem d_VG_crash_5 : decode prog_1_method_8_code 5 = .ok (.ifCond .eq 15, 3) := by decide +kernel
theorem d_VG_crash_8 : decode prog_1_method_8_code 8 = .ok (.aload_n 0, 1) := by decide +kernel
theorem d_VG_crash_9 : decode prog_1_method_8_code 9 = .ok (.getfield 54, 3) := by decide +kernel
theorem d_VG_crash_12 : decode prog_1_method_8_code 12 = .ok (.iload_n 1, 1) := by decide +kernel
theorem d_VG_crash_13 : decode prog_1_method_8_code 13 = .ok (.aaload, 1) := by decide +kernel
theorem d_VG_crash_14 : decode prog_1_method_8_code 14 = .ok (.getfield 105, 3) := by decide +kernel
theorem d_VG_crash_17 : decode prog_1_method_8_code 17 = .ok (.ifCond .ne 5, 3) := by decide +kernel
theorem d_VG_crash_20 : decode prog_1_method_8_code 20 = .ok (.iconst 0, 1) := by decide +kernel
theorem d_VG_crash_21 : decode prog_1_method_8_code 21 = .ok (.ireturn, 1) := by decide +kernel
theorem d_VG_crash_22 : decode prog_1_method_8_code 22 = .ok (.aload_n 0, 1) := by decide +kernel
theorem d_VG_crash_23 : decode prog_1_method_8_code 23 = .ok (.iconst 0, 1) := by decide +kernel
theorem d_VG_crash_24 : decode prog_1_method_8_code 24 = .ok (.putfield 68, 3) := by decide +kernel
theorem d_VG_crash_27 : decode prog_1_method_8_code 27 = .ok (.aload_n 0, 1) := by decide +kernel
theorem d_VG_crash_28 : decode prog_1_method_8_code 28 = .ok (.getfield 54, 3) := by decide +kernel
theorem d_VG_crash_31 : decode prog_1_method_8_code 31 = .ok (.iload_n 1, 1) := by decide +kernel
theorem d_VG_crash_32 : decode prog_1_method_8_code 32 = .ok (.aaload, 1) := by decide +kernel
theorem d_VG_crash_33 : decode prog_1_method_8_code 33 = .ok (.iload_n 2, 1) := by decide +kernel
theorem d_VG_crash_34 : decode prog_1_method_8_code 34 = .ok (.invokevirtual 108, 3) := by decide +kernel
theorem d_VG_crash_37 : decode prog_1_method_8_code 37 = .ok (.iconst 1, 1) := by decide +kernel
theorem d_VG_crash_38 : decode prog_1_method_8_code 38 = .ok (.ireturn, 1) := by decide +kernel
theorem d_Node_fail_0 : decode prog_10_method_2_code 0 = .ok (.aload_n 0, 1) := by decide +kernel
theorem d_Node_fail_1 : decode prog_10_method_2_code 1 = .ok (.iconst 0, 1) := by decide +kernel
theorem d_Node_fail_2 : decode prog_10_method_2_code 2 = .ok (.putfield 21, 3) := by decide +kernel
theorem d_Node_fail_5 : decode prog_10_method_2_code 5 = .ok (.iload_n 1, 1) := by decide +kernel
theorem d_Node_fail_6 : decode prog_10_method_2_code 6 = .ok (.ifCond .eq 8, 3) := by decide +kernel
theorem d_Node_fail_9 : decode prog_10_method_2_code 9 = .ok (.aload_n 0, 1) := by decide +kernel
theorem d_Node_fail_10 : decode prog_10_method_2_code 10 = .ok (.invokevirtual 70, 3) := by decide +kernel
theorem d_Node_fail_13 : decode prog_10_method_2_code 13 = .ok (.return_, 1) := by decide +kernel
theorem d_Node_fail_14 : decode prog_10_method_2_code 14 = .ok (.aload_n 0, 1) := by decide +kernel
theorem d_Node_fail_15 : decode prog_10_method_2_code 15 = .ok (.getfield 12, 3) := by decide +kernel
theorem d_Node_fail_18 : decode prog_10_method_2_code 18 = .ok (.aload_n 0, 1) := by decide +kernel
theorem d_Node_fail_19 : decode prog_10_method_2_code 19 = .ok (.getfield 18, 3) := by decide +kernel
theorem d_Node_fail_22 : decode prog_10_method_2_code 22 = .ok (.invokevirtual 66, 3) := by decide +kernel
theorem d_Node_fail_25 : decode prog_10_method_2_code 25 = .ok (.aload_n 0, 1) := by decide +kernel
theorem d_Node_fail_26 : decode prog_10_method_2_code 26 = .ok (.getfield 47, 3) := by decide +kernel
theorem d_Node_fail_29 : decode prog_10_method_2_code 29 = .ok (.invokevirtual 73, 3) := by decide +kernel
theorem d_Node_fail_32 : decode prog_10_method_2_code 32 = .ok (.aload_n 0, 1) := by decide +kernel
theorem d_Node_fail_33 : decode prog_10_method_2_code 33 = .ok (.iconst 0, 1) := by decide +kernel
theorem d_Node_fail_34 : decode prog_10_method_2_code 34 = .ok (.putfield 76, 3) := by decide +kernel
theorem d_Node_fail_37 : decode prog_10_method_2_code 37 = .ok (.aload_n 0, 1) := by decide +kernel
theorem d_Node_fail_38 : decode prog_10_method_2_code 38 = .ok (.iconst 0, 1) := by decide +kernel
theorem d_Node_fail_39 : decode prog_10_method_2_code 39 = .ok (.putfield 79, 3) := by decide +kernel
theorem d_Node_fail_42 : decode prog_10_method_2_code 42 = .ok (.aload_n 0, 1) := by decide +kernel
theorem d_Node_fail_43 : decode prog_10_method_2_code 43 = .ok (.iconst 0, 1) := by decide +kernel
theorem d_Node_fail_44 : decode prog_10_method_2_code 44 = .ok (.putfield 82, 3) := by decide +kernel
theorem d_Node_fail_47 : decode prog_10_method_2_code 47 = .ok (.return_, 1) := by decide +kernel
theorem d_VG_restart_0 : decode prog_1_method_9_code 0 = .ok (.aload_n 0, 1) := by decide +kernel
theorem d_VG_restart_1 : decode prog_1_method_9_code 1 = .ok (.iload_n 1, 1) := by decide +kernel
theorem d_VG_restart_2 : decode prog_1_method_9_code 2 = .ok (.invokevirtual 102, 3) := by decide +kernel
theorem d_VG_restart_5 : decode prog_1_method_9_code 5 = .ok (.ifCond .eq 15, 3) := by decide +kernel
theorem d_VG_restart_8 : decode prog_1_method_9_code 8 = .ok (.aload_n 0, 1) := by decide +kernel
theorem d_VG_restart_9 : decode prog_1_method_9_code 9 = .ok (.getfield 54, 3) := by decide +kernel
theorem d_VG_restart_12 : decode prog_1_method_9_code 12 = .ok (.iload_n 1, 1) := by decide +kernel
theorem d_VG_restart_13 : decode prog_1_method_9_code 13 = .ok (.aaload, 1) := by decide +kernel
theorem d_VG_restart_14 : decode prog_1_method_9_code 14 = .ok (.getfield 105, 3) := by decide +kernel
theorem d_VG_restart_17 : decode prog_1_method_9_code 17 = .ok (.ifCond .eq 5, 3) := by decide +kernel
theorem d_VG_restart_20 : decode prog_1_method_9_code 20 = .ok (.iconst 0, 1) := by decide +kernel
theorem d_VG_restart_21 : decode prog_1_method_9_code 21 = .ok (.ireturn, 1) := by decide +kernel
theorem d_VG_restart_22 : decode prog_1_method_9_code 22 = .ok (.aload_n 0, 1) := by decide +kernel
theorem d_VG_restart_23 : decode prog_1_method_9_code 23 = .ok (.iconst 0, 1) := by decide +kernel
theorem d_VG_restart_24 : decode prog_1_method_9_code 24 = .ok (.putfield 68, 3) := by decide +kernel
theorem d_VG_restart_27 : decode prog_1_method_9_code 27 = .ok (.aload_n 0, 1) := by decide +kernel
theorem d_VG_restart_28 : decode prog_1_method_9_code 28 = .ok (.getfield 54, 3) := by decide +kernel
theorem d_VG_restart_31 : decode prog_1_method_9_code 31 = .ok (.iload_n 1, 1) := by decide +kernel
theorem d_VG_restart_32 : decode prog_1_method_9_code 32 = .ok (.aaload, 1) := by decide +kernel
theorem d_VG_restart_33 : decode prog_1_method_9_code 33 = .ok (.iconst 1, 1) := by decide +kernel
theorem d_VG_restart_34 : decode prog_1_method_9_code 34 = .ok (.putfield 105, 3) := by decide +kernel
theorem d_VG_restart_37 : decode prog_1_method_9_code 37 = .ok (.iconst 1, 1) := by decide +kernel
theorem d_VG_restart_38 : decode prog_1_method_9_code 38 = .ok (.ireturn, 1) := by decide +kernel
theorem d_VG_map_0 : decode prog_1_method_10_code 0 = .ok (.aload_n 0, 1) := by decide +kernel
theorem d_VG_map_1 : decode prog_1_method_10_code 1 = .ok (.iconst 0, 1) := by decide +kernel
theorem d_VG_map_2 : decode prog_1_method_10_code 2 = .ok (.putfield 68, 3) := by decide +kernel
theorem d_VG_map_5 : decode prog_1_method_10_code 5 = .ok (.aload_n 0, 1) := by decide +kernel
theorem d_VG_map_6 : decode prog_1_method_10_code 6 = .ok (.getfield 35, 3) := by decide +kernel
theorem d_VG_map_9 : decode prog_1_method_10_code 9 = .ok (.iload_n 1, 1) := by decide +kernel
theorem d_VG_map_10 : decode prog_1_method_10_code 10 = .ok (.invokevirtual 112, 3) := by decide +kernel
theorem d_VG_map_13 : decode prog_1_method_10_code 13 = .ok (.aload_n 0, 1) := by decide +kernel
theorem d_VG_map_14 : decode prog_1_method_10_code 14 = .ok (.getfield 35, 3) := by decide +kernel
theorem d_VG_map_17 : decode prog_1_method_10_code 17 = .ok (.invokevirtual 115, 3) := by decide +kernel
theorem d_VG_map_20 : decode prog_1_method_10_code 20 = .ok (.aload_n 0, 1) := by decide +kernel
theorem d_VG_map_21 : decode prog_1_method_10_code 21 = .ok (.getfield 35, 3) := by decide +kernel
theorem d_VG_map_24 : decode prog_1_method_10_code 24 = .ok (.getfield 79, 3) := by decide +kernel
theorem d_VG_map_27 : decode prog_1_method_10_code 27 = .ok (.ireturn, 1) := by decide +kernel
theorem d_MapKeeper_renew_0 : decode prog_7_method_2_code 0 = .ok (.aload_n 0, 1) := by decide +kernel
theorem d_MapKeeper_renew_1 : decode prog_7_method_2_code 1 = .ok (.dup, 1) := by decide +kernel
theorem d_MapKeeper_renew_2 : decode prog_7_method_2_code 2 = .ok (.getfield 9, 3) := by decide +kernel
theorem d_MapKeeper_renew_5 : decode prog_7_method_2_code 5 = .ok (.iconst 1, 1) := by decide +kernel
theorem d_MapKeeper_renew_6 : decode prog_7_method_2_code 6 = .ok (.iadd, 1) := by decide +kernel
theorem d_MapKeeper_renew_7 : decode prog_7_method_2_code 7 = .ok (.putfield 9, 3) := by decide +kernel
theorem d_MapKeeper_renew_10 : decode prog_7_method_2_code 10 = .ok (.aload_n 0, 1) := by decide +kernel
theorem d_MapKeeper_renew_11 : decode prog_7_method_2_code 11 = .ok (.iload_n 1, 1) := by decide +kernel
theorem d_MapKeeper_renew_12 : decode prog_7_method_2_code 12 = .ok (.aload_n 0, 1) := by decide +kernel
theorem d_MapKeeper_renew_13 : decode prog_7_method_2_code 13 = .ok (.getfield 15, 3) := by decide +kernel
theorem d_MapKeeper_renew_16 : decode prog_7_method_2_code 16 = .ok (.invokevirtual 23, 3) := by decide +kernel
theorem d_MapKeeper_renew_19 : decode prog_7_method_2_code 19 = .ok (.iand, 1) := by decide +kernel
theorem d_MapKeeper_renew_20 : decode prog_7_method_2_code 20 = .ok (.putfield 29, 3) := by decide +kernel
theorem d_MapKeeper_renew_23 : decode prog_7_method_2_code 23 = .ok (.aload_n 0, 1) := by decide +kernel
theorem d_MapKeeper_renew_24 : decode prog_7_method_2_code 24 = .ok (.aload_n 0, 1) := by decide +kernel
theorem d_MapKeeper_renew_25 : decode prog_7_method_2_code 25 = .ok (.getfield 15, 3) := by decide +kernel
theorem d_MapKeeper_renew_28 : decode prog_7_method_2_code 28 = .ok (.aload_n 0, 1) := by decide +kernel
theorem d_MapKeeper_renew_29 : decode prog_7_method_2_code 29 = .ok (.getfield 15, 3) := by decide +kernel
theorem d_MapKeeper_renew_32 : decode prog_7_method_2_code 32 = .ok (.aload_n 0, 1) := by decide +kernel
theorem d_MapKeeper_renew_33 : decode prog_7_method_2_code 33 = .ok (.getfield 29, 3) := by decide +kernel
theorem d_MapKeeper_renew_36 : decode prog_7_method_2_code 36 = .ok (.invokevirtual 46, 3) := by decide +kernel
theorem d_MapKeeper_renew_39 : decode prog_7_method_2_code 39 = .ok (.invokevirtual 32, 3) := by decide +kernel
theorem d_MapKeeper_renew_42 : decode prog_7_method_2_code 42 = .ok (.putfield 36, 3) := by decide +kernel
theorem d_MapKeeper_renew_45 : decode prog_7_method_2_code 45 = .ok (.return_, 1) := by decide +kernel
theorem d_VG_settle_0 : decode prog_1_method_11_code 0 = .ok (.aload_n 0, 1) := by decide +kernel
theorem d_VG_settle_1 : decode prog_1_method_11_code 1 = .ok (.getfield 44, 3) := by decide +kernel
theorem d_VG_settle_4 : decode prog_1_method_11_code 4 = .ok (.invokevirtual 118, 3) := by decide +kernel
theorem d_VG_settle_7 : decode prog_1_method_11_code 7 = .ok (.istore_n 1, 1) := by decide +kernel
theorem d_VG_settle_8 : decode prog_1_method_11_code 8 = .ok (.aload_n 0, 1) := by decide +kernel
theorem d_VG_settle_9 : decode prog_1_method_11_code 9 = .ok (.iconst 0, 1) := by decide +kernel
theorem d_VG_settle_10 : decode prog_1_method_11_code 10 = .ok (.putfield 68, 3) := by decide +kernel
theorem d_VG_settle_13 : decode prog_1_method_11_code 13 = .ok (.iconst 0, 1) := by decide +kernel
theorem d_VG_settle_14 : decode prog_1_method_11_code 14 = .ok (.istore_n 2, 1) := by decide +kernel
theorem d_VG_settle_15 : decode prog_1_method_11_code 15 = .ok (.iload_n 2, 1) := by decide +kernel
theorem d_VG_settle_16 : decode prog_1_method_11_code 16 = .ok (.aload_n 0, 1) := by decide +kernel
theorem d_VG_settle_17 : decode prog_1_method_11_code 17 = .ok (.getfield 54, 3) := by decide +kernel
theorem d_VG_settle_20 : decode prog_1_method_11_code 20 = .ok (.arraylength, 1) := by decide +kernel
theorem d_VG_settle_21 : decode prog_1_method_11_code 21 = .ok (.if_icmp .ge 19, 3) := by decide +kernel
theorem d_VG_settle_24 : decode prog_1_method_11_code 24 = .ok (.aload_n 0, 1) := by decide +kernel
theorem d_VG_settle_25 : decode prog_1_method_11_code 25 = .ok (.getfield 54, 3) := by decide +kernel
theorem d_VG_settle_28 : decode prog_1_method_11_code 28 = .ok (.iload_n 2, 1) := by decide +kernel
theorem d_VG_settle_29 : decode prog_1_method_11_code 29 = .ok (.aaload, 1) := by decide +kernel
theorem d_VG_settle_30 : decode prog_1_method_11_code 30 = .ok (.iconst 1, 1) := by decide +kernel
theorem d_VG_settle_31 : decode prog_1_method_11_code 31 = .ok (.putfield 105, 3) := by decide +kernel
theorem d_VG_settle_34 : decode prog_1_method_11_code 34 = .ok (.iinc 2 1, 3) := by decide +kernel
theorem d_VG_settle_37 : decode prog_1_method_11_code 37 = .ok (.goto (-22), 3) := by decide +kernel
theorem d_VG_settle_40 : decode prog_1_method_11_code 40 = .ok (.aload_n 0, 1) := by decide +kernel
theorem d_VG_settle_41 : decode prog_1_method_11_code 41 = .ok (.getfield 35, 3) := by decide +kernel
theorem d_VG_settle_44 : decode prog_1_method_11_code 44 = .ok (.iconst (-1), 1) := by decide +kernel
theorem d_VG_settle_45 : decode prog_1_method_11_code 45 = .ok (.invokevirtual 112, 3) := by decide +kernel
theorem d_VG_settle_48 : decode prog_1_method_11_code 48 = .ok (.aload_n 0, 1) := by decide +kernel
theorem d_VG_settle_49 : decode prog_1_method_11_code 49 = .ok (.getfield 35, 3) := by decide +kernel
theorem d_VG_settle_52 : decode prog_1_method_11_code 52 = .ok (.invokevirtual 115, 3) := by decide +kernel
theorem d_VG_settle_55 : decode prog_1_method_11_code 55 = .ok (.iconst 0, 1) := by decide +kernel
theorem d_VG_settle_56 : decode prog_1_method_11_code 56 = .ok (.istore_n 2, 1) := by decide +kernel
theorem d_VG_settle_57 : decode prog_1_method_11_code 57 = .ok (.iload_n 2, 1) := by decide +kernel
theorem d_VG_settle_58 : decode prog_1_method_11_code 58 = .ok (.sipush 1000, 3) := by decide +kernel
theorem d_VG_settle_61 : decode prog_1_method_11_code 61 = .ok (.if_icmp .ge 51, 3) := by decide +kernel
theorem d_VG_settle_64 : decode prog_1_method_11_code 64 = .ok (.aload_n 0, 1) := by decide +kernel
theorem d_VG_settle_65 : decode prog_1_method_11_code 65 = .ok (.invokevirtual 122, 3) := by decide +kernel
theorem d_VG_settle_68 : decode prog_1_method_11_code 68 = .ok (.aload_n 0, 1) := by decide +kernel
theorem d_VG_settle_69 : decode prog_1_method_11_code 69 = .ok (.invokevirtual 99, 3) := by decide +kernel
theorem d_VG_settle_72 : decode prog_1_method_11_code 72 = .ok (.aload_n 0, 1) := by decide +kernel
theorem d_VG_settle_73 : decode prog_1_method_11_code 73 = .ok (.getfield 24, 3) := by decide +kernel
theorem d_VG_settle_76 : decode prog_1_method_11_code 76 = .ok (.getfield 125, 3) := by decide +kernel
theorem d_VG_settle_79 : decode prog_1_method_11_code 79 = .ok (.ifCond .ne 27, 3) := by decide +kernel
theorem d_VG_settle_82 : decode prog_1_method_11_code 82 = .ok (.aload_n 0, 1) := by decide +kernel
theorem d_VG_settle_83 : decode prog_1_method_11_code 83 = .ok (.getfield 44, 3) := by decide +kernel
theorem d_VG_settle_86 : decode prog_1_method_11_code 86 = .ok (.invokevirtual 128, 3) := by decide +kernel
theorem d_VG_settle_89 : decode prog_1_method_11_code 89 = .ok (.ifCond .eq 17, 3) := by decide +kernel
theorem d_VG_settle_92 : decode prog_1_method_11_code 92 = .ok (.aload_n 0, 1) := by decide +kernel
theorem d_VG_settle_93 : decode prog_1_method_11_code 93 = .ok (.getfield 44, 3) := by decide +kernel
theorem d_VG_settle_96 : decode prog_1_method_11_code 96 = .ok (.invokevirtual 131, 3) := by decide +kernel
theorem d_VG_settle_99 : decode prog_1_method_11_code 99 = .ok (.aload_n 0, 1) := by decide +kernel
theorem d_VG_settle_100 : decode prog_1_method_11_code 100 = .ok (.iconst 1, 1) := by decide +kernel
theorem d_VG_settle_101 : decode prog_1_method_11_code 101 = .ok (.putfield 68, 3) := by decide +kernel
theorem d_VG_settle_104 : decode prog_1_method_11_code 104 = .ok (.iload_n 1, 1) := by decide +kernel
theorem d_VG_settle_105 : decode prog_1_method_11_code 105 = .ok (.ireturn, 1) := by decide +kernel
theorem d_VG_settle_106 : decode prog_1_method_11_code 106 = .ok (.iinc 2 1, 3) := by decide +kernel
theorem d_VG_settle_109 : decode prog_1_method_11_code 109 = .ok (.goto (-52), 3) := by decide +kernel
theorem d_VG_settle_112 : decode prog_1_method_11_code 112 = .ok (.bipush (-4), 2) := by decide +kernel
theorem d_VG_settle_114 : decode prog_1_method_11_code 114 = .ok (.ireturn, 1) := by decide +kernel
theorem d_VG_bringAll_0 : decode prog_1_method_21_code 0 = .ok (.iconst 0, 1) := by decide +kernel
theorem d_VG_bringAll_1 : decode prog_1_method_21_code 1 = .ok (.istore_n 1, 1) := by decide +kernel
theorem d_VG_bringAll_2 : decode prog_1_method_21_code 2 = .ok (.iload_n 1, 1) := by decide +kernel
theorem d_VG_bringAll_3 : decode prog_1_method_21_code 3 = .ok (.ldc 194, 2) := by decide +kernel
theorem d_VG_bringAll_5 : decode prog_1_method_21_code 5 = .ok (.if_icmp .ge 39, 3) := by decide +kernel
theorem d_VG_bringAll_8 : decode prog_1_method_21_code 8 = .ok (.aload_n 0, 1) := by decide +kernel
theorem d_VG_bringAll_9 : decode prog_1_method_21_code 9 = .ok (.getfield 24, 3) := by decide +kernel
theorem d_VG_bringAll_12 : decode prog_1_method_21_code 12 = .ok (.getfield 125, 3) := by decide +kernel
theorem d_VG_bringAll_15 : decode prog_1_method_21_code 15 = .ok (.ifCond .le 29, 3) := by decide +kernel
theorem d_VG_bringAll_18 : decode prog_1_method_21_code 18 = .ok (.aload_n 0, 1) := by decide +kernel
theorem d_VG_bringAll_19 : decode prog_1_method_21_code 19 = .ok (.aload_n 0, 1) := by decide +kernel
theorem d_VG_bringAll_20 : decode prog_1_method_21_code 20 = .ok (.getfield 24, 3) := by decide +kernel
theorem d_VG_bringAll_23 : decode prog_1_method_21_code 23 = .ok (.iconst 0, 1) := by decide +kernel
theorem d_VG_bringAll_24 : decode prog_1_method_21_code 24 = .ok (.invokevirtual 183, 3) := by decide +kernel
theorem d_VG_bringAll_27 : decode prog_1_method_21_code 27 = .ok (.invokevirtual 187, 3) := by decide +kernel
theorem d_VG_bringAll_30 : decode prog_1_method_21_code 30 = .ok (.aload_n 0, 1) := by decide +kernel
theorem d_VG_bringAll_31 : decode prog_1_method_21_code 31 = .ok (.getfield 24, 3) := by decide +kernel
theorem d_VG_bringAll_34 : decode prog_1_method_21_code 34 = .ok (.iconst 0, 1) := by decide +kernel
theorem d_VG_bringAll_35 : decode prog_1_method_21_code 35 = .ok (.invokevirtual 191, 3) := by decide +kernel
theorem d_VG_bringAll_38 : decode prog_1_method_21_code 38 = .ok (.iinc 1 1, 3) := by decide +kernel
theorem d_VG_bringAll_41 : decode prog_1_method_21_code 41 = .ok (.goto (-39), 3) := by decide +kernel
theorem d_VG_bringAll_44 : decode prog_1_method_21_code 44 = .ok (.return_, 1) := by decide +kernel
theorem d_Desk_hasAllAnswers_0 : decode prog_5_method_8_code 0 = .ok (.aload_n 0, 1) := by decide +kernel
theorem d_Desk_hasAllAnswers_1 : decode prog_5_method_8_code 1 = .ok (.getfield 33, 3) := by decide +kernel
theorem d_Desk_hasAllAnswers_4 : decode prog_5_method_8_code 4 = .ok (.istore_n 1, 1) := by decide +kernel
theorem d_Desk_hasAllAnswers_5 : decode prog_5_method_8_code 5 = .ok (.iload_n 1, 1) := by decide +kernel
theorem d_Desk_hasAllAnswers_6 : decode prog_5_method_8_code 6 = .ok (.aload_n 0, 1) := by decide +kernel
theorem d_Desk_hasAllAnswers_7 : decode prog_5_method_8_code 7 = .ok (.getfield 29, 3) := by decide +kernel
theorem d_Desk_hasAllAnswers_10 : decode prog_5_method_8_code 10 = .ok (.if_icmp .ge 23, 3) := by decide +kernel
theorem d_Desk_hasAllAnswers_13 : decode prog_5_method_8_code 13 = .ok (.aload_n 0, 1) := by decide +kernel
theorem d_Desk_hasAllAnswers_14 : decode prog_5_method_8_code 14 = .ok (.getfield 17, 3) := by decide +kernel
theorem d_Desk_hasAllAnswers_17 : decode prog_5_method_8_code 17 = .ok (.iload_n 1, 1) := by decide +kernel
theorem d_Desk_hasAllAnswers_18 : decode prog_5_method_8_code 18 = .ok (.bipush 8, 2) := by decide +kernel
theorem d_Desk_hasAllAnswers_20 : decode prog_5_method_8_code 20 = .ok (.irem, 1) := by decide +kernel
theorem d_Desk_hasAllAnswers_21 : decode prog_5_method_8_code 21 = .ok (.baload, 1) := by decide +kernel
theorem d_Desk_hasAllAnswers_22 : decode prog_5_method_8_code 22 = .ok (.ifCond .ne 5, 3) := by decide +kernel
theorem d_Desk_hasAllAnswers_25 : decode prog_5_method_8_code 25 = .ok (.iconst 0, 1) := by decide +kernel
theorem d_Desk_hasAllAnswers_26 : decode prog_5_method_8_code 26 = .ok (.ireturn, 1) := by decide +kernel
theorem d_Desk_hasAllAnswers_27 : decode prog_5_method_8_code 27 = .ok (.iinc 1 1, 3) := by decide +kernel
theorem d_Desk_hasAllAnswers_30 : decode prog_5_method_8_code 30 = .ok (.goto (-25), 3) := by decide +kernel
theorem d_Desk_hasAllAnswers_33 : decode prog_5_method_8_code 33 = .ok (.iconst 1, 1) := by decide +kernel
theorem d_Desk_hasAllAnswers_34 : decode prog_5_method_8_code 34 = .ok (.ireturn, 1) := by decide +kernel
theorem d_Desk_tellAnswers_0 : decode prog_5_method_9_code 0 = .ok (.aload_n 0, 1) := by decide +kernel
theorem d_Desk_tellAnswers_1 : decode prog_5_method_9_code 1 = .ok (.aload_n 0, 1) := by decide +kernel
theorem d_Desk_tellAnswers_2 : decode prog_5_method_9_code 2 = .ok (.getfield 29, 3) := by decide +kernel
theorem d_Desk_tellAnswers_5 : decode prog_5_method_9_code 5 = .ok (.putfield 33, 3) := by decide +kernel
theorem d_Desk_tellAnswers_8 : decode prog_5_method_9_code 8 = .ok (.return_, 1) := by decide +kernel
theorem d_VG_answer_0 : decode prog_1_method_12_code 0 = .ok (.iload_n 1, 1) := by decide +kernel
theorem d_VG_answer_1 : decode prog_1_method_12_code 1 = .ok (.ifCond .lt 14, 3) := by decide +kernel
theorem d_VG_answer_4 : decode prog_1_method_12_code 4 = .ok (.iload_n 1, 1) := by decide +kernel
theorem d_VG_answer_5 : decode prog_1_method_12_code 5 = .ok (.aload_n 0, 1) := by decide +kernel
theorem d_VG_answer_6 : decode prog_1_method_12_code 6 = .ok (.getfield 44, 3) := by decide +kernel
theorem d_VG_answer_9 : decode prog_1_method_12_code 9 = .ok (.getfield 134, 3) := by decide +kernel
theorem d_VG_answer_12 : decode prog_1_method_12_code 12 = .ok (.if_icmp .lt 7, 3) := by decide +kernel
theorem d_VG_answer_15 : decode prog_1_method_12_code 15 = .ok (.ldc2_w 137, 3) := by decide +kernel
theorem d_VG_answer_18 : decode prog_1_method_12_code 18 = .ok (.lreturn, 1) := by decide +kernel
theorem d_VG_answer_19 : decode prog_1_method_12_code 19 = .ok (.iload_n 1, 1) := by decide +kernel
theorem d_VG_answer_20 : decode prog_1_method_12_code 20 = .ok (.aload_n 0, 1) := by decide +kernel
theorem d_VG_answer_21 : decode prog_1_method_12_code 21 = .ok (.getfield 44, 3) := by decide +kernel
theorem d_VG_answer_24 : decode prog_1_method_12_code 24 = .ok (.getfield 139, 3) := by decide +kernel
theorem d_VG_answer_27 : decode prog_1_method_12_code 27 = .ok (.if_icmp .ge 16, 3) := by decide +kernel
theorem d_VG_answer_30 : decode prog_1_method_12_code 30 = .ok (.aload_n 0, 1) := by decide +kernel
theorem d_VG_answer_31 : decode prog_1_method_12_code 31 = .ok (.getfield 44, 3) := by decide +kernel
theorem d_VG_answer_34 : decode prog_1_method_12_code 34 = .ok (.getfield 142, 3) := by decide +kernel
theorem d_VG_answer_37 : decode prog_1_method_12_code 37 = .ok (.iload_n 1, 1) := by decide +kernel
theorem d_VG_answer_38 : decode prog_1_method_12_code 38 = .ok (.iaload, 1) := by decide +kernel
theorem d_VG_answer_39 : decode prog_1_method_12_code 39 = .ok (.i2l, 1) := by decide +kernel
theorem d_VG_answer_40 : decode prog_1_method_12_code 40 = .ok (.goto 6, 3) := by decide +kernel
theorem d_VG_answer_43 : decode prog_1_method_12_code 43 = .ok (.ldc2_w 146, 3) := by decide +kernel
theorem d_VG_answer_46 : decode prog_1_method_12_code 46 = .ok (.lreturn, 1) := by decide +kernel
theorem d_VG_at_0 : decode prog_1_method_13_code 0 = .ok (.aload_n 0, 1) := by decide +kernel
theorem d_VG_at_1 : decode prog_1_method_13_code 1 = .ok (.iload_n 1, 1) := by decide +kernel
theorem d_VG_at_2 : decode prog_1_method_13_code 2 = .ok (.invokevirtual 102, 3) := by decide +kernel
theorem d_VG_at_5 : decode prog_1_method_13_code 5 = .ok (.ifCond .eq 19, 3) := by decide +kernel
theorem d_VG_at_8 : decode prog_1_method_13_code 8 = .ok (.iload_n 2, 1) := by decide +kernel
theorem d_VG_at_9 : decode prog_1_method_13_code 9 = .ok (.invokestatic 60, 3) := by decide +kernel
theorem d_VG_at_12 : decode prog_1_method_13_code 12 = .ok (.ifCond .eq 12, 3) := by decide +kernel
theorem d_VG_at_15 : decode prog_1_method_13_code 15 = .ok (.iload_n 3, 1) := by decide +kernel
theorem d_VG_at_16 : decode prog_1_method_13_code 16 = .ok (.ifCond .lt 8, 3) := by decide +kernel
theorem d_VG_at_19 : decode prog_1_method_13_code 19 = .ok (.iload_n 3, 1) := by decide +kernel
theorem d_VG_at_20 : decode prog_1_method_13_code 20 = .ok (.iconst 1, 1) := by decide +kernel
theorem d_VG_at_21 : decode prog_1_method_13_code 21 = .ok (.if_icmp .le 7, 3) := by decide +kernel
theorem d_VG_at_24 : decode prog_1_method_13_code 24 = .ok (.ldc2_w 137, 3) := by decide +kernel
theorem d_VG_at_27 : decode prog_1_method_13_code 27 = .ok (.lreturn, 1) := by decide +kernel
theorem d_VG_at_28 : decode prog_1_method_13_code 28 = .ok (.aload_n 0, 1) := by decide +kernel
theorem d_VG_at_29 : decode prog_1_method_13_code 29 = .ok (.getfield 68, 3) := by decide +kernel
theorem d_VG_at_32 : decode prog_1_method_13_code 32 = .ok (.ifCond .ne 7, 3) := by decide +kernel
theorem d_VG_at_35 : decode prog_1_method_13_code 35 = .ok (.ldc2_w 148, 3) := by decide +kernel
theorem d_VG_at_38 : decode prog_1_method_13_code 38 = .ok (.lreturn, 1) := by decide +kernel
theorem d_VG_at_39 : decode prog_1_method_13_code 39 = .ok (.aload_n 0, 1) := by decide +kernel
theorem d_VG_at_40 : decode prog_1_method_13_code 40 = .ok (.getfield 54, 3) := by decide +kernel
theorem d_VG_at_43 : decode prog_1_method_13_code 43 = .ok (.iload_n 1, 1) := by decide +kernel
theorem d_VG_at_44 : decode prog_1_method_13_code 44 = .ok (.aaload, 1) := by decide +kernel
theorem d_VG_at_45 : decode prog_1_method_13_code 45 = .ok (.getfield 150, 3) := by decide +kernel
theorem d_VG_at_48 : decode prog_1_method_13_code 48 = .ok (.getfield 154, 3) := by decide +kernel
theorem d_VG_at_51 : decode prog_1_method_13_code 51 = .ok (.astore 4, 2) := by decide +kernel
theorem d_VG_at_53 : decode prog_1_method_13_code 53 = .ok (.iload_n 3, 1) := by decide +kernel
theorem d_VG_at_54 : decode prog_1_method_13_code 54 = .ok (.ifCond .ne 18, 3) := by decide +kernel
theorem d_VG_at_57 : decode prog_1_method_13_code 57 = .ok (.aload 4, 2) := by decide +kernel
theorem d_VG_at_59 : decode prog_1_method_13_code 59 = .ok (.iload_n 2, 1) := by decide +kernel
theorem d_VG_at_60 : decode prog_1_method_13_code 60 = .ok (.invokevirtual 160, 3) := by decide +kernel
theorem d_VG_at_63 : decode prog_1_method_13_code 63 = .ok (.ifCond .eq 7, 3) := by decide +kernel
theorem d_VG_at_66 : decode prog_1_method_13_code 66 = .ok (.lconst 1, 1) := by decide +kernel
theorem d_VG_at_67 : decode prog_1_method_13_code 67 = .ok (.goto 4, 3) := by decide +kernel
theorem d_VG_at_70 : decode prog_1_method_13_code 70 = .ok (.lconst 0, 1) := by decide +kernel
theorem d_VG_at_71 : decode prog_1_method_13_code 71 = .ok (.lreturn, 1) := by decide +kernel
theorem d_VG_at_72 : decode prog_1_method_13_code 72 = .ok (.aload 4, 2) := by decide +kernel
theorem d_VG_at_74 : decode prog_1_method_13_code 74 = .ok (.getfield 165, 3) := by decide +kernel
theorem d_VG_at_77 : decode prog_1_method_13_code 77 = .ok (.iload_n 2, 1) := by decide +kernel
theorem d_VG_at_78 : decode prog_1_method_13_code 78 = .ok (.iaload, 1) := by decide +kernel
theorem d_VG_at_79 : decode prog_1_method_13_code 79 = .ok (.i2l, 1) := by decide +kernel
theorem d_VG_at_80 : decode prog_1_method_13_code 80 = .ok (.lreturn, 1) := by decide +kernel
theorem d_Copy_has_0 : decode prog_4_method_2_code 0 = .ok (.aload_n 0, 1) := by decide +kernel
theorem d_Copy_has_1 : decode prog_4_method_2_code 1 = .ok (.getfield 24, 3) := by decide +kernel
theorem d_Copy_has_4 : decode prog_4_method_2_code 4 = .ok (.iload_n 1, 1) := by decide +kernel
theorem d_Copy_has_5 : decode prog_4_method_2_code 5 = .ok (.lushr, 1) := by decide +kernel
theorem d_Copy_has_6 : decode prog_4_method_2_code 6 = .ok (.lconst 1, 1) := by decide +kernel
theorem d_Copy_has_7 : decode prog_4_method_2_code 7 = .ok (.land, 1) := by decide +kernel
theorem d_Copy_has_8 : decode prog_4_method_2_code 8 = .ok (.lconst 0, 1) := by decide +kernel
theorem d_Copy_has_9 : decode prog_4_method_2_code 9 = .ok (.lcmp, 1) := by decide +kernel
theorem d_Copy_has_10 : decode prog_4_method_2_code 10 = .ok (.ifCond .eq 7, 3) := by decide +kernel
theorem d_Copy_has_13 : decode prog_4_method_2_code 13 = .ok (.iconst 1, 1) := by decide +kernel
theorem d_Copy_has_14 : decode prog_4_method_2_code 14 = .ok (.goto 4, 3) := by decide +kernel
theorem d_Copy_has_17 : decode prog_4_method_2_code 17 = .ok (.iconst 0, 1) := by decide +kernel
theorem d_Copy_has_18 : decode prog_4_method_2_code 18 = .ok (.ireturn, 1) := by decide +kernel
theorem d_VG_count_0 : decode prog_1_method_14_code 0 = .ok (.iload_n 1, 1) := by decide +kernel
theorem d_VG_count_1 : decode prog_1_method_14_code 1 = .ok (.tableswitch 89 0 5 #[39, 47, 55, 63, 68, 76], 39) := by decide +kernel
theorem d_VG_count_40 : decode prog_1_method_14_code 40 = .ok (.aload_n 0, 1) := by decide +kernel
theorem d_VG_count_41 : decode prog_1_method_14_code 41 = .ok (.getfield 44, 3) := by decide +kernel
theorem d_VG_count_44 : decode prog_1_method_14_code 44 = .ok (.getfield 134, 3) := by decide +kernel
theorem d_VG_count_47 : decode prog_1_method_14_code 47 = .ok (.ireturn, 1) := by decide +kernel
theorem d_VG_count_48 : decode prog_1_method_14_code 48 = .ok (.aload_n 0, 1) := by decide +kernel
theorem d_VG_count_49 : decode prog_1_method_14_code 49 = .ok (.getfield 44, 3) := by decide +kernel
theorem d_VG_count_52 : decode prog_1_method_14_code 52 = .ok (.invokevirtual 118, 3) := by decide +kernel
theorem d_VG_count_55 : decode prog_1_method_14_code 55 = .ok (.ireturn, 1) := by decide +kernel
theorem d_VG_count_56 : decode prog_1_method_14_code 56 = .ok (.aload_n 0, 1) := by decide +kernel
theorem d_VG_count_57 : decode prog_1_method_14_code 57 = .ok (.getfield 35, 3) := by decide +kernel
theorem d_VG_count_60 : decode prog_1_method_14_code 60 = .ok (.getfield 79, 3) := by decide +kernel
theorem d_VG_count_63 : decode prog_1_method_14_code 63 = .ok (.ireturn, 1) := by decide +kernel
theorem d_VG_count_64 : decode prog_1_method_14_code 64 = .ok (.aload_n 0, 1) := by decide +kernel
theorem d_VG_count_65 : decode prog_1_method_14_code 65 = .ok (.invokevirtual 168, 3) := by decide +kernel
theorem d_VG_count_68 : decode prog_1_method_14_code 68 = .ok (.ireturn, 1) := by decide +kernel
theorem d_VG_count_69 : decode prog_1_method_14_code 69 = .ok (.aload_n 0, 1) := by decide +kernel
theorem d_VG_count_70 : decode prog_1_method_14_code 70 = .ok (.getfield 35, 3) := by decide +kernel
theorem d_VG_count_73 : decode prog_1_method_14_code 73 = .ok (.getfield 171, 3) := by decide +kernel
theorem d_VG_count_76 : decode prog_1_method_14_code 76 = .ok (.ireturn, 1) := by decide +kernel
theorem d_VG_count_77 : decode prog_1_method_14_code 77 = .ok (.aload_n 0, 1) := by decide +kernel
theorem d_VG_count_78 : decode prog_1_method_14_code 78 = .ok (.getfield 68, 3) := by decide +kernel
theorem d_VG_count_81 : decode prog_1_method_14_code 81 = .ok (.ifCond .eq 7, 3) := by decide +kernel
theorem d_VG_count_84 : decode prog_1_method_14_code 84 = .ok (.iconst 1, 1) := by decide +kernel
theorem d_VG_count_85 : decode prog_1_method_14_code 85 = .ok (.goto 4, 3) := by decide +kernel
theorem d_VG_count_88 : decode prog_1_method_14_code 88 = .ok (.iconst 0, 1) := by decide +kernel
theorem d_VG_count_89 : decode prog_1_method_14_code 89 = .ok (.ireturn, 1) := by decide +kernel
theorem d_VG_count_90 : decode prog_1_method_14_code 90 = .ok (.iconst (-1), 1) := by decide +kernel
theorem d_VG_count_91 : decode prog_1_method_14_code 91 = .ok (.ireturn, 1) := by decide +kernel
theorem d_VG_nodesUp_0 : decode prog_1_method_17_code 0 = .ok (.iconst 0, 1) := by decide +kernel
theorem d_VG_nodesUp_1 : decode prog_1_method_17_code 1 = .ok (.istore_n 1, 1) := by decide +kernel
theorem d_VG_nodesUp_2 : decode prog_1_method_17_code 2 = .ok (.iconst 0, 1) := by decide +kernel
theorem d_VG_nodesUp_3 : decode prog_1_method_17_code 3 = .ok (.istore_n 2, 1) := by decide +kernel
theorem d_VG_nodesUp_4 : decode prog_1_method_17_code 4 = .ok (.iload_n 2, 1) := by decide +kernel
theorem d_VG_nodesUp_5 : decode prog_1_method_17_code 5 = .ok (.aload_n 0, 1) := by decide +kernel
theorem d_VG_nodesUp_6 : decode prog_1_method_17_code 6 = .ok (.getfield 54, 3) := by decide +kernel
theorem d_VG_nodesUp_9 : decode prog_1_method_17_code 9 = .ok (.arraylength, 1) := by decide +kernel
theorem d_VG_nodesUp_10 : decode prog_1_method_17_code 10 = .ok (.if_icmp .ge 24, 3) := by decide +kernel
theorem d_VG_nodesUp_13 : decode prog_1_method_17_code 13 = .ok (.aload_n 0, 1) := by decide +kernel
theorem d_VG_nodesUp_14 : decode prog_1_method_17_code 14 = .ok (.getfield 54, 3) := by decide +kernel
theorem d_VG_nodesUp_17 : decode prog_1_method_17_code 17 = .ok (.iload_n 2, 1) := by decide +kernel
theorem d_VG_nodesUp_18 : decode prog_1_method_17_code 18 = .ok (.aaload, 1) := by decide +kernel
theorem d_VG_nodesUp_19 : decode prog_1_method_17_code 19 = .ok (.getfield 105, 3) := by decide +kernel
theorem d_VG_nodesUp_22 : decode prog_1_method_17_code 22 = .ok (.ifCond .eq 6, 3) := by decide +kernel
theorem d_VG_nodesUp_25 : decode prog_1_method_17_code 25 = .ok (.iinc 1 1, 3) := by decide +kernel
theorem d_VG_nodesUp_28 : decode prog_1_method_17_code 28 = .ok (.iinc 2 1, 3) := by decide +kernel
theorem d_VG_nodesUp_31 : decode prog_1_method_17_code 31 = .ok (.goto (-27), 3) := by decide +kernel
theorem d_VG_nodesUp_34 : decode prog_1_method_17_code 34 = .ok (.iload_n 1, 1) := by decide +kernel
theorem d_VG_nodesUp_35 : decode prog_1_method_17_code 35 = .ok (.ireturn, 1) := by decide +kernel
theorem d_Mod_init_0 : decode prog_15_method_1_code 0 = .ok (.aload_n 0, 1) := by decide +kernel
theorem d_Mod_init_1 : decode prog_15_method_1_code 1 = .ok (.invokespecial 1, 3) := by decide +kernel
theorem d_Mod_init_4 : decode prog_15_method_1_code 4 = .ok (.aload_n 0, 1) := by decide +kernel
theorem d_Mod_init_5 : decode prog_15_method_1_code 5 = .ok (.bipush 40, 2) := by decide +kernel
theorem d_Mod_init_7 : decode prog_15_method_1_code 7 = .ok (.newarray .int, 2) := by decide +kernel
theorem d_Mod_init_9 : decode prog_15_method_1_code 9 = .ok (.putfield 7, 3) := by decide +kernel
theorem d_Mod_init_12 : decode prog_15_method_1_code 12 = .ok (.aload_n 0, 1) := by decide +kernel
theorem d_Mod_init_13 : decode prog_15_method_1_code 13 = .ok (.bipush 40, 2) := by decide +kernel
theorem d_Mod_init_15 : decode prog_15_method_1_code 15 = .ok (.newarray .boolean, 2) := by decide +kernel
theorem d_Mod_init_17 : decode prog_15_method_1_code 17 = .ok (.putfield 13, 3) := by decide +kernel
theorem d_Mod_init_20 : decode prog_15_method_1_code 20 = .ok (.aload_n 0, 1) := by decide +kernel
theorem d_Mod_init_21 : decode prog_15_method_1_code 21 = .ok (.bipush 8, 2) := by decide +kernel
theorem d_Mod_init_23 : decode prog_15_method_1_code 23 = .ok (.newarray .int, 2) := by decide +kernel
theorem d_Mod_init_25 : decode prog_15_method_1_code 25 = .ok (.putfield 17, 3) := by decide +kernel
theorem d_Mod_init_28 : decode prog_15_method_1_code 28 = .ok (.aload_n 0, 1) := by decide +kernel
theorem d_Mod_init_29 : decode prog_15_method_1_code 29 = .ok (.bipush 8, 2) := by decide +kernel
theorem d_Mod_init_31 : decode prog_15_method_1_code 31 = .ok (.newarray .int, 2) := by decide +kernel
theorem d_Mod_init_33 : decode prog_15_method_1_code 33 = .ok (.putfield 20, 3) := by decide +kernel
theorem d_Mod_init_36 : decode prog_15_method_1_code 36 = .ok (.aload_n 0, 1) := by decide +kernel
theorem d_Mod_init_37 : decode prog_15_method_1_code 37 = .ok (.bipush 8, 2) := by decide +kernel
theorem d_Mod_init_39 : decode prog_15_method_1_code 39 = .ok (.newarray .int, 2) := by decide +kernel
theorem d_Mod_init_41 : decode prog_15_method_1_code 41 = .ok (.putfield 23, 3) := by decide +kernel
theorem d_Mod_init_44 : decode prog_15_method_1_code 44 = .ok (.aload_n 0, 1) := by decide +kernel
theorem d_Mod_init_45 : decode prog_15_method_1_code 45 = .ok (.bipush 64, 2) := by decide +kernel
theorem d_Mod_init_47 : decode prog_15_method_1_code 47 = .ok (.newarray .long, 2) := by decide +kernel
theorem d_Mod_init_49 : decode prog_15_method_1_code 49 = .ok (.putfield 26, 3) := by decide +kernel
theorem d_Mod_init_52 : decode prog_15_method_1_code 52 = .ok (.aload_n 0, 1) := by decide +kernel
theorem d_Mod_init_53 : decode prog_15_method_1_code 53 = .ok (.iconst 1, 1) := by decide +kernel
theorem d_Mod_init_54 : decode prog_15_method_1_code 54 = .ok (.putfield 30, 3) := by decide +kernel
theorem d_Mod_init_57 : decode prog_15_method_1_code 57 = .ok (.aload_n 0, 1) := by decide +kernel
theorem d_Mod_init_58 : decode prog_15_method_1_code 58 = .ok (.iload_n 1, 1) := by decide +kernel
theorem d_Mod_init_59 : decode prog_15_method_1_code 59 = .ok (.iconst 3, 1) := by decide +kernel
theorem d_Mod_init_60 : decode prog_15_method_1_code 60 = .ok (.if_icmp .ge 7, 3) := by decide +kernel
theorem d_Mod_init_63 : decode prog_15_method_1_code 63 = .ok (.iconst 3, 1) := by decide +kernel
theorem d_Mod_init_64 : decode prog_15_method_1_code 64 = .ok (.goto 15, 3) := by decide +kernel
theorem d_Mod_init_67 : decode prog_15_method_1_code 67 = .ok (.iload_n 1, 1) := by decide +kernel
theorem d_Mod_init_68 : decode prog_15_method_1_code 68 = .ok (.bipush 6, 2) := by decide +kernel
theorem d_Mod_init_70 : decode prog_15_method_1_code 70 = .ok (.if_icmp .le 8, 3) := by decide +kernel
theorem d_Mod_init_73 : decode prog_15_method_1_code 73 = .ok (.bipush 6, 2) := by decide +kernel
theorem d_Mod_init_75 : decode prog_15_method_1_code 75 = .ok (.goto 4, 3) := by decide +kernel
theorem d_Mod_init_78 : decode prog_15_method_1_code 78 = .ok (.iload_n 1, 1) := by decide +kernel
theorem d_Mod_init_79 : decode prog_15_method_1_code 79 = .ok (.putfield 34, 3) := by decide +kernel
theorem d_Mod_init_82 : decode prog_15_method_1_code 82 = .ok (.aload_n 0, 1) := by decide +kernel
theorem d_Mod_init_83 : decode prog_15_method_1_code 83 = .ok (.iload_n 2, 1) := by decide +kernel
theorem d_Mod_init_84 : decode prog_15_method_1_code 84 = .ok (.iconst 2, 1) := by decide +kernel
theorem d_Mod_init_85 : decode prog_15_method_1_code 85 = .ok (.if_icmp .ge 7, 3) := by decide +kernel
theorem d_Mod_init_88 : decode prog_15_method_1_code 88 = .ok (.iconst 2, 1) := by decide +kernel
theorem d_Mod_init_89 : decode prog_15_method_1_code 89 = .ok (.goto 13, 3) := by decide +kernel
theorem d_Mod_init_92 : decode prog_15_method_1_code 92 = .ok (.iload_n 2, 1) := by decide +kernel
theorem d_Mod_init_93 : decode prog_15_method_1_code 93 = .ok (.iconst 3, 1) := by decide +kernel
theorem d_Mod_init_94 : decode prog_15_method_1_code 94 = .ok (.if_icmp .le 7, 3) := by decide +kernel
theorem d_Mod_init_97 : decode prog_15_method_1_code 97 = .ok (.iconst 3, 1) := by decide +kernel
theorem d_Mod_init_98 : decode prog_15_method_1_code 98 = .ok (.goto 4, 3) := by decide +kernel
theorem d_Mod_init_101 : decode prog_15_method_1_code 101 = .ok (.iload_n 2, 1) := by decide +kernel
theorem d_Mod_init_102 : decode prog_15_method_1_code 102 = .ok (.putfield 37, 3) := by decide +kernel
theorem d_Mod_init_105 : decode prog_15_method_1_code 105 = .ok (.aload_n 0, 1) := by decide +kernel
theorem d_Mod_init_106 : decode prog_15_method_1_code 106 = .ok (.iconst 1, 1) := by decide +kernel
theorem d_Mod_init_107 : decode prog_15_method_1_code 107 = .ok (.aload_n 0, 1) := by decide +kernel
theorem d_Mod_init_108 : decode prog_15_method_1_code 108 = .ok (.getfield 34, 3) := by decide +kernel
theorem d_Mod_init_111 : decode prog_15_method_1_code 111 = .ok (.ishl, 1) := by decide +kernel
theorem d_Mod_init_112 : decode prog_15_method_1_code 112 = .ok (.iconst 1, 1) := by decide +kernel
theorem d_Mod_init_113 : decode prog_15_method_1_code 113 = .ok (.isub, 1) := by decide +kernel
theorem d_Mod_init_114 : decode prog_15_method_1_code 114 = .ok (.putfield 40, 3) := by decide +kernel
theorem d_Mod_init_117 : decode prog_15_method_1_code 117 = .ok (.aload_n 0, 1) := by decide +kernel
theorem d_Mod_init_118 : decode prog_15_method_1_code 118 = .ok (.aload_n 0, 1) := by decide +kernel
theorem d_Mod_init_119 : decode prog_15_method_1_code 119 = .ok (.getfield 40, 3) := by decide +kernel
theorem d_Mod_init_122 : decode prog_15_method_1_code 122 = .ok (.putfield 43, 3) := by decide +kernel
theorem d_Mod_init_125 : decode prog_15_method_1_code 125 = .ok (.return_, 1) := by decide +kernel
theorem d_Mod_give_0 : decode prog_15_method_2_code 0 = .ok (.iload_n 1, 1) := by decide +kernel
theorem d_Mod_give_1 : decode prog_15_method_2_code 1 = .ok (.ifCond .lt 33, 3) := by decide +kernel
theorem d_Mod_give_4 : decode prog_15_method_2_code 4 = .ok (.iload_n 1, 1) := by decide +kernel
theorem d_Mod_give_5 : decode prog_15_method_2_code 5 = .ok (.iconst 4, 1) := by decide +kernel
theorem d_Mod_give_6 : decode prog_15_method_2_code 6 = .ok (.if_icmp .gt 28, 3) := by decide +kernel
theorem d_Mod_give_9 : decode prog_15_method_2_code 9 = .ok (.iload_n 2, 1) := by decide +kernel
theorem d_Mod_give_10 : decode prog_15_method_2_code 10 = .ok (.ifCond .lt 24, 3) := by decide +kernel
theorem d_Mod_give_13 : decode prog_15_method_2_code 13 = .ok (.iload_n 2, 1) := by decide +kernel
theorem d_Mod_give_14 : decode prog_15_method_2_code 14 = .ok (.bipush 39, 2) := by decide +kernel
theorem d_Mod_give_16 : decode prog_15_method_2_code 16 = .ok (.if_icmp .gt 18, 3) := by decide +kernel
theorem d_Mod_give_19 : decode prog_15_method_2_code 19 = .ok (.iload_n 1, 1) := by decide +kernel
theorem d_Mod_give_20 : decode prog_15_method_2_code 20 = .ok (.iconst 4, 1) := by decide +kernel
theorem d_Mod_give_21 : decode prog_15_method_2_code 21 = .ok (.if_icmp .ne 15, 3) := by decide +kernel
theorem d_Mod_give_24 : decode prog_15_method_2_code 24 = .ok (.iload_n 3, 1) := by decide +kernel
theorem d_Mod_give_25 : decode prog_15_method_2_code 25 = .ok (.ifCond .lt 9, 3) := by decide +kernel
theorem d_Mod_give_28 : decode prog_15_method_2_code 28 = .ok (.iload_n 3, 1) := by decide +kernel
theorem d_Mod_give_29 : decode prog_15_method_2_code 29 = .ok (.bipush 39, 2) := by decide +kernel
theorem d_Mod_give_31 : decode prog_15_method_2_code 31 = .ok (.if_icmp .le 5, 3) := by decide +kernel
theorem d_Mod_give_34 : decode prog_15_method_2_code 34 = .ok (.iconst (-1), 1) := by decide +kernel
theorem d_Mod_give_35 : decode prog_15_method_2_code 35 = .ok (.ireturn, 1) := by decide +kernel
theorem d_Mod_give_36 : decode prog_15_method_2_code 36 = .ok (.aload_n 0, 1) := by decide +kernel
theorem d_Mod_give_37 : decode prog_15_method_2_code 37 = .ok (.getfield 46, 3) := by decide +kernel
theorem d_Mod_give_40 : decode prog_15_method_2_code 40 = .ok (.bipush 8, 2) := by decide +kernel
theorem d_Mod_give_42 : decode prog_15_method_2_code 42 = .ok (.if_icmp .ne 6, 3) := by decide +kernel
theorem d_Mod_give_45 : decode prog_15_method_2_code 45 = .ok (.bipush (-2), 2) := by decide +kernel
theorem d_Mod_give_47 : decode prog_15_method_2_code 47 = .ok (.ireturn, 1) := by decide +kernel
theorem d_Mod_give_48 : decode prog_15_method_2_code 48 = .ok (.aload_n 0, 1) := by decide +kernel
theorem d_Mod_give_49 : decode prog_15_method_2_code 49 = .ok (.getfield 17, 3) := by decide +kernel
theorem d_Mod_give_52 : decode prog_15_method_2_code 52 = .ok (.aload_n 0, 1) := by decide +kernel
theorem d_Mod_give_53 : decode prog_15_method_2_code 53 = .ok (.getfield 46, 3) := by decide +kernel
theorem d_Mod_give_56 : decode prog_15_method_2_code 56 = .ok (.iload_n 1, 1) := by decide +kernel
theorem d_Mod_give_57 : decode prog_15_method_2_code 57 = .ok (.iastore, 1) := by decide +kernel
theorem d_Mod_give_58 : decode prog_15_method_2_code 58 = .ok (.aload_n 0, 1) := by decide +kernel
theorem d_Mod_give_59 : decode prog_15_method_2_code 59 = .ok (.getfield 20, 3) := by decide +kernel
theorem d_Mod_give_62 : decode prog_15_method_2_code 62 = .ok (.aload_n 0, 1) := by decide +kernel
theorem d_Mod_give_63 : decode prog_15_method_2_code 63 = .ok (.getfield 46, 3) := by decide +kernel
theorem d_Mod_give_66 : decode prog_15_method_2_code 66 = .ok (.iload_n 2, 1) := by decide +kernel
theorem d_Mod_give_67 : decode prog_15_method_2_code 67 = .ok (.iastore, 1) := by decide +kernel
theorem d_Mod_give_68 : decode prog_15_method_2_code 68 = .ok (.aload_n 0, 1) := by decide +kernel
theorem d_Mod_give_69 : decode prog_15_method_2_code 69 = .ok (.getfield 23, 3) := by decide +kernel
theorem d_Mod_give_72 : decode prog_15_method_2_code 72 = .ok (.aload_n 0, 1) := by decide +kernel
theorem d_Mod_give_73 : decode prog_15_method_2_code 73 = .ok (.getfield 46, 3) := by decide +kernel
theorem d_Mod_give_76 : decode prog_15_method_2_code 76 = .ok (.iload_n 3, 1) := by decide +kernel
theorem d_Mod_give_77 : decode prog_15_method_2_code 77 = .ok (.iastore, 1) := by decide +kernel
theorem d_Mod_give_78 : decode prog_15_method_2_code 78 = .ok (.aload_n 0, 1) := by decide +kernel
theorem d_Mod_give_79 : decode prog_15_method_2_code 79 = .ok (.dup, 1) := by decide +kernel
theorem d_Mod_give_80 : decode prog_15_method_2_code 80 = .ok (.getfield 46, 3) := by decide +kernel
theorem d_Mod_give_83 : decode prog_15_method_2_code 83 = .ok (.iconst 1, 1) := by decide +kernel
theorem d_Mod_give_84 : decode prog_15_method_2_code 84 = .ok (.iadd, 1) := by decide +kernel
theorem d_Mod_give_85 : decode prog_15_method_2_code 85 = .ok (.putfield 46, 3) := by decide +kernel
theorem d_Mod_give_88 : decode prog_15_method_2_code 88 = .ok (.aload_n 0, 1) := by decide +kernel
theorem d_Mod_give_89 : decode prog_15_method_2_code 89 = .ok (.dup, 1) := by decide +kernel
theorem d_Mod_give_90 : decode prog_15_method_2_code 90 = .ok (.getfield 49, 3) := by decide +kernel
theorem d_Mod_give_93 : decode prog_15_method_2_code 93 = .ok (.iconst 1, 1) := by decide +kernel
theorem d_Mod_give_94 : decode prog_15_method_2_code 94 = .ok (.iadd, 1) := by decide +kernel
theorem d_Mod_give_95 : decode prog_15_method_2_code 95 = .ok (.putfield 49, 3) := by decide +kernel
theorem d_Mod_give_98 : decode prog_15_method_2_code 98 = .ok (.aload_n 0, 1) := by decide +kernel
theorem d_Mod_give_99 : decode prog_15_method_2_code 99 = .ok (.iconst 0, 1) := by decide +kernel
theorem d_Mod_give_100 : decode prog_15_method_2_code 100 = .ok (.putfield 52, 3) := by decide +kernel
theorem d_Mod_give_103 : decode prog_15_method_2_code 103 = .ok (.aload_n 0, 1) := by decide +kernel
theorem d_Mod_give_104 : decode prog_15_method_2_code 104 = .ok (.getfield 49, 3) := by decide +kernel
theorem d_Mod_give_107 : decode prog_15_method_2_code 107 = .ok (.iconst 1, 1) := by decide +kernel
theorem d_Mod_give_108 : decode prog_15_method_2_code 108 = .ok (.isub, 1) := by decide +kernel
theorem d_Mod_give_109 : decode prog_15_method_2_code 109 = .ok (.ireturn, 1) := by decide +kernel
theorem d_Mod_deliver_0 : decode prog_15_method_3_code 0 = .ok (.aload_n 0, 1) := by decide +kernel
theorem d_Mod_deliver_1 : decode prog_15_method_3_code 1 = .ok (.iconst 0, 1) := by decide +kernel
theorem d_Mod_deliver_2 : decode prog_15_method_3_code 2 = .ok (.putfield 52, 3) := by decide +kernel
theorem d_Mod_deliver_5 : decode prog_15_method_3_code 5 = .ok (.return_, 1) := by decide +kernel
theorem d_Mod_lose_0 : decode prog_15_method_4_code 0 = .ok (.aload_n 0, 1) := by decide +kernel
theorem d_Mod_lose_1 : decode prog_15_method_4_code 1 = .ok (.iconst 0, 1) := by decide +kernel
theorem d_Mod_lose_2 : decode prog_15_method_4_code 2 = .ok (.putfield 52, 3) := by decide +kernel
theorem d_Mod_lose_5 : decode prog_15_method_4_code 5 = .ok (.return_, 1) := by decide +kernel
theorem d_Mod_twice_0 : decode prog_15_method_5_code 0 = .ok (.aload_n 0, 1) := by decide +kernel
theorem d_Mod_twice_1 : decode prog_15_method_5_code 1 = .ok (.iconst 0, 1) := by decide +kernel
theorem d_Mod_twice_2 : decode prog_15_method_5_code 2 = .ok (.putfield 52, 3) := by decide +kernel
theorem d_Mod_twice_5 : decode prog_15_method_5_code 5 = .ok (.return_, 1) := by decide +kernel
theorem d_Mod_stir_0 : decode prog_15_method_6_code 0 = .ok (.iload_n 1, 1) := by decide +kernel
theorem d_Mod_stir_1 : decode prog_15_method_6_code 1 = .ok (.iconst 1, 1) := by decide +kernel
theorem d_Mod_stir_2 : decode prog_15_method_6_code 2 = .ok (.if_icmp .lt 10, 3) := by decide +kernel
theorem d_Mod_stir_5 : decode prog_15_method_6_code 5 = .ok (.iload_n 1, 1) := by decide +kernel
theorem d_Mod_stir_6 : decode prog_15_method_6_code 6 = .ok (.sipush 500, 3) := by decide +kernel
theorem d_Mod_stir_9 : decode prog_15_method_6_code 9 = .ok (.if_icmp .le 5, 3) := by decide +kernel
theorem d_Mod_stir_12 : decode prog_15_method_6_code 12 = .ok (.iconst (-1), 1) := by decide +kernel
theorem d_Mod_stir_13 : decode prog_15_method_6_code 13 = .ok (.ireturn, 1) := by decide +kernel
theorem d_Mod_stir_14 : decode prog_15_method_6_code 14 = .ok (.aload_n 0, 1) := by decide +kernel
theorem d_Mod_stir_15 : decode prog_15_method_6_code 15 = .ok (.iconst 0, 1) := by decide +kernel
theorem d_Mod_stir_16 : decode prog_15_method_6_code 16 = .ok (.putfield 52, 3) := by decide +kernel
theorem d_Mod_stir_19 : decode prog_15_method_6_code 19 = .ok (.iload_n 1, 1) := by decide +kernel
theorem d_Mod_stir_20 : decode prog_15_method_6_code 20 = .ok (.ireturn, 1) := by decide +kernel
theorem d_Mod_tick_0 : decode prog_15_method_7_code 0 = .ok (.iload_n 1, 1) := by decide +kernel
theorem d_Mod_tick_1 : decode prog_15_method_7_code 1 = .ok (.iconst 1, 1) := by decide +kernel
theorem d_Mod_tick_2 : decode prog_15_method_7_code 2 = .ok (.if_icmp .lt 9, 3) := by decide +kernel
theorem d_Mod_tick_5 : decode prog_15_method_7_code 5 = .ok (.iload_n 1, 1) := by decide +kernel
theorem d_Mod_tick_6 : decode prog_15_method_7_code 6 = .ok (.bipush 50, 2) := by decide +kernel
theorem d_Mod_tick_8 : decode prog_15_method_7_code 8 = .ok (.if_icmp .le 5, 3) := by decide +kernel
theorem d_Mod_tick_11 : decode prog_15_method_7_code 11 = .ok (.iconst (-1), 1) := by decide +kernel
theorem d_Mod_tick_12 : decode prog_15_method_7_code 12 = .ok (.ireturn, 1) := by decide +kernel
theorem d_Mod_tick_13 : decode prog_15_method_7_code 13 = .ok (.aload_n 0, 1) := by decide +kernel
theorem d_Mod_tick_14 : decode prog_15_method_7_code 14 = .ok (.iconst 0, 1) := by decide +kernel
theorem d_Mod_tick_15 : decode prog_15_method_7_code 15 = .ok (.putfield 52, 3) := by decide +kernel
theorem d_Mod_tick_18 : decode prog_15_method_7_code 18 = .ok (.iload_n 1, 1) := by decide +kernel
theorem d_Mod_tick_19 : decode prog_15_method_7_code 19 = .ok (.ireturn, 1) := by decide +kernel
theorem d_Mod_crash_0 : decode prog_15_method_9_code 0 = .ok (.aload_n 0, 1) := by decide +kernel
theorem d_Mod_crash_1 : decode prog_15_method_9_code 1 = .ok (.iload_n 1, 1) := by decide +kernel
theorem d_Mod_crash_2 : decode prog_15_method_9_code 2 = .ok (.iconst 1, 1) := by decide +kernel
theorem d_Mod_crash_3 : decode prog_15_method_9_code 3 = .ok (.invokevirtual 56, 3) := by decide +kernel
theorem d_Mod_crash_6 : decode prog_15_method_9_code 6 = .ok (.ireturn, 1) := by decide +kernel
theorem d_Mod_turn_0 : decode prog_15_method_8_code 0 = .ok (.iload_n 1, 1) := by decide +kernel
theorem d_Mod_turn_1 : decode prog_15_method_8_code 1 = .ok (.ifCond .lt 31, 3) := by decide +kernel
theorem d_Mod_turn_4 : decode prog_15_method_8_code 4 = .ok (.iload_n 1, 1) := by decide +kernel
theorem d_Mod_turn_5 : decode prog_15_method_8_code 5 = .ok (.aload_n 0, 1) := by decide +kernel
theorem d_Mod_turn_6 : decode prog_15_method_8_code 6 = .ok (.getfield 34, 3) := by decide +kernel
theorem d_Mod_turn_9 : decode prog_15_method_8_code 9 = .ok (.if_icmp .ge 23, 3) := by decide +kernel
theorem d_Mod_turn_12 : decode prog_15_method_8_code 12 = .ok (.aload_n 0, 1) := by decide +kernel
theorem d_Mod_turn_13 : decode prog_15_method_8_code 13 = .ok (.getfield 40, 3) := by decide +kernel
theorem d_Mod_turn_16 : decode prog_15_method_8_code 16 = .ok (.iload_n 1, 1) := by decide +kernel
theorem d_Mod_turn_17 : decode prog_15_method_8_code 17 = .ok (.ishr, 1) := by decide +kernel
theorem d_Mod_turn_18 : decode prog_15_method_8_code 18 = .ok (.iconst 1, 1) := by decide +kernel
theorem d_Mod_turn_19 : decode prog_15_method_8_code 19 = .ok (.iand, 1) := by decide +kernel
theorem d_Mod_turn_20 : decode prog_15_method_8_code 20 = .ok (.iload_n 2, 1) := by decide +kernel
theorem d_Mod_turn_21 : decode prog_15_method_8_code 21 = .ok (.ifCond .eq 7, 3) := by decide +kernel
theorem d_Mod_turn_24 : decode prog_15_method_8_code 24 = .ok (.iconst 1, 1) := by decide +kernel
theorem d_Mod_turn_25 : decode prog_15_method_8_code 25 = .ok (.goto 4, 3) := by decide +kernel
theorem d_Mod_turn_28 : decode prog_15_method_8_code 28 = .ok (.iconst 0, 1) := by decide +kernel
theorem d_Mod_turn_29 : decode prog_15_method_8_code 29 = .ok (.if_icmp .eq 5, 3) := by decide +kernel
theorem d_Mod_turn_32 : decode prog_15_method_8_code 32 = .ok (.iconst 0, 1) := by decide +kernel
theorem d_Mod_turn_33 : decode prog_15_method_8_code 33 = .ok (.ireturn, 1) := by decide +kernel
theorem d_Mod_turn_34 : decode prog_15_method_8_code 34 = .ok (.aload_n 0, 1) := by decide +kernel
theorem d_Mod_turn_35 : decode prog_15_method_8_code 35 = .ok (.dup, 1) := by decide +kernel
theorem d_Mod_turn_36 : decode prog_15_method_8_code 36 = .ok (.getfield 40, 3) := by decide +kernel
theorem d_Mod_turn_39 : decode prog_15_method_8_code 39 = .ok (.iconst 1, 1) := by decide +kernel
theorem d_Mod_turn_40 : decode prog_15_method_8_code 40 = .ok (.iload_n 1, 1) := by decide +kernel
theorem d_Mod_turn_41 : decode prog_15_method_8_code 41 = .ok (.ishl, 1) := by decide +kernel
theorem d_Mod_turn_42 : decode prog_15_method_8_code 42 = .ok (.ixor, 1) := by decide +kernel
theorem d_Mod_turn_43 : decode prog_15_method_8_code 43 = .ok (.putfield 40, 3) := by decide +kernel
theorem d_Mod_turn_46 : decode prog_15_method_8_code 46 = .ok (.aload_n 0, 1) := by decide +kernel
theorem d_Mod_turn_47 : decode prog_15_method_8_code 47 = .ok (.iconst 0, 1) := by decide +kernel
theorem d_Mod_turn_48 : decode prog_15_method_8_code 48 = .ok (.putfield 52, 3) := by decide +kernel
theorem d_Mod_turn_51 : decode prog_15_method_8_code 51 = .ok (.iconst 1, 1) := by decide +kernel
theorem d_Mod_turn_52 : decode prog_15_method_8_code 52 = .ok (.ireturn, 1) := by decide +kernel
theorem d_Mod_restart_0 : decode prog_15_method_10_code 0 = .ok (.aload_n 0, 1) := by decide +kernel
theorem d_Mod_restart_1 : decode prog_15_method_10_code 1 = .ok (.iload_n 1, 1) := by decide +kernel
theorem d_Mod_restart_2 : decode prog_15_method_10_code 2 = .ok (.iconst 0, 1) := by decide +kernel
theorem d_Mod_restart_3 : decode prog_15_method_10_code 3 = .ok (.invokevirtual 56, 3) := by decide +kernel
theorem d_Mod_restart_6 : decode prog_15_method_10_code 6 = .ok (.ireturn, 1) := by decide +kernel
theorem d_Mod_map_0 : decode prog_15_method_11_code 0 = .ok (.aload_n 0, 1) := by decide +kernel
theorem d_Mod_map_1 : decode prog_15_method_11_code 1 = .ok (.iload_n 1, 1) := by decide +kernel
theorem d_Mod_map_2 : decode prog_15_method_11_code 2 = .ok (.iconst 1, 1) := by decide +kernel
theorem d_Mod_map_3 : decode prog_15_method_11_code 3 = .ok (.aload_n 0, 1) := by decide +kernel
theorem d_Mod_map_4 : decode prog_15_method_11_code 4 = .ok (.getfield 34, 3) := by decide +kernel
theorem d_Mod_map_7 : decode prog_15_method_11_code 7 = .ok (.ishl, 1) := by decide +kernel
theorem d_Mod_map_8 : decode prog_15_method_11_code 8 = .ok (.iconst 1, 1) := by decide +kernel
theorem d_Mod_map_9 : decode prog_15_method_11_code 9 = .ok (.isub, 1) := by decide +kernel
theorem d_Mod_map_10 : decode prog_15_method_11_code 10 = .ok (.iand, 1) := by decide +kernel
theorem d_Mod_map_11 : decode prog_15_method_11_code 11 = .ok (.putfield 43, 3) := by decide +kernel
theorem d_Mod_map_14 : decode prog_15_method_11_code 14 = .ok (.aload_n 0, 1) := by decide +kernel
theorem d_Mod_map_15 : decode prog_15_method_11_code 15 = .ok (.dup, 1) := by decide +kernel
theorem d_Mod_map_16 : decode prog_15_method_11_code 16 = .ok (.getfield 30, 3) := by decide +kernel
theorem d_Mod_map_19 : decode prog_15_method_11_code 19 = .ok (.iconst 1, 1) := by decide +kernel
theorem d_Mod_map_20 : decode prog_15_method_11_code 20 = .ok (.iadd, 1) := by decide +kernel
theorem d_Mod_map_21 : decode prog_15_method_11_code 21 = .ok (.putfield 30, 3) := by decide +kernel
theorem d_Mod_map_24 : decode prog_15_method_11_code 24 = .ok (.aload_n 0, 1) := by decide +kernel
theorem d_Mod_map_25 : decode prog_15_method_11_code 25 = .ok (.iconst 0, 1) := by decide +kernel
theorem d_Mod_map_26 : decode prog_15_method_11_code 26 = .ok (.putfield 52, 3) := by decide +kernel
theorem d_Mod_map_29 : decode prog_15_method_11_code 29 = .ok (.aload_n 0, 1) := by decide +kernel
theorem d_Mod_map_30 : decode prog_15_method_11_code 30 = .ok (.getfield 30, 3) := by decide +kernel
theorem d_Mod_map_33 : decode prog_15_method_11_code 33 = .ok (.ireturn, 1) := by decide +kernel
theorem d_Mod_settle_0 : decode prog_15_method_14_code 0 = .ok (.aload_n 0, 1) := by decide +kernel
theorem d_Mod_settle_1 : decode prog_15_method_14_code 1 = .ok (.getfield 46, 3) := by decide +kernel
theorem d_Mod_settle_4 : decode prog_15_method_14_code 4 = .ok (.istore_n 1, 1) := by decide +kernel
theorem d_Mod_settle_5 : decode prog_15_method_14_code 5 = .ok (.aload_n 0, 1) := by decide +kernel
theorem d_Mod_settle_6 : decode prog_15_method_14_code 6 = .ok (.getfield 49, 3) := by decide +kernel
theorem d_Mod_settle_9 : decode prog_15_method_14_code 9 = .ok (.aload_n 0, 1) := by decide +kernel
theorem d_Mod_settle_10 : decode prog_15_method_14_code 10 = .ok (.getfield 26, 3) := by decide +kernel
theorem d_Mod_settle_13 : decode prog_15_method_14_code 13 = .ok (.arraylength, 1) := by decide +kernel
theorem d_Mod_settle_14 : decode prog_15_method_14_code 14 = .ok (.if_icmp .le 44, 3) := by decide +kernel
theorem d_Mod_settle_17 : decode prog_15_method_14_code 17 = .ok (.iconst 2, 1) := by decide +kernel
theorem d_Mod_settle_18 : decode prog_15_method_14_code 18 = .ok (.aload_n 0, 1) := by decide +kernel
theorem d_Mod_settle_19 : decode prog_15_method_14_code 19 = .ok (.getfield 49, 3) := by decide +kernel
theorem d_Mod_settle_22 : decode prog_15_method_14_code 22 = .ok (.imul, 1) := by decide +kernel
theorem d_Mod_settle_23 : decode prog_15_method_14_code 23 = .ok (.newarray .long, 2) := by decide +kernel
theorem d_Mod_settle_25 : decode prog_15_method_14_code 25 = .ok (.astore_n 2, 1) := by decide +kernel
theorem d_Mod_settle_26 : decode prog_15_method_14_code 26 = .ok (.iconst 0, 1) := by decide +kernel
theorem d_Mod_settle_27 : decode prog_15_method_14_code 27 = .ok (.istore_n 3, 1) := by decide +kernel
theorem d_Mod_settle_28 : decode prog_15_method_14_code 28 = .ok (.iload_n 3, 1) := by decide +kernel
theorem d_Mod_settle_29 : decode prog_15_method_14_code 29 = .ok (.aload_n 0, 1) := by decide +kernel
theorem d_Mod_settle_30 : decode prog_15_method_14_code 30 = .ok (.getfield 49, 3) := by decide +kernel
theorem d_Mod_settle_33 : decode prog_15_method_14_code 33 = .ok (.iload_n 1, 1) := by decide +kernel
theorem d_Mod_settle_34 : decode prog_15_method_14_code 34 = .ok (.isub, 1) := by decide +kernel
theorem d_Mod_settle_35 : decode prog_15_method_14_code 35 = .ok (.if_icmp .ge 18, 3) := by decide +kernel
theorem d_Mod_settle_38 : decode prog_15_method_14_code 38 = .ok (.aload_n 2, 1) := by decide +kernel
theorem d_Mod_settle_39 : decode prog_15_method_14_code 39 = .ok (.iload_n 3, 1) := by decide +kernel
theorem d_Mod_settle_40 : decode prog_15_method_14_code 40 = .ok (.aload_n 0, 1) := by decide +kernel
theorem d_Mod_settle_41 : decode prog_15_method_14_code 41 = .ok (.getfield 26, 3) := by decide +kernel
theorem d_Mod_settle_44 : decode prog_15_method_14_code 44 = .ok (.iload_n 3, 1) := by decide +kernel
theorem d_Mod_settle_45 : decode prog_15_method_14_code 45 = .ok (.laload, 1) := by decide +kernel
theorem d_Mod_settle_46 : decode prog_15_method_14_code 46 = .ok (.lastore, 1) := by decide +kernel
theorem d_Mod_settle_47 : decode prog_15_method_14_code 47 = .ok (.iinc 3 1, 3) := by decide +kernel
theorem d_Mod_settle_50 : decode prog_15_method_14_code 50 = .ok (.goto (-22), 3) := by decide +kernel
theorem d_Mod_settle_53 : decode prog_15_method_14_code 53 = .ok (.aload_n 0, 1) := by decide +kernel
theorem d_Mod_settle_54 : decode prog_15_method_14_code 54 = .ok (.aload_n 2, 1) := by decide +kernel
theorem d_Mod_settle_55 : decode prog_15_method_14_code 55 = .ok (.putfield 26, 3) := by decide +kernel
theorem d_Mod_settle_58 : decode prog_15_method_14_code 58 = .ok (.iconst 0, 1) := by decide +kernel
theorem d_Mod_settle_59 : decode prog_15_method_14_code 59 = .ok (.istore_n 2, 1) := by decide +kernel
theorem d_Mod_settle_60 : decode prog_15_method_14_code 60 = .ok (.iload_n 2, 1) := by decide +kernel
theorem d_Mod_settle_61 : decode prog_15_method_14_code 61 = .ok (.iload_n 1, 1) := by decide +kernel
theorem d_Mod_settle_62 : decode prog_15_method_14_code 62 = .ok (.if_icmp .ge 27, 3) := by decide +kernel
theorem d_Mod_settle_65 : decode prog_15_method_14_code 65 = .ok (.aload_n 0, 1) := by decide +kernel
theorem d_Mod_settle_66 : decode prog_15_method_14_code 66 = .ok (.getfield 26, 3) := by decide +kernel
theorem d_Mod_settle_69 : decode prog_15_method_14_code 69 = .ok (.aload_n 0, 1) := by decide +kernel
theorem d_Mod_settle_70 : decode prog_15_method_14_code 70 = .ok (.getfield 49, 3) := by decide +kernel
theorem d_Mod_settle_73 : decode prog_15_method_14_code 73 = .ok (.iload_n 1, 1) := by decide +kernel
theorem d_Mod_settle_74 : decode prog_15_method_14_code 74 = .ok (.isub, 1) := by decide +kernel
theorem d_Mod_settle_75 : decode prog_15_method_14_code 75 = .ok (.iload_n 2, 1) := by decide +kernel
theorem d_Mod_settle_76 : decode prog_15_method_14_code 76 = .ok (.iadd, 1) := by decide +kernel
theorem d_Mod_settle_77 : decode prog_15_method_14_code 77 = .ok (.aload_n 0, 1) := by decide +kernel
theorem d_Mod_settle_78 : decode prog_15_method_14_code 78 = .ok (.iload_n 2, 1) := by decide +kernel
theorem d_Mod_settle_79 : decode prog_15_method_14_code 79 = .ok (.invokevirtual 64, 3) := by decide +kernel
theorem d_Mod_settle_82 : decode prog_15_method_14_code 82 = .ok (.lastore, 1) := by decide +kernel
theorem d_Mod_settle_83 : decode prog_15_method_14_code 83 = .ok (.iinc 2 1, 3) := by decide +kernel
theorem d_Mod_settle_86 : decode prog_15_method_14_code 86 = .ok (.goto (-26), 3) := by decide +kernel
theorem d_Mod_settle_89 : decode prog_15_method_14_code 89 = .ok (.aload_n 0, 1) := by decide +kernel
theorem d_Mod_settle_90 : decode prog_15_method_14_code 90 = .ok (.iconst 0, 1) := by decide +kernel
theorem d_Mod_settle_91 : decode prog_15_method_14_code 91 = .ok (.putfield 46, 3) := by decide +kernel
theorem d_Mod_settle_94 : decode prog_15_method_14_code 94 = .ok (.aload_n 0, 1) := by decide +kernel
theorem d_Mod_settle_95 : decode prog_15_method_14_code 95 = .ok (.iconst 1, 1) := by decide +kernel
theorem d_Mod_settle_96 : decode prog_15_method_14_code 96 = .ok (.aload_n 0, 1) := by decide +kernel
theorem d_Mod_settle_97 : decode prog_15_method_14_code 97 = .ok (.getfield 34, 3) := by decide +kernel
theorem d_Mod_settle_100 : decode prog_15_method_14_code 100 = .ok (.ishl, 1) := by decide +kernel
theorem d_Mod_settle_101 : decode prog_15_method_14_code 101 = .ok (.iconst 1, 1) := by decide +kernel
theorem d_Mod_settle_102 : decode prog_15_method_14_code 102 = .ok (.isub, 1) := by decide +kernel
theorem d_Mod_settle_103 : decode prog_15_method_14_code 103 = .ok (.putfield 40, 3) := by decide +kernel
theorem d_Mod_settle_106 : decode prog_15_method_14_code 106 = .ok (.aload_n 0, 1) := by decide +kernel
theorem d_Mod_settle_107 : decode prog_15_method_14_code 107 = .ok (.aload_n 0, 1) := by decide +kernel
theorem d_Mod_settle_108 : decode prog_15_method_14_code 108 = .ok (.getfield 40, 3) := by decide +kernel
theorem d_Mod_settle_111 : decode prog_15_method_14_code 111 = .ok (.putfield 43, 3) := by decide +kernel
theorem d_Mod_settle_114 : decode prog_15_method_14_code 114 = .ok (.aload_n 0, 1) := by decide +kernel
theorem d_Mod_settle_115 : decode prog_15_method_14_code 115 = .ok (.dup, 1) := by decide +kernel
theorem d_Mod_settle_116 : decode prog_15_method_14_code 116 = .ok (.getfield 30, 3) := by decide +kernel
theorem d_Mod_settle_119 : decode prog_15_method_14_code 119 = .ok (.iconst 1, 1) := by decide +kernel
theorem d_Mod_settle_120 : decode prog_15_method_14_code 120 = .ok (.iadd, 1) := by decide +kernel
theorem d_Mod_settle_121 : decode prog_15_method_14_code 121 = .ok (.putfield 30, 3) := by decide +kernel
theorem d_Mod_settle_124 : decode prog_15_method_14_code 124 = .ok (.aload_n 0, 1) := by decide +kernel
theorem d_Mod_settle_125 : decode prog_15_method_14_code 125 = .ok (.iconst 1, 1) := by decide +kernel
theorem d_Mod_settle_126 : decode prog_15_method_14_code 126 = .ok (.putfield 52, 3) := by decide +kernel
theorem d_Mod_settle_129 : decode prog_15_method_14_code 129 = .ok (.iload_n 1, 1) := by decide +kernel
theorem d_Mod_settle_130 : decode prog_15_method_14_code 130 = .ok (.ireturn, 1) := by decide +kernel
theorem d_Mod_act_0 : decode prog_15_method_13_code 0 = .ok (.aload_n 0, 1) := by decide +kernel
theorem d_Mod_act_1 : decode prog_15_method_13_code 1 = .ok (.getfield 20, 3) := by decide +kernel
theorem d_Mod_act_4 : decode prog_15_method_13_code 4 = .ok (.iload_n 1, 1) := by decide +kernel
theorem d_Mod_act_5 : decode prog_15_method_13_code 5 = .ok (.iaload, 1) := by decide +kernel
theorem d_Mod_act_6 : decode prog_15_method_13_code 6 = .ok (.istore_n 2, 1) := by decide +kernel
theorem d_Mod_act_7 : decode prog_15_method_13_code 7 = .ok (.aload_n 0, 1) := by decide +kernel
theorem d_Mod_act_8 : decode prog_15_method_13_code 8 = .ok (.getfield 23, 3) := by decide +kernel
theorem d_Mod_act_11 : decode prog_15_method_13_code 11 = .ok (.iload_n 1, 1) := by decide +kernel
theorem d_Mod_act_12 : decode prog_15_method_13_code 12 = .ok (.iaload, 1) := by decide +kernel
theorem d_Mod_act_13 : decode prog_15_method_13_code 13 = .ok (.istore_n 3, 1) := by decide +kernel
theorem d_Mod_act_14 : decode prog_15_method_13_code 14 = .ok (.aload_n 0, 1) := by decide +kernel
theorem d_Mod_act_15 : decode prog_15_method_13_code 15 = .ok (.getfield 13, 3) := by decide +kernel
theorem d_Mod_act_18 : decode prog_15_method_13_code 18 = .ok (.iload_n 2, 1) := by decide +kernel
theorem d_Mod_act_19 : decode prog_15_method_13_code 19 = .ok (.baload, 1) := by decide +kernel
theorem d_Mod_act_20 : decode prog_15_method_13_code 20 = .ok (.ifCond .eq 7, 3) := by decide +kernel
theorem d_Mod_act_23 : decode prog_15_method_13_code 23 = .ok (.lconst 1, 1) := by decide +kernel
theorem d_Mod_act_24 : decode prog_15_method_13_code 24 = .ok (.goto 4, 3) := by decide +kernel
theorem d_Mod_act_27 : decode prog_15_method_13_code 27 = .ok (.lconst 0, 1) := by decide +kernel
theorem d_Mod_act_28 : decode prog_15_method_13_code 28 = .ok (.lstore 4, 2) := by decide +kernel
theorem d_Mod_act_30 : decode prog_15_method_13_code 30 = .ok (.aload_n 0, 1) := by decide +kernel
theorem d_Mod_act_31 : decode prog_15_method_13_code 31 = .ok (.getfield 17, 3) := by decide +kernel
theorem d_Mod_act_34 : decode prog_15_method_13_code 34 = .ok (.iload_n 1, 1) := by decide +kernel
theorem d_Mod_act_35 : decode prog_15_method_13_code 35 = .ok (.iaload, 1) := by decide +kernel
theorem d_Mod_act_36 : decode prog_15_method_13_code 36 = .ok (.tableswitch 82 0 3 #[32, 42, 52, 60], 32) := by decide +kernel
theorem d_Mod_act_68 : decode prog_15_method_13_code 68 = .ok (.aload_n 0, 1) := by decide +kernel
theorem d_Mod_act_69 : decode prog_15_method_13_code 69 = .ok (.iload_n 2, 1) := by decide +kernel
theorem d_Mod_act_70 : decode prog_15_method_13_code 70 = .ok (.iconst 1, 1) := by decide +kernel
theorem d_Mod_act_71 : decode prog_15_method_13_code 71 = .ok (.iload_n 3, 1) := by decide +kernel
theorem d_Mod_act_72 : decode prog_15_method_13_code 72 = .ok (.invokevirtual 60, 3) := by decide +kernel
theorem d_Mod_act_75 : decode prog_15_method_13_code 75 = .ok (.lload 4, 2) := by decide +kernel
theorem d_Mod_act_77 : decode prog_15_method_13_code 77 = .ok (.lreturn, 1) := by decide +kernel
theorem d_Mod_act_78 : decode prog_15_method_13_code 78 = .ok (.aload_n 0, 1) := by decide +kernel
theorem d_Mod_act_79 : decode prog_15_method_13_code 79 = .ok (.iload_n 2, 1) := by decide +kernel
theorem d_Mod_act_80 : decode prog_15_method_13_code 80 = .ok (.iconst 0, 1) := by decide +kernel
theorem d_Mod_act_81 : decode prog_15_method_13_code 81 = .ok (.iconst 0, 1) := by decide +kernel
theorem d_Mod_act_82 : decode prog_15_method_13_code 82 = .ok (.invokevirtual 60, 3) := by decide +kernel
theorem d_Mod_act_85 : decode prog_15_method_13_code 85 = .ok (.lload 4, 2) := by decide +kernel
theorem d_Mod_act_87 : decode prog_15_method_13_code 87 = .ok (.lreturn, 1) := by decide +kernel
theorem d_Mod_act_88 : decode prog_15_method_13_code 88 = .ok (.aload_n 0, 1) := by decide +kernel
theorem d_Mod_act_89 : decode prog_15_method_13_code 89 = .ok (.getfield 7, 3) := by decide +kernel
theorem d_Mod_act_92 : decode prog_15_method_13_code 92 = .ok (.iload_n 2, 1) := by decide +kernel
theorem d_Mod_act_93 : decode prog_15_method_13_code 93 = .ok (.iaload, 1) := by decide +kernel
theorem d_Mod_act_94 : decode prog_15_method_13_code 94 = .ok (.i2l, 1) := by decide +kernel
theorem d_Mod_act_95 : decode prog_15_method_13_code 95 = .ok (.lreturn, 1) := by decide +kernel
theorem d_Mod_act_96 : decode prog_15_method_13_code 96 = .ok (.aload_n 0, 1) := by decide +kernel
theorem d_Mod_act_97 : decode prog_15_method_13_code 97 = .ok (.iload_n 2, 1) := by decide +kernel
theorem d_Mod_act_98 : decode prog_15_method_13_code 98 = .ok (.iconst 1, 1) := by decide +kernel
theorem d_Mod_act_99 : decode prog_15_method_13_code 99 = .ok (.aload_n 0, 1) := by decide +kernel
theorem d_Mod_act_100 : decode prog_15_method_13_code 100 = .ok (.getfield 7, 3) := by decide +kernel
theorem d_Mod_act_103 : decode prog_15_method_13_code 103 = .ok (.iload_n 2, 1) := by decide +kernel
theorem d_Mod_act_104 : decode prog_15_method_13_code 104 = .ok (.iaload, 1) := by decide +kernel
theorem d_Mod_act_105 : decode prog_15_method_13_code 105 = .ok (.iload_n 3, 1) := by decide +kernel
theorem d_Mod_act_106 : decode prog_15_method_13_code 106 = .ok (.iadd, 1) := by decide +kernel
theorem d_Mod_act_107 : decode prog_15_method_13_code 107 = .ok (.invokevirtual 60, 3) := by decide +kernel
theorem d_Mod_act_110 : decode prog_15_method_13_code 110 = .ok (.aload_n 0, 1) := by decide +kernel
theorem d_Mod_act_111 : decode prog_15_method_13_code 111 = .ok (.getfield 7, 3) := by decide +kernel
theorem d_Mod_act_114 : decode prog_15_method_13_code 114 = .ok (.iload_n 2, 1) := by decide +kernel
theorem d_Mod_act_115 : decode prog_15_method_13_code 115 = .ok (.iaload, 1) := by decide +kernel
theorem d_Mod_act_116 : decode prog_15_method_13_code 116 = .ok (.i2l, 1) := by decide +kernel
theorem d_Mod_act_117 : decode prog_15_method_13_code 117 = .ok (.lreturn, 1) := by decide +kernel
theorem d_Mod_act_118 : decode prog_15_method_13_code 118 = .ok (.iload_n 2, 1) := by decide +kernel
theorem d_Mod_act_119 : decode prog_15_method_13_code 119 = .ok (.iload_n 3, 1) := by decide +kernel
theorem d_Mod_act_120 : decode prog_15_method_13_code 120 = .ok (.if_icmp .ne 6, 3) := by decide +kernel
theorem d_Mod_act_123 : decode prog_15_method_13_code 123 = .ok (.lload 4, 2) := by decide +kernel
theorem d_Mod_act_125 : decode prog_15_method_13_code 125 = .ok (.lreturn, 1) := by decide +kernel
theorem d_Mod_act_126 : decode prog_15_method_13_code 126 = .ok (.aload_n 0, 1) := by decide +kernel
theorem d_Mod_act_127 : decode prog_15_method_13_code 127 = .ok (.iload_n 3, 1) := by decide +kernel
theorem d_Mod_act_128 : decode prog_15_method_13_code 128 = .ok (.aload_n 0, 1) := by decide +kernel
theorem d_Mod_act_129 : decode prog_15_method_13_code 129 = .ok (.getfield 13, 3) := by decide +kernel
theorem d_Mod_act_132 : decode prog_15_method_13_code 132 = .ok (.iload_n 2, 1) := by decide +kernel
theorem d_Mod_act_133 : decode prog_15_method_13_code 133 = .ok (.baload, 1) := by decide +kernel
theorem d_Mod_act_134 : decode prog_15_method_13_code 134 = .ok (.aload_n 0, 1) := by decide +kernel
theorem d_Mod_act_135 : decode prog_15_method_13_code 135 = .ok (.getfield 7, 3) := by decide +kernel
theorem d_Mod_act_138 : decode prog_15_method_13_code 138 = .ok (.iload_n 2, 1) := by decide +kernel
theorem d_Mod_act_139 : decode prog_15_method_13_code 139 = .ok (.iaload, 1) := by decide +kernel
theorem d_Mod_act_140 : decode prog_15_method_13_code 140 = .ok (.invokevirtual 60, 3) := by decide +kernel
theorem d_Mod_act_143 : decode prog_15_method_13_code 143 = .ok (.aload_n 0, 1) := by decide +kernel
theorem d_Mod_act_144 : decode prog_15_method_13_code 144 = .ok (.iload_n 2, 1) := by decide +kernel
theorem d_Mod_act_145 : decode prog_15_method_13_code 145 = .ok (.iconst 0, 1) := by decide +kernel
theorem d_Mod_act_146 : decode prog_15_method_13_code 146 = .ok (.iconst 0, 1) := by decide +kernel
theorem d_Mod_act_147 : decode prog_15_method_13_code 147 = .ok (.invokevirtual 60, 3) := by decide +kernel
theorem d_Mod_act_150 : decode prog_15_method_13_code 150 = .ok (.lload 4, 2) := by decide +kernel
theorem d_Mod_act_152 : decode prog_15_method_13_code 152 = .ok (.lreturn, 1) := by decide +kernel
theorem d_Mod_set_0 : decode prog_15_method_12_code 0 = .ok (.aload_n 0, 1) := by decide +kernel
theorem d_Mod_set_1 : decode prog_15_method_12_code 1 = .ok (.getfield 13, 3) := by decide +kernel
theorem d_Mod_set_4 : decode prog_15_method_12_code 4 = .ok (.iload_n 1, 1) := by decide +kernel
theorem d_Mod_set_5 : decode prog_15_method_12_code 5 = .ok (.iload_n 2, 1) := by decide +kernel
theorem d_Mod_set_6 : decode prog_15_method_12_code 6 = .ok (.bastore, 1) := by decide +kernel
theorem d_Mod_set_7 : decode prog_15_method_12_code 7 = .ok (.aload_n 0, 1) := by decide +kernel
theorem d_Mod_set_8 : decode prog_15_method_12_code 8 = .ok (.getfield 7, 3) := by decide +kernel
theorem d_Mod_set_11 : decode prog_15_method_12_code 11 = .ok (.iload_n 1, 1) := by decide +kernel
theorem d_Mod_set_12 : decode prog_15_method_12_code 12 = .ok (.iload_n 2, 1) := by decide +kernel
theorem d_Mod_set_13 : decode prog_15_method_12_code 13 = .ok (.ifCond .eq 7, 3) := by decide +kernel
theorem d_Mod_set_16 : decode prog_15_method_12_code 16 = .ok (.iload_n 3, 1) := by decide +kernel
theorem d_Mod_set_17 : decode prog_15_method_12_code 17 = .ok (.goto 4, 3) := by decide +kernel
theorem d_Mod_set_20 : decode prog_15_method_12_code 20 = .ok (.iconst 0, 1) := by decide +kernel
theorem d_Mod_set_21 : decode prog_15_method_12_code 21 = .ok (.iastore, 1) := by decide +kernel
theorem d_Mod_set_22 : decode prog_15_method_12_code 22 = .ok (.return_, 1) := by decide +kernel
theorem d_Mod_answer_0 : decode prog_15_method_15_code 0 = .ok (.iload_n 1, 1) := by decide +kernel
theorem d_Mod_answer_1 : decode prog_15_method_15_code 1 = .ok (.ifCond .lt 11, 3) := by decide +kernel
theorem d_Mod_answer_4 : decode prog_15_method_15_code 4 = .ok (.iload_n 1, 1) := by decide +kernel
theorem d_Mod_answer_5 : decode prog_15_method_15_code 5 = .ok (.aload_n 0, 1) := by decide +kernel
theorem d_Mod_answer_6 : decode prog_15_method_15_code 6 = .ok (.getfield 49, 3) := by decide +kernel
theorem d_Mod_answer_9 : decode prog_15_method_15_code 9 = .ok (.if_icmp .lt 7, 3) := by decide +kernel
theorem d_Mod_answer_12 : decode prog_15_method_15_code 12 = .ok (.ldc2_w 68, 3) := by decide +kernel
theorem d_Mod_answer_15 : decode prog_15_method_15_code 15 = .ok (.lreturn, 1) := by decide +kernel
theorem d_Mod_answer_16 : decode prog_15_method_15_code 16 = .ok (.iload_n 1, 1) := by decide +kernel
theorem d_Mod_answer_17 : decode prog_15_method_15_code 17 = .ok (.aload_n 0, 1) := by decide +kernel
theorem d_Mod_answer_18 : decode prog_15_method_15_code 18 = .ok (.getfield 49, 3) := by decide +kernel
theorem d_Mod_answer_21 : decode prog_15_method_15_code 21 = .ok (.aload_n 0, 1) := by decide +kernel
theorem d_Mod_answer_22 : decode prog_15_method_15_code 22 = .ok (.getfield 46, 3) := by decide +kernel
theorem d_Mod_answer_25 : decode prog_15_method_15_code 25 = .ok (.isub, 1) := by decide +kernel
theorem d_Mod_answer_26 : decode prog_15_method_15_code 26 = .ok (.if_icmp .lt 9, 3) := by decide +kernel
theorem d_Mod_answer_29 : decode prog_15_method_15_code 29 = .ok (.ldc2_w 70, 3) := by decide +kernel
theorem d_Mod_answer_32 : decode prog_15_method_15_code 32 = .ok (.goto 9, 3) := by decide +kernel
theorem d_Mod_answer_35 : decode prog_15_method_15_code 35 = .ok (.aload_n 0, 1) := by decide +kernel
theorem d_Mod_answer_36 : decode prog_15_method_15_code 36 = .ok (.getfield 26, 3) := by decide +kernel
theorem d_Mod_answer_39 : decode prog_15_method_15_code 39 = .ok (.iload_n 1, 1) := by decide +kernel
theorem d_Mod_answer_40 : decode prog_15_method_15_code 40 = .ok (.laload, 1) := by decide +kernel
theorem d_Mod_answer_41 : decode prog_15_method_15_code 41 = .ok (.lreturn, 1) := by decide +kernel
theorem d_Mod_at_0 : decode prog_15_method_17_code 0 = .ok (.iload_n 1, 1) := by decide +kernel
theorem d_Mod_at_1 : decode prog_15_method_17_code 1 = .ok (.ifCond .lt 30, 3) := by decide +kernel
theorem d_Mod_at_4 : decode prog_15_method_17_code 4 = .ok (.iload_n 1, 1) := by decide +kernel
theorem d_Mod_at_5 : decode prog_15_method_17_code 5 = .ok (.aload_n 0, 1) := by decide +kernel
theorem d_Mod_at_6 : decode prog_15_method_17_code 6 = .ok (.getfield 34, 3) := by decide +kernel
theorem d_Mod_at_9 : decode prog_15_method_17_code 9 = .ok (.if_icmp .ge 22, 3) := by decide +kernel
theorem d_Mod_at_12 : decode prog_15_method_17_code 12 = .ok (.iload_n 2, 1) := by decide +kernel
theorem d_Mod_at_13 : decode prog_15_method_17_code 13 = .ok (.ifCond .lt 18, 3) := by decide +kernel
theorem d_Mod_at_16 : decode prog_15_method_17_code 16 = .ok (.iload_n 2, 1) := by decide +kernel
theorem d_Mod_at_17 : decode prog_15_method_17_code 17 = .ok (.bipush 39, 2) := by decide +kernel
theorem d_Mod_at_19 : decode prog_15_method_17_code 19 = .ok (.if_icmp .gt 12, 3) := by decide +kernel
theorem d_Mod_at_22 : decode prog_15_method_17_code 22 = .ok (.iload_n 3, 1) := by decide +kernel
theorem d_Mod_at_23 : decode prog_15_method_17_code 23 = .ok (.ifCond .lt 8, 3) := by decide +kernel
theorem d_Mod_at_26 : decode prog_15_method_17_code 26 = .ok (.iload_n 3, 1) := by decide +kernel
theorem d_Mod_at_27 : decode prog_15_method_17_code 27 = .ok (.iconst 1, 1) := by decide +kernel
theorem d_Mod_at_28 : decode prog_15_method_17_code 28 = .ok (.if_icmp .le 7, 3) := by decide +kernel
theorem d_Mod_at_31 : decode prog_15_method_17_code 31 = .ok (.ldc2_w 68, 3) := by decide +kernel
theorem d_Mod_at_34 : decode prog_15_method_17_code 34 = .ok (.lreturn, 1) := by decide +kernel
theorem d_Mod_at_35 : decode prog_15_method_17_code 35 = .ok (.aload_n 0, 1) := by decide +kernel
theorem d_Mod_at_36 : decode prog_15_method_17_code 36 = .ok (.getfield 52, 3) := by decide +kernel
theorem d_Mod_at_39 : decode prog_15_method_17_code 39 = .ok (.ifCond .ne 7, 3) := by decide +kernel
theorem d_Mod_at_42 : decode prog_15_method_17_code 42 = .ok (.ldc2_w 72, 3) := by decide +kernel
theorem d_Mod_at_45 : decode prog_15_method_17_code 45 = .ok (.lreturn, 1) := by decide +kernel
theorem d_Mod_at_46 : decode prog_15_method_17_code 46 = .ok (.aload_n 0, 1) := by decide +kernel
theorem d_Mod_at_47 : decode prog_15_method_17_code 47 = .ok (.iload_n 1, 1) := by decide +kernel
theorem d_Mod_at_48 : decode prog_15_method_17_code 48 = .ok (.invokevirtual 74, 3) := by decide +kernel
theorem d_Mod_at_51 : decode prog_15_method_17_code 51 = .ok (.ifCond .eq 12, 3) := by decide +kernel
theorem d_Mod_at_54 : decode prog_15_method_17_code 54 = .ok (.aload_n 0, 1) := by decide +kernel
theorem d_Mod_at_55 : decode prog_15_method_17_code 55 = .ok (.getfield 13, 3) := by decide +kernel
theorem d_Mod_at_58 : decode prog_15_method_17_code 58 = .ok (.iload_n 2, 1) := by decide +kernel
theorem d_Mod_at_59 : decode prog_15_method_17_code 59 = .ok (.baload, 1) := by decide +kernel
theorem d_Mod_at_60 : decode prog_15_method_17_code 60 = .ok (.ifCond .ne 5, 3) := by decide +kernel
theorem d_Mod_at_63 : decode prog_15_method_17_code 63 = .ok (.lconst 0, 1) := by decide +kernel
theorem d_Mod_at_64 : decode prog_15_method_17_code 64 = .ok (.lreturn, 1) := by decide +kernel
theorem d_Mod_at_65 : decode prog_15_method_17_code 65 = .ok (.iload_n 3, 1) := by decide +kernel
theorem d_Mod_at_66 : decode prog_15_method_17_code 66 = .ok (.ifCond .ne 7, 3) := by decide +kernel
theorem d_Mod_at_69 : decode prog_15_method_17_code 69 = .ok (.lconst 1, 1) := by decide +kernel
theorem d_Mod_at_70 : decode prog_15_method_17_code 70 = .ok (.goto 10, 3) := by decide +kernel
theorem d_Mod_at_73 : decode prog_15_method_17_code 73 = .ok (.aload_n 0, 1) := by decide +kernel
theorem d_Mod_at_74 : decode prog_15_method_17_code 74 = .ok (.getfield 7, 3) := by decide +kernel
theorem d_Mod_at_77 : decode prog_15_method_17_code 77 = .ok (.iload_n 2, 1) := by decide +kernel
theorem d_Mod_at_78 : decode prog_15_method_17_code 78 = .ok (.iaload, 1) := by decide +kernel
theorem d_Mod_at_79 : decode prog_15_method_17_code 79 = .ok (.i2l, 1) := by decide +kernel
theorem d_Mod_at_80 : decode prog_15_method_17_code 80 = .ok (.lreturn, 1) := by decide +kernel
theorem d_Mod_copy_0 : decode prog_15_method_16_code 0 = .ok (.iconst 0, 1) := by decide +kernel
theorem d_Mod_copy_1 : decode prog_15_method_16_code 1 = .ok (.istore_n 2, 1) := by decide +kernel
theorem d_Mod_copy_2 : decode prog_15_method_16_code 2 = .ok (.iconst 0, 1) := by decide +kernel
theorem d_Mod_copy_3 : decode prog_15_method_16_code 3 = .ok (.istore_n 3, 1) := by decide +kernel
theorem d_Mod_copy_4 : decode prog_15_method_16_code 4 = .ok (.iload_n 3, 1) := by decide +kernel
theorem d_Mod_copy_5 : decode prog_15_method_16_code 5 = .ok (.aload_n 0, 1) := by decide +kernel
theorem d_Mod_copy_6 : decode prog_15_method_16_code 6 = .ok (.getfield 34, 3) := by decide +kernel
theorem d_Mod_copy_9 : decode prog_15_method_16_code 9 = .ok (.if_icmp .ge 29, 3) := by decide +kernel
theorem d_Mod_copy_12 : decode prog_15_method_16_code 12 = .ok (.iload_n 3, 1) := by decide +kernel
theorem d_Mod_copy_13 : decode prog_15_method_16_code 13 = .ok (.bipush 37, 2) := by decide +kernel
theorem d_Mod_copy_15 : decode prog_15_method_16_code 15 = .ok (.imul, 1) := by decide +kernel
theorem d_Mod_copy_16 : decode prog_15_method_16_code 16 = .ok (.bipush 11, 2) := by decide +kernel
theorem d_Mod_copy_18 : decode prog_15_method_16_code 18 = .ok (.irem, 1) := by decide +kernel
theorem d_Mod_copy_19 : decode prog_15_method_16_code 19 = .ok (.iload_n 1, 1) := by decide +kernel
theorem d_Mod_copy_20 : decode prog_15_method_16_code 20 = .ok (.bipush 37, 2) := by decide +kernel
theorem d_Mod_copy_22 : decode prog_15_method_16_code 22 = .ok (.imul, 1) := by decide +kernel
theorem d_Mod_copy_23 : decode prog_15_method_16_code 23 = .ok (.bipush 11, 2) := by decide +kernel
theorem d_Mod_copy_25 : decode prog_15_method_16_code 25 = .ok (.irem, 1) := by decide +kernel
theorem d_Mod_copy_26 : decode prog_15_method_16_code 26 = .ok (.if_icmp .le 6, 3) := by decide +kernel
theorem d_Mod_copy_29 : decode prog_15_method_16_code 29 = .ok (.iinc 2 1, 3) := by decide +kernel
theorem d_Mod_copy_32 : decode prog_15_method_16_code 32 = .ok (.iinc 3 1, 3) := by decide +kernel
theorem d_Mod_copy_35 : decode prog_15_method_16_code 35 = .ok (.goto (-31), 3) := by decide +kernel
theorem d_Mod_copy_38 : decode prog_15_method_16_code 38 = .ok (.iload_n 2, 1) := by decide +kernel
theorem d_Mod_copy_39 : decode prog_15_method_16_code 39 = .ok (.aload_n 0, 1) := by decide +kernel
theorem d_Mod_copy_40 : decode prog_15_method_16_code 40 = .ok (.getfield 37, 3) := by decide +kernel
theorem d_Mod_copy_43 : decode prog_15_method_16_code 43 = .ok (.if_icmp .ge 7, 3) := by decide +kernel
theorem d_Mod_copy_46 : decode prog_15_method_16_code 46 = .ok (.iconst 1, 1) := by decide +kernel
theorem d_Mod_copy_47 : decode prog_15_method_16_code 47 = .ok (.goto 4, 3) := by decide +kernel
theorem d_Mod_copy_50 : decode prog_15_method_16_code 50 = .ok (.iconst 0, 1) := by decide +kernel
theorem d_Mod_copy_51 : decode prog_15_method_16_code 51 = .ok (.ireturn, 1) := by decide +kernel
theorem d_Mod_count_0 : decode prog_15_method_18_code 0 = .ok (.iconst 0, 1) := by decide +kernel
theorem d_Mod_count_1 : decode prog_15_method_18_code 1 = .ok (.istore_n 2, 1) := by decide +kernel
theorem d_Mod_count_2 : decode prog_15_method_18_code 2 = .ok (.iconst 0, 1) := by decide +kernel
theorem d_Mod_count_3 : decode prog_15_method_18_code 3 = .ok (.istore_n 3, 1) := by decide +kernel
theorem d_Mod_count_4 : decode prog_15_method_18_code 4 = .ok (.iload_n 3, 1) := by decide +kernel
theorem d_Mod_count_5 : decode prog_15_method_18_code 5 = .ok (.aload_n 0, 1) := by decide +kernel
theorem d_Mod_count_6 : decode prog_15_method_18_code 6 = .ok (.getfield 34, 3) := by decide +kernel
theorem d_Mod_count_9 : decode prog_15_method_18_code 9 = .ok (.if_icmp .ge 20, 3) := by decide +kernel
theorem d_Mod_count_12 : decode prog_15_method_18_code 12 = .ok (.iload_n 2, 1) := by decide +kernel
theorem d_Mod_count_13 : decode prog_15_method_18_code 13 = .ok (.aload_n 0, 1) := by decide +kernel
theorem d_Mod_count_14 : decode prog_15_method_18_code 14 = .ok (.getfield 40, 3) := by decide +kernel
theorem d_Mod_count_17 : decode prog_15_method_18_code 17 = .ok (.iload_n 3, 1) := by decide +kernel
theorem d_Mod_count_18 : decode prog_15_method_18_code 18 = .ok (.ishr, 1) := by decide +kernel
theorem d_Mod_count_19 : decode prog_15_method_18_code 19 = .ok (.iconst 1, 1) := by decide +kernel
theorem d_Mod_count_20 : decode prog_15_method_18_code 20 = .ok (.iand, 1) := by decide +kernel
theorem d_Mod_count_21 : decode prog_15_method_18_code 21 = .ok (.iadd, 1) := by decide +kernel
theorem d_Mod_count_22 : decode prog_15_method_18_code 22 = .ok (.istore_n 2, 1) := by decide +kernel
theorem d_Mod_count_23 : decode prog_15_method_18_code 23 = .ok (.iinc 3 1, 3) := by decide +kernel
theorem d_Mod_count_26 : decode prog_15_method_18_code 26 = .ok (.goto (-22), 3) := by decide +kernel
theorem d_Mod_count_29 : decode prog_15_method_18_code 29 = .ok (.iload_n 1, 1) := by decide +kernel
theorem d_Mod_count_30 : decode prog_15_method_18_code 30 = .ok (.tableswitch 73 0 5 #[38, 43, 48, 53, 55, 60], 38) := by decide +kernel
theorem d_Mod_count_68 : decode prog_15_method_18_code 68 = .ok (.aload_n 0, 1) := by decide +kernel
theorem d_Mod_count_69 : decode prog_15_method_18_code 69 = .ok (.getfield 49, 3) := by decide +kernel
theorem d_Mod_count_72 : decode prog_15_method_18_code 72 = .ok (.ireturn, 1) := by decide +kernel
theorem d_Mod_count_73 : decode prog_15_method_18_code 73 = .ok (.aload_n 0, 1) := by decide +kernel
theorem d_Mod_count_74 : decode prog_15_method_18_code 74 = .ok (.getfield 46, 3) := by decide +kernel
theorem d_Mod_count_77 : decode prog_15_method_18_code 77 = .ok (.ireturn, 1) := by decide +kernel
theorem d_Mod_count_78 : decode prog_15_method_18_code 78 = .ok (.aload_n 0, 1) := by decide +kernel
theorem d_Mod_count_79 : decode prog_15_method_18_code 79 = .ok (.getfield 30, 3) := by decide +kernel
theorem d_Mod_count_82 : decode prog_15_method_18_code 82 = .ok (.ireturn, 1) := by decide +kernel
theorem d_Mod_count_83 : decode prog_15_method_18_code 83 = .ok (.iload_n 2, 1) := by decide +kernel
theorem d_Mod_count_84 : decode prog_15_method_18_code 84 = .ok (.ireturn, 1) := by decide +kernel
theorem d_Mod_count_85 : decode prog_15_method_18_code 85 = .ok (.aload_n 0, 1) := by decide +kernel
theorem d_Mod_count_86 : decode prog_15_method_18_code 86 = .ok (.getfield 43, 3) := by decide +kernel
theorem d_Mod_count_89 : decode prog_15_method_18_code 89 = .ok (.ireturn, 1) := by decide +kernel
theorem d_Mod_count_90 : decode prog_15_method_18_code 90 = .ok (.aload_n 0, 1) := by decide +kernel
theorem d_Mod_count_91 : decode prog_15_method_18_code 91 = .ok (.getfield 52, 3) := by decide +kernel
theorem d_Mod_count_94 : decode prog_15_method_18_code 94 = .ok (.ifCond .eq 7, 3) := by decide +kernel
theorem d_Mod_count_97 : decode prog_15_method_18_code 97 = .ok (.iconst 1, 1) := by decide +kernel
theorem d_Mod_count_98 : decode prog_15_method_18_code 98 = .ok (.goto 4, 3) := by decide +kernel
theorem d_Mod_count_101 : decode prog_15_method_18_code 101 = .ok (.iconst 0, 1) := by decide +kernel
theorem d_Mod_count_102 : decode prog_15_method_18_code 102 = .ok (.ireturn, 1) := by decide +kernel
theorem d_Mod_count_103 : decode prog_15_method_18_code 103 = .ok (.iconst (-1), 1) := by decide +kernel
theorem d_Mod_count_104 : decode prog_15_method_18_code 104 = .ok (.ireturn, 1) := by decide +kernel
theorem d_Law_law_0 : decode code 0 = .ok (.new 7, 3) := by decide +kernel
theorem d_Law_law_3 : decode code 3 = .ok (.dup, 1) := by decide +kernel
theorem d_Law_law_4 : decode code 4 = .ok (.aload_n 0, 1) := by decide +kernel
theorem d_Law_law_5 : decode code 5 = .ok (.iconst 0, 1) := by decide +kernel
theorem d_Law_law_6 : decode code 6 = .ok (.invokestatic 9, 3) := by decide +kernel
theorem d_Law_law_9 : decode code 9 = .ok (.aload_n 0, 1) := by decide +kernel
theorem d_Law_law_10 : decode code 10 = .ok (.iconst 1, 1) := by decide +kernel
theorem d_Law_law_11 : decode code 11 = .ok (.invokestatic 9, 3) := by decide +kernel
theorem d_Law_law_14 : decode code 14 = .ok (.invokespecial 15, 3) := by decide +kernel
theorem d_Law_law_17 : decode code 17 = .ok (.astore_n 1, 1) := by decide +kernel
theorem d_Law_law_18 : decode code 18 = .ok (.new 18, 3) := by decide +kernel
theorem d_Law_law_21 : decode code 21 = .ok (.dup, 1) := by decide +kernel
theorem d_Law_law_22 : decode code 22 = .ok (.aload_n 0, 1) := by decide +kernel
theorem d_Law_law_23 : decode code 23 = .ok (.iconst 0, 1) := by decide +kernel
theorem d_Law_law_24 : decode code 24 = .ok (.invokestatic 9, 3) := by decide +kernel
theorem d_Law_law_27 : decode code 27 = .ok (.aload_n 0, 1) := by decide +kernel
theorem d_Law_law_28 : decode code 28 = .ok (.iconst 1, 1) := by decide +kernel
theorem d_Law_law_29 : decode code 29 = .ok (.invokestatic 9, 3) := by decide +kernel
theorem d_Law_law_32 : decode code 32 = .ok (.invokespecial 20, 3) := by decide +kernel
theorem d_Law_law_35 : decode code 35 = .ok (.astore_n 2, 1) := by decide +kernel
theorem d_Law_law_36 : decode code 36 = .ok (.iconst 2, 1) := by decide +kernel
theorem d_Law_law_37 : decode code 37 = .ok (.istore_n 3, 1) := by decide +kernel
theorem d_Law_law_38 : decode code 38 = .ok (.iload_n 3, 1) := by decide +kernel
theorem d_Law_law_39 : decode code 39 = .ok (.aload_n 0, 1) := by decide +kernel
theorem d_Law_law_40 : decode code 40 = .ok (.arraylength, 1) := by decide +kernel
theorem d_Law_law_41 : decode code 41 = .ok (.iconst 4, 1) := by decide +kernel
theorem d_Law_law_42 : decode code 42 = .ok (.isub, 1) := by decide +kernel
theorem d_Law_law_43 : decode code 43 = .ok (.if_icmp .gt 444, 3) := by decide +kernel
theorem d_Law_law_46 : decode code 46 = .ok (.aload_n 0, 1) := by decide +kernel
theorem d_Law_law_47 : decode code 47 = .ok (.iload_n 3, 1) := by decide +kernel
theorem d_Law_law_48 : decode code 48 = .ok (.iaload, 1) := by decide +kernel
theorem d_Law_law_49 : decode code 49 = .ok (.bipush 15, 2) := by decide +kernel
theorem d_Law_law_51 : decode code 51 = .ok (.iand, 1) := by decide +kernel
theorem d_Law_law_52 : decode code 52 = .ok (.tableswitch 429 0 12 #[68, 111, 132, 153, 174, 207, 230, 279, 302, 325, 338, 362, 406], 68) := by decide +kernel
theorem d_Law_law_120 : decode code 120 = .ok (.aload_n 1, 1) := by decide +kernel
theorem d_Law_law_121 : decode code 121 = .ok (.aload_n 0, 1) := by decide +kernel
theorem d_Law_law_122 : decode code 122 = .ok (.iload_n 3, 1) := by decide +kernel
theorem d_Law_law_123 : decode code 123 = .ok (.iconst 1, 1) := by decide +kernel
theorem d_Law_law_124 : decode code 124 = .ok (.iadd, 1) := by decide +kernel
theorem d_Law_law_125 : decode code 125 = .ok (.iaload, 1) := by decide +kernel
theorem d_Law_law_126 : decode code 126 = .ok (.aload_n 0, 1) := by decide +kernel
theorem d_Law_law_127 : decode code 127 = .ok (.iload_n 3, 1) := by decide +kernel
theorem d_Law_law_128 : decode code 128 = .ok (.iconst 2, 1) := by decide +kernel
theorem d_Law_law_129 : decode code 129 = .ok (.iadd, 1) := by decide +kernel
theorem d_Law_law_130 : decode code 130 = .ok (.iaload, 1) := by decide +kernel
theorem d_Law_law_131 : decode code 131 = .ok (.aload_n 0, 1) := by decide +kernel
theorem d_Law_law_132 : decode code 132 = .ok (.iload_n 3, 1) := by decide +kernel
theorem d_Law_law_133 : decode code 133 = .ok (.iconst 3, 1) := by decide +kernel
theorem d_Law_law_134 : decode code 134 = .ok (.iadd, 1) := by decide +kernel
theorem d_Law_law_135 : decode code 135 = .ok (.iaload, 1) := by decide +kernel
theorem d_Law_law_136 : decode code 136 = .ok (.invokevirtual 21, 3) := by decide +kernel
theorem d_Law_law_139 : decode code 139 = .ok (.aload_n 2, 1) := by decide +kernel
theorem d_Law_law_140 : decode code 140 = .ok (.aload_n 0, 1) := by decide +kernel
theorem d_Law_law_141 : decode code 141 = .ok (.iload_n 3, 1) := by decide +kernel
theorem d_Law_law_142 : decode code 142 = .ok (.iconst 1, 1) := by decide +kernel
theorem d_Law_law_143 : decode code 143 = .ok (.iadd, 1) := by decide +kernel
theorem d_Law_law_144 : decode code 144 = .ok (.iaload, 1) := by decide +kernel
theorem d_Law_law_145 : decode code 145 = .ok (.aload_n 0, 1) := by decide +kernel
theorem d_Law_law_146 : decode code 146 = .ok (.iload_n 3, 1) := by decide +kernel
theorem d_Law_law_147 : decode code 147 = .ok (.iconst 2, 1) := by decide +kernel
theorem d_Law_law_148 : decode code 148 = .ok (.iadd, 1) := by decide +kernel
theorem d_Law_law_149 : decode code 149 = .ok (.iaload, 1) := by decide +kernel
theorem d_Law_law_150 : decode code 150 = .ok (.aload_n 0, 1) := by decide +kernel
theorem d_Law_law_151 : decode code 151 = .ok (.iload_n 3, 1) := by decide +kernel
theorem d_Law_law_152 : decode code 152 = .ok (.iconst 3, 1) := by decide +kernel
theorem d_Law_law_153 : decode code 153 = .ok (.iadd, 1) := by decide +kernel
theorem d_Law_law_154 : decode code 154 = .ok (.iaload, 1) := by decide +kernel
theorem d_Law_law_155 : decode code 155 = .ok (.invokevirtual 25, 3) := by decide +kernel
theorem d_Law_law_158 : decode code 158 = .ok (.if_icmp .eq 323, 3) := by decide +kernel
theorem d_Law_law_161 : decode code 161 = .ok (.iconst 0, 1) := by decide +kernel
theorem d_Law_law_162 : decode code 162 = .ok (.ireturn, 1) := by decide +kernel
theorem d_Law_law_163 : decode code 163 = .ok (.aload_n 1, 1) := by decide +kernel
theorem d_Law_law_164 : decode code 164 = .ok (.aload_n 0, 1) := by decide +kernel
theorem d_Law_law_165 : decode code 165 = .ok (.iload_n 3, 1) := by decide +kernel
theorem d_Law_law_166 : decode code 166 = .ok (.iconst 1, 1) := by decide +kernel
theorem d_Law_law_167 : decode code 167 = .ok (.iadd, 1) := by decide +kernel
theorem d_Law_law_168 : decode code 168 = .ok (.iaload, 1) := by decide +kernel
theorem d_Law_law_169 : decode code 169 = .ok (.invokevirtual 26, 3) := by decide +kernel
theorem d_Law_law_172 : decode code 172 = .ok (.aload_n 2, 1) := by decide +kernel
theorem d_Law_law_173 : decode code 173 = .ok (.aload_n 0, 1) := by decide +kernel
theorem d_Law_law_174 : decode code 174 = .ok (.iload_n 3, 1) := by decide +kernel
theorem d_Law_law_175 : decode code 175 = .ok (.iconst 1, 1) := by decide +kernel
theorem d_Law_law_176 : decode code 176 = .ok (.iadd, 1) := by decide +kernel
theorem d_Law_law_177 : decode code 177 = .ok (.iaload, 1) := by decide +kernel
theorem d_Law_law_178 : decode code 178 = .ok (.invokevirtual 30, 3) := by decide +kernel
theorem d_Law_law_181 : decode code 181 = .ok (.goto 300, 3) := by decide +kernel
theorem d_Law_law_184 : decode code 184 = .ok (.aload_n 1, 1) := by decide +kernel
theorem d_Law_law_185 : decode code 185 = .ok (.aload_n 0, 1) := by decide +kernel
theorem d_Law_law_186 : decode code 186 = .ok (.iload_n 3, 1) := by decide +kernel
theorem d_Law_law_187 : decode code 187 = .ok (.iconst 1, 1) := by decide +kernel
theorem d_Law_law_188 : decode code 188 = .ok (.iadd, 1) := by decide +kernel
theorem d_Law_law_189 : decode code 189 = .ok (.iaload, 1) := by decide +kernel
theorem d_Law_law_190 : decode code 190 = .ok (.invokevirtual 31, 3) := by decide +kernel
theorem d_Law_law_193 : decode code 193 = .ok (.aload_n 2, 1) := by decide +kernel
theorem d_Law_law_194 : decode code 194 = .ok (.aload_n 0, 1) := by decide +kernel
theorem d_Law_law_195 : decode code 195 = .ok (.iload_n 3, 1) := by decide +kernel
theorem d_Law_law_196 : decode code 196 = .ok (.iconst 1, 1) := by decide +kernel
theorem d_Law_law_197 : decode code 197 = .ok (.iadd, 1) := by decide +kernel
theorem d_Law_law_198 : decode code 198 = .ok (.iaload, 1) := by decide +kernel
theorem d_Law_law_199 : decode code 199 = .ok (.invokevirtual 34, 3) := by decide +kernel
theorem d_Law_law_202 : decode code 202 = .ok (.goto 279, 3) := by decide +kernel
theorem d_Law_law_205 : decode code 205 = .ok (.aload_n 1, 1) := by decide +kernel
theorem d_Law_law_206 : decode code 206 = .ok (.aload_n 0, 1) := by decide +kernel
theorem d_Law_law_207 : decode code 207 = .ok (.iload_n 3, 1) := by decide +kernel
theorem d_Law_law_208 : decode code 208 = .ok (.iconst 1, 1) := by decide +kernel
theorem d_Law_law_209 : decode code 209 = .ok (.iadd, 1) := by decide +kernel
theorem d_Law_law_210 : decode code 210 = .ok (.iaload, 1) := by decide +kernel
theorem d_Law_law_211 : decode code 211 = .ok (.invokevirtual 35, 3) := by decide +kernel
theorem d_Law_law_214 : decode code 214 = .ok (.aload_n 2, 1) := by decide +kernel
theorem d_Law_law_215 : decode code 215 = .ok (.aload_n 0, 1) := by decide +kernel
theorem d_Law_law_216 : decode code 216 = .ok (.iload_n 3, 1) := by decide +kernel
theorem d_Law_law_217 : decode code 217 = .ok (.iconst 1, 1) := by decide +kernel
theorem d_Law_law_218 : decode code 218 = .ok (.iadd, 1) := by decide +kernel
theorem d_Law_law_219 : decode code 219 = .ok (.iaload, 1) := by decide +kernel
theorem d_Law_law_220 : decode code 220 = .ok (.invokevirtual 38, 3) := by decide +kernel
theorem d_Law_law_223 : decode code 223 = .ok (.goto 258, 3) := by decide +kernel
theorem d_Law_law_226 : decode code 226 = .ok (.aload_n 1, 1) := by decide +kernel
theorem d_Law_law_227 : decode code 227 = .ok (.aload_n 0, 1) := by decide +kernel
theorem d_Law_law_228 : decode code 228 = .ok (.iload_n 3, 1) := by decide +kernel
theorem d_Law_law_229 : decode code 229 = .ok (.iconst 1, 1) := by decide +kernel
theorem d_Law_law_230 : decode code 230 = .ok (.iadd, 1) := by decide +kernel
theorem d_Law_law_231 : decode code 231 = .ok (.iaload, 1) := by decide +kernel
theorem d_Law_law_232 : decode code 232 = .ok (.aload_n 0, 1) := by decide +kernel
theorem d_Law_law_233 : decode code 233 = .ok (.iload_n 3, 1) := by decide +kernel
theorem d_Law_law_234 : decode code 234 = .ok (.iconst 2, 1) := by decide +kernel
theorem d_Law_law_235 : decode code 235 = .ok (.iadd, 1) := by decide +kernel
theorem d_Law_law_236 : decode code 236 = .ok (.iaload, 1) := by decide +kernel
theorem d_Law_law_237 : decode code 237 = .ok (.invokevirtual 39, 3) := by decide +kernel
theorem d_Law_law_240 : decode code 240 = .ok (.aload_n 2, 1) := by decide +kernel
theorem d_Law_law_241 : decode code 241 = .ok (.aload_n 0, 1) := by decide +kernel
theorem d_Law_law_242 : decode code 242 = .ok (.iload_n 3, 1) := by decide +kernel
theorem d_Law_law_243 : decode code 243 = .ok (.iconst 1, 1) := by decide +kernel
theorem d_Law_law_244 : decode code 244 = .ok (.iadd, 1) := by decide +kernel
theorem d_Law_law_245 : decode code 245 = .ok (.iaload, 1) := by decide +kernel
theorem d_Law_law_246 : decode code 246 = .ok (.aload_n 0, 1) := by decide +kernel
theorem d_Law_law_247 : decode code 247 = .ok (.iload_n 3, 1) := by decide +kernel
theorem d_Law_law_248 : decode code 248 = .ok (.iconst 2, 1) := by decide +kernel
theorem d_Law_law_249 : decode code 249 = .ok (.iadd, 1) := by decide +kernel
theorem d_Law_law_250 : decode code 250 = .ok (.iaload, 1) := by decide +kernel
theorem d_Law_law_251 : decode code 251 = .ok (.invokevirtual 43, 3) := by decide +kernel
theorem d_Law_law_254 : decode code 254 = .ok (.if_icmp .eq 227, 3) := by decide +kernel
theorem d_Law_law_257 : decode code 257 = .ok (.iconst 0, 1) := by decide +kernel
theorem d_Law_law_258 : decode code 258 = .ok (.ireturn, 1) := by decide +kernel
theorem d_Law_law_259 : decode code 259 = .ok (.aload_n 1, 1) := by decide +kernel
theorem d_Law_law_260 : decode code 260 = .ok (.aload_n 0, 1) := by decide +kernel
theorem d_Law_law_261 : decode code 261 = .ok (.iload_n 3, 1) := by decide +kernel
theorem d_Law_law_262 : decode code 262 = .ok (.iconst 1, 1) := by decide +kernel
theorem d_Law_law_263 : decode code 263 = .ok (.iadd, 1) := by decide +kernel
theorem d_Law_law_264 : decode code 264 = .ok (.iaload, 1) := by decide +kernel
theorem d_Law_law_265 : decode code 265 = .ok (.invokevirtual 44, 3) := by decide +kernel
theorem d_Law_law_268 : decode code 268 = .ok (.aload_n 2, 1) := by decide +kernel
theorem d_Law_law_269 : decode code 269 = .ok (.aload_n 0, 1) := by decide +kernel
theorem d_Law_law_270 : decode code 270 = .ok (.iload_n 3, 1) := by decide +kernel
theorem d_Law_law_271 : decode code 271 = .ok (.iconst 1, 1) := by decide +kernel
theorem d_Law_law_272 : decode code 272 = .ok (.iadd, 1) := by decide +kernel
theorem d_Law_law_273 : decode code 273 = .ok (.iaload, 1) := by decide +kernel
theorem d_Law_law_274 : decode code 274 = .ok (.invokevirtual 48, 3) := by decide +kernel
theorem d_Law_law_277 : decode code 277 = .ok (.if_icmp .eq 204, 3) := by decide +kernel
theorem d_Law_law_280 : decode code 280 = .ok (.iconst 0, 1) := by decide +kernel
theorem d_Law_law_281 : decode code 281 = .ok (.ireturn, 1) := by decide +kernel
theorem d_Law_law_282 : decode code 282 = .ok (.aload_n 1, 1) := by decide +kernel
theorem d_Law_law_283 : decode code 283 = .ok (.aload_n 0, 1) := by decide +kernel
theorem d_Law_law_284 : decode code 284 = .ok (.iload_n 3, 1) := by decide +kernel
theorem d_Law_law_285 : decode code 285 = .ok (.iconst 1, 1) := by decide +kernel
theorem d_Law_law_286 : decode code 286 = .ok (.iadd, 1) := by decide +kernel
theorem d_Law_law_287 : decode code 287 = .ok (.iaload, 1) := by decide +kernel
theorem d_Law_law_288 : decode code 288 = .ok (.aload_n 0, 1) := by decide +kernel
theorem d_Law_law_289 : decode code 289 = .ok (.iload_n 3, 1) := by decide +kernel
theorem d_Law_law_290 : decode code 290 = .ok (.iconst 2, 1) := by decide +kernel
theorem d_Law_law_291 : decode code 291 = .ok (.iadd, 1) := by decide +kernel
theorem d_Law_law_292 : decode code 292 = .ok (.iaload, 1) := by decide +kernel
theorem d_Law_law_293 : decode code 293 = .ok (.ifCond .eq 7, 3) := by decide +kernel
theorem d_Law_law_296 : decode code 296 = .ok (.iconst 1, 1) := by decide +kernel
theorem d_Law_law_297 : decode code 297 = .ok (.goto 4, 3) := by decide +kernel
theorem d_Law_law_300 : decode code 300 = .ok (.iconst 0, 1) := by decide +kernel
theorem d_Law_law_301 : decode code 301 = .ok (.invokevirtual 49, 3) := by decide +kernel
theorem d_Law_law_304 : decode code 304 = .ok (.aload_n 2, 1) := by decide +kernel
theorem d_Law_law_305 : decode code 305 = .ok (.aload_n 0, 1) := by decide +kernel
theorem d_Law_law_306 : decode code 306 = .ok (.iload_n 3, 1) := by decide +kernel
theorem d_Law_law_307 : decode code 307 = .ok (.iconst 1, 1) := by decide +kernel
theorem d_Law_law_308 : decode code 308 = .ok (.iadd, 1) := by decide +kernel
theorem d_Law_law_309 : decode code 309 = .ok (.iaload, 1) := by decide +kernel
theorem d_Law_law_310 : decode code 310 = .ok (.aload_n 0, 1) := by decide +kernel
theorem d_Law_law_311 : decode code 311 = .ok (.iload_n 3, 1) := by decide +kernel
theorem d_Law_law_312 : decode code 312 = .ok (.iconst 2, 1) := by decide +kernel
theorem d_Law_law_313 : decode code 313 = .ok (.iadd, 1) := by decide +kernel
theorem d_Law_law_314 : decode code 314 = .ok (.iaload, 1) := by decide +kernel
theorem d_Law_law_315 : decode code 315 = .ok (.ifCond .eq 7, 3) := by decide +kernel
theorem d_Law_law_318 : decode code 318 = .ok (.iconst 1, 1) := by decide +kernel
theorem d_Law_law_319 : decode code 319 = .ok (.goto 4, 3) := by decide +kernel
theorem d_Law_law_322 : decode code 322 = .ok (.iconst 0, 1) := by decide +kernel
theorem d_Law_law_323 : decode code 323 = .ok (.invokevirtual 53, 3) := by decide +kernel
theorem d_Law_law_326 : decode code 326 = .ok (.if_icmp .eq 155, 3) := by decide +kernel
theorem d_Law_law_329 : decode code 329 = .ok (.iconst 0, 1) := by decide +kernel
theorem d_Law_law_330 : decode code 330 = .ok (.ireturn, 1) := by decide +kernel
theorem d_Law_law_331 : decode code 331 = .ok (.aload_n 1, 1) := by decide +kernel
theorem d_Law_law_332 : decode code 332 = .ok (.aload_n 0, 1) := by decide +kernel
theorem d_Law_law_333 : decode code 333 = .ok (.iload_n 3, 1) := by decide +kernel
theorem d_Law_law_334 : decode code 334 = .ok (.iconst 1, 1) := by decide +kernel
theorem d_Law_law_335 : decode code 335 = .ok (.iadd, 1) := by decide +kernel
theorem d_Law_law_336 : decode code 336 = .ok (.iaload, 1) := by decide +kernel
theorem d_Law_law_337 : decode code 337 = .ok (.invokevirtual 54, 3) := by decide +kernel
theorem d_Law_law_340 : decode code 340 = .ok (.aload_n 2, 1) := by decide +kernel
theorem d_Law_law_341 : decode code 341 = .ok (.aload_n 0, 1) := by decide +kernel
theorem d_Law_law_342 : decode code 342 = .ok (.iload_n 3, 1) := by decide +kernel
theorem d_Law_law_343 : decode code 343 = .ok (.iconst 1, 1) := by decide +kernel
theorem d_Law_law_344 : decode code 344 = .ok (.iadd, 1) := by decide +kernel
theorem d_Law_law_345 : decode code 345 = .ok (.iaload, 1) := by decide +kernel
theorem d_Law_law_346 : decode code 346 = .ok (.invokevirtual 58, 3) := by decide +kernel
theorem d_Law_law_349 : decode code 349 = .ok (.if_icmp .eq 132, 3) := by decide +kernel
theorem d_Law_law_352 : decode code 352 = .ok (.iconst 0, 1) := by decide +kernel
theorem d_Law_law_353 : decode code 353 = .ok (.ireturn, 1) := by decide +kernel
theorem d_Law_law_354 : decode code 354 = .ok (.aload_n 1, 1) := by decide +kernel
theorem d_Law_law_355 : decode code 355 = .ok (.aload_n 0, 1) := by decide +kernel
theorem d_Law_law_356 : decode code 356 = .ok (.iload_n 3, 1) := by decide +kernel
theorem d_Law_law_357 : decode code 357 = .ok (.iconst 1, 1) := by decide +kernel
theorem d_Law_law_358 : decode code 358 = .ok (.iadd, 1) := by decide +kernel
theorem d_Law_law_359 : decode code 359 = .ok (.iaload, 1) := by decide +kernel
theorem d_Law_law_360 : decode code 360 = .ok (.invokevirtual 59, 3) := by decide +kernel
theorem d_Law_law_363 : decode code 363 = .ok (.aload_n 2, 1) := by decide +kernel
theorem d_Law_law_364 : decode code 364 = .ok (.aload_n 0, 1) := by decide +kernel
theorem d_Law_law_365 : decode code 365 = .ok (.iload_n 3, 1) := by decide +kernel
theorem d_Law_law_366 : decode code 366 = .ok (.iconst 1, 1) := by decide +kernel
theorem d_Law_law_367 : decode code 367 = .ok (.iadd, 1) := by decide +kernel
theorem d_Law_law_368 : decode code 368 = .ok (.iaload, 1) := by decide +kernel
theorem d_Law_law_369 : decode code 369 = .ok (.invokevirtual 62, 3) := by decide +kernel
theorem d_Law_law_372 : decode code 372 = .ok (.if_icmp .eq 109, 3) := by decide +kernel
theorem d_Law_law_375 : decode code 375 = .ok (.iconst 0, 1) := by decide +kernel
theorem d_Law_law_376 : decode code 376 = .ok (.ireturn, 1) := by decide +kernel
theorem d_Law_law_377 : decode code 377 = .ok (.aload_n 1, 1) := by decide +kernel
theorem d_Law_law_378 : decode code 378 = .ok (.invokevirtual 63, 3) := by decide +kernel
theorem d_Law_law_381 : decode code 381 = .ok (.aload_n 2, 1) := by decide +kernel
theorem d_Law_law_382 : decode code 382 = .ok (.invokevirtual 67, 3) := by decide +kernel
theorem d_Law_law_385 : decode code 385 = .ok (.if_icmp .eq 96, 3) := by decide +kernel
theorem d_Law_law_388 : decode code 388 = .ok (.iconst 0, 1) := by decide +kernel
theorem d_Law_law_389 : decode code 389 = .ok (.ireturn, 1) := by decide +kernel
theorem d_Law_law_390 : decode code 390 = .ok (.aload_n 1, 1) := by decide +kernel
theorem d_Law_law_391 : decode code 391 = .ok (.aload_n 0, 1) := by decide +kernel
theorem d_Law_law_392 : decode code 392 = .ok (.iload_n 3, 1) := by decide +kernel
theorem d_Law_law_393 : decode code 393 = .ok (.iconst 1, 1) := by decide +kernel
theorem d_Law_law_394 : decode code 394 = .ok (.iadd, 1) := by decide +kernel
theorem d_Law_law_395 : decode code 395 = .ok (.iaload, 1) := by decide +kernel
theorem d_Law_law_396 : decode code 396 = .ok (.invokevirtual 68, 3) := by decide +kernel
theorem d_Law_law_399 : decode code 399 = .ok (.aload_n 2, 1) := by decide +kernel
theorem d_Law_law_400 : decode code 400 = .ok (.aload_n 0, 1) := by decide +kernel
theorem d_Law_law_401 : decode code 401 = .ok (.iload_n 3, 1) := by decide +kernel
theorem d_Law_law_402 : decode code 402 = .ok (.iconst 1, 1) := by decide +kernel
theorem d_Law_law_403 : decode code 403 = .ok (.iadd, 1) := by decide +kernel
theorem d_Law_law_404 : decode code 404 = .ok (.iaload, 1) := by decide +kernel
theorem d_Law_law_405 : decode code 405 = .ok (.invokevirtual 72, 3) := by decide +kernel
theorem d_Law_law_408 : decode code 408 = .ok (.lcmp, 1) := by decide +kernel
theorem d_Law_law_409 : decode code 409 = .ok (.ifCond .eq 72, 3) := by decide +kernel
theorem d_Law_law_412 : decode code 412 = .ok (.iconst 0, 1) := by decide +kernel
theorem d_Law_law_413 : decode code 413 = .ok (.ireturn, 1) := by decide +kernel
theorem d_Law_law_414 : decode code 414 = .ok (.aload_n 1, 1) := by decide +kernel
theorem d_Law_law_415 : decode code 415 = .ok (.aload_n 0, 1) := by decide +kernel
theorem d_Law_law_416 : decode code 416 = .ok (.iload_n 3, 1) := by decide +kernel
theorem d_Law_law_417 : decode code 417 = .ok (.iconst 1, 1) := by decide +kernel
theorem d_Law_law_418 : decode code 418 = .ok (.iadd, 1) := by decide +kernel
theorem d_Law_law_419 : decode code 419 = .ok (.iaload, 1) := by decide +kernel
theorem d_Law_law_420 : decode code 420 = .ok (.aload_n 0, 1) := by decide +kernel
theorem d_Law_law_421 : decode code 421 = .ok (.iload_n 3, 1) := by decide +kernel
theorem d_Law_law_422 : decode code 422 = .ok (.iconst 2, 1) := by decide +kernel
theorem d_Law_law_423 : decode code 423 = .ok (.iadd, 1) := by decide +kernel
theorem d_Law_law_424 : decode code 424 = .ok (.iaload, 1) := by decide +kernel
theorem d_Law_law_425 : decode code 425 = .ok (.aload_n 0, 1) := by decide +kernel
theorem d_Law_law_426 : decode code 426 = .ok (.iload_n 3, 1) := by decide +kernel
theorem d_Law_law_427 : decode code 427 = .ok (.iconst 3, 1) := by decide +kernel
theorem d_Law_law_428 : decode code 428 = .ok (.iadd, 1) := by decide +kernel
theorem d_Law_law_429 : decode code 429 = .ok (.iaload, 1) := by decide +kernel
theorem d_Law_law_430 : decode code 430 = .ok (.invokevirtual 73, 3) := by decide +kernel
theorem d_Law_law_433 : decode code 433 = .ok (.aload_n 2, 1) := by decide +kernel
theorem d_Law_law_434 : decode code 434 = .ok (.aload_n 0, 1) := by decide +kernel
theorem d_Law_law_435 : decode code 435 = .ok (.iload_n 3, 1) := by decide +kernel
theorem d_Law_law_436 : decode code 436 = .ok (.iconst 1, 1) := by decide +kernel
theorem d_Law_law_437 : decode code 437 = .ok (.iadd, 1) := by decide +kernel
theorem d_Law_law_438 : decode code 438 = .ok (.iaload, 1) := by decide +kernel
theorem d_Law_law_439 : decode code 439 = .ok (.aload_n 0, 1) := by decide +kernel
theorem d_Law_law_440 : decode code 440 = .ok (.iload_n 3, 1) := by decide +kernel
theorem d_Law_law_441 : decode code 441 = .ok (.iconst 2, 1) := by decide +kernel
theorem d_Law_law_442 : decode code 442 = .ok (.iadd, 1) := by decide +kernel
theorem d_Law_law_443 : decode code 443 = .ok (.iaload, 1) := by decide +kernel
theorem d_Law_law_444 : decode code 444 = .ok (.aload_n 0, 1) := by decide +kernel
theorem d_Law_law_445 : decode code 445 = .ok (.iload_n 3, 1) := by decide +kernel
theorem d_Law_law_446 : decode code 446 = .ok (.iconst 3, 1) := by decide +kernel
theorem d_Law_law_447 : decode code 447 = .ok (.iadd, 1) := by decide +kernel
theorem d_Law_law_448 : decode code 448 = .ok (.iaload, 1) := by decide +kernel
theorem d_Law_law_449 : decode code 449 = .ok (.invokevirtual 77, 3) := by decide +kernel
theorem d_Law_law_452 : decode code 452 = .ok (.lcmp, 1) := by decide +kernel
theorem d_Law_law_453 : decode code 453 = .ok (.ifCond .eq 28, 3) := by decide +kernel
theorem d_Law_law_456 : decode code 456 = .ok (.iconst 0, 1) := by decide +kernel
theorem d_Law_law_457 : decode code 457 = .ok (.ireturn, 1) := by decide +kernel
theorem d_Law_law_458 : decode code 458 = .ok (.aload_n 1, 1) := by decide +kernel
theorem d_Law_law_459 : decode code 459 = .ok (.aload_n 0, 1) := by decide +kernel
theorem d_Law_law_460 : decode code 460 = .ok (.iload_n 3, 1) := by decide +kernel
theorem d_Law_law_461 : decode code 461 = .ok (.iconst 1, 1) := by decide +kernel
theorem d_Law_law_462 : decode code 462 = .ok (.iadd, 1) := by decide +kernel
theorem d_Law_law_463 : decode code 463 = .ok (.iaload, 1) := by decide +kernel
theorem d_Law_law_464 : decode code 464 = .ok (.invokevirtual 78, 3) := by decide +kernel
theorem d_Law_law_467 : decode code 467 = .ok (.aload_n 2, 1) := by decide +kernel
theorem d_Law_law_468 : decode code 468 = .ok (.aload_n 0, 1) := by decide +kernel
theorem d_Law_law_469 : decode code 469 = .ok (.iload_n 3, 1) := by decide +kernel
theorem d_Law_law_470 : decode code 470 = .ok (.iconst 1, 1) := by decide +kernel
theorem d_Law_law_471 : decode code 471 = .ok (.iadd, 1) := by decide +kernel
theorem d_Law_law_472 : decode code 472 = .ok (.iaload, 1) := by decide +kernel
theorem d_Law_law_473 : decode code 473 = .ok (.invokevirtual 81, 3) := by decide +kernel
theorem d_Law_law_476 : decode code 476 = .ok (.if_icmp .eq 5, 3) := by decide +kernel
theorem d_Law_law_479 : decode code 479 = .ok (.iconst 0, 1) := by decide +kernel
theorem d_Law_law_480 : decode code 480 = .ok (.ireturn, 1) := by decide +kernel
theorem d_Law_law_481 : decode code 481 = .ok (.iinc 3 4, 3) := by decide +kernel
theorem d_Law_law_484 : decode code 484 = .ok (.goto (-446), 3) := by decide +kernel
theorem d_Law_law_487 : decode code 487 = .ok (.iconst 1, 1) := by decide +kernel
theorem d_Law_law_488 : decode code 488 = .ok (.ireturn, 1) := by decide +kernel
