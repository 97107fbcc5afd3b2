theorem d_sr_init_0 : decode prog_1_method_1_code 0 = .ok (.aload_n 0, 1) := by decide +kernel
theorem d_sr_init_1 : decode prog_1_method_1_code 1 = .ok (.invokespecial 5, 3) := by decide +kernel
theorem d_sr_init_4 : decode prog_1_method_1_code 4 = .ok (.aload_n 0, 1) := by decide +kernel
theorem d_sr_init_5 : decode prog_1_method_1_code 5 = .ok (.bipush 120, 2) := by decide +kernel
theorem d_sr_init_7 : decode prog_1_method_1_code 7 = .ok (.newarray .char, 2) := by decide +kernel
theorem d_sr_init_9 : decode prog_1_method_1_code 9 = .ok (.putfield 11, 3) := by decide +kernel
theorem d_sr_init_12 : decode prog_1_method_1_code 12 = .ok (.aload_n 0, 1) := by decide +kernel
theorem d_sr_init_13 : decode prog_1_method_1_code 13 = .ok (.new 15, 3) := by decide +kernel
theorem d_sr_init_16 : decode prog_1_method_1_code 16 = .ok (.dup, 1) := by decide +kernel
theorem d_sr_init_17 : decode prog_1_method_1_code 17 = .ok (.invokespecial 17, 3) := by decide +kernel
theorem d_sr_init_20 : decode prog_1_method_1_code 20 = .ok (.putfield 18, 3) := by decide +kernel
theorem d_sr_init_23 : decode prog_1_method_1_code 23 = .ok (.aload_n 0, 1) := by decide +kernel
theorem d_sr_init_24 : decode prog_1_method_1_code 24 = .ok (.bipush 6, 2) := by decide +kernel
theorem d_sr_init_26 : decode prog_1_method_1_code 26 = .ok (.anewarray 22, 3) := by decide +kernel
theorem d_sr_init_29 : decode prog_1_method_1_code 29 = .ok (.putfield 24, 3) := by decide +kernel
theorem d_sr_init_32 : decode prog_1_method_1_code 32 = .ok (.aload_n 0, 1) := by decide +kernel
theorem d_sr_init_33 : decode prog_1_method_1_code 33 = .ok (.iconst (-1), 1) := by decide +kernel
theorem d_sr_init_34 : decode prog_1_method_1_code 34 = .ok (.putfield 28, 3) := by decide +kernel
theorem d_sr_init_37 : decode prog_1_method_1_code 37 = .ok (.iconst 0, 1) := by decide +kernel
theorem d_sr_init_38 : decode prog_1_method_1_code 38 = .ok (.istore_n 1, 1) := by decide +kernel
theorem d_sr_init_39 : decode prog_1_method_1_code 39 = .ok (.iload_n 1, 1) := by decide +kernel
theorem d_sr_init_40 : decode prog_1_method_1_code 40 = .ok (.bipush 6, 2) := by decide +kernel
theorem d_sr_init_42 : decode prog_1_method_1_code 42 = .ok (.if_icmp .ge (22), 3) := by decide +kernel
theorem d_sr_init_45 : decode prog_1_method_1_code 45 = .ok (.aload_n 0, 1) := by decide +kernel
theorem d_sr_init_46 : decode prog_1_method_1_code 46 = .ok (.getfield 24, 3) := by decide +kernel
theorem d_sr_init_49 : decode prog_1_method_1_code 49 = .ok (.iload_n 1, 1) := by decide +kernel
theorem d_sr_init_50 : decode prog_1_method_1_code 50 = .ok (.new 22, 3) := by decide +kernel
theorem d_sr_init_53 : decode prog_1_method_1_code 53 = .ok (.dup, 1) := by decide +kernel
theorem d_sr_init_54 : decode prog_1_method_1_code 54 = .ok (.invokespecial 32, 3) := by decide +kernel
theorem d_sr_init_57 : decode prog_1_method_1_code 57 = .ok (.aastore, 1) := by decide +kernel
theorem d_sr_init_58 : decode prog_1_method_1_code 58 = .ok (.iinc 1 (1), 3) := by decide +kernel
theorem d_sr_init_61 : decode prog_1_method_1_code 61 = .ok (.goto (-22), 3) := by decide +kernel
theorem d_sr_init_64 : decode prog_1_method_1_code 64 = .ok (.aload_n 0, 1) := by decide +kernel
theorem d_sr_init_65 : decode prog_1_method_1_code 65 = .ok (.new 33, 3) := by decide +kernel
theorem d_sr_init_68 : decode prog_1_method_1_code 68 = .ok (.dup, 1) := by decide +kernel
theorem d_sr_init_69 : decode prog_1_method_1_code 69 = .ok (.invokespecial 35, 3) := by decide +kernel
theorem d_sr_init_72 : decode prog_1_method_1_code 72 = .ok (.putfield 36, 3) := by decide +kernel
theorem d_sr_init_75 : decode prog_1_method_1_code 75 = .ok (.aload_n 0, 1) := by decide +kernel
theorem d_sr_init_76 : decode prog_1_method_1_code 76 = .ok (.new 33, 3) := by decide +kernel
theorem d_sr_init_79 : decode prog_1_method_1_code 79 = .ok (.dup, 1) := by decide +kernel
theorem d_sr_init_80 : decode prog_1_method_1_code 80 = .ok (.invokespecial 35, 3) := by decide +kernel
theorem d_sr_init_83 : decode prog_1_method_1_code 83 = .ok (.putfield 40, 3) := by decide +kernel
theorem d_sr_init_86 : decode prog_1_method_1_code 86 = .ok (.aload_n 0, 1) := by decide +kernel
theorem d_sr_init_87 : decode prog_1_method_1_code 87 = .ok (.new 43, 3) := by decide +kernel
theorem d_sr_init_90 : decode prog_1_method_1_code 90 = .ok (.dup, 1) := by decide +kernel
theorem d_sr_init_91 : decode prog_1_method_1_code 91 = .ok (.aload_n 0, 1) := by decide +kernel
theorem d_sr_init_92 : decode prog_1_method_1_code 92 = .ok (.getfield 36, 3) := by decide +kernel
theorem d_sr_init_95 : decode prog_1_method_1_code 95 = .ok (.invokespecial 45, 3) := by decide +kernel
theorem d_sr_init_98 : decode prog_1_method_1_code 98 = .ok (.putfield 48, 3) := by decide +kernel
theorem d_sr_init_101 : decode prog_1_method_1_code 101 = .ok (.aload_n 0, 1) := by decide +kernel
theorem d_sr_init_102 : decode prog_1_method_1_code 102 = .ok (.new 52, 3) := by decide +kernel
theorem d_sr_init_105 : decode prog_1_method_1_code 105 = .ok (.dup, 1) := by decide +kernel
theorem d_sr_init_106 : decode prog_1_method_1_code 106 = .ok (.aload_n 0, 1) := by decide +kernel
theorem d_sr_init_107 : decode prog_1_method_1_code 107 = .ok (.getfield 40, 3) := by decide +kernel
theorem d_sr_init_110 : decode prog_1_method_1_code 110 = .ok (.aload_n 0, 1) := by decide +kernel
theorem d_sr_init_111 : decode prog_1_method_1_code 111 = .ok (.getfield 24, 3) := by decide +kernel
theorem d_sr_init_114 : decode prog_1_method_1_code 114 = .ok (.iconst 0, 1) := by decide +kernel
theorem d_sr_init_115 : decode prog_1_method_1_code 115 = .ok (.aaload, 1) := by decide +kernel
theorem d_sr_init_116 : decode prog_1_method_1_code 116 = .ok (.invokespecial 54, 3) := by decide +kernel
theorem d_sr_init_119 : decode prog_1_method_1_code 119 = .ok (.putfield 57, 3) := by decide +kernel
theorem d_sr_init_122 : decode prog_1_method_1_code 122 = .ok (.return_, 1) := by decide +kernel
theorem d_sr_type_0 : decode prog_1_method_2_code 0 = .ok (.iload_n 3, 1) := by decide +kernel
theorem d_sr_type_1 : decode prog_1_method_2_code 1 = .ok (.iconst 1, 1) := by decide +kernel
theorem d_sr_type_2 : decode prog_1_method_2_code 2 = .ok (.if_icmp .lt (20), 3) := by decide +kernel
theorem d_sr_type_5 : decode prog_1_method_2_code 5 = .ok (.iload_n 3, 1) := by decide +kernel
theorem d_sr_type_6 : decode prog_1_method_2_code 6 = .ok (.bipush 8, 2) := by decide +kernel
theorem d_sr_type_8 : decode prog_1_method_2_code 8 = .ok (.if_icmp .gt (14), 3) := by decide +kernel
theorem d_sr_type_11 : decode prog_1_method_2_code 11 = .ok (.aload_n 0, 1) := by decide +kernel
theorem d_sr_type_12 : decode prog_1_method_2_code 12 = .ok (.getfield 61, 3) := by decide +kernel
theorem d_sr_type_15 : decode prog_1_method_2_code 15 = .ok (.iload_n 3, 1) := by decide +kernel
theorem d_sr_type_16 : decode prog_1_method_2_code 16 = .ok (.iadd, 1) := by decide +kernel
theorem d_sr_type_17 : decode prog_1_method_2_code 17 = .ok (.bipush 120, 2) := by decide +kernel
theorem d_sr_type_19 : decode prog_1_method_2_code 19 = .ok (.if_icmp .le (5), 3) := by decide +kernel
theorem d_sr_type_22 : decode prog_1_method_2_code 22 = .ok (.iconst 0, 1) := by decide +kernel
theorem d_sr_type_23 : decode prog_1_method_2_code 23 = .ok (.ireturn, 1) := by decide +kernel
theorem d_sr_type_24 : decode prog_1_method_2_code 24 = .ok (.iconst 0, 1) := by decide +kernel
theorem d_sr_type_25 : decode prog_1_method_2_code 25 = .ok (.istore 4, 2) := by decide +kernel
theorem d_sr_type_27 : decode prog_1_method_2_code 27 = .ok (.iload 4, 2) := by decide +kernel
theorem d_sr_type_29 : decode prog_1_method_2_code 29 = .ok (.iload_n 3, 1) := by decide +kernel
theorem d_sr_type_30 : decode prog_1_method_2_code 30 = .ok (.if_icmp .ge (27), 3) := by decide +kernel
theorem d_sr_type_33 : decode prog_1_method_2_code 33 = .ok (.lload_n 1, 1) := by decide +kernel
theorem d_sr_type_34 : decode prog_1_method_2_code 34 = .ok (.iload_n 3, 1) := by decide +kernel
theorem d_sr_type_35 : decode prog_1_method_2_code 35 = .ok (.iconst 1, 1) := by decide +kernel
theorem d_sr_type_36 : decode prog_1_method_2_code 36 = .ok (.isub, 1) := by decide +kernel
theorem d_sr_type_37 : decode prog_1_method_2_code 37 = .ok (.iload 4, 2) := by decide +kernel
theorem d_sr_type_39 : decode prog_1_method_2_code 39 = .ok (.isub, 1) := by decide +kernel
theorem d_sr_type_40 : decode prog_1_method_2_code 40 = .ok (.invokestatic 64, 3) := by decide +kernel
theorem d_sr_type_43 : decode prog_1_method_2_code 43 = .ok (.invokestatic 68, 3) := by decide +kernel
theorem d_sr_type_46 : decode prog_1_method_2_code 46 = .ok (.ifCond .ne (5), 3) := by decide +kernel
theorem d_sr_type_49 : decode prog_1_method_2_code 49 = .ok (.iconst 0, 1) := by decide +kernel
theorem d_sr_type_50 : decode prog_1_method_2_code 50 = .ok (.ireturn, 1) := by decide +kernel
theorem d_sr_type_51 : decode prog_1_method_2_code 51 = .ok (.iinc 4 (1), 3) := by decide +kernel
theorem d_sr_type_54 : decode prog_1_method_2_code 54 = .ok (.goto (-27), 3) := by decide +kernel
theorem d_sr_type_57 : decode prog_1_method_2_code 57 = .ok (.iconst 0, 1) := by decide +kernel
theorem d_sr_type_58 : decode prog_1_method_2_code 58 = .ok (.istore 4, 2) := by decide +kernel
theorem d_sr_type_60 : decode prog_1_method_2_code 60 = .ok (.iload 4, 2) := by decide +kernel
theorem d_sr_type_62 : decode prog_1_method_2_code 62 = .ok (.iload_n 3, 1) := by decide +kernel
theorem d_sr_type_63 : decode prog_1_method_2_code 63 = .ok (.if_icmp .ge (47), 3) := by decide +kernel
theorem d_sr_type_66 : decode prog_1_method_2_code 66 = .ok (.aload_n 0, 1) := by decide +kernel
theorem d_sr_type_67 : decode prog_1_method_2_code 67 = .ok (.getfield 61, 3) := by decide +kernel
theorem d_sr_type_70 : decode prog_1_method_2_code 70 = .ok (.bipush 120, 2) := by decide +kernel
theorem d_sr_type_72 : decode prog_1_method_2_code 72 = .ok (.if_icmp .ge (38), 3) := by decide +kernel
theorem d_sr_type_75 : decode prog_1_method_2_code 75 = .ok (.aload_n 0, 1) := by decide +kernel
theorem d_sr_type_76 : decode prog_1_method_2_code 76 = .ok (.getfield 11, 3) := by decide +kernel
theorem d_sr_type_79 : decode prog_1_method_2_code 79 = .ok (.aload_n 0, 1) := by decide +kernel
theorem d_sr_type_80 : decode prog_1_method_2_code 80 = .ok (.getfield 61, 3) := by decide +kernel
theorem d_sr_type_83 : decode prog_1_method_2_code 83 = .ok (.lload_n 1, 1) := by decide +kernel
theorem d_sr_type_84 : decode prog_1_method_2_code 84 = .ok (.iload_n 3, 1) := by decide +kernel
theorem d_sr_type_85 : decode prog_1_method_2_code 85 = .ok (.iconst 1, 1) := by decide +kernel
theorem d_sr_type_86 : decode prog_1_method_2_code 86 = .ok (.isub, 1) := by decide +kernel
theorem d_sr_type_87 : decode prog_1_method_2_code 87 = .ok (.iload 4, 2) := by decide +kernel
theorem d_sr_type_89 : decode prog_1_method_2_code 89 = .ok (.isub, 1) := by decide +kernel
theorem d_sr_type_90 : decode prog_1_method_2_code 90 = .ok (.invokestatic 64, 3) := by decide +kernel
theorem d_sr_type_93 : decode prog_1_method_2_code 93 = .ok (.castore, 1) := by decide +kernel
theorem d_sr_type_94 : decode prog_1_method_2_code 94 = .ok (.aload_n 0, 1) := by decide +kernel
theorem d_sr_type_95 : decode prog_1_method_2_code 95 = .ok (.dup, 1) := by decide +kernel
theorem d_sr_type_96 : decode prog_1_method_2_code 96 = .ok (.getfield 61, 3) := by decide +kernel
theorem d_sr_type_99 : decode prog_1_method_2_code 99 = .ok (.iconst 1, 1) := by decide +kernel
theorem d_sr_type_100 : decode prog_1_method_2_code 100 = .ok (.iadd, 1) := by decide +kernel
theorem d_sr_type_101 : decode prog_1_method_2_code 101 = .ok (.putfield 61, 3) := by decide +kernel
theorem d_sr_type_104 : decode prog_1_method_2_code 104 = .ok (.iinc 4 (1), 3) := by decide +kernel
theorem d_sr_type_107 : decode prog_1_method_2_code 107 = .ok (.goto (-47), 3) := by decide +kernel
theorem d_sr_type_110 : decode prog_1_method_2_code 110 = .ok (.iconst 1, 1) := by decide +kernel
theorem d_sr_type_111 : decode prog_1_method_2_code 111 = .ok (.ireturn, 1) := by decide +kernel
theorem d_sr_clear_0 : decode prog_1_method_3_code 0 = .ok (.aload_n 0, 1) := by decide +kernel
theorem d_sr_clear_1 : decode prog_1_method_3_code 1 = .ok (.iconst 0, 1) := by decide +kernel
theorem d_sr_clear_2 : decode prog_1_method_3_code 2 = .ok (.putfield 61, 3) := by decide +kernel
theorem d_sr_clear_5 : decode prog_1_method_3_code 5 = .ok (.return_, 1) := by decide +kernel
theorem d_sr_judge_0 : decode prog_1_method_4_code 0 = .ok (.aload_n 0, 1) := by decide +kernel
theorem d_sr_judge_1 : decode prog_1_method_4_code 1 = .ok (.getfield 48, 3) := by decide +kernel
theorem d_sr_judge_4 : decode prog_1_method_4_code 4 = .ok (.aload_n 0, 1) := by decide +kernel
theorem d_sr_judge_5 : decode prog_1_method_4_code 5 = .ok (.getfield 11, 3) := by decide +kernel
theorem d_sr_judge_8 : decode prog_1_method_4_code 8 = .ok (.aload_n 0, 1) := by decide +kernel
theorem d_sr_judge_9 : decode prog_1_method_4_code 9 = .ok (.getfield 61, 3) := by decide +kernel
theorem d_sr_judge_12 : decode prog_1_method_4_code 12 = .ok (.aload_n 0, 1) := by decide +kernel
theorem d_sr_judge_13 : decode prog_1_method_4_code 13 = .ok (.getfield 36, 3) := by decide +kernel
theorem d_sr_judge_16 : decode prog_1_method_4_code 16 = .ok (.invokevirtual 72, 3) := by decide +kernel
theorem d_sr_judge_19 : decode prog_1_method_4_code 19 = .ok (.istore_n 1, 1) := by decide +kernel
theorem d_sr_judge_20 : decode prog_1_method_4_code 20 = .ok (.iload_n 1, 1) := by decide +kernel
theorem d_sr_judge_21 : decode prog_1_method_4_code 21 = .ok (.ifCond .lt (10), 3) := by decide +kernel
theorem d_sr_judge_24 : decode prog_1_method_4_code 24 = .ok (.aload_n 0, 1) := by decide +kernel
theorem d_sr_judge_25 : decode prog_1_method_4_code 25 = .ok (.iload_n 1, 1) := by decide +kernel
theorem d_sr_judge_26 : decode prog_1_method_4_code 26 = .ok (.putfield 28, 3) := by decide +kernel
theorem d_sr_judge_29 : decode prog_1_method_4_code 29 = .ok (.iconst 1, 1) := by decide +kernel
theorem d_sr_judge_30 : decode prog_1_method_4_code 30 = .ok (.ireturn, 1) := by decide +kernel
theorem d_sr_judge_31 : decode prog_1_method_4_code 31 = .ok (.aload_n 0, 1) := by decide +kernel
theorem d_sr_judge_32 : decode prog_1_method_4_code 32 = .ok (.getfield 18, 3) := by decide +kernel
theorem d_sr_judge_35 : decode prog_1_method_4_code 35 = .ok (.aload_n 0, 1) := by decide +kernel
theorem d_sr_judge_36 : decode prog_1_method_4_code 36 = .ok (.getfield 36, 3) := by decide +kernel
theorem d_sr_judge_39 : decode prog_1_method_4_code 39 = .ok (.invokevirtual 76, 3) := by decide +kernel
theorem d_sr_judge_42 : decode prog_1_method_4_code 42 = .ok (.aload_n 0, 1) := by decide +kernel
theorem d_sr_judge_43 : decode prog_1_method_4_code 43 = .ok (.getfield 18, 3) := by decide +kernel
theorem d_sr_judge_46 : decode prog_1_method_4_code 46 = .ok (.getfield 79, 3) := by decide +kernel
theorem d_sr_judge_49 : decode prog_1_method_4_code 49 = .ok (.ifCond .eq (22), 3) := by decide +kernel
theorem d_sr_judge_52 : decode prog_1_method_4_code 52 = .ok (.aload_n 0, 1) := by decide +kernel
theorem d_sr_judge_53 : decode prog_1_method_4_code 53 = .ok (.aload_n 0, 1) := by decide +kernel
theorem d_sr_judge_54 : decode prog_1_method_4_code 54 = .ok (.getfield 18, 3) := by decide +kernel
theorem d_sr_judge_57 : decode prog_1_method_4_code 57 = .ok (.getfield 82, 3) := by decide +kernel
theorem d_sr_judge_60 : decode prog_1_method_4_code 60 = .ok (.putfield 28, 3) := by decide +kernel
theorem d_sr_judge_63 : decode prog_1_method_4_code 63 = .ok (.aload_n 0, 1) := by decide +kernel
theorem d_sr_judge_64 : decode prog_1_method_4_code 64 = .ok (.getfield 18, 3) := by decide +kernel
theorem d_sr_judge_67 : decode prog_1_method_4_code 67 = .ok (.getfield 79, 3) := by decide +kernel
theorem d_sr_judge_70 : decode prog_1_method_4_code 70 = .ok (.ireturn, 1) := by decide +kernel
theorem d_sr_judge_71 : decode prog_1_method_4_code 71 = .ok (.aload_n 0, 1) := by decide +kernel
theorem d_sr_judge_72 : decode prog_1_method_4_code 72 = .ok (.iconst (-1), 1) := by decide +kernel
theorem d_sr_judge_73 : decode prog_1_method_4_code 73 = .ok (.putfield 28, 3) := by decide +kernel
theorem d_sr_judge_76 : decode prog_1_method_4_code 76 = .ok (.aload_n 0, 1) := by decide +kernel
theorem d_sr_judge_77 : decode prog_1_method_4_code 77 = .ok (.getfield 40, 3) := by decide +kernel
theorem d_sr_judge_80 : decode prog_1_method_4_code 80 = .ok (.astore_n 2, 1) := by decide +kernel
theorem d_sr_judge_81 : decode prog_1_method_4_code 81 = .ok (.aload_n 0, 1) := by decide +kernel
theorem d_sr_judge_82 : decode prog_1_method_4_code 82 = .ok (.aload_n 0, 1) := by decide +kernel
theorem d_sr_judge_83 : decode prog_1_method_4_code 83 = .ok (.getfield 36, 3) := by decide +kernel
theorem d_sr_judge_86 : decode prog_1_method_4_code 86 = .ok (.putfield 40, 3) := by decide +kernel
theorem d_sr_judge_89 : decode prog_1_method_4_code 89 = .ok (.aload_n 0, 1) := by decide +kernel
theorem d_sr_judge_90 : decode prog_1_method_4_code 90 = .ok (.aload_n 2, 1) := by decide +kernel
theorem d_sr_judge_91 : decode prog_1_method_4_code 91 = .ok (.putfield 36, 3) := by decide +kernel
theorem d_sr_judge_94 : decode prog_1_method_4_code 94 = .ok (.aload_n 0, 1) := by decide +kernel
theorem d_sr_judge_95 : decode prog_1_method_4_code 95 = .ok (.iconst 1, 1) := by decide +kernel
theorem d_sr_judge_96 : decode prog_1_method_4_code 96 = .ok (.putfield 85, 3) := by decide +kernel
theorem d_sr_judge_99 : decode prog_1_method_4_code 99 = .ok (.iconst 0, 1) := by decide +kernel
theorem d_sr_judge_100 : decode prog_1_method_4_code 100 = .ok (.ireturn, 1) := by decide +kernel
theorem d_sr_place_0 : decode prog_1_method_5_code 0 = .ok (.aload_n 0, 1) := by decide +kernel
theorem d_sr_place_1 : decode prog_1_method_5_code 1 = .ok (.getfield 28, 3) := by decide +kernel
theorem d_sr_place_4 : decode prog_1_method_5_code 4 = .ok (.ireturn, 1) := by decide +kernel
theorem d_sr_run_0 : decode prog_1_method_6_code 0 = .ok (.aload_n 0, 1) := by decide +kernel
theorem d_sr_run_1 : decode prog_1_method_6_code 1 = .ok (.getfield 85, 3) := by decide +kernel
theorem d_sr_run_4 : decode prog_1_method_6_code 4 = .ok (.ifCond .ne (5), 3) := by decide +kernel
theorem d_sr_run_7 : decode prog_1_method_6_code 7 = .ok (.iconst (-1), 1) := by decide +kernel
theorem d_sr_run_8 : decode prog_1_method_6_code 8 = .ok (.ireturn, 1) := by decide +kernel
theorem d_sr_run_9 : decode prog_1_method_6_code 9 = .ok (.aload_n 0, 1) := by decide +kernel
theorem d_sr_run_10 : decode prog_1_method_6_code 10 = .ok (.aload_n 0, 1) := by decide +kernel
theorem d_sr_run_11 : decode prog_1_method_6_code 11 = .ok (.getfield 40, 3) := by decide +kernel
theorem d_sr_run_14 : decode prog_1_method_6_code 14 = .ok (.getfield 89, 3) := by decide +kernel
theorem d_sr_run_17 : decode prog_1_method_6_code 17 = .ok (.ifCond .ne (7), 3) := by decide +kernel
theorem d_sr_run_20 : decode prog_1_method_6_code 20 = .ok (.iconst 1, 1) := by decide +kernel
theorem d_sr_run_21 : decode prog_1_method_6_code 21 = .ok (.goto (15), 3) := by decide +kernel
theorem d_sr_run_24 : decode prog_1_method_6_code 24 = .ok (.aload_n 0, 1) := by decide +kernel
theorem d_sr_run_25 : decode prog_1_method_6_code 25 = .ok (.getfield 40, 3) := by decide +kernel
theorem d_sr_run_28 : decode prog_1_method_6_code 28 = .ok (.getfield 89, 3) := by decide +kernel
theorem d_sr_run_31 : decode prog_1_method_6_code 31 = .ok (.bipush 6, 2) := by decide +kernel
theorem d_sr_run_33 : decode prog_1_method_6_code 33 = .ok (.invokestatic 92, 3) := by decide +kernel
theorem d_sr_run_36 : decode prog_1_method_6_code 36 = .ok (.putfield 98, 3) := by decide +kernel
theorem d_sr_run_39 : decode prog_1_method_6_code 39 = .ok (.iconst 0, 1) := by decide +kernel
theorem d_sr_run_40 : decode prog_1_method_6_code 40 = .ok (.istore_n 1, 1) := by decide +kernel
theorem d_sr_run_41 : decode prog_1_method_6_code 41 = .ok (.iconst 0, 1) := by decide +kernel
theorem d_sr_run_42 : decode prog_1_method_6_code 42 = .ok (.istore_n 2, 1) := by decide +kernel
theorem d_sr_run_43 : decode prog_1_method_6_code 43 = .ok (.iload_n 2, 1) := by decide +kernel
theorem d_sr_run_44 : decode prog_1_method_6_code 44 = .ok (.aload_n 0, 1) := by decide +kernel
theorem d_sr_run_45 : decode prog_1_method_6_code 45 = .ok (.getfield 98, 3) := by decide +kernel
theorem d_sr_run_48 : decode prog_1_method_6_code 48 = .ok (.if_icmp .ge (48), 3) := by decide +kernel
theorem d_sr_run_51 : decode prog_1_method_6_code 51 = .ok (.iload_n 2, 1) := by decide +kernel
theorem d_sr_run_52 : decode prog_1_method_6_code 52 = .ok (.bipush 6, 2) := by decide +kernel
theorem d_sr_run_54 : decode prog_1_method_6_code 54 = .ok (.if_icmp .ge (42), 3) := by decide +kernel
theorem d_sr_run_57 : decode prog_1_method_6_code 57 = .ok (.aload_n 0, 1) := by decide +kernel
theorem d_sr_run_58 : decode prog_1_method_6_code 58 = .ok (.getfield 57, 3) := by decide +kernel
theorem d_sr_run_61 : decode prog_1_method_6_code 61 = .ok (.aload_n 0, 1) := by decide +kernel
theorem d_sr_run_62 : decode prog_1_method_6_code 62 = .ok (.getfield 40, 3) := by decide +kernel
theorem d_sr_run_65 : decode prog_1_method_6_code 65 = .ok (.iload_n 2, 1) := by decide +kernel
theorem d_sr_run_66 : decode prog_1_method_6_code 66 = .ok (.aload_n 0, 1) := by decide +kernel
theorem d_sr_run_67 : decode prog_1_method_6_code 67 = .ok (.getfield 24, 3) := by decide +kernel
theorem d_sr_run_70 : decode prog_1_method_6_code 70 = .ok (.iload_n 2, 1) := by decide +kernel
theorem d_sr_run_71 : decode prog_1_method_6_code 71 = .ok (.aaload, 1) := by decide +kernel
theorem d_sr_run_72 : decode prog_1_method_6_code 72 = .ok (.invokevirtual 101, 3) := by decide +kernel
theorem d_sr_run_75 : decode prog_1_method_6_code 75 = .ok (.aload_n 0, 1) := by decide +kernel
theorem d_sr_run_76 : decode prog_1_method_6_code 76 = .ok (.getfield 24, 3) := by decide +kernel
theorem d_sr_run_79 : decode prog_1_method_6_code 79 = .ok (.iload_n 2, 1) := by decide +kernel
theorem d_sr_run_80 : decode prog_1_method_6_code 80 = .ok (.aaload, 1) := by decide +kernel
theorem d_sr_run_81 : decode prog_1_method_6_code 81 = .ok (.getfield 105, 3) := by decide +kernel
theorem d_sr_run_84 : decode prog_1_method_6_code 84 = .ok (.ifCond .eq (6), 3) := by decide +kernel
theorem d_sr_run_87 : decode prog_1_method_6_code 87 = .ok (.iinc 1 (1), 3) := by decide +kernel
theorem d_sr_run_90 : decode prog_1_method_6_code 90 = .ok (.iinc 2 (1), 3) := by decide +kernel
theorem d_sr_run_93 : decode prog_1_method_6_code 93 = .ok (.goto (-50), 3) := by decide +kernel
theorem d_sr_run_96 : decode prog_1_method_6_code 96 = .ok (.iload_n 1, 1) := by decide +kernel
theorem d_sr_run_97 : decode prog_1_method_6_code 97 = .ok (.ireturn, 1) := by decide +kernel
theorem d_sr_iterations_0 : decode prog_1_method_7_code 0 = .ok (.aload_n 0, 1) := by decide +kernel
theorem d_sr_iterations_1 : decode prog_1_method_7_code 1 = .ok (.getfield 98, 3) := by decide +kernel
theorem d_sr_iterations_4 : decode prog_1_method_7_code 4 = .ok (.ireturn, 1) := by decide +kernel
theorem d_sr_status_0 : decode prog_1_method_8_code 0 = .ok (.aload_n 0, 1) := by decide +kernel
theorem d_sr_status_1 : decode prog_1_method_8_code 1 = .ok (.iload_n 1, 1) := by decide +kernel
theorem d_sr_status_2 : decode prog_1_method_8_code 2 = .ok (.invokevirtual 108, 3) := by decide +kernel
theorem d_sr_status_5 : decode prog_1_method_8_code 5 = .ok (.ifCond .eq (15), 3) := by decide +kernel
theorem d_sr_status_8 : decode prog_1_method_8_code 8 = .ok (.aload_n 0, 1) := by decide +kernel
theorem d_sr_status_9 : decode prog_1_method_8_code 9 = .ok (.getfield 24, 3) := by decide +kernel
theorem d_sr_status_12 : decode prog_1_method_8_code 12 = .ok (.iload_n 1, 1) := by decide +kernel
theorem d_sr_status_13 : decode prog_1_method_8_code 13 = .ok (.aaload, 1) := by decide +kernel
theorem d_sr_status_14 : decode prog_1_method_8_code 14 = .ok (.getfield 105, 3) := by decide +kernel
theorem d_sr_status_17 : decode prog_1_method_8_code 17 = .ok (.goto (4), 3) := by decide +kernel
theorem d_sr_status_20 : decode prog_1_method_8_code 20 = .ok (.iconst (-1), 1) := by decide +kernel
theorem d_sr_status_21 : decode prog_1_method_8_code 21 = .ok (.ireturn, 1) := by decide +kernel
theorem d_sr_failedAt_0 : decode prog_1_method_9_code 0 = .ok (.aload_n 0, 1) := by decide +kernel
theorem d_sr_failedAt_1 : decode prog_1_method_9_code 1 = .ok (.iload_n 1, 1) := by decide +kernel
theorem d_sr_failedAt_2 : decode prog_1_method_9_code 2 = .ok (.invokevirtual 108, 3) := by decide +kernel
theorem d_sr_failedAt_5 : decode prog_1_method_9_code 5 = .ok (.ifCond .eq (15), 3) := by decide +kernel
theorem d_sr_failedAt_8 : decode prog_1_method_9_code 8 = .ok (.aload_n 0, 1) := by decide +kernel
theorem d_sr_failedAt_9 : decode prog_1_method_9_code 9 = .ok (.getfield 24, 3) := by decide +kernel
theorem d_sr_failedAt_12 : decode prog_1_method_9_code 12 = .ok (.iload_n 1, 1) := by decide +kernel
theorem d_sr_failedAt_13 : decode prog_1_method_9_code 13 = .ok (.aaload, 1) := by decide +kernel
theorem d_sr_failedAt_14 : decode prog_1_method_9_code 14 = .ok (.getfield 112, 3) := by decide +kernel
theorem d_sr_failedAt_17 : decode prog_1_method_9_code 17 = .ok (.goto (4), 3) := by decide +kernel
theorem d_sr_failedAt_20 : decode prog_1_method_9_code 20 = .ok (.iconst (-1), 1) := by decide +kernel
theorem d_sr_failedAt_21 : decode prog_1_method_9_code 21 = .ok (.ireturn, 1) := by decide +kernel
theorem d_sr_second_0 : decode prog_1_method_10_code 0 = .ok (.aload_n 0, 1) := by decide +kernel
theorem d_sr_second_1 : decode prog_1_method_10_code 1 = .ok (.iload_n 1, 1) := by decide +kernel
theorem d_sr_second_2 : decode prog_1_method_10_code 2 = .ok (.invokevirtual 108, 3) := by decide +kernel
theorem d_sr_second_5 : decode prog_1_method_10_code 5 = .ok (.ifCond .eq (19), 3) := by decide +kernel
theorem d_sr_second_8 : decode prog_1_method_10_code 8 = .ok (.aload_n 0, 1) := by decide +kernel
theorem d_sr_second_9 : decode prog_1_method_10_code 9 = .ok (.getfield 24, 3) := by decide +kernel
theorem d_sr_second_12 : decode prog_1_method_10_code 12 = .ok (.iload_n 1, 1) := by decide +kernel
theorem d_sr_second_13 : decode prog_1_method_10_code 13 = .ok (.aaload, 1) := by decide +kernel
theorem d_sr_second_14 : decode prog_1_method_10_code 14 = .ok (.getfield 115, 3) := by decide +kernel
theorem d_sr_second_17 : decode prog_1_method_10_code 17 = .ok (.ifCond .eq (7), 3) := by decide +kernel
theorem d_sr_second_20 : decode prog_1_method_10_code 20 = .ok (.iconst 1, 1) := by decide +kernel
theorem d_sr_second_21 : decode prog_1_method_10_code 21 = .ok (.goto (4), 3) := by decide +kernel
theorem d_sr_second_24 : decode prog_1_method_10_code 24 = .ok (.iconst 0, 1) := by decide +kernel
theorem d_sr_second_25 : decode prog_1_method_10_code 25 = .ok (.ireturn, 1) := by decide +kernel
theorem d_sr_variable_0 : decode prog_1_method_11_code 0 = .ok (.aload_n 0, 1) := by decide +kernel
theorem d_sr_variable_1 : decode prog_1_method_11_code 1 = .ok (.iload_n 1, 1) := by decide +kernel
theorem d_sr_variable_2 : decode prog_1_method_11_code 2 = .ok (.invokevirtual 108, 3) := by decide +kernel
theorem d_sr_variable_5 : decode prog_1_method_11_code 5 = .ok (.ifCond .eq (19), 3) := by decide +kernel
theorem d_sr_variable_8 : decode prog_1_method_11_code 8 = .ok (.aload_n 0, 1) := by decide +kernel
theorem d_sr_variable_9 : decode prog_1_method_11_code 9 = .ok (.getfield 24, 3) := by decide +kernel
theorem d_sr_variable_12 : decode prog_1_method_11_code 12 = .ok (.iload_n 1, 1) := by decide +kernel
theorem d_sr_variable_13 : decode prog_1_method_11_code 13 = .ok (.aaload, 1) := by decide +kernel
theorem d_sr_variable_14 : decode prog_1_method_11_code 14 = .ok (.getfield 118, 3) := by decide +kernel
theorem d_sr_variable_17 : decode prog_1_method_11_code 17 = .ok (.iload_n 2, 1) := by decide +kernel
theorem d_sr_variable_18 : decode prog_1_method_11_code 18 = .ok (.invokestatic 122, 3) := by decide +kernel
theorem d_sr_variable_21 : decode prog_1_method_11_code 21 = .ok (.goto (4), 3) := by decide +kernel
theorem d_sr_variable_24 : decode prog_1_method_11_code 24 = .ok (.iconst 0, 1) := by decide +kernel
theorem d_sr_variable_25 : decode prog_1_method_11_code 25 = .ok (.ireturn, 1) := by decide +kernel
theorem d_sr_calls_0 : decode prog_1_method_12_code 0 = .ok (.aload_n 0, 1) := by decide +kernel
theorem d_sr_calls_1 : decode prog_1_method_12_code 1 = .ok (.iload_n 1, 1) := by decide +kernel
theorem d_sr_calls_2 : decode prog_1_method_12_code 2 = .ok (.invokevirtual 108, 3) := by decide +kernel
theorem d_sr_calls_5 : decode prog_1_method_12_code 5 = .ok (.ifCond .eq (19), 3) := by decide +kernel
theorem d_sr_calls_8 : decode prog_1_method_12_code 8 = .ok (.aload_n 0, 1) := by decide +kernel
theorem d_sr_calls_9 : decode prog_1_method_12_code 9 = .ok (.getfield 24, 3) := by decide +kernel
theorem d_sr_calls_12 : decode prog_1_method_12_code 12 = .ok (.iload_n 1, 1) := by decide +kernel
theorem d_sr_calls_13 : decode prog_1_method_12_code 13 = .ok (.aaload, 1) := by decide +kernel
theorem d_sr_calls_14 : decode prog_1_method_12_code 14 = .ok (.getfield 126, 3) := by decide +kernel
theorem d_sr_calls_17 : decode prog_1_method_12_code 17 = .ok (.iload_n 2, 1) := by decide +kernel
theorem d_sr_calls_18 : decode prog_1_method_12_code 18 = .ok (.invokestatic 122, 3) := by decide +kernel
theorem d_sr_calls_21 : decode prog_1_method_12_code 21 = .ok (.goto (4), 3) := by decide +kernel
theorem d_sr_calls_24 : decode prog_1_method_12_code 24 = .ok (.iconst 0, 1) := by decide +kernel
theorem d_sr_calls_25 : decode prog_1_method_12_code 25 = .ok (.ireturn, 1) := by decide +kernel
theorem d_sr_values_0 : decode prog_1_method_13_code 0 = .ok (.aload_n 0, 1) := by decide +kernel
theorem d_sr_values_1 : decode prog_1_method_13_code 1 = .ok (.iload_n 1, 1) := by decide +kernel
theorem d_sr_values_2 : decode prog_1_method_13_code 2 = .ok (.invokevirtual 108, 3) := by decide +kernel
theorem d_sr_values_5 : decode prog_1_method_13_code 5 = .ok (.ifCond .eq (18), 3) := by decide +kernel
theorem d_sr_values_8 : decode prog_1_method_13_code 8 = .ok (.aload_n 0, 1) := by decide +kernel
theorem d_sr_values_9 : decode prog_1_method_13_code 9 = .ok (.getfield 24, 3) := by decide +kernel
theorem d_sr_values_12 : decode prog_1_method_13_code 12 = .ok (.iload_n 1, 1) := by decide +kernel
theorem d_sr_values_13 : decode prog_1_method_13_code 13 = .ok (.aaload, 1) := by decide +kernel
theorem d_sr_values_14 : decode prog_1_method_13_code 14 = .ok (.getfield 129, 3) := by decide +kernel
theorem d_sr_values_17 : decode prog_1_method_13_code 17 = .ok (.getfield 133, 3) := by decide +kernel
theorem d_sr_values_20 : decode prog_1_method_13_code 20 = .ok (.goto (4), 3) := by decide +kernel
theorem d_sr_values_23 : decode prog_1_method_13_code 23 = .ok (.iconst 0, 1) := by decide +kernel
theorem d_sr_values_24 : decode prog_1_method_13_code 24 = .ok (.ireturn, 1) := by decide +kernel
theorem d_sr_column_0 : decode prog_1_method_14_code 0 = .ok (.aload_n 0, 1) := by decide +kernel
theorem d_sr_column_1 : decode prog_1_method_14_code 1 = .ok (.iload_n 1, 1) := by decide +kernel
theorem d_sr_column_2 : decode prog_1_method_14_code 2 = .ok (.invokevirtual 108, 3) := by decide +kernel
theorem d_sr_column_5 : decode prog_1_method_14_code 5 = .ok (.ifCond .eq (19), 3) := by decide +kernel
theorem d_sr_column_8 : decode prog_1_method_14_code 8 = .ok (.aload_n 0, 1) := by decide +kernel
theorem d_sr_column_9 : decode prog_1_method_14_code 9 = .ok (.getfield 24, 3) := by decide +kernel
theorem d_sr_column_12 : decode prog_1_method_14_code 12 = .ok (.iload_n 1, 1) := by decide +kernel
theorem d_sr_column_13 : decode prog_1_method_14_code 13 = .ok (.aaload, 1) := by decide +kernel
theorem d_sr_column_14 : decode prog_1_method_14_code 14 = .ok (.getfield 129, 3) := by decide +kernel
theorem d_sr_column_17 : decode prog_1_method_14_code 17 = .ok (.iload_n 2, 1) := by decide +kernel
theorem d_sr_column_18 : decode prog_1_method_14_code 18 = .ok (.invokevirtual 138, 3) := by decide +kernel
theorem d_sr_column_21 : decode prog_1_method_14_code 21 = .ok (.goto (4), 3) := by decide +kernel
theorem d_sr_column_24 : decode prog_1_method_14_code 24 = .ok (.iconst (-1), 1) := by decide +kernel
theorem d_sr_column_25 : decode prog_1_method_14_code 25 = .ok (.ireturn, 1) := by decide +kernel
theorem d_sr_value_0 : decode prog_1_method_15_code 0 = .ok (.aload_n 0, 1) := by decide +kernel
theorem d_sr_value_1 : decode prog_1_method_15_code 1 = .ok (.iload_n 1, 1) := by decide +kernel
theorem d_sr_value_2 : decode prog_1_method_15_code 2 = .ok (.invokevirtual 108, 3) := by decide +kernel
theorem d_sr_value_5 : decode prog_1_method_15_code 5 = .ok (.ifCond .eq (19), 3) := by decide +kernel
theorem d_sr_value_8 : decode prog_1_method_15_code 8 = .ok (.aload_n 0, 1) := by decide +kernel
theorem d_sr_value_9 : decode prog_1_method_15_code 9 = .ok (.getfield 24, 3) := by decide +kernel
theorem d_sr_value_12 : decode prog_1_method_15_code 12 = .ok (.iload_n 1, 1) := by decide +kernel
theorem d_sr_value_13 : decode prog_1_method_15_code 13 = .ok (.aaload, 1) := by decide +kernel
theorem d_sr_value_14 : decode prog_1_method_15_code 14 = .ok (.getfield 129, 3) := by decide +kernel
theorem d_sr_value_17 : decode prog_1_method_15_code 17 = .ok (.iload_n 2, 1) := by decide +kernel
theorem d_sr_value_18 : decode prog_1_method_15_code 18 = .ok (.invokevirtual 142, 3) := by decide +kernel
theorem d_sr_value_21 : decode prog_1_method_15_code 21 = .ok (.goto (4), 3) := by decide +kernel
theorem d_sr_value_24 : decode prog_1_method_15_code 24 = .ok (.iconst 0, 1) := by decide +kernel
theorem d_sr_value_25 : decode prog_1_method_15_code 25 = .ok (.ireturn, 1) := by decide +kernel
theorem d_sr_lines_0 : decode prog_1_method_16_code 0 = .ok (.aload_n 0, 1) := by decide +kernel
theorem d_sr_lines_1 : decode prog_1_method_16_code 1 = .ok (.iload_n 1, 1) := by decide +kernel
theorem d_sr_lines_2 : decode prog_1_method_16_code 2 = .ok (.invokevirtual 108, 3) := by decide +kernel
theorem d_sr_lines_5 : decode prog_1_method_16_code 5 = .ok (.ifCond .eq (18), 3) := by decide +kernel
theorem d_sr_lines_8 : decode prog_1_method_16_code 8 = .ok (.aload_n 0, 1) := by decide +kernel
theorem d_sr_lines_9 : decode prog_1_method_16_code 9 = .ok (.getfield 24, 3) := by decide +kernel
theorem d_sr_lines_12 : decode prog_1_method_16_code 12 = .ok (.iload_n 1, 1) := by decide +kernel
theorem d_sr_lines_13 : decode prog_1_method_16_code 13 = .ok (.aaload, 1) := by decide +kernel
theorem d_sr_lines_14 : decode prog_1_method_16_code 14 = .ok (.getfield 129, 3) := by decide +kernel
theorem d_sr_lines_17 : decode prog_1_method_16_code 17 = .ok (.getfield 145, 3) := by decide +kernel
theorem d_sr_lines_20 : decode prog_1_method_16_code 20 = .ok (.goto (4), 3) := by decide +kernel
theorem d_sr_lines_23 : decode prog_1_method_16_code 23 = .ok (.iconst 0, 1) := by decide +kernel
theorem d_sr_lines_24 : decode prog_1_method_16_code 24 = .ok (.ireturn, 1) := by decide +kernel
theorem d_sr_drawn_0 : decode prog_1_method_17_code 0 = .ok (.aload_n 0, 1) := by decide +kernel
theorem d_sr_drawn_1 : decode prog_1_method_17_code 1 = .ok (.iload_n 1, 1) := by decide +kernel
theorem d_sr_drawn_2 : decode prog_1_method_17_code 2 = .ok (.invokevirtual 108, 3) := by decide +kernel
theorem d_sr_drawn_5 : decode prog_1_method_17_code 5 = .ok (.ifCond .eq (20), 3) := by decide +kernel
theorem d_sr_drawn_8 : decode prog_1_method_17_code 8 = .ok (.aload_n 0, 1) := by decide +kernel
theorem d_sr_drawn_9 : decode prog_1_method_17_code 9 = .ok (.getfield 24, 3) := by decide +kernel
theorem d_sr_drawn_12 : decode prog_1_method_17_code 12 = .ok (.iload_n 1, 1) := by decide +kernel
theorem d_sr_drawn_13 : decode prog_1_method_17_code 13 = .ok (.aaload, 1) := by decide +kernel
theorem d_sr_drawn_14 : decode prog_1_method_17_code 14 = .ok (.getfield 129, 3) := by decide +kernel
theorem d_sr_drawn_17 : decode prog_1_method_17_code 17 = .ok (.iload_n 2, 1) := by decide +kernel
theorem d_sr_drawn_18 : decode prog_1_method_17_code 18 = .ok (.iload_n 3, 1) := by decide +kernel
theorem d_sr_drawn_19 : decode prog_1_method_17_code 19 = .ok (.invokevirtual 148, 3) := by decide +kernel
theorem d_sr_drawn_22 : decode prog_1_method_17_code 22 = .ok (.goto (4), 3) := by decide +kernel
theorem d_sr_drawn_25 : decode prog_1_method_17_code 25 = .ok (.iconst 0, 1) := by decide +kernel
theorem d_sr_drawn_26 : decode prog_1_method_17_code 26 = .ok (.ireturn, 1) := by decide +kernel
theorem d_sr_isIteration_0 : decode prog_1_method_18_code 0 = .ok (.iload_n 1, 1) := by decide +kernel
theorem d_sr_isIteration_1 : decode prog_1_method_18_code 1 = .ok (.ifCond .lt (21), 3) := by decide +kernel
theorem d_sr_isIteration_4 : decode prog_1_method_18_code 4 = .ok (.iload_n 1, 1) := by decide +kernel
theorem d_sr_isIteration_5 : decode prog_1_method_18_code 5 = .ok (.aload_n 0, 1) := by decide +kernel
theorem d_sr_isIteration_6 : decode prog_1_method_18_code 6 = .ok (.getfield 98, 3) := by decide +kernel
theorem d_sr_isIteration_9 : decode prog_1_method_18_code 9 = .ok (.if_icmp .ge (13), 3) := by decide +kernel
theorem d_sr_isIteration_12 : decode prog_1_method_18_code 12 = .ok (.iload_n 1, 1) := by decide +kernel
theorem d_sr_isIteration_13 : decode prog_1_method_18_code 13 = .ok (.bipush 6, 2) := by decide +kernel
theorem d_sr_isIteration_15 : decode prog_1_method_18_code 15 = .ok (.if_icmp .ge (7), 3) := by decide +kernel
theorem d_sr_isIteration_18 : decode prog_1_method_18_code 18 = .ok (.iconst 1, 1) := by decide +kernel
theorem d_sr_isIteration_19 : decode prog_1_method_18_code 19 = .ok (.goto (4), 3) := by decide +kernel
theorem d_sr_isIteration_22 : decode prog_1_method_18_code 22 = .ok (.iconst 0, 1) := by decide +kernel
theorem d_sr_isIteration_23 : decode prog_1_method_18_code 23 = .ok (.ireturn, 1) := by decide +kernel
theorem d_sr_characterOf_0 : decode prog_1_method_19_code 0 = .ok (.lload_n 0, 1) := by decide +kernel
theorem d_sr_characterOf_1 : decode prog_1_method_19_code 1 = .ok (.bipush 8, 2) := by decide +kernel
theorem d_sr_characterOf_3 : decode prog_1_method_19_code 3 = .ok (.iload_n 2, 1) := by decide +kernel
theorem d_sr_characterOf_4 : decode prog_1_method_19_code 4 = .ok (.imul, 1) := by decide +kernel
theorem d_sr_characterOf_5 : decode prog_1_method_19_code 5 = .ok (.lushr, 1) := by decide +kernel
theorem d_sr_characterOf_6 : decode prog_1_method_19_code 6 = .ok (.ldc2_w 151, 3) := by decide +kernel
theorem d_sr_characterOf_9 : decode prog_1_method_19_code 9 = .ok (.land, 1) := by decide +kernel
theorem d_sr_characterOf_10 : decode prog_1_method_19_code 10 = .ok (.l2i, 1) := by decide +kernel
theorem d_sr_characterOf_11 : decode prog_1_method_19_code 11 = .ok (.i2c, 1) := by decide +kernel
theorem d_sr_characterOf_12 : decode prog_1_method_19_code 12 = .ok (.ireturn, 1) := by decide +kernel
theorem d_sr_mayBeTyped_0 : decode prog_1_method_20_code 0 = .ok (.iload_n 0, 1) := by decide +kernel
theorem d_sr_mayBeTyped_1 : decode prog_1_method_20_code 1 = .ok (.invokestatic 153, 3) := by decide +kernel
theorem d_sr_mayBeTyped_4 : decode prog_1_method_20_code 4 = .ok (.ifCond .ne (19), 3) := by decide +kernel
theorem d_sr_mayBeTyped_7 : decode prog_1_method_20_code 7 = .ok (.iload_n 0, 1) := by decide +kernel
theorem d_sr_mayBeTyped_8 : decode prog_1_method_20_code 8 = .ok (.invokestatic 156, 3) := by decide +kernel
theorem d_sr_mayBeTyped_11 : decode prog_1_method_20_code 11 = .ok (.ifCond .ne (12), 3) := by decide +kernel
theorem d_sr_mayBeTyped_14 : decode prog_1_method_20_code 14 = .ok (.ldc 159, 2) := by decide +kernel
theorem d_sr_mayBeTyped_16 : decode prog_1_method_20_code 16 = .ok (.iload_n 0, 1) := by decide +kernel
theorem d_sr_mayBeTyped_17 : decode prog_1_method_20_code 17 = .ok (.invokevirtual 161, 3) := by decide +kernel
theorem d_sr_mayBeTyped_20 : decode prog_1_method_20_code 20 = .ok (.ifCond .lt (7), 3) := by decide +kernel
theorem d_sr_mayBeTyped_23 : decode prog_1_method_20_code 23 = .ok (.iconst 1, 1) := by decide +kernel
theorem d_sr_mayBeTyped_24 : decode prog_1_method_20_code 24 = .ok (.goto (4), 3) := by decide +kernel
theorem d_sr_mayBeTyped_27 : decode prog_1_method_20_code 27 = .ok (.iconst 0, 1) := by decide +kernel
theorem d_sr_mayBeTyped_28 : decode prog_1_method_20_code 28 = .ok (.ireturn, 1) := by decide +kernel
theorem d_sr_isSmallLetter_0 : decode prog_1_method_21_code 0 = .ok (.iload_n 0, 1) := by decide +kernel
theorem d_sr_isSmallLetter_1 : decode prog_1_method_21_code 1 = .ok (.bipush 97, 2) := by decide +kernel
theorem d_sr_isSmallLetter_3 : decode prog_1_method_21_code 3 = .ok (.if_icmp .lt (13), 3) := by decide +kernel
theorem d_sr_isSmallLetter_6 : decode prog_1_method_21_code 6 = .ok (.iload_n 0, 1) := by decide +kernel
theorem d_sr_isSmallLetter_7 : decode prog_1_method_21_code 7 = .ok (.bipush 122, 2) := by decide +kernel
theorem d_sr_isSmallLetter_9 : decode prog_1_method_21_code 9 = .ok (.if_icmp .gt (7), 3) := by decide +kernel
theorem d_sr_isSmallLetter_12 : decode prog_1_method_21_code 12 = .ok (.iconst 1, 1) := by decide +kernel
theorem d_sr_isSmallLetter_13 : decode prog_1_method_21_code 13 = .ok (.goto (4), 3) := by decide +kernel
theorem d_sr_isSmallLetter_16 : decode prog_1_method_21_code 16 = .ok (.iconst 0, 1) := by decide +kernel
theorem d_sr_isSmallLetter_17 : decode prog_1_method_21_code 17 = .ok (.ireturn, 1) := by decide +kernel
theorem d_sr_isDigit_0 : decode prog_1_method_22_code 0 = .ok (.iload_n 0, 1) := by decide +kernel
theorem d_sr_isDigit_1 : decode prog_1_method_22_code 1 = .ok (.bipush 48, 2) := by decide +kernel
theorem d_sr_isDigit_3 : decode prog_1_method_22_code 3 = .ok (.if_icmp .lt (13), 3) := by decide +kernel
theorem d_sr_isDigit_6 : decode prog_1_method_22_code 6 = .ok (.iload_n 0, 1) := by decide +kernel
theorem d_sr_isDigit_7 : decode prog_1_method_22_code 7 = .ok (.bipush 57, 2) := by decide +kernel
theorem d_sr_isDigit_9 : decode prog_1_method_22_code 9 = .ok (.if_icmp .gt (7), 3) := by decide +kernel
theorem d_sr_isDigit_12 : decode prog_1_method_22_code 12 = .ok (.iconst 1, 1) := by decide +kernel
theorem d_sr_isDigit_13 : decode prog_1_method_22_code 13 = .ok (.goto (4), 3) := by decide +kernel
theorem d_sr_isDigit_16 : decode prog_1_method_22_code 16 = .ok (.iconst 0, 1) := by decide +kernel
theorem d_sr_isDigit_17 : decode prog_1_method_22_code 17 = .ok (.ireturn, 1) := by decide +kernel
theorem d_sr_pick_0 : decode prog_1_method_23_code 0 = .ok (.iload_n 1, 1) := by decide +kernel
theorem d_sr_pick_1 : decode prog_1_method_23_code 1 = .ok (.ifCond .lt (15), 3) := by decide +kernel
theorem d_sr_pick_4 : decode prog_1_method_23_code 4 = .ok (.iload_n 1, 1) := by decide +kernel
theorem d_sr_pick_5 : decode prog_1_method_23_code 5 = .ok (.aload_n 0, 1) := by decide +kernel
theorem d_sr_pick_6 : decode prog_1_method_23_code 6 = .ok (.arraylength, 1) := by decide +kernel
theorem d_sr_pick_7 : decode prog_1_method_23_code 7 = .ok (.if_icmp .ge (9), 3) := by decide +kernel
theorem d_sr_pick_10 : decode prog_1_method_23_code 10 = .ok (.aload_n 0, 1) := by decide +kernel
theorem d_sr_pick_11 : decode prog_1_method_23_code 11 = .ok (.iload_n 1, 1) := by decide +kernel
theorem d_sr_pick_12 : decode prog_1_method_23_code 12 = .ok (.iaload, 1) := by decide +kernel
theorem d_sr_pick_13 : decode prog_1_method_23_code 13 = .ok (.goto (4), 3) := by decide +kernel
theorem d_sr_pick_16 : decode prog_1_method_23_code 16 = .ok (.iconst 0, 1) := by decide +kernel
theorem d_sr_pick_17 : decode prog_1_method_23_code 17 = .ok (.ireturn, 1) := by decide +kernel
theorem d_sr_put_0 : decode prog_1_method_24_code 0 = .ok (.iload_n 1, 1) := by decide +kernel
theorem d_sr_put_1 : decode prog_1_method_24_code 1 = .ok (.ifCond .lt (13), 3) := by decide +kernel
theorem d_sr_put_4 : decode prog_1_method_24_code 4 = .ok (.iload_n 1, 1) := by decide +kernel
theorem d_sr_put_5 : decode prog_1_method_24_code 5 = .ok (.aload_n 0, 1) := by decide +kernel
theorem d_sr_put_6 : decode prog_1_method_24_code 6 = .ok (.arraylength, 1) := by decide +kernel
theorem d_sr_put_7 : decode prog_1_method_24_code 7 = .ok (.if_icmp .ge (7), 3) := by decide +kernel
theorem d_sr_put_10 : decode prog_1_method_24_code 10 = .ok (.aload_n 0, 1) := by decide +kernel
theorem d_sr_put_11 : decode prog_1_method_24_code 11 = .ok (.iload_n 1, 1) := by decide +kernel
theorem d_sr_put_12 : decode prog_1_method_24_code 12 = .ok (.iload_n 2, 1) := by decide +kernel
theorem d_sr_put_13 : decode prog_1_method_24_code 13 = .ok (.iastore, 1) := by decide +kernel
theorem d_sr_put_14 : decode prog_1_method_24_code 14 = .ok (.return_, 1) := by decide +kernel
theorem d_sr_truth_0 : decode prog_1_method_25_code 0 = .ok (.iload_n 0, 1) := by decide +kernel
theorem d_sr_truth_1 : decode prog_1_method_25_code 1 = .ok (.ifCond .eq (7), 3) := by decide +kernel
theorem d_sr_truth_4 : decode prog_1_method_25_code 4 = .ok (.iconst 1, 1) := by decide +kernel
theorem d_sr_truth_5 : decode prog_1_method_25_code 5 = .ok (.goto (4), 3) := by decide +kernel
theorem d_sr_truth_8 : decode prog_1_method_25_code 8 = .ok (.iconst 0, 1) := by decide +kernel
theorem d_sr_truth_9 : decode prog_1_method_25_code 9 = .ok (.ireturn, 1) := by decide +kernel
theorem d_sr_levelOf_0 : decode prog_1_method_26_code 0 = .ok (.iload_n 0, 1) := by decide +kernel
theorem d_sr_levelOf_1 : decode prog_1_method_26_code 1 = .ok (.lookupswitch (125) #[(37, 123), (42, 123), (43, 121), (45, 121), (47, 123), (60, 119), (62, 119), (260, 119), (261, 119), (262, 119), (263, 119), (264, 117), (265, 115)], 115) := by decide +kernel
theorem d_sr_levelOf_116 : decode prog_1_method_26_code 116 = .ok (.iconst 0, 1) := by decide +kernel
theorem d_sr_levelOf_117 : decode prog_1_method_26_code 117 = .ok (.ireturn, 1) := by decide +kernel
theorem d_sr_levelOf_118 : decode prog_1_method_26_code 118 = .ok (.iconst 1, 1) := by decide +kernel
theorem d_sr_levelOf_119 : decode prog_1_method_26_code 119 = .ok (.ireturn, 1) := by decide +kernel
theorem d_sr_levelOf_120 : decode prog_1_method_26_code 120 = .ok (.iconst 2, 1) := by decide +kernel
theorem d_sr_levelOf_121 : decode prog_1_method_26_code 121 = .ok (.ireturn, 1) := by decide +kernel
theorem d_sr_levelOf_122 : decode prog_1_method_26_code 122 = .ok (.iconst 3, 1) := by decide +kernel
theorem d_sr_levelOf_123 : decode prog_1_method_26_code 123 = .ok (.ireturn, 1) := by decide +kernel
theorem d_sr_levelOf_124 : decode prog_1_method_26_code 124 = .ok (.iconst 4, 1) := by decide +kernel
theorem d_sr_levelOf_125 : decode prog_1_method_26_code 125 = .ok (.ireturn, 1) := by decide +kernel
theorem d_sr_levelOf_126 : decode prog_1_method_26_code 126 = .ok (.iconst (-1), 1) := by decide +kernel
theorem d_sr_levelOf_127 : decode prog_1_method_26_code 127 = .ok (.ireturn, 1) := by decide +kernel
theorem d_ck_init_0 : decode prog_2_method_1_code 0 = .ok (.aload_n 0, 1) := by decide +kernel
theorem d_ck_init_1 : decode prog_2_method_1_code 1 = .ok (.invokespecial 3, 3) := by decide +kernel
theorem d_ck_init_4 : decode prog_2_method_1_code 4 = .ok (.aload_n 0, 1) := by decide +kernel
theorem d_ck_init_5 : decode prog_2_method_1_code 5 = .ok (.bipush 26, 2) := by decide +kernel
theorem d_ck_init_7 : decode prog_2_method_1_code 7 = .ok (.newarray .int, 2) := by decide +kernel
theorem d_ck_init_9 : decode prog_2_method_1_code 9 = .ok (.putfield 9, 3) := by decide +kernel
theorem d_ck_init_12 : decode prog_2_method_1_code 12 = .ok (.aload_n 0, 1) := by decide +kernel
theorem d_ck_init_13 : decode prog_2_method_1_code 13 = .ok (.bipush 26, 2) := by decide +kernel
theorem d_ck_init_15 : decode prog_2_method_1_code 15 = .ok (.newarray .int, 2) := by decide +kernel
theorem d_ck_init_17 : decode prog_2_method_1_code 17 = .ok (.putfield 15, 3) := by decide +kernel
theorem d_ck_init_20 : decode prog_2_method_1_code 20 = .ok (.return_, 1) := by decide +kernel
theorem d_ck_check_0 : decode prog_2_method_2_code 0 = .ok (.aload_n 0, 1) := by decide +kernel
theorem d_ck_check_1 : decode prog_2_method_2_code 1 = .ok (.iconst 0, 1) := by decide +kernel
theorem d_ck_check_2 : decode prog_2_method_2_code 2 = .ok (.putfield 18, 3) := by decide +kernel
theorem d_ck_check_5 : decode prog_2_method_2_code 5 = .ok (.aload_n 0, 1) := by decide +kernel
theorem d_ck_check_6 : decode prog_2_method_2_code 6 = .ok (.iconst (-1), 1) := by decide +kernel
theorem d_ck_check_7 : decode prog_2_method_2_code 7 = .ok (.putfield 22, 3) := by decide +kernel
theorem d_ck_check_10 : decode prog_2_method_2_code 10 = .ok (.iconst 0, 1) := by decide +kernel
theorem d_ck_check_11 : decode prog_2_method_2_code 11 = .ok (.istore_n 2, 1) := by decide +kernel
theorem d_ck_check_12 : decode prog_2_method_2_code 12 = .ok (.iload_n 2, 1) := by decide +kernel
theorem d_ck_check_13 : decode prog_2_method_2_code 13 = .ok (.bipush 26, 2) := by decide +kernel
theorem d_ck_check_15 : decode prog_2_method_2_code 15 = .ok (.if_icmp .ge (23), 3) := by decide +kernel
theorem d_ck_check_18 : decode prog_2_method_2_code 18 = .ok (.aload_n 0, 1) := by decide +kernel
theorem d_ck_check_19 : decode prog_2_method_2_code 19 = .ok (.getfield 9, 3) := by decide +kernel
theorem d_ck_check_22 : decode prog_2_method_2_code 22 = .ok (.iload_n 2, 1) := by decide +kernel
theorem d_ck_check_23 : decode prog_2_method_2_code 23 = .ok (.iconst (-1), 1) := by decide +kernel
theorem d_ck_check_24 : decode prog_2_method_2_code 24 = .ok (.iastore, 1) := by decide +kernel
theorem d_ck_check_25 : decode prog_2_method_2_code 25 = .ok (.aload_n 0, 1) := by decide +kernel
theorem d_ck_check_26 : decode prog_2_method_2_code 26 = .ok (.getfield 15, 3) := by decide +kernel
theorem d_ck_check_29 : decode prog_2_method_2_code 29 = .ok (.iload_n 2, 1) := by decide +kernel
theorem d_ck_check_30 : decode prog_2_method_2_code 30 = .ok (.iconst 0, 1) := by decide +kernel
theorem d_ck_check_31 : decode prog_2_method_2_code 31 = .ok (.iastore, 1) := by decide +kernel
theorem d_ck_check_32 : decode prog_2_method_2_code 32 = .ok (.iinc 2 (1), 3) := by decide +kernel
theorem d_ck_check_35 : decode prog_2_method_2_code 35 = .ok (.goto (-23), 3) := by decide +kernel
theorem d_ck_check_38 : decode prog_2_method_2_code 38 = .ok (.aload_n 0, 1) := by decide +kernel
theorem d_ck_check_39 : decode prog_2_method_2_code 39 = .ok (.aload_n 1, 1) := by decide +kernel
theorem d_ck_check_40 : decode prog_2_method_2_code 40 = .ok (.invokevirtual 25, 3) := by decide +kernel
theorem d_ck_check_43 : decode prog_2_method_2_code 43 = .ok (.iconst 0, 1) := by decide +kernel
theorem d_ck_check_44 : decode prog_2_method_2_code 44 = .ok (.istore_n 2, 1) := by decide +kernel
theorem d_ck_check_45 : decode prog_2_method_2_code 45 = .ok (.iload_n 2, 1) := by decide +kernel
theorem d_ck_check_46 : decode prog_2_method_2_code 46 = .ok (.aload_n 1, 1) := by decide +kernel
theorem d_ck_check_47 : decode prog_2_method_2_code 47 = .ok (.getfield 29, 3) := by decide +kernel
theorem d_ck_check_50 : decode prog_2_method_2_code 50 = .ok (.getfield 35, 3) := by decide +kernel
theorem d_ck_check_53 : decode prog_2_method_2_code 53 = .ok (.if_icmp .ge (15), 3) := by decide +kernel
theorem d_ck_check_56 : decode prog_2_method_2_code 56 = .ok (.aload_n 0, 1) := by decide +kernel
theorem d_ck_check_57 : decode prog_2_method_2_code 57 = .ok (.aload_n 1, 1) := by decide +kernel
theorem d_ck_check_58 : decode prog_2_method_2_code 58 = .ok (.iload_n 2, 1) := by decide +kernel
theorem d_ck_check_59 : decode prog_2_method_2_code 59 = .ok (.invokevirtual 40, 3) := by decide +kernel
theorem d_ck_check_62 : decode prog_2_method_2_code 62 = .ok (.iinc 2 (1), 3) := by decide +kernel
theorem d_ck_check_65 : decode prog_2_method_2_code 65 = .ok (.goto (-20), 3) := by decide +kernel
theorem d_ck_check_68 : decode prog_2_method_2_code 68 = .ok (.iconst 0, 1) := by decide +kernel
theorem d_ck_check_69 : decode prog_2_method_2_code 69 = .ok (.istore_n 2, 1) := by decide +kernel
theorem d_ck_check_70 : decode prog_2_method_2_code 70 = .ok (.iload_n 2, 1) := by decide +kernel
theorem d_ck_check_71 : decode prog_2_method_2_code 71 = .ok (.aload_n 1, 1) := by decide +kernel
theorem d_ck_check_72 : decode prog_2_method_2_code 72 = .ok (.getfield 44, 3) := by decide +kernel
theorem d_ck_check_75 : decode prog_2_method_2_code 75 = .ok (.if_icmp .ge (15), 3) := by decide +kernel
theorem d_ck_check_78 : decode prog_2_method_2_code 78 = .ok (.aload_n 0, 1) := by decide +kernel
theorem d_ck_check_79 : decode prog_2_method_2_code 79 = .ok (.aload_n 1, 1) := by decide +kernel
theorem d_ck_check_80 : decode prog_2_method_2_code 80 = .ok (.iload_n 2, 1) := by decide +kernel
theorem d_ck_check_81 : decode prog_2_method_2_code 81 = .ok (.invokevirtual 47, 3) := by decide +kernel
theorem d_ck_check_84 : decode prog_2_method_2_code 84 = .ok (.iinc 2 (1), 3) := by decide +kernel
theorem d_ck_check_87 : decode prog_2_method_2_code 87 = .ok (.goto (-17), 3) := by decide +kernel
theorem d_ck_check_90 : decode prog_2_method_2_code 90 = .ok (.return_, 1) := by decide +kernel
theorem d_ck_checkHeader_0 : decode prog_2_method_3_code 0 = .ok (.iconst 0, 1) := by decide +kernel
theorem d_ck_checkHeader_1 : decode prog_2_method_3_code 1 = .ok (.istore_n 2, 1) := by decide +kernel
theorem d_ck_checkHeader_2 : decode prog_2_method_3_code 2 = .ok (.iload_n 2, 1) := by decide +kernel
theorem d_ck_checkHeader_3 : decode prog_2_method_3_code 3 = .ok (.aload_n 1, 1) := by decide +kernel
theorem d_ck_checkHeader_4 : decode prog_2_method_3_code 4 = .ok (.getfield 50, 3) := by decide +kernel
theorem d_ck_checkHeader_7 : decode prog_2_method_3_code 7 = .ok (.if_icmp .ge (70), 3) := by decide +kernel
theorem d_ck_checkHeader_10 : decode prog_2_method_3_code 10 = .ok (.aload_n 1, 1) := by decide +kernel
theorem d_ck_checkHeader_11 : decode prog_2_method_3_code 11 = .ok (.getfield 52, 3) := by decide +kernel
theorem d_ck_checkHeader_14 : decode prog_2_method_3_code 14 = .ok (.iload_n 2, 1) := by decide +kernel
theorem d_ck_checkHeader_15 : decode prog_2_method_3_code 15 = .ok (.invokestatic 55, 3) := by decide +kernel
theorem d_ck_checkHeader_18 : decode prog_2_method_3_code 18 = .ok (.istore_n 3, 1) := by decide +kernel
theorem d_ck_checkHeader_19 : decode prog_2_method_3_code 19 = .ok (.aload_n 1, 1) := by decide +kernel
theorem d_ck_checkHeader_20 : decode prog_2_method_3_code 20 = .ok (.getfield 59, 3) := by decide +kernel
theorem d_ck_checkHeader_23 : decode prog_2_method_3_code 23 = .ok (.iload_n 2, 1) := by decide +kernel
theorem d_ck_checkHeader_24 : decode prog_2_method_3_code 24 = .ok (.invokestatic 55, 3) := by decide +kernel
theorem d_ck_checkHeader_27 : decode prog_2_method_3_code 27 = .ok (.istore 4, 2) := by decide +kernel
theorem d_ck_checkHeader_29 : decode prog_2_method_3_code 29 = .ok (.aload_n 0, 1) := by decide +kernel
theorem d_ck_checkHeader_30 : decode prog_2_method_3_code 30 = .ok (.getfield 9, 3) := by decide +kernel
theorem d_ck_checkHeader_33 : decode prog_2_method_3_code 33 = .ok (.iload_n 3, 1) := by decide +kernel
theorem d_ck_checkHeader_34 : decode prog_2_method_3_code 34 = .ok (.invokestatic 55, 3) := by decide +kernel
theorem d_ck_checkHeader_37 : decode prog_2_method_3_code 37 = .ok (.ifCond .lt (13), 3) := by decide +kernel
theorem d_ck_checkHeader_40 : decode prog_2_method_3_code 40 = .ok (.aload_n 0, 1) := by decide +kernel
theorem d_ck_checkHeader_41 : decode prog_2_method_3_code 41 = .ok (.iconst 3, 1) := by decide +kernel
theorem d_ck_checkHeader_42 : decode prog_2_method_3_code 42 = .ok (.iload 4, 2) := by decide +kernel
theorem d_ck_checkHeader_44 : decode prog_2_method_3_code 44 = .ok (.invokevirtual 62, 3) := by decide +kernel
theorem d_ck_checkHeader_47 : decode prog_2_method_3_code 47 = .ok (.goto (12), 3) := by decide +kernel
theorem d_ck_checkHeader_50 : decode prog_2_method_3_code 50 = .ok (.aload_n 0, 1) := by decide +kernel
theorem d_ck_checkHeader_51 : decode prog_2_method_3_code 51 = .ok (.getfield 9, 3) := by decide +kernel
theorem d_ck_checkHeader_54 : decode prog_2_method_3_code 54 = .ok (.iload_n 3, 1) := by decide +kernel
theorem d_ck_checkHeader_55 : decode prog_2_method_3_code 55 = .ok (.iload_n 2, 1) := by decide +kernel
theorem d_ck_checkHeader_56 : decode prog_2_method_3_code 56 = .ok (.invokestatic 66, 3) := by decide +kernel
theorem d_ck_checkHeader_59 : decode prog_2_method_3_code 59 = .ok (.iload_n 2, 1) := by decide +kernel
theorem d_ck_checkHeader_60 : decode prog_2_method_3_code 60 = .ok (.iconst 4, 1) := by decide +kernel
theorem d_ck_checkHeader_61 : decode prog_2_method_3_code 61 = .ok (.if_icmp .ne (10), 3) := by decide +kernel
theorem d_ck_checkHeader_64 : decode prog_2_method_3_code 64 = .ok (.aload_n 0, 1) := by decide +kernel
theorem d_ck_checkHeader_65 : decode prog_2_method_3_code 65 = .ok (.iconst 4, 1) := by decide +kernel
theorem d_ck_checkHeader_66 : decode prog_2_method_3_code 66 = .ok (.iload 4, 2) := by decide +kernel
theorem d_ck_checkHeader_68 : decode prog_2_method_3_code 68 = .ok (.invokevirtual 62, 3) := by decide +kernel
theorem d_ck_checkHeader_71 : decode prog_2_method_3_code 71 = .ok (.iinc 2 (1), 3) := by decide +kernel
theorem d_ck_checkHeader_74 : decode prog_2_method_3_code 74 = .ok (.goto (-72), 3) := by decide +kernel
theorem d_ck_checkHeader_77 : decode prog_2_method_3_code 77 = .ok (.return_, 1) := by decide +kernel
theorem d_ck_checkStatement_0 : decode prog_2_method_4_code 0 = .ok (.aload_n 1, 1) := by decide +kernel
theorem d_ck_checkStatement_1 : decode prog_2_method_4_code 1 = .ok (.getfield 29, 3) := by decide +kernel
theorem d_ck_checkStatement_4 : decode prog_2_method_4_code 4 = .ok (.astore_n 3, 1) := by decide +kernel
theorem d_ck_checkStatement_5 : decode prog_2_method_4_code 5 = .ok (.aload_n 3, 1) := by decide +kernel
theorem d_ck_checkStatement_6 : decode prog_2_method_4_code 6 = .ok (.iload_n 2, 1) := by decide +kernel
theorem d_ck_checkStatement_7 : decode prog_2_method_4_code 7 = .ok (.invokevirtual 70, 3) := by decide +kernel
theorem d_ck_checkStatement_10 : decode prog_2_method_4_code 10 = .ok (.istore 4, 2) := by decide +kernel
theorem d_ck_checkStatement_12 : decode prog_2_method_4_code 12 = .ok (.aload_n 3, 1) := by decide +kernel
theorem d_ck_checkStatement_13 : decode prog_2_method_4_code 13 = .ok (.getfield 74, 3) := by decide +kernel
theorem d_ck_checkStatement_16 : decode prog_2_method_4_code 16 = .ok (.iload_n 2, 1) := by decide +kernel
theorem d_ck_checkStatement_17 : decode prog_2_method_4_code 17 = .ok (.invokestatic 55, 3) := by decide +kernel
theorem d_ck_checkStatement_20 : decode prog_2_method_4_code 20 = .ok (.istore 5, 2) := by decide +kernel
theorem d_ck_checkStatement_22 : decode prog_2_method_4_code 22 = .ok (.iload 4, 2) := by decide +kernel
theorem d_ck_checkStatement_24 : decode prog_2_method_4_code 24 = .ok (.bipush 7, 2) := by decide +kernel
theorem d_ck_checkStatement_26 : decode prog_2_method_4_code 26 = .ok (.if_icmp .ne (41), 3) := by decide +kernel
theorem d_ck_checkStatement_29 : decode prog_2_method_4_code 29 = .ok (.aload_n 1, 1) := by decide +kernel
theorem d_ck_checkStatement_30 : decode prog_2_method_4_code 30 = .ok (.getfield 77, 3) := by decide +kernel
theorem d_ck_checkStatement_33 : decode prog_2_method_4_code 33 = .ok (.getfield 81, 3) := by decide +kernel
theorem d_ck_checkStatement_36 : decode prog_2_method_4_code 36 = .ok (.iload 5, 2) := by decide +kernel
theorem d_ck_checkStatement_38 : decode prog_2_method_4_code 38 = .ok (.invokestatic 55, 3) := by decide +kernel
theorem d_ck_checkStatement_41 : decode prog_2_method_4_code 41 = .ok (.aload_n 1, 1) := by decide +kernel
theorem d_ck_checkStatement_42 : decode prog_2_method_4_code 42 = .ok (.getfield 77, 3) := by decide +kernel
theorem d_ck_checkStatement_45 : decode prog_2_method_4_code 45 = .ok (.getfield 86, 3) := by decide +kernel
theorem d_ck_checkStatement_48 : decode prog_2_method_4_code 48 = .ok (.iload 5, 2) := by decide +kernel
theorem d_ck_checkStatement_50 : decode prog_2_method_4_code 50 = .ok (.invokestatic 55, 3) := by decide +kernel
theorem d_ck_checkStatement_53 : decode prog_2_method_4_code 53 = .ok (.if_icmp .ge (13), 3) := by decide +kernel
theorem d_ck_checkStatement_56 : decode prog_2_method_4_code 56 = .ok (.aload_n 0, 1) := by decide +kernel
theorem d_ck_checkStatement_57 : decode prog_2_method_4_code 57 = .ok (.iconst 5, 1) := by decide +kernel
theorem d_ck_checkStatement_58 : decode prog_2_method_4_code 58 = .ok (.aload_n 3, 1) := by decide +kernel
theorem d_ck_checkStatement_59 : decode prog_2_method_4_code 59 = .ok (.iload_n 2, 1) := by decide +kernel
theorem d_ck_checkStatement_60 : decode prog_2_method_4_code 60 = .ok (.invokevirtual 89, 3) := by decide +kernel
theorem d_ck_checkStatement_63 : decode prog_2_method_4_code 63 = .ok (.invokevirtual 62, 3) := by decide +kernel
theorem d_ck_checkStatement_66 : decode prog_2_method_4_code 66 = .ok (.return_, 1) := by decide +kernel
theorem d_ck_checkStatement_67 : decode prog_2_method_4_code 67 = .ok (.aload_n 3, 1) := by decide +kernel
theorem d_ck_checkStatement_68 : decode prog_2_method_4_code 68 = .ok (.getfield 92, 3) := by decide +kernel
theorem d_ck_checkStatement_71 : decode prog_2_method_4_code 71 = .ok (.iload_n 2, 1) := by decide +kernel
theorem d_ck_checkStatement_72 : decode prog_2_method_4_code 72 = .ok (.invokestatic 55, 3) := by decide +kernel
theorem d_ck_checkStatement_75 : decode prog_2_method_4_code 75 = .ok (.istore 6, 2) := by decide +kernel
theorem d_ck_checkStatement_77 : decode prog_2_method_4_code 77 = .ok (.aload_n 3, 1) := by decide +kernel
theorem d_ck_checkStatement_78 : decode prog_2_method_4_code 78 = .ok (.getfield 95, 3) := by decide +kernel
theorem d_ck_checkStatement_81 : decode prog_2_method_4_code 81 = .ok (.iload_n 2, 1) := by decide +kernel
theorem d_ck_checkStatement_82 : decode prog_2_method_4_code 82 = .ok (.invokestatic 55, 3) := by decide +kernel
theorem d_ck_checkStatement_85 : decode prog_2_method_4_code 85 = .ok (.istore 7, 2) := by decide +kernel
theorem d_ck_checkStatement_87 : decode prog_2_method_4_code 87 = .ok (.iload 7, 2) := by decide +kernel
theorem d_ck_checkStatement_89 : decode prog_2_method_4_code 89 = .ok (.iload 6, 2) := by decide +kernel
theorem d_ck_checkStatement_91 : decode prog_2_method_4_code 91 = .ok (.if_icmp .ge (87), 3) := by decide +kernel
theorem d_ck_checkStatement_94 : decode prog_2_method_4_code 94 = .ok (.aload_n 1, 1) := by decide +kernel
theorem d_ck_checkStatement_95 : decode prog_2_method_4_code 95 = .ok (.getfield 98, 3) := by decide +kernel
theorem d_ck_checkStatement_98 : decode prog_2_method_4_code 98 = .ok (.getfield 102, 3) := by decide +kernel
theorem d_ck_checkStatement_101 : decode prog_2_method_4_code 101 = .ok (.iload 7, 2) := by decide +kernel
theorem d_ck_checkStatement_103 : decode prog_2_method_4_code 103 = .ok (.invokestatic 55, 3) := by decide +kernel
theorem d_ck_checkStatement_106 : decode prog_2_method_4_code 106 = .ok (.istore 8, 2) := by decide +kernel
theorem d_ck_checkStatement_108 : decode prog_2_method_4_code 108 = .ok (.iload 4, 2) := by decide +kernel
theorem d_ck_checkStatement_110 : decode prog_2_method_4_code 110 = .ok (.bipush 8, 2) := by decide +kernel
theorem d_ck_checkStatement_112 : decode prog_2_method_4_code 112 = .ok (.if_icmp .ne (14), 3) := by decide +kernel
theorem d_ck_checkStatement_115 : decode prog_2_method_4_code 115 = .ok (.aload_n 0, 1) := by decide +kernel
theorem d_ck_checkStatement_116 : decode prog_2_method_4_code 116 = .ok (.iload 8, 2) := by decide +kernel
theorem d_ck_checkStatement_118 : decode prog_2_method_4_code 118 = .ok (.iload 5, 2) := by decide +kernel
theorem d_ck_checkStatement_120 : decode prog_2_method_4_code 120 = .ok (.invokevirtual 105, 3) := by decide +kernel
theorem d_ck_checkStatement_123 : decode prog_2_method_4_code 123 = .ok (.goto (9), 3) := by decide +kernel
theorem d_ck_checkStatement_126 : decode prog_2_method_4_code 126 = .ok (.aload_n 0, 1) := by decide +kernel
theorem d_ck_checkStatement_127 : decode prog_2_method_4_code 127 = .ok (.iload 8, 2) := by decide +kernel
theorem d_ck_checkStatement_129 : decode prog_2_method_4_code 129 = .ok (.invokevirtual 109, 3) := by decide +kernel
theorem d_ck_checkStatement_132 : decode prog_2_method_4_code 132 = .ok (.istore 9, 2) := by decide +kernel
theorem d_ck_checkStatement_134 : decode prog_2_method_4_code 134 = .ok (.aload_n 1, 1) := by decide +kernel
theorem d_ck_checkStatement_135 : decode prog_2_method_4_code 135 = .ok (.getfield 98, 3) := by decide +kernel
theorem d_ck_checkStatement_138 : decode prog_2_method_4_code 138 = .ok (.getfield 113, 3) := by decide +kernel
theorem d_ck_checkStatement_141 : decode prog_2_method_4_code 141 = .ok (.iload 7, 2) := by decide +kernel
theorem d_ck_checkStatement_143 : decode prog_2_method_4_code 143 = .ok (.invokestatic 55, 3) := by decide +kernel
theorem d_ck_checkStatement_146 : decode prog_2_method_4_code 146 = .ok (.iconst 1, 1) := by decide +kernel
theorem d_ck_checkStatement_147 : decode prog_2_method_4_code 147 = .ok (.if_icmp .ne (25), 3) := by decide +kernel
theorem d_ck_checkStatement_150 : decode prog_2_method_4_code 150 = .ok (.iload 9, 2) := by decide +kernel
theorem d_ck_checkStatement_152 : decode prog_2_method_4_code 152 = .ok (.ifCond .ne (20), 3) := by decide +kernel
theorem d_ck_checkStatement_155 : decode prog_2_method_4_code 155 = .ok (.aload_n 0, 1) := by decide +kernel
theorem d_ck_checkStatement_156 : decode prog_2_method_4_code 156 = .ok (.iconst 2, 1) := by decide +kernel
theorem d_ck_checkStatement_157 : decode prog_2_method_4_code 157 = .ok (.aload_n 1, 1) := by decide +kernel
theorem d_ck_checkStatement_158 : decode prog_2_method_4_code 158 = .ok (.getfield 98, 3) := by decide +kernel
theorem d_ck_checkStatement_161 : decode prog_2_method_4_code 161 = .ok (.getfield 116, 3) := by decide +kernel
theorem d_ck_checkStatement_164 : decode prog_2_method_4_code 164 = .ok (.iload 7, 2) := by decide +kernel
theorem d_ck_checkStatement_166 : decode prog_2_method_4_code 166 = .ok (.invokestatic 55, 3) := by decide +kernel
theorem d_ck_checkStatement_169 : decode prog_2_method_4_code 169 = .ok (.invokevirtual 62, 3) := by decide +kernel
theorem d_ck_checkStatement_172 : decode prog_2_method_4_code 172 = .ok (.iinc 7 (1), 3) := by decide +kernel
theorem d_ck_checkStatement_175 : decode prog_2_method_4_code 175 = .ok (.goto (-88), 3) := by decide +kernel
theorem d_ck_checkStatement_178 : decode prog_2_method_4_code 178 = .ok (.iload 4, 2) := by decide +kernel
theorem d_ck_checkStatement_180 : decode prog_2_method_4_code 180 = .ok (.iconst 2, 1) := by decide +kernel
theorem d_ck_checkStatement_181 : decode prog_2_method_4_code 181 = .ok (.if_icmp .gt (40), 3) := by decide +kernel
theorem d_ck_checkStatement_184 : decode prog_2_method_4_code 184 = .ok (.iload 5, 2) := by decide +kernel
theorem d_ck_checkStatement_186 : decode prog_2_method_4_code 186 = .ok (.ifCond .lt (35), 3) := by decide +kernel
theorem d_ck_checkStatement_189 : decode prog_2_method_4_code 189 = .ok (.aload_n 0, 1) := by decide +kernel
theorem d_ck_checkStatement_190 : decode prog_2_method_4_code 190 = .ok (.getfield 9, 3) := by decide +kernel
theorem d_ck_checkStatement_193 : decode prog_2_method_4_code 193 = .ok (.iload 5, 2) := by decide +kernel
theorem d_ck_checkStatement_195 : decode prog_2_method_4_code 195 = .ok (.invokestatic 55, 3) := by decide +kernel
theorem d_ck_checkStatement_198 : decode prog_2_method_4_code 198 = .ok (.ifCond .lt (13), 3) := by decide +kernel
theorem d_ck_checkStatement_201 : decode prog_2_method_4_code 201 = .ok (.aload_n 0, 1) := by decide +kernel
theorem d_ck_checkStatement_202 : decode prog_2_method_4_code 202 = .ok (.iconst 3, 1) := by decide +kernel
theorem d_ck_checkStatement_203 : decode prog_2_method_4_code 203 = .ok (.aload_n 3, 1) := by decide +kernel
theorem d_ck_checkStatement_204 : decode prog_2_method_4_code 204 = .ok (.iload_n 2, 1) := by decide +kernel
theorem d_ck_checkStatement_205 : decode prog_2_method_4_code 205 = .ok (.invokevirtual 89, 3) := by decide +kernel
theorem d_ck_checkStatement_208 : decode prog_2_method_4_code 208 = .ok (.invokevirtual 62, 3) := by decide +kernel
theorem d_ck_checkStatement_211 : decode prog_2_method_4_code 211 = .ok (.aload_n 0, 1) := by decide +kernel
theorem d_ck_checkStatement_212 : decode prog_2_method_4_code 212 = .ok (.getfield 15, 3) := by decide +kernel
theorem d_ck_checkStatement_215 : decode prog_2_method_4_code 215 = .ok (.iload 5, 2) := by decide +kernel
theorem d_ck_checkStatement_217 : decode prog_2_method_4_code 217 = .ok (.iconst 1, 1) := by decide +kernel
theorem d_ck_checkStatement_218 : decode prog_2_method_4_code 218 = .ok (.invokestatic 66, 3) := by decide +kernel
theorem d_ck_checkStatement_221 : decode prog_2_method_4_code 221 = .ok (.return_, 1) := by decide +kernel
theorem d_ck_checkRow_0 : decode prog_2_method_5_code 0 = .ok (.aload_n 1, 1) := by decide +kernel
theorem d_ck_checkRow_1 : decode prog_2_method_5_code 1 = .ok (.getfield 119, 3) := by decide +kernel
theorem d_ck_checkRow_4 : decode prog_2_method_5_code 4 = .ok (.iload_n 2, 1) := by decide +kernel
theorem d_ck_checkRow_5 : decode prog_2_method_5_code 5 = .ok (.invokestatic 55, 3) := by decide +kernel
theorem d_ck_checkRow_8 : decode prog_2_method_5_code 8 = .ok (.istore_n 3, 1) := by decide +kernel
theorem d_ck_checkRow_9 : decode prog_2_method_5_code 9 = .ok (.aload_n 1, 1) := by decide +kernel
theorem d_ck_checkRow_10 : decode prog_2_method_5_code 10 = .ok (.iload_n 2, 1) := by decide +kernel
theorem d_ck_checkRow_11 : decode prog_2_method_5_code 11 = .ok (.invokevirtual 122, 3) := by decide +kernel
theorem d_ck_checkRow_14 : decode prog_2_method_5_code 14 = .ok (.iload_n 3, 1) := by decide +kernel
theorem d_ck_checkRow_15 : decode prog_2_method_5_code 15 = .ok (.isub, 1) := by decide +kernel
theorem d_ck_checkRow_16 : decode prog_2_method_5_code 16 = .ok (.aload_n 1, 1) := by decide +kernel
theorem d_ck_checkRow_17 : decode prog_2_method_5_code 17 = .ok (.getfield 50, 3) := by decide +kernel
theorem d_ck_checkRow_20 : decode prog_2_method_5_code 20 = .ok (.if_icmp .ne (9), 3) := by decide +kernel
theorem d_ck_checkRow_23 : decode prog_2_method_5_code 23 = .ok (.iload_n 2, 1) := by decide +kernel
theorem d_ck_checkRow_24 : decode prog_2_method_5_code 24 = .ok (.bipush 6, 2) := by decide +kernel
theorem d_ck_checkRow_26 : decode prog_2_method_5_code 26 = .ok (.if_icmp .ne (16), 3) := by decide +kernel
theorem d_ck_checkRow_29 : decode prog_2_method_5_code 29 = .ok (.aload_n 0, 1) := by decide +kernel
theorem d_ck_checkRow_30 : decode prog_2_method_5_code 30 = .ok (.iconst 4, 1) := by decide +kernel
theorem d_ck_checkRow_31 : decode prog_2_method_5_code 31 = .ok (.aload_n 1, 1) := by decide +kernel
theorem d_ck_checkRow_32 : decode prog_2_method_5_code 32 = .ok (.getfield 29, 3) := by decide +kernel
theorem d_ck_checkRow_35 : decode prog_2_method_5_code 35 = .ok (.iload_n 3, 1) := by decide +kernel
theorem d_ck_checkRow_36 : decode prog_2_method_5_code 36 = .ok (.invokevirtual 89, 3) := by decide +kernel
theorem d_ck_checkRow_39 : decode prog_2_method_5_code 39 = .ok (.invokevirtual 62, 3) := by decide +kernel
theorem d_ck_checkRow_42 : decode prog_2_method_5_code 42 = .ok (.return_, 1) := by decide +kernel
theorem d_ck_isLeftOf_0 : decode prog_2_method_6_code 0 = .ok (.aload_n 0, 1) := by decide +kernel
theorem d_ck_isLeftOf_1 : decode prog_2_method_6_code 1 = .ok (.getfield 9, 3) := by decide +kernel
theorem d_ck_isLeftOf_4 : decode prog_2_method_6_code 4 = .ok (.iload_n 1, 1) := by decide +kernel
theorem d_ck_isLeftOf_5 : decode prog_2_method_6_code 5 = .ok (.invokestatic 55, 3) := by decide +kernel
theorem d_ck_isLeftOf_8 : decode prog_2_method_6_code 8 = .ok (.ifCond .lt (19), 3) := by decide +kernel
theorem d_ck_isLeftOf_11 : decode prog_2_method_6_code 11 = .ok (.aload_n 0, 1) := by decide +kernel
theorem d_ck_isLeftOf_12 : decode prog_2_method_6_code 12 = .ok (.getfield 9, 3) := by decide +kernel
theorem d_ck_isLeftOf_15 : decode prog_2_method_6_code 15 = .ok (.iload_n 1, 1) := by decide +kernel
theorem d_ck_isLeftOf_16 : decode prog_2_method_6_code 16 = .ok (.invokestatic 55, 3) := by decide +kernel
theorem d_ck_isLeftOf_19 : decode prog_2_method_6_code 19 = .ok (.iload_n 2, 1) := by decide +kernel
theorem d_ck_isLeftOf_20 : decode prog_2_method_6_code 20 = .ok (.if_icmp .ge (7), 3) := by decide +kernel
theorem d_ck_isLeftOf_23 : decode prog_2_method_6_code 23 = .ok (.iconst 1, 1) := by decide +kernel
theorem d_ck_isLeftOf_24 : decode prog_2_method_6_code 24 = .ok (.goto (4), 3) := by decide +kernel
theorem d_ck_isLeftOf_27 : decode prog_2_method_6_code 27 = .ok (.iconst 0, 1) := by decide +kernel
theorem d_ck_isLeftOf_28 : decode prog_2_method_6_code 28 = .ok (.ireturn, 1) := by decide +kernel
theorem d_ck_isKnown_0 : decode prog_2_method_7_code 0 = .ok (.aload_n 0, 1) := by decide +kernel
theorem d_ck_isKnown_1 : decode prog_2_method_7_code 1 = .ok (.getfield 9, 3) := by decide +kernel
theorem d_ck_isKnown_4 : decode prog_2_method_7_code 4 = .ok (.iload_n 1, 1) := by decide +kernel
theorem d_ck_isKnown_5 : decode prog_2_method_7_code 5 = .ok (.invokestatic 55, 3) := by decide +kernel
theorem d_ck_isKnown_8 : decode prog_2_method_7_code 8 = .ok (.ifCond .ge (14), 3) := by decide +kernel
theorem d_ck_isKnown_11 : decode prog_2_method_7_code 11 = .ok (.aload_n 0, 1) := by decide +kernel
theorem d_ck_isKnown_12 : decode prog_2_method_7_code 12 = .ok (.getfield 15, 3) := by decide +kernel
theorem d_ck_isKnown_15 : decode prog_2_method_7_code 15 = .ok (.iload_n 1, 1) := by decide +kernel
theorem d_ck_isKnown_16 : decode prog_2_method_7_code 16 = .ok (.invokestatic 55, 3) := by decide +kernel
theorem d_ck_isKnown_19 : decode prog_2_method_7_code 19 = .ok (.ifCond .eq (7), 3) := by decide +kernel
theorem d_ck_isKnown_22 : decode prog_2_method_7_code 22 = .ok (.iconst 1, 1) := by decide +kernel
theorem d_ck_isKnown_23 : decode prog_2_method_7_code 23 = .ok (.goto (4), 3) := by decide +kernel
theorem d_ck_isKnown_26 : decode prog_2_method_7_code 26 = .ok (.iconst 0, 1) := by decide +kernel
theorem d_ck_isKnown_27 : decode prog_2_method_7_code 27 = .ok (.ireturn, 1) := by decide +kernel
theorem d_ck_tell_0 : decode prog_2_method_8_code 0 = .ok (.aload_n 0, 1) := by decide +kernel
theorem d_ck_tell_1 : decode prog_2_method_8_code 1 = .ok (.getfield 18, 3) := by decide +kernel
theorem d_ck_tell_4 : decode prog_2_method_8_code 4 = .ok (.ifCond .eq (27), 3) := by decide +kernel
theorem d_ck_tell_7 : decode prog_2_method_8_code 7 = .ok (.iload_n 2, 1) := by decide +kernel
theorem d_ck_tell_8 : decode prog_2_method_8_code 8 = .ok (.aload_n 0, 1) := by decide +kernel
theorem d_ck_tell_9 : decode prog_2_method_8_code 9 = .ok (.getfield 22, 3) := by decide +kernel
theorem d_ck_tell_12 : decode prog_2_method_8_code 12 = .ok (.if_icmp .lt (19), 3) := by decide +kernel
theorem d_ck_tell_15 : decode prog_2_method_8_code 15 = .ok (.iload_n 2, 1) := by decide +kernel
theorem d_ck_tell_16 : decode prog_2_method_8_code 16 = .ok (.aload_n 0, 1) := by decide +kernel
theorem d_ck_tell_17 : decode prog_2_method_8_code 17 = .ok (.getfield 22, 3) := by decide +kernel
theorem d_ck_tell_20 : decode prog_2_method_8_code 20 = .ok (.if_icmp .ne (21), 3) := by decide +kernel
theorem d_ck_tell_23 : decode prog_2_method_8_code 23 = .ok (.iload_n 1, 1) := by decide +kernel
theorem d_ck_tell_24 : decode prog_2_method_8_code 24 = .ok (.aload_n 0, 1) := by decide +kernel
theorem d_ck_tell_25 : decode prog_2_method_8_code 25 = .ok (.getfield 18, 3) := by decide +kernel
theorem d_ck_tell_28 : decode prog_2_method_8_code 28 = .ok (.if_icmp .ge (13), 3) := by decide +kernel
theorem d_ck_tell_31 : decode prog_2_method_8_code 31 = .ok (.aload_n 0, 1) := by decide +kernel
theorem d_ck_tell_32 : decode prog_2_method_8_code 32 = .ok (.iload_n 1, 1) := by decide +kernel
theorem d_ck_tell_33 : decode prog_2_method_8_code 33 = .ok (.putfield 18, 3) := by decide +kernel
theorem d_ck_tell_36 : decode prog_2_method_8_code 36 = .ok (.aload_n 0, 1) := by decide +kernel
theorem d_ck_tell_37 : decode prog_2_method_8_code 37 = .ok (.iload_n 2, 1) := by decide +kernel
theorem d_ck_tell_38 : decode prog_2_method_8_code 38 = .ok (.putfield 22, 3) := by decide +kernel
theorem d_ck_tell_41 : decode prog_2_method_8_code 41 = .ok (.return_, 1) := by decide +kernel
theorem d_cd_init_0 : decode prog_3_method_1_code 0 = .ok (.aload_n 0, 1) := by decide +kernel
theorem d_cd_init_1 : decode prog_3_method_1_code 1 = .ok (.invokespecial 3, 3) := by decide +kernel
theorem d_cd_init_4 : decode prog_3_method_1_code 4 = .ok (.aload_n 0, 1) := by decide +kernel
theorem d_cd_init_5 : decode prog_3_method_1_code 5 = .ok (.bipush 120, 2) := by decide +kernel
theorem d_cd_init_7 : decode prog_3_method_1_code 7 = .ok (.newarray .int, 2) := by decide +kernel
theorem d_cd_init_9 : decode prog_3_method_1_code 9 = .ok (.putfield 9, 3) := by decide +kernel
theorem d_cd_init_12 : decode prog_3_method_1_code 12 = .ok (.aload_n 0, 1) := by decide +kernel
theorem d_cd_init_13 : decode prog_3_method_1_code 13 = .ok (.bipush 120, 2) := by decide +kernel
theorem d_cd_init_15 : decode prog_3_method_1_code 15 = .ok (.newarray .int, 2) := by decide +kernel
theorem d_cd_init_17 : decode prog_3_method_1_code 17 = .ok (.putfield 15, 3) := by decide +kernel
theorem d_cd_init_20 : decode prog_3_method_1_code 20 = .ok (.aload_n 0, 1) := by decide +kernel
theorem d_cd_init_21 : decode prog_3_method_1_code 21 = .ok (.bipush 120, 2) := by decide +kernel
theorem d_cd_init_23 : decode prog_3_method_1_code 23 = .ok (.newarray .int, 2) := by decide +kernel
theorem d_cd_init_25 : decode prog_3_method_1_code 25 = .ok (.putfield 18, 3) := by decide +kernel
theorem d_cd_init_28 : decode prog_3_method_1_code 28 = .ok (.aload_n 0, 1) := by decide +kernel
theorem d_cd_init_29 : decode prog_3_method_1_code 29 = .ok (.bipush 120, 2) := by decide +kernel
theorem d_cd_init_31 : decode prog_3_method_1_code 31 = .ok (.newarray .int, 2) := by decide +kernel
theorem d_cd_init_33 : decode prog_3_method_1_code 33 = .ok (.putfield 21, 3) := by decide +kernel
theorem d_cd_init_36 : decode prog_3_method_1_code 36 = .ok (.return_, 1) := by decide +kernel
theorem d_cd_add_0 : decode prog_3_method_2_code 0 = .ok (.aload_n 0, 1) := by decide +kernel
theorem d_cd_add_1 : decode prog_3_method_2_code 1 = .ok (.getfield 24, 3) := by decide +kernel
theorem d_cd_add_4 : decode prog_3_method_2_code 4 = .ok (.bipush 120, 2) := by decide +kernel
theorem d_cd_add_6 : decode prog_3_method_2_code 6 = .ok (.if_icmp .ge (58), 3) := by decide +kernel
theorem d_cd_add_9 : decode prog_3_method_2_code 9 = .ok (.aload_n 0, 1) := by decide +kernel
theorem d_cd_add_10 : decode prog_3_method_2_code 10 = .ok (.getfield 9, 3) := by decide +kernel
theorem d_cd_add_13 : decode prog_3_method_2_code 13 = .ok (.aload_n 0, 1) := by decide +kernel
theorem d_cd_add_14 : decode prog_3_method_2_code 14 = .ok (.getfield 24, 3) := by decide +kernel
theorem d_cd_add_17 : decode prog_3_method_2_code 17 = .ok (.iload_n 1, 1) := by decide +kernel
theorem d_cd_add_18 : decode prog_3_method_2_code 18 = .ok (.iastore, 1) := by decide +kernel
theorem d_cd_add_19 : decode prog_3_method_2_code 19 = .ok (.aload_n 0, 1) := by decide +kernel
theorem d_cd_add_20 : decode prog_3_method_2_code 20 = .ok (.getfield 15, 3) := by decide +kernel
theorem d_cd_add_23 : decode prog_3_method_2_code 23 = .ok (.aload_n 0, 1) := by decide +kernel
theorem d_cd_add_24 : decode prog_3_method_2_code 24 = .ok (.getfield 24, 3) := by decide +kernel
theorem d_cd_add_27 : decode prog_3_method_2_code 27 = .ok (.iload_n 2, 1) := by decide +kernel
theorem d_cd_add_28 : decode prog_3_method_2_code 28 = .ok (.iastore, 1) := by decide +kernel
theorem d_cd_add_29 : decode prog_3_method_2_code 29 = .ok (.aload_n 0, 1) := by decide +kernel
theorem d_cd_add_30 : decode prog_3_method_2_code 30 = .ok (.getfield 18, 3) := by decide +kernel
theorem d_cd_add_33 : decode prog_3_method_2_code 33 = .ok (.aload_n 0, 1) := by decide +kernel
theorem d_cd_add_34 : decode prog_3_method_2_code 34 = .ok (.getfield 24, 3) := by decide +kernel
theorem d_cd_add_37 : decode prog_3_method_2_code 37 = .ok (.aload_n 0, 1) := by decide +kernel
theorem d_cd_add_38 : decode prog_3_method_2_code 38 = .ok (.getfield 24, 3) := by decide +kernel
theorem d_cd_add_41 : decode prog_3_method_2_code 41 = .ok (.iconst 1, 1) := by decide +kernel
theorem d_cd_add_42 : decode prog_3_method_2_code 42 = .ok (.iadd, 1) := by decide +kernel
theorem d_cd_add_43 : decode prog_3_method_2_code 43 = .ok (.iastore, 1) := by decide +kernel
theorem d_cd_add_44 : decode prog_3_method_2_code 44 = .ok (.aload_n 0, 1) := by decide +kernel
theorem d_cd_add_45 : decode prog_3_method_2_code 45 = .ok (.getfield 21, 3) := by decide +kernel
theorem d_cd_add_48 : decode prog_3_method_2_code 48 = .ok (.aload_n 0, 1) := by decide +kernel
theorem d_cd_add_49 : decode prog_3_method_2_code 49 = .ok (.getfield 24, 3) := by decide +kernel
theorem d_cd_add_52 : decode prog_3_method_2_code 52 = .ok (.iload_n 3, 1) := by decide +kernel
theorem d_cd_add_53 : decode prog_3_method_2_code 53 = .ok (.iastore, 1) := by decide +kernel
theorem d_cd_add_54 : decode prog_3_method_2_code 54 = .ok (.aload_n 0, 1) := by decide +kernel
theorem d_cd_add_55 : decode prog_3_method_2_code 55 = .ok (.dup, 1) := by decide +kernel
theorem d_cd_add_56 : decode prog_3_method_2_code 56 = .ok (.getfield 24, 3) := by decide +kernel
theorem d_cd_add_59 : decode prog_3_method_2_code 59 = .ok (.iconst 1, 1) := by decide +kernel
theorem d_cd_add_60 : decode prog_3_method_2_code 60 = .ok (.iadd, 1) := by decide +kernel
theorem d_cd_add_61 : decode prog_3_method_2_code 61 = .ok (.putfield 24, 3) := by decide +kernel
theorem d_cd_add_64 : decode prog_3_method_2_code 64 = .ok (.aload_n 0, 1) := by decide +kernel
theorem d_cd_add_65 : decode prog_3_method_2_code 65 = .ok (.getfield 24, 3) := by decide +kernel
theorem d_cd_add_68 : decode prog_3_method_2_code 68 = .ok (.iconst 1, 1) := by decide +kernel
theorem d_cd_add_69 : decode prog_3_method_2_code 69 = .ok (.isub, 1) := by decide +kernel
theorem d_cd_add_70 : decode prog_3_method_2_code 70 = .ok (.ireturn, 1) := by decide +kernel
theorem d_cd_aim_0 : decode prog_3_method_3_code 0 = .ok (.aload_n 0, 1) := by decide +kernel
theorem d_cd_aim_1 : decode prog_3_method_3_code 1 = .ok (.getfield 18, 3) := by decide +kernel
theorem d_cd_aim_4 : decode prog_3_method_3_code 4 = .ok (.iload_n 1, 1) := by decide +kernel
theorem d_cd_aim_5 : decode prog_3_method_3_code 5 = .ok (.iload_n 1, 1) := by decide +kernel
theorem d_cd_aim_6 : decode prog_3_method_3_code 6 = .ok (.iconst 1, 1) := by decide +kernel
theorem d_cd_aim_7 : decode prog_3_method_3_code 7 = .ok (.iadd, 1) := by decide +kernel
theorem d_cd_aim_8 : decode prog_3_method_3_code 8 = .ok (.aload_n 0, 1) := by decide +kernel
theorem d_cd_aim_9 : decode prog_3_method_3_code 9 = .ok (.getfield 24, 3) := by decide +kernel
theorem d_cd_aim_12 : decode prog_3_method_3_code 12 = .ok (.invokestatic 28, 3) := by decide +kernel
theorem d_cd_aim_15 : decode prog_3_method_3_code 15 = .ok (.invokestatic 34, 3) := by decide +kernel
theorem d_cd_aim_18 : decode prog_3_method_3_code 18 = .ok (.return_, 1) := by decide +kernel
theorem d_dr_init_0 : decode prog_4_method_1_code 0 = .ok (.aload_n 0, 1) := by decide +kernel
theorem d_dr_init_1 : decode prog_4_method_1_code 1 = .ok (.invokespecial 3, 3) := by decide +kernel
theorem d_dr_init_4 : decode prog_4_method_1_code 4 = .ok (.aload_n 0, 1) := by decide +kernel
theorem d_dr_init_5 : decode prog_4_method_1_code 5 = .ok (.bipush 120, 2) := by decide +kernel
theorem d_dr_init_7 : decode prog_4_method_1_code 7 = .ok (.newarray .char, 2) := by decide +kernel
theorem d_dr_init_9 : decode prog_4_method_1_code 9 = .ok (.putfield 9, 3) := by decide +kernel
theorem d_dr_init_12 : decode prog_4_method_1_code 12 = .ok (.aload_n 0, 1) := by decide +kernel
theorem d_dr_init_13 : decode prog_4_method_1_code 13 = .ok (.bipush 120, 2) := by decide +kernel
theorem d_dr_init_15 : decode prog_4_method_1_code 15 = .ok (.newarray .int, 2) := by decide +kernel
theorem d_dr_init_17 : decode prog_4_method_1_code 17 = .ok (.putfield 15, 3) := by decide +kernel
theorem d_dr_init_20 : decode prog_4_method_1_code 20 = .ok (.aload_n 0, 1) := by decide +kernel
theorem d_dr_init_21 : decode prog_4_method_1_code 21 = .ok (.bipush 120, 2) := by decide +kernel
theorem d_dr_init_23 : decode prog_4_method_1_code 23 = .ok (.newarray .int, 2) := by decide +kernel
theorem d_dr_init_25 : decode prog_4_method_1_code 25 = .ok (.putfield 19, 3) := by decide +kernel
theorem d_dr_init_28 : decode prog_4_method_1_code 28 = .ok (.aload_n 0, 1) := by decide +kernel
theorem d_dr_init_29 : decode prog_4_method_1_code 29 = .ok (.bipush 120, 2) := by decide +kernel
theorem d_dr_init_31 : decode prog_4_method_1_code 31 = .ok (.newarray .int, 2) := by decide +kernel
theorem d_dr_init_33 : decode prog_4_method_1_code 33 = .ok (.putfield 22, 3) := by decide +kernel
theorem d_dr_init_36 : decode prog_4_method_1_code 36 = .ok (.return_, 1) := by decide +kernel
theorem d_dr_erase_0 : decode prog_4_method_2_code 0 = .ok (.aload_n 0, 1) := by decide +kernel
theorem d_dr_erase_1 : decode prog_4_method_2_code 1 = .ok (.iconst 0, 1) := by decide +kernel
theorem d_dr_erase_2 : decode prog_4_method_2_code 2 = .ok (.putfield 25, 3) := by decide +kernel
theorem d_dr_erase_5 : decode prog_4_method_2_code 5 = .ok (.aload_n 0, 1) := by decide +kernel
theorem d_dr_erase_6 : decode prog_4_method_2_code 6 = .ok (.iconst 0, 1) := by decide +kernel
theorem d_dr_erase_7 : decode prog_4_method_2_code 7 = .ok (.putfield 29, 3) := by decide +kernel
theorem d_dr_erase_10 : decode prog_4_method_2_code 10 = .ok (.aload_n 0, 1) := by decide +kernel
theorem d_dr_erase_11 : decode prog_4_method_2_code 11 = .ok (.iconst 0, 1) := by decide +kernel
theorem d_dr_erase_12 : decode prog_4_method_2_code 12 = .ok (.putfield 32, 3) := by decide +kernel
theorem d_dr_erase_15 : decode prog_4_method_2_code 15 = .ok (.return_, 1) := by decide +kernel
theorem d_dr_write_0 : decode prog_4_method_3_code 0 = .ok (.aload_n 0, 1) := by decide +kernel
theorem d_dr_write_1 : decode prog_4_method_3_code 1 = .ok (.invokevirtual 35, 3) := by decide +kernel
theorem d_dr_write_4 : decode prog_4_method_3_code 4 = .ok (.aload_n 0, 1) := by decide +kernel
theorem d_dr_write_5 : decode prog_4_method_3_code 5 = .ok (.iconst 1, 1) := by decide +kernel
theorem d_dr_write_6 : decode prog_4_method_3_code 6 = .ok (.putfield 32, 3) := by decide +kernel
theorem d_dr_write_9 : decode prog_4_method_3_code 9 = .ok (.iconst 0, 1) := by decide +kernel
theorem d_dr_write_10 : decode prog_4_method_3_code 10 = .ok (.iload_n 2, 1) := by decide +kernel
theorem d_dr_write_11 : decode prog_4_method_3_code 11 = .ok (.invokestatic 38, 3) := by decide +kernel
theorem d_dr_write_14 : decode prog_4_method_3_code 14 = .ok (.istore 4, 2) := by decide +kernel
theorem d_dr_write_16 : decode prog_4_method_3_code 16 = .ok (.iload 4, 2) := by decide +kernel
theorem d_dr_write_18 : decode prog_4_method_3_code 18 = .ok (.iload_n 3, 1) := by decide +kernel
theorem d_dr_write_19 : decode prog_4_method_3_code 19 = .ok (.if_icmp .ge (48), 3) := by decide +kernel
theorem d_dr_write_22 : decode prog_4_method_3_code 22 = .ok (.iload 4, 2) := by decide +kernel
theorem d_dr_write_24 : decode prog_4_method_3_code 24 = .ok (.aload_n 1, 1) := by decide +kernel
theorem d_dr_write_25 : decode prog_4_method_3_code 25 = .ok (.arraylength, 1) := by decide +kernel
theorem d_dr_write_26 : decode prog_4_method_3_code 26 = .ok (.if_icmp .ge (41), 3) := by decide +kernel
theorem d_dr_write_29 : decode prog_4_method_3_code 29 = .ok (.aload_n 0, 1) := by decide +kernel
theorem d_dr_write_30 : decode prog_4_method_3_code 30 = .ok (.getfield 25, 3) := by decide +kernel
theorem d_dr_write_33 : decode prog_4_method_3_code 33 = .ok (.bipush 120, 2) := by decide +kernel
theorem d_dr_write_35 : decode prog_4_method_3_code 35 = .ok (.if_icmp .ge (32), 3) := by decide +kernel
theorem d_dr_write_38 : decode prog_4_method_3_code 38 = .ok (.aload_n 0, 1) := by decide +kernel
theorem d_dr_write_39 : decode prog_4_method_3_code 39 = .ok (.getfield 9, 3) := by decide +kernel
theorem d_dr_write_42 : decode prog_4_method_3_code 42 = .ok (.aload_n 0, 1) := by decide +kernel
theorem d_dr_write_43 : decode prog_4_method_3_code 43 = .ok (.getfield 25, 3) := by decide +kernel
theorem d_dr_write_46 : decode prog_4_method_3_code 46 = .ok (.aload_n 1, 1) := by decide +kernel
theorem d_dr_write_47 : decode prog_4_method_3_code 47 = .ok (.iload 4, 2) := by decide +kernel
theorem d_dr_write_49 : decode prog_4_method_3_code 49 = .ok (.caload, 1) := by decide +kernel
theorem d_dr_write_50 : decode prog_4_method_3_code 50 = .ok (.castore, 1) := by decide +kernel
theorem d_dr_write_51 : decode prog_4_method_3_code 51 = .ok (.aload_n 0, 1) := by decide +kernel
theorem d_dr_write_52 : decode prog_4_method_3_code 52 = .ok (.dup, 1) := by decide +kernel
theorem d_dr_write_53 : decode prog_4_method_3_code 53 = .ok (.getfield 25, 3) := by decide +kernel
theorem d_dr_write_56 : decode prog_4_method_3_code 56 = .ok (.iconst 1, 1) := by decide +kernel
theorem d_dr_write_57 : decode prog_4_method_3_code 57 = .ok (.iadd, 1) := by decide +kernel
theorem d_dr_write_58 : decode prog_4_method_3_code 58 = .ok (.putfield 25, 3) := by decide +kernel
theorem d_dr_write_61 : decode prog_4_method_3_code 61 = .ok (.iinc 4 (1), 3) := by decide +kernel
theorem d_dr_write_64 : decode prog_4_method_3_code 64 = .ok (.goto (-48), 3) := by decide +kernel
theorem d_dr_write_67 : decode prog_4_method_3_code 67 = .ok (.return_, 1) := by decide +kernel
theorem d_dr_addValues_0 : decode prog_4_method_4_code 0 = .ok (.iconst 0, 1) := by decide +kernel
theorem d_dr_addValues_1 : decode prog_4_method_4_code 1 = .ok (.istore 4, 2) := by decide +kernel
theorem d_dr_addValues_3 : decode prog_4_method_4_code 3 = .ok (.iload 4, 2) := by decide +kernel
theorem d_dr_addValues_5 : decode prog_4_method_4_code 5 = .ok (.aload_n 0, 1) := by decide +kernel
theorem d_dr_addValues_6 : decode prog_4_method_4_code 6 = .ok (.getfield 25, 3) := by decide +kernel
theorem d_dr_addValues_9 : decode prog_4_method_4_code 9 = .ok (.if_icmp .ge (67), 3) := by decide +kernel
theorem d_dr_addValues_12 : decode prog_4_method_4_code 12 = .ok (.aload_n 1, 1) := by decide +kernel
theorem d_dr_addValues_13 : decode prog_4_method_4_code 13 = .ok (.iload_n 3, 1) := by decide +kernel
theorem d_dr_addValues_14 : decode prog_4_method_4_code 14 = .ok (.iload 4, 2) := by decide +kernel
theorem d_dr_addValues_16 : decode prog_4_method_4_code 16 = .ok (.iadd, 1) := by decide +kernel
theorem d_dr_addValues_17 : decode prog_4_method_4_code 17 = .ok (.invokestatic 44, 3) := by decide +kernel
theorem d_dr_addValues_20 : decode prog_4_method_4_code 20 = .ok (.ifCond .eq (50), 3) := by decide +kernel
theorem d_dr_addValues_23 : decode prog_4_method_4_code 23 = .ok (.aload_n 0, 1) := by decide +kernel
theorem d_dr_addValues_24 : decode prog_4_method_4_code 24 = .ok (.getfield 29, 3) := by decide +kernel
theorem d_dr_addValues_27 : decode prog_4_method_4_code 27 = .ok (.bipush 120, 2) := by decide +kernel
theorem d_dr_addValues_29 : decode prog_4_method_4_code 29 = .ok (.if_icmp .ge (41), 3) := by decide +kernel
theorem d_dr_addValues_32 : decode prog_4_method_4_code 32 = .ok (.aload_n 0, 1) := by decide +kernel
theorem d_dr_addValues_33 : decode prog_4_method_4_code 33 = .ok (.getfield 15, 3) := by decide +kernel
theorem d_dr_addValues_36 : decode prog_4_method_4_code 36 = .ok (.aload_n 0, 1) := by decide +kernel
theorem d_dr_addValues_37 : decode prog_4_method_4_code 37 = .ok (.getfield 29, 3) := by decide +kernel
theorem d_dr_addValues_40 : decode prog_4_method_4_code 40 = .ok (.iload 4, 2) := by decide +kernel
theorem d_dr_addValues_42 : decode prog_4_method_4_code 42 = .ok (.iastore, 1) := by decide +kernel
theorem d_dr_addValues_43 : decode prog_4_method_4_code 43 = .ok (.aload_n 0, 1) := by decide +kernel
theorem d_dr_addValues_44 : decode prog_4_method_4_code 44 = .ok (.getfield 19, 3) := by decide +kernel
theorem d_dr_addValues_47 : decode prog_4_method_4_code 47 = .ok (.aload_n 0, 1) := by decide +kernel
theorem d_dr_addValues_48 : decode prog_4_method_4_code 48 = .ok (.getfield 29, 3) := by decide +kernel
theorem d_dr_addValues_51 : decode prog_4_method_4_code 51 = .ok (.aload_n 2, 1) := by decide +kernel
theorem d_dr_addValues_52 : decode prog_4_method_4_code 52 = .ok (.iload_n 3, 1) := by decide +kernel
theorem d_dr_addValues_53 : decode prog_4_method_4_code 53 = .ok (.iload 4, 2) := by decide +kernel
theorem d_dr_addValues_55 : decode prog_4_method_4_code 55 = .ok (.iadd, 1) := by decide +kernel
theorem d_dr_addValues_56 : decode prog_4_method_4_code 56 = .ok (.invokestatic 44, 3) := by decide +kernel
theorem d_dr_addValues_59 : decode prog_4_method_4_code 59 = .ok (.iastore, 1) := by decide +kernel
theorem d_dr_addValues_60 : decode prog_4_method_4_code 60 = .ok (.aload_n 0, 1) := by decide +kernel
theorem d_dr_addValues_61 : decode prog_4_method_4_code 61 = .ok (.dup, 1) := by decide +kernel
theorem d_dr_addValues_62 : decode prog_4_method_4_code 62 = .ok (.getfield 29, 3) := by decide +kernel
theorem d_dr_addValues_65 : decode prog_4_method_4_code 65 = .ok (.iconst 1, 1) := by decide +kernel
theorem d_dr_addValues_66 : decode prog_4_method_4_code 66 = .ok (.iadd, 1) := by decide +kernel
theorem d_dr_addValues_67 : decode prog_4_method_4_code 67 = .ok (.putfield 29, 3) := by decide +kernel
theorem d_dr_addValues_70 : decode prog_4_method_4_code 70 = .ok (.iinc 4 (1), 3) := by decide +kernel
theorem d_dr_addValues_73 : decode prog_4_method_4_code 73 = .ok (.goto (-70), 3) := by decide +kernel
theorem d_dr_addValues_76 : decode prog_4_method_4_code 76 = .ok (.aload_n 0, 1) := by decide +kernel
theorem d_dr_addValues_77 : decode prog_4_method_4_code 77 = .ok (.invokevirtual 48, 3) := by decide +kernel
theorem d_dr_addValues_80 : decode prog_4_method_4_code 80 = .ok (.return_, 1) := by decide +kernel
theorem d_dr_columnOf_0 : decode prog_4_method_5_code 0 = .ok (.iload_n 1, 1) := by decide +kernel
theorem d_dr_columnOf_1 : decode prog_4_method_5_code 1 = .ok (.ifCond .lt (26), 3) := by decide +kernel
theorem d_dr_columnOf_4 : decode prog_4_method_5_code 4 = .ok (.iload_n 1, 1) := by decide +kernel
theorem d_dr_columnOf_5 : decode prog_4_method_5_code 5 = .ok (.aload_n 0, 1) := by decide +kernel
theorem d_dr_columnOf_6 : decode prog_4_method_5_code 6 = .ok (.getfield 29, 3) := by decide +kernel
theorem d_dr_columnOf_9 : decode prog_4_method_5_code 9 = .ok (.if_icmp .ge (18), 3) := by decide +kernel
theorem d_dr_columnOf_12 : decode prog_4_method_5_code 12 = .ok (.iload_n 1, 1) := by decide +kernel
theorem d_dr_columnOf_13 : decode prog_4_method_5_code 13 = .ok (.bipush 120, 2) := by decide +kernel
theorem d_dr_columnOf_15 : decode prog_4_method_5_code 15 = .ok (.if_icmp .ge (12), 3) := by decide +kernel
theorem d_dr_columnOf_18 : decode prog_4_method_5_code 18 = .ok (.aload_n 0, 1) := by decide +kernel
theorem d_dr_columnOf_19 : decode prog_4_method_5_code 19 = .ok (.getfield 15, 3) := by decide +kernel
theorem d_dr_columnOf_22 : decode prog_4_method_5_code 22 = .ok (.iload_n 1, 1) := by decide +kernel
theorem d_dr_columnOf_23 : decode prog_4_method_5_code 23 = .ok (.iaload, 1) := by decide +kernel
theorem d_dr_columnOf_24 : decode prog_4_method_5_code 24 = .ok (.goto (4), 3) := by decide +kernel
theorem d_dr_columnOf_27 : decode prog_4_method_5_code 27 = .ok (.iconst (-1), 1) := by decide +kernel
theorem d_dr_columnOf_28 : decode prog_4_method_5_code 28 = .ok (.ireturn, 1) := by decide +kernel
theorem d_dr_valueOf_0 : decode prog_4_method_6_code 0 = .ok (.iload_n 1, 1) := by decide +kernel
theorem d_dr_valueOf_1 : decode prog_4_method_6_code 1 = .ok (.ifCond .lt (26), 3) := by decide +kernel
theorem d_dr_valueOf_4 : decode prog_4_method_6_code 4 = .ok (.iload_n 1, 1) := by decide +kernel
theorem d_dr_valueOf_5 : decode prog_4_method_6_code 5 = .ok (.aload_n 0, 1) := by decide +kernel
theorem d_dr_valueOf_6 : decode prog_4_method_6_code 6 = .ok (.getfield 29, 3) := by decide +kernel
theorem d_dr_valueOf_9 : decode prog_4_method_6_code 9 = .ok (.if_icmp .ge (18), 3) := by decide +kernel
theorem d_dr_valueOf_12 : decode prog_4_method_6_code 12 = .ok (.iload_n 1, 1) := by decide +kernel
theorem d_dr_valueOf_13 : decode prog_4_method_6_code 13 = .ok (.bipush 120, 2) := by decide +kernel
theorem d_dr_valueOf_15 : decode prog_4_method_6_code 15 = .ok (.if_icmp .ge (12), 3) := by decide +kernel
theorem d_dr_valueOf_18 : decode prog_4_method_6_code 18 = .ok (.aload_n 0, 1) := by decide +kernel
theorem d_dr_valueOf_19 : decode prog_4_method_6_code 19 = .ok (.getfield 19, 3) := by decide +kernel
theorem d_dr_valueOf_22 : decode prog_4_method_6_code 22 = .ok (.iload_n 1, 1) := by decide +kernel
theorem d_dr_valueOf_23 : decode prog_4_method_6_code 23 = .ok (.iaload, 1) := by decide +kernel
theorem d_dr_valueOf_24 : decode prog_4_method_6_code 24 = .ok (.goto (4), 3) := by decide +kernel
theorem d_dr_valueOf_27 : decode prog_4_method_6_code 27 = .ok (.iconst 0, 1) := by decide +kernel
theorem d_dr_valueOf_28 : decode prog_4_method_6_code 28 = .ok (.ireturn, 1) := by decide +kernel
theorem d_dr_characterAt_0 : decode prog_4_method_7_code 0 = .ok (.iload_n 1, 1) := by decide +kernel
theorem d_dr_characterAt_1 : decode prog_4_method_7_code 1 = .ok (.ifCond .lt (15), 3) := by decide +kernel
theorem d_dr_characterAt_4 : decode prog_4_method_7_code 4 = .ok (.iload_n 1, 1) := by decide +kernel
theorem d_dr_characterAt_5 : decode prog_4_method_7_code 5 = .ok (.aload_n 0, 1) := by decide +kernel
theorem d_dr_characterAt_6 : decode prog_4_method_7_code 6 = .ok (.getfield 32, 3) := by decide +kernel
theorem d_dr_characterAt_9 : decode prog_4_method_7_code 9 = .ok (.if_icmp .ge (7), 3) := by decide +kernel
theorem d_dr_characterAt_12 : decode prog_4_method_7_code 12 = .ok (.iload_n 2, 1) := by decide +kernel
theorem d_dr_characterAt_13 : decode prog_4_method_7_code 13 = .ok (.ifCond .ge (5), 3) := by decide +kernel
theorem d_dr_characterAt_16 : decode prog_4_method_7_code 16 = .ok (.iconst 0, 1) := by decide +kernel
theorem d_dr_characterAt_17 : decode prog_4_method_7_code 17 = .ok (.ireturn, 1) := by decide +kernel
theorem d_dr_characterAt_18 : decode prog_4_method_7_code 18 = .ok (.iload_n 1, 1) := by decide +kernel
theorem d_dr_characterAt_19 : decode prog_4_method_7_code 19 = .ok (.ifCond .ne (29), 3) := by decide +kernel
theorem d_dr_characterAt_22 : decode prog_4_method_7_code 22 = .ok (.iload_n 2, 1) := by decide +kernel
theorem d_dr_characterAt_23 : decode prog_4_method_7_code 23 = .ok (.aload_n 0, 1) := by decide +kernel
theorem d_dr_characterAt_24 : decode prog_4_method_7_code 24 = .ok (.getfield 25, 3) := by decide +kernel
theorem d_dr_characterAt_27 : decode prog_4_method_7_code 27 = .ok (.if_icmp .ge (18), 3) := by decide +kernel
theorem d_dr_characterAt_30 : decode prog_4_method_7_code 30 = .ok (.iload_n 2, 1) := by decide +kernel
theorem d_dr_characterAt_31 : decode prog_4_method_7_code 31 = .ok (.bipush 120, 2) := by decide +kernel
theorem d_dr_characterAt_33 : decode prog_4_method_7_code 33 = .ok (.if_icmp .ge (12), 3) := by decide +kernel
theorem d_dr_characterAt_36 : decode prog_4_method_7_code 36 = .ok (.aload_n 0, 1) := by decide +kernel
theorem d_dr_characterAt_37 : decode prog_4_method_7_code 37 = .ok (.getfield 9, 3) := by decide +kernel
theorem d_dr_characterAt_40 : decode prog_4_method_7_code 40 = .ok (.iload_n 2, 1) := by decide +kernel
theorem d_dr_characterAt_41 : decode prog_4_method_7_code 41 = .ok (.caload, 1) := by decide +kernel
theorem d_dr_characterAt_42 : decode prog_4_method_7_code 42 = .ok (.goto (5), 3) := by decide +kernel
theorem d_dr_characterAt_45 : decode prog_4_method_7_code 45 = .ok (.bipush 32, 2) := by decide +kernel
theorem d_dr_characterAt_47 : decode prog_4_method_7_code 47 = .ok (.ireturn, 1) := by decide +kernel
theorem d_dr_characterAt_48 : decode prog_4_method_7_code 48 = .ok (.iconst 0, 1) := by decide +kernel
theorem d_dr_characterAt_49 : decode prog_4_method_7_code 49 = .ok (.istore_n 3, 1) := by decide +kernel
theorem d_dr_characterAt_50 : decode prog_4_method_7_code 50 = .ok (.iload_n 3, 1) := by decide +kernel
theorem d_dr_characterAt_51 : decode prog_4_method_7_code 51 = .ok (.aload_n 0, 1) := by decide +kernel
theorem d_dr_characterAt_52 : decode prog_4_method_7_code 52 = .ok (.getfield 29, 3) := by decide +kernel
theorem d_dr_characterAt_55 : decode prog_4_method_7_code 55 = .ok (.if_icmp .ge (96), 3) := by decide +kernel
theorem d_dr_characterAt_58 : decode prog_4_method_7_code 58 = .ok (.iload_n 3, 1) := by decide +kernel
theorem d_dr_characterAt_59 : decode prog_4_method_7_code 59 = .ok (.bipush 120, 2) := by decide +kernel
theorem d_dr_characterAt_61 : decode prog_4_method_7_code 61 = .ok (.if_icmp .ge (90), 3) := by decide +kernel
theorem d_dr_characterAt_64 : decode prog_4_method_7_code 64 = .ok (.iload_n 2, 1) := by decide +kernel
theorem d_dr_characterAt_65 : decode prog_4_method_7_code 65 = .ok (.aload_n 0, 1) := by decide +kernel
theorem d_dr_characterAt_66 : decode prog_4_method_7_code 66 = .ok (.getfield 15, 3) := by decide +kernel
theorem d_dr_characterAt_69 : decode prog_4_method_7_code 69 = .ok (.iload_n 3, 1) := by decide +kernel
theorem d_dr_characterAt_70 : decode prog_4_method_7_code 70 = .ok (.iaload, 1) := by decide +kernel
theorem d_dr_characterAt_71 : decode prog_4_method_7_code 71 = .ok (.if_icmp .ne (16), 3) := by decide +kernel
theorem d_dr_characterAt_74 : decode prog_4_method_7_code 74 = .ok (.iload_n 1, 1) := by decide +kernel
theorem d_dr_characterAt_75 : decode prog_4_method_7_code 75 = .ok (.aload_n 0, 1) := by decide +kernel
theorem d_dr_characterAt_76 : decode prog_4_method_7_code 76 = .ok (.getfield 22, 3) := by decide +kernel
theorem d_dr_characterAt_79 : decode prog_4_method_7_code 79 = .ok (.iload_n 3, 1) := by decide +kernel
theorem d_dr_characterAt_80 : decode prog_4_method_7_code 80 = .ok (.iaload, 1) := by decide +kernel
theorem d_dr_characterAt_81 : decode prog_4_method_7_code 81 = .ok (.if_icmp .ge (6), 3) := by decide +kernel
theorem d_dr_characterAt_84 : decode prog_4_method_7_code 84 = .ok (.bipush 124, 2) := by decide +kernel
theorem d_dr_characterAt_86 : decode prog_4_method_7_code 86 = .ok (.ireturn, 1) := by decide +kernel
theorem d_dr_characterAt_87 : decode prog_4_method_7_code 87 = .ok (.iload_n 1, 1) := by decide +kernel
theorem d_dr_characterAt_88 : decode prog_4_method_7_code 88 = .ok (.aload_n 0, 1) := by decide +kernel
theorem d_dr_characterAt_89 : decode prog_4_method_7_code 89 = .ok (.getfield 22, 3) := by decide +kernel
theorem d_dr_characterAt_92 : decode prog_4_method_7_code 92 = .ok (.iload_n 3, 1) := by decide +kernel
theorem d_dr_characterAt_93 : decode prog_4_method_7_code 93 = .ok (.iaload, 1) := by decide +kernel
theorem d_dr_characterAt_94 : decode prog_4_method_7_code 94 = .ok (.if_icmp .ne (51), 3) := by decide +kernel
theorem d_dr_characterAt_97 : decode prog_4_method_7_code 97 = .ok (.iload_n 2, 1) := by decide +kernel
theorem d_dr_characterAt_98 : decode prog_4_method_7_code 98 = .ok (.aload_n 0, 1) := by decide +kernel
theorem d_dr_characterAt_99 : decode prog_4_method_7_code 99 = .ok (.getfield 15, 3) := by decide +kernel
theorem d_dr_characterAt_102 : decode prog_4_method_7_code 102 = .ok (.iload_n 3, 1) := by decide +kernel
theorem d_dr_characterAt_103 : decode prog_4_method_7_code 103 = .ok (.iaload, 1) := by decide +kernel
theorem d_dr_characterAt_104 : decode prog_4_method_7_code 104 = .ok (.if_icmp .lt (41), 3) := by decide +kernel
theorem d_dr_characterAt_107 : decode prog_4_method_7_code 107 = .ok (.iload_n 2, 1) := by decide +kernel
theorem d_dr_characterAt_108 : decode prog_4_method_7_code 108 = .ok (.aload_n 0, 1) := by decide +kernel
theorem d_dr_characterAt_109 : decode prog_4_method_7_code 109 = .ok (.getfield 15, 3) := by decide +kernel
theorem d_dr_characterAt_112 : decode prog_4_method_7_code 112 = .ok (.iload_n 3, 1) := by decide +kernel
theorem d_dr_characterAt_113 : decode prog_4_method_7_code 113 = .ok (.iaload, 1) := by decide +kernel
theorem d_dr_characterAt_114 : decode prog_4_method_7_code 114 = .ok (.isub, 1) := by decide +kernel
theorem d_dr_characterAt_115 : decode prog_4_method_7_code 115 = .ok (.aload_n 0, 1) := by decide +kernel
theorem d_dr_characterAt_116 : decode prog_4_method_7_code 116 = .ok (.getfield 19, 3) := by decide +kernel
theorem d_dr_characterAt_119 : decode prog_4_method_7_code 119 = .ok (.iload_n 3, 1) := by decide +kernel
theorem d_dr_characterAt_120 : decode prog_4_method_7_code 120 = .ok (.iaload, 1) := by decide +kernel
theorem d_dr_characterAt_121 : decode prog_4_method_7_code 121 = .ok (.invokestatic 51, 3) := by decide +kernel
theorem d_dr_characterAt_124 : decode prog_4_method_7_code 124 = .ok (.if_icmp .ge (21), 3) := by decide +kernel
theorem d_dr_characterAt_127 : decode prog_4_method_7_code 127 = .ok (.aload_n 0, 1) := by decide +kernel
theorem d_dr_characterAt_128 : decode prog_4_method_7_code 128 = .ok (.getfield 19, 3) := by decide +kernel
theorem d_dr_characterAt_131 : decode prog_4_method_7_code 131 = .ok (.iload_n 3, 1) := by decide +kernel
theorem d_dr_characterAt_132 : decode prog_4_method_7_code 132 = .ok (.iaload, 1) := by decide +kernel
theorem d_dr_characterAt_133 : decode prog_4_method_7_code 133 = .ok (.iload_n 2, 1) := by decide +kernel
theorem d_dr_characterAt_134 : decode prog_4_method_7_code 134 = .ok (.aload_n 0, 1) := by decide +kernel
theorem d_dr_characterAt_135 : decode prog_4_method_7_code 135 = .ok (.getfield 15, 3) := by decide +kernel
theorem d_dr_characterAt_138 : decode prog_4_method_7_code 138 = .ok (.iload_n 3, 1) := by decide +kernel
theorem d_dr_characterAt_139 : decode prog_4_method_7_code 139 = .ok (.iaload, 1) := by decide +kernel
theorem d_dr_characterAt_140 : decode prog_4_method_7_code 140 = .ok (.isub, 1) := by decide +kernel
theorem d_dr_characterAt_141 : decode prog_4_method_7_code 141 = .ok (.invokestatic 55, 3) := by decide +kernel
theorem d_dr_characterAt_144 : decode prog_4_method_7_code 144 = .ok (.ireturn, 1) := by decide +kernel
theorem d_dr_characterAt_145 : decode prog_4_method_7_code 145 = .ok (.iinc 3 (1), 3) := by decide +kernel
theorem d_dr_characterAt_148 : decode prog_4_method_7_code 148 = .ok (.goto (-98), 3) := by decide +kernel
theorem d_dr_characterAt_151 : decode prog_4_method_7_code 151 = .ok (.bipush 32, 2) := by decide +kernel
theorem d_dr_characterAt_153 : decode prog_4_method_7_code 153 = .ok (.ireturn, 1) := by decide +kernel
theorem d_dr_layOut_0 : decode prog_4_method_8_code 0 = .ok (.aload_n 0, 1) := by decide +kernel
theorem d_dr_layOut_1 : decode prog_4_method_8_code 1 = .ok (.getfield 29, 3) := by decide +kernel
theorem d_dr_layOut_4 : decode prog_4_method_8_code 4 = .ok (.bipush 120, 2) := by decide +kernel
theorem d_dr_layOut_6 : decode prog_4_method_8_code 6 = .ok (.invokestatic 58, 3) := by decide +kernel
theorem d_dr_layOut_9 : decode prog_4_method_8_code 9 = .ok (.iconst 1, 1) := by decide +kernel
theorem d_dr_layOut_10 : decode prog_4_method_8_code 10 = .ok (.isub, 1) := by decide +kernel
theorem d_dr_layOut_11 : decode prog_4_method_8_code 11 = .ok (.istore_n 1, 1) := by decide +kernel
theorem d_dr_layOut_12 : decode prog_4_method_8_code 12 = .ok (.iload_n 1, 1) := by decide +kernel
theorem d_dr_layOut_13 : decode prog_4_method_8_code 13 = .ok (.ifCond .lt (77), 3) := by decide +kernel
theorem d_dr_layOut_16 : decode prog_4_method_8_code 16 = .ok (.iconst 2, 1) := by decide +kernel
theorem d_dr_layOut_17 : decode prog_4_method_8_code 17 = .ok (.istore_n 2, 1) := by decide +kernel
theorem d_dr_layOut_18 : decode prog_4_method_8_code 18 = .ok (.aload_n 0, 1) := by decide +kernel
theorem d_dr_layOut_19 : decode prog_4_method_8_code 19 = .ok (.getfield 15, 3) := by decide +kernel
theorem d_dr_layOut_22 : decode prog_4_method_8_code 22 = .ok (.iload_n 1, 1) := by decide +kernel
theorem d_dr_layOut_23 : decode prog_4_method_8_code 23 = .ok (.iaload, 1) := by decide +kernel
theorem d_dr_layOut_24 : decode prog_4_method_8_code 24 = .ok (.aload_n 0, 1) := by decide +kernel
theorem d_dr_layOut_25 : decode prog_4_method_8_code 25 = .ok (.getfield 19, 3) := by decide +kernel
theorem d_dr_layOut_28 : decode prog_4_method_8_code 28 = .ok (.iload_n 1, 1) := by decide +kernel
theorem d_dr_layOut_29 : decode prog_4_method_8_code 29 = .ok (.iaload, 1) := by decide +kernel
theorem d_dr_layOut_30 : decode prog_4_method_8_code 30 = .ok (.invokestatic 51, 3) := by decide +kernel
theorem d_dr_layOut_33 : decode prog_4_method_8_code 33 = .ok (.iadd, 1) := by decide +kernel
theorem d_dr_layOut_34 : decode prog_4_method_8_code 34 = .ok (.iconst 1, 1) := by decide +kernel
theorem d_dr_layOut_35 : decode prog_4_method_8_code 35 = .ok (.isub, 1) := by decide +kernel
theorem d_dr_layOut_36 : decode prog_4_method_8_code 36 = .ok (.istore_n 3, 1) := by decide +kernel
theorem d_dr_layOut_37 : decode prog_4_method_8_code 37 = .ok (.iload_n 2, 1) := by decide +kernel
theorem d_dr_layOut_38 : decode prog_4_method_8_code 38 = .ok (.aload_n 0, 1) := by decide +kernel
theorem d_dr_layOut_39 : decode prog_4_method_8_code 39 = .ok (.getfield 32, 3) := by decide +kernel
theorem d_dr_layOut_42 : decode prog_4_method_8_code 42 = .ok (.if_icmp .ge (21), 3) := by decide +kernel
theorem d_dr_layOut_45 : decode prog_4_method_8_code 45 = .ok (.aload_n 0, 1) := by decide +kernel
theorem d_dr_layOut_46 : decode prog_4_method_8_code 46 = .ok (.iload_n 2, 1) := by decide +kernel
theorem d_dr_layOut_47 : decode prog_4_method_8_code 47 = .ok (.iload_n 1, 1) := by decide +kernel
theorem d_dr_layOut_48 : decode prog_4_method_8_code 48 = .ok (.invokevirtual 61, 3) := by decide +kernel
theorem d_dr_layOut_51 : decode prog_4_method_8_code 51 = .ok (.iload_n 3, 1) := by decide +kernel
theorem d_dr_layOut_52 : decode prog_4_method_8_code 52 = .ok (.isub, 1) := by decide +kernel
theorem d_dr_layOut_53 : decode prog_4_method_8_code 53 = .ok (.iconst 1, 1) := by decide +kernel
theorem d_dr_layOut_54 : decode prog_4_method_8_code 54 = .ok (.if_icmp .gt (9), 3) := by decide +kernel
theorem d_dr_layOut_57 : decode prog_4_method_8_code 57 = .ok (.iinc 2 (1), 3) := by decide +kernel
theorem d_dr_layOut_60 : decode prog_4_method_8_code 60 = .ok (.goto (-23), 3) := by decide +kernel
theorem d_dr_layOut_63 : decode prog_4_method_8_code 63 = .ok (.aload_n 0, 1) := by decide +kernel
theorem d_dr_layOut_64 : decode prog_4_method_8_code 64 = .ok (.getfield 22, 3) := by decide +kernel
theorem d_dr_layOut_67 : decode prog_4_method_8_code 67 = .ok (.iload_n 1, 1) := by decide +kernel
theorem d_dr_layOut_68 : decode prog_4_method_8_code 68 = .ok (.iload_n 2, 1) := by decide +kernel
theorem d_dr_layOut_69 : decode prog_4_method_8_code 69 = .ok (.iastore, 1) := by decide +kernel
theorem d_dr_layOut_70 : decode prog_4_method_8_code 70 = .ok (.aload_n 0, 1) := by decide +kernel
theorem d_dr_layOut_71 : decode prog_4_method_8_code 71 = .ok (.aload_n 0, 1) := by decide +kernel
theorem d_dr_layOut_72 : decode prog_4_method_8_code 72 = .ok (.getfield 32, 3) := by decide +kernel
theorem d_dr_layOut_75 : decode prog_4_method_8_code 75 = .ok (.iload_n 2, 1) := by decide +kernel
theorem d_dr_layOut_76 : decode prog_4_method_8_code 76 = .ok (.iconst 1, 1) := by decide +kernel
theorem d_dr_layOut_77 : decode prog_4_method_8_code 77 = .ok (.iadd, 1) := by decide +kernel
theorem d_dr_layOut_78 : decode prog_4_method_8_code 78 = .ok (.invokestatic 38, 3) := by decide +kernel
theorem d_dr_layOut_81 : decode prog_4_method_8_code 81 = .ok (.putfield 32, 3) := by decide +kernel
theorem d_dr_layOut_84 : decode prog_4_method_8_code 84 = .ok (.iinc 1 (-1), 3) := by decide +kernel
theorem d_dr_layOut_87 : decode prog_4_method_8_code 87 = .ok (.goto (-75), 3) := by decide +kernel
theorem d_dr_layOut_90 : decode prog_4_method_8_code 90 = .ok (.return_, 1) := by decide +kernel
theorem d_dr_beginOf_0 : decode prog_4_method_9_code 0 = .ok (.iload_n 2, 1) := by decide +kernel
theorem d_dr_beginOf_1 : decode prog_4_method_9_code 1 = .ok (.iconst 1, 1) := by decide +kernel
theorem d_dr_beginOf_2 : decode prog_4_method_9_code 2 = .ok (.iadd, 1) := by decide +kernel
theorem d_dr_beginOf_3 : decode prog_4_method_9_code 3 = .ok (.istore_n 3, 1) := by decide +kernel
theorem d_dr_beginOf_4 : decode prog_4_method_9_code 4 = .ok (.iload_n 3, 1) := by decide +kernel
theorem d_dr_beginOf_5 : decode prog_4_method_9_code 5 = .ok (.aload_n 0, 1) := by decide +kernel
theorem d_dr_beginOf_6 : decode prog_4_method_9_code 6 = .ok (.getfield 29, 3) := by decide +kernel
theorem d_dr_beginOf_9 : decode prog_4_method_9_code 9 = .ok (.if_icmp .ge (32), 3) := by decide +kernel
theorem d_dr_beginOf_12 : decode prog_4_method_9_code 12 = .ok (.iload_n 3, 1) := by decide +kernel
theorem d_dr_beginOf_13 : decode prog_4_method_9_code 13 = .ok (.bipush 120, 2) := by decide +kernel
theorem d_dr_beginOf_15 : decode prog_4_method_9_code 15 = .ok (.if_icmp .ge (26), 3) := by decide +kernel
theorem d_dr_beginOf_18 : decode prog_4_method_9_code 18 = .ok (.aload_n 0, 1) := by decide +kernel
theorem d_dr_beginOf_19 : decode prog_4_method_9_code 19 = .ok (.getfield 22, 3) := by decide +kernel
theorem d_dr_beginOf_22 : decode prog_4_method_9_code 22 = .ok (.iload_n 3, 1) := by decide +kernel
theorem d_dr_beginOf_23 : decode prog_4_method_9_code 23 = .ok (.iaload, 1) := by decide +kernel
theorem d_dr_beginOf_24 : decode prog_4_method_9_code 24 = .ok (.iload_n 1, 1) := by decide +kernel
theorem d_dr_beginOf_25 : decode prog_4_method_9_code 25 = .ok (.if_icmp .lt (10), 3) := by decide +kernel
theorem d_dr_beginOf_28 : decode prog_4_method_9_code 28 = .ok (.aload_n 0, 1) := by decide +kernel
theorem d_dr_beginOf_29 : decode prog_4_method_9_code 29 = .ok (.getfield 15, 3) := by decide +kernel
theorem d_dr_beginOf_32 : decode prog_4_method_9_code 32 = .ok (.iload_n 3, 1) := by decide +kernel
theorem d_dr_beginOf_33 : decode prog_4_method_9_code 33 = .ok (.iaload, 1) := by decide +kernel
theorem d_dr_beginOf_34 : decode prog_4_method_9_code 34 = .ok (.ireturn, 1) := by decide +kernel
theorem d_dr_beginOf_35 : decode prog_4_method_9_code 35 = .ok (.iinc 3 (1), 3) := by decide +kernel
theorem d_dr_beginOf_38 : decode prog_4_method_9_code 38 = .ok (.goto (-34), 3) := by decide +kernel
theorem d_dr_beginOf_41 : decode prog_4_method_9_code 41 = .ok (.sipush 240, 3) := by decide +kernel
theorem d_dr_beginOf_44 : decode prog_4_method_9_code 44 = .ok (.ireturn, 1) := by decide +kernel
theorem d_dr_widthOf_0 : decode prog_4_method_10_code 0 = .ok (.iload_n 0, 1) := by decide +kernel
theorem d_dr_widthOf_1 : decode prog_4_method_10_code 1 = .ok (.ifCond .ge (7), 3) := by decide +kernel
theorem d_dr_widthOf_4 : decode prog_4_method_10_code 4 = .ok (.iconst 2, 1) := by decide +kernel
theorem d_dr_widthOf_5 : decode prog_4_method_10_code 5 = .ok (.goto (4), 3) := by decide +kernel
theorem d_dr_widthOf_8 : decode prog_4_method_10_code 8 = .ok (.iconst 1, 1) := by decide +kernel
theorem d_dr_widthOf_9 : decode prog_4_method_10_code 9 = .ok (.istore_n 1, 1) := by decide +kernel
theorem d_dr_widthOf_10 : decode prog_4_method_10_code 10 = .ok (.iload_n 0, 1) := by decide +kernel
theorem d_dr_widthOf_11 : decode prog_4_method_10_code 11 = .ok (.bipush 10, 2) := by decide +kernel
theorem d_dr_widthOf_13 : decode prog_4_method_10_code 13 = .ok (.idiv, 1) := by decide +kernel
theorem d_dr_widthOf_14 : decode prog_4_method_10_code 14 = .ok (.istore_n 2, 1) := by decide +kernel
theorem d_dr_widthOf_15 : decode prog_4_method_10_code 15 = .ok (.iconst 0, 1) := by decide +kernel
theorem d_dr_widthOf_16 : decode prog_4_method_10_code 16 = .ok (.istore_n 3, 1) := by decide +kernel
theorem d_dr_widthOf_17 : decode prog_4_method_10_code 17 = .ok (.iload_n 3, 1) := by decide +kernel
theorem d_dr_widthOf_18 : decode prog_4_method_10_code 18 = .ok (.bipush 10, 2) := by decide +kernel
theorem d_dr_widthOf_20 : decode prog_4_method_10_code 20 = .ok (.if_icmp .ge (21), 3) := by decide +kernel
theorem d_dr_widthOf_23 : decode prog_4_method_10_code 23 = .ok (.iload_n 2, 1) := by decide +kernel
theorem d_dr_widthOf_24 : decode prog_4_method_10_code 24 = .ok (.ifCond .eq (17), 3) := by decide +kernel
theorem d_dr_widthOf_27 : decode prog_4_method_10_code 27 = .ok (.iload_n 2, 1) := by decide +kernel
theorem d_dr_widthOf_28 : decode prog_4_method_10_code 28 = .ok (.bipush 10, 2) := by decide +kernel
theorem d_dr_widthOf_30 : decode prog_4_method_10_code 30 = .ok (.idiv, 1) := by decide +kernel
theorem d_dr_widthOf_31 : decode prog_4_method_10_code 31 = .ok (.istore_n 2, 1) := by decide +kernel
theorem d_dr_widthOf_32 : decode prog_4_method_10_code 32 = .ok (.iinc 1 (1), 3) := by decide +kernel
theorem d_dr_widthOf_35 : decode prog_4_method_10_code 35 = .ok (.iinc 3 (1), 3) := by decide +kernel
theorem d_dr_widthOf_38 : decode prog_4_method_10_code 38 = .ok (.goto (-21), 3) := by decide +kernel
theorem d_dr_widthOf_41 : decode prog_4_method_10_code 41 = .ok (.iload_n 1, 1) := by decide +kernel
theorem d_dr_widthOf_42 : decode prog_4_method_10_code 42 = .ok (.ireturn, 1) := by decide +kernel
theorem d_dr_digitOf_0 : decode prog_4_method_11_code 0 = .ok (.iload_n 0, 1) := by decide +kernel
theorem d_dr_digitOf_1 : decode prog_4_method_11_code 1 = .ok (.ifCond .ge (10), 3) := by decide +kernel
theorem d_dr_digitOf_4 : decode prog_4_method_11_code 4 = .ok (.iload_n 1, 1) := by decide +kernel
theorem d_dr_digitOf_5 : decode prog_4_method_11_code 5 = .ok (.ifCond .ne (6), 3) := by decide +kernel
theorem d_dr_digitOf_8 : decode prog_4_method_11_code 8 = .ok (.bipush 45, 2) := by decide +kernel
theorem d_dr_digitOf_10 : decode prog_4_method_11_code 10 = .ok (.ireturn, 1) := by decide +kernel
theorem d_dr_digitOf_11 : decode prog_4_method_11_code 11 = .ok (.iload_n 0, 1) := by decide +kernel
theorem d_dr_digitOf_12 : decode prog_4_method_11_code 12 = .ok (.istore_n 2, 1) := by decide +kernel
theorem d_dr_digitOf_13 : decode prog_4_method_11_code 13 = .ok (.iload_n 0, 1) := by decide +kernel
theorem d_dr_digitOf_14 : decode prog_4_method_11_code 14 = .ok (.invokestatic 51, 3) := by decide +kernel
theorem d_dr_digitOf_17 : decode prog_4_method_11_code 17 = .ok (.iconst 1, 1) := by decide +kernel
theorem d_dr_digitOf_18 : decode prog_4_method_11_code 18 = .ok (.isub, 1) := by decide +kernel
theorem d_dr_digitOf_19 : decode prog_4_method_11_code 19 = .ok (.istore_n 3, 1) := by decide +kernel
theorem d_dr_digitOf_20 : decode prog_4_method_11_code 20 = .ok (.iload_n 3, 1) := by decide +kernel
theorem d_dr_digitOf_21 : decode prog_4_method_11_code 21 = .ok (.iload_n 1, 1) := by decide +kernel
theorem d_dr_digitOf_22 : decode prog_4_method_11_code 22 = .ok (.if_icmp .le (14), 3) := by decide +kernel
theorem d_dr_digitOf_25 : decode prog_4_method_11_code 25 = .ok (.iload_n 2, 1) := by decide +kernel
theorem d_dr_digitOf_26 : decode prog_4_method_11_code 26 = .ok (.bipush 10, 2) := by decide +kernel
theorem d_dr_digitOf_28 : decode prog_4_method_11_code 28 = .ok (.idiv, 1) := by decide +kernel
theorem d_dr_digitOf_29 : decode prog_4_method_11_code 29 = .ok (.istore_n 2, 1) := by decide +kernel
theorem d_dr_digitOf_30 : decode prog_4_method_11_code 30 = .ok (.iinc 3 (-1), 3) := by decide +kernel
theorem d_dr_digitOf_33 : decode prog_4_method_11_code 33 = .ok (.goto (-13), 3) := by decide +kernel
theorem d_dr_digitOf_36 : decode prog_4_method_11_code 36 = .ok (.bipush 48, 2) := by decide +kernel
theorem d_dr_digitOf_38 : decode prog_4_method_11_code 38 = .ok (.iload_n 2, 1) := by decide +kernel
theorem d_dr_digitOf_39 : decode prog_4_method_11_code 39 = .ok (.bipush 10, 2) := by decide +kernel
theorem d_dr_digitOf_41 : decode prog_4_method_11_code 41 = .ok (.irem, 1) := by decide +kernel
theorem d_dr_digitOf_42 : decode prog_4_method_11_code 42 = .ok (.invokestatic 64, 3) := by decide +kernel
theorem d_dr_digitOf_45 : decode prog_4_method_11_code 45 = .ok (.iadd, 1) := by decide +kernel
theorem d_dr_digitOf_46 : decode prog_4_method_11_code 46 = .ok (.ireturn, 1) := by decide +kernel
theorem d_ev_init_0 : decode prog_5_method_1_code 0 = .ok (.aload_n 0, 1) := by decide +kernel
theorem d_ev_init_1 : decode prog_5_method_1_code 1 = .ok (.invokespecial 3, 3) := by decide +kernel
theorem d_ev_init_4 : decode prog_5_method_1_code 4 = .ok (.aload_n 0, 1) := by decide +kernel
theorem d_ev_init_5 : decode prog_5_method_1_code 5 = .ok (.bipush 120, 2) := by decide +kernel
theorem d_ev_init_7 : decode prog_5_method_1_code 7 = .ok (.newarray .int, 2) := by decide +kernel
theorem d_ev_init_9 : decode prog_5_method_1_code 9 = .ok (.putfield 9, 3) := by decide +kernel
theorem d_ev_init_12 : decode prog_5_method_1_code 12 = .ok (.aload_n 0, 1) := by decide +kernel
theorem d_ev_init_13 : decode prog_5_method_1_code 13 = .ok (.bipush 120, 2) := by decide +kernel
theorem d_ev_init_15 : decode prog_5_method_1_code 15 = .ok (.newarray .int, 2) := by decide +kernel
theorem d_ev_init_17 : decode prog_5_method_1_code 17 = .ok (.putfield 15, 3) := by decide +kernel
theorem d_ev_init_20 : decode prog_5_method_1_code 20 = .ok (.aload_n 0, 1) := by decide +kernel
theorem d_ev_init_21 : decode prog_5_method_1_code 21 = .ok (.bipush 120, 2) := by decide +kernel
theorem d_ev_init_23 : decode prog_5_method_1_code 23 = .ok (.newarray .int, 2) := by decide +kernel
theorem d_ev_init_25 : decode prog_5_method_1_code 25 = .ok (.putfield 18, 3) := by decide +kernel
theorem d_ev_init_28 : decode prog_5_method_1_code 28 = .ok (.aload_n 0, 1) := by decide +kernel
theorem d_ev_init_29 : decode prog_5_method_1_code 29 = .ok (.bipush 120, 2) := by decide +kernel
theorem d_ev_init_31 : decode prog_5_method_1_code 31 = .ok (.newarray .int, 2) := by decide +kernel
theorem d_ev_init_33 : decode prog_5_method_1_code 33 = .ok (.putfield 21, 3) := by decide +kernel
theorem d_ev_init_36 : decode prog_5_method_1_code 36 = .ok (.aload_n 0, 1) := by decide +kernel
theorem d_ev_init_37 : decode prog_5_method_1_code 37 = .ok (.bipush 22, 2) := by decide +kernel
theorem d_ev_init_39 : decode prog_5_method_1_code 39 = .ok (.newarray .int, 2) := by decide +kernel
theorem d_ev_init_41 : decode prog_5_method_1_code 41 = .ok (.putfield 24, 3) := by decide +kernel
theorem d_ev_init_44 : decode prog_5_method_1_code 44 = .ok (.aload_n 0, 1) := by decide +kernel
theorem d_ev_init_45 : decode prog_5_method_1_code 45 = .ok (.aload_n 1, 1) := by decide +kernel
theorem d_ev_init_46 : decode prog_5_method_1_code 46 = .ok (.putfield 27, 3) := by decide +kernel
theorem d_ev_init_49 : decode prog_5_method_1_code 49 = .ok (.aload_n 0, 1) := by decide +kernel
theorem d_ev_init_50 : decode prog_5_method_1_code 50 = .ok (.aload_n 2, 1) := by decide +kernel
theorem d_ev_init_51 : decode prog_5_method_1_code 51 = .ok (.putfield 31, 3) := by decide +kernel
theorem d_ev_init_54 : decode prog_5_method_1_code 54 = .ok (.return_, 1) := by decide +kernel
theorem d_ev_begin_0 : decode prog_5_method_2_code 0 = .ok (.aload_n 0, 1) := by decide +kernel
theorem d_ev_begin_1 : decode prog_5_method_2_code 1 = .ok (.aload_n 1, 1) := by decide +kernel
theorem d_ev_begin_2 : decode prog_5_method_2_code 2 = .ok (.putfield 27, 3) := by decide +kernel
theorem d_ev_begin_5 : decode prog_5_method_2_code 5 = .ok (.aload_n 0, 1) := by decide +kernel
theorem d_ev_begin_6 : decode prog_5_method_2_code 6 = .ok (.aload_n 2, 1) := by decide +kernel
theorem d_ev_begin_7 : decode prog_5_method_2_code 7 = .ok (.putfield 31, 3) := by decide +kernel
theorem d_ev_begin_10 : decode prog_5_method_2_code 10 = .ok (.aload_n 0, 1) := by decide +kernel
theorem d_ev_begin_11 : decode prog_5_method_2_code 11 = .ok (.invokevirtual 35, 3) := by decide +kernel
theorem d_ev_begin_14 : decode prog_5_method_2_code 14 = .ok (.return_, 1) := by decide +kernel
theorem d_ev_enforce_0 : decode prog_5_method_3_code 0 = .ok (.aload_n 0, 1) := by decide +kernel
theorem d_ev_enforce_1 : decode prog_5_method_3_code 1 = .ok (.iload_n 1, 1) := by decide +kernel
theorem d_ev_enforce_2 : decode prog_5_method_3_code 2 = .ok (.putfield 38, 3) := by decide +kernel
theorem d_ev_enforce_5 : decode prog_5_method_3_code 5 = .ok (.aload_n 0, 1) := by decide +kernel
theorem d_ev_enforce_6 : decode prog_5_method_3_code 6 = .ok (.iload_n 2, 1) := by decide +kernel
theorem d_ev_enforce_7 : decode prog_5_method_3_code 7 = .ok (.putfield 42, 3) := by decide +kernel
theorem d_ev_enforce_10 : decode prog_5_method_3_code 10 = .ok (.iconst 0, 1) := by decide +kernel
theorem d_ev_enforce_11 : decode prog_5_method_3_code 11 = .ok (.istore_n 3, 1) := by decide +kernel
theorem d_ev_enforce_12 : decode prog_5_method_3_code 12 = .ok (.iload_n 3, 1) := by decide +kernel
theorem d_ev_enforce_13 : decode prog_5_method_3_code 13 = .ok (.bipush 22, 2) := by decide +kernel
theorem d_ev_enforce_15 : decode prog_5_method_3_code 15 = .ok (.if_icmp .ge (16), 3) := by decide +kernel
theorem d_ev_enforce_18 : decode prog_5_method_3_code 18 = .ok (.aload_n 0, 1) := by decide +kernel
theorem d_ev_enforce_19 : decode prog_5_method_3_code 19 = .ok (.getfield 24, 3) := by decide +kernel
theorem d_ev_enforce_22 : decode prog_5_method_3_code 22 = .ok (.iload_n 3, 1) := by decide +kernel
theorem d_ev_enforce_23 : decode prog_5_method_3_code 23 = .ok (.iconst 0, 1) := by decide +kernel
theorem d_ev_enforce_24 : decode prog_5_method_3_code 24 = .ok (.iastore, 1) := by decide +kernel
theorem d_ev_enforce_25 : decode prog_5_method_3_code 25 = .ok (.iinc 3 (1), 3) := by decide +kernel
theorem d_ev_enforce_28 : decode prog_5_method_3_code 28 = .ok (.goto (-16), 3) := by decide +kernel
theorem d_ev_enforce_31 : decode prog_5_method_3_code 31 = .ok (.return_, 1) := by decide +kernel
theorem d_ev_release_0 : decode prog_5_method_4_code 0 = .ok (.aload_n 0, 1) := by decide +kernel
theorem d_ev_release_1 : decode prog_5_method_4_code 1 = .ok (.iconst 0, 1) := by decide +kernel
theorem d_ev_release_2 : decode prog_5_method_4_code 2 = .ok (.putfield 38, 3) := by decide +kernel
theorem d_ev_release_5 : decode prog_5_method_4_code 5 = .ok (.aload_n 0, 1) := by decide +kernel
theorem d_ev_release_6 : decode prog_5_method_4_code 6 = .ok (.iconst 0, 1) := by decide +kernel
theorem d_ev_release_7 : decode prog_5_method_4_code 7 = .ok (.putfield 42, 3) := by decide +kernel
theorem d_ev_release_10 : decode prog_5_method_4_code 10 = .ok (.return_, 1) := by decide +kernel
theorem d_ev_forgetNotes_0 : decode prog_5_method_5_code 0 = .ok (.iconst 0, 1) := by decide +kernel
theorem d_ev_forgetNotes_1 : decode prog_5_method_5_code 1 = .ok (.istore_n 1, 1) := by decide +kernel
theorem d_ev_forgetNotes_2 : decode prog_5_method_5_code 2 = .ok (.iload_n 1, 1) := by decide +kernel
theorem d_ev_forgetNotes_3 : decode prog_5_method_5_code 3 = .ok (.bipush 120, 2) := by decide +kernel
theorem d_ev_forgetNotes_5 : decode prog_5_method_5_code 5 = .ok (.if_icmp .ge (16), 3) := by decide +kernel
theorem d_ev_forgetNotes_8 : decode prog_5_method_5_code 8 = .ok (.aload_n 0, 1) := by decide +kernel
theorem d_ev_forgetNotes_9 : decode prog_5_method_5_code 9 = .ok (.getfield 15, 3) := by decide +kernel
theorem d_ev_forgetNotes_12 : decode prog_5_method_5_code 12 = .ok (.iload_n 1, 1) := by decide +kernel
theorem d_ev_forgetNotes_13 : decode prog_5_method_5_code 13 = .ok (.iconst 0, 1) := by decide +kernel
theorem d_ev_forgetNotes_14 : decode prog_5_method_5_code 14 = .ok (.iastore, 1) := by decide +kernel
theorem d_ev_forgetNotes_15 : decode prog_5_method_5_code 15 = .ok (.iinc 1 (1), 3) := by decide +kernel
theorem d_ev_forgetNotes_18 : decode prog_5_method_5_code 18 = .ok (.goto (-16), 3) := by decide +kernel
theorem d_ev_forgetNotes_21 : decode prog_5_method_5_code 21 = .ok (.return_, 1) := by decide +kernel
theorem d_ev_evaluate_0 : decode prog_5_method_6_code 0 = .ok (.aload_n 0, 1) := by decide +kernel
theorem d_ev_evaluate_1 : decode prog_5_method_6_code 1 = .ok (.iconst 0, 1) := by decide +kernel
theorem d_ev_evaluate_2 : decode prog_5_method_6_code 2 = .ok (.putfield 45, 3) := by decide +kernel
theorem d_ev_evaluate_5 : decode prog_5_method_6_code 5 = .ok (.aload_n 0, 1) := by decide +kernel
theorem d_ev_evaluate_6 : decode prog_5_method_6_code 6 = .ok (.iconst 0, 1) := by decide +kernel
theorem d_ev_evaluate_7 : decode prog_5_method_6_code 7 = .ok (.putfield 48, 3) := by decide +kernel
theorem d_ev_evaluate_10 : decode prog_5_method_6_code 10 = .ok (.iload_n 1, 1) := by decide +kernel
theorem d_ev_evaluate_11 : decode prog_5_method_6_code 11 = .ok (.istore_n 3, 1) := by decide +kernel
theorem d_ev_evaluate_12 : decode prog_5_method_6_code 12 = .ok (.iconst 0, 1) := by decide +kernel
theorem d_ev_evaluate_13 : decode prog_5_method_6_code 13 = .ok (.istore 4, 2) := by decide +kernel
theorem d_ev_evaluate_15 : decode prog_5_method_6_code 15 = .ok (.iload 4, 2) := by decide +kernel
theorem d_ev_evaluate_17 : decode prog_5_method_6_code 17 = .ok (.bipush 120, 2) := by decide +kernel
theorem d_ev_evaluate_19 : decode prog_5_method_6_code 19 = .ok (.if_icmp .ge (27), 3) := by decide +kernel
theorem d_ev_evaluate_22 : decode prog_5_method_6_code 22 = .ok (.iload_n 3, 1) := by decide +kernel
theorem d_ev_evaluate_23 : decode prog_5_method_6_code 23 = .ok (.iload_n 2, 1) := by decide +kernel
theorem d_ev_evaluate_24 : decode prog_5_method_6_code 24 = .ok (.if_icmp .ge (22), 3) := by decide +kernel
theorem d_ev_evaluate_27 : decode prog_5_method_6_code 27 = .ok (.aload_n 0, 1) := by decide +kernel
theorem d_ev_evaluate_28 : decode prog_5_method_6_code 28 = .ok (.getfield 48, 3) := by decide +kernel
theorem d_ev_evaluate_31 : decode prog_5_method_6_code 31 = .ok (.ifCond .ne (15), 3) := by decide +kernel
theorem d_ev_evaluate_34 : decode prog_5_method_6_code 34 = .ok (.aload_n 0, 1) := by decide +kernel
theorem d_ev_evaluate_35 : decode prog_5_method_6_code 35 = .ok (.iload_n 3, 1) := by decide +kernel
theorem d_ev_evaluate_36 : decode prog_5_method_6_code 36 = .ok (.invokevirtual 51, 3) := by decide +kernel
theorem d_ev_evaluate_39 : decode prog_5_method_6_code 39 = .ok (.istore_n 3, 1) := by decide +kernel
theorem d_ev_evaluate_40 : decode prog_5_method_6_code 40 = .ok (.iinc 4 (1), 3) := by decide +kernel
theorem d_ev_evaluate_43 : decode prog_5_method_6_code 43 = .ok (.goto (-28), 3) := by decide +kernel
theorem d_ev_evaluate_46 : decode prog_5_method_6_code 46 = .ok (.aload_n 0, 1) := by decide +kernel
theorem d_ev_evaluate_47 : decode prog_5_method_6_code 47 = .ok (.aload_n 0, 1) := by decide +kernel
theorem d_ev_evaluate_48 : decode prog_5_method_6_code 48 = .ok (.invokevirtual 55, 3) := by decide +kernel
theorem d_ev_evaluate_51 : decode prog_5_method_6_code 51 = .ok (.putfield 59, 3) := by decide +kernel
theorem d_ev_evaluate_54 : decode prog_5_method_6_code 54 = .ok (.aload_n 0, 1) := by decide +kernel
theorem d_ev_evaluate_55 : decode prog_5_method_6_code 55 = .ok (.getfield 48, 3) := by decide +kernel
theorem d_ev_evaluate_58 : decode prog_5_method_6_code 58 = .ok (.ifCond .ne (7), 3) := by decide +kernel
theorem d_ev_evaluate_61 : decode prog_5_method_6_code 61 = .ok (.iconst 1, 1) := by decide +kernel
theorem d_ev_evaluate_62 : decode prog_5_method_6_code 62 = .ok (.goto (4), 3) := by decide +kernel
theorem d_ev_evaluate_65 : decode prog_5_method_6_code 65 = .ok (.iconst 0, 1) := by decide +kernel
theorem d_ev_evaluate_66 : decode prog_5_method_6_code 66 = .ok (.ireturn, 1) := by decide +kernel
theorem d_ev_perform_0 : decode prog_5_method_7_code 0 = .ok (.aload_n 0, 1) := by decide +kernel
theorem d_ev_perform_1 : decode prog_5_method_7_code 1 = .ok (.getfield 27, 3) := by decide +kernel
theorem d_ev_perform_4 : decode prog_5_method_7_code 4 = .ok (.getfield 62, 3) := by decide +kernel
theorem d_ev_perform_7 : decode prog_5_method_7_code 7 = .ok (.astore_n 2, 1) := by decide +kernel
theorem d_ev_perform_8 : decode prog_5_method_7_code 8 = .ok (.aload_n 2, 1) := by decide +kernel
theorem d_ev_perform_9 : decode prog_5_method_7_code 9 = .ok (.getfield 68, 3) := by decide +kernel
theorem d_ev_perform_12 : decode prog_5_method_7_code 12 = .ok (.iload_n 1, 1) := by decide +kernel
theorem d_ev_perform_13 : decode prog_5_method_7_code 13 = .ok (.invokestatic 73, 3) := by decide +kernel
theorem d_ev_perform_16 : decode prog_5_method_7_code 16 = .ok (.istore_n 3, 1) := by decide +kernel
theorem d_ev_perform_17 : decode prog_5_method_7_code 17 = .ok (.aload_n 2, 1) := by decide +kernel
theorem d_ev_perform_18 : decode prog_5_method_7_code 18 = .ok (.getfield 77, 3) := by decide +kernel
theorem d_ev_perform_21 : decode prog_5_method_7_code 21 = .ok (.iload_n 1, 1) := by decide +kernel
theorem d_ev_perform_22 : decode prog_5_method_7_code 22 = .ok (.invokestatic 73, 3) := by decide +kernel
theorem d_ev_perform_25 : decode prog_5_method_7_code 25 = .ok (.istore 4, 2) := by decide +kernel
theorem d_ev_perform_27 : decode prog_5_method_7_code 27 = .ok (.aload_n 2, 1) := by decide +kernel
theorem d_ev_perform_28 : decode prog_5_method_7_code 28 = .ok (.getfield 80, 3) := by decide +kernel
theorem d_ev_perform_31 : decode prog_5_method_7_code 31 = .ok (.iload_n 1, 1) := by decide +kernel
theorem d_ev_perform_32 : decode prog_5_method_7_code 32 = .ok (.invokestatic 73, 3) := by decide +kernel
theorem d_ev_perform_35 : decode prog_5_method_7_code 35 = .ok (.tableswitch (200) 0 6 #[41, 49, 69, 83, 107, 127, 150], 41) := by decide +kernel
theorem d_ev_perform_76 : decode prog_5_method_7_code 76 = .ok (.aload_n 0, 1) := by decide +kernel
theorem d_ev_perform_77 : decode prog_5_method_7_code 77 = .ok (.iload_n 3, 1) := by decide +kernel
theorem d_ev_perform_78 : decode prog_5_method_7_code 78 = .ok (.invokevirtual 83, 3) := by decide +kernel
theorem d_ev_perform_81 : decode prog_5_method_7_code 81 = .ok (.goto (179), 3) := by decide +kernel
theorem d_ev_perform_84 : decode prog_5_method_7_code 84 = .ok (.aload_n 0, 1) := by decide +kernel
theorem d_ev_perform_85 : decode prog_5_method_7_code 85 = .ok (.iload 4, 2) := by decide +kernel
theorem d_ev_perform_87 : decode prog_5_method_7_code 87 = .ok (.aload_n 0, 1) := by decide +kernel
theorem d_ev_perform_88 : decode prog_5_method_7_code 88 = .ok (.getfield 31, 3) := by decide +kernel
theorem d_ev_perform_91 : decode prog_5_method_7_code 91 = .ok (.getfield 87, 3) := by decide +kernel
theorem d_ev_perform_94 : decode prog_5_method_7_code 94 = .ok (.iload_n 3, 1) := by decide +kernel
theorem d_ev_perform_95 : decode prog_5_method_7_code 95 = .ok (.invokestatic 73, 3) := by decide +kernel
theorem d_ev_perform_98 : decode prog_5_method_7_code 98 = .ok (.invokevirtual 92, 3) := by decide +kernel
theorem d_ev_perform_101 : decode prog_5_method_7_code 101 = .ok (.goto (159), 3) := by decide +kernel
theorem d_ev_perform_104 : decode prog_5_method_7_code 104 = .ok (.aload_n 0, 1) := by decide +kernel
theorem d_ev_perform_105 : decode prog_5_method_7_code 105 = .ok (.iload 4, 2) := by decide +kernel
theorem d_ev_perform_107 : decode prog_5_method_7_code 107 = .ok (.aload_n 0, 1) := by decide +kernel
theorem d_ev_perform_108 : decode prog_5_method_7_code 108 = .ok (.invokevirtual 55, 3) := by decide +kernel
theorem d_ev_perform_111 : decode prog_5_method_7_code 111 = .ok (.ineg, 1) := by decide +kernel
theorem d_ev_perform_112 : decode prog_5_method_7_code 112 = .ok (.invokevirtual 92, 3) := by decide +kernel
theorem d_ev_perform_115 : decode prog_5_method_7_code 115 = .ok (.goto (145), 3) := by decide +kernel
theorem d_ev_perform_118 : decode prog_5_method_7_code 118 = .ok (.aload_n 0, 1) := by decide +kernel
theorem d_ev_perform_119 : decode prog_5_method_7_code 119 = .ok (.iload 4, 2) := by decide +kernel
theorem d_ev_perform_121 : decode prog_5_method_7_code 121 = .ok (.aload_n 0, 1) := by decide +kernel
theorem d_ev_perform_122 : decode prog_5_method_7_code 122 = .ok (.invokevirtual 55, 3) := by decide +kernel
theorem d_ev_perform_125 : decode prog_5_method_7_code 125 = .ok (.ifCond .ne (7), 3) := by decide +kernel
theorem d_ev_perform_128 : decode prog_5_method_7_code 128 = .ok (.iconst 1, 1) := by decide +kernel
theorem d_ev_perform_129 : decode prog_5_method_7_code 129 = .ok (.goto (4), 3) := by decide +kernel
theorem d_ev_perform_132 : decode prog_5_method_7_code 132 = .ok (.iconst 0, 1) := by decide +kernel
theorem d_ev_perform_133 : decode prog_5_method_7_code 133 = .ok (.invokestatic 96, 3) := by decide +kernel
theorem d_ev_perform_136 : decode prog_5_method_7_code 136 = .ok (.invokevirtual 92, 3) := by decide +kernel
theorem d_ev_perform_139 : decode prog_5_method_7_code 139 = .ok (.goto (121), 3) := by decide +kernel
theorem d_ev_perform_142 : decode prog_5_method_7_code 142 = .ok (.aload_n 0, 1) := by decide +kernel
theorem d_ev_perform_143 : decode prog_5_method_7_code 143 = .ok (.iload 4, 2) := by decide +kernel
theorem d_ev_perform_145 : decode prog_5_method_7_code 145 = .ok (.aload_n 0, 1) := by decide +kernel
theorem d_ev_perform_146 : decode prog_5_method_7_code 146 = .ok (.iload_n 3, 1) := by decide +kernel
theorem d_ev_perform_147 : decode prog_5_method_7_code 147 = .ok (.aload_n 0, 1) := by decide +kernel
theorem d_ev_perform_148 : decode prog_5_method_7_code 148 = .ok (.invokevirtual 55, 3) := by decide +kernel
theorem d_ev_perform_151 : decode prog_5_method_7_code 151 = .ok (.iload 4, 2) := by decide +kernel
theorem d_ev_perform_153 : decode prog_5_method_7_code 153 = .ok (.invokevirtual 100, 3) := by decide +kernel
theorem d_ev_perform_156 : decode prog_5_method_7_code 156 = .ok (.invokevirtual 92, 3) := by decide +kernel
theorem d_ev_perform_159 : decode prog_5_method_7_code 159 = .ok (.goto (101), 3) := by decide +kernel
theorem d_ev_perform_162 : decode prog_5_method_7_code 162 = .ok (.aload_n 0, 1) := by decide +kernel
theorem d_ev_perform_163 : decode prog_5_method_7_code 163 = .ok (.iload 4, 2) := by decide +kernel
theorem d_ev_perform_165 : decode prog_5_method_7_code 165 = .ok (.aload_n 0, 1) := by decide +kernel
theorem d_ev_perform_166 : decode prog_5_method_7_code 166 = .ok (.getfield 21, 3) := by decide +kernel
theorem d_ev_perform_169 : decode prog_5_method_7_code 169 = .ok (.iload_n 1, 1) := by decide +kernel
theorem d_ev_perform_170 : decode prog_5_method_7_code 170 = .ok (.invokestatic 73, 3) := by decide +kernel
theorem d_ev_perform_173 : decode prog_5_method_7_code 173 = .ok (.invokevirtual 92, 3) := by decide +kernel
theorem d_ev_perform_176 : decode prog_5_method_7_code 176 = .ok (.aload_n 2, 1) := by decide +kernel
theorem d_ev_perform_177 : decode prog_5_method_7_code 177 = .ok (.getfield 104, 3) := by decide +kernel
theorem d_ev_perform_180 : decode prog_5_method_7_code 180 = .ok (.iload_n 1, 1) := by decide +kernel
theorem d_ev_perform_181 : decode prog_5_method_7_code 181 = .ok (.invokestatic 73, 3) := by decide +kernel
theorem d_ev_perform_184 : decode prog_5_method_7_code 184 = .ok (.ireturn, 1) := by decide +kernel
theorem d_ev_perform_185 : decode prog_5_method_7_code 185 = .ok (.iload_n 3, 1) := by decide +kernel
theorem d_ev_perform_186 : decode prog_5_method_7_code 186 = .ok (.aload_n 0, 1) := by decide +kernel
theorem d_ev_perform_187 : decode prog_5_method_7_code 187 = .ok (.getfield 9, 3) := by decide +kernel
theorem d_ev_perform_190 : decode prog_5_method_7_code 190 = .ok (.aload_n 0, 1) := by decide +kernel
theorem d_ev_perform_191 : decode prog_5_method_7_code 191 = .ok (.getfield 45, 3) := by decide +kernel
theorem d_ev_perform_194 : decode prog_5_method_7_code 194 = .ok (.iconst 1, 1) := by decide +kernel
theorem d_ev_perform_195 : decode prog_5_method_7_code 195 = .ok (.isub, 1) := by decide +kernel
theorem d_ev_perform_196 : decode prog_5_method_7_code 196 = .ok (.invokestatic 73, 3) := by decide +kernel
theorem d_ev_perform_199 : decode prog_5_method_7_code 199 = .ok (.invokestatic 107, 3) := by decide +kernel
theorem d_ev_perform_202 : decode prog_5_method_7_code 202 = .ok (.ifCond .eq (58), 3) := by decide +kernel
theorem d_ev_perform_205 : decode prog_5_method_7_code 205 = .ok (.aload_n 0, 1) := by decide +kernel
theorem d_ev_perform_206 : decode prog_5_method_7_code 206 = .ok (.iload 4, 2) := by decide +kernel
theorem d_ev_perform_208 : decode prog_5_method_7_code 208 = .ok (.aload_n 0, 1) := by decide +kernel
theorem d_ev_perform_209 : decode prog_5_method_7_code 209 = .ok (.invokevirtual 55, 3) := by decide +kernel
theorem d_ev_perform_212 : decode prog_5_method_7_code 212 = .ok (.ifCond .eq (7), 3) := by decide +kernel
theorem d_ev_perform_215 : decode prog_5_method_7_code 215 = .ok (.iconst 1, 1) := by decide +kernel
theorem d_ev_perform_216 : decode prog_5_method_7_code 216 = .ok (.goto (4), 3) := by decide +kernel
theorem d_ev_perform_219 : decode prog_5_method_7_code 219 = .ok (.iconst 0, 1) := by decide +kernel
theorem d_ev_perform_220 : decode prog_5_method_7_code 220 = .ok (.invokestatic 96, 3) := by decide +kernel
theorem d_ev_perform_223 : decode prog_5_method_7_code 223 = .ok (.invokevirtual 92, 3) := by decide +kernel
theorem d_ev_perform_226 : decode prog_5_method_7_code 226 = .ok (.aload_n 2, 1) := by decide +kernel
theorem d_ev_perform_227 : decode prog_5_method_7_code 227 = .ok (.getfield 104, 3) := by decide +kernel
theorem d_ev_perform_230 : decode prog_5_method_7_code 230 = .ok (.iload_n 1, 1) := by decide +kernel
theorem d_ev_perform_231 : decode prog_5_method_7_code 231 = .ok (.invokestatic 73, 3) := by decide +kernel
theorem d_ev_perform_234 : decode prog_5_method_7_code 234 = .ok (.ireturn, 1) := by decide +kernel
theorem d_ev_perform_235 : decode prog_5_method_7_code 235 = .ok (.aload_n 0, 1) := by decide +kernel
theorem d_ev_perform_236 : decode prog_5_method_7_code 236 = .ok (.invokevirtual 55, 3) := by decide +kernel
theorem d_ev_perform_239 : decode prog_5_method_7_code 239 = .ok (.istore 5, 2) := by decide +kernel
theorem d_ev_perform_241 : decode prog_5_method_7_code 241 = .ok (.aload_n 0, 1) := by decide +kernel
theorem d_ev_perform_242 : decode prog_5_method_7_code 242 = .ok (.iload 4, 2) := by decide +kernel
theorem d_ev_perform_244 : decode prog_5_method_7_code 244 = .ok (.aload_n 0, 1) := by decide +kernel
theorem d_ev_perform_245 : decode prog_5_method_7_code 245 = .ok (.iload_n 3, 1) := by decide +kernel
theorem d_ev_perform_246 : decode prog_5_method_7_code 246 = .ok (.aload_n 0, 1) := by decide +kernel
theorem d_ev_perform_247 : decode prog_5_method_7_code 247 = .ok (.invokevirtual 55, 3) := by decide +kernel
theorem d_ev_perform_250 : decode prog_5_method_7_code 250 = .ok (.iload 5, 2) := by decide +kernel
theorem d_ev_perform_252 : decode prog_5_method_7_code 252 = .ok (.iload 4, 2) := by decide +kernel
theorem d_ev_perform_254 : decode prog_5_method_7_code 254 = .ok (.invokevirtual 111, 3) := by decide +kernel
theorem d_ev_perform_257 : decode prog_5_method_7_code 257 = .ok (.invokevirtual 92, 3) := by decide +kernel
theorem d_ev_perform_260 : decode prog_5_method_7_code 260 = .ok (.iload_n 1, 1) := by decide +kernel
theorem d_ev_perform_261 : decode prog_5_method_7_code 261 = .ok (.iconst 1, 1) := by decide +kernel
theorem d_ev_perform_262 : decode prog_5_method_7_code 262 = .ok (.iadd, 1) := by decide +kernel
theorem d_ev_perform_263 : decode prog_5_method_7_code 263 = .ok (.ireturn, 1) := by decide +kernel
theorem d_ev_isDecided_0 : decode prog_5_method_8_code 0 = .ok (.iload_n 0, 1) := by decide +kernel
theorem d_ev_isDecided_1 : decode prog_5_method_8_code 1 = .ok (.sipush 265, 3) := by decide +kernel
theorem d_ev_isDecided_4 : decode prog_5_method_8_code 4 = .ok (.if_icmp .ne (7), 3) := by decide +kernel
theorem d_ev_isDecided_7 : decode prog_5_method_8_code 7 = .ok (.iconst 1, 1) := by decide +kernel
theorem d_ev_isDecided_8 : decode prog_5_method_8_code 8 = .ok (.goto (4), 3) := by decide +kernel
theorem d_ev_isDecided_11 : decode prog_5_method_8_code 11 = .ok (.iconst 0, 1) := by decide +kernel
theorem d_ev_isDecided_12 : decode prog_5_method_8_code 12 = .ok (.iload_n 1, 1) := by decide +kernel
theorem d_ev_isDecided_13 : decode prog_5_method_8_code 13 = .ok (.ifCond .eq (7), 3) := by decide +kernel
theorem d_ev_isDecided_16 : decode prog_5_method_8_code 16 = .ok (.iconst 1, 1) := by decide +kernel
theorem d_ev_isDecided_17 : decode prog_5_method_8_code 17 = .ok (.goto (4), 3) := by decide +kernel
theorem d_ev_isDecided_20 : decode prog_5_method_8_code 20 = .ok (.iconst 0, 1) := by decide +kernel
theorem d_ev_isDecided_21 : decode prog_5_method_8_code 21 = .ok (.if_icmp .ne (7), 3) := by decide +kernel
theorem d_ev_isDecided_24 : decode prog_5_method_8_code 24 = .ok (.iconst 1, 1) := by decide +kernel
theorem d_ev_isDecided_25 : decode prog_5_method_8_code 25 = .ok (.goto (4), 3) := by decide +kernel
theorem d_ev_isDecided_28 : decode prog_5_method_8_code 28 = .ok (.iconst 0, 1) := by decide +kernel
theorem d_ev_isDecided_29 : decode prog_5_method_8_code 29 = .ok (.ireturn, 1) := by decide +kernel
theorem d_ev_operate_0 : decode prog_5_method_9_code 0 = .ok (.iload_n 1, 1) := by decide +kernel
theorem d_ev_operate_1 : decode prog_5_method_9_code 1 = .ok (.lookupswitch (224) #[(37, 111), (42, 107), (43, 99), (45, 103), (47, 111), (60, 140), (62, 154), (260, 196), (261, 210), (262, 168), (263, 182)], 99) := by decide +kernel
theorem d_ev_operate_100 : decode prog_5_method_9_code 100 = .ok (.iload_n 2, 1) := by decide +kernel
theorem d_ev_operate_101 : decode prog_5_method_9_code 101 = .ok (.iload_n 3, 1) := by decide +kernel
theorem d_ev_operate_102 : decode prog_5_method_9_code 102 = .ok (.iadd, 1) := by decide +kernel
theorem d_ev_operate_103 : decode prog_5_method_9_code 103 = .ok (.ireturn, 1) := by decide +kernel
theorem d_ev_operate_104 : decode prog_5_method_9_code 104 = .ok (.iload_n 2, 1) := by decide +kernel
theorem d_ev_operate_105 : decode prog_5_method_9_code 105 = .ok (.iload_n 3, 1) := by decide +kernel
theorem d_ev_operate_106 : decode prog_5_method_9_code 106 = .ok (.isub, 1) := by decide +kernel
theorem d_ev_operate_107 : decode prog_5_method_9_code 107 = .ok (.ireturn, 1) := by decide +kernel
theorem d_ev_operate_108 : decode prog_5_method_9_code 108 = .ok (.iload_n 2, 1) := by decide +kernel
theorem d_ev_operate_109 : decode prog_5_method_9_code 109 = .ok (.iload_n 3, 1) := by decide +kernel
theorem d_ev_operate_110 : decode prog_5_method_9_code 110 = .ok (.imul, 1) := by decide +kernel
theorem d_ev_operate_111 : decode prog_5_method_9_code 111 = .ok (.ireturn, 1) := by decide +kernel
theorem d_ev_operate_112 : decode prog_5_method_9_code 112 = .ok (.iload_n 3, 1) := by decide +kernel
theorem d_ev_operate_113 : decode prog_5_method_9_code 113 = .ok (.ifCond .ne (12), 3) := by decide +kernel
theorem d_ev_operate_116 : decode prog_5_method_9_code 116 = .ok (.aload_n 0, 1) := by decide +kernel
theorem d_ev_operate_117 : decode prog_5_method_9_code 117 = .ok (.iconst 3, 1) := by decide +kernel
theorem d_ev_operate_118 : decode prog_5_method_9_code 118 = .ok (.iload 4, 2) := by decide +kernel
theorem d_ev_operate_120 : decode prog_5_method_9_code 120 = .ok (.invokevirtual 115, 3) := by decide +kernel
theorem d_ev_operate_123 : decode prog_5_method_9_code 123 = .ok (.iconst 0, 1) := by decide +kernel
theorem d_ev_operate_124 : decode prog_5_method_9_code 124 = .ok (.ireturn, 1) := by decide +kernel
theorem d_ev_operate_125 : decode prog_5_method_9_code 125 = .ok (.iload_n 1, 1) := by decide +kernel
theorem d_ev_operate_126 : decode prog_5_method_9_code 126 = .ok (.bipush 47, 2) := by decide +kernel
theorem d_ev_operate_128 : decode prog_5_method_9_code 128 = .ok (.if_icmp .ne (9), 3) := by decide +kernel
theorem d_ev_operate_131 : decode prog_5_method_9_code 131 = .ok (.iload_n 2, 1) := by decide +kernel
theorem d_ev_operate_132 : decode prog_5_method_9_code 132 = .ok (.iload_n 3, 1) := by decide +kernel
theorem d_ev_operate_133 : decode prog_5_method_9_code 133 = .ok (.idiv, 1) := by decide +kernel
theorem d_ev_operate_134 : decode prog_5_method_9_code 134 = .ok (.goto (6), 3) := by decide +kernel
theorem d_ev_operate_137 : decode prog_5_method_9_code 137 = .ok (.iload_n 2, 1) := by decide +kernel
theorem d_ev_operate_138 : decode prog_5_method_9_code 138 = .ok (.iload_n 3, 1) := by decide +kernel
theorem d_ev_operate_139 : decode prog_5_method_9_code 139 = .ok (.irem, 1) := by decide +kernel
theorem d_ev_operate_140 : decode prog_5_method_9_code 140 = .ok (.ireturn, 1) := by decide +kernel
theorem d_ev_operate_141 : decode prog_5_method_9_code 141 = .ok (.iload_n 2, 1) := by decide +kernel
theorem d_ev_operate_142 : decode prog_5_method_9_code 142 = .ok (.iload_n 3, 1) := by decide +kernel
theorem d_ev_operate_143 : decode prog_5_method_9_code 143 = .ok (.if_icmp .ge (7), 3) := by decide +kernel
theorem d_ev_operate_146 : decode prog_5_method_9_code 146 = .ok (.iconst 1, 1) := by decide +kernel
theorem d_ev_operate_147 : decode prog_5_method_9_code 147 = .ok (.goto (4), 3) := by decide +kernel
theorem d_ev_operate_150 : decode prog_5_method_9_code 150 = .ok (.iconst 0, 1) := by decide +kernel
theorem d_ev_operate_151 : decode prog_5_method_9_code 151 = .ok (.invokestatic 96, 3) := by decide +kernel
theorem d_ev_operate_154 : decode prog_5_method_9_code 154 = .ok (.ireturn, 1) := by decide +kernel
theorem d_ev_operate_155 : decode prog_5_method_9_code 155 = .ok (.iload_n 2, 1) := by decide +kernel
theorem d_ev_operate_156 : decode prog_5_method_9_code 156 = .ok (.iload_n 3, 1) := by decide +kernel
theorem d_ev_operate_157 : decode prog_5_method_9_code 157 = .ok (.if_icmp .le (7), 3) := by decide +kernel
theorem d_ev_operate_160 : decode prog_5_method_9_code 160 = .ok (.iconst 1, 1) := by decide +kernel
theorem d_ev_operate_161 : decode prog_5_method_9_code 161 = .ok (.goto (4), 3) := by decide +kernel
theorem d_ev_operate_164 : decode prog_5_method_9_code 164 = .ok (.iconst 0, 1) := by decide +kernel
theorem d_ev_operate_165 : decode prog_5_method_9_code 165 = .ok (.invokestatic 96, 3) := by decide +kernel
theorem d_ev_operate_168 : decode prog_5_method_9_code 168 = .ok (.ireturn, 1) := by decide +kernel
theorem d_ev_operate_169 : decode prog_5_method_9_code 169 = .ok (.iload_n 2, 1) := by decide +kernel
theorem d_ev_operate_170 : decode prog_5_method_9_code 170 = .ok (.iload_n 3, 1) := by decide +kernel
theorem d_ev_operate_171 : decode prog_5_method_9_code 171 = .ok (.if_icmp .gt (7), 3) := by decide +kernel
theorem d_ev_operate_174 : decode prog_5_method_9_code 174 = .ok (.iconst 1, 1) := by decide +kernel
theorem d_ev_operate_175 : decode prog_5_method_9_code 175 = .ok (.goto (4), 3) := by decide +kernel
theorem d_ev_operate_178 : decode prog_5_method_9_code 178 = .ok (.iconst 0, 1) := by decide +kernel
theorem d_ev_operate_179 : decode prog_5_method_9_code 179 = .ok (.invokestatic 96, 3) := by decide +kernel
theorem d_ev_operate_182 : decode prog_5_method_9_code 182 = .ok (.ireturn, 1) := by decide +kernel
theorem d_ev_operate_183 : decode prog_5_method_9_code 183 = .ok (.iload_n 2, 1) := by decide +kernel
theorem d_ev_operate_184 : decode prog_5_method_9_code 184 = .ok (.iload_n 3, 1) := by decide +kernel
theorem d_ev_operate_185 : decode prog_5_method_9_code 185 = .ok (.if_icmp .lt (7), 3) := by decide +kernel
theorem d_ev_operate_188 : decode prog_5_method_9_code 188 = .ok (.iconst 1, 1) := by decide +kernel
theorem d_ev_operate_189 : decode prog_5_method_9_code 189 = .ok (.goto (4), 3) := by decide +kernel
theorem d_ev_operate_192 : decode prog_5_method_9_code 192 = .ok (.iconst 0, 1) := by decide +kernel
theorem d_ev_operate_193 : decode prog_5_method_9_code 193 = .ok (.invokestatic 96, 3) := by decide +kernel
theorem d_ev_operate_196 : decode prog_5_method_9_code 196 = .ok (.ireturn, 1) := by decide +kernel
theorem d_ev_operate_197 : decode prog_5_method_9_code 197 = .ok (.iload_n 2, 1) := by decide +kernel
theorem d_ev_operate_198 : decode prog_5_method_9_code 198 = .ok (.iload_n 3, 1) := by decide +kernel
theorem d_ev_operate_199 : decode prog_5_method_9_code 199 = .ok (.if_icmp .ne (7), 3) := by decide +kernel
theorem d_ev_operate_202 : decode prog_5_method_9_code 202 = .ok (.iconst 1, 1) := by decide +kernel
theorem d_ev_operate_203 : decode prog_5_method_9_code 203 = .ok (.goto (4), 3) := by decide +kernel
theorem d_ev_operate_206 : decode prog_5_method_9_code 206 = .ok (.iconst 0, 1) := by decide +kernel
theorem d_ev_operate_207 : decode prog_5_method_9_code 207 = .ok (.invokestatic 96, 3) := by decide +kernel
theorem d_ev_operate_210 : decode prog_5_method_9_code 210 = .ok (.ireturn, 1) := by decide +kernel
theorem d_ev_operate_211 : decode prog_5_method_9_code 211 = .ok (.iload_n 2, 1) := by decide +kernel
theorem d_ev_operate_212 : decode prog_5_method_9_code 212 = .ok (.iload_n 3, 1) := by decide +kernel
theorem d_ev_operate_213 : decode prog_5_method_9_code 213 = .ok (.if_icmp .eq (7), 3) := by decide +kernel
theorem d_ev_operate_216 : decode prog_5_method_9_code 216 = .ok (.iconst 1, 1) := by decide +kernel
theorem d_ev_operate_217 : decode prog_5_method_9_code 217 = .ok (.goto (4), 3) := by decide +kernel
theorem d_ev_operate_220 : decode prog_5_method_9_code 220 = .ok (.iconst 0, 1) := by decide +kernel
theorem d_ev_operate_221 : decode prog_5_method_9_code 221 = .ok (.invokestatic 96, 3) := by decide +kernel
theorem d_ev_operate_224 : decode prog_5_method_9_code 224 = .ok (.ireturn, 1) := by decide +kernel
theorem d_ev_operate_225 : decode prog_5_method_9_code 225 = .ok (.iload_n 3, 1) := by decide +kernel
theorem d_ev_operate_226 : decode prog_5_method_9_code 226 = .ok (.ifCond .eq (7), 3) := by decide +kernel
theorem d_ev_operate_229 : decode prog_5_method_9_code 229 = .ok (.iconst 1, 1) := by decide +kernel
theorem d_ev_operate_230 : decode prog_5_method_9_code 230 = .ok (.goto (4), 3) := by decide +kernel
theorem d_ev_operate_233 : decode prog_5_method_9_code 233 = .ok (.iconst 0, 1) := by decide +kernel
theorem d_ev_operate_234 : decode prog_5_method_9_code 234 = .ok (.invokestatic 96, 3) := by decide +kernel
theorem d_ev_operate_237 : decode prog_5_method_9_code 237 = .ok (.ireturn, 1) := by decide +kernel
theorem d_ev_answer_0 : decode prog_5_method_10_code 0 = .ok (.aload_n 0, 1) := by decide +kernel
theorem d_ev_answer_1 : decode prog_5_method_10_code 1 = .ok (.getfield 31, 3) := by decide +kernel
theorem d_ev_answer_4 : decode prog_5_method_10_code 4 = .ok (.getfield 118, 3) := by decide +kernel
theorem d_ev_answer_7 : decode prog_5_method_10_code 7 = .ok (.iload_n 1, 1) := by decide +kernel
theorem d_ev_answer_8 : decode prog_5_method_10_code 8 = .ok (.aload_n 0, 1) := by decide +kernel
theorem d_ev_answer_9 : decode prog_5_method_10_code 9 = .ok (.getfield 31, 3) := by decide +kernel
theorem d_ev_answer_12 : decode prog_5_method_10_code 12 = .ok (.getfield 118, 3) := by decide +kernel
theorem d_ev_answer_15 : decode prog_5_method_10_code 15 = .ok (.iload_n 1, 1) := by decide +kernel
theorem d_ev_answer_16 : decode prog_5_method_10_code 16 = .ok (.invokestatic 73, 3) := by decide +kernel
theorem d_ev_answer_19 : decode prog_5_method_10_code 19 = .ok (.iconst 1, 1) := by decide +kernel
theorem d_ev_answer_20 : decode prog_5_method_10_code 20 = .ok (.iadd, 1) := by decide +kernel
theorem d_ev_answer_21 : decode prog_5_method_10_code 21 = .ok (.invokestatic 121, 3) := by decide +kernel
theorem d_ev_answer_24 : decode prog_5_method_10_code 24 = .ok (.iconst 0, 1) := by decide +kernel
theorem d_ev_answer_25 : decode prog_5_method_10_code 25 = .ok (.istore 4, 2) := by decide +kernel
theorem d_ev_answer_27 : decode prog_5_method_10_code 27 = .ok (.aload_n 0, 1) := by decide +kernel
theorem d_ev_answer_28 : decode prog_5_method_10_code 28 = .ok (.getfield 38, 3) := by decide +kernel
theorem d_ev_answer_31 : decode prog_5_method_10_code 31 = .ok (.istore 5, 2) := by decide +kernel
theorem d_ev_answer_33 : decode prog_5_method_10_code 33 = .ok (.iload 5, 2) := by decide +kernel
theorem d_ev_answer_35 : decode prog_5_method_10_code 35 = .ok (.aload_n 0, 1) := by decide +kernel
theorem d_ev_answer_36 : decode prog_5_method_10_code 36 = .ok (.getfield 42, 3) := by decide +kernel
theorem d_ev_answer_39 : decode prog_5_method_10_code 39 = .ok (.if_icmp .ge (136), 3) := by decide +kernel
theorem d_ev_answer_42 : decode prog_5_method_10_code 42 = .ok (.aload_n 0, 1) := by decide +kernel
theorem d_ev_answer_43 : decode prog_5_method_10_code 43 = .ok (.getfield 27, 3) := by decide +kernel
theorem d_ev_answer_46 : decode prog_5_method_10_code 46 = .ok (.getfield 125, 3) := by decide +kernel
theorem d_ev_answer_49 : decode prog_5_method_10_code 49 = .ok (.iload 5, 2) := by decide +kernel
theorem d_ev_answer_51 : decode prog_5_method_10_code 51 = .ok (.invokevirtual 129, 3) := by decide +kernel
theorem d_ev_answer_54 : decode prog_5_method_10_code 54 = .ok (.bipush 7, 2) := by decide +kernel
theorem d_ev_answer_56 : decode prog_5_method_10_code 56 = .ok (.if_icmp .ne (21), 3) := by decide +kernel
theorem d_ev_answer_59 : decode prog_5_method_10_code 59 = .ok (.aload_n 0, 1) := by decide +kernel
theorem d_ev_answer_60 : decode prog_5_method_10_code 60 = .ok (.getfield 27, 3) := by decide +kernel
theorem d_ev_answer_63 : decode prog_5_method_10_code 63 = .ok (.getfield 125, 3) := by decide +kernel
theorem d_ev_answer_66 : decode prog_5_method_10_code 66 = .ok (.getfield 134, 3) := by decide +kernel
theorem d_ev_answer_69 : decode prog_5_method_10_code 69 = .ok (.iload 5, 2) := by decide +kernel
theorem d_ev_answer_71 : decode prog_5_method_10_code 71 = .ok (.invokestatic 73, 3) := by decide +kernel
theorem d_ev_answer_74 : decode prog_5_method_10_code 74 = .ok (.goto (4), 3) := by decide +kernel
theorem d_ev_answer_77 : decode prog_5_method_10_code 77 = .ok (.iconst (-1), 1) := by decide +kernel
theorem d_ev_answer_78 : decode prog_5_method_10_code 78 = .ok (.istore 6, 2) := by decide +kernel
theorem d_ev_answer_80 : decode prog_5_method_10_code 80 = .ok (.aload_n 0, 1) := by decide +kernel
theorem d_ev_answer_81 : decode prog_5_method_10_code 81 = .ok (.getfield 27, 3) := by decide +kernel
theorem d_ev_answer_84 : decode prog_5_method_10_code 84 = .ok (.getfield 135, 3) := by decide +kernel
theorem d_ev_answer_87 : decode prog_5_method_10_code 87 = .ok (.iload 6, 2) := by decide +kernel
theorem d_ev_answer_89 : decode prog_5_method_10_code 89 = .ok (.iload_n 1, 1) := by decide +kernel
theorem d_ev_answer_90 : decode prog_5_method_10_code 90 = .ok (.iload_n 2, 1) := by decide +kernel
theorem d_ev_answer_91 : decode prog_5_method_10_code 91 = .ok (.invokevirtual 139, 3) := by decide +kernel
theorem d_ev_answer_94 : decode prog_5_method_10_code 94 = .ok (.ifCond .eq (75), 3) := by decide +kernel
theorem d_ev_answer_97 : decode prog_5_method_10_code 97 = .ok (.iconst 1, 1) := by decide +kernel
theorem d_ev_answer_98 : decode prog_5_method_10_code 98 = .ok (.istore 4, 2) := by decide +kernel
theorem d_ev_answer_100 : decode prog_5_method_10_code 100 = .ok (.aload_n 0, 1) := by decide +kernel
theorem d_ev_answer_101 : decode prog_5_method_10_code 101 = .ok (.getfield 24, 3) := by decide +kernel
theorem d_ev_answer_104 : decode prog_5_method_10_code 104 = .ok (.iload 6, 2) := by decide +kernel
theorem d_ev_answer_106 : decode prog_5_method_10_code 106 = .ok (.invokestatic 73, 3) := by decide +kernel
theorem d_ev_answer_109 : decode prog_5_method_10_code 109 = .ok (.aload_n 0, 1) := by decide +kernel
theorem d_ev_answer_110 : decode prog_5_method_10_code 110 = .ok (.getfield 27, 3) := by decide +kernel
theorem d_ev_answer_113 : decode prog_5_method_10_code 113 = .ok (.getfield 135, 3) := by decide +kernel
theorem d_ev_answer_116 : decode prog_5_method_10_code 116 = .ok (.getfield 145, 3) := by decide +kernel
theorem d_ev_answer_119 : decode prog_5_method_10_code 119 = .ok (.iload 6, 2) := by decide +kernel
theorem d_ev_answer_121 : decode prog_5_method_10_code 121 = .ok (.invokestatic 73, 3) := by decide +kernel
theorem d_ev_answer_124 : decode prog_5_method_10_code 124 = .ok (.if_icmp .ge (45), 3) := by decide +kernel
theorem d_ev_answer_127 : decode prog_5_method_10_code 127 = .ok (.aload_n 0, 1) := by decide +kernel
theorem d_ev_answer_128 : decode prog_5_method_10_code 128 = .ok (.getfield 24, 3) := by decide +kernel
theorem d_ev_answer_131 : decode prog_5_method_10_code 131 = .ok (.iload 6, 2) := by decide +kernel
theorem d_ev_answer_133 : decode prog_5_method_10_code 133 = .ok (.aload_n 0, 1) := by decide +kernel
theorem d_ev_answer_134 : decode prog_5_method_10_code 134 = .ok (.getfield 24, 3) := by decide +kernel
theorem d_ev_answer_137 : decode prog_5_method_10_code 137 = .ok (.iload 6, 2) := by decide +kernel
theorem d_ev_answer_139 : decode prog_5_method_10_code 139 = .ok (.invokestatic 73, 3) := by decide +kernel
theorem d_ev_answer_142 : decode prog_5_method_10_code 142 = .ok (.iconst 1, 1) := by decide +kernel
theorem d_ev_answer_143 : decode prog_5_method_10_code 143 = .ok (.iadd, 1) := by decide +kernel
theorem d_ev_answer_144 : decode prog_5_method_10_code 144 = .ok (.invokestatic 121, 3) := by decide +kernel
theorem d_ev_answer_147 : decode prog_5_method_10_code 147 = .ok (.aload_n 0, 1) := by decide +kernel
theorem d_ev_answer_148 : decode prog_5_method_10_code 148 = .ok (.getfield 27, 3) := by decide +kernel
theorem d_ev_answer_151 : decode prog_5_method_10_code 151 = .ok (.getfield 135, 3) := by decide +kernel
theorem d_ev_answer_154 : decode prog_5_method_10_code 154 = .ok (.iload 6, 2) := by decide +kernel
theorem d_ev_answer_156 : decode prog_5_method_10_code 156 = .ok (.aload_n 0, 1) := by decide +kernel
theorem d_ev_answer_157 : decode prog_5_method_10_code 157 = .ok (.getfield 24, 3) := by decide +kernel
theorem d_ev_answer_160 : decode prog_5_method_10_code 160 = .ok (.iload 6, 2) := by decide +kernel
theorem d_ev_answer_162 : decode prog_5_method_10_code 162 = .ok (.invokestatic 73, 3) := by decide +kernel
theorem d_ev_answer_165 : decode prog_5_method_10_code 165 = .ok (.invokevirtual 148, 3) := by decide +kernel
theorem d_ev_answer_168 : decode prog_5_method_10_code 168 = .ok (.ireturn, 1) := by decide +kernel
theorem d_ev_answer_169 : decode prog_5_method_10_code 169 = .ok (.iinc 5 (1), 3) := by decide +kernel
theorem d_ev_answer_172 : decode prog_5_method_10_code 172 = .ok (.goto (-139), 3) := by decide +kernel
theorem d_ev_answer_175 : decode prog_5_method_10_code 175 = .ok (.iload 4, 2) := by decide +kernel
theorem d_ev_answer_177 : decode prog_5_method_10_code 177 = .ok (.ifCond .eq (9), 3) := by decide +kernel
theorem d_ev_answer_180 : decode prog_5_method_10_code 180 = .ok (.aload_n 0, 1) := by decide +kernel
theorem d_ev_answer_181 : decode prog_5_method_10_code 181 = .ok (.iconst 2, 1) := by decide +kernel
theorem d_ev_answer_182 : decode prog_5_method_10_code 182 = .ok (.iload_n 3, 1) := by decide +kernel
theorem d_ev_answer_183 : decode prog_5_method_10_code 183 = .ok (.invokevirtual 115, 3) := by decide +kernel
theorem d_ev_answer_186 : decode prog_5_method_10_code 186 = .ok (.iconst 0, 1) := by decide +kernel
theorem d_ev_answer_187 : decode prog_5_method_10_code 187 = .ok (.ireturn, 1) := by decide +kernel
theorem d_ev_stop_0 : decode prog_5_method_11_code 0 = .ok (.aload_n 0, 1) := by decide +kernel
theorem d_ev_stop_1 : decode prog_5_method_11_code 1 = .ok (.iload_n 1, 1) := by decide +kernel
theorem d_ev_stop_2 : decode prog_5_method_11_code 2 = .ok (.putfield 48, 3) := by decide +kernel
theorem d_ev_stop_5 : decode prog_5_method_11_code 5 = .ok (.aload_n 0, 1) := by decide +kernel
theorem d_ev_stop_6 : decode prog_5_method_11_code 6 = .ok (.iload_n 2, 1) := by decide +kernel
theorem d_ev_stop_7 : decode prog_5_method_11_code 7 = .ok (.putfield 152, 3) := by decide +kernel
theorem d_ev_stop_10 : decode prog_5_method_11_code 10 = .ok (.return_, 1) := by decide +kernel
theorem d_ev_note_0 : decode prog_5_method_12_code 0 = .ok (.aload_n 0, 1) := by decide +kernel
theorem d_ev_note_1 : decode prog_5_method_12_code 1 = .ok (.getfield 15, 3) := by decide +kernel
theorem d_ev_note_4 : decode prog_5_method_12_code 4 = .ok (.iload_n 1, 1) := by decide +kernel
theorem d_ev_note_5 : decode prog_5_method_12_code 5 = .ok (.iconst 1, 1) := by decide +kernel
theorem d_ev_note_6 : decode prog_5_method_12_code 6 = .ok (.invokestatic 121, 3) := by decide +kernel
theorem d_ev_note_9 : decode prog_5_method_12_code 9 = .ok (.aload_n 0, 1) := by decide +kernel
theorem d_ev_note_10 : decode prog_5_method_12_code 10 = .ok (.getfield 18, 3) := by decide +kernel
theorem d_ev_note_13 : decode prog_5_method_12_code 13 = .ok (.iload_n 1, 1) := by decide +kernel
theorem d_ev_note_14 : decode prog_5_method_12_code 14 = .ok (.iload_n 2, 1) := by decide +kernel
theorem d_ev_note_15 : decode prog_5_method_12_code 15 = .ok (.invokestatic 121, 3) := by decide +kernel
theorem d_ev_note_18 : decode prog_5_method_12_code 18 = .ok (.aload_n 0, 1) := by decide +kernel
theorem d_ev_note_19 : decode prog_5_method_12_code 19 = .ok (.iload_n 2, 1) := by decide +kernel
theorem d_ev_note_20 : decode prog_5_method_12_code 20 = .ok (.invokevirtual 83, 3) := by decide +kernel
theorem d_ev_note_23 : decode prog_5_method_12_code 23 = .ok (.return_, 1) := by decide +kernel
theorem d_ev_push_0 : decode prog_5_method_13_code 0 = .ok (.aload_n 0, 1) := by decide +kernel
theorem d_ev_push_1 : decode prog_5_method_13_code 1 = .ok (.getfield 45, 3) := by decide +kernel
theorem d_ev_push_4 : decode prog_5_method_13_code 4 = .ok (.ifCond .lt (32), 3) := by decide +kernel
theorem d_ev_push_7 : decode prog_5_method_13_code 7 = .ok (.aload_n 0, 1) := by decide +kernel
theorem d_ev_push_8 : decode prog_5_method_13_code 8 = .ok (.getfield 45, 3) := by decide +kernel
theorem d_ev_push_11 : decode prog_5_method_13_code 11 = .ok (.bipush 120, 2) := by decide +kernel
theorem d_ev_push_13 : decode prog_5_method_13_code 13 = .ok (.if_icmp .ge (23), 3) := by decide +kernel
theorem d_ev_push_16 : decode prog_5_method_13_code 16 = .ok (.aload_n 0, 1) := by decide +kernel
theorem d_ev_push_17 : decode prog_5_method_13_code 17 = .ok (.getfield 9, 3) := by decide +kernel
theorem d_ev_push_20 : decode prog_5_method_13_code 20 = .ok (.aload_n 0, 1) := by decide +kernel
theorem d_ev_push_21 : decode prog_5_method_13_code 21 = .ok (.getfield 45, 3) := by decide +kernel
theorem d_ev_push_24 : decode prog_5_method_13_code 24 = .ok (.iload_n 1, 1) := by decide +kernel
theorem d_ev_push_25 : decode prog_5_method_13_code 25 = .ok (.iastore, 1) := by decide +kernel
theorem d_ev_push_26 : decode prog_5_method_13_code 26 = .ok (.aload_n 0, 1) := by decide +kernel
theorem d_ev_push_27 : decode prog_5_method_13_code 27 = .ok (.dup, 1) := by decide +kernel
theorem d_ev_push_28 : decode prog_5_method_13_code 28 = .ok (.getfield 45, 3) := by decide +kernel
theorem d_ev_push_31 : decode prog_5_method_13_code 31 = .ok (.iconst 1, 1) := by decide +kernel
theorem d_ev_push_32 : decode prog_5_method_13_code 32 = .ok (.iadd, 1) := by decide +kernel
theorem d_ev_push_33 : decode prog_5_method_13_code 33 = .ok (.putfield 45, 3) := by decide +kernel
theorem d_ev_push_36 : decode prog_5_method_13_code 36 = .ok (.return_, 1) := by decide +kernel
theorem d_ev_pop_0 : decode prog_5_method_14_code 0 = .ok (.aload_n 0, 1) := by decide +kernel
theorem d_ev_pop_1 : decode prog_5_method_14_code 1 = .ok (.getfield 45, 3) := by decide +kernel
theorem d_ev_pop_4 : decode prog_5_method_14_code 4 = .ok (.ifCond .le (12), 3) := by decide +kernel
theorem d_ev_pop_7 : decode prog_5_method_14_code 7 = .ok (.aload_n 0, 1) := by decide +kernel
theorem d_ev_pop_8 : decode prog_5_method_14_code 8 = .ok (.getfield 45, 3) := by decide +kernel
theorem d_ev_pop_11 : decode prog_5_method_14_code 11 = .ok (.bipush 120, 2) := by decide +kernel
theorem d_ev_pop_13 : decode prog_5_method_14_code 13 = .ok (.if_icmp .le (5), 3) := by decide +kernel
theorem d_ev_pop_16 : decode prog_5_method_14_code 16 = .ok (.iconst 0, 1) := by decide +kernel
theorem d_ev_pop_17 : decode prog_5_method_14_code 17 = .ok (.ireturn, 1) := by decide +kernel
theorem d_ev_pop_18 : decode prog_5_method_14_code 18 = .ok (.aload_n 0, 1) := by decide +kernel
theorem d_ev_pop_19 : decode prog_5_method_14_code 19 = .ok (.dup, 1) := by decide +kernel
theorem d_ev_pop_20 : decode prog_5_method_14_code 20 = .ok (.getfield 45, 3) := by decide +kernel
theorem d_ev_pop_23 : decode prog_5_method_14_code 23 = .ok (.iconst 1, 1) := by decide +kernel
theorem d_ev_pop_24 : decode prog_5_method_14_code 24 = .ok (.isub, 1) := by decide +kernel
theorem d_ev_pop_25 : decode prog_5_method_14_code 25 = .ok (.putfield 45, 3) := by decide +kernel
theorem d_ev_pop_28 : decode prog_5_method_14_code 28 = .ok (.aload_n 0, 1) := by decide +kernel
theorem d_ev_pop_29 : decode prog_5_method_14_code 29 = .ok (.getfield 9, 3) := by decide +kernel
theorem d_ev_pop_32 : decode prog_5_method_14_code 32 = .ok (.aload_n 0, 1) := by decide +kernel
theorem d_ev_pop_33 : decode prog_5_method_14_code 33 = .ok (.getfield 45, 3) := by decide +kernel
theorem d_ev_pop_36 : decode prog_5_method_14_code 36 = .ok (.iaload, 1) := by decide +kernel
theorem d_ev_pop_37 : decode prog_5_method_14_code 37 = .ok (.ireturn, 1) := by decide +kernel
theorem d_ft_init_0 : decode prog_6_method_1_code 0 = .ok (.aload_n 0, 1) := by decide +kernel
theorem d_ft_init_1 : decode prog_6_method_1_code 1 = .ok (.invokespecial 3, 3) := by decide +kernel
theorem d_ft_init_4 : decode prog_6_method_1_code 4 = .ok (.aload_n 0, 1) := by decide +kernel
theorem d_ft_init_5 : decode prog_6_method_1_code 5 = .ok (.bipush 120, 2) := by decide +kernel
theorem d_ft_init_7 : decode prog_6_method_1_code 7 = .ok (.newarray .char, 2) := by decide +kernel
theorem d_ft_init_9 : decode prog_6_method_1_code 9 = .ok (.putfield 9, 3) := by decide +kernel
theorem d_ft_init_12 : decode prog_6_method_1_code 12 = .ok (.aload_n 0, 1) := by decide +kernel
theorem d_ft_init_13 : decode prog_6_method_1_code 13 = .ok (.new 15, 3) := by decide +kernel
theorem d_ft_init_16 : decode prog_6_method_1_code 16 = .ok (.dup, 1) := by decide +kernel
theorem d_ft_init_17 : decode prog_6_method_1_code 17 = .ok (.invokespecial 17, 3) := by decide +kernel
theorem d_ft_init_20 : decode prog_6_method_1_code 20 = .ok (.putfield 18, 3) := by decide +kernel
theorem d_ft_init_23 : decode prog_6_method_1_code 23 = .ok (.aload_n 0, 1) := by decide +kernel
theorem d_ft_init_24 : decode prog_6_method_1_code 24 = .ok (.new 22, 3) := by decide +kernel
theorem d_ft_init_27 : decode prog_6_method_1_code 27 = .ok (.dup, 1) := by decide +kernel
theorem d_ft_init_28 : decode prog_6_method_1_code 28 = .ok (.invokespecial 24, 3) := by decide +kernel
theorem d_ft_init_31 : decode prog_6_method_1_code 31 = .ok (.putfield 25, 3) := by decide +kernel
theorem d_ft_init_34 : decode prog_6_method_1_code 34 = .ok (.aload_n 0, 1) := by decide +kernel
theorem d_ft_init_35 : decode prog_6_method_1_code 35 = .ok (.new 29, 3) := by decide +kernel
theorem d_ft_init_38 : decode prog_6_method_1_code 38 = .ok (.dup, 1) := by decide +kernel
theorem d_ft_init_39 : decode prog_6_method_1_code 39 = .ok (.invokespecial 31, 3) := by decide +kernel
theorem d_ft_init_42 : decode prog_6_method_1_code 42 = .ok (.putfield 32, 3) := by decide +kernel
theorem d_ft_init_45 : decode prog_6_method_1_code 45 = .ok (.aload_n 0, 1) := by decide +kernel
theorem d_ft_init_46 : decode prog_6_method_1_code 46 = .ok (.bipush 42, 2) := by decide +kernel
theorem d_ft_init_48 : decode prog_6_method_1_code 48 = .ok (.newarray .int, 2) := by decide +kernel
theorem d_ft_init_50 : decode prog_6_method_1_code 50 = .ok (.putfield 36, 3) := by decide +kernel
theorem d_ft_init_53 : decode prog_6_method_1_code 53 = .ok (.aload_n 0, 1) := by decide +kernel
theorem d_ft_init_54 : decode prog_6_method_1_code 54 = .ok (.bipush 61, 2) := by decide +kernel
theorem d_ft_init_56 : decode prog_6_method_1_code 56 = .ok (.newarray .int, 2) := by decide +kernel
theorem d_ft_init_58 : decode prog_6_method_1_code 58 = .ok (.putfield 40, 3) := by decide +kernel
theorem d_ft_init_61 : decode prog_6_method_1_code 61 = .ok (.aload_n 0, 1) := by decide +kernel
theorem d_ft_init_62 : decode prog_6_method_1_code 62 = .ok (.bipush 61, 2) := by decide +kernel
theorem d_ft_init_64 : decode prog_6_method_1_code 64 = .ok (.newarray .int, 2) := by decide +kernel
theorem d_ft_init_66 : decode prog_6_method_1_code 66 = .ok (.putfield 43, 3) := by decide +kernel
theorem d_ft_init_69 : decode prog_6_method_1_code 69 = .ok (.aload_n 0, 1) := by decide +kernel
theorem d_ft_init_70 : decode prog_6_method_1_code 70 = .ok (.bipush 61, 2) := by decide +kernel
theorem d_ft_init_72 : decode prog_6_method_1_code 72 = .ok (.newarray .int, 2) := by decide +kernel
theorem d_ft_init_74 : decode prog_6_method_1_code 74 = .ok (.putfield 46, 3) := by decide +kernel
theorem d_ft_init_77 : decode prog_6_method_1_code 77 = .ok (.return_, 1) := by decide +kernel
theorem d_ft_begin_0 : decode prog_6_method_2_code 0 = .ok (.aload_n 1, 1) := by decide +kernel
theorem d_ft_begin_1 : decode prog_6_method_2_code 1 = .ok (.iconst 0, 1) := by decide +kernel
theorem d_ft_begin_2 : decode prog_6_method_2_code 2 = .ok (.aload_n 0, 1) := by decide +kernel
theorem d_ft_begin_3 : decode prog_6_method_2_code 3 = .ok (.getfield 9, 3) := by decide +kernel
theorem d_ft_begin_6 : decode prog_6_method_2_code 6 = .ok (.iconst 0, 1) := by decide +kernel
theorem d_ft_begin_7 : decode prog_6_method_2_code 7 = .ok (.iconst 0, 1) := by decide +kernel
theorem d_ft_begin_8 : decode prog_6_method_2_code 8 = .ok (.iload_n 2, 1) := by decide +kernel
theorem d_ft_begin_9 : decode prog_6_method_2_code 9 = .ok (.aload_n 1, 1) := by decide +kernel
theorem d_ft_begin_10 : decode prog_6_method_2_code 10 = .ok (.arraylength, 1) := by decide +kernel
theorem d_ft_begin_11 : decode prog_6_method_2_code 11 = .ok (.bipush 120, 2) := by decide +kernel
theorem d_ft_begin_13 : decode prog_6_method_2_code 13 = .ok (.invokestatic 49, 3) := by decide +kernel
theorem d_ft_begin_16 : decode prog_6_method_2_code 16 = .ok (.invokestatic 49, 3) := by decide +kernel
theorem d_ft_begin_19 : decode prog_6_method_2_code 19 = .ok (.invokestatic 55, 3) := by decide +kernel
theorem d_ft_begin_22 : decode prog_6_method_2_code 22 = .ok (.invokestatic 58, 3) := by decide +kernel
theorem d_ft_begin_25 : decode prog_6_method_2_code 25 = .ok (.aload_n 0, 1) := by decide +kernel
theorem d_ft_begin_26 : decode prog_6_method_2_code 26 = .ok (.getfield 18, 3) := by decide +kernel
theorem d_ft_begin_29 : decode prog_6_method_2_code 29 = .ok (.iconst 0, 1) := by decide +kernel
theorem d_ft_begin_30 : decode prog_6_method_2_code 30 = .ok (.putfield 64, 3) := by decide +kernel
theorem d_ft_begin_33 : decode prog_6_method_2_code 33 = .ok (.aload_n 0, 1) := by decide +kernel
theorem d_ft_begin_34 : decode prog_6_method_2_code 34 = .ok (.getfield 25, 3) := by decide +kernel
theorem d_ft_begin_37 : decode prog_6_method_2_code 37 = .ok (.iconst 0, 1) := by decide +kernel
theorem d_ft_begin_38 : decode prog_6_method_2_code 38 = .ok (.putfield 68, 3) := by decide +kernel
theorem d_ft_begin_41 : decode prog_6_method_2_code 41 = .ok (.aload_n 0, 1) := by decide +kernel
theorem d_ft_begin_42 : decode prog_6_method_2_code 42 = .ok (.getfield 32, 3) := by decide +kernel
theorem d_ft_begin_45 : decode prog_6_method_2_code 45 = .ok (.iconst 0, 1) := by decide +kernel
theorem d_ft_begin_46 : decode prog_6_method_2_code 46 = .ok (.putfield 69, 3) := by decide +kernel
theorem d_ft_begin_49 : decode prog_6_method_2_code 49 = .ok (.aload_n 0, 1) := by decide +kernel
theorem d_ft_begin_50 : decode prog_6_method_2_code 50 = .ok (.getfield 32, 3) := by decide +kernel
theorem d_ft_begin_53 : decode prog_6_method_2_code 53 = .ok (.iconst 0, 1) := by decide +kernel
theorem d_ft_begin_54 : decode prog_6_method_2_code 54 = .ok (.putfield 70, 3) := by decide +kernel
theorem d_ft_begin_57 : decode prog_6_method_2_code 57 = .ok (.aload_n 0, 1) := by decide +kernel
theorem d_ft_begin_58 : decode prog_6_method_2_code 58 = .ok (.iconst 0, 1) := by decide +kernel
theorem d_ft_begin_59 : decode prog_6_method_2_code 59 = .ok (.putfield 73, 3) := by decide +kernel
theorem d_ft_begin_62 : decode prog_6_method_2_code 62 = .ok (.aload_n 0, 1) := by decide +kernel
theorem d_ft_begin_63 : decode prog_6_method_2_code 63 = .ok (.iconst 0, 1) := by decide +kernel
theorem d_ft_begin_64 : decode prog_6_method_2_code 64 = .ok (.putfield 76, 3) := by decide +kernel
theorem d_ft_begin_67 : decode prog_6_method_2_code 67 = .ok (.aload_n 0, 1) := by decide +kernel
theorem d_ft_begin_68 : decode prog_6_method_2_code 68 = .ok (.iconst 0, 1) := by decide +kernel
theorem d_ft_begin_69 : decode prog_6_method_2_code 69 = .ok (.putfield 79, 3) := by decide +kernel
theorem d_ft_begin_72 : decode prog_6_method_2_code 72 = .ok (.aload_n 0, 1) := by decide +kernel
theorem d_ft_begin_73 : decode prog_6_method_2_code 73 = .ok (.getfield 36, 3) := by decide +kernel
theorem d_ft_begin_76 : decode prog_6_method_2_code 76 = .ok (.iconst 0, 1) := by decide +kernel
theorem d_ft_begin_77 : decode prog_6_method_2_code 77 = .ok (.iconst 0, 1) := by decide +kernel
theorem d_ft_begin_78 : decode prog_6_method_2_code 78 = .ok (.iastore, 1) := by decide +kernel
theorem d_ft_begin_79 : decode prog_6_method_2_code 79 = .ok (.return_, 1) := by decide +kernel
theorem d_ft_openPart_0 : decode prog_6_method_3_code 0 = .ok (.aload_n 0, 1) := by decide +kernel
theorem d_ft_openPart_1 : decode prog_6_method_3_code 1 = .ok (.getfield 36, 3) := by decide +kernel
theorem d_ft_openPart_4 : decode prog_6_method_3_code 4 = .ok (.aload_n 0, 1) := by decide +kernel
theorem d_ft_openPart_5 : decode prog_6_method_3_code 5 = .ok (.getfield 73, 3) := by decide +kernel
theorem d_ft_openPart_8 : decode prog_6_method_3_code 8 = .ok (.aload_n 0, 1) := by decide +kernel
theorem d_ft_openPart_9 : decode prog_6_method_3_code 9 = .ok (.getfield 25, 3) := by decide +kernel
theorem d_ft_openPart_12 : decode prog_6_method_3_code 12 = .ok (.getfield 68, 3) := by decide +kernel
theorem d_ft_openPart_15 : decode prog_6_method_3_code 15 = .ok (.invokestatic 82, 3) := by decide +kernel
theorem d_ft_openPart_18 : decode prog_6_method_3_code 18 = .ok (.return_, 1) := by decide +kernel
theorem d_ft_closePart_0 : decode prog_6_method_4_code 0 = .ok (.aload_n 0, 1) := by decide +kernel
theorem d_ft_closePart_1 : decode prog_6_method_4_code 1 = .ok (.getfield 73, 3) := by decide +kernel
theorem d_ft_closePart_4 : decode prog_6_method_4_code 4 = .ok (.bipush 41, 2) := by decide +kernel
theorem d_ft_closePart_6 : decode prog_6_method_4_code 6 = .ok (.if_icmp .ge (31), 3) := by decide +kernel
theorem d_ft_closePart_9 : decode prog_6_method_4_code 9 = .ok (.aload_n 0, 1) := by decide +kernel
theorem d_ft_closePart_10 : decode prog_6_method_4_code 10 = .ok (.dup, 1) := by decide +kernel
theorem d_ft_closePart_11 : decode prog_6_method_4_code 11 = .ok (.getfield 73, 3) := by decide +kernel
theorem d_ft_closePart_14 : decode prog_6_method_4_code 14 = .ok (.iconst 1, 1) := by decide +kernel
theorem d_ft_closePart_15 : decode prog_6_method_4_code 15 = .ok (.iadd, 1) := by decide +kernel
theorem d_ft_closePart_16 : decode prog_6_method_4_code 16 = .ok (.putfield 73, 3) := by decide +kernel
theorem d_ft_closePart_19 : decode prog_6_method_4_code 19 = .ok (.aload_n 0, 1) := by decide +kernel
theorem d_ft_closePart_20 : decode prog_6_method_4_code 20 = .ok (.getfield 36, 3) := by decide +kernel
theorem d_ft_closePart_23 : decode prog_6_method_4_code 23 = .ok (.aload_n 0, 1) := by decide +kernel
theorem d_ft_closePart_24 : decode prog_6_method_4_code 24 = .ok (.getfield 73, 3) := by decide +kernel
theorem d_ft_closePart_27 : decode prog_6_method_4_code 27 = .ok (.aload_n 0, 1) := by decide +kernel
theorem d_ft_closePart_28 : decode prog_6_method_4_code 28 = .ok (.getfield 25, 3) := by decide +kernel
theorem d_ft_closePart_31 : decode prog_6_method_4_code 31 = .ok (.getfield 68, 3) := by decide +kernel
theorem d_ft_closePart_34 : decode prog_6_method_4_code 34 = .ok (.invokestatic 82, 3) := by decide +kernel
theorem d_ft_closePart_37 : decode prog_6_method_4_code 37 = .ok (.return_, 1) := by decide +kernel
theorem d_ft_addColumn_0 : decode prog_6_method_5_code 0 = .ok (.aload_n 0, 1) := by decide +kernel
theorem d_ft_addColumn_1 : decode prog_6_method_5_code 1 = .ok (.getfield 79, 3) := by decide +kernel
theorem d_ft_addColumn_4 : decode prog_6_method_5_code 4 = .ok (.bipush 61, 2) := by decide +kernel
theorem d_ft_addColumn_6 : decode prog_6_method_5_code 6 = .ok (.if_icmp .ge (33), 3) := by decide +kernel
theorem d_ft_addColumn_9 : decode prog_6_method_5_code 9 = .ok (.aload_n 0, 1) := by decide +kernel
theorem d_ft_addColumn_10 : decode prog_6_method_5_code 10 = .ok (.getfield 43, 3) := by decide +kernel
theorem d_ft_addColumn_13 : decode prog_6_method_5_code 13 = .ok (.aload_n 0, 1) := by decide +kernel
theorem d_ft_addColumn_14 : decode prog_6_method_5_code 14 = .ok (.getfield 79, 3) := by decide +kernel
theorem d_ft_addColumn_17 : decode prog_6_method_5_code 17 = .ok (.iload_n 1, 1) := by decide +kernel
theorem d_ft_addColumn_18 : decode prog_6_method_5_code 18 = .ok (.iastore, 1) := by decide +kernel
theorem d_ft_addColumn_19 : decode prog_6_method_5_code 19 = .ok (.aload_n 0, 1) := by decide +kernel
theorem d_ft_addColumn_20 : decode prog_6_method_5_code 20 = .ok (.getfield 46, 3) := by decide +kernel
theorem d_ft_addColumn_23 : decode prog_6_method_5_code 23 = .ok (.aload_n 0, 1) := by decide +kernel
theorem d_ft_addColumn_24 : decode prog_6_method_5_code 24 = .ok (.getfield 79, 3) := by decide +kernel
theorem d_ft_addColumn_27 : decode prog_6_method_5_code 27 = .ok (.iload_n 2, 1) := by decide +kernel
theorem d_ft_addColumn_28 : decode prog_6_method_5_code 28 = .ok (.iastore, 1) := by decide +kernel
theorem d_ft_addColumn_29 : decode prog_6_method_5_code 29 = .ok (.aload_n 0, 1) := by decide +kernel
theorem d_ft_addColumn_30 : decode prog_6_method_5_code 30 = .ok (.dup, 1) := by decide +kernel
theorem d_ft_addColumn_31 : decode prog_6_method_5_code 31 = .ok (.getfield 79, 3) := by decide +kernel
theorem d_ft_addColumn_34 : decode prog_6_method_5_code 34 = .ok (.iconst 1, 1) := by decide +kernel
theorem d_ft_addColumn_35 : decode prog_6_method_5_code 35 = .ok (.iadd, 1) := by decide +kernel
theorem d_ft_addColumn_36 : decode prog_6_method_5_code 36 = .ok (.putfield 79, 3) := by decide +kernel
theorem d_ft_addColumn_39 : decode prog_6_method_5_code 39 = .ok (.return_, 1) := by decide +kernel
theorem d_ft_addRow_0 : decode prog_6_method_6_code 0 = .ok (.aload_n 0, 1) := by decide +kernel
theorem d_ft_addRow_1 : decode prog_6_method_6_code 1 = .ok (.getfield 76, 3) := by decide +kernel
theorem d_ft_addRow_4 : decode prog_6_method_6_code 4 = .ok (.bipush 61, 2) := by decide +kernel
theorem d_ft_addRow_6 : decode prog_6_method_6_code 6 = .ok (.if_icmp .ge (29), 3) := by decide +kernel
theorem d_ft_addRow_9 : decode prog_6_method_6_code 9 = .ok (.aload_n 0, 1) := by decide +kernel
theorem d_ft_addRow_10 : decode prog_6_method_6_code 10 = .ok (.getfield 40, 3) := by decide +kernel
theorem d_ft_addRow_13 : decode prog_6_method_6_code 13 = .ok (.aload_n 0, 1) := by decide +kernel
theorem d_ft_addRow_14 : decode prog_6_method_6_code 14 = .ok (.getfield 76, 3) := by decide +kernel
theorem d_ft_addRow_17 : decode prog_6_method_6_code 17 = .ok (.aload_n 0, 1) := by decide +kernel
theorem d_ft_addRow_18 : decode prog_6_method_6_code 18 = .ok (.getfield 25, 3) := by decide +kernel
theorem d_ft_addRow_21 : decode prog_6_method_6_code 21 = .ok (.getfield 68, 3) := by decide +kernel
theorem d_ft_addRow_24 : decode prog_6_method_6_code 24 = .ok (.iastore, 1) := by decide +kernel
theorem d_ft_addRow_25 : decode prog_6_method_6_code 25 = .ok (.aload_n 0, 1) := by decide +kernel
theorem d_ft_addRow_26 : decode prog_6_method_6_code 26 = .ok (.dup, 1) := by decide +kernel
theorem d_ft_addRow_27 : decode prog_6_method_6_code 27 = .ok (.getfield 76, 3) := by decide +kernel
theorem d_ft_addRow_30 : decode prog_6_method_6_code 30 = .ok (.iconst 1, 1) := by decide +kernel
theorem d_ft_addRow_31 : decode prog_6_method_6_code 31 = .ok (.iadd, 1) := by decide +kernel
theorem d_ft_addRow_32 : decode prog_6_method_6_code 32 = .ok (.putfield 76, 3) := by decide +kernel
theorem d_ft_addRow_35 : decode prog_6_method_6_code 35 = .ok (.return_, 1) := by decide +kernel
theorem d_ft_rowEnd_0 : decode prog_6_method_7_code 0 = .ok (.iload_n 1, 1) := by decide +kernel
theorem d_ft_rowEnd_1 : decode prog_6_method_7_code 1 = .ok (.iconst 1, 1) := by decide +kernel
theorem d_ft_rowEnd_2 : decode prog_6_method_7_code 2 = .ok (.iadd, 1) := by decide +kernel
theorem d_ft_rowEnd_3 : decode prog_6_method_7_code 3 = .ok (.aload_n 0, 1) := by decide +kernel
theorem d_ft_rowEnd_4 : decode prog_6_method_7_code 4 = .ok (.getfield 76, 3) := by decide +kernel
theorem d_ft_rowEnd_7 : decode prog_6_method_7_code 7 = .ok (.if_icmp .ge (16), 3) := by decide +kernel
theorem d_ft_rowEnd_10 : decode prog_6_method_7_code 10 = .ok (.aload_n 0, 1) := by decide +kernel
theorem d_ft_rowEnd_11 : decode prog_6_method_7_code 11 = .ok (.getfield 40, 3) := by decide +kernel
theorem d_ft_rowEnd_14 : decode prog_6_method_7_code 14 = .ok (.iload_n 1, 1) := by decide +kernel
theorem d_ft_rowEnd_15 : decode prog_6_method_7_code 15 = .ok (.iconst 1, 1) := by decide +kernel
theorem d_ft_rowEnd_16 : decode prog_6_method_7_code 16 = .ok (.iadd, 1) := by decide +kernel
theorem d_ft_rowEnd_17 : decode prog_6_method_7_code 17 = .ok (.invokestatic 86, 3) := by decide +kernel
theorem d_ft_rowEnd_20 : decode prog_6_method_7_code 20 = .ok (.goto (10), 3) := by decide +kernel
theorem d_ft_rowEnd_23 : decode prog_6_method_7_code 23 = .ok (.aload_n 0, 1) := by decide +kernel
theorem d_ft_rowEnd_24 : decode prog_6_method_7_code 24 = .ok (.getfield 25, 3) := by decide +kernel
theorem d_ft_rowEnd_27 : decode prog_6_method_7_code 27 = .ok (.getfield 68, 3) := by decide +kernel
theorem d_ft_rowEnd_30 : decode prog_6_method_7_code 30 = .ok (.ireturn, 1) := by decide +kernel
theorem d_oc_init_0 : decode prog_7_method_1_code 0 = .ok (.aload_n 0, 1) := by decide +kernel
theorem d_oc_init_1 : decode prog_7_method_1_code 1 = .ok (.invokespecial 3, 3) := by decide +kernel
theorem d_oc_init_4 : decode prog_7_method_1_code 4 = .ok (.aload_n 0, 1) := by decide +kernel
theorem d_oc_init_5 : decode prog_7_method_1_code 5 = .ok (.bipush 26, 2) := by decide +kernel
theorem d_oc_init_7 : decode prog_7_method_1_code 7 = .ok (.newarray .int, 2) := by decide +kernel
theorem d_oc_init_9 : decode prog_7_method_1_code 9 = .ok (.putfield 9, 3) := by decide +kernel
theorem d_oc_init_12 : decode prog_7_method_1_code 12 = .ok (.aload_n 0, 1) := by decide +kernel
theorem d_oc_init_13 : decode prog_7_method_1_code 13 = .ok (.iconst 2, 1) := by decide +kernel
theorem d_oc_init_14 : decode prog_7_method_1_code 14 = .ok (.newarray .int, 2) := by decide +kernel
theorem d_oc_init_16 : decode prog_7_method_1_code 16 = .ok (.putfield 15, 3) := by decide +kernel
theorem d_oc_init_19 : decode prog_7_method_1_code 19 = .ok (.aload_n 0, 1) := by decide +kernel
theorem d_oc_init_20 : decode prog_7_method_1_code 20 = .ok (.new 18, 3) := by decide +kernel
theorem d_oc_init_23 : decode prog_7_method_1_code 23 = .ok (.dup, 1) := by decide +kernel
theorem d_oc_init_24 : decode prog_7_method_1_code 24 = .ok (.invokespecial 20, 3) := by decide +kernel
theorem d_oc_init_27 : decode prog_7_method_1_code 27 = .ok (.putfield 21, 3) := by decide +kernel
theorem d_oc_init_30 : decode prog_7_method_1_code 30 = .ok (.aload_n 0, 1) := by decide +kernel
theorem d_oc_init_31 : decode prog_7_method_1_code 31 = .ok (.iconst (-1), 1) := by decide +kernel
theorem d_oc_init_32 : decode prog_7_method_1_code 32 = .ok (.putfield 25, 3) := by decide +kernel
theorem d_oc_init_35 : decode prog_7_method_1_code 35 = .ok (.return_, 1) := by decide +kernel
theorem d_oc_begin_0 : decode prog_7_method_2_code 0 = .ok (.iconst 0, 1) := by decide +kernel
theorem d_oc_begin_1 : decode prog_7_method_2_code 1 = .ok (.istore_n 1, 1) := by decide +kernel
theorem d_oc_begin_2 : decode prog_7_method_2_code 2 = .ok (.iload_n 1, 1) := by decide +kernel
theorem d_oc_begin_3 : decode prog_7_method_2_code 3 = .ok (.bipush 26, 2) := by decide +kernel
theorem d_oc_begin_5 : decode prog_7_method_2_code 5 = .ok (.if_icmp .ge (16), 3) := by decide +kernel
theorem d_oc_begin_8 : decode prog_7_method_2_code 8 = .ok (.aload_n 0, 1) := by decide +kernel
theorem d_oc_begin_9 : decode prog_7_method_2_code 9 = .ok (.getfield 9, 3) := by decide +kernel
theorem d_oc_begin_12 : decode prog_7_method_2_code 12 = .ok (.iload_n 1, 1) := by decide +kernel
theorem d_oc_begin_13 : decode prog_7_method_2_code 13 = .ok (.iconst 0, 1) := by decide +kernel
theorem d_oc_begin_14 : decode prog_7_method_2_code 14 = .ok (.iastore, 1) := by decide +kernel
theorem d_oc_begin_15 : decode prog_7_method_2_code 15 = .ok (.iinc 1 (1), 3) := by decide +kernel
theorem d_oc_begin_18 : decode prog_7_method_2_code 18 = .ok (.goto (-16), 3) := by decide +kernel
theorem d_oc_begin_21 : decode prog_7_method_2_code 21 = .ok (.aload_n 0, 1) := by decide +kernel
theorem d_oc_begin_22 : decode prog_7_method_2_code 22 = .ok (.getfield 15, 3) := by decide +kernel
theorem d_oc_begin_25 : decode prog_7_method_2_code 25 = .ok (.iconst 0, 1) := by decide +kernel
theorem d_oc_begin_26 : decode prog_7_method_2_code 26 = .ok (.iconst 0, 1) := by decide +kernel
theorem d_oc_begin_27 : decode prog_7_method_2_code 27 = .ok (.iastore, 1) := by decide +kernel
theorem d_oc_begin_28 : decode prog_7_method_2_code 28 = .ok (.aload_n 0, 1) := by decide +kernel
theorem d_oc_begin_29 : decode prog_7_method_2_code 29 = .ok (.getfield 15, 3) := by decide +kernel
theorem d_oc_begin_32 : decode prog_7_method_2_code 32 = .ok (.iconst 1, 1) := by decide +kernel
theorem d_oc_begin_33 : decode prog_7_method_2_code 33 = .ok (.iconst 0, 1) := by decide +kernel
theorem d_oc_begin_34 : decode prog_7_method_2_code 34 = .ok (.iastore, 1) := by decide +kernel
theorem d_oc_begin_35 : decode prog_7_method_2_code 35 = .ok (.aload_n 0, 1) := by decide +kernel
theorem d_oc_begin_36 : decode prog_7_method_2_code 36 = .ok (.getfield 21, 3) := by decide +kernel
theorem d_oc_begin_39 : decode prog_7_method_2_code 39 = .ok (.invokevirtual 29, 3) := by decide +kernel
theorem d_oc_begin_42 : decode prog_7_method_2_code 42 = .ok (.aload_n 0, 1) := by decide +kernel
theorem d_oc_begin_43 : decode prog_7_method_2_code 43 = .ok (.iconst 0, 1) := by decide +kernel
theorem d_oc_begin_44 : decode prog_7_method_2_code 44 = .ok (.putfield 32, 3) := by decide +kernel
theorem d_oc_begin_47 : decode prog_7_method_2_code 47 = .ok (.aload_n 0, 1) := by decide +kernel
theorem d_oc_begin_48 : decode prog_7_method_2_code 48 = .ok (.iconst (-1), 1) := by decide +kernel
theorem d_oc_begin_49 : decode prog_7_method_2_code 49 = .ok (.putfield 25, 3) := by decide +kernel
theorem d_oc_begin_52 : decode prog_7_method_2_code 52 = .ok (.aload_n 0, 1) := by decide +kernel
theorem d_oc_begin_53 : decode prog_7_method_2_code 53 = .ok (.iconst 0, 1) := by decide +kernel
theorem d_oc_begin_54 : decode prog_7_method_2_code 54 = .ok (.putfield 35, 3) := by decide +kernel
theorem d_oc_begin_57 : decode prog_7_method_2_code 57 = .ok (.return_, 1) := by decide +kernel
theorem d_oc_fail_0 : decode prog_7_method_3_code 0 = .ok (.aload_n 0, 1) := by decide +kernel
theorem d_oc_fail_1 : decode prog_7_method_3_code 1 = .ok (.getfield 32, 3) := by decide +kernel
theorem d_oc_fail_4 : decode prog_7_method_3_code 4 = .ok (.ifCond .eq (9), 3) := by decide +kernel
theorem d_oc_fail_7 : decode prog_7_method_3_code 7 = .ok (.aload_n 0, 1) := by decide +kernel
theorem d_oc_fail_8 : decode prog_7_method_3_code 8 = .ok (.iconst 1, 1) := by decide +kernel
theorem d_oc_fail_9 : decode prog_7_method_3_code 9 = .ok (.putfield 35, 3) := by decide +kernel
theorem d_oc_fail_12 : decode prog_7_method_3_code 12 = .ok (.return_, 1) := by decide +kernel
theorem d_oc_fail_13 : decode prog_7_method_3_code 13 = .ok (.aload_n 0, 1) := by decide +kernel
theorem d_oc_fail_14 : decode prog_7_method_3_code 14 = .ok (.iload_n 1, 1) := by decide +kernel
theorem d_oc_fail_15 : decode prog_7_method_3_code 15 = .ok (.putfield 32, 3) := by decide +kernel
theorem d_oc_fail_18 : decode prog_7_method_3_code 18 = .ok (.aload_n 0, 1) := by decide +kernel
theorem d_oc_fail_19 : decode prog_7_method_3_code 19 = .ok (.iload_n 2, 1) := by decide +kernel
theorem d_oc_fail_20 : decode prog_7_method_3_code 20 = .ok (.putfield 25, 3) := by decide +kernel
theorem d_oc_fail_23 : decode prog_7_method_3_code 23 = .ok (.return_, 1) := by decide +kernel
