theorem d_ps_init_0 : decode prog_8_method_1_code 0 = .ok (.aload_n 0, 1) := by decide +kernel
theorem d_ps_init_1 : decode prog_8_method_1_code 1 = .ok (.invokespecial 3, 3) := by decide +kernel
theorem d_ps_init_4 : decode prog_8_method_1_code 4 = .ok (.aload_n 0, 1) := by decide +kernel
theorem d_ps_init_5 : decode prog_8_method_1_code 5 = .ok (.new 9, 3) := by decide +kernel
theorem d_ps_init_8 : decode prog_8_method_1_code 8 = .ok (.dup, 1) := by decide +kernel
theorem d_ps_init_9 : decode prog_8_method_1_code 9 = .ok (.invokespecial 11, 3) := by decide +kernel
theorem d_ps_init_12 : decode prog_8_method_1_code 12 = .ok (.putfield 12, 3) := by decide +kernel
theorem d_ps_init_15 : decode prog_8_method_1_code 15 = .ok (.aload_n 0, 1) := by decide +kernel
theorem d_ps_init_16 : decode prog_8_method_1_code 16 = .ok (.aload_n 1, 1) := by decide +kernel
theorem d_ps_init_17 : decode prog_8_method_1_code 17 = .ok (.putfield 18, 3) := by decide +kernel
theorem d_ps_init_20 : decode prog_8_method_1_code 20 = .ok (.return_, 1) := by decide +kernel
theorem d_ps_read_0 : decode prog_8_method_2_code 0 = .ok (.aload_n 0, 1) := by decide +kernel
theorem d_ps_read_1 : decode prog_8_method_2_code 1 = .ok (.aload_n 3, 1) := by decide +kernel
theorem d_ps_read_2 : decode prog_8_method_2_code 2 = .ok (.putfield 18, 3) := by decide +kernel
theorem d_ps_read_5 : decode prog_8_method_2_code 5 = .ok (.aload_n 0, 1) := by decide +kernel
theorem d_ps_read_6 : decode prog_8_method_2_code 6 = .ok (.getfield 18, 3) := by decide +kernel
theorem d_ps_read_9 : decode prog_8_method_2_code 9 = .ok (.aload_n 1, 1) := by decide +kernel
theorem d_ps_read_10 : decode prog_8_method_2_code 10 = .ok (.iload_n 2, 1) := by decide +kernel
theorem d_ps_read_11 : decode prog_8_method_2_code 11 = .ok (.invokevirtual 22, 3) := by decide +kernel
theorem d_ps_read_14 : decode prog_8_method_2_code 14 = .ok (.aload_n 0, 1) := by decide +kernel
theorem d_ps_read_15 : decode prog_8_method_2_code 15 = .ok (.getfield 12, 3) := by decide +kernel
theorem d_ps_read_18 : decode prog_8_method_2_code 18 = .ok (.aload_n 1, 1) := by decide +kernel
theorem d_ps_read_19 : decode prog_8_method_2_code 19 = .ok (.iload_n 2, 1) := by decide +kernel
theorem d_ps_read_20 : decode prog_8_method_2_code 20 = .ok (.invokevirtual 28, 3) := by decide +kernel
theorem d_ps_read_23 : decode prog_8_method_2_code 23 = .ok (.aload_n 0, 1) := by decide +kernel
theorem d_ps_read_24 : decode prog_8_method_2_code 24 = .ok (.iconst 0, 1) := by decide +kernel
theorem d_ps_read_25 : decode prog_8_method_2_code 25 = .ok (.putfield 31, 3) := by decide +kernel
theorem d_ps_read_28 : decode prog_8_method_2_code 28 = .ok (.aload_n 0, 1) := by decide +kernel
theorem d_ps_read_29 : decode prog_8_method_2_code 29 = .ok (.iconst (-1), 1) := by decide +kernel
theorem d_ps_read_30 : decode prog_8_method_2_code 30 = .ok (.putfield 35, 3) := by decide +kernel
theorem d_ps_read_33 : decode prog_8_method_2_code 33 = .ok (.aload_n 0, 1) := by decide +kernel
theorem d_ps_read_34 : decode prog_8_method_2_code 34 = .ok (.bipush 71, 2) := by decide +kernel
theorem d_ps_read_36 : decode prog_8_method_2_code 36 = .ok (.invokevirtual 38, 3) := by decide +kernel
theorem d_ps_read_39 : decode prog_8_method_2_code 39 = .ok (.ifCond .eq (8), 3) := by decide +kernel
theorem d_ps_read_42 : decode prog_8_method_2_code 42 = .ok (.aload_n 0, 1) := by decide +kernel
theorem d_ps_read_43 : decode prog_8_method_2_code 43 = .ok (.iconst 0, 1) := by decide +kernel
theorem d_ps_read_44 : decode prog_8_method_2_code 44 = .ok (.invokevirtual 42, 3) := by decide +kernel
theorem d_ps_read_47 : decode prog_8_method_2_code 47 = .ok (.aload_n 0, 1) := by decide +kernel
theorem d_ps_read_48 : decode prog_8_method_2_code 48 = .ok (.invokevirtual 46, 3) := by decide +kernel
theorem d_ps_read_51 : decode prog_8_method_2_code 51 = .ok (.iconst 0, 1) := by decide +kernel
theorem d_ps_read_52 : decode prog_8_method_2_code 52 = .ok (.istore 4, 2) := by decide +kernel
theorem d_ps_read_54 : decode prog_8_method_2_code 54 = .ok (.iload 4, 2) := by decide +kernel
theorem d_ps_read_56 : decode prog_8_method_2_code 56 = .ok (.bipush 120, 2) := by decide +kernel
theorem d_ps_read_58 : decode prog_8_method_2_code 58 = .ok (.if_icmp .ge (31), 3) := by decide +kernel
theorem d_ps_read_61 : decode prog_8_method_2_code 61 = .ok (.aload_n 0, 1) := by decide +kernel
theorem d_ps_read_62 : decode prog_8_method_2_code 62 = .ok (.invokevirtual 49, 3) := by decide +kernel
theorem d_ps_read_65 : decode prog_8_method_2_code 65 = .ok (.bipush 69, 2) := by decide +kernel
theorem d_ps_read_67 : decode prog_8_method_2_code 67 = .ok (.if_icmp .eq (12), 3) := by decide +kernel
theorem d_ps_read_70 : decode prog_8_method_2_code 70 = .ok (.aload_n 0, 1) := by decide +kernel
theorem d_ps_read_71 : decode prog_8_method_2_code 71 = .ok (.invokevirtual 49, 3) := by decide +kernel
theorem d_ps_read_74 : decode prog_8_method_2_code 74 = .ok (.bipush 87, 2) := by decide +kernel
theorem d_ps_read_76 : decode prog_8_method_2_code 76 = .ok (.if_icmp .ne (13), 3) := by decide +kernel
theorem d_ps_read_79 : decode prog_8_method_2_code 79 = .ok (.aload_n 0, 1) := by decide +kernel
theorem d_ps_read_80 : decode prog_8_method_2_code 80 = .ok (.invokevirtual 46, 3) := by decide +kernel
theorem d_ps_read_83 : decode prog_8_method_2_code 83 = .ok (.iinc 4 (1), 3) := by decide +kernel
theorem d_ps_read_86 : decode prog_8_method_2_code 86 = .ok (.goto (-32), 3) := by decide +kernel
theorem d_ps_read_89 : decode prog_8_method_2_code 89 = .ok (.aload_n 0, 1) := by decide +kernel
theorem d_ps_read_90 : decode prog_8_method_2_code 90 = .ok (.bipush 67, 2) := by decide +kernel
theorem d_ps_read_92 : decode prog_8_method_2_code 92 = .ok (.invokevirtual 38, 3) := by decide +kernel
theorem d_ps_read_95 : decode prog_8_method_2_code 95 = .ok (.ifCond .eq (8), 3) := by decide +kernel
theorem d_ps_read_98 : decode prog_8_method_2_code 98 = .ok (.aload_n 0, 1) := by decide +kernel
theorem d_ps_read_99 : decode prog_8_method_2_code 99 = .ok (.iconst 2, 1) := by decide +kernel
theorem d_ps_read_100 : decode prog_8_method_2_code 100 = .ok (.invokevirtual 42, 3) := by decide +kernel
theorem d_ps_read_103 : decode prog_8_method_2_code 103 = .ok (.aload_n 0, 1) := by decide +kernel
theorem d_ps_read_104 : decode prog_8_method_2_code 104 = .ok (.bipush 68, 2) := by decide +kernel
theorem d_ps_read_106 : decode prog_8_method_2_code 106 = .ok (.invokevirtual 38, 3) := by decide +kernel
theorem d_ps_read_109 : decode prog_8_method_2_code 109 = .ok (.ifCond .eq (7), 3) := by decide +kernel
theorem d_ps_read_112 : decode prog_8_method_2_code 112 = .ok (.aload_n 0, 1) := by decide +kernel
theorem d_ps_read_113 : decode prog_8_method_2_code 113 = .ok (.invokevirtual 53, 3) := by decide +kernel
theorem d_ps_read_116 : decode prog_8_method_2_code 116 = .ok (.aload_n 0, 1) := by decide +kernel
theorem d_ps_read_117 : decode prog_8_method_2_code 117 = .ok (.invokevirtual 49, 3) := by decide +kernel
theorem d_ps_read_120 : decode prog_8_method_2_code 120 = .ok (.sipush 256, 3) := by decide +kernel
theorem d_ps_read_123 : decode prog_8_method_2_code 123 = .ok (.if_icmp .eq (7), 3) := by decide +kernel
theorem d_ps_read_126 : decode prog_8_method_2_code 126 = .ok (.aload_n 0, 1) := by decide +kernel
theorem d_ps_read_127 : decode prog_8_method_2_code 127 = .ok (.invokevirtual 56, 3) := by decide +kernel
theorem d_ps_read_130 : decode prog_8_method_2_code 130 = .ok (.aload_n 0, 1) := by decide +kernel
theorem d_ps_read_131 : decode prog_8_method_2_code 131 = .ok (.getfield 35, 3) := by decide +kernel
theorem d_ps_read_134 : decode prog_8_method_2_code 134 = .ok (.ireturn, 1) := by decide +kernel
theorem d_ps_part_0 : decode prog_8_method_3_code 0 = .ok (.aload_n 0, 1) := by decide +kernel
theorem d_ps_part_1 : decode prog_8_method_3_code 1 = .ok (.getfield 18, 3) := by decide +kernel
theorem d_ps_part_4 : decode prog_8_method_3_code 4 = .ok (.invokevirtual 59, 3) := by decide +kernel
theorem d_ps_part_7 : decode prog_8_method_3_code 7 = .ok (.aload_n 0, 1) := by decide +kernel
theorem d_ps_part_8 : decode prog_8_method_3_code 8 = .ok (.bipush 69, 2) := by decide +kernel
theorem d_ps_part_10 : decode prog_8_method_3_code 10 = .ok (.invokevirtual 38, 3) := by decide +kernel
theorem d_ps_part_13 : decode prog_8_method_3_code 13 = .ok (.ifCond .eq (11), 3) := by decide +kernel
theorem d_ps_part_16 : decode prog_8_method_3_code 16 = .ok (.aload_n 0, 1) := by decide +kernel
theorem d_ps_part_17 : decode prog_8_method_3_code 17 = .ok (.iconst 3, 1) := by decide +kernel
theorem d_ps_part_18 : decode prog_8_method_3_code 18 = .ok (.invokevirtual 42, 3) := by decide +kernel
theorem d_ps_part_21 : decode prog_8_method_3_code 21 = .ok (.goto (25), 3) := by decide +kernel
theorem d_ps_part_24 : decode prog_8_method_3_code 24 = .ok (.aload_n 0, 1) := by decide +kernel
theorem d_ps_part_25 : decode prog_8_method_3_code 25 = .ok (.bipush 87, 2) := by decide +kernel
theorem d_ps_part_27 : decode prog_8_method_3_code 27 = .ok (.invokevirtual 62, 3) := by decide +kernel
theorem d_ps_part_30 : decode prog_8_method_3_code 30 = .ok (.aload_n 0, 1) := by decide +kernel
theorem d_ps_part_31 : decode prog_8_method_3_code 31 = .ok (.iconst 1, 1) := by decide +kernel
theorem d_ps_part_32 : decode prog_8_method_3_code 32 = .ok (.invokevirtual 42, 3) := by decide +kernel
theorem d_ps_part_35 : decode prog_8_method_3_code 35 = .ok (.aload_n 0, 1) := by decide +kernel
theorem d_ps_part_36 : decode prog_8_method_3_code 36 = .ok (.bipush 84, 2) := by decide +kernel
theorem d_ps_part_38 : decode prog_8_method_3_code 38 = .ok (.invokevirtual 62, 3) := by decide +kernel
theorem d_ps_part_41 : decode prog_8_method_3_code 41 = .ok (.aload_n 0, 1) := by decide +kernel
theorem d_ps_part_42 : decode prog_8_method_3_code 42 = .ok (.iconst 4, 1) := by decide +kernel
theorem d_ps_part_43 : decode prog_8_method_3_code 43 = .ok (.invokevirtual 42, 3) := by decide +kernel
theorem d_ps_part_46 : decode prog_8_method_3_code 46 = .ok (.aload_n 0, 1) := by decide +kernel
theorem d_ps_part_47 : decode prog_8_method_3_code 47 = .ok (.getfield 18, 3) := by decide +kernel
theorem d_ps_part_50 : decode prog_8_method_3_code 50 = .ok (.invokevirtual 65, 3) := by decide +kernel
theorem d_ps_part_53 : decode prog_8_method_3_code 53 = .ok (.return_, 1) := by decide +kernel
theorem d_ps_block_0 : decode prog_8_method_4_code 0 = .ok (.aload_n 0, 1) := by decide +kernel
theorem d_ps_block_1 : decode prog_8_method_4_code 1 = .ok (.bipush 58, 2) := by decide +kernel
theorem d_ps_block_3 : decode prog_8_method_4_code 3 = .ok (.invokevirtual 62, 3) := by decide +kernel
theorem d_ps_block_6 : decode prog_8_method_4_code 6 = .ok (.aload_n 0, 1) := by decide +kernel
theorem d_ps_block_7 : decode prog_8_method_4_code 7 = .ok (.iload_n 1, 1) := by decide +kernel
theorem d_ps_block_8 : decode prog_8_method_4_code 8 = .ok (.invokevirtual 68, 3) := by decide +kernel
theorem d_ps_block_11 : decode prog_8_method_4_code 11 = .ok (.iconst 0, 1) := by decide +kernel
theorem d_ps_block_12 : decode prog_8_method_4_code 12 = .ok (.istore_n 2, 1) := by decide +kernel
theorem d_ps_block_13 : decode prog_8_method_4_code 13 = .ok (.iload_n 2, 1) := by decide +kernel
theorem d_ps_block_14 : decode prog_8_method_4_code 14 = .ok (.bipush 120, 2) := by decide +kernel
theorem d_ps_block_16 : decode prog_8_method_4_code 16 = .ok (.if_icmp .ge (23), 3) := by decide +kernel
theorem d_ps_block_19 : decode prog_8_method_4_code 19 = .ok (.aload_n 0, 1) := by decide +kernel
theorem d_ps_block_20 : decode prog_8_method_4_code 20 = .ok (.bipush 59, 2) := by decide +kernel
theorem d_ps_block_22 : decode prog_8_method_4_code 22 = .ok (.invokevirtual 38, 3) := by decide +kernel
theorem d_ps_block_25 : decode prog_8_method_4_code 25 = .ok (.ifCond .eq (14), 3) := by decide +kernel
theorem d_ps_block_28 : decode prog_8_method_4_code 28 = .ok (.aload_n 0, 1) := by decide +kernel
theorem d_ps_block_29 : decode prog_8_method_4_code 29 = .ok (.iload_n 1, 1) := by decide +kernel
theorem d_ps_block_30 : decode prog_8_method_4_code 30 = .ok (.invokevirtual 68, 3) := by decide +kernel
theorem d_ps_block_33 : decode prog_8_method_4_code 33 = .ok (.iinc 2 (1), 3) := by decide +kernel
theorem d_ps_block_36 : decode prog_8_method_4_code 36 = .ok (.goto (-23), 3) := by decide +kernel
theorem d_ps_block_39 : decode prog_8_method_4_code 39 = .ok (.return_, 1) := by decide +kernel
theorem d_ps_statement_0 : decode prog_8_method_5_code 0 = .ok (.aload_n 0, 1) := by decide +kernel
theorem d_ps_statement_1 : decode prog_8_method_5_code 1 = .ok (.getfield 18, 3) := by decide +kernel
theorem d_ps_statement_4 : decode prog_8_method_5_code 4 = .ok (.getfield 71, 3) := by decide +kernel
theorem d_ps_statement_7 : decode prog_8_method_5_code 7 = .ok (.astore_n 2, 1) := by decide +kernel
theorem d_ps_statement_8 : decode prog_8_method_5_code 8 = .ok (.aload_n 2, 1) := by decide +kernel
theorem d_ps_statement_9 : decode prog_8_method_5_code 9 = .ok (.iload_n 1, 1) := by decide +kernel
theorem d_ps_statement_10 : decode prog_8_method_5_code 10 = .ok (.aload_n 0, 1) := by decide +kernel
theorem d_ps_statement_11 : decode prog_8_method_5_code 11 = .ok (.getfield 12, 3) := by decide +kernel
theorem d_ps_statement_14 : decode prog_8_method_5_code 14 = .ok (.aload_n 0, 1) := by decide +kernel
theorem d_ps_statement_15 : decode prog_8_method_5_code 15 = .ok (.getfield 31, 3) := by decide +kernel
theorem d_ps_statement_18 : decode prog_8_method_5_code 18 = .ok (.invokevirtual 75, 3) := by decide +kernel
theorem d_ps_statement_21 : decode prog_8_method_5_code 21 = .ok (.aload_n 0, 1) := by decide +kernel
theorem d_ps_statement_22 : decode prog_8_method_5_code 22 = .ok (.getfield 18, 3) := by decide +kernel
theorem d_ps_statement_25 : decode prog_8_method_5_code 25 = .ok (.getfield 79, 3) := by decide +kernel
theorem d_ps_statement_28 : decode prog_8_method_5_code 28 = .ok (.getfield 83, 3) := by decide +kernel
theorem d_ps_statement_31 : decode prog_8_method_5_code 31 = .ok (.invokevirtual 88, 3) := by decide +kernel
theorem d_ps_statement_34 : decode prog_8_method_5_code 34 = .ok (.istore_n 3, 1) := by decide +kernel
theorem d_ps_statement_35 : decode prog_8_method_5_code 35 = .ok (.aload_n 0, 1) := by decide +kernel
theorem d_ps_statement_36 : decode prog_8_method_5_code 36 = .ok (.iload_n 1, 1) := by decide +kernel
theorem d_ps_statement_37 : decode prog_8_method_5_code 37 = .ok (.iconst 4, 1) := by decide +kernel
theorem d_ps_statement_38 : decode prog_8_method_5_code 38 = .ok (.if_icmp .ne (7), 3) := by decide +kernel
theorem d_ps_statement_41 : decode prog_8_method_5_code 41 = .ok (.iconst 1, 1) := by decide +kernel
theorem d_ps_statement_42 : decode prog_8_method_5_code 42 = .ok (.goto (4), 3) := by decide +kernel
theorem d_ps_statement_45 : decode prog_8_method_5_code 45 = .ok (.iconst 0, 1) := by decide +kernel
theorem d_ps_statement_46 : decode prog_8_method_5_code 46 = .ok (.putfield 94, 3) := by decide +kernel
theorem d_ps_statement_49 : decode prog_8_method_5_code 49 = .ok (.iload_n 1, 1) := by decide +kernel
theorem d_ps_statement_50 : decode prog_8_method_5_code 50 = .ok (.iconst 4, 1) := by decide +kernel
theorem d_ps_statement_51 : decode prog_8_method_5_code 51 = .ok (.if_icmp .ne (24), 3) := by decide +kernel
theorem d_ps_statement_54 : decode prog_8_method_5_code 54 = .ok (.aload_n 0, 1) := by decide +kernel
theorem d_ps_statement_55 : decode prog_8_method_5_code 55 = .ok (.bipush 88, 2) := by decide +kernel
theorem d_ps_statement_57 : decode prog_8_method_5_code 57 = .ok (.invokevirtual 38, 3) := by decide +kernel
theorem d_ps_statement_60 : decode prog_8_method_5_code 60 = .ok (.ifCond .eq (15), 3) := by decide +kernel
theorem d_ps_statement_63 : decode prog_8_method_5_code 63 = .ok (.aload_n 2, 1) := by decide +kernel
theorem d_ps_statement_64 : decode prog_8_method_5_code 64 = .ok (.getfield 98, 3) := by decide +kernel
theorem d_ps_statement_67 : decode prog_8_method_5_code 67 = .ok (.iload_n 3, 1) := by decide +kernel
theorem d_ps_statement_68 : decode prog_8_method_5_code 68 = .ok (.iconst 5, 1) := by decide +kernel
theorem d_ps_statement_69 : decode prog_8_method_5_code 69 = .ok (.invokestatic 102, 3) := by decide +kernel
theorem d_ps_statement_72 : decode prog_8_method_5_code 72 = .ok (.goto (163), 3) := by decide +kernel
theorem d_ps_statement_75 : decode prog_8_method_5_code 75 = .ok (.iload_n 1, 1) := by decide +kernel
theorem d_ps_statement_76 : decode prog_8_method_5_code 76 = .ok (.iconst 4, 1) := by decide +kernel
theorem d_ps_statement_77 : decode prog_8_method_5_code 77 = .ok (.if_icmp .ne (53), 3) := by decide +kernel
theorem d_ps_statement_80 : decode prog_8_method_5_code 80 = .ok (.aload_n 0, 1) := by decide +kernel
theorem d_ps_statement_81 : decode prog_8_method_5_code 81 = .ok (.invokevirtual 49, 3) := by decide +kernel
theorem d_ps_statement_84 : decode prog_8_method_5_code 84 = .ok (.bipush 33, 2) := by decide +kernel
theorem d_ps_statement_86 : decode prog_8_method_5_code 86 = .ok (.if_icmp .ne (44), 3) := by decide +kernel
theorem d_ps_statement_89 : decode prog_8_method_5_code 89 = .ok (.aload_n 0, 1) := by decide +kernel
theorem d_ps_statement_90 : decode prog_8_method_5_code 90 = .ok (.getfield 12, 3) := by decide +kernel
theorem d_ps_statement_93 : decode prog_8_method_5_code 93 = .ok (.aload_n 0, 1) := by decide +kernel
theorem d_ps_statement_94 : decode prog_8_method_5_code 94 = .ok (.getfield 31, 3) := by decide +kernel
theorem d_ps_statement_97 : decode prog_8_method_5_code 97 = .ok (.iconst 1, 1) := by decide +kernel
theorem d_ps_statement_98 : decode prog_8_method_5_code 98 = .ok (.iadd, 1) := by decide +kernel
theorem d_ps_statement_99 : decode prog_8_method_5_code 99 = .ok (.invokevirtual 106, 3) := by decide +kernel
theorem d_ps_statement_102 : decode prog_8_method_5_code 102 = .ok (.bipush 88, 2) := by decide +kernel
theorem d_ps_statement_104 : decode prog_8_method_5_code 104 = .ok (.if_icmp .ne (26), 3) := by decide +kernel
theorem d_ps_statement_107 : decode prog_8_method_5_code 107 = .ok (.aload_n 0, 1) := by decide +kernel
theorem d_ps_statement_108 : decode prog_8_method_5_code 108 = .ok (.dup, 1) := by decide +kernel
theorem d_ps_statement_109 : decode prog_8_method_5_code 109 = .ok (.getfield 31, 3) := by decide +kernel
theorem d_ps_statement_112 : decode prog_8_method_5_code 112 = .ok (.iconst 2, 1) := by decide +kernel
theorem d_ps_statement_113 : decode prog_8_method_5_code 113 = .ok (.iadd, 1) := by decide +kernel
theorem d_ps_statement_114 : decode prog_8_method_5_code 114 = .ok (.putfield 31, 3) := by decide +kernel
theorem d_ps_statement_117 : decode prog_8_method_5_code 117 = .ok (.aload_n 2, 1) := by decide +kernel
theorem d_ps_statement_118 : decode prog_8_method_5_code 118 = .ok (.getfield 98, 3) := by decide +kernel
theorem d_ps_statement_121 : decode prog_8_method_5_code 121 = .ok (.iload_n 3, 1) := by decide +kernel
theorem d_ps_statement_122 : decode prog_8_method_5_code 122 = .ok (.bipush 6, 2) := by decide +kernel
theorem d_ps_statement_124 : decode prog_8_method_5_code 124 = .ok (.invokestatic 102, 3) := by decide +kernel
theorem d_ps_statement_127 : decode prog_8_method_5_code 127 = .ok (.goto (108), 3) := by decide +kernel
theorem d_ps_statement_130 : decode prog_8_method_5_code 130 = .ok (.iload_n 1, 1) := by decide +kernel
theorem d_ps_statement_131 : decode prog_8_method_5_code 131 = .ok (.iconst 4, 1) := by decide +kernel
theorem d_ps_statement_132 : decode prog_8_method_5_code 132 = .ok (.if_icmp .ne (35), 3) := by decide +kernel
theorem d_ps_statement_135 : decode prog_8_method_5_code 135 = .ok (.aload_n 0, 1) := by decide +kernel
theorem d_ps_statement_136 : decode prog_8_method_5_code 136 = .ok (.invokevirtual 109, 3) := by decide +kernel
theorem d_ps_statement_139 : decode prog_8_method_5_code 139 = .ok (.ifCond .eq (28), 3) := by decide +kernel
theorem d_ps_statement_142 : decode prog_8_method_5_code 142 = .ok (.aload_n 2, 1) := by decide +kernel
theorem d_ps_statement_143 : decode prog_8_method_5_code 143 = .ok (.getfield 98, 3) := by decide +kernel
theorem d_ps_statement_146 : decode prog_8_method_5_code 146 = .ok (.iload_n 3, 1) := by decide +kernel
theorem d_ps_statement_147 : decode prog_8_method_5_code 147 = .ok (.bipush 7, 2) := by decide +kernel
theorem d_ps_statement_149 : decode prog_8_method_5_code 149 = .ok (.invokestatic 102, 3) := by decide +kernel
theorem d_ps_statement_152 : decode prog_8_method_5_code 152 = .ok (.aload_n 2, 1) := by decide +kernel
theorem d_ps_statement_153 : decode prog_8_method_5_code 153 = .ok (.getfield 113, 3) := by decide +kernel
theorem d_ps_statement_156 : decode prog_8_method_5_code 156 = .ok (.iload_n 3, 1) := by decide +kernel
theorem d_ps_statement_157 : decode prog_8_method_5_code 157 = .ok (.aload_n 0, 1) := by decide +kernel
theorem d_ps_statement_158 : decode prog_8_method_5_code 158 = .ok (.invokevirtual 116, 3) := by decide +kernel
theorem d_ps_statement_161 : decode prog_8_method_5_code 161 = .ok (.invokestatic 102, 3) := by decide +kernel
theorem d_ps_statement_164 : decode prog_8_method_5_code 164 = .ok (.goto (71), 3) := by decide +kernel
theorem d_ps_statement_167 : decode prog_8_method_5_code 167 = .ok (.iload_n 1, 1) := by decide +kernel
theorem d_ps_statement_168 : decode prog_8_method_5_code 168 = .ok (.iconst 2, 1) := by decide +kernel
theorem d_ps_statement_169 : decode prog_8_method_5_code 169 = .ok (.if_icmp .gt (60), 3) := by decide +kernel
theorem d_ps_statement_172 : decode prog_8_method_5_code 172 = .ok (.aload_n 0, 1) := by decide +kernel
theorem d_ps_statement_173 : decode prog_8_method_5_code 173 = .ok (.invokevirtual 49, 3) := by decide +kernel
theorem d_ps_statement_176 : decode prog_8_method_5_code 176 = .ok (.sipush 259, 3) := by decide +kernel
theorem d_ps_statement_179 : decode prog_8_method_5_code 179 = .ok (.if_icmp .ne (50), 3) := by decide +kernel
theorem d_ps_statement_182 : decode prog_8_method_5_code 182 = .ok (.aload_n 0, 1) := by decide +kernel
theorem d_ps_statement_183 : decode prog_8_method_5_code 183 = .ok (.getfield 12, 3) := by decide +kernel
theorem d_ps_statement_186 : decode prog_8_method_5_code 186 = .ok (.aload_n 0, 1) := by decide +kernel
theorem d_ps_statement_187 : decode prog_8_method_5_code 187 = .ok (.getfield 31, 3) := by decide +kernel
theorem d_ps_statement_190 : decode prog_8_method_5_code 190 = .ok (.iconst 1, 1) := by decide +kernel
theorem d_ps_statement_191 : decode prog_8_method_5_code 191 = .ok (.iadd, 1) := by decide +kernel
theorem d_ps_statement_192 : decode prog_8_method_5_code 192 = .ok (.invokevirtual 106, 3) := by decide +kernel
theorem d_ps_statement_195 : decode prog_8_method_5_code 195 = .ok (.bipush 61, 2) := by decide +kernel
theorem d_ps_statement_197 : decode prog_8_method_5_code 197 = .ok (.if_icmp .ne (32), 3) := by decide +kernel
theorem d_ps_statement_200 : decode prog_8_method_5_code 200 = .ok (.aload_n 2, 1) := by decide +kernel
theorem d_ps_statement_201 : decode prog_8_method_5_code 201 = .ok (.getfield 113, 3) := by decide +kernel
theorem d_ps_statement_204 : decode prog_8_method_5_code 204 = .ok (.iload_n 3, 1) := by decide +kernel
theorem d_ps_statement_205 : decode prog_8_method_5_code 205 = .ok (.aload_n 0, 1) := by decide +kernel
theorem d_ps_statement_206 : decode prog_8_method_5_code 206 = .ok (.getfield 12, 3) := by decide +kernel
theorem d_ps_statement_209 : decode prog_8_method_5_code 209 = .ok (.aload_n 0, 1) := by decide +kernel
theorem d_ps_statement_210 : decode prog_8_method_5_code 210 = .ok (.getfield 31, 3) := by decide +kernel
theorem d_ps_statement_213 : decode prog_8_method_5_code 213 = .ok (.invokevirtual 119, 3) := by decide +kernel
theorem d_ps_statement_216 : decode prog_8_method_5_code 216 = .ok (.invokestatic 102, 3) := by decide +kernel
theorem d_ps_statement_219 : decode prog_8_method_5_code 219 = .ok (.aload_n 0, 1) := by decide +kernel
theorem d_ps_statement_220 : decode prog_8_method_5_code 220 = .ok (.dup, 1) := by decide +kernel
theorem d_ps_statement_221 : decode prog_8_method_5_code 221 = .ok (.getfield 31, 3) := by decide +kernel
theorem d_ps_statement_224 : decode prog_8_method_5_code 224 = .ok (.iconst 2, 1) := by decide +kernel
theorem d_ps_statement_225 : decode prog_8_method_5_code 225 = .ok (.iadd, 1) := by decide +kernel
theorem d_ps_statement_226 : decode prog_8_method_5_code 226 = .ok (.putfield 31, 3) := by decide +kernel
theorem d_ps_statement_229 : decode prog_8_method_5_code 229 = .ok (.aload_n 0, 1) := by decide +kernel
theorem d_ps_statement_230 : decode prog_8_method_5_code 230 = .ok (.iconst 0, 1) := by decide +kernel
theorem d_ps_statement_231 : decode prog_8_method_5_code 231 = .ok (.iconst 0, 1) := by decide +kernel
theorem d_ps_statement_232 : decode prog_8_method_5_code 232 = .ok (.invokevirtual 122, 3) := by decide +kernel
theorem d_ps_statement_235 : decode prog_8_method_5_code 235 = .ok (.aload_n 2, 1) := by decide +kernel
theorem d_ps_statement_236 : decode prog_8_method_5_code 236 = .ok (.iload_n 3, 1) := by decide +kernel
theorem d_ps_statement_237 : decode prog_8_method_5_code 237 = .ok (.aload_n 0, 1) := by decide +kernel
theorem d_ps_statement_238 : decode prog_8_method_5_code 238 = .ok (.getfield 12, 3) := by decide +kernel
theorem d_ps_statement_241 : decode prog_8_method_5_code 241 = .ok (.aload_n 0, 1) := by decide +kernel
theorem d_ps_statement_242 : decode prog_8_method_5_code 242 = .ok (.getfield 31, 3) := by decide +kernel
theorem d_ps_statement_245 : decode prog_8_method_5_code 245 = .ok (.iconst 1, 1) := by decide +kernel
theorem d_ps_statement_246 : decode prog_8_method_5_code 246 = .ok (.isub, 1) := by decide +kernel
theorem d_ps_statement_247 : decode prog_8_method_5_code 247 = .ok (.invokevirtual 126, 3) := by decide +kernel
theorem d_ps_statement_250 : decode prog_8_method_5_code 250 = .ok (.aload_n 0, 1) := by decide +kernel
theorem d_ps_statement_251 : decode prog_8_method_5_code 251 = .ok (.getfield 18, 3) := by decide +kernel
theorem d_ps_statement_254 : decode prog_8_method_5_code 254 = .ok (.getfield 79, 3) := by decide +kernel
theorem d_ps_statement_257 : decode prog_8_method_5_code 257 = .ok (.getfield 83, 3) := by decide +kernel
theorem d_ps_statement_260 : decode prog_8_method_5_code 260 = .ok (.invokevirtual 129, 3) := by decide +kernel
theorem d_ps_statement_263 : decode prog_8_method_5_code 263 = .ok (.return_, 1) := by decide +kernel
theorem d_ps_ruleIsNext_0 : decode prog_8_method_6_code 0 = .ok (.aload_n 0, 1) := by decide +kernel
theorem d_ps_ruleIsNext_1 : decode prog_8_method_6_code 1 = .ok (.invokevirtual 49, 3) := by decide +kernel
theorem d_ps_ruleIsNext_4 : decode prog_8_method_6_code 4 = .ok (.sipush 258, 3) := by decide +kernel
theorem d_ps_ruleIsNext_7 : decode prog_8_method_6_code 7 = .ok (.if_icmp .eq (5), 3) := by decide +kernel
theorem d_ps_ruleIsNext_10 : decode prog_8_method_6_code 10 = .ok (.iconst 0, 1) := by decide +kernel
theorem d_ps_ruleIsNext_11 : decode prog_8_method_6_code 11 = .ok (.ireturn, 1) := by decide +kernel
theorem d_ps_ruleIsNext_12 : decode prog_8_method_6_code 12 = .ok (.aload_n 0, 1) := by decide +kernel
theorem d_ps_ruleIsNext_13 : decode prog_8_method_6_code 13 = .ok (.getfield 31, 3) := by decide +kernel
theorem d_ps_ruleIsNext_16 : decode prog_8_method_6_code 16 = .ok (.iconst 1, 1) := by decide +kernel
theorem d_ps_ruleIsNext_17 : decode prog_8_method_6_code 17 = .ok (.iadd, 1) := by decide +kernel
theorem d_ps_ruleIsNext_18 : decode prog_8_method_6_code 18 = .ok (.istore_n 1, 1) := by decide +kernel
theorem d_ps_ruleIsNext_19 : decode prog_8_method_6_code 19 = .ok (.aload_n 0, 1) := by decide +kernel
theorem d_ps_ruleIsNext_20 : decode prog_8_method_6_code 20 = .ok (.getfield 12, 3) := by decide +kernel
theorem d_ps_ruleIsNext_23 : decode prog_8_method_6_code 23 = .ok (.iload_n 1, 1) := by decide +kernel
theorem d_ps_ruleIsNext_24 : decode prog_8_method_6_code 24 = .ok (.invokevirtual 106, 3) := by decide +kernel
theorem d_ps_ruleIsNext_27 : decode prog_8_method_6_code 27 = .ok (.bipush 45, 2) := by decide +kernel
theorem d_ps_ruleIsNext_29 : decode prog_8_method_6_code 29 = .ok (.if_icmp .ne (51), 3) := by decide +kernel
theorem d_ps_ruleIsNext_32 : decode prog_8_method_6_code 32 = .ok (.aload_n 0, 1) := by decide +kernel
theorem d_ps_ruleIsNext_33 : decode prog_8_method_6_code 33 = .ok (.getfield 12, 3) := by decide +kernel
theorem d_ps_ruleIsNext_36 : decode prog_8_method_6_code 36 = .ok (.aload_n 0, 1) := by decide +kernel
theorem d_ps_ruleIsNext_37 : decode prog_8_method_6_code 37 = .ok (.getfield 31, 3) := by decide +kernel
theorem d_ps_ruleIsNext_40 : decode prog_8_method_6_code 40 = .ok (.iconst 2, 1) := by decide +kernel
theorem d_ps_ruleIsNext_41 : decode prog_8_method_6_code 41 = .ok (.iadd, 1) := by decide +kernel
theorem d_ps_ruleIsNext_42 : decode prog_8_method_6_code 42 = .ok (.invokevirtual 106, 3) := by decide +kernel
theorem d_ps_ruleIsNext_45 : decode prog_8_method_6_code 45 = .ok (.bipush 95, 2) := by decide +kernel
theorem d_ps_ruleIsNext_47 : decode prog_8_method_6_code 47 = .ok (.if_icmp .ne (5), 3) := by decide +kernel
theorem d_ps_ruleIsNext_50 : decode prog_8_method_6_code 50 = .ok (.iconst 1, 1) := by decide +kernel
theorem d_ps_ruleIsNext_51 : decode prog_8_method_6_code 51 = .ok (.ireturn, 1) := by decide +kernel
theorem d_ps_ruleIsNext_52 : decode prog_8_method_6_code 52 = .ok (.aload_n 0, 1) := by decide +kernel
theorem d_ps_ruleIsNext_53 : decode prog_8_method_6_code 53 = .ok (.getfield 12, 3) := by decide +kernel
theorem d_ps_ruleIsNext_56 : decode prog_8_method_6_code 56 = .ok (.aload_n 0, 1) := by decide +kernel
theorem d_ps_ruleIsNext_57 : decode prog_8_method_6_code 57 = .ok (.getfield 31, 3) := by decide +kernel
theorem d_ps_ruleIsNext_60 : decode prog_8_method_6_code 60 = .ok (.iconst 2, 1) := by decide +kernel
theorem d_ps_ruleIsNext_61 : decode prog_8_method_6_code 61 = .ok (.iadd, 1) := by decide +kernel
theorem d_ps_ruleIsNext_62 : decode prog_8_method_6_code 62 = .ok (.invokevirtual 106, 3) := by decide +kernel
theorem d_ps_ruleIsNext_65 : decode prog_8_method_6_code 65 = .ok (.sipush 258, 3) := by decide +kernel
theorem d_ps_ruleIsNext_68 : decode prog_8_method_6_code 68 = .ok (.if_icmp .eq (5), 3) := by decide +kernel
theorem d_ps_ruleIsNext_71 : decode prog_8_method_6_code 71 = .ok (.iconst 0, 1) := by decide +kernel
theorem d_ps_ruleIsNext_72 : decode prog_8_method_6_code 72 = .ok (.ireturn, 1) := by decide +kernel
theorem d_ps_ruleIsNext_73 : decode prog_8_method_6_code 73 = .ok (.aload_n 0, 1) := by decide +kernel
theorem d_ps_ruleIsNext_74 : decode prog_8_method_6_code 74 = .ok (.getfield 31, 3) := by decide +kernel
theorem d_ps_ruleIsNext_77 : decode prog_8_method_6_code 77 = .ok (.iconst 3, 1) := by decide +kernel
theorem d_ps_ruleIsNext_78 : decode prog_8_method_6_code 78 = .ok (.iadd, 1) := by decide +kernel
theorem d_ps_ruleIsNext_79 : decode prog_8_method_6_code 79 = .ok (.istore_n 1, 1) := by decide +kernel
theorem d_ps_ruleIsNext_80 : decode prog_8_method_6_code 80 = .ok (.aload_n 0, 1) := by decide +kernel
theorem d_ps_ruleIsNext_81 : decode prog_8_method_6_code 81 = .ok (.getfield 12, 3) := by decide +kernel
theorem d_ps_ruleIsNext_84 : decode prog_8_method_6_code 84 = .ok (.iload_n 1, 1) := by decide +kernel
theorem d_ps_ruleIsNext_85 : decode prog_8_method_6_code 85 = .ok (.iconst 1, 1) := by decide +kernel
theorem d_ps_ruleIsNext_86 : decode prog_8_method_6_code 86 = .ok (.iadd, 1) := by decide +kernel
theorem d_ps_ruleIsNext_87 : decode prog_8_method_6_code 87 = .ok (.invokevirtual 106, 3) := by decide +kernel
theorem d_ps_ruleIsNext_90 : decode prog_8_method_6_code 90 = .ok (.istore_n 2, 1) := by decide +kernel
theorem d_ps_ruleIsNext_91 : decode prog_8_method_6_code 91 = .ok (.aload_n 0, 1) := by decide +kernel
theorem d_ps_ruleIsNext_92 : decode prog_8_method_6_code 92 = .ok (.getfield 12, 3) := by decide +kernel
theorem d_ps_ruleIsNext_95 : decode prog_8_method_6_code 95 = .ok (.iload_n 1, 1) := by decide +kernel
theorem d_ps_ruleIsNext_96 : decode prog_8_method_6_code 96 = .ok (.invokevirtual 106, 3) := by decide +kernel
theorem d_ps_ruleIsNext_99 : decode prog_8_method_6_code 99 = .ok (.bipush 42, 2) := by decide +kernel
theorem d_ps_ruleIsNext_101 : decode prog_8_method_6_code 101 = .ok (.if_icmp .ne (19), 3) := by decide +kernel
theorem d_ps_ruleIsNext_104 : decode prog_8_method_6_code 104 = .ok (.iload_n 2, 1) := by decide +kernel
theorem d_ps_ruleIsNext_105 : decode prog_8_method_6_code 105 = .ok (.bipush 77, 2) := by decide +kernel
theorem d_ps_ruleIsNext_107 : decode prog_8_method_6_code 107 = .ok (.if_icmp .eq (9), 3) := by decide +kernel
theorem d_ps_ruleIsNext_110 : decode prog_8_method_6_code 110 = .ok (.iload_n 2, 1) := by decide +kernel
theorem d_ps_ruleIsNext_111 : decode prog_8_method_6_code 111 = .ok (.bipush 78, 2) := by decide +kernel
theorem d_ps_ruleIsNext_113 : decode prog_8_method_6_code 113 = .ok (.if_icmp .ne (7), 3) := by decide +kernel
theorem d_ps_ruleIsNext_116 : decode prog_8_method_6_code 116 = .ok (.iconst 1, 1) := by decide +kernel
theorem d_ps_ruleIsNext_117 : decode prog_8_method_6_code 117 = .ok (.goto (4), 3) := by decide +kernel
theorem d_ps_ruleIsNext_120 : decode prog_8_method_6_code 120 = .ok (.iconst 0, 1) := by decide +kernel
theorem d_ps_ruleIsNext_121 : decode prog_8_method_6_code 121 = .ok (.ireturn, 1) := by decide +kernel
theorem d_ps_rule_0 : decode prog_8_method_7_code 0 = .ok (.aload_n 0, 1) := by decide +kernel
theorem d_ps_rule_1 : decode prog_8_method_7_code 1 = .ok (.getfield 18, 3) := by decide +kernel
theorem d_ps_rule_4 : decode prog_8_method_7_code 4 = .ok (.getfield 133, 3) := by decide +kernel
theorem d_ps_rule_7 : decode prog_8_method_7_code 7 = .ok (.astore_n 1, 1) := by decide +kernel
theorem d_ps_rule_8 : decode prog_8_method_7_code 8 = .ok (.aload_n 0, 1) := by decide +kernel
theorem d_ps_rule_9 : decode prog_8_method_7_code 9 = .ok (.invokevirtual 137, 3) := by decide +kernel
theorem d_ps_rule_12 : decode prog_8_method_7_code 12 = .ok (.istore_n 2, 1) := by decide +kernel
theorem d_ps_rule_13 : decode prog_8_method_7_code 13 = .ok (.iload_n 2, 1) := by decide +kernel
theorem d_ps_rule_14 : decode prog_8_method_7_code 14 = .ok (.istore_n 3, 1) := by decide +kernel
theorem d_ps_rule_15 : decode prog_8_method_7_code 15 = .ok (.aload_n 0, 1) := by decide +kernel
theorem d_ps_rule_16 : decode prog_8_method_7_code 16 = .ok (.bipush 45, 2) := by decide +kernel
theorem d_ps_rule_18 : decode prog_8_method_7_code 18 = .ok (.invokevirtual 38, 3) := by decide +kernel
theorem d_ps_rule_21 : decode prog_8_method_7_code 21 = .ok (.ifCond .eq (22), 3) := by decide +kernel
theorem d_ps_rule_24 : decode prog_8_method_7_code 24 = .ok (.aload_n 0, 1) := by decide +kernel
theorem d_ps_rule_25 : decode prog_8_method_7_code 25 = .ok (.bipush 95, 2) := by decide +kernel
theorem d_ps_rule_27 : decode prog_8_method_7_code 27 = .ok (.invokevirtual 38, 3) := by decide +kernel
theorem d_ps_rule_30 : decode prog_8_method_7_code 30 = .ok (.ifCond .eq (8), 3) := by decide +kernel
theorem d_ps_rule_33 : decode prog_8_method_7_code 33 = .ok (.ldc 140, 2) := by decide +kernel
theorem d_ps_rule_35 : decode prog_8_method_7_code 35 = .ok (.goto (7), 3) := by decide +kernel
theorem d_ps_rule_38 : decode prog_8_method_7_code 38 = .ok (.aload_n 0, 1) := by decide +kernel
theorem d_ps_rule_39 : decode prog_8_method_7_code 39 = .ok (.invokevirtual 137, 3) := by decide +kernel
theorem d_ps_rule_42 : decode prog_8_method_7_code 42 = .ok (.istore_n 3, 1) := by decide +kernel
theorem d_ps_rule_43 : decode prog_8_method_7_code 43 = .ok (.aload_n 1, 1) := by decide +kernel
theorem d_ps_rule_44 : decode prog_8_method_7_code 44 = .ok (.iload_n 2, 1) := by decide +kernel
theorem d_ps_rule_45 : decode prog_8_method_7_code 45 = .ok (.iload_n 3, 1) := by decide +kernel
theorem d_ps_rule_46 : decode prog_8_method_7_code 46 = .ok (.invokevirtual 141, 3) := by decide +kernel
theorem d_ps_rule_49 : decode prog_8_method_7_code 49 = .ok (.istore 4, 2) := by decide +kernel
theorem d_ps_rule_51 : decode prog_8_method_7_code 51 = .ok (.aload_n 0, 1) := by decide +kernel
theorem d_ps_rule_52 : decode prog_8_method_7_code 52 = .ok (.bipush 42, 2) := by decide +kernel
theorem d_ps_rule_54 : decode prog_8_method_7_code 54 = .ok (.invokevirtual 62, 3) := by decide +kernel
theorem d_ps_rule_57 : decode prog_8_method_7_code 57 = .ok (.aload_n 0, 1) := by decide +kernel
theorem d_ps_rule_58 : decode prog_8_method_7_code 58 = .ok (.invokevirtual 49, 3) := by decide +kernel
theorem d_ps_rule_61 : decode prog_8_method_7_code 61 = .ok (.bipush 78, 2) := by decide +kernel
theorem d_ps_rule_63 : decode prog_8_method_7_code 63 = .ok (.if_icmp .ne (7), 3) := by decide +kernel
theorem d_ps_rule_66 : decode prog_8_method_7_code 66 = .ok (.iconst 1, 1) := by decide +kernel
theorem d_ps_rule_67 : decode prog_8_method_7_code 67 = .ok (.goto (4), 3) := by decide +kernel
theorem d_ps_rule_70 : decode prog_8_method_7_code 70 = .ok (.iconst 0, 1) := by decide +kernel
theorem d_ps_rule_71 : decode prog_8_method_7_code 71 = .ok (.istore 5, 2) := by decide +kernel
theorem d_ps_rule_73 : decode prog_8_method_7_code 73 = .ok (.aload_n 0, 1) := by decide +kernel
theorem d_ps_rule_74 : decode prog_8_method_7_code 74 = .ok (.iload 5, 2) := by decide +kernel
theorem d_ps_rule_76 : decode prog_8_method_7_code 76 = .ok (.iconst 1, 1) := by decide +kernel
theorem d_ps_rule_77 : decode prog_8_method_7_code 77 = .ok (.if_icmp .ne (8), 3) := by decide +kernel
theorem d_ps_rule_80 : decode prog_8_method_7_code 80 = .ok (.bipush 78, 2) := by decide +kernel
theorem d_ps_rule_82 : decode prog_8_method_7_code 82 = .ok (.goto (5), 3) := by decide +kernel
theorem d_ps_rule_85 : decode prog_8_method_7_code 85 = .ok (.bipush 77, 2) := by decide +kernel
theorem d_ps_rule_87 : decode prog_8_method_7_code 87 = .ok (.invokevirtual 62, 3) := by decide +kernel
theorem d_ps_rule_90 : decode prog_8_method_7_code 90 = .ok (.aload_n 0, 1) := by decide +kernel
theorem d_ps_rule_91 : decode prog_8_method_7_code 91 = .ok (.bipush 40, 2) := by decide +kernel
theorem d_ps_rule_93 : decode prog_8_method_7_code 93 = .ok (.invokevirtual 62, 3) := by decide +kernel
theorem d_ps_rule_96 : decode prog_8_method_7_code 96 = .ok (.aload_n 0, 1) := by decide +kernel
theorem d_ps_rule_97 : decode prog_8_method_7_code 97 = .ok (.bipush 95, 2) := by decide +kernel
theorem d_ps_rule_99 : decode prog_8_method_7_code 99 = .ok (.invokevirtual 38, 3) := by decide +kernel
theorem d_ps_rule_102 : decode prog_8_method_7_code 102 = .ok (.ifCond .eq (7), 3) := by decide +kernel
theorem d_ps_rule_105 : decode prog_8_method_7_code 105 = .ok (.iconst 0, 1) := by decide +kernel
theorem d_ps_rule_106 : decode prog_8_method_7_code 106 = .ok (.goto (17), 3) := by decide +kernel
theorem d_ps_rule_109 : decode prog_8_method_7_code 109 = .ok (.aload_n 0, 1) := by decide +kernel
theorem d_ps_rule_110 : decode prog_8_method_7_code 110 = .ok (.bipush 33, 2) := by decide +kernel
theorem d_ps_rule_112 : decode prog_8_method_7_code 112 = .ok (.invokevirtual 38, 3) := by decide +kernel
theorem d_ps_rule_115 : decode prog_8_method_7_code 115 = .ok (.ifCond .eq (7), 3) := by decide +kernel
theorem d_ps_rule_118 : decode prog_8_method_7_code 118 = .ok (.iconst 2, 1) := by decide +kernel
theorem d_ps_rule_119 : decode prog_8_method_7_code 119 = .ok (.goto (4), 3) := by decide +kernel
theorem d_ps_rule_122 : decode prog_8_method_7_code 122 = .ok (.iconst 1, 1) := by decide +kernel
theorem d_ps_rule_123 : decode prog_8_method_7_code 123 = .ok (.istore 6, 2) := by decide +kernel
theorem d_ps_rule_125 : decode prog_8_method_7_code 125 = .ok (.aload_n 1, 1) := by decide +kernel
theorem d_ps_rule_126 : decode prog_8_method_7_code 126 = .ok (.iload 4, 2) := by decide +kernel
theorem d_ps_rule_128 : decode prog_8_method_7_code 128 = .ok (.iload 5, 2) := by decide +kernel
theorem d_ps_rule_130 : decode prog_8_method_7_code 130 = .ok (.iload 6, 2) := by decide +kernel
theorem d_ps_rule_132 : decode prog_8_method_7_code 132 = .ok (.iload 6, 2) := by decide +kernel
theorem d_ps_rule_134 : decode prog_8_method_7_code 134 = .ok (.ifCond .ne (7), 3) := by decide +kernel
theorem d_ps_rule_137 : decode prog_8_method_7_code 137 = .ok (.iconst 0, 1) := by decide +kernel
theorem d_ps_rule_138 : decode prog_8_method_7_code 138 = .ok (.goto (7), 3) := by decide +kernel
theorem d_ps_rule_141 : decode prog_8_method_7_code 141 = .ok (.aload_n 0, 1) := by decide +kernel
theorem d_ps_rule_142 : decode prog_8_method_7_code 142 = .ok (.invokevirtual 137, 3) := by decide +kernel
theorem d_ps_rule_145 : decode prog_8_method_7_code 145 = .ok (.invokevirtual 147, 3) := by decide +kernel
theorem d_ps_rule_148 : decode prog_8_method_7_code 148 = .ok (.aload_n 0, 1) := by decide +kernel
theorem d_ps_rule_149 : decode prog_8_method_7_code 149 = .ok (.bipush 41, 2) := by decide +kernel
theorem d_ps_rule_151 : decode prog_8_method_7_code 151 = .ok (.invokevirtual 62, 3) := by decide +kernel
theorem d_ps_rule_154 : decode prog_8_method_7_code 154 = .ok (.aload_n 0, 1) := by decide +kernel
theorem d_ps_rule_155 : decode prog_8_method_7_code 155 = .ok (.sipush 266, 3) := by decide +kernel
theorem d_ps_rule_158 : decode prog_8_method_7_code 158 = .ok (.invokevirtual 38, 3) := by decide +kernel
theorem d_ps_rule_161 : decode prog_8_method_7_code 161 = .ok (.istore 7, 2) := by decide +kernel
theorem d_ps_rule_163 : decode prog_8_method_7_code 163 = .ok (.iconst 0, 1) := by decide +kernel
theorem d_ps_rule_164 : decode prog_8_method_7_code 164 = .ok (.istore 8, 2) := by decide +kernel
theorem d_ps_rule_166 : decode prog_8_method_7_code 166 = .ok (.iload 8, 2) := by decide +kernel
theorem d_ps_rule_168 : decode prog_8_method_7_code 168 = .ok (.bipush 120, 2) := by decide +kernel
theorem d_ps_rule_170 : decode prog_8_method_7_code 170 = .ok (.if_icmp .ge (51), 3) := by decide +kernel
theorem d_ps_rule_173 : decode prog_8_method_7_code 173 = .ok (.iload 7, 2) := by decide +kernel
theorem d_ps_rule_175 : decode prog_8_method_7_code 175 = .ok (.ifCond .eq (46), 3) := by decide +kernel
theorem d_ps_rule_178 : decode prog_8_method_7_code 178 = .ok (.aload_n 0, 1) := by decide +kernel
theorem d_ps_rule_179 : decode prog_8_method_7_code 179 = .ok (.bipush 45, 2) := by decide +kernel
theorem d_ps_rule_181 : decode prog_8_method_7_code 181 = .ok (.invokevirtual 38, 3) := by decide +kernel
theorem d_ps_rule_184 : decode prog_8_method_7_code 184 = .ok (.ifCond .eq (7), 3) := by decide +kernel
theorem d_ps_rule_187 : decode prog_8_method_7_code 187 = .ok (.iconst (-1), 1) := by decide +kernel
theorem d_ps_rule_188 : decode prog_8_method_7_code 188 = .ok (.goto (4), 3) := by decide +kernel
theorem d_ps_rule_191 : decode prog_8_method_7_code 191 = .ok (.iconst 1, 1) := by decide +kernel
theorem d_ps_rule_192 : decode prog_8_method_7_code 192 = .ok (.istore 9, 2) := by decide +kernel
theorem d_ps_rule_194 : decode prog_8_method_7_code 194 = .ok (.aload_n 1, 1) := by decide +kernel
theorem d_ps_rule_195 : decode prog_8_method_7_code 195 = .ok (.iload 4, 2) := by decide +kernel
theorem d_ps_rule_197 : decode prog_8_method_7_code 197 = .ok (.iload 9, 2) := by decide +kernel
theorem d_ps_rule_199 : decode prog_8_method_7_code 199 = .ok (.aload_n 0, 1) := by decide +kernel
theorem d_ps_rule_200 : decode prog_8_method_7_code 200 = .ok (.invokevirtual 137, 3) := by decide +kernel
theorem d_ps_rule_203 : decode prog_8_method_7_code 203 = .ok (.imul, 1) := by decide +kernel
theorem d_ps_rule_204 : decode prog_8_method_7_code 204 = .ok (.invokevirtual 151, 3) := by decide +kernel
theorem d_ps_rule_207 : decode prog_8_method_7_code 207 = .ok (.aload_n 0, 1) := by decide +kernel
theorem d_ps_rule_208 : decode prog_8_method_7_code 208 = .ok (.bipush 44, 2) := by decide +kernel
theorem d_ps_rule_210 : decode prog_8_method_7_code 210 = .ok (.invokevirtual 38, 3) := by decide +kernel
theorem d_ps_rule_213 : decode prog_8_method_7_code 213 = .ok (.istore 7, 2) := by decide +kernel
theorem d_ps_rule_215 : decode prog_8_method_7_code 215 = .ok (.iinc 8 (1), 3) := by decide +kernel
theorem d_ps_rule_218 : decode prog_8_method_7_code 218 = .ok (.goto (-52), 3) := by decide +kernel
theorem d_ps_rule_221 : decode prog_8_method_7_code 221 = .ok (.iload 4, 2) := by decide +kernel
theorem d_ps_rule_223 : decode prog_8_method_7_code 223 = .ok (.ireturn, 1) := by decide +kernel
theorem d_ps_where_0 : decode prog_8_method_8_code 0 = .ok (.aload_n 0, 1) := by decide +kernel
theorem d_ps_where_1 : decode prog_8_method_8_code 1 = .ok (.bipush 58, 2) := by decide +kernel
theorem d_ps_where_3 : decode prog_8_method_8_code 3 = .ok (.invokevirtual 62, 3) := by decide +kernel
theorem d_ps_where_6 : decode prog_8_method_8_code 6 = .ok (.iconst 1, 1) := by decide +kernel
theorem d_ps_where_7 : decode prog_8_method_8_code 7 = .ok (.istore_n 1, 1) := by decide +kernel
theorem d_ps_where_8 : decode prog_8_method_8_code 8 = .ok (.iconst 0, 1) := by decide +kernel
theorem d_ps_where_9 : decode prog_8_method_8_code 9 = .ok (.istore_n 2, 1) := by decide +kernel
theorem d_ps_where_10 : decode prog_8_method_8_code 10 = .ok (.iload_n 2, 1) := by decide +kernel
theorem d_ps_where_11 : decode prog_8_method_8_code 11 = .ok (.bipush 120, 2) := by decide +kernel
theorem d_ps_where_13 : decode prog_8_method_8_code 13 = .ok (.if_icmp .ge (54), 3) := by decide +kernel
theorem d_ps_where_16 : decode prog_8_method_8_code 16 = .ok (.iload_n 1, 1) := by decide +kernel
theorem d_ps_where_17 : decode prog_8_method_8_code 17 = .ok (.ifCond .eq (50), 3) := by decide +kernel
theorem d_ps_where_20 : decode prog_8_method_8_code 20 = .ok (.aload_n 0, 1) := by decide +kernel
theorem d_ps_where_21 : decode prog_8_method_8_code 21 = .ok (.getfield 18, 3) := by decide +kernel
theorem d_ps_where_24 : decode prog_8_method_8_code 24 = .ok (.aload_n 0, 1) := by decide +kernel
theorem d_ps_where_25 : decode prog_8_method_8_code 25 = .ok (.getfield 12, 3) := by decide +kernel
theorem d_ps_where_28 : decode prog_8_method_8_code 28 = .ok (.aload_n 0, 1) := by decide +kernel
theorem d_ps_where_29 : decode prog_8_method_8_code 29 = .ok (.getfield 31, 3) := by decide +kernel
theorem d_ps_where_32 : decode prog_8_method_8_code 32 = .ok (.invokevirtual 119, 3) := by decide +kernel
theorem d_ps_where_35 : decode prog_8_method_8_code 35 = .ok (.aload_n 0, 1) := by decide +kernel
theorem d_ps_where_36 : decode prog_8_method_8_code 36 = .ok (.getfield 12, 3) := by decide +kernel
theorem d_ps_where_39 : decode prog_8_method_8_code 39 = .ok (.aload_n 0, 1) := by decide +kernel
theorem d_ps_where_40 : decode prog_8_method_8_code 40 = .ok (.getfield 31, 3) := by decide +kernel
theorem d_ps_where_43 : decode prog_8_method_8_code 43 = .ok (.invokevirtual 75, 3) := by decide +kernel
theorem d_ps_where_46 : decode prog_8_method_8_code 46 = .ok (.invokevirtual 154, 3) := by decide +kernel
theorem d_ps_where_49 : decode prog_8_method_8_code 49 = .ok (.aload_n 0, 1) := by decide +kernel
theorem d_ps_where_50 : decode prog_8_method_8_code 50 = .ok (.sipush 259, 3) := by decide +kernel
theorem d_ps_where_53 : decode prog_8_method_8_code 53 = .ok (.invokevirtual 62, 3) := by decide +kernel
theorem d_ps_where_56 : decode prog_8_method_8_code 56 = .ok (.aload_n 0, 1) := by decide +kernel
theorem d_ps_where_57 : decode prog_8_method_8_code 57 = .ok (.invokevirtual 157, 3) := by decide +kernel
theorem d_ps_where_60 : decode prog_8_method_8_code 60 = .ok (.istore_n 1, 1) := by decide +kernel
theorem d_ps_where_61 : decode prog_8_method_8_code 61 = .ok (.iinc 2 (1), 3) := by decide +kernel
theorem d_ps_where_64 : decode prog_8_method_8_code 64 = .ok (.goto (-54), 3) := by decide +kernel
theorem d_ps_where_67 : decode prog_8_method_8_code 67 = .ok (.aload_n 0, 1) := by decide +kernel
theorem d_ps_where_68 : decode prog_8_method_8_code 68 = .ok (.bipush 59, 2) := by decide +kernel
theorem d_ps_where_70 : decode prog_8_method_8_code 70 = .ok (.invokevirtual 62, 3) := by decide +kernel
theorem d_ps_where_73 : decode prog_8_method_8_code 73 = .ok (.aload_n 0, 1) := by decide +kernel
theorem d_ps_where_74 : decode prog_8_method_8_code 74 = .ok (.invokevirtual 160, 3) := by decide +kernel
theorem d_ps_where_77 : decode prog_8_method_8_code 77 = .ok (.iconst 0, 1) := by decide +kernel
theorem d_ps_where_78 : decode prog_8_method_8_code 78 = .ok (.istore_n 2, 1) := by decide +kernel
theorem d_ps_where_79 : decode prog_8_method_8_code 79 = .ok (.iload_n 2, 1) := by decide +kernel
theorem d_ps_where_80 : decode prog_8_method_8_code 80 = .ok (.bipush 120, 2) := by decide +kernel
theorem d_ps_where_82 : decode prog_8_method_8_code 82 = .ok (.if_icmp .ge (22), 3) := by decide +kernel
theorem d_ps_where_85 : decode prog_8_method_8_code 85 = .ok (.aload_n 0, 1) := by decide +kernel
theorem d_ps_where_86 : decode prog_8_method_8_code 86 = .ok (.bipush 59, 2) := by decide +kernel
theorem d_ps_where_88 : decode prog_8_method_8_code 88 = .ok (.invokevirtual 38, 3) := by decide +kernel
theorem d_ps_where_91 : decode prog_8_method_8_code 91 = .ok (.ifCond .eq (13), 3) := by decide +kernel
theorem d_ps_where_94 : decode prog_8_method_8_code 94 = .ok (.aload_n 0, 1) := by decide +kernel
theorem d_ps_where_95 : decode prog_8_method_8_code 95 = .ok (.invokevirtual 160, 3) := by decide +kernel
theorem d_ps_where_98 : decode prog_8_method_8_code 98 = .ok (.iinc 2 (1), 3) := by decide +kernel
theorem d_ps_where_101 : decode prog_8_method_8_code 101 = .ok (.goto (-22), 3) := by decide +kernel
theorem d_ps_where_104 : decode prog_8_method_8_code 104 = .ok (.return_, 1) := by decide +kernel
theorem d_ps_row_0 : decode prog_8_method_9_code 0 = .ok (.aload_n 0, 1) := by decide +kernel
theorem d_ps_row_1 : decode prog_8_method_9_code 1 = .ok (.getfield 18, 3) := by decide +kernel
theorem d_ps_row_4 : decode prog_8_method_9_code 4 = .ok (.getfield 71, 3) := by decide +kernel
theorem d_ps_row_7 : decode prog_8_method_9_code 7 = .ok (.astore_n 1, 1) := by decide +kernel
theorem d_ps_row_8 : decode prog_8_method_9_code 8 = .ok (.aload_n 0, 1) := by decide +kernel
theorem d_ps_row_9 : decode prog_8_method_9_code 9 = .ok (.getfield 18, 3) := by decide +kernel
theorem d_ps_row_12 : decode prog_8_method_9_code 12 = .ok (.invokevirtual 163, 3) := by decide +kernel
theorem d_ps_row_15 : decode prog_8_method_9_code 15 = .ok (.aload_n 0, 1) := by decide +kernel
theorem d_ps_row_16 : decode prog_8_method_9_code 16 = .ok (.iconst 0, 1) := by decide +kernel
theorem d_ps_row_17 : decode prog_8_method_9_code 17 = .ok (.putfield 94, 3) := by decide +kernel
theorem d_ps_row_20 : decode prog_8_method_9_code 20 = .ok (.iconst 1, 1) := by decide +kernel
theorem d_ps_row_21 : decode prog_8_method_9_code 21 = .ok (.istore_n 2, 1) := by decide +kernel
theorem d_ps_row_22 : decode prog_8_method_9_code 22 = .ok (.iconst 0, 1) := by decide +kernel
theorem d_ps_row_23 : decode prog_8_method_9_code 23 = .ok (.istore_n 3, 1) := by decide +kernel
theorem d_ps_row_24 : decode prog_8_method_9_code 24 = .ok (.iload_n 3, 1) := by decide +kernel
theorem d_ps_row_25 : decode prog_8_method_9_code 25 = .ok (.bipush 120, 2) := by decide +kernel
theorem d_ps_row_27 : decode prog_8_method_9_code 27 = .ok (.if_icmp .ge (92), 3) := by decide +kernel
theorem d_ps_row_30 : decode prog_8_method_9_code 30 = .ok (.iload_n 2, 1) := by decide +kernel
theorem d_ps_row_31 : decode prog_8_method_9_code 31 = .ok (.ifCond .eq (88), 3) := by decide +kernel
theorem d_ps_row_34 : decode prog_8_method_9_code 34 = .ok (.aload_n 1, 1) := by decide +kernel
theorem d_ps_row_35 : decode prog_8_method_9_code 35 = .ok (.bipush 8, 2) := by decide +kernel
theorem d_ps_row_37 : decode prog_8_method_9_code 37 = .ok (.aload_n 0, 1) := by decide +kernel
theorem d_ps_row_38 : decode prog_8_method_9_code 38 = .ok (.getfield 12, 3) := by decide +kernel
theorem d_ps_row_41 : decode prog_8_method_9_code 41 = .ok (.aload_n 0, 1) := by decide +kernel
theorem d_ps_row_42 : decode prog_8_method_9_code 42 = .ok (.getfield 31, 3) := by decide +kernel
theorem d_ps_row_45 : decode prog_8_method_9_code 45 = .ok (.invokevirtual 75, 3) := by decide +kernel
theorem d_ps_row_48 : decode prog_8_method_9_code 48 = .ok (.aload_n 0, 1) := by decide +kernel
theorem d_ps_row_49 : decode prog_8_method_9_code 49 = .ok (.getfield 18, 3) := by decide +kernel
theorem d_ps_row_52 : decode prog_8_method_9_code 52 = .ok (.getfield 79, 3) := by decide +kernel
theorem d_ps_row_55 : decode prog_8_method_9_code 55 = .ok (.getfield 83, 3) := by decide +kernel
theorem d_ps_row_58 : decode prog_8_method_9_code 58 = .ok (.invokevirtual 88, 3) := by decide +kernel
theorem d_ps_row_61 : decode prog_8_method_9_code 61 = .ok (.istore 4, 2) := by decide +kernel
theorem d_ps_row_63 : decode prog_8_method_9_code 63 = .ok (.aload_n 1, 1) := by decide +kernel
theorem d_ps_row_64 : decode prog_8_method_9_code 64 = .ok (.getfield 113, 3) := by decide +kernel
theorem d_ps_row_67 : decode prog_8_method_9_code 67 = .ok (.iload 4, 2) := by decide +kernel
theorem d_ps_row_69 : decode prog_8_method_9_code 69 = .ok (.iload_n 3, 1) := by decide +kernel
theorem d_ps_row_70 : decode prog_8_method_9_code 70 = .ok (.invokestatic 102, 3) := by decide +kernel
theorem d_ps_row_73 : decode prog_8_method_9_code 73 = .ok (.aload_n 0, 1) := by decide +kernel
theorem d_ps_row_74 : decode prog_8_method_9_code 74 = .ok (.iconst 3, 1) := by decide +kernel
theorem d_ps_row_75 : decode prog_8_method_9_code 75 = .ok (.iconst 0, 1) := by decide +kernel
theorem d_ps_row_76 : decode prog_8_method_9_code 76 = .ok (.invokevirtual 122, 3) := by decide +kernel
theorem d_ps_row_79 : decode prog_8_method_9_code 79 = .ok (.aload_n 1, 1) := by decide +kernel
theorem d_ps_row_80 : decode prog_8_method_9_code 80 = .ok (.iload 4, 2) := by decide +kernel
theorem d_ps_row_82 : decode prog_8_method_9_code 82 = .ok (.aload_n 0, 1) := by decide +kernel
theorem d_ps_row_83 : decode prog_8_method_9_code 83 = .ok (.getfield 12, 3) := by decide +kernel
theorem d_ps_row_86 : decode prog_8_method_9_code 86 = .ok (.aload_n 0, 1) := by decide +kernel
theorem d_ps_row_87 : decode prog_8_method_9_code 87 = .ok (.getfield 31, 3) := by decide +kernel
theorem d_ps_row_90 : decode prog_8_method_9_code 90 = .ok (.iconst 1, 1) := by decide +kernel
theorem d_ps_row_91 : decode prog_8_method_9_code 91 = .ok (.isub, 1) := by decide +kernel
theorem d_ps_row_92 : decode prog_8_method_9_code 92 = .ok (.invokevirtual 126, 3) := by decide +kernel
theorem d_ps_row_95 : decode prog_8_method_9_code 95 = .ok (.aload_n 0, 1) := by decide +kernel
theorem d_ps_row_96 : decode prog_8_method_9_code 96 = .ok (.getfield 18, 3) := by decide +kernel
theorem d_ps_row_99 : decode prog_8_method_9_code 99 = .ok (.getfield 79, 3) := by decide +kernel
theorem d_ps_row_102 : decode prog_8_method_9_code 102 = .ok (.getfield 83, 3) := by decide +kernel
theorem d_ps_row_105 : decode prog_8_method_9_code 105 = .ok (.invokevirtual 129, 3) := by decide +kernel
theorem d_ps_row_108 : decode prog_8_method_9_code 108 = .ok (.aload_n 0, 1) := by decide +kernel
theorem d_ps_row_109 : decode prog_8_method_9_code 109 = .ok (.invokevirtual 157, 3) := by decide +kernel
theorem d_ps_row_112 : decode prog_8_method_9_code 112 = .ok (.istore_n 2, 1) := by decide +kernel
theorem d_ps_row_113 : decode prog_8_method_9_code 113 = .ok (.iinc 3 (1), 3) := by decide +kernel
theorem d_ps_row_116 : decode prog_8_method_9_code 116 = .ok (.goto (-92), 3) := by decide +kernel
theorem d_ps_row_119 : decode prog_8_method_9_code 119 = .ok (.return_, 1) := by decide +kernel
theorem d_ps_chain_0 : decode prog_8_method_10_code 0 = .ok (.iload_n 1, 1) := by decide +kernel
theorem d_ps_chain_1 : decode prog_8_method_10_code 1 = .ok (.iconst 4, 1) := by decide +kernel
theorem d_ps_chain_2 : decode prog_8_method_10_code 2 = .ok (.if_icmp .le (9), 3) := by decide +kernel
theorem d_ps_chain_5 : decode prog_8_method_10_code 5 = .ok (.aload_n 0, 1) := by decide +kernel
theorem d_ps_chain_6 : decode prog_8_method_10_code 6 = .ok (.iload_n 2, 1) := by decide +kernel
theorem d_ps_chain_7 : decode prog_8_method_10_code 7 = .ok (.invokevirtual 166, 3) := by decide +kernel
theorem d_ps_chain_10 : decode prog_8_method_10_code 10 = .ok (.return_, 1) := by decide +kernel
theorem d_ps_chain_11 : decode prog_8_method_10_code 11 = .ok (.aload_n 0, 1) := by decide +kernel
theorem d_ps_chain_12 : decode prog_8_method_10_code 12 = .ok (.iload_n 1, 1) := by decide +kernel
theorem d_ps_chain_13 : decode prog_8_method_10_code 13 = .ok (.iconst 1, 1) := by decide +kernel
theorem d_ps_chain_14 : decode prog_8_method_10_code 14 = .ok (.iadd, 1) := by decide +kernel
theorem d_ps_chain_15 : decode prog_8_method_10_code 15 = .ok (.iload_n 2, 1) := by decide +kernel
theorem d_ps_chain_16 : decode prog_8_method_10_code 16 = .ok (.invokevirtual 122, 3) := by decide +kernel
theorem d_ps_chain_19 : decode prog_8_method_10_code 19 = .ok (.iload_n 1, 1) := by decide +kernel
theorem d_ps_chain_20 : decode prog_8_method_10_code 20 = .ok (.iconst 2, 1) := by decide +kernel
theorem d_ps_chain_21 : decode prog_8_method_10_code 21 = .ok (.if_icmp .ne (7), 3) := by decide +kernel
theorem d_ps_chain_24 : decode prog_8_method_10_code 24 = .ok (.iconst 1, 1) := by decide +kernel
theorem d_ps_chain_25 : decode prog_8_method_10_code 25 = .ok (.goto (5), 3) := by decide +kernel
theorem d_ps_chain_28 : decode prog_8_method_10_code 28 = .ok (.bipush 120, 2) := by decide +kernel
theorem d_ps_chain_30 : decode prog_8_method_10_code 30 = .ok (.istore_n 3, 1) := by decide +kernel
theorem d_ps_chain_31 : decode prog_8_method_10_code 31 = .ok (.iconst 0, 1) := by decide +kernel
theorem d_ps_chain_32 : decode prog_8_method_10_code 32 = .ok (.istore 4, 2) := by decide +kernel
theorem d_ps_chain_34 : decode prog_8_method_10_code 34 = .ok (.iload 4, 2) := by decide +kernel
theorem d_ps_chain_36 : decode prog_8_method_10_code 36 = .ok (.iload_n 3, 1) := by decide +kernel
theorem d_ps_chain_37 : decode prog_8_method_10_code 37 = .ok (.if_icmp .ge (130), 3) := by decide +kernel
theorem d_ps_chain_40 : decode prog_8_method_10_code 40 = .ok (.aload_n 0, 1) := by decide +kernel
theorem d_ps_chain_41 : decode prog_8_method_10_code 41 = .ok (.invokevirtual 49, 3) := by decide +kernel
theorem d_ps_chain_44 : decode prog_8_method_10_code 44 = .ok (.invokestatic 169, 3) := by decide +kernel
theorem d_ps_chain_47 : decode prog_8_method_10_code 47 = .ok (.iload_n 1, 1) := by decide +kernel
theorem d_ps_chain_48 : decode prog_8_method_10_code 48 = .ok (.if_icmp .ne (119), 3) := by decide +kernel
theorem d_ps_chain_51 : decode prog_8_method_10_code 51 = .ok (.aload_n 0, 1) := by decide +kernel
theorem d_ps_chain_52 : decode prog_8_method_10_code 52 = .ok (.invokevirtual 49, 3) := by decide +kernel
theorem d_ps_chain_55 : decode prog_8_method_10_code 55 = .ok (.istore 5, 2) := by decide +kernel
theorem d_ps_chain_57 : decode prog_8_method_10_code 57 = .ok (.aload_n 0, 1) := by decide +kernel
theorem d_ps_chain_58 : decode prog_8_method_10_code 58 = .ok (.getfield 12, 3) := by decide +kernel
theorem d_ps_chain_61 : decode prog_8_method_10_code 61 = .ok (.aload_n 0, 1) := by decide +kernel
theorem d_ps_chain_62 : decode prog_8_method_10_code 62 = .ok (.getfield 31, 3) := by decide +kernel
theorem d_ps_chain_65 : decode prog_8_method_10_code 65 = .ok (.invokevirtual 75, 3) := by decide +kernel
theorem d_ps_chain_68 : decode prog_8_method_10_code 68 = .ok (.istore 6, 2) := by decide +kernel
theorem d_ps_chain_70 : decode prog_8_method_10_code 70 = .ok (.aload_n 0, 1) := by decide +kernel
theorem d_ps_chain_71 : decode prog_8_method_10_code 71 = .ok (.dup, 1) := by decide +kernel
theorem d_ps_chain_72 : decode prog_8_method_10_code 72 = .ok (.getfield 31, 3) := by decide +kernel
theorem d_ps_chain_75 : decode prog_8_method_10_code 75 = .ok (.iconst 1, 1) := by decide +kernel
theorem d_ps_chain_76 : decode prog_8_method_10_code 76 = .ok (.iadd, 1) := by decide +kernel
theorem d_ps_chain_77 : decode prog_8_method_10_code 77 = .ok (.putfield 31, 3) := by decide +kernel
theorem d_ps_chain_80 : decode prog_8_method_10_code 80 = .ok (.iload_n 1, 1) := by decide +kernel
theorem d_ps_chain_81 : decode prog_8_method_10_code 81 = .ok (.iconst 1, 1) := by decide +kernel
theorem d_ps_chain_82 : decode prog_8_method_10_code 82 = .ok (.if_icmp .gt (7), 3) := by decide +kernel
theorem d_ps_chain_85 : decode prog_8_method_10_code 85 = .ok (.iconst 1, 1) := by decide +kernel
theorem d_ps_chain_86 : decode prog_8_method_10_code 86 = .ok (.goto (4), 3) := by decide +kernel
theorem d_ps_chain_89 : decode prog_8_method_10_code 89 = .ok (.iconst 0, 1) := by decide +kernel
theorem d_ps_chain_90 : decode prog_8_method_10_code 90 = .ok (.istore 7, 2) := by decide +kernel
theorem d_ps_chain_92 : decode prog_8_method_10_code 92 = .ok (.iload 7, 2) := by decide +kernel
theorem d_ps_chain_94 : decode prog_8_method_10_code 94 = .ok (.ifCond .eq (22), 3) := by decide +kernel
theorem d_ps_chain_97 : decode prog_8_method_10_code 97 = .ok (.aload_n 0, 1) := by decide +kernel
theorem d_ps_chain_98 : decode prog_8_method_10_code 98 = .ok (.getfield 18, 3) := by decide +kernel
theorem d_ps_chain_101 : decode prog_8_method_10_code 101 = .ok (.getfield 79, 3) := by decide +kernel
theorem d_ps_chain_104 : decode prog_8_method_10_code 104 = .ok (.bipush 6, 2) := by decide +kernel
theorem d_ps_chain_106 : decode prog_8_method_10_code 106 = .ok (.iload 5, 2) := by decide +kernel
theorem d_ps_chain_108 : decode prog_8_method_10_code 108 = .ok (.iload 6, 2) := by decide +kernel
theorem d_ps_chain_110 : decode prog_8_method_10_code 110 = .ok (.invokevirtual 172, 3) := by decide +kernel
theorem d_ps_chain_113 : decode prog_8_method_10_code 113 = .ok (.goto (4), 3) := by decide +kernel
theorem d_ps_chain_116 : decode prog_8_method_10_code 116 = .ok (.iconst (-1), 1) := by decide +kernel
theorem d_ps_chain_117 : decode prog_8_method_10_code 117 = .ok (.istore 8, 2) := by decide +kernel
theorem d_ps_chain_119 : decode prog_8_method_10_code 119 = .ok (.aload_n 0, 1) := by decide +kernel
theorem d_ps_chain_120 : decode prog_8_method_10_code 120 = .ok (.iload_n 1, 1) := by decide +kernel
theorem d_ps_chain_121 : decode prog_8_method_10_code 121 = .ok (.iconst 1, 1) := by decide +kernel
theorem d_ps_chain_122 : decode prog_8_method_10_code 122 = .ok (.iadd, 1) := by decide +kernel
theorem d_ps_chain_123 : decode prog_8_method_10_code 123 = .ok (.iload_n 2, 1) := by decide +kernel
theorem d_ps_chain_124 : decode prog_8_method_10_code 124 = .ok (.invokevirtual 122, 3) := by decide +kernel
theorem d_ps_chain_127 : decode prog_8_method_10_code 127 = .ok (.aload_n 0, 1) := by decide +kernel
theorem d_ps_chain_128 : decode prog_8_method_10_code 128 = .ok (.getfield 18, 3) := by decide +kernel
theorem d_ps_chain_131 : decode prog_8_method_10_code 131 = .ok (.getfield 79, 3) := by decide +kernel
theorem d_ps_chain_134 : decode prog_8_method_10_code 134 = .ok (.bipush 7, 2) := by decide +kernel
theorem d_ps_chain_136 : decode prog_8_method_10_code 136 = .ok (.iload 5, 2) := by decide +kernel
theorem d_ps_chain_138 : decode prog_8_method_10_code 138 = .ok (.iload 6, 2) := by decide +kernel
theorem d_ps_chain_140 : decode prog_8_method_10_code 140 = .ok (.invokevirtual 172, 3) := by decide +kernel
theorem d_ps_chain_143 : decode prog_8_method_10_code 143 = .ok (.pop, 1) := by decide +kernel
theorem d_ps_chain_144 : decode prog_8_method_10_code 144 = .ok (.iload 7, 2) := by decide +kernel
theorem d_ps_chain_146 : decode prog_8_method_10_code 146 = .ok (.ifCond .eq (15), 3) := by decide +kernel
theorem d_ps_chain_149 : decode prog_8_method_10_code 149 = .ok (.aload_n 0, 1) := by decide +kernel
theorem d_ps_chain_150 : decode prog_8_method_10_code 150 = .ok (.getfield 18, 3) := by decide +kernel
theorem d_ps_chain_153 : decode prog_8_method_10_code 153 = .ok (.getfield 79, 3) := by decide +kernel
theorem d_ps_chain_156 : decode prog_8_method_10_code 156 = .ok (.iload 8, 2) := by decide +kernel
theorem d_ps_chain_158 : decode prog_8_method_10_code 158 = .ok (.invokevirtual 174, 3) := by decide +kernel
theorem d_ps_chain_161 : decode prog_8_method_10_code 161 = .ok (.iinc 4 (1), 3) := by decide +kernel
theorem d_ps_chain_164 : decode prog_8_method_10_code 164 = .ok (.goto (-130), 3) := by decide +kernel
theorem d_ps_chain_167 : decode prog_8_method_10_code 167 = .ok (.return_, 1) := by decide +kernel
theorem d_ps_unary_0 : decode prog_8_method_11_code 0 = .ok (.aload_n 0, 1) := by decide +kernel
theorem d_ps_unary_1 : decode prog_8_method_11_code 1 = .ok (.invokevirtual 49, 3) := by decide +kernel
theorem d_ps_unary_4 : decode prog_8_method_11_code 4 = .ok (.istore_n 2, 1) := by decide +kernel
theorem d_ps_unary_5 : decode prog_8_method_11_code 5 = .ok (.iload_n 2, 1) := by decide +kernel
theorem d_ps_unary_6 : decode prog_8_method_11_code 6 = .ok (.bipush 45, 2) := by decide +kernel
theorem d_ps_unary_8 : decode prog_8_method_11_code 8 = .ok (.if_icmp .eq (17), 3) := by decide +kernel
theorem d_ps_unary_11 : decode prog_8_method_11_code 11 = .ok (.iload_n 2, 1) := by decide +kernel
theorem d_ps_unary_12 : decode prog_8_method_11_code 12 = .ok (.bipush 33, 2) := by decide +kernel
theorem d_ps_unary_14 : decode prog_8_method_11_code 14 = .ok (.if_icmp .eq (11), 3) := by decide +kernel
theorem d_ps_unary_17 : decode prog_8_method_11_code 17 = .ok (.aload_n 0, 1) := by decide +kernel
theorem d_ps_unary_18 : decode prog_8_method_11_code 18 = .ok (.iload_n 1, 1) := by decide +kernel
theorem d_ps_unary_19 : decode prog_8_method_11_code 19 = .ok (.invokevirtual 176, 3) := by decide +kernel
theorem d_ps_unary_22 : decode prog_8_method_11_code 22 = .ok (.goto (68), 3) := by decide +kernel
theorem d_ps_unary_25 : decode prog_8_method_11_code 25 = .ok (.iload_n 1, 1) := by decide +kernel
theorem d_ps_unary_26 : decode prog_8_method_11_code 26 = .ok (.iconst 4, 1) := by decide +kernel
theorem d_ps_unary_27 : decode prog_8_method_11_code 27 = .ok (.if_icmp .lt (10), 3) := by decide +kernel
theorem d_ps_unary_30 : decode prog_8_method_11_code 30 = .ok (.aload_n 0, 1) := by decide +kernel
theorem d_ps_unary_31 : decode prog_8_method_11_code 31 = .ok (.invokevirtual 56, 3) := by decide +kernel
theorem d_ps_unary_34 : decode prog_8_method_11_code 34 = .ok (.goto (56), 3) := by decide +kernel
theorem d_ps_unary_37 : decode prog_8_method_11_code 37 = .ok (.aload_n 0, 1) := by decide +kernel
theorem d_ps_unary_38 : decode prog_8_method_11_code 38 = .ok (.getfield 12, 3) := by decide +kernel
theorem d_ps_unary_41 : decode prog_8_method_11_code 41 = .ok (.aload_n 0, 1) := by decide +kernel
theorem d_ps_unary_42 : decode prog_8_method_11_code 42 = .ok (.getfield 31, 3) := by decide +kernel
theorem d_ps_unary_45 : decode prog_8_method_11_code 45 = .ok (.invokevirtual 75, 3) := by decide +kernel
theorem d_ps_unary_48 : decode prog_8_method_11_code 48 = .ok (.istore_n 3, 1) := by decide +kernel
theorem d_ps_unary_49 : decode prog_8_method_11_code 49 = .ok (.aload_n 0, 1) := by decide +kernel
theorem d_ps_unary_50 : decode prog_8_method_11_code 50 = .ok (.dup, 1) := by decide +kernel
theorem d_ps_unary_51 : decode prog_8_method_11_code 51 = .ok (.getfield 31, 3) := by decide +kernel
theorem d_ps_unary_54 : decode prog_8_method_11_code 54 = .ok (.iconst 1, 1) := by decide +kernel
theorem d_ps_unary_55 : decode prog_8_method_11_code 55 = .ok (.iadd, 1) := by decide +kernel
theorem d_ps_unary_56 : decode prog_8_method_11_code 56 = .ok (.putfield 31, 3) := by decide +kernel
theorem d_ps_unary_59 : decode prog_8_method_11_code 59 = .ok (.aload_n 0, 1) := by decide +kernel
theorem d_ps_unary_60 : decode prog_8_method_11_code 60 = .ok (.iload_n 1, 1) := by decide +kernel
theorem d_ps_unary_61 : decode prog_8_method_11_code 61 = .ok (.iconst 1, 1) := by decide +kernel
theorem d_ps_unary_62 : decode prog_8_method_11_code 62 = .ok (.iadd, 1) := by decide +kernel
theorem d_ps_unary_63 : decode prog_8_method_11_code 63 = .ok (.invokevirtual 166, 3) := by decide +kernel
theorem d_ps_unary_66 : decode prog_8_method_11_code 66 = .ok (.aload_n 0, 1) := by decide +kernel
theorem d_ps_unary_67 : decode prog_8_method_11_code 67 = .ok (.getfield 18, 3) := by decide +kernel
theorem d_ps_unary_70 : decode prog_8_method_11_code 70 = .ok (.getfield 79, 3) := by decide +kernel
theorem d_ps_unary_73 : decode prog_8_method_11_code 73 = .ok (.iload_n 2, 1) := by decide +kernel
theorem d_ps_unary_74 : decode prog_8_method_11_code 74 = .ok (.bipush 45, 2) := by decide +kernel
theorem d_ps_unary_76 : decode prog_8_method_11_code 76 = .ok (.if_icmp .ne (7), 3) := by decide +kernel
theorem d_ps_unary_79 : decode prog_8_method_11_code 79 = .ok (.iconst 2, 1) := by decide +kernel
theorem d_ps_unary_80 : decode prog_8_method_11_code 80 = .ok (.goto (4), 3) := by decide +kernel
theorem d_ps_unary_83 : decode prog_8_method_11_code 83 = .ok (.iconst 3, 1) := by decide +kernel
theorem d_ps_unary_84 : decode prog_8_method_11_code 84 = .ok (.iconst 0, 1) := by decide +kernel
theorem d_ps_unary_85 : decode prog_8_method_11_code 85 = .ok (.iload_n 3, 1) := by decide +kernel
theorem d_ps_unary_86 : decode prog_8_method_11_code 86 = .ok (.invokevirtual 172, 3) := by decide +kernel
theorem d_ps_unary_89 : decode prog_8_method_11_code 89 = .ok (.pop, 1) := by decide +kernel
theorem d_ps_unary_90 : decode prog_8_method_11_code 90 = .ok (.return_, 1) := by decide +kernel
theorem d_ps_atom_0 : decode prog_8_method_12_code 0 = .ok (.aload_n 0, 1) := by decide +kernel
theorem d_ps_atom_1 : decode prog_8_method_12_code 1 = .ok (.getfield 12, 3) := by decide +kernel
theorem d_ps_atom_4 : decode prog_8_method_12_code 4 = .ok (.aload_n 0, 1) := by decide +kernel
theorem d_ps_atom_5 : decode prog_8_method_12_code 5 = .ok (.getfield 31, 3) := by decide +kernel
theorem d_ps_atom_8 : decode prog_8_method_12_code 8 = .ok (.invokevirtual 75, 3) := by decide +kernel
theorem d_ps_atom_11 : decode prog_8_method_12_code 11 = .ok (.istore_n 2, 1) := by decide +kernel
theorem d_ps_atom_12 : decode prog_8_method_12_code 12 = .ok (.aload_n 0, 1) := by decide +kernel
theorem d_ps_atom_13 : decode prog_8_method_12_code 13 = .ok (.invokevirtual 49, 3) := by decide +kernel
theorem d_ps_atom_16 : decode prog_8_method_12_code 16 = .ok (.istore_n 3, 1) := by decide +kernel
theorem d_ps_atom_17 : decode prog_8_method_12_code 17 = .ok (.iload_n 3, 1) := by decide +kernel
theorem d_ps_atom_18 : decode prog_8_method_12_code 18 = .ok (.sipush 258, 3) := by decide +kernel
theorem d_ps_atom_21 : decode prog_8_method_12_code 21 = .ok (.if_icmp .ne (23), 3) := by decide +kernel
theorem d_ps_atom_24 : decode prog_8_method_12_code 24 = .ok (.aload_n 0, 1) := by decide +kernel
theorem d_ps_atom_25 : decode prog_8_method_12_code 25 = .ok (.getfield 18, 3) := by decide +kernel
theorem d_ps_atom_28 : decode prog_8_method_12_code 28 = .ok (.getfield 79, 3) := by decide +kernel
theorem d_ps_atom_31 : decode prog_8_method_12_code 31 = .ok (.iconst 0, 1) := by decide +kernel
theorem d_ps_atom_32 : decode prog_8_method_12_code 32 = .ok (.aload_n 0, 1) := by decide +kernel
theorem d_ps_atom_33 : decode prog_8_method_12_code 33 = .ok (.invokevirtual 137, 3) := by decide +kernel
theorem d_ps_atom_36 : decode prog_8_method_12_code 36 = .ok (.iload_n 2, 1) := by decide +kernel
theorem d_ps_atom_37 : decode prog_8_method_12_code 37 = .ok (.invokevirtual 172, 3) := by decide +kernel
theorem d_ps_atom_40 : decode prog_8_method_12_code 40 = .ok (.pop, 1) := by decide +kernel
theorem d_ps_atom_41 : decode prog_8_method_12_code 41 = .ok (.goto (174), 3) := by decide +kernel
theorem d_ps_atom_44 : decode prog_8_method_12_code 44 = .ok (.iload_n 3, 1) := by decide +kernel
theorem d_ps_atom_45 : decode prog_8_method_12_code 45 = .ok (.sipush 259, 3) := by decide +kernel
theorem d_ps_atom_48 : decode prog_8_method_12_code 48 = .ok (.if_icmp .ne (40), 3) := by decide +kernel
theorem d_ps_atom_51 : decode prog_8_method_12_code 51 = .ok (.aload_n 0, 1) := by decide +kernel
theorem d_ps_atom_52 : decode prog_8_method_12_code 52 = .ok (.getfield 18, 3) := by decide +kernel
theorem d_ps_atom_55 : decode prog_8_method_12_code 55 = .ok (.getfield 79, 3) := by decide +kernel
theorem d_ps_atom_58 : decode prog_8_method_12_code 58 = .ok (.iconst 1, 1) := by decide +kernel
theorem d_ps_atom_59 : decode prog_8_method_12_code 59 = .ok (.aload_n 0, 1) := by decide +kernel
theorem d_ps_atom_60 : decode prog_8_method_12_code 60 = .ok (.getfield 12, 3) := by decide +kernel
theorem d_ps_atom_63 : decode prog_8_method_12_code 63 = .ok (.aload_n 0, 1) := by decide +kernel
theorem d_ps_atom_64 : decode prog_8_method_12_code 64 = .ok (.getfield 31, 3) := by decide +kernel
theorem d_ps_atom_67 : decode prog_8_method_12_code 67 = .ok (.invokevirtual 119, 3) := by decide +kernel
theorem d_ps_atom_70 : decode prog_8_method_12_code 70 = .ok (.iload_n 2, 1) := by decide +kernel
theorem d_ps_atom_71 : decode prog_8_method_12_code 71 = .ok (.invokevirtual 172, 3) := by decide +kernel
theorem d_ps_atom_74 : decode prog_8_method_12_code 74 = .ok (.pop, 1) := by decide +kernel
theorem d_ps_atom_75 : decode prog_8_method_12_code 75 = .ok (.aload_n 0, 1) := by decide +kernel
theorem d_ps_atom_76 : decode prog_8_method_12_code 76 = .ok (.dup, 1) := by decide +kernel
theorem d_ps_atom_77 : decode prog_8_method_12_code 77 = .ok (.getfield 31, 3) := by decide +kernel
theorem d_ps_atom_80 : decode prog_8_method_12_code 80 = .ok (.iconst 1, 1) := by decide +kernel
theorem d_ps_atom_81 : decode prog_8_method_12_code 81 = .ok (.iadd, 1) := by decide +kernel
theorem d_ps_atom_82 : decode prog_8_method_12_code 82 = .ok (.putfield 31, 3) := by decide +kernel
theorem d_ps_atom_85 : decode prog_8_method_12_code 85 = .ok (.goto (130), 3) := by decide +kernel
theorem d_ps_atom_88 : decode prog_8_method_12_code 88 = .ok (.iload_n 3, 1) := by decide +kernel
theorem d_ps_atom_89 : decode prog_8_method_12_code 89 = .ok (.bipush 77, 2) := by decide +kernel
theorem d_ps_atom_91 : decode prog_8_method_12_code 91 = .ok (.if_icmp .eq (9), 3) := by decide +kernel
theorem d_ps_atom_94 : decode prog_8_method_12_code 94 = .ok (.iload_n 3, 1) := by decide +kernel
theorem d_ps_atom_95 : decode prog_8_method_12_code 95 = .ok (.bipush 78, 2) := by decide +kernel
theorem d_ps_atom_97 : decode prog_8_method_12_code 97 = .ok (.if_icmp .ne (45), 3) := by decide +kernel
theorem d_ps_atom_100 : decode prog_8_method_12_code 100 = .ok (.aload_n 0, 1) := by decide +kernel
theorem d_ps_atom_101 : decode prog_8_method_12_code 101 = .ok (.dup, 1) := by decide +kernel
theorem d_ps_atom_102 : decode prog_8_method_12_code 102 = .ok (.getfield 31, 3) := by decide +kernel
theorem d_ps_atom_105 : decode prog_8_method_12_code 105 = .ok (.iconst 1, 1) := by decide +kernel
theorem d_ps_atom_106 : decode prog_8_method_12_code 106 = .ok (.iadd, 1) := by decide +kernel
theorem d_ps_atom_107 : decode prog_8_method_12_code 107 = .ok (.putfield 31, 3) := by decide +kernel
theorem d_ps_atom_110 : decode prog_8_method_12_code 110 = .ok (.aload_n 0, 1) := by decide +kernel
theorem d_ps_atom_111 : decode prog_8_method_12_code 111 = .ok (.iload_n 1, 1) := by decide +kernel
theorem d_ps_atom_112 : decode prog_8_method_12_code 112 = .ok (.invokevirtual 179, 3) := by decide +kernel
theorem d_ps_atom_115 : decode prog_8_method_12_code 115 = .ok (.aload_n 0, 1) := by decide +kernel
theorem d_ps_atom_116 : decode prog_8_method_12_code 116 = .ok (.getfield 18, 3) := by decide +kernel
theorem d_ps_atom_119 : decode prog_8_method_12_code 119 = .ok (.getfield 79, 3) := by decide +kernel
theorem d_ps_atom_122 : decode prog_8_method_12_code 122 = .ok (.iconst 4, 1) := by decide +kernel
theorem d_ps_atom_123 : decode prog_8_method_12_code 123 = .ok (.iload_n 3, 1) := by decide +kernel
theorem d_ps_atom_124 : decode prog_8_method_12_code 124 = .ok (.bipush 78, 2) := by decide +kernel
theorem d_ps_atom_126 : decode prog_8_method_12_code 126 = .ok (.if_icmp .ne (7), 3) := by decide +kernel
theorem d_ps_atom_129 : decode prog_8_method_12_code 129 = .ok (.iconst 1, 1) := by decide +kernel
theorem d_ps_atom_130 : decode prog_8_method_12_code 130 = .ok (.goto (4), 3) := by decide +kernel
theorem d_ps_atom_133 : decode prog_8_method_12_code 133 = .ok (.iconst 0, 1) := by decide +kernel
theorem d_ps_atom_134 : decode prog_8_method_12_code 134 = .ok (.iload_n 2, 1) := by decide +kernel
theorem d_ps_atom_135 : decode prog_8_method_12_code 135 = .ok (.invokevirtual 172, 3) := by decide +kernel
theorem d_ps_atom_138 : decode prog_8_method_12_code 138 = .ok (.pop, 1) := by decide +kernel
theorem d_ps_atom_139 : decode prog_8_method_12_code 139 = .ok (.goto (76), 3) := by decide +kernel
theorem d_ps_atom_142 : decode prog_8_method_12_code 142 = .ok (.iload_n 3, 1) := by decide +kernel
theorem d_ps_atom_143 : decode prog_8_method_12_code 143 = .ok (.bipush 79, 2) := by decide +kernel
theorem d_ps_atom_145 : decode prog_8_method_12_code 145 = .ok (.if_icmp .ne (65), 3) := by decide +kernel
theorem d_ps_atom_148 : decode prog_8_method_12_code 148 = .ok (.aload_n 0, 1) := by decide +kernel
theorem d_ps_atom_149 : decode prog_8_method_12_code 149 = .ok (.getfield 94, 3) := by decide +kernel
theorem d_ps_atom_152 : decode prog_8_method_12_code 152 = .ok (.ifCond .eq (58), 3) := by decide +kernel
theorem d_ps_atom_155 : decode prog_8_method_12_code 155 = .ok (.aload_n 0, 1) := by decide +kernel
theorem d_ps_atom_156 : decode prog_8_method_12_code 156 = .ok (.dup, 1) := by decide +kernel
theorem d_ps_atom_157 : decode prog_8_method_12_code 157 = .ok (.getfield 31, 3) := by decide +kernel
theorem d_ps_atom_160 : decode prog_8_method_12_code 160 = .ok (.iconst 1, 1) := by decide +kernel
theorem d_ps_atom_161 : decode prog_8_method_12_code 161 = .ok (.iadd, 1) := by decide +kernel
theorem d_ps_atom_162 : decode prog_8_method_12_code 162 = .ok (.putfield 31, 3) := by decide +kernel
theorem d_ps_atom_165 : decode prog_8_method_12_code 165 = .ok (.aload_n 0, 1) := by decide +kernel
theorem d_ps_atom_166 : decode prog_8_method_12_code 166 = .ok (.getfield 18, 3) := by decide +kernel
theorem d_ps_atom_169 : decode prog_8_method_12_code 169 = .ok (.getfield 79, 3) := by decide +kernel
theorem d_ps_atom_172 : decode prog_8_method_12_code 172 = .ok (.iconst 5, 1) := by decide +kernel
theorem d_ps_atom_173 : decode prog_8_method_12_code 173 = .ok (.iconst 0, 1) := by decide +kernel
theorem d_ps_atom_174 : decode prog_8_method_12_code 174 = .ok (.iload_n 2, 1) := by decide +kernel
theorem d_ps_atom_175 : decode prog_8_method_12_code 175 = .ok (.invokevirtual 172, 3) := by decide +kernel
theorem d_ps_atom_178 : decode prog_8_method_12_code 178 = .ok (.istore 4, 2) := by decide +kernel
theorem d_ps_atom_180 : decode prog_8_method_12_code 180 = .ok (.aload_n 0, 1) := by decide +kernel
theorem d_ps_atom_181 : decode prog_8_method_12_code 181 = .ok (.iconst 0, 1) := by decide +kernel
theorem d_ps_atom_182 : decode prog_8_method_12_code 182 = .ok (.putfield 94, 3) := by decide +kernel
theorem d_ps_atom_185 : decode prog_8_method_12_code 185 = .ok (.aload_n 0, 1) := by decide +kernel
theorem d_ps_atom_186 : decode prog_8_method_12_code 186 = .ok (.iload_n 1, 1) := by decide +kernel
theorem d_ps_atom_187 : decode prog_8_method_12_code 187 = .ok (.invokevirtual 179, 3) := by decide +kernel
theorem d_ps_atom_190 : decode prog_8_method_12_code 190 = .ok (.aload_n 0, 1) := by decide +kernel
theorem d_ps_atom_191 : decode prog_8_method_12_code 191 = .ok (.iconst 1, 1) := by decide +kernel
theorem d_ps_atom_192 : decode prog_8_method_12_code 192 = .ok (.putfield 94, 3) := by decide +kernel
theorem d_ps_atom_195 : decode prog_8_method_12_code 195 = .ok (.aload_n 0, 1) := by decide +kernel
theorem d_ps_atom_196 : decode prog_8_method_12_code 196 = .ok (.getfield 18, 3) := by decide +kernel
theorem d_ps_atom_199 : decode prog_8_method_12_code 199 = .ok (.getfield 79, 3) := by decide +kernel
theorem d_ps_atom_202 : decode prog_8_method_12_code 202 = .ok (.iload 4, 2) := by decide +kernel
theorem d_ps_atom_204 : decode prog_8_method_12_code 204 = .ok (.invokevirtual 174, 3) := by decide +kernel
theorem d_ps_atom_207 : decode prog_8_method_12_code 207 = .ok (.goto (8), 3) := by decide +kernel
theorem d_ps_atom_210 : decode prog_8_method_12_code 210 = .ok (.aload_n 0, 1) := by decide +kernel
theorem d_ps_atom_211 : decode prog_8_method_12_code 211 = .ok (.iload_n 1, 1) := by decide +kernel
theorem d_ps_atom_212 : decode prog_8_method_12_code 212 = .ok (.invokevirtual 179, 3) := by decide +kernel
theorem d_ps_atom_215 : decode prog_8_method_12_code 215 = .ok (.return_, 1) := by decide +kernel
theorem d_ps_group_0 : decode prog_8_method_13_code 0 = .ok (.aload_n 0, 1) := by decide +kernel
theorem d_ps_group_1 : decode prog_8_method_13_code 1 = .ok (.invokevirtual 49, 3) := by decide +kernel
theorem d_ps_group_4 : decode prog_8_method_13_code 4 = .ok (.bipush 40, 2) := by decide +kernel
theorem d_ps_group_6 : decode prog_8_method_13_code 6 = .ok (.if_icmp .ne (8), 3) := by decide +kernel
theorem d_ps_group_9 : decode prog_8_method_13_code 9 = .ok (.iload_n 1, 1) := by decide +kernel
theorem d_ps_group_10 : decode prog_8_method_13_code 10 = .ok (.iconst 4, 1) := by decide +kernel
theorem d_ps_group_11 : decode prog_8_method_13_code 11 = .ok (.if_icmp .lt (8), 3) := by decide +kernel
theorem d_ps_group_14 : decode prog_8_method_13_code 14 = .ok (.aload_n 0, 1) := by decide +kernel
theorem d_ps_group_15 : decode prog_8_method_13_code 15 = .ok (.invokevirtual 56, 3) := by decide +kernel
theorem d_ps_group_18 : decode prog_8_method_13_code 18 = .ok (.return_, 1) := by decide +kernel
theorem d_ps_group_19 : decode prog_8_method_13_code 19 = .ok (.aload_n 0, 1) := by decide +kernel
theorem d_ps_group_20 : decode prog_8_method_13_code 20 = .ok (.dup, 1) := by decide +kernel
theorem d_ps_group_21 : decode prog_8_method_13_code 21 = .ok (.getfield 31, 3) := by decide +kernel
theorem d_ps_group_24 : decode prog_8_method_13_code 24 = .ok (.iconst 1, 1) := by decide +kernel
theorem d_ps_group_25 : decode prog_8_method_13_code 25 = .ok (.iadd, 1) := by decide +kernel
theorem d_ps_group_26 : decode prog_8_method_13_code 26 = .ok (.putfield 31, 3) := by decide +kernel
theorem d_ps_group_29 : decode prog_8_method_13_code 29 = .ok (.aload_n 0, 1) := by decide +kernel
theorem d_ps_group_30 : decode prog_8_method_13_code 30 = .ok (.iconst 0, 1) := by decide +kernel
theorem d_ps_group_31 : decode prog_8_method_13_code 31 = .ok (.iload_n 1, 1) := by decide +kernel
theorem d_ps_group_32 : decode prog_8_method_13_code 32 = .ok (.iconst 1, 1) := by decide +kernel
theorem d_ps_group_33 : decode prog_8_method_13_code 33 = .ok (.iadd, 1) := by decide +kernel
theorem d_ps_group_34 : decode prog_8_method_13_code 34 = .ok (.invokevirtual 122, 3) := by decide +kernel
theorem d_ps_group_37 : decode prog_8_method_13_code 37 = .ok (.aload_n 0, 1) := by decide +kernel
theorem d_ps_group_38 : decode prog_8_method_13_code 38 = .ok (.bipush 41, 2) := by decide +kernel
theorem d_ps_group_40 : decode prog_8_method_13_code 40 = .ok (.invokevirtual 62, 3) := by decide +kernel
theorem d_ps_group_43 : decode prog_8_method_13_code 43 = .ok (.return_, 1) := by decide +kernel
theorem d_ps_number_0 : decode prog_8_method_14_code 0 = .ok (.aload_n 0, 1) := by decide +kernel
theorem d_ps_number_1 : decode prog_8_method_14_code 1 = .ok (.getfield 12, 3) := by decide +kernel
theorem d_ps_number_4 : decode prog_8_method_14_code 4 = .ok (.aload_n 0, 1) := by decide +kernel
theorem d_ps_number_5 : decode prog_8_method_14_code 5 = .ok (.getfield 31, 3) := by decide +kernel
theorem d_ps_number_8 : decode prog_8_method_14_code 8 = .ok (.invokevirtual 106, 3) := by decide +kernel
theorem d_ps_number_11 : decode prog_8_method_14_code 11 = .ok (.sipush 258, 3) := by decide +kernel
theorem d_ps_number_14 : decode prog_8_method_14_code 14 = .ok (.if_icmp .eq (9), 3) := by decide +kernel
theorem d_ps_number_17 : decode prog_8_method_14_code 17 = .ok (.aload_n 0, 1) := by decide +kernel
theorem d_ps_number_18 : decode prog_8_method_14_code 18 = .ok (.invokevirtual 56, 3) := by decide +kernel
theorem d_ps_number_21 : decode prog_8_method_14_code 21 = .ok (.iconst 0, 1) := by decide +kernel
theorem d_ps_number_22 : decode prog_8_method_14_code 22 = .ok (.ireturn, 1) := by decide +kernel
theorem d_ps_number_23 : decode prog_8_method_14_code 23 = .ok (.aload_n 0, 1) := by decide +kernel
theorem d_ps_number_24 : decode prog_8_method_14_code 24 = .ok (.dup, 1) := by decide +kernel
theorem d_ps_number_25 : decode prog_8_method_14_code 25 = .ok (.getfield 31, 3) := by decide +kernel
theorem d_ps_number_28 : decode prog_8_method_14_code 28 = .ok (.iconst 1, 1) := by decide +kernel
theorem d_ps_number_29 : decode prog_8_method_14_code 29 = .ok (.iadd, 1) := by decide +kernel
theorem d_ps_number_30 : decode prog_8_method_14_code 30 = .ok (.putfield 31, 3) := by decide +kernel
theorem d_ps_number_33 : decode prog_8_method_14_code 33 = .ok (.aload_n 0, 1) := by decide +kernel
theorem d_ps_number_34 : decode prog_8_method_14_code 34 = .ok (.getfield 12, 3) := by decide +kernel
theorem d_ps_number_37 : decode prog_8_method_14_code 37 = .ok (.aload_n 0, 1) := by decide +kernel
theorem d_ps_number_38 : decode prog_8_method_14_code 38 = .ok (.getfield 31, 3) := by decide +kernel
theorem d_ps_number_41 : decode prog_8_method_14_code 41 = .ok (.iconst 1, 1) := by decide +kernel
theorem d_ps_number_42 : decode prog_8_method_14_code 42 = .ok (.isub, 1) := by decide +kernel
theorem d_ps_number_43 : decode prog_8_method_14_code 43 = .ok (.invokevirtual 119, 3) := by decide +kernel
theorem d_ps_number_46 : decode prog_8_method_14_code 46 = .ok (.ireturn, 1) := by decide +kernel
theorem d_ps_takeBar_0 : decode prog_8_method_15_code 0 = .ok (.aload_n 0, 1) := by decide +kernel
theorem d_ps_takeBar_1 : decode prog_8_method_15_code 1 = .ok (.bipush 124, 2) := by decide +kernel
theorem d_ps_takeBar_3 : decode prog_8_method_15_code 3 = .ok (.invokevirtual 38, 3) := by decide +kernel
theorem d_ps_takeBar_6 : decode prog_8_method_15_code 6 = .ok (.ifCond .ne (13), 3) := by decide +kernel
theorem d_ps_takeBar_9 : decode prog_8_method_15_code 9 = .ok (.aload_n 0, 1) := by decide +kernel
theorem d_ps_takeBar_10 : decode prog_8_method_15_code 10 = .ok (.sipush 265, 3) := by decide +kernel
theorem d_ps_takeBar_13 : decode prog_8_method_15_code 13 = .ok (.invokevirtual 38, 3) := by decide +kernel
theorem d_ps_takeBar_16 : decode prog_8_method_15_code 16 = .ok (.ifCond .eq (7), 3) := by decide +kernel
theorem d_ps_takeBar_19 : decode prog_8_method_15_code 19 = .ok (.iconst 1, 1) := by decide +kernel
theorem d_ps_takeBar_20 : decode prog_8_method_15_code 20 = .ok (.goto (4), 3) := by decide +kernel
theorem d_ps_takeBar_23 : decode prog_8_method_15_code 23 = .ok (.iconst 0, 1) := by decide +kernel
theorem d_ps_takeBar_24 : decode prog_8_method_15_code 24 = .ok (.ireturn, 1) := by decide +kernel
theorem d_ps_take_0 : decode prog_8_method_16_code 0 = .ok (.aload_n 0, 1) := by decide +kernel
theorem d_ps_take_1 : decode prog_8_method_16_code 1 = .ok (.getfield 12, 3) := by decide +kernel
theorem d_ps_take_4 : decode prog_8_method_16_code 4 = .ok (.aload_n 0, 1) := by decide +kernel
theorem d_ps_take_5 : decode prog_8_method_16_code 5 = .ok (.getfield 31, 3) := by decide +kernel
theorem d_ps_take_8 : decode prog_8_method_16_code 8 = .ok (.invokevirtual 106, 3) := by decide +kernel
theorem d_ps_take_11 : decode prog_8_method_16_code 11 = .ok (.iload_n 1, 1) := by decide +kernel
theorem d_ps_take_12 : decode prog_8_method_16_code 12 = .ok (.if_icmp .eq (5), 3) := by decide +kernel
theorem d_ps_take_15 : decode prog_8_method_16_code 15 = .ok (.iconst 0, 1) := by decide +kernel
theorem d_ps_take_16 : decode prog_8_method_16_code 16 = .ok (.ireturn, 1) := by decide +kernel
theorem d_ps_take_17 : decode prog_8_method_16_code 17 = .ok (.aload_n 0, 1) := by decide +kernel
theorem d_ps_take_18 : decode prog_8_method_16_code 18 = .ok (.dup, 1) := by decide +kernel
theorem d_ps_take_19 : decode prog_8_method_16_code 19 = .ok (.getfield 31, 3) := by decide +kernel
theorem d_ps_take_22 : decode prog_8_method_16_code 22 = .ok (.iconst 1, 1) := by decide +kernel
theorem d_ps_take_23 : decode prog_8_method_16_code 23 = .ok (.iadd, 1) := by decide +kernel
theorem d_ps_take_24 : decode prog_8_method_16_code 24 = .ok (.putfield 31, 3) := by decide +kernel
theorem d_ps_take_27 : decode prog_8_method_16_code 27 = .ok (.iconst 1, 1) := by decide +kernel
theorem d_ps_take_28 : decode prog_8_method_16_code 28 = .ok (.ireturn, 1) := by decide +kernel
theorem d_ps_need_0 : decode prog_8_method_17_code 0 = .ok (.aload_n 0, 1) := by decide +kernel
theorem d_ps_need_1 : decode prog_8_method_17_code 1 = .ok (.getfield 12, 3) := by decide +kernel
theorem d_ps_need_4 : decode prog_8_method_17_code 4 = .ok (.aload_n 0, 1) := by decide +kernel
theorem d_ps_need_5 : decode prog_8_method_17_code 5 = .ok (.getfield 31, 3) := by decide +kernel
theorem d_ps_need_8 : decode prog_8_method_17_code 8 = .ok (.invokevirtual 106, 3) := by decide +kernel
theorem d_ps_need_11 : decode prog_8_method_17_code 11 = .ok (.iload_n 1, 1) := by decide +kernel
theorem d_ps_need_12 : decode prog_8_method_17_code 12 = .ok (.if_icmp .eq (10), 3) := by decide +kernel
theorem d_ps_need_15 : decode prog_8_method_17_code 15 = .ok (.aload_n 0, 1) := by decide +kernel
theorem d_ps_need_16 : decode prog_8_method_17_code 16 = .ok (.invokevirtual 56, 3) := by decide +kernel
theorem d_ps_need_19 : decode prog_8_method_17_code 19 = .ok (.goto (13), 3) := by decide +kernel
theorem d_ps_need_22 : decode prog_8_method_17_code 22 = .ok (.aload_n 0, 1) := by decide +kernel
theorem d_ps_need_23 : decode prog_8_method_17_code 23 = .ok (.dup, 1) := by decide +kernel
theorem d_ps_need_24 : decode prog_8_method_17_code 24 = .ok (.getfield 31, 3) := by decide +kernel
theorem d_ps_need_27 : decode prog_8_method_17_code 27 = .ok (.iconst 1, 1) := by decide +kernel
theorem d_ps_need_28 : decode prog_8_method_17_code 28 = .ok (.iadd, 1) := by decide +kernel
theorem d_ps_need_29 : decode prog_8_method_17_code 29 = .ok (.putfield 31, 3) := by decide +kernel
theorem d_ps_need_32 : decode prog_8_method_17_code 32 = .ok (.return_, 1) := by decide +kernel
theorem d_ps_next_0 : decode prog_8_method_18_code 0 = .ok (.aload_n 0, 1) := by decide +kernel
theorem d_ps_next_1 : decode prog_8_method_18_code 1 = .ok (.getfield 12, 3) := by decide +kernel
theorem d_ps_next_4 : decode prog_8_method_18_code 4 = .ok (.aload_n 0, 1) := by decide +kernel
theorem d_ps_next_5 : decode prog_8_method_18_code 5 = .ok (.getfield 31, 3) := by decide +kernel
theorem d_ps_next_8 : decode prog_8_method_18_code 8 = .ok (.invokevirtual 106, 3) := by decide +kernel
theorem d_ps_next_11 : decode prog_8_method_18_code 11 = .ok (.ireturn, 1) := by decide +kernel
theorem d_ps_fail_0 : decode prog_8_method_19_code 0 = .ok (.aload_n 0, 1) := by decide +kernel
theorem d_ps_fail_1 : decode prog_8_method_19_code 1 = .ok (.getfield 35, 3) := by decide +kernel
theorem d_ps_fail_4 : decode prog_8_method_19_code 4 = .ok (.ifCond .ge (59), 3) := by decide +kernel
theorem d_ps_fail_7 : decode prog_8_method_19_code 7 = .ok (.aload_n 0, 1) := by decide +kernel
theorem d_ps_fail_8 : decode prog_8_method_19_code 8 = .ok (.aload_n 0, 1) := by decide +kernel
theorem d_ps_fail_9 : decode prog_8_method_19_code 9 = .ok (.getfield 31, 3) := by decide +kernel
theorem d_ps_fail_12 : decode prog_8_method_19_code 12 = .ok (.ifCond .lt (41), 3) := by decide +kernel
theorem d_ps_fail_15 : decode prog_8_method_19_code 15 = .ok (.aload_n 0, 1) := by decide +kernel
theorem d_ps_fail_16 : decode prog_8_method_19_code 16 = .ok (.getfield 31, 3) := by decide +kernel
theorem d_ps_fail_19 : decode prog_8_method_19_code 19 = .ok (.aload_n 0, 1) := by decide +kernel
theorem d_ps_fail_20 : decode prog_8_method_19_code 20 = .ok (.getfield 12, 3) := by decide +kernel
theorem d_ps_fail_23 : decode prog_8_method_19_code 23 = .ok (.getfield 182, 3) := by decide +kernel
theorem d_ps_fail_26 : decode prog_8_method_19_code 26 = .ok (.if_icmp .ge (27), 3) := by decide +kernel
theorem d_ps_fail_29 : decode prog_8_method_19_code 29 = .ok (.aload_n 0, 1) := by decide +kernel
theorem d_ps_fail_30 : decode prog_8_method_19_code 30 = .ok (.getfield 31, 3) := by decide +kernel
theorem d_ps_fail_33 : decode prog_8_method_19_code 33 = .ok (.bipush 120, 2) := by decide +kernel
theorem d_ps_fail_35 : decode prog_8_method_19_code 35 = .ok (.if_icmp .ge (18), 3) := by decide +kernel
theorem d_ps_fail_38 : decode prog_8_method_19_code 38 = .ok (.aload_n 0, 1) := by decide +kernel
theorem d_ps_fail_39 : decode prog_8_method_19_code 39 = .ok (.getfield 12, 3) := by decide +kernel
theorem d_ps_fail_42 : decode prog_8_method_19_code 42 = .ok (.getfield 183, 3) := by decide +kernel
theorem d_ps_fail_45 : decode prog_8_method_19_code 45 = .ok (.aload_n 0, 1) := by decide +kernel
theorem d_ps_fail_46 : decode prog_8_method_19_code 46 = .ok (.getfield 31, 3) := by decide +kernel
theorem d_ps_fail_49 : decode prog_8_method_19_code 49 = .ok (.iaload, 1) := by decide +kernel
theorem d_ps_fail_50 : decode prog_8_method_19_code 50 = .ok (.goto (10), 3) := by decide +kernel
theorem d_ps_fail_53 : decode prog_8_method_19_code 53 = .ok (.aload_n 0, 1) := by decide +kernel
theorem d_ps_fail_54 : decode prog_8_method_19_code 54 = .ok (.getfield 12, 3) := by decide +kernel
theorem d_ps_fail_57 : decode prog_8_method_19_code 57 = .ok (.getfield 186, 3) := by decide +kernel
theorem d_ps_fail_60 : decode prog_8_method_19_code 60 = .ok (.putfield 35, 3) := by decide +kernel
theorem d_ps_fail_63 : decode prog_8_method_19_code 63 = .ok (.aload_n 0, 1) := by decide +kernel
theorem d_ps_fail_64 : decode prog_8_method_19_code 64 = .ok (.aload_n 0, 1) := by decide +kernel
theorem d_ps_fail_65 : decode prog_8_method_19_code 65 = .ok (.getfield 12, 3) := by decide +kernel
theorem d_ps_fail_68 : decode prog_8_method_19_code 68 = .ok (.getfield 182, 3) := by decide +kernel
theorem d_ps_fail_71 : decode prog_8_method_19_code 71 = .ok (.putfield 31, 3) := by decide +kernel
theorem d_ps_fail_74 : decode prog_8_method_19_code 74 = .ok (.return_, 1) := by decide +kernel
theorem d_rl_init_0 : decode prog_9_method_1_code 0 = .ok (.aload_n 0, 1) := by decide +kernel
theorem d_rl_init_1 : decode prog_9_method_1_code 1 = .ok (.invokespecial 3, 3) := by decide +kernel
theorem d_rl_init_4 : decode prog_9_method_1_code 4 = .ok (.aload_n 0, 1) := by decide +kernel
theorem d_rl_init_5 : decode prog_9_method_1_code 5 = .ok (.bipush 22, 2) := by decide +kernel
theorem d_rl_init_7 : decode prog_9_method_1_code 7 = .ok (.newarray .int, 2) := by decide +kernel
theorem d_rl_init_9 : decode prog_9_method_1_code 9 = .ok (.putfield 9, 3) := by decide +kernel
theorem d_rl_init_12 : decode prog_9_method_1_code 12 = .ok (.aload_n 0, 1) := by decide +kernel
theorem d_rl_init_13 : decode prog_9_method_1_code 13 = .ok (.bipush 22, 2) := by decide +kernel
theorem d_rl_init_15 : decode prog_9_method_1_code 15 = .ok (.newarray .int, 2) := by decide +kernel
theorem d_rl_init_17 : decode prog_9_method_1_code 17 = .ok (.putfield 15, 3) := by decide +kernel
theorem d_rl_init_20 : decode prog_9_method_1_code 20 = .ok (.aload_n 0, 1) := by decide +kernel
theorem d_rl_init_21 : decode prog_9_method_1_code 21 = .ok (.bipush 22, 2) := by decide +kernel
theorem d_rl_init_23 : decode prog_9_method_1_code 23 = .ok (.newarray .int, 2) := by decide +kernel
theorem d_rl_init_25 : decode prog_9_method_1_code 25 = .ok (.putfield 18, 3) := by decide +kernel
theorem d_rl_init_28 : decode prog_9_method_1_code 28 = .ok (.aload_n 0, 1) := by decide +kernel
theorem d_rl_init_29 : decode prog_9_method_1_code 29 = .ok (.bipush 22, 2) := by decide +kernel
theorem d_rl_init_31 : decode prog_9_method_1_code 31 = .ok (.newarray .int, 2) := by decide +kernel
theorem d_rl_init_33 : decode prog_9_method_1_code 33 = .ok (.putfield 21, 3) := by decide +kernel
theorem d_rl_init_36 : decode prog_9_method_1_code 36 = .ok (.aload_n 0, 1) := by decide +kernel
theorem d_rl_init_37 : decode prog_9_method_1_code 37 = .ok (.bipush 22, 2) := by decide +kernel
theorem d_rl_init_39 : decode prog_9_method_1_code 39 = .ok (.newarray .int, 2) := by decide +kernel
theorem d_rl_init_41 : decode prog_9_method_1_code 41 = .ok (.putfield 24, 3) := by decide +kernel
theorem d_rl_init_44 : decode prog_9_method_1_code 44 = .ok (.aload_n 0, 1) := by decide +kernel
theorem d_rl_init_45 : decode prog_9_method_1_code 45 = .ok (.bipush 22, 2) := by decide +kernel
theorem d_rl_init_47 : decode prog_9_method_1_code 47 = .ok (.newarray .int, 2) := by decide +kernel
theorem d_rl_init_49 : decode prog_9_method_1_code 49 = .ok (.putfield 27, 3) := by decide +kernel
theorem d_rl_init_52 : decode prog_9_method_1_code 52 = .ok (.aload_n 0, 1) := by decide +kernel
theorem d_rl_init_53 : decode prog_9_method_1_code 53 = .ok (.bipush 22, 2) := by decide +kernel
theorem d_rl_init_55 : decode prog_9_method_1_code 55 = .ok (.newarray .int, 2) := by decide +kernel
theorem d_rl_init_57 : decode prog_9_method_1_code 57 = .ok (.putfield 30, 3) := by decide +kernel
theorem d_rl_init_60 : decode prog_9_method_1_code 60 = .ok (.aload_n 0, 1) := by decide +kernel
theorem d_rl_init_61 : decode prog_9_method_1_code 61 = .ok (.bipush 61, 2) := by decide +kernel
theorem d_rl_init_63 : decode prog_9_method_1_code 63 = .ok (.newarray .int, 2) := by decide +kernel
theorem d_rl_init_65 : decode prog_9_method_1_code 65 = .ok (.putfield 33, 3) := by decide +kernel
theorem d_rl_init_68 : decode prog_9_method_1_code 68 = .ok (.return_, 1) := by decide +kernel
theorem d_rl_add_0 : decode prog_9_method_2_code 0 = .ok (.aload_n 0, 1) := by decide +kernel
theorem d_rl_add_1 : decode prog_9_method_2_code 1 = .ok (.getfield 36, 3) := by decide +kernel
theorem d_rl_add_4 : decode prog_9_method_2_code 4 = .ok (.bipush 22, 2) := by decide +kernel
theorem d_rl_add_6 : decode prog_9_method_2_code 6 = .ok (.if_icmp .ge (59), 3) := by decide +kernel
theorem d_rl_add_9 : decode prog_9_method_2_code 9 = .ok (.aload_n 0, 1) := by decide +kernel
theorem d_rl_add_10 : decode prog_9_method_2_code 10 = .ok (.getfield 9, 3) := by decide +kernel
theorem d_rl_add_13 : decode prog_9_method_2_code 13 = .ok (.aload_n 0, 1) := by decide +kernel
theorem d_rl_add_14 : decode prog_9_method_2_code 14 = .ok (.getfield 36, 3) := by decide +kernel
theorem d_rl_add_17 : decode prog_9_method_2_code 17 = .ok (.iload_n 1, 1) := by decide +kernel
theorem d_rl_add_18 : decode prog_9_method_2_code 18 = .ok (.iastore, 1) := by decide +kernel
theorem d_rl_add_19 : decode prog_9_method_2_code 19 = .ok (.aload_n 0, 1) := by decide +kernel
theorem d_rl_add_20 : decode prog_9_method_2_code 20 = .ok (.getfield 15, 3) := by decide +kernel
theorem d_rl_add_23 : decode prog_9_method_2_code 23 = .ok (.aload_n 0, 1) := by decide +kernel
theorem d_rl_add_24 : decode prog_9_method_2_code 24 = .ok (.getfield 36, 3) := by decide +kernel
theorem d_rl_add_27 : decode prog_9_method_2_code 27 = .ok (.iload_n 2, 1) := by decide +kernel
theorem d_rl_add_28 : decode prog_9_method_2_code 28 = .ok (.iastore, 1) := by decide +kernel
theorem d_rl_add_29 : decode prog_9_method_2_code 29 = .ok (.aload_n 0, 1) := by decide +kernel
theorem d_rl_add_30 : decode prog_9_method_2_code 30 = .ok (.getfield 27, 3) := by decide +kernel
theorem d_rl_add_33 : decode prog_9_method_2_code 33 = .ok (.aload_n 0, 1) := by decide +kernel
theorem d_rl_add_34 : decode prog_9_method_2_code 34 = .ok (.getfield 36, 3) := by decide +kernel
theorem d_rl_add_37 : decode prog_9_method_2_code 37 = .ok (.aload_n 0, 1) := by decide +kernel
theorem d_rl_add_38 : decode prog_9_method_2_code 38 = .ok (.getfield 40, 3) := by decide +kernel
theorem d_rl_add_41 : decode prog_9_method_2_code 41 = .ok (.iastore, 1) := by decide +kernel
theorem d_rl_add_42 : decode prog_9_method_2_code 42 = .ok (.aload_n 0, 1) := by decide +kernel
theorem d_rl_add_43 : decode prog_9_method_2_code 43 = .ok (.getfield 30, 3) := by decide +kernel
theorem d_rl_add_46 : decode prog_9_method_2_code 46 = .ok (.aload_n 0, 1) := by decide +kernel
theorem d_rl_add_47 : decode prog_9_method_2_code 47 = .ok (.getfield 36, 3) := by decide +kernel
theorem d_rl_add_50 : decode prog_9_method_2_code 50 = .ok (.aload_n 0, 1) := by decide +kernel
theorem d_rl_add_51 : decode prog_9_method_2_code 51 = .ok (.getfield 40, 3) := by decide +kernel
theorem d_rl_add_54 : decode prog_9_method_2_code 54 = .ok (.iastore, 1) := by decide +kernel
theorem d_rl_add_55 : decode prog_9_method_2_code 55 = .ok (.aload_n 0, 1) := by decide +kernel
theorem d_rl_add_56 : decode prog_9_method_2_code 56 = .ok (.dup, 1) := by decide +kernel
theorem d_rl_add_57 : decode prog_9_method_2_code 57 = .ok (.getfield 36, 3) := by decide +kernel
theorem d_rl_add_60 : decode prog_9_method_2_code 60 = .ok (.iconst 1, 1) := by decide +kernel
theorem d_rl_add_61 : decode prog_9_method_2_code 61 = .ok (.iadd, 1) := by decide +kernel
theorem d_rl_add_62 : decode prog_9_method_2_code 62 = .ok (.putfield 36, 3) := by decide +kernel
theorem d_rl_add_65 : decode prog_9_method_2_code 65 = .ok (.aload_n 0, 1) := by decide +kernel
theorem d_rl_add_66 : decode prog_9_method_2_code 66 = .ok (.getfield 36, 3) := by decide +kernel
theorem d_rl_add_69 : decode prog_9_method_2_code 69 = .ok (.iconst 1, 1) := by decide +kernel
theorem d_rl_add_70 : decode prog_9_method_2_code 70 = .ok (.isub, 1) := by decide +kernel
theorem d_rl_add_71 : decode prog_9_method_2_code 71 = .ok (.ireturn, 1) := by decide +kernel
theorem d_rl_aim_0 : decode prog_9_method_3_code 0 = .ok (.aload_n 0, 1) := by decide +kernel
theorem d_rl_aim_1 : decode prog_9_method_3_code 1 = .ok (.getfield 18, 3) := by decide +kernel
theorem d_rl_aim_4 : decode prog_9_method_3_code 4 = .ok (.iload_n 1, 1) := by decide +kernel
theorem d_rl_aim_5 : decode prog_9_method_3_code 5 = .ok (.iload_n 2, 1) := by decide +kernel
theorem d_rl_aim_6 : decode prog_9_method_3_code 6 = .ok (.invokestatic 43, 3) := by decide +kernel
theorem d_rl_aim_9 : decode prog_9_method_3_code 9 = .ok (.aload_n 0, 1) := by decide +kernel
theorem d_rl_aim_10 : decode prog_9_method_3_code 10 = .ok (.getfield 21, 3) := by decide +kernel
theorem d_rl_aim_13 : decode prog_9_method_3_code 13 = .ok (.iload_n 1, 1) := by decide +kernel
theorem d_rl_aim_14 : decode prog_9_method_3_code 14 = .ok (.iload_n 3, 1) := by decide +kernel
theorem d_rl_aim_15 : decode prog_9_method_3_code 15 = .ok (.invokestatic 43, 3) := by decide +kernel
theorem d_rl_aim_18 : decode prog_9_method_3_code 18 = .ok (.aload_n 0, 1) := by decide +kernel
theorem d_rl_aim_19 : decode prog_9_method_3_code 19 = .ok (.getfield 24, 3) := by decide +kernel
theorem d_rl_aim_22 : decode prog_9_method_3_code 22 = .ok (.iload_n 1, 1) := by decide +kernel
theorem d_rl_aim_23 : decode prog_9_method_3_code 23 = .ok (.iload 4, 2) := by decide +kernel
theorem d_rl_aim_25 : decode prog_9_method_3_code 25 = .ok (.invokestatic 43, 3) := by decide +kernel
theorem d_rl_aim_28 : decode prog_9_method_3_code 28 = .ok (.return_, 1) := by decide +kernel
theorem d_rl_addAnswer_0 : decode prog_9_method_4_code 0 = .ok (.aload_n 0, 1) := by decide +kernel
theorem d_rl_addAnswer_1 : decode prog_9_method_4_code 1 = .ok (.getfield 40, 3) := by decide +kernel
theorem d_rl_addAnswer_4 : decode prog_9_method_4_code 4 = .ok (.bipush 61, 2) := by decide +kernel
theorem d_rl_addAnswer_6 : decode prog_9_method_4_code 6 = .ok (.if_icmp .ge (35), 3) := by decide +kernel
theorem d_rl_addAnswer_9 : decode prog_9_method_4_code 9 = .ok (.aload_n 0, 1) := by decide +kernel
theorem d_rl_addAnswer_10 : decode prog_9_method_4_code 10 = .ok (.getfield 33, 3) := by decide +kernel
theorem d_rl_addAnswer_13 : decode prog_9_method_4_code 13 = .ok (.aload_n 0, 1) := by decide +kernel
theorem d_rl_addAnswer_14 : decode prog_9_method_4_code 14 = .ok (.getfield 40, 3) := by decide +kernel
theorem d_rl_addAnswer_17 : decode prog_9_method_4_code 17 = .ok (.iload_n 2, 1) := by decide +kernel
theorem d_rl_addAnswer_18 : decode prog_9_method_4_code 18 = .ok (.iastore, 1) := by decide +kernel
theorem d_rl_addAnswer_19 : decode prog_9_method_4_code 19 = .ok (.aload_n 0, 1) := by decide +kernel
theorem d_rl_addAnswer_20 : decode prog_9_method_4_code 20 = .ok (.dup, 1) := by decide +kernel
theorem d_rl_addAnswer_21 : decode prog_9_method_4_code 21 = .ok (.getfield 40, 3) := by decide +kernel
theorem d_rl_addAnswer_24 : decode prog_9_method_4_code 24 = .ok (.iconst 1, 1) := by decide +kernel
theorem d_rl_addAnswer_25 : decode prog_9_method_4_code 25 = .ok (.iadd, 1) := by decide +kernel
theorem d_rl_addAnswer_26 : decode prog_9_method_4_code 26 = .ok (.putfield 40, 3) := by decide +kernel
theorem d_rl_addAnswer_29 : decode prog_9_method_4_code 29 = .ok (.aload_n 0, 1) := by decide +kernel
theorem d_rl_addAnswer_30 : decode prog_9_method_4_code 30 = .ok (.getfield 30, 3) := by decide +kernel
theorem d_rl_addAnswer_33 : decode prog_9_method_4_code 33 = .ok (.iload_n 1, 1) := by decide +kernel
theorem d_rl_addAnswer_34 : decode prog_9_method_4_code 34 = .ok (.aload_n 0, 1) := by decide +kernel
theorem d_rl_addAnswer_35 : decode prog_9_method_4_code 35 = .ok (.getfield 40, 3) := by decide +kernel
theorem d_rl_addAnswer_38 : decode prog_9_method_4_code 38 = .ok (.invokestatic 43, 3) := by decide +kernel
theorem d_rl_addAnswer_41 : decode prog_9_method_4_code 41 = .ok (.return_, 1) := by decide +kernel
theorem d_rl_isFor_0 : decode prog_9_method_5_code 0 = .ok (.iload_n 1, 1) := by decide +kernel
theorem d_rl_isFor_1 : decode prog_9_method_5_code 1 = .ok (.ifCond .lt (27), 3) := by decide +kernel
theorem d_rl_isFor_4 : decode prog_9_method_5_code 4 = .ok (.iload_n 1, 1) := by decide +kernel
theorem d_rl_isFor_5 : decode prog_9_method_5_code 5 = .ok (.aload_n 0, 1) := by decide +kernel
theorem d_rl_isFor_6 : decode prog_9_method_5_code 6 = .ok (.getfield 36, 3) := by decide +kernel
theorem d_rl_isFor_9 : decode prog_9_method_5_code 9 = .ok (.if_icmp .ge (19), 3) := by decide +kernel
theorem d_rl_isFor_12 : decode prog_9_method_5_code 12 = .ok (.iload_n 1, 1) := by decide +kernel
theorem d_rl_isFor_13 : decode prog_9_method_5_code 13 = .ok (.bipush 22, 2) := by decide +kernel
theorem d_rl_isFor_15 : decode prog_9_method_5_code 15 = .ok (.if_icmp .ge (13), 3) := by decide +kernel
theorem d_rl_isFor_18 : decode prog_9_method_5_code 18 = .ok (.aload_n 0, 1) := by decide +kernel
theorem d_rl_isFor_19 : decode prog_9_method_5_code 19 = .ok (.getfield 18, 3) := by decide +kernel
theorem d_rl_isFor_22 : decode prog_9_method_5_code 22 = .ok (.iload_n 1, 1) := by decide +kernel
theorem d_rl_isFor_23 : decode prog_9_method_5_code 23 = .ok (.iaload, 1) := by decide +kernel
theorem d_rl_isFor_24 : decode prog_9_method_5_code 24 = .ok (.iload_n 2, 1) := by decide +kernel
theorem d_rl_isFor_25 : decode prog_9_method_5_code 25 = .ok (.if_icmp .eq (5), 3) := by decide +kernel
theorem d_rl_isFor_28 : decode prog_9_method_5_code 28 = .ok (.iconst 0, 1) := by decide +kernel
theorem d_rl_isFor_29 : decode prog_9_method_5_code 29 = .ok (.ireturn, 1) := by decide +kernel
theorem d_rl_isFor_30 : decode prog_9_method_5_code 30 = .ok (.aload_n 0, 1) := by decide +kernel
theorem d_rl_isFor_31 : decode prog_9_method_5_code 31 = .ok (.getfield 21, 3) := by decide +kernel
theorem d_rl_isFor_34 : decode prog_9_method_5_code 34 = .ok (.iload_n 1, 1) := by decide +kernel
theorem d_rl_isFor_35 : decode prog_9_method_5_code 35 = .ok (.iaload, 1) := by decide +kernel
theorem d_rl_isFor_36 : decode prog_9_method_5_code 36 = .ok (.ifCond .eq (36), 3) := by decide +kernel
theorem d_rl_isFor_39 : decode prog_9_method_5_code 39 = .ok (.aload_n 0, 1) := by decide +kernel
theorem d_rl_isFor_40 : decode prog_9_method_5_code 40 = .ok (.getfield 21, 3) := by decide +kernel
theorem d_rl_isFor_43 : decode prog_9_method_5_code 43 = .ok (.iload_n 1, 1) := by decide +kernel
theorem d_rl_isFor_44 : decode prog_9_method_5_code 44 = .ok (.iaload, 1) := by decide +kernel
theorem d_rl_isFor_45 : decode prog_9_method_5_code 45 = .ok (.iconst 1, 1) := by decide +kernel
theorem d_rl_isFor_46 : decode prog_9_method_5_code 46 = .ok (.if_icmp .ne (7), 3) := by decide +kernel
theorem d_rl_isFor_49 : decode prog_9_method_5_code 49 = .ok (.iconst 1, 1) := by decide +kernel
theorem d_rl_isFor_50 : decode prog_9_method_5_code 50 = .ok (.goto (4), 3) := by decide +kernel
theorem d_rl_isFor_53 : decode prog_9_method_5_code 53 = .ok (.iconst 0, 1) := by decide +kernel
theorem d_rl_isFor_54 : decode prog_9_method_5_code 54 = .ok (.aload_n 0, 1) := by decide +kernel
theorem d_rl_isFor_55 : decode prog_9_method_5_code 55 = .ok (.getfield 24, 3) := by decide +kernel
theorem d_rl_isFor_58 : decode prog_9_method_5_code 58 = .ok (.iload_n 1, 1) := by decide +kernel
theorem d_rl_isFor_59 : decode prog_9_method_5_code 59 = .ok (.iaload, 1) := by decide +kernel
theorem d_rl_isFor_60 : decode prog_9_method_5_code 60 = .ok (.iload_n 3, 1) := by decide +kernel
theorem d_rl_isFor_61 : decode prog_9_method_5_code 61 = .ok (.if_icmp .ne (7), 3) := by decide +kernel
theorem d_rl_isFor_64 : decode prog_9_method_5_code 64 = .ok (.iconst 1, 1) := by decide +kernel
theorem d_rl_isFor_65 : decode prog_9_method_5_code 65 = .ok (.goto (4), 3) := by decide +kernel
theorem d_rl_isFor_68 : decode prog_9_method_5_code 68 = .ok (.iconst 0, 1) := by decide +kernel
theorem d_rl_isFor_69 : decode prog_9_method_5_code 69 = .ok (.if_icmp .ne (7), 3) := by decide +kernel
theorem d_rl_isFor_72 : decode prog_9_method_5_code 72 = .ok (.iconst 1, 1) := by decide +kernel
theorem d_rl_isFor_73 : decode prog_9_method_5_code 73 = .ok (.goto (4), 3) := by decide +kernel
theorem d_rl_isFor_76 : decode prog_9_method_5_code 76 = .ok (.iconst 0, 1) := by decide +kernel
theorem d_rl_isFor_77 : decode prog_9_method_5_code 77 = .ok (.ireturn, 1) := by decide +kernel
theorem d_rl_answerFor_0 : decode prog_9_method_6_code 0 = .ok (.iload_n 1, 1) := by decide +kernel
theorem d_rl_answerFor_1 : decode prog_9_method_6_code 1 = .ok (.ifCond .lt (32), 3) := by decide +kernel
theorem d_rl_answerFor_4 : decode prog_9_method_6_code 4 = .ok (.iload_n 1, 1) := by decide +kernel
theorem d_rl_answerFor_5 : decode prog_9_method_6_code 5 = .ok (.aload_n 0, 1) := by decide +kernel
theorem d_rl_answerFor_6 : decode prog_9_method_6_code 6 = .ok (.getfield 36, 3) := by decide +kernel
theorem d_rl_answerFor_9 : decode prog_9_method_6_code 9 = .ok (.if_icmp .ge (24), 3) := by decide +kernel
theorem d_rl_answerFor_12 : decode prog_9_method_6_code 12 = .ok (.iload_n 1, 1) := by decide +kernel
theorem d_rl_answerFor_13 : decode prog_9_method_6_code 13 = .ok (.bipush 22, 2) := by decide +kernel
theorem d_rl_answerFor_15 : decode prog_9_method_6_code 15 = .ok (.if_icmp .ge (18), 3) := by decide +kernel
theorem d_rl_answerFor_18 : decode prog_9_method_6_code 18 = .ok (.aload_n 0, 1) := by decide +kernel
theorem d_rl_answerFor_19 : decode prog_9_method_6_code 19 = .ok (.getfield 27, 3) := by decide +kernel
theorem d_rl_answerFor_22 : decode prog_9_method_6_code 22 = .ok (.iload_n 1, 1) := by decide +kernel
theorem d_rl_answerFor_23 : decode prog_9_method_6_code 23 = .ok (.iaload, 1) := by decide +kernel
theorem d_rl_answerFor_24 : decode prog_9_method_6_code 24 = .ok (.aload_n 0, 1) := by decide +kernel
theorem d_rl_answerFor_25 : decode prog_9_method_6_code 25 = .ok (.getfield 30, 3) := by decide +kernel
theorem d_rl_answerFor_28 : decode prog_9_method_6_code 28 = .ok (.iload_n 1, 1) := by decide +kernel
theorem d_rl_answerFor_29 : decode prog_9_method_6_code 29 = .ok (.iaload, 1) := by decide +kernel
theorem d_rl_answerFor_30 : decode prog_9_method_6_code 30 = .ok (.if_icmp .lt (5), 3) := by decide +kernel
theorem d_rl_answerFor_33 : decode prog_9_method_6_code 33 = .ok (.iconst 0, 1) := by decide +kernel
theorem d_rl_answerFor_34 : decode prog_9_method_6_code 34 = .ok (.ireturn, 1) := by decide +kernel
theorem d_rl_answerFor_35 : decode prog_9_method_6_code 35 = .ok (.aload_n 0, 1) := by decide +kernel
theorem d_rl_answerFor_36 : decode prog_9_method_6_code 36 = .ok (.getfield 27, 3) := by decide +kernel
theorem d_rl_answerFor_39 : decode prog_9_method_6_code 39 = .ok (.iload_n 1, 1) := by decide +kernel
theorem d_rl_answerFor_40 : decode prog_9_method_6_code 40 = .ok (.iaload, 1) := by decide +kernel
theorem d_rl_answerFor_41 : decode prog_9_method_6_code 41 = .ok (.iload_n 2, 1) := by decide +kernel
theorem d_rl_answerFor_42 : decode prog_9_method_6_code 42 = .ok (.iadd, 1) := by decide +kernel
theorem d_rl_answerFor_43 : decode prog_9_method_6_code 43 = .ok (.aload_n 0, 1) := by decide +kernel
theorem d_rl_answerFor_44 : decode prog_9_method_6_code 44 = .ok (.getfield 30, 3) := by decide +kernel
theorem d_rl_answerFor_47 : decode prog_9_method_6_code 47 = .ok (.iload_n 1, 1) := by decide +kernel
theorem d_rl_answerFor_48 : decode prog_9_method_6_code 48 = .ok (.iaload, 1) := by decide +kernel
theorem d_rl_answerFor_49 : decode prog_9_method_6_code 49 = .ok (.if_icmp .gt (16), 3) := by decide +kernel
theorem d_rl_answerFor_52 : decode prog_9_method_6_code 52 = .ok (.aload_n 0, 1) := by decide +kernel
theorem d_rl_answerFor_53 : decode prog_9_method_6_code 53 = .ok (.getfield 27, 3) := by decide +kernel
theorem d_rl_answerFor_56 : decode prog_9_method_6_code 56 = .ok (.iload_n 1, 1) := by decide +kernel
theorem d_rl_answerFor_57 : decode prog_9_method_6_code 57 = .ok (.iaload, 1) := by decide +kernel
theorem d_rl_answerFor_58 : decode prog_9_method_6_code 58 = .ok (.iload_n 2, 1) := by decide +kernel
theorem d_rl_answerFor_59 : decode prog_9_method_6_code 59 = .ok (.iadd, 1) := by decide +kernel
theorem d_rl_answerFor_60 : decode prog_9_method_6_code 60 = .ok (.iconst 1, 1) := by decide +kernel
theorem d_rl_answerFor_61 : decode prog_9_method_6_code 61 = .ok (.isub, 1) := by decide +kernel
theorem d_rl_answerFor_62 : decode prog_9_method_6_code 62 = .ok (.goto (11), 3) := by decide +kernel
theorem d_rl_answerFor_65 : decode prog_9_method_6_code 65 = .ok (.aload_n 0, 1) := by decide +kernel
theorem d_rl_answerFor_66 : decode prog_9_method_6_code 66 = .ok (.getfield 30, 3) := by decide +kernel
theorem d_rl_answerFor_69 : decode prog_9_method_6_code 69 = .ok (.iload_n 1, 1) := by decide +kernel
theorem d_rl_answerFor_70 : decode prog_9_method_6_code 70 = .ok (.iaload, 1) := by decide +kernel
theorem d_rl_answerFor_71 : decode prog_9_method_6_code 71 = .ok (.iconst 1, 1) := by decide +kernel
theorem d_rl_answerFor_72 : decode prog_9_method_6_code 72 = .ok (.isub, 1) := by decide +kernel
theorem d_rl_answerFor_73 : decode prog_9_method_6_code 73 = .ok (.istore_n 3, 1) := by decide +kernel
theorem d_rl_answerFor_74 : decode prog_9_method_6_code 74 = .ok (.iload_n 3, 1) := by decide +kernel
theorem d_rl_answerFor_75 : decode prog_9_method_6_code 75 = .ok (.ifCond .lt (18), 3) := by decide +kernel
theorem d_rl_answerFor_78 : decode prog_9_method_6_code 78 = .ok (.iload_n 3, 1) := by decide +kernel
theorem d_rl_answerFor_79 : decode prog_9_method_6_code 79 = .ok (.bipush 61, 2) := by decide +kernel
theorem d_rl_answerFor_81 : decode prog_9_method_6_code 81 = .ok (.if_icmp .ge (12), 3) := by decide +kernel
theorem d_rl_answerFor_84 : decode prog_9_method_6_code 84 = .ok (.aload_n 0, 1) := by decide +kernel
theorem d_rl_answerFor_85 : decode prog_9_method_6_code 85 = .ok (.getfield 33, 3) := by decide +kernel
theorem d_rl_answerFor_88 : decode prog_9_method_6_code 88 = .ok (.iload_n 3, 1) := by decide +kernel
theorem d_rl_answerFor_89 : decode prog_9_method_6_code 89 = .ok (.iaload, 1) := by decide +kernel
theorem d_rl_answerFor_90 : decode prog_9_method_6_code 90 = .ok (.goto (4), 3) := by decide +kernel
theorem d_rl_answerFor_93 : decode prog_9_method_6_code 93 = .ok (.iconst 0, 1) := by decide +kernel
theorem d_rl_answerFor_94 : decode prog_9_method_6_code 94 = .ok (.ireturn, 1) := by decide +kernel
theorem d_rn_init_0 : decode prog_10_method_1_code 0 = .ok (.aload_n 0, 1) := by decide +kernel
theorem d_rn_init_1 : decode prog_10_method_1_code 1 = .ok (.invokespecial 3, 3) := by decide +kernel
theorem d_rn_init_4 : decode prog_10_method_1_code 4 = .ok (.aload_n 0, 1) := by decide +kernel
theorem d_rn_init_5 : decode prog_10_method_1_code 5 = .ok (.aload_n 1, 1) := by decide +kernel
theorem d_rn_init_6 : decode prog_10_method_1_code 6 = .ok (.putfield 9, 3) := by decide +kernel
theorem d_rn_init_9 : decode prog_10_method_1_code 9 = .ok (.aload_n 0, 1) := by decide +kernel
theorem d_rn_init_10 : decode prog_10_method_1_code 10 = .ok (.aload_n 2, 1) := by decide +kernel
theorem d_rn_init_11 : decode prog_10_method_1_code 11 = .ok (.putfield 15, 3) := by decide +kernel
theorem d_rn_init_14 : decode prog_10_method_1_code 14 = .ok (.aload_n 0, 1) := by decide +kernel
theorem d_rn_init_15 : decode prog_10_method_1_code 15 = .ok (.new 19, 3) := by decide +kernel
theorem d_rn_init_18 : decode prog_10_method_1_code 18 = .ok (.dup, 1) := by decide +kernel
theorem d_rn_init_19 : decode prog_10_method_1_code 19 = .ok (.aload_n 1, 1) := by decide +kernel
theorem d_rn_init_20 : decode prog_10_method_1_code 20 = .ok (.aload_n 2, 1) := by decide +kernel
theorem d_rn_init_21 : decode prog_10_method_1_code 21 = .ok (.invokespecial 21, 3) := by decide +kernel
theorem d_rn_init_24 : decode prog_10_method_1_code 24 = .ok (.putfield 24, 3) := by decide +kernel
theorem d_rn_init_27 : decode prog_10_method_1_code 27 = .ok (.return_, 1) := by decide +kernel
theorem d_rn_iterate_0 : decode prog_10_method_2_code 0 = .ok (.aload_n 0, 1) := by decide +kernel
theorem d_rn_iterate_1 : decode prog_10_method_2_code 1 = .ok (.aload_n 1, 1) := by decide +kernel
theorem d_rn_iterate_2 : decode prog_10_method_2_code 2 = .ok (.putfield 9, 3) := by decide +kernel
theorem d_rn_iterate_5 : decode prog_10_method_2_code 5 = .ok (.aload_n 0, 1) := by decide +kernel
theorem d_rn_iterate_6 : decode prog_10_method_2_code 6 = .ok (.aload_n 3, 1) := by decide +kernel
theorem d_rn_iterate_7 : decode prog_10_method_2_code 7 = .ok (.putfield 15, 3) := by decide +kernel
theorem d_rn_iterate_10 : decode prog_10_method_2_code 10 = .ok (.aload_n 0, 1) := by decide +kernel
theorem d_rn_iterate_11 : decode prog_10_method_2_code 11 = .ok (.getfield 15, 3) := by decide +kernel
theorem d_rn_iterate_14 : decode prog_10_method_2_code 14 = .ok (.invokevirtual 28, 3) := by decide +kernel
theorem d_rn_iterate_17 : decode prog_10_method_2_code 17 = .ok (.aload_n 0, 1) := by decide +kernel
theorem d_rn_iterate_18 : decode prog_10_method_2_code 18 = .ok (.getfield 24, 3) := by decide +kernel
theorem d_rn_iterate_21 : decode prog_10_method_2_code 21 = .ok (.aload_n 0, 1) := by decide +kernel
theorem d_rn_iterate_22 : decode prog_10_method_2_code 22 = .ok (.getfield 9, 3) := by decide +kernel
theorem d_rn_iterate_25 : decode prog_10_method_2_code 25 = .ok (.aload_n 0, 1) := by decide +kernel
theorem d_rn_iterate_26 : decode prog_10_method_2_code 26 = .ok (.getfield 15, 3) := by decide +kernel
theorem d_rn_iterate_29 : decode prog_10_method_2_code 29 = .ok (.invokevirtual 33, 3) := by decide +kernel
theorem d_rn_iterate_32 : decode prog_10_method_2_code 32 = .ok (.aload_n 0, 1) := by decide +kernel
theorem d_rn_iterate_33 : decode prog_10_method_2_code 33 = .ok (.iload_n 2, 1) := by decide +kernel
theorem d_rn_iterate_34 : decode prog_10_method_2_code 34 = .ok (.invokevirtual 35, 3) := by decide +kernel
theorem d_rn_iterate_37 : decode prog_10_method_2_code 37 = .ok (.ifCond .ne (4), 3) := by decide +kernel
theorem d_rn_iterate_40 : decode prog_10_method_2_code 40 = .ok (.return_, 1) := by decide +kernel
theorem d_rn_iterate_41 : decode prog_10_method_2_code 41 = .ok (.aload_n 0, 1) := by decide +kernel
theorem d_rn_iterate_42 : decode prog_10_method_2_code 42 = .ok (.iconst 0, 1) := by decide +kernel
theorem d_rn_iterate_43 : decode prog_10_method_2_code 43 = .ok (.iconst 0, 1) := by decide +kernel
theorem d_rn_iterate_44 : decode prog_10_method_2_code 44 = .ok (.aload_n 0, 1) := by decide +kernel
theorem d_rn_iterate_45 : decode prog_10_method_2_code 45 = .ok (.getfield 9, 3) := by decide +kernel
theorem d_rn_iterate_48 : decode prog_10_method_2_code 48 = .ok (.getfield 39, 3) := by decide +kernel
theorem d_rn_iterate_51 : decode prog_10_method_2_code 51 = .ok (.iconst 0, 1) := by decide +kernel
theorem d_rn_iterate_52 : decode prog_10_method_2_code 52 = .ok (.invokestatic 45, 3) := by decide +kernel
theorem d_rn_iterate_55 : decode prog_10_method_2_code 55 = .ok (.invokevirtual 49, 3) := by decide +kernel
theorem d_rn_iterate_58 : decode prog_10_method_2_code 58 = .ok (.ifCond .ne (10), 3) := by decide +kernel
theorem d_rn_iterate_61 : decode prog_10_method_2_code 61 = .ok (.aload_n 0, 1) := by decide +kernel
theorem d_rn_iterate_62 : decode prog_10_method_2_code 62 = .ok (.invokevirtual 53, 3) := by decide +kernel
theorem d_rn_iterate_65 : decode prog_10_method_2_code 65 = .ok (.ifCond .eq (7), 3) := by decide +kernel
theorem d_rn_iterate_68 : decode prog_10_method_2_code 68 = .ok (.iconst 1, 1) := by decide +kernel
theorem d_rn_iterate_69 : decode prog_10_method_2_code 69 = .ok (.goto (4), 3) := by decide +kernel
theorem d_rn_iterate_72 : decode prog_10_method_2_code 72 = .ok (.iconst 0, 1) := by decide +kernel
theorem d_rn_iterate_73 : decode prog_10_method_2_code 73 = .ok (.istore 4, 2) := by decide +kernel
theorem d_rn_iterate_75 : decode prog_10_method_2_code 75 = .ok (.iconst 0, 1) := by decide +kernel
theorem d_rn_iterate_76 : decode prog_10_method_2_code 76 = .ok (.istore 5, 2) := by decide +kernel
theorem d_rn_iterate_78 : decode prog_10_method_2_code 78 = .ok (.iload 5, 2) := by decide +kernel
theorem d_rn_iterate_80 : decode prog_10_method_2_code 80 = .ok (.aload_n 0, 1) := by decide +kernel
theorem d_rn_iterate_81 : decode prog_10_method_2_code 81 = .ok (.getfield 9, 3) := by decide +kernel
theorem d_rn_iterate_84 : decode prog_10_method_2_code 84 = .ok (.getfield 57, 3) := by decide +kernel
theorem d_rn_iterate_87 : decode prog_10_method_2_code 87 = .ok (.if_icmp .ge (81), 3) := by decide +kernel
theorem d_rn_iterate_90 : decode prog_10_method_2_code 90 = .ok (.iload 4, 2) := by decide +kernel
theorem d_rn_iterate_92 : decode prog_10_method_2_code 92 = .ok (.ifCond .eq (76), 3) := by decide +kernel
theorem d_rn_iterate_95 : decode prog_10_method_2_code 95 = .ok (.aload_n 0, 1) := by decide +kernel
theorem d_rn_iterate_96 : decode prog_10_method_2_code 96 = .ok (.getfield 9, 3) := by decide +kernel
theorem d_rn_iterate_99 : decode prog_10_method_2_code 99 = .ok (.getfield 39, 3) := by decide +kernel
theorem d_rn_iterate_102 : decode prog_10_method_2_code 102 = .ok (.iload 5, 2) := by decide +kernel
theorem d_rn_iterate_104 : decode prog_10_method_2_code 104 = .ok (.invokestatic 45, 3) := by decide +kernel
theorem d_rn_iterate_107 : decode prog_10_method_2_code 107 = .ok (.istore 6, 2) := by decide +kernel
theorem d_rn_iterate_109 : decode prog_10_method_2_code 109 = .ok (.aload_n 0, 1) := by decide +kernel
theorem d_rn_iterate_110 : decode prog_10_method_2_code 110 = .ok (.getfield 9, 3) := by decide +kernel
theorem d_rn_iterate_113 : decode prog_10_method_2_code 113 = .ok (.getfield 39, 3) := by decide +kernel
theorem d_rn_iterate_116 : decode prog_10_method_2_code 116 = .ok (.iload 5, 2) := by decide +kernel
theorem d_rn_iterate_118 : decode prog_10_method_2_code 118 = .ok (.iconst 1, 1) := by decide +kernel
theorem d_rn_iterate_119 : decode prog_10_method_2_code 119 = .ok (.iadd, 1) := by decide +kernel
theorem d_rn_iterate_120 : decode prog_10_method_2_code 120 = .ok (.invokestatic 45, 3) := by decide +kernel
theorem d_rn_iterate_123 : decode prog_10_method_2_code 123 = .ok (.istore 7, 2) := by decide +kernel
theorem d_rn_iterate_125 : decode prog_10_method_2_code 125 = .ok (.aload_n 0, 1) := by decide +kernel
theorem d_rn_iterate_126 : decode prog_10_method_2_code 126 = .ok (.getfield 9, 3) := by decide +kernel
theorem d_rn_iterate_129 : decode prog_10_method_2_code 129 = .ok (.getfield 61, 3) := by decide +kernel
theorem d_rn_iterate_132 : decode prog_10_method_2_code 132 = .ok (.iload 6, 2) := by decide +kernel
theorem d_rn_iterate_134 : decode prog_10_method_2_code 134 = .ok (.invokevirtual 65, 3) := by decide +kernel
theorem d_rn_iterate_137 : decode prog_10_method_2_code 137 = .ok (.iconst 1, 1) := by decide +kernel
theorem d_rn_iterate_138 : decode prog_10_method_2_code 138 = .ok (.if_icmp .ne (14), 3) := by decide +kernel
theorem d_rn_iterate_141 : decode prog_10_method_2_code 141 = .ok (.aload_n 0, 1) := by decide +kernel
theorem d_rn_iterate_142 : decode prog_10_method_2_code 142 = .ok (.iload 6, 2) := by decide +kernel
theorem d_rn_iterate_144 : decode prog_10_method_2_code 144 = .ok (.iload 7, 2) := by decide +kernel
theorem d_rn_iterate_146 : decode prog_10_method_2_code 146 = .ok (.invokevirtual 71, 3) := by decide +kernel
theorem d_rn_iterate_149 : decode prog_10_method_2_code 149 = .ok (.goto (11), 3) := by decide +kernel
theorem d_rn_iterate_152 : decode prog_10_method_2_code 152 = .ok (.aload_n 0, 1) := by decide +kernel
theorem d_rn_iterate_153 : decode prog_10_method_2_code 153 = .ok (.iload 6, 2) := by decide +kernel
theorem d_rn_iterate_155 : decode prog_10_method_2_code 155 = .ok (.iload 7, 2) := by decide +kernel
theorem d_rn_iterate_157 : decode prog_10_method_2_code 157 = .ok (.invokevirtual 75, 3) := by decide +kernel
theorem d_rn_iterate_160 : decode prog_10_method_2_code 160 = .ok (.istore 4, 2) := by decide +kernel
theorem d_rn_iterate_162 : decode prog_10_method_2_code 162 = .ok (.iinc 5 (1), 3) := by decide +kernel
theorem d_rn_iterate_165 : decode prog_10_method_2_code 165 = .ok (.goto (-87), 3) := by decide +kernel
theorem d_rn_iterate_168 : decode prog_10_method_2_code 168 = .ok (.aload_n 0, 1) := by decide +kernel
theorem d_rn_iterate_169 : decode prog_10_method_2_code 169 = .ok (.iconst 2, 1) := by decide +kernel
theorem d_rn_iterate_170 : decode prog_10_method_2_code 170 = .ok (.aload_n 0, 1) := by decide +kernel
theorem d_rn_iterate_171 : decode prog_10_method_2_code 171 = .ok (.getfield 9, 3) := by decide +kernel
theorem d_rn_iterate_174 : decode prog_10_method_2_code 174 = .ok (.getfield 39, 3) := by decide +kernel
theorem d_rn_iterate_177 : decode prog_10_method_2_code 177 = .ok (.aload_n 0, 1) := by decide +kernel
theorem d_rn_iterate_178 : decode prog_10_method_2_code 178 = .ok (.getfield 9, 3) := by decide +kernel
theorem d_rn_iterate_181 : decode prog_10_method_2_code 181 = .ok (.getfield 57, 3) := by decide +kernel
theorem d_rn_iterate_184 : decode prog_10_method_2_code 184 = .ok (.invokestatic 45, 3) := by decide +kernel
theorem d_rn_iterate_187 : decode prog_10_method_2_code 187 = .ok (.aload_n 0, 1) := by decide +kernel
theorem d_rn_iterate_188 : decode prog_10_method_2_code 188 = .ok (.getfield 9, 3) := by decide +kernel
theorem d_rn_iterate_191 : decode prog_10_method_2_code 191 = .ok (.getfield 61, 3) := by decide +kernel
theorem d_rn_iterate_194 : decode prog_10_method_2_code 194 = .ok (.getfield 78, 3) := by decide +kernel
theorem d_rn_iterate_197 : decode prog_10_method_2_code 197 = .ok (.invokevirtual 49, 3) := by decide +kernel
theorem d_rn_iterate_200 : decode prog_10_method_2_code 200 = .ok (.ifCond .ne (8), 3) := by decide +kernel
theorem d_rn_iterate_203 : decode prog_10_method_2_code 203 = .ok (.aload_n 0, 1) := by decide +kernel
theorem d_rn_iterate_204 : decode prog_10_method_2_code 204 = .ok (.invokevirtual 53, 3) := by decide +kernel
theorem d_rn_iterate_207 : decode prog_10_method_2_code 207 = .ok (.pop, 1) := by decide +kernel
theorem d_rn_iterate_208 : decode prog_10_method_2_code 208 = .ok (.return_, 1) := by decide +kernel
theorem d_rn_fill_0 : decode prog_10_method_3_code 0 = .ok (.iload_n 1, 1) := by decide +kernel
theorem d_rn_fill_1 : decode prog_10_method_3_code 1 = .ok (.aload_n 0, 1) := by decide +kernel
theorem d_rn_fill_2 : decode prog_10_method_3_code 2 = .ok (.getfield 9, 3) := by decide +kernel
theorem d_rn_fill_5 : decode prog_10_method_3_code 5 = .ok (.getfield 81, 3) := by decide +kernel
theorem d_rn_fill_8 : decode prog_10_method_3_code 8 = .ok (.if_icmp .lt (5), 3) := by decide +kernel
theorem d_rn_fill_11 : decode prog_10_method_3_code 11 = .ok (.iconst 1, 1) := by decide +kernel
theorem d_rn_fill_12 : decode prog_10_method_3_code 12 = .ok (.ireturn, 1) := by decide +kernel
theorem d_rn_fill_13 : decode prog_10_method_3_code 13 = .ok (.aload_n 0, 1) := by decide +kernel
theorem d_rn_fill_14 : decode prog_10_method_3_code 14 = .ok (.getfield 9, 3) := by decide +kernel
theorem d_rn_fill_17 : decode prog_10_method_3_code 17 = .ok (.getfield 61, 3) := by decide +kernel
theorem d_rn_fill_20 : decode prog_10_method_3_code 20 = .ok (.astore_n 2, 1) := by decide +kernel
theorem d_rn_fill_21 : decode prog_10_method_3_code 21 = .ok (.iconst 0, 1) := by decide +kernel
theorem d_rn_fill_22 : decode prog_10_method_3_code 22 = .ok (.istore_n 3, 1) := by decide +kernel
theorem d_rn_fill_23 : decode prog_10_method_3_code 23 = .ok (.iload_n 3, 1) := by decide +kernel
theorem d_rn_fill_24 : decode prog_10_method_3_code 24 = .ok (.aload_n 0, 1) := by decide +kernel
theorem d_rn_fill_25 : decode prog_10_method_3_code 25 = .ok (.getfield 9, 3) := by decide +kernel
theorem d_rn_fill_28 : decode prog_10_method_3_code 28 = .ok (.getfield 84, 3) := by decide +kernel
theorem d_rn_fill_31 : decode prog_10_method_3_code 31 = .ok (.if_icmp .ge (85), 3) := by decide +kernel
theorem d_rn_fill_34 : decode prog_10_method_3_code 34 = .ok (.aload_n 0, 1) := by decide +kernel
theorem d_rn_fill_35 : decode prog_10_method_3_code 35 = .ok (.getfield 9, 3) := by decide +kernel
theorem d_rn_fill_38 : decode prog_10_method_3_code 38 = .ok (.getfield 87, 3) := by decide +kernel
theorem d_rn_fill_41 : decode prog_10_method_3_code 41 = .ok (.iload_n 1, 1) := by decide +kernel
theorem d_rn_fill_42 : decode prog_10_method_3_code 42 = .ok (.invokestatic 45, 3) := by decide +kernel
theorem d_rn_fill_45 : decode prog_10_method_3_code 45 = .ok (.iload_n 3, 1) := by decide +kernel
theorem d_rn_fill_46 : decode prog_10_method_3_code 46 = .ok (.iadd, 1) := by decide +kernel
theorem d_rn_fill_47 : decode prog_10_method_3_code 47 = .ok (.istore 4, 2) := by decide +kernel
theorem d_rn_fill_49 : decode prog_10_method_3_code 49 = .ok (.aload_n 0, 1) := by decide +kernel
theorem d_rn_fill_50 : decode prog_10_method_3_code 50 = .ok (.getfield 24, 3) := by decide +kernel
theorem d_rn_fill_53 : decode prog_10_method_3_code 53 = .ok (.aload_n 2, 1) := by decide +kernel
theorem d_rn_fill_54 : decode prog_10_method_3_code 54 = .ok (.getfield 90, 3) := by decide +kernel
theorem d_rn_fill_57 : decode prog_10_method_3_code 57 = .ok (.iload 4, 2) := by decide +kernel
theorem d_rn_fill_59 : decode prog_10_method_3_code 59 = .ok (.invokestatic 45, 3) := by decide +kernel
theorem d_rn_fill_62 : decode prog_10_method_3_code 62 = .ok (.aload_n 2, 1) := by decide +kernel
theorem d_rn_fill_63 : decode prog_10_method_3_code 63 = .ok (.getfield 93, 3) := by decide +kernel
theorem d_rn_fill_66 : decode prog_10_method_3_code 66 = .ok (.iload 4, 2) := by decide +kernel
theorem d_rn_fill_68 : decode prog_10_method_3_code 68 = .ok (.invokestatic 45, 3) := by decide +kernel
theorem d_rn_fill_71 : decode prog_10_method_3_code 71 = .ok (.invokevirtual 96, 3) := by decide +kernel
theorem d_rn_fill_74 : decode prog_10_method_3_code 74 = .ok (.ifCond .ne (8), 3) := by decide +kernel
theorem d_rn_fill_77 : decode prog_10_method_3_code 77 = .ok (.aload_n 0, 1) := by decide +kernel
theorem d_rn_fill_78 : decode prog_10_method_3_code 78 = .ok (.invokevirtual 53, 3) := by decide +kernel
theorem d_rn_fill_81 : decode prog_10_method_3_code 81 = .ok (.ireturn, 1) := by decide +kernel
theorem d_rn_fill_82 : decode prog_10_method_3_code 82 = .ok (.aload_n 0, 1) := by decide +kernel
theorem d_rn_fill_83 : decode prog_10_method_3_code 83 = .ok (.getfield 15, 3) := by decide +kernel
theorem d_rn_fill_86 : decode prog_10_method_3_code 86 = .ok (.getfield 99, 3) := by decide +kernel
theorem d_rn_fill_89 : decode prog_10_method_3_code 89 = .ok (.aload_n 0, 1) := by decide +kernel
theorem d_rn_fill_90 : decode prog_10_method_3_code 90 = .ok (.getfield 9, 3) := by decide +kernel
theorem d_rn_fill_93 : decode prog_10_method_3_code 93 = .ok (.getfield 102, 3) := by decide +kernel
theorem d_rn_fill_96 : decode prog_10_method_3_code 96 = .ok (.iload_n 3, 1) := by decide +kernel
theorem d_rn_fill_97 : decode prog_10_method_3_code 97 = .ok (.invokestatic 45, 3) := by decide +kernel
theorem d_rn_fill_100 : decode prog_10_method_3_code 100 = .ok (.aload_n 0, 1) := by decide +kernel
theorem d_rn_fill_101 : decode prog_10_method_3_code 101 = .ok (.getfield 24, 3) := by decide +kernel
theorem d_rn_fill_104 : decode prog_10_method_3_code 104 = .ok (.getfield 105, 3) := by decide +kernel
theorem d_rn_fill_107 : decode prog_10_method_3_code 107 = .ok (.invokestatic 108, 3) := by decide +kernel
theorem d_rn_fill_110 : decode prog_10_method_3_code 110 = .ok (.iinc 3 (1), 3) := by decide +kernel
theorem d_rn_fill_113 : decode prog_10_method_3_code 113 = .ok (.goto (-90), 3) := by decide +kernel
theorem d_rn_fill_116 : decode prog_10_method_3_code 116 = .ok (.iconst 1, 1) := by decide +kernel
theorem d_rn_fill_117 : decode prog_10_method_3_code 117 = .ok (.ireturn, 1) := by decide +kernel
theorem d_rn_steps_0 : decode prog_10_method_4_code 0 = .ok (.aload_n 0, 1) := by decide +kernel
theorem d_rn_steps_1 : decode prog_10_method_4_code 1 = .ok (.getfield 9, 3) := by decide +kernel
theorem d_rn_steps_4 : decode prog_10_method_4_code 4 = .ok (.getfield 61, 3) := by decide +kernel
theorem d_rn_steps_7 : decode prog_10_method_4_code 7 = .ok (.astore 4, 2) := by decide +kernel
theorem d_rn_steps_9 : decode prog_10_method_4_code 9 = .ok (.iload_n 2, 1) := by decide +kernel
theorem d_rn_steps_10 : decode prog_10_method_4_code 10 = .ok (.istore 5, 2) := by decide +kernel
theorem d_rn_steps_12 : decode prog_10_method_4_code 12 = .ok (.iload 5, 2) := by decide +kernel
theorem d_rn_steps_14 : decode prog_10_method_4_code 14 = .ok (.iload_n 3, 1) := by decide +kernel
theorem d_rn_steps_15 : decode prog_10_method_4_code 15 = .ok (.if_icmp .ge (79), 3) := by decide +kernel
theorem d_rn_steps_18 : decode prog_10_method_4_code 18 = .ok (.aload 4, 2) := by decide +kernel
theorem d_rn_steps_20 : decode prog_10_method_4_code 20 = .ok (.iload 5, 2) := by decide +kernel
theorem d_rn_steps_22 : decode prog_10_method_4_code 22 = .ok (.invokevirtual 65, 3) := by decide +kernel
theorem d_rn_steps_25 : decode prog_10_method_4_code 25 = .ok (.iload_n 1, 1) := by decide +kernel
theorem d_rn_steps_26 : decode prog_10_method_4_code 26 = .ok (.if_icmp .ne (62), 3) := by decide +kernel
theorem d_rn_steps_29 : decode prog_10_method_4_code 29 = .ok (.aload_n 0, 1) := by decide +kernel
theorem d_rn_steps_30 : decode prog_10_method_4_code 30 = .ok (.getfield 24, 3) := by decide +kernel
theorem d_rn_steps_33 : decode prog_10_method_4_code 33 = .ok (.aload 4, 2) := by decide +kernel
theorem d_rn_steps_35 : decode prog_10_method_4_code 35 = .ok (.getfield 90, 3) := by decide +kernel
theorem d_rn_steps_38 : decode prog_10_method_4_code 38 = .ok (.iload 5, 2) := by decide +kernel
theorem d_rn_steps_40 : decode prog_10_method_4_code 40 = .ok (.invokestatic 45, 3) := by decide +kernel
theorem d_rn_steps_43 : decode prog_10_method_4_code 43 = .ok (.aload 4, 2) := by decide +kernel
theorem d_rn_steps_45 : decode prog_10_method_4_code 45 = .ok (.getfield 93, 3) := by decide +kernel
theorem d_rn_steps_48 : decode prog_10_method_4_code 48 = .ok (.iload 5, 2) := by decide +kernel
theorem d_rn_steps_50 : decode prog_10_method_4_code 50 = .ok (.invokestatic 45, 3) := by decide +kernel
theorem d_rn_steps_53 : decode prog_10_method_4_code 53 = .ok (.invokevirtual 96, 3) := by decide +kernel
theorem d_rn_steps_56 : decode prog_10_method_4_code 56 = .ok (.ifCond .ne (5), 3) := by decide +kernel
theorem d_rn_steps_59 : decode prog_10_method_4_code 59 = .ok (.iconst 0, 1) := by decide +kernel
theorem d_rn_steps_60 : decode prog_10_method_4_code 60 = .ok (.ireturn, 1) := by decide +kernel
theorem d_rn_steps_61 : decode prog_10_method_4_code 61 = .ok (.aload_n 0, 1) := by decide +kernel
theorem d_rn_steps_62 : decode prog_10_method_4_code 62 = .ok (.getfield 15, 3) := by decide +kernel
theorem d_rn_steps_65 : decode prog_10_method_4_code 65 = .ok (.getfield 99, 3) := by decide +kernel
theorem d_rn_steps_68 : decode prog_10_method_4_code 68 = .ok (.aload 4, 2) := by decide +kernel
theorem d_rn_steps_70 : decode prog_10_method_4_code 70 = .ok (.getfield 112, 3) := by decide +kernel
theorem d_rn_steps_73 : decode prog_10_method_4_code 73 = .ok (.iload 5, 2) := by decide +kernel
theorem d_rn_steps_75 : decode prog_10_method_4_code 75 = .ok (.invokestatic 45, 3) := by decide +kernel
theorem d_rn_steps_78 : decode prog_10_method_4_code 78 = .ok (.aload_n 0, 1) := by decide +kernel
theorem d_rn_steps_79 : decode prog_10_method_4_code 79 = .ok (.getfield 24, 3) := by decide +kernel
theorem d_rn_steps_82 : decode prog_10_method_4_code 82 = .ok (.getfield 105, 3) := by decide +kernel
theorem d_rn_steps_85 : decode prog_10_method_4_code 85 = .ok (.invokestatic 108, 3) := by decide +kernel
theorem d_rn_steps_88 : decode prog_10_method_4_code 88 = .ok (.iinc 5 (1), 3) := by decide +kernel
theorem d_rn_steps_91 : decode prog_10_method_4_code 91 = .ok (.goto (-79), 3) := by decide +kernel
theorem d_rn_steps_94 : decode prog_10_method_4_code 94 = .ok (.iconst 1, 1) := by decide +kernel
theorem d_rn_steps_95 : decode prog_10_method_4_code 95 = .ok (.ireturn, 1) := by decide +kernel
theorem d_rn_expect_0 : decode prog_10_method_5_code 0 = .ok (.iload_n 1, 1) := by decide +kernel
theorem d_rn_expect_1 : decode prog_10_method_5_code 1 = .ok (.istore_n 3, 1) := by decide +kernel
theorem d_rn_expect_2 : decode prog_10_method_5_code 2 = .ok (.iload_n 3, 1) := by decide +kernel
theorem d_rn_expect_3 : decode prog_10_method_5_code 3 = .ok (.iload_n 2, 1) := by decide +kernel
theorem d_rn_expect_4 : decode prog_10_method_5_code 4 = .ok (.if_icmp .ge (19), 3) := by decide +kernel
theorem d_rn_expect_7 : decode prog_10_method_5_code 7 = .ok (.aload_n 0, 1) := by decide +kernel
theorem d_rn_expect_8 : decode prog_10_method_5_code 8 = .ok (.iload_n 3, 1) := by decide +kernel
theorem d_rn_expect_9 : decode prog_10_method_5_code 9 = .ok (.invokevirtual 115, 3) := by decide +kernel
theorem d_rn_expect_12 : decode prog_10_method_5_code 12 = .ok (.ifCond .ne (5), 3) := by decide +kernel
theorem d_rn_expect_15 : decode prog_10_method_5_code 15 = .ok (.iconst 0, 1) := by decide +kernel
theorem d_rn_expect_16 : decode prog_10_method_5_code 16 = .ok (.ireturn, 1) := by decide +kernel
theorem d_rn_expect_17 : decode prog_10_method_5_code 17 = .ok (.iinc 3 (1), 3) := by decide +kernel
theorem d_rn_expect_20 : decode prog_10_method_5_code 20 = .ok (.goto (-18), 3) := by decide +kernel
theorem d_rn_expect_23 : decode prog_10_method_5_code 23 = .ok (.iconst 1, 1) := by decide +kernel
theorem d_rn_expect_24 : decode prog_10_method_5_code 24 = .ok (.ireturn, 1) := by decide +kernel
theorem d_rn_whenAndThen_0 : decode prog_10_method_6_code 0 = .ok (.aload_n 0, 1) := by decide +kernel
theorem d_rn_whenAndThen_1 : decode prog_10_method_6_code 1 = .ok (.iload_n 1, 1) := by decide +kernel
theorem d_rn_whenAndThen_2 : decode prog_10_method_6_code 2 = .ok (.iload_n 2, 1) := by decide +kernel
theorem d_rn_whenAndThen_3 : decode prog_10_method_6_code 3 = .ok (.invokevirtual 118, 3) := by decide +kernel
theorem d_rn_whenAndThen_6 : decode prog_10_method_6_code 6 = .ok (.ifCond .ne (8), 3) := by decide +kernel
theorem d_rn_whenAndThen_9 : decode prog_10_method_6_code 9 = .ok (.aload_n 0, 1) := by decide +kernel
theorem d_rn_whenAndThen_10 : decode prog_10_method_6_code 10 = .ok (.invokevirtual 53, 3) := by decide +kernel
theorem d_rn_whenAndThen_13 : decode prog_10_method_6_code 13 = .ok (.ireturn, 1) := by decide +kernel
theorem d_rn_whenAndThen_14 : decode prog_10_method_6_code 14 = .ok (.aload_n 0, 1) := by decide +kernel
theorem d_rn_whenAndThen_15 : decode prog_10_method_6_code 15 = .ok (.getfield 24, 3) := by decide +kernel
theorem d_rn_whenAndThen_18 : decode prog_10_method_6_code 18 = .ok (.iload_n 1, 1) := by decide +kernel
theorem d_rn_whenAndThen_19 : decode prog_10_method_6_code 19 = .ok (.iload_n 2, 1) := by decide +kernel
theorem d_rn_whenAndThen_20 : decode prog_10_method_6_code 20 = .ok (.invokevirtual 121, 3) := by decide +kernel
theorem d_rn_whenAndThen_23 : decode prog_10_method_6_code 23 = .ok (.aload_n 0, 1) := by decide +kernel
theorem d_rn_whenAndThen_24 : decode prog_10_method_6_code 24 = .ok (.iconst 1, 1) := by decide +kernel
theorem d_rn_whenAndThen_25 : decode prog_10_method_6_code 25 = .ok (.iload_n 1, 1) := by decide +kernel
theorem d_rn_whenAndThen_26 : decode prog_10_method_6_code 26 = .ok (.iload_n 2, 1) := by decide +kernel
theorem d_rn_whenAndThen_27 : decode prog_10_method_6_code 27 = .ok (.invokevirtual 49, 3) := by decide +kernel
theorem d_rn_whenAndThen_30 : decode prog_10_method_6_code 30 = .ok (.istore_n 3, 1) := by decide +kernel
theorem d_rn_whenAndThen_31 : decode prog_10_method_6_code 31 = .ok (.aload_n 0, 1) := by decide +kernel
theorem d_rn_whenAndThen_32 : decode prog_10_method_6_code 32 = .ok (.getfield 24, 3) := by decide +kernel
theorem d_rn_whenAndThen_35 : decode prog_10_method_6_code 35 = .ok (.invokevirtual 125, 3) := by decide +kernel
theorem d_rn_whenAndThen_38 : decode prog_10_method_6_code 38 = .ok (.iload_n 3, 1) := by decide +kernel
theorem d_rn_whenAndThen_39 : decode prog_10_method_6_code 39 = .ok (.ifCond .ne (29), 3) := by decide +kernel
theorem d_rn_whenAndThen_42 : decode prog_10_method_6_code 42 = .ok (.aload_n 0, 1) := by decide +kernel
theorem d_rn_whenAndThen_43 : decode prog_10_method_6_code 43 = .ok (.getfield 24, 3) := by decide +kernel
theorem d_rn_whenAndThen_46 : decode prog_10_method_6_code 46 = .ok (.getfield 128, 3) := by decide +kernel
theorem d_rn_whenAndThen_49 : decode prog_10_method_6_code 49 = .ok (.iconst 3, 1) := by decide +kernel
theorem d_rn_whenAndThen_50 : decode prog_10_method_6_code 50 = .ok (.if_icmp .ne (13), 3) := by decide +kernel
theorem d_rn_whenAndThen_53 : decode prog_10_method_6_code 53 = .ok (.aload_n 0, 1) := by decide +kernel
theorem d_rn_whenAndThen_54 : decode prog_10_method_6_code 54 = .ok (.iconst 5, 1) := by decide +kernel
theorem d_rn_whenAndThen_55 : decode prog_10_method_6_code 55 = .ok (.iload_n 1, 1) := by decide +kernel
theorem d_rn_whenAndThen_56 : decode prog_10_method_6_code 56 = .ok (.iload_n 2, 1) := by decide +kernel
theorem d_rn_whenAndThen_57 : decode prog_10_method_6_code 57 = .ok (.invokevirtual 131, 3) := by decide +kernel
theorem d_rn_whenAndThen_60 : decode prog_10_method_6_code 60 = .ok (.ifCond .ne (8), 3) := by decide +kernel
theorem d_rn_whenAndThen_63 : decode prog_10_method_6_code 63 = .ok (.aload_n 0, 1) := by decide +kernel
theorem d_rn_whenAndThen_64 : decode prog_10_method_6_code 64 = .ok (.invokevirtual 53, 3) := by decide +kernel
theorem d_rn_whenAndThen_67 : decode prog_10_method_6_code 67 = .ok (.ireturn, 1) := by decide +kernel
theorem d_rn_whenAndThen_68 : decode prog_10_method_6_code 68 = .ok (.iload_n 1, 1) := by decide +kernel
theorem d_rn_whenAndThen_69 : decode prog_10_method_6_code 69 = .ok (.istore 4, 2) := by decide +kernel
theorem d_rn_whenAndThen_71 : decode prog_10_method_6_code 71 = .ok (.iload 4, 2) := by decide +kernel
theorem d_rn_whenAndThen_73 : decode prog_10_method_6_code 73 = .ok (.iload_n 2, 1) := by decide +kernel
theorem d_rn_whenAndThen_74 : decode prog_10_method_6_code 74 = .ok (.if_icmp .ge (50), 3) := by decide +kernel
theorem d_rn_whenAndThen_77 : decode prog_10_method_6_code 77 = .ok (.aload_n 0, 1) := by decide +kernel
theorem d_rn_whenAndThen_78 : decode prog_10_method_6_code 78 = .ok (.getfield 9, 3) := by decide +kernel
theorem d_rn_whenAndThen_81 : decode prog_10_method_6_code 81 = .ok (.getfield 61, 3) := by decide +kernel
theorem d_rn_whenAndThen_84 : decode prog_10_method_6_code 84 = .ok (.iload 4, 2) := by decide +kernel
theorem d_rn_whenAndThen_86 : decode prog_10_method_6_code 86 = .ok (.invokevirtual 65, 3) := by decide +kernel
theorem d_rn_whenAndThen_89 : decode prog_10_method_6_code 89 = .ok (.iconst 4, 1) := by decide +kernel
theorem d_rn_whenAndThen_90 : decode prog_10_method_6_code 90 = .ok (.if_icmp .ne (12), 3) := by decide +kernel
theorem d_rn_whenAndThen_93 : decode prog_10_method_6_code 93 = .ok (.aload_n 0, 1) := by decide +kernel
theorem d_rn_whenAndThen_94 : decode prog_10_method_6_code 94 = .ok (.iload 4, 2) := by decide +kernel
theorem d_rn_whenAndThen_96 : decode prog_10_method_6_code 96 = .ok (.invokevirtual 115, 3) := by decide +kernel
theorem d_rn_whenAndThen_99 : decode prog_10_method_6_code 99 = .ok (.goto (10), 3) := by decide +kernel
theorem d_rn_whenAndThen_102 : decode prog_10_method_6_code 102 = .ok (.aload_n 0, 1) := by decide +kernel
theorem d_rn_whenAndThen_103 : decode prog_10_method_6_code 103 = .ok (.iload 4, 2) := by decide +kernel
theorem d_rn_whenAndThen_105 : decode prog_10_method_6_code 105 = .ok (.iload_n 3, 1) := by decide +kernel
theorem d_rn_whenAndThen_106 : decode prog_10_method_6_code 106 = .ok (.invokevirtual 134, 3) := by decide +kernel
theorem d_rn_whenAndThen_109 : decode prog_10_method_6_code 109 = .ok (.istore 5, 2) := by decide +kernel
theorem d_rn_whenAndThen_111 : decode prog_10_method_6_code 111 = .ok (.iload 5, 2) := by decide +kernel
theorem d_rn_whenAndThen_113 : decode prog_10_method_6_code 113 = .ok (.ifCond .ne (5), 3) := by decide +kernel
theorem d_rn_whenAndThen_116 : decode prog_10_method_6_code 116 = .ok (.iconst 0, 1) := by decide +kernel
theorem d_rn_whenAndThen_117 : decode prog_10_method_6_code 117 = .ok (.ireturn, 1) := by decide +kernel
theorem d_rn_whenAndThen_118 : decode prog_10_method_6_code 118 = .ok (.iinc 4 (1), 3) := by decide +kernel
theorem d_rn_whenAndThen_121 : decode prog_10_method_6_code 121 = .ok (.goto (-50), 3) := by decide +kernel
theorem d_rn_whenAndThen_124 : decode prog_10_method_6_code 124 = .ok (.aload_n 0, 1) := by decide +kernel
theorem d_rn_whenAndThen_125 : decode prog_10_method_6_code 125 = .ok (.iload_n 1, 1) := by decide +kernel
theorem d_rn_whenAndThen_126 : decode prog_10_method_6_code 126 = .ok (.iload_n 2, 1) := by decide +kernel
theorem d_rn_whenAndThen_127 : decode prog_10_method_6_code 127 = .ok (.invokevirtual 138, 3) := by decide +kernel
theorem d_rn_whenAndThen_130 : decode prog_10_method_6_code 130 = .ok (.ireturn, 1) := by decide +kernel
theorem d_rn_remember_0 : decode prog_10_method_7_code 0 = .ok (.aload_n 0, 1) := by decide +kernel
theorem d_rn_remember_1 : decode prog_10_method_7_code 1 = .ok (.getfield 9, 3) := by decide +kernel
theorem d_rn_remember_4 : decode prog_10_method_7_code 4 = .ok (.getfield 141, 3) := by decide +kernel
theorem d_rn_remember_7 : decode prog_10_method_7_code 7 = .ok (.astore_n 3, 1) := by decide +kernel
theorem d_rn_remember_8 : decode prog_10_method_7_code 8 = .ok (.aload_n 0, 1) := by decide +kernel
theorem d_rn_remember_9 : decode prog_10_method_7_code 9 = .ok (.getfield 9, 3) := by decide +kernel
theorem d_rn_remember_12 : decode prog_10_method_7_code 12 = .ok (.getfield 61, 3) := by decide +kernel
theorem d_rn_remember_15 : decode prog_10_method_7_code 15 = .ok (.getfield 93, 3) := by decide +kernel
theorem d_rn_remember_18 : decode prog_10_method_7_code 18 = .ok (.iload_n 2, 1) := by decide +kernel
theorem d_rn_remember_19 : decode prog_10_method_7_code 19 = .ok (.iconst 1, 1) := by decide +kernel
theorem d_rn_remember_20 : decode prog_10_method_7_code 20 = .ok (.isub, 1) := by decide +kernel
theorem d_rn_remember_21 : decode prog_10_method_7_code 21 = .ok (.invokestatic 45, 3) := by decide +kernel
theorem d_rn_remember_24 : decode prog_10_method_7_code 24 = .ok (.istore 4, 2) := by decide +kernel
theorem d_rn_remember_26 : decode prog_10_method_7_code 26 = .ok (.aload_n 0, 1) := by decide +kernel
theorem d_rn_remember_27 : decode prog_10_method_7_code 27 = .ok (.getfield 9, 3) := by decide +kernel
theorem d_rn_remember_30 : decode prog_10_method_7_code 30 = .ok (.getfield 61, 3) := by decide +kernel
theorem d_rn_remember_33 : decode prog_10_method_7_code 33 = .ok (.getfield 90, 3) := by decide +kernel
theorem d_rn_remember_36 : decode prog_10_method_7_code 36 = .ok (.iload_n 1, 1) := by decide +kernel
theorem d_rn_remember_37 : decode prog_10_method_7_code 37 = .ok (.invokestatic 45, 3) := by decide +kernel
theorem d_rn_remember_40 : decode prog_10_method_7_code 40 = .ok (.istore 5, 2) := by decide +kernel
theorem d_rn_remember_42 : decode prog_10_method_7_code 42 = .ok (.iload 5, 2) := by decide +kernel
theorem d_rn_remember_44 : decode prog_10_method_7_code 44 = .ok (.iload 4, 2) := by decide +kernel
theorem d_rn_remember_46 : decode prog_10_method_7_code 46 = .ok (.if_icmp .ge (66), 3) := by decide +kernel
theorem d_rn_remember_49 : decode prog_10_method_7_code 49 = .ok (.aload_n 3, 1) := by decide +kernel
theorem d_rn_remember_50 : decode prog_10_method_7_code 50 = .ok (.getfield 145, 3) := by decide +kernel
theorem d_rn_remember_53 : decode prog_10_method_7_code 53 = .ok (.iload 5, 2) := by decide +kernel
theorem d_rn_remember_55 : decode prog_10_method_7_code 55 = .ok (.invokestatic 45, 3) := by decide +kernel
theorem d_rn_remember_58 : decode prog_10_method_7_code 58 = .ok (.iconst 5, 1) := by decide +kernel
theorem d_rn_remember_59 : decode prog_10_method_7_code 59 = .ok (.if_icmp .ne (47), 3) := by decide +kernel
theorem d_rn_remember_62 : decode prog_10_method_7_code 62 = .ok (.aload_n 0, 1) := by decide +kernel
theorem d_rn_remember_63 : decode prog_10_method_7_code 63 = .ok (.getfield 24, 3) := by decide +kernel
theorem d_rn_remember_66 : decode prog_10_method_7_code 66 = .ok (.iload 5, 2) := by decide +kernel
theorem d_rn_remember_68 : decode prog_10_method_7_code 68 = .ok (.iconst 1, 1) := by decide +kernel
theorem d_rn_remember_69 : decode prog_10_method_7_code 69 = .ok (.iadd, 1) := by decide +kernel
theorem d_rn_remember_70 : decode prog_10_method_7_code 70 = .ok (.aload_n 3, 1) := by decide +kernel
theorem d_rn_remember_71 : decode prog_10_method_7_code 71 = .ok (.getfield 150, 3) := by decide +kernel
theorem d_rn_remember_74 : decode prog_10_method_7_code 74 = .ok (.iload 5, 2) := by decide +kernel
theorem d_rn_remember_76 : decode prog_10_method_7_code 76 = .ok (.invokestatic 45, 3) := by decide +kernel
theorem d_rn_remember_79 : decode prog_10_method_7_code 79 = .ok (.invokevirtual 96, 3) := by decide +kernel
theorem d_rn_remember_82 : decode prog_10_method_7_code 82 = .ok (.ifCond .ne (5), 3) := by decide +kernel
theorem d_rn_remember_85 : decode prog_10_method_7_code 85 = .ok (.iconst 0, 1) := by decide +kernel
theorem d_rn_remember_86 : decode prog_10_method_7_code 86 = .ok (.ireturn, 1) := by decide +kernel
theorem d_rn_remember_87 : decode prog_10_method_7_code 87 = .ok (.aload_n 0, 1) := by decide +kernel
theorem d_rn_remember_88 : decode prog_10_method_7_code 88 = .ok (.getfield 24, 3) := by decide +kernel
theorem d_rn_remember_91 : decode prog_10_method_7_code 91 = .ok (.getfield 153, 3) := by decide +kernel
theorem d_rn_remember_94 : decode prog_10_method_7_code 94 = .ok (.iload 5, 2) := by decide +kernel
theorem d_rn_remember_96 : decode prog_10_method_7_code 96 = .ok (.aload_n 0, 1) := by decide +kernel
theorem d_rn_remember_97 : decode prog_10_method_7_code 97 = .ok (.getfield 24, 3) := by decide +kernel
theorem d_rn_remember_100 : decode prog_10_method_7_code 100 = .ok (.getfield 105, 3) := by decide +kernel
theorem d_rn_remember_103 : decode prog_10_method_7_code 103 = .ok (.invokestatic 108, 3) := by decide +kernel
theorem d_rn_remember_106 : decode prog_10_method_7_code 106 = .ok (.iinc 5 (1), 3) := by decide +kernel
theorem d_rn_remember_109 : decode prog_10_method_7_code 109 = .ok (.goto (-67), 3) := by decide +kernel
theorem d_rn_remember_112 : decode prog_10_method_7_code 112 = .ok (.iconst 1, 1) := by decide +kernel
theorem d_rn_remember_113 : decode prog_10_method_7_code 113 = .ok (.ireturn, 1) := by decide +kernel
theorem d_rn_has_0 : decode prog_10_method_8_code 0 = .ok (.iload_n 2, 1) := by decide +kernel
theorem d_rn_has_1 : decode prog_10_method_8_code 1 = .ok (.istore 4, 2) := by decide +kernel
theorem d_rn_has_3 : decode prog_10_method_8_code 3 = .ok (.iload 4, 2) := by decide +kernel
theorem d_rn_has_5 : decode prog_10_method_8_code 5 = .ok (.iload_n 3, 1) := by decide +kernel
theorem d_rn_has_6 : decode prog_10_method_8_code 6 = .ok (.if_icmp .ge (27), 3) := by decide +kernel
theorem d_rn_has_9 : decode prog_10_method_8_code 9 = .ok (.aload_n 0, 1) := by decide +kernel
theorem d_rn_has_10 : decode prog_10_method_8_code 10 = .ok (.getfield 9, 3) := by decide +kernel
theorem d_rn_has_13 : decode prog_10_method_8_code 13 = .ok (.getfield 61, 3) := by decide +kernel
theorem d_rn_has_16 : decode prog_10_method_8_code 16 = .ok (.iload 4, 2) := by decide +kernel
theorem d_rn_has_18 : decode prog_10_method_8_code 18 = .ok (.invokevirtual 65, 3) := by decide +kernel
theorem d_rn_has_21 : decode prog_10_method_8_code 21 = .ok (.iload_n 1, 1) := by decide +kernel
theorem d_rn_has_22 : decode prog_10_method_8_code 22 = .ok (.if_icmp .ne (5), 3) := by decide +kernel
theorem d_rn_has_25 : decode prog_10_method_8_code 25 = .ok (.iconst 1, 1) := by decide +kernel
theorem d_rn_has_26 : decode prog_10_method_8_code 26 = .ok (.ireturn, 1) := by decide +kernel
theorem d_rn_has_27 : decode prog_10_method_8_code 27 = .ok (.iinc 4 (1), 3) := by decide +kernel
theorem d_rn_has_30 : decode prog_10_method_8_code 30 = .ok (.goto (-27), 3) := by decide +kernel
theorem d_rn_has_33 : decode prog_10_method_8_code 33 = .ok (.iconst 0, 1) := by decide +kernel
theorem d_rn_has_34 : decode prog_10_method_8_code 34 = .ok (.ireturn, 1) := by decide +kernel
theorem d_rn_suits_0 : decode prog_10_method_9_code 0 = .ok (.aload_n 0, 1) := by decide +kernel
theorem d_rn_suits_1 : decode prog_10_method_9_code 1 = .ok (.getfield 9, 3) := by decide +kernel
theorem d_rn_suits_4 : decode prog_10_method_9_code 4 = .ok (.getfield 61, 3) := by decide +kernel
theorem d_rn_suits_7 : decode prog_10_method_9_code 7 = .ok (.iload_n 1, 1) := by decide +kernel
theorem d_rn_suits_8 : decode prog_10_method_9_code 8 = .ok (.invokevirtual 65, 3) := by decide +kernel
theorem d_rn_suits_11 : decode prog_10_method_9_code 11 = .ok (.istore_n 3, 1) := by decide +kernel
theorem d_rn_suits_12 : decode prog_10_method_9_code 12 = .ok (.iload_n 3, 1) := by decide +kernel
theorem d_rn_suits_13 : decode prog_10_method_9_code 13 = .ok (.iload_n 2, 1) := by decide +kernel
theorem d_rn_suits_14 : decode prog_10_method_9_code 14 = .ok (.ifCond .eq (7), 3) := by decide +kernel
theorem d_rn_suits_17 : decode prog_10_method_9_code 17 = .ok (.iconst 5, 1) := by decide +kernel
theorem d_rn_suits_18 : decode prog_10_method_9_code 18 = .ok (.goto (5), 3) := by decide +kernel
theorem d_rn_suits_21 : decode prog_10_method_9_code 21 = .ok (.bipush 6, 2) := by decide +kernel
theorem d_rn_suits_23 : decode prog_10_method_9_code 23 = .ok (.if_icmp .ne (24), 3) := by decide +kernel
theorem d_rn_suits_26 : decode prog_10_method_9_code 26 = .ok (.aload_n 0, 1) := by decide +kernel
theorem d_rn_suits_27 : decode prog_10_method_9_code 27 = .ok (.getfield 15, 3) := by decide +kernel
theorem d_rn_suits_30 : decode prog_10_method_9_code 30 = .ok (.iconst 1, 1) := by decide +kernel
theorem d_rn_suits_31 : decode prog_10_method_9_code 31 = .ok (.aload_n 0, 1) := by decide +kernel
theorem d_rn_suits_32 : decode prog_10_method_9_code 32 = .ok (.getfield 9, 3) := by decide +kernel
theorem d_rn_suits_35 : decode prog_10_method_9_code 35 = .ok (.getfield 61, 3) := by decide +kernel
theorem d_rn_suits_38 : decode prog_10_method_9_code 38 = .ok (.iload_n 1, 1) := by decide +kernel
theorem d_rn_suits_39 : decode prog_10_method_9_code 39 = .ok (.invokevirtual 156, 3) := by decide +kernel
theorem d_rn_suits_42 : decode prog_10_method_9_code 42 = .ok (.invokevirtual 159, 3) := by decide +kernel
theorem d_rn_suits_45 : decode prog_10_method_9_code 45 = .ok (.iconst 0, 1) := by decide +kernel
theorem d_rn_suits_46 : decode prog_10_method_9_code 46 = .ok (.ireturn, 1) := by decide +kernel
theorem d_rn_suits_47 : decode prog_10_method_9_code 47 = .ok (.iconst 1, 1) := by decide +kernel
theorem d_rn_suits_48 : decode prog_10_method_9_code 48 = .ok (.ireturn, 1) := by decide +kernel
theorem d_rn_holds_0 : decode prog_10_method_10_code 0 = .ok (.aload_n 0, 1) := by decide +kernel
theorem d_rn_holds_1 : decode prog_10_method_10_code 1 = .ok (.getfield 24, 3) := by decide +kernel
theorem d_rn_holds_4 : decode prog_10_method_10_code 4 = .ok (.invokevirtual 162, 3) := by decide +kernel
theorem d_rn_holds_7 : decode prog_10_method_10_code 7 = .ok (.aload_n 0, 1) := by decide +kernel
theorem d_rn_holds_8 : decode prog_10_method_10_code 8 = .ok (.getfield 24, 3) := by decide +kernel
theorem d_rn_holds_11 : decode prog_10_method_10_code 11 = .ok (.aload_n 0, 1) := by decide +kernel
theorem d_rn_holds_12 : decode prog_10_method_10_code 12 = .ok (.getfield 9, 3) := by decide +kernel
theorem d_rn_holds_15 : decode prog_10_method_10_code 15 = .ok (.getfield 61, 3) := by decide +kernel
theorem d_rn_holds_18 : decode prog_10_method_10_code 18 = .ok (.getfield 90, 3) := by decide +kernel
theorem d_rn_holds_21 : decode prog_10_method_10_code 21 = .ok (.iload_n 1, 1) := by decide +kernel
theorem d_rn_holds_22 : decode prog_10_method_10_code 22 = .ok (.invokestatic 45, 3) := by decide +kernel
theorem d_rn_holds_25 : decode prog_10_method_10_code 25 = .ok (.aload_n 0, 1) := by decide +kernel
theorem d_rn_holds_26 : decode prog_10_method_10_code 26 = .ok (.getfield 9, 3) := by decide +kernel
theorem d_rn_holds_29 : decode prog_10_method_10_code 29 = .ok (.getfield 61, 3) := by decide +kernel
theorem d_rn_holds_32 : decode prog_10_method_10_code 32 = .ok (.getfield 93, 3) := by decide +kernel
theorem d_rn_holds_35 : decode prog_10_method_10_code 35 = .ok (.iload_n 1, 1) := by decide +kernel
theorem d_rn_holds_36 : decode prog_10_method_10_code 36 = .ok (.invokestatic 45, 3) := by decide +kernel
theorem d_rn_holds_39 : decode prog_10_method_10_code 39 = .ok (.invokevirtual 96, 3) := by decide +kernel
theorem d_rn_holds_42 : decode prog_10_method_10_code 42 = .ok (.ifCond .ne (8), 3) := by decide +kernel
theorem d_rn_holds_45 : decode prog_10_method_10_code 45 = .ok (.aload_n 0, 1) := by decide +kernel
theorem d_rn_holds_46 : decode prog_10_method_10_code 46 = .ok (.invokevirtual 53, 3) := by decide +kernel
theorem d_rn_holds_49 : decode prog_10_method_10_code 49 = .ok (.ireturn, 1) := by decide +kernel
theorem d_rn_holds_50 : decode prog_10_method_10_code 50 = .ok (.aload_n 0, 1) := by decide +kernel
theorem d_rn_holds_51 : decode prog_10_method_10_code 51 = .ok (.getfield 24, 3) := by decide +kernel
theorem d_rn_holds_54 : decode prog_10_method_10_code 54 = .ok (.getfield 105, 3) := by decide +kernel
theorem d_rn_holds_57 : decode prog_10_method_10_code 57 = .ok (.ifCond .eq (5), 3) := by decide +kernel
theorem d_rn_holds_60 : decode prog_10_method_10_code 60 = .ok (.iconst 1, 1) := by decide +kernel
theorem d_rn_holds_61 : decode prog_10_method_10_code 61 = .ok (.ireturn, 1) := by decide +kernel
theorem d_rn_holds_62 : decode prog_10_method_10_code 62 = .ok (.aload_n 0, 1) := by decide +kernel
theorem d_rn_holds_63 : decode prog_10_method_10_code 63 = .ok (.getfield 9, 3) := by decide +kernel
theorem d_rn_holds_66 : decode prog_10_method_10_code 66 = .ok (.getfield 61, 3) := by decide +kernel
theorem d_rn_holds_69 : decode prog_10_method_10_code 69 = .ok (.iload_n 1, 1) := by decide +kernel
theorem d_rn_holds_70 : decode prog_10_method_10_code 70 = .ok (.invokevirtual 156, 3) := by decide +kernel
theorem d_rn_holds_73 : decode prog_10_method_10_code 73 = .ok (.istore_n 2, 1) := by decide +kernel
theorem d_rn_holds_74 : decode prog_10_method_10_code 74 = .ok (.aload_n 0, 1) := by decide +kernel
theorem d_rn_holds_75 : decode prog_10_method_10_code 75 = .ok (.getfield 15, 3) := by decide +kernel
theorem d_rn_holds_78 : decode prog_10_method_10_code 78 = .ok (.iconst 1, 1) := by decide +kernel
theorem d_rn_holds_79 : decode prog_10_method_10_code 79 = .ok (.iload_n 2, 1) := by decide +kernel
theorem d_rn_holds_80 : decode prog_10_method_10_code 80 = .ok (.invokevirtual 159, 3) := by decide +kernel
theorem d_rn_holds_83 : decode prog_10_method_10_code 83 = .ok (.aload_n 0, 1) := by decide +kernel
theorem d_rn_holds_84 : decode prog_10_method_10_code 84 = .ok (.getfield 15, 3) := by decide +kernel
theorem d_rn_holds_87 : decode prog_10_method_10_code 87 = .ok (.getfield 165, 3) := by decide +kernel
theorem d_rn_holds_90 : decode prog_10_method_10_code 90 = .ok (.aload_n 0, 1) := by decide +kernel
theorem d_rn_holds_91 : decode prog_10_method_10_code 91 = .ok (.getfield 9, 3) := by decide +kernel
theorem d_rn_holds_94 : decode prog_10_method_10_code 94 = .ok (.getfield 169, 3) := by decide +kernel
theorem d_rn_holds_97 : decode prog_10_method_10_code 97 = .ok (.iload_n 2, 1) := by decide +kernel
theorem d_rn_holds_98 : decode prog_10_method_10_code 98 = .ok (.aload_n 0, 1) := by decide +kernel
theorem d_rn_holds_99 : decode prog_10_method_10_code 99 = .ok (.getfield 9, 3) := by decide +kernel
theorem d_rn_holds_102 : decode prog_10_method_10_code 102 = .ok (.getfield 61, 3) := by decide +kernel
theorem d_rn_holds_105 : decode prog_10_method_10_code 105 = .ok (.getfield 173, 3) := by decide +kernel
theorem d_rn_holds_108 : decode prog_10_method_10_code 108 = .ok (.iload_n 1, 1) := by decide +kernel
theorem d_rn_holds_109 : decode prog_10_method_10_code 109 = .ok (.invokestatic 45, 3) := by decide +kernel
theorem d_rn_holds_112 : decode prog_10_method_10_code 112 = .ok (.invokevirtual 176, 3) := by decide +kernel
theorem d_rn_holds_115 : decode prog_10_method_10_code 115 = .ok (.aload_n 0, 1) := by decide +kernel
theorem d_rn_holds_116 : decode prog_10_method_10_code 116 = .ok (.getfield 15, 3) := by decide +kernel
theorem d_rn_holds_119 : decode prog_10_method_10_code 119 = .ok (.getfield 165, 3) := by decide +kernel
theorem d_rn_holds_122 : decode prog_10_method_10_code 122 = .ok (.aload_n 0, 1) := by decide +kernel
theorem d_rn_holds_123 : decode prog_10_method_10_code 123 = .ok (.getfield 24, 3) := by decide +kernel
theorem d_rn_holds_126 : decode prog_10_method_10_code 126 = .ok (.getfield 182, 3) := by decide +kernel
theorem d_rn_holds_129 : decode prog_10_method_10_code 129 = .ok (.aload_n 0, 1) := by decide +kernel
theorem d_rn_holds_130 : decode prog_10_method_10_code 130 = .ok (.getfield 24, 3) := by decide +kernel
theorem d_rn_holds_133 : decode prog_10_method_10_code 133 = .ok (.getfield 185, 3) := by decide +kernel
theorem d_rn_holds_136 : decode prog_10_method_10_code 136 = .ok (.iload_n 2, 1) := by decide +kernel
theorem d_rn_holds_137 : decode prog_10_method_10_code 137 = .ok (.invokevirtual 188, 3) := by decide +kernel
theorem d_rn_holds_140 : decode prog_10_method_10_code 140 = .ok (.iconst 0, 1) := by decide +kernel
theorem d_rn_holds_141 : decode prog_10_method_10_code 141 = .ok (.ireturn, 1) := by decide +kernel
theorem d_rn_rulesAreMet_0 : decode prog_10_method_11_code 0 = .ok (.iload_n 1, 1) := by decide +kernel
theorem d_rn_rulesAreMet_1 : decode prog_10_method_11_code 1 = .ok (.istore_n 3, 1) := by decide +kernel
theorem d_rn_rulesAreMet_2 : decode prog_10_method_11_code 2 = .ok (.iload_n 3, 1) := by decide +kernel
theorem d_rn_rulesAreMet_3 : decode prog_10_method_11_code 3 = .ok (.iload_n 2, 1) := by decide +kernel
theorem d_rn_rulesAreMet_4 : decode prog_10_method_11_code 4 = .ok (.if_icmp .ge (104), 3) := by decide +kernel
theorem d_rn_rulesAreMet_7 : decode prog_10_method_11_code 7 = .ok (.aload_n 0, 1) := by decide +kernel
theorem d_rn_rulesAreMet_8 : decode prog_10_method_11_code 8 = .ok (.getfield 9, 3) := by decide +kernel
theorem d_rn_rulesAreMet_11 : decode prog_10_method_11_code 11 = .ok (.getfield 61, 3) := by decide +kernel
theorem d_rn_rulesAreMet_14 : decode prog_10_method_11_code 14 = .ok (.getfield 112, 3) := by decide +kernel
theorem d_rn_rulesAreMet_17 : decode prog_10_method_11_code 17 = .ok (.iload_n 3, 1) := by decide +kernel
theorem d_rn_rulesAreMet_18 : decode prog_10_method_11_code 18 = .ok (.invokestatic 45, 3) := by decide +kernel
theorem d_rn_rulesAreMet_21 : decode prog_10_method_11_code 21 = .ok (.istore 4, 2) := by decide +kernel
theorem d_rn_rulesAreMet_23 : decode prog_10_method_11_code 23 = .ok (.aload_n 0, 1) := by decide +kernel
theorem d_rn_rulesAreMet_24 : decode prog_10_method_11_code 24 = .ok (.getfield 24, 3) := by decide +kernel
theorem d_rn_rulesAreMet_27 : decode prog_10_method_11_code 27 = .ok (.getfield 192, 3) := by decide +kernel
theorem d_rn_rulesAreMet_30 : decode prog_10_method_11_code 30 = .ok (.iload 4, 2) := by decide +kernel
theorem d_rn_rulesAreMet_32 : decode prog_10_method_11_code 32 = .ok (.invokestatic 45, 3) := by decide +kernel
theorem d_rn_rulesAreMet_35 : decode prog_10_method_11_code 35 = .ok (.aload_n 0, 1) := by decide +kernel
theorem d_rn_rulesAreMet_36 : decode prog_10_method_11_code 36 = .ok (.getfield 9, 3) := by decide +kernel
theorem d_rn_rulesAreMet_39 : decode prog_10_method_11_code 39 = .ok (.getfield 195, 3) := by decide +kernel
theorem d_rn_rulesAreMet_42 : decode prog_10_method_11_code 42 = .ok (.getfield 199, 3) := by decide +kernel
theorem d_rn_rulesAreMet_45 : decode prog_10_method_11_code 45 = .ok (.iload 4, 2) := by decide +kernel
theorem d_rn_rulesAreMet_47 : decode prog_10_method_11_code 47 = .ok (.invokestatic 45, 3) := by decide +kernel
theorem d_rn_rulesAreMet_50 : decode prog_10_method_11_code 50 = .ok (.if_icmp .lt (7), 3) := by decide +kernel
theorem d_rn_rulesAreMet_53 : decode prog_10_method_11_code 53 = .ok (.iconst 1, 1) := by decide +kernel
theorem d_rn_rulesAreMet_54 : decode prog_10_method_11_code 54 = .ok (.goto (4), 3) := by decide +kernel
theorem d_rn_rulesAreMet_57 : decode prog_10_method_11_code 57 = .ok (.iconst 0, 1) := by decide +kernel
theorem d_rn_rulesAreMet_58 : decode prog_10_method_11_code 58 = .ok (.istore 5, 2) := by decide +kernel
theorem d_rn_rulesAreMet_60 : decode prog_10_method_11_code 60 = .ok (.aload_n 0, 1) := by decide +kernel
theorem d_rn_rulesAreMet_61 : decode prog_10_method_11_code 61 = .ok (.getfield 9, 3) := by decide +kernel
theorem d_rn_rulesAreMet_64 : decode prog_10_method_11_code 64 = .ok (.getfield 61, 3) := by decide +kernel
theorem d_rn_rulesAreMet_67 : decode prog_10_method_11_code 67 = .ok (.iload_n 3, 1) := by decide +kernel
theorem d_rn_rulesAreMet_68 : decode prog_10_method_11_code 68 = .ok (.invokevirtual 65, 3) := by decide +kernel
theorem d_rn_rulesAreMet_71 : decode prog_10_method_11_code 71 = .ok (.bipush 7, 2) := by decide +kernel
theorem d_rn_rulesAreMet_73 : decode prog_10_method_11_code 73 = .ok (.if_icmp .ne (29), 3) := by decide +kernel
theorem d_rn_rulesAreMet_76 : decode prog_10_method_11_code 76 = .ok (.iload 5, 2) := by decide +kernel
theorem d_rn_rulesAreMet_78 : decode prog_10_method_11_code 78 = .ok (.ifCond .ne (24), 3) := by decide +kernel
theorem d_rn_rulesAreMet_81 : decode prog_10_method_11_code 81 = .ok (.aload_n 0, 1) := by decide +kernel
theorem d_rn_rulesAreMet_82 : decode prog_10_method_11_code 82 = .ok (.getfield 15, 3) := by decide +kernel
theorem d_rn_rulesAreMet_85 : decode prog_10_method_11_code 85 = .ok (.iconst 2, 1) := by decide +kernel
theorem d_rn_rulesAreMet_86 : decode prog_10_method_11_code 86 = .ok (.aload_n 0, 1) := by decide +kernel
theorem d_rn_rulesAreMet_87 : decode prog_10_method_11_code 87 = .ok (.getfield 9, 3) := by decide +kernel
theorem d_rn_rulesAreMet_90 : decode prog_10_method_11_code 90 = .ok (.getfield 61, 3) := by decide +kernel
theorem d_rn_rulesAreMet_93 : decode prog_10_method_11_code 93 = .ok (.iload_n 3, 1) := by decide +kernel
theorem d_rn_rulesAreMet_94 : decode prog_10_method_11_code 94 = .ok (.invokevirtual 156, 3) := by decide +kernel
theorem d_rn_rulesAreMet_97 : decode prog_10_method_11_code 97 = .ok (.invokevirtual 159, 3) := by decide +kernel
theorem d_rn_rulesAreMet_100 : decode prog_10_method_11_code 100 = .ok (.iconst 0, 1) := by decide +kernel
theorem d_rn_rulesAreMet_101 : decode prog_10_method_11_code 101 = .ok (.ireturn, 1) := by decide +kernel
theorem d_rn_rulesAreMet_102 : decode prog_10_method_11_code 102 = .ok (.iinc 3 (1), 3) := by decide +kernel
theorem d_rn_rulesAreMet_105 : decode prog_10_method_11_code 105 = .ok (.goto (-103), 3) := by decide +kernel
theorem d_rn_rulesAreMet_108 : decode prog_10_method_11_code 108 = .ok (.iconst 1, 1) := by decide +kernel
theorem d_rn_rulesAreMet_109 : decode prog_10_method_11_code 109 = .ok (.ireturn, 1) := by decide +kernel
theorem d_rn_lose_0 : decode prog_10_method_12_code 0 = .ok (.aload_n 0, 1) := by decide +kernel
theorem d_rn_lose_1 : decode prog_10_method_12_code 1 = .ok (.getfield 15, 3) := by decide +kernel
theorem d_rn_lose_4 : decode prog_10_method_12_code 4 = .ok (.aload_n 0, 1) := by decide +kernel
theorem d_rn_lose_5 : decode prog_10_method_12_code 5 = .ok (.getfield 24, 3) := by decide +kernel
theorem d_rn_lose_8 : decode prog_10_method_12_code 8 = .ok (.getfield 128, 3) := by decide +kernel
theorem d_rn_lose_11 : decode prog_10_method_12_code 11 = .ok (.aload_n 0, 1) := by decide +kernel
theorem d_rn_lose_12 : decode prog_10_method_12_code 12 = .ok (.getfield 24, 3) := by decide +kernel
theorem d_rn_lose_15 : decode prog_10_method_12_code 15 = .ok (.getfield 204, 3) := by decide +kernel
theorem d_rn_lose_18 : decode prog_10_method_12_code 18 = .ok (.invokevirtual 159, 3) := by decide +kernel
theorem d_rn_lose_21 : decode prog_10_method_12_code 21 = .ok (.iconst 0, 1) := by decide +kernel
theorem d_rn_lose_22 : decode prog_10_method_12_code 22 = .ok (.ireturn, 1) := by decide +kernel
theorem d_st_init_0 : decode prog_11_method_1_code 0 = .ok (.aload_n 0, 1) := by decide +kernel
theorem d_st_init_1 : decode prog_11_method_1_code 1 = .ok (.invokespecial 3, 3) := by decide +kernel
theorem d_st_init_4 : decode prog_11_method_1_code 4 = .ok (.aload_n 0, 1) := by decide +kernel
theorem d_st_init_5 : decode prog_11_method_1_code 5 = .ok (.bipush 61, 2) := by decide +kernel
theorem d_st_init_7 : decode prog_11_method_1_code 7 = .ok (.newarray .int, 2) := by decide +kernel
theorem d_st_init_9 : decode prog_11_method_1_code 9 = .ok (.putfield 9, 3) := by decide +kernel
theorem d_st_init_12 : decode prog_11_method_1_code 12 = .ok (.aload_n 0, 1) := by decide +kernel
theorem d_st_init_13 : decode prog_11_method_1_code 13 = .ok (.bipush 61, 2) := by decide +kernel
theorem d_st_init_15 : decode prog_11_method_1_code 15 = .ok (.newarray .int, 2) := by decide +kernel
theorem d_st_init_17 : decode prog_11_method_1_code 17 = .ok (.putfield 15, 3) := by decide +kernel
theorem d_st_init_20 : decode prog_11_method_1_code 20 = .ok (.aload_n 0, 1) := by decide +kernel
theorem d_st_init_21 : decode prog_11_method_1_code 21 = .ok (.bipush 61, 2) := by decide +kernel
theorem d_st_init_23 : decode prog_11_method_1_code 23 = .ok (.newarray .int, 2) := by decide +kernel
theorem d_st_init_25 : decode prog_11_method_1_code 25 = .ok (.putfield 18, 3) := by decide +kernel
theorem d_st_init_28 : decode prog_11_method_1_code 28 = .ok (.aload_n 0, 1) := by decide +kernel
theorem d_st_init_29 : decode prog_11_method_1_code 29 = .ok (.bipush 61, 2) := by decide +kernel
theorem d_st_init_31 : decode prog_11_method_1_code 31 = .ok (.newarray .int, 2) := by decide +kernel
theorem d_st_init_33 : decode prog_11_method_1_code 33 = .ok (.putfield 21, 3) := by decide +kernel
theorem d_st_init_36 : decode prog_11_method_1_code 36 = .ok (.aload_n 0, 1) := by decide +kernel
theorem d_st_init_37 : decode prog_11_method_1_code 37 = .ok (.bipush 61, 2) := by decide +kernel
theorem d_st_init_39 : decode prog_11_method_1_code 39 = .ok (.newarray .int, 2) := by decide +kernel
theorem d_st_init_41 : decode prog_11_method_1_code 41 = .ok (.putfield 24, 3) := by decide +kernel
theorem d_st_init_44 : decode prog_11_method_1_code 44 = .ok (.aload_n 0, 1) := by decide +kernel
theorem d_st_init_45 : decode prog_11_method_1_code 45 = .ok (.bipush 61, 2) := by decide +kernel
theorem d_st_init_47 : decode prog_11_method_1_code 47 = .ok (.newarray .int, 2) := by decide +kernel
theorem d_st_init_49 : decode prog_11_method_1_code 49 = .ok (.putfield 27, 3) := by decide +kernel
theorem d_st_init_52 : decode prog_11_method_1_code 52 = .ok (.return_, 1) := by decide +kernel
theorem d_st_open_0 : decode prog_11_method_2_code 0 = .ok (.aload_n 0, 1) := by decide +kernel
theorem d_st_open_1 : decode prog_11_method_2_code 1 = .ok (.getfield 30, 3) := by decide +kernel
theorem d_st_open_4 : decode prog_11_method_2_code 4 = .ok (.bipush 61, 2) := by decide +kernel
theorem d_st_open_6 : decode prog_11_method_2_code 6 = .ok (.if_icmp .ge (63), 3) := by decide +kernel
theorem d_st_open_9 : decode prog_11_method_2_code 9 = .ok (.aload_n 0, 1) := by decide +kernel
theorem d_st_open_10 : decode prog_11_method_2_code 10 = .ok (.getfield 9, 3) := by decide +kernel
theorem d_st_open_13 : decode prog_11_method_2_code 13 = .ok (.aload_n 0, 1) := by decide +kernel
theorem d_st_open_14 : decode prog_11_method_2_code 14 = .ok (.getfield 30, 3) := by decide +kernel
theorem d_st_open_17 : decode prog_11_method_2_code 17 = .ok (.iload_n 1, 1) := by decide +kernel
theorem d_st_open_18 : decode prog_11_method_2_code 18 = .ok (.iastore, 1) := by decide +kernel
theorem d_st_open_19 : decode prog_11_method_2_code 19 = .ok (.aload_n 0, 1) := by decide +kernel
theorem d_st_open_20 : decode prog_11_method_2_code 20 = .ok (.getfield 15, 3) := by decide +kernel
theorem d_st_open_23 : decode prog_11_method_2_code 23 = .ok (.aload_n 0, 1) := by decide +kernel
theorem d_st_open_24 : decode prog_11_method_2_code 24 = .ok (.getfield 30, 3) := by decide +kernel
theorem d_st_open_27 : decode prog_11_method_2_code 27 = .ok (.iload_n 2, 1) := by decide +kernel
theorem d_st_open_28 : decode prog_11_method_2_code 28 = .ok (.iastore, 1) := by decide +kernel
theorem d_st_open_29 : decode prog_11_method_2_code 29 = .ok (.aload_n 0, 1) := by decide +kernel
theorem d_st_open_30 : decode prog_11_method_2_code 30 = .ok (.getfield 21, 3) := by decide +kernel
theorem d_st_open_33 : decode prog_11_method_2_code 33 = .ok (.aload_n 0, 1) := by decide +kernel
theorem d_st_open_34 : decode prog_11_method_2_code 34 = .ok (.getfield 30, 3) := by decide +kernel
theorem d_st_open_37 : decode prog_11_method_2_code 37 = .ok (.iload_n 3, 1) := by decide +kernel
theorem d_st_open_38 : decode prog_11_method_2_code 38 = .ok (.iastore, 1) := by decide +kernel
theorem d_st_open_39 : decode prog_11_method_2_code 39 = .ok (.aload_n 0, 1) := by decide +kernel
theorem d_st_open_40 : decode prog_11_method_2_code 40 = .ok (.getfield 24, 3) := by decide +kernel
theorem d_st_open_43 : decode prog_11_method_2_code 43 = .ok (.aload_n 0, 1) := by decide +kernel
theorem d_st_open_44 : decode prog_11_method_2_code 44 = .ok (.getfield 30, 3) := by decide +kernel
theorem d_st_open_47 : decode prog_11_method_2_code 47 = .ok (.iload_n 3, 1) := by decide +kernel
theorem d_st_open_48 : decode prog_11_method_2_code 48 = .ok (.iastore, 1) := by decide +kernel
theorem d_st_open_49 : decode prog_11_method_2_code 49 = .ok (.aload_n 0, 1) := by decide +kernel
theorem d_st_open_50 : decode prog_11_method_2_code 50 = .ok (.getfield 27, 3) := by decide +kernel
theorem d_st_open_53 : decode prog_11_method_2_code 53 = .ok (.aload_n 0, 1) := by decide +kernel
theorem d_st_open_54 : decode prog_11_method_2_code 54 = .ok (.getfield 30, 3) := by decide +kernel
theorem d_st_open_57 : decode prog_11_method_2_code 57 = .ok (.iconst (-1), 1) := by decide +kernel
theorem d_st_open_58 : decode prog_11_method_2_code 58 = .ok (.iastore, 1) := by decide +kernel
theorem d_st_open_59 : decode prog_11_method_2_code 59 = .ok (.aload_n 0, 1) := by decide +kernel
theorem d_st_open_60 : decode prog_11_method_2_code 60 = .ok (.dup, 1) := by decide +kernel
theorem d_st_open_61 : decode prog_11_method_2_code 61 = .ok (.getfield 30, 3) := by decide +kernel
theorem d_st_open_64 : decode prog_11_method_2_code 64 = .ok (.iconst 1, 1) := by decide +kernel
theorem d_st_open_65 : decode prog_11_method_2_code 65 = .ok (.iadd, 1) := by decide +kernel
theorem d_st_open_66 : decode prog_11_method_2_code 66 = .ok (.putfield 30, 3) := by decide +kernel
theorem d_st_open_69 : decode prog_11_method_2_code 69 = .ok (.aload_n 0, 1) := by decide +kernel
theorem d_st_open_70 : decode prog_11_method_2_code 70 = .ok (.getfield 30, 3) := by decide +kernel
theorem d_st_open_73 : decode prog_11_method_2_code 73 = .ok (.iconst 1, 1) := by decide +kernel
theorem d_st_open_74 : decode prog_11_method_2_code 74 = .ok (.isub, 1) := by decide +kernel
theorem d_st_open_75 : decode prog_11_method_2_code 75 = .ok (.ireturn, 1) := by decide +kernel
theorem d_st_close_0 : decode prog_11_method_3_code 0 = .ok (.aload_n 0, 1) := by decide +kernel
theorem d_st_close_1 : decode prog_11_method_3_code 1 = .ok (.getfield 18, 3) := by decide +kernel
theorem d_st_close_4 : decode prog_11_method_3_code 4 = .ok (.iload_n 1, 1) := by decide +kernel
theorem d_st_close_5 : decode prog_11_method_3_code 5 = .ok (.iload_n 2, 1) := by decide +kernel
theorem d_st_close_6 : decode prog_11_method_3_code 6 = .ok (.invokestatic 34, 3) := by decide +kernel
theorem d_st_close_9 : decode prog_11_method_3_code 9 = .ok (.aload_n 0, 1) := by decide +kernel
theorem d_st_close_10 : decode prog_11_method_3_code 10 = .ok (.getfield 24, 3) := by decide +kernel
theorem d_st_close_13 : decode prog_11_method_3_code 13 = .ok (.iload_n 1, 1) := by decide +kernel
theorem d_st_close_14 : decode prog_11_method_3_code 14 = .ok (.iload_n 3, 1) := by decide +kernel
theorem d_st_close_15 : decode prog_11_method_3_code 15 = .ok (.invokestatic 34, 3) := by decide +kernel
theorem d_st_close_18 : decode prog_11_method_3_code 18 = .ok (.return_, 1) := by decide +kernel
theorem d_st_kindOf_0 : decode prog_11_method_4_code 0 = .ok (.iload_n 1, 1) := by decide +kernel
theorem d_st_kindOf_1 : decode prog_11_method_4_code 1 = .ok (.ifCond .lt (26), 3) := by decide +kernel
theorem d_st_kindOf_4 : decode prog_11_method_4_code 4 = .ok (.iload_n 1, 1) := by decide +kernel
theorem d_st_kindOf_5 : decode prog_11_method_4_code 5 = .ok (.aload_n 0, 1) := by decide +kernel
theorem d_st_kindOf_6 : decode prog_11_method_4_code 6 = .ok (.getfield 30, 3) := by decide +kernel
theorem d_st_kindOf_9 : decode prog_11_method_4_code 9 = .ok (.if_icmp .ge (18), 3) := by decide +kernel
theorem d_st_kindOf_12 : decode prog_11_method_4_code 12 = .ok (.iload_n 1, 1) := by decide +kernel
theorem d_st_kindOf_13 : decode prog_11_method_4_code 13 = .ok (.bipush 61, 2) := by decide +kernel
theorem d_st_kindOf_15 : decode prog_11_method_4_code 15 = .ok (.if_icmp .ge (12), 3) := by decide +kernel
theorem d_st_kindOf_18 : decode prog_11_method_4_code 18 = .ok (.aload_n 0, 1) := by decide +kernel
theorem d_st_kindOf_19 : decode prog_11_method_4_code 19 = .ok (.getfield 9, 3) := by decide +kernel
theorem d_st_kindOf_22 : decode prog_11_method_4_code 22 = .ok (.iload_n 1, 1) := by decide +kernel
theorem d_st_kindOf_23 : decode prog_11_method_4_code 23 = .ok (.iaload, 1) := by decide +kernel
theorem d_st_kindOf_24 : decode prog_11_method_4_code 24 = .ok (.goto (4), 3) := by decide +kernel
theorem d_st_kindOf_27 : decode prog_11_method_4_code 27 = .ok (.iconst (-1), 1) := by decide +kernel
theorem d_st_kindOf_28 : decode prog_11_method_4_code 28 = .ok (.ireturn, 1) := by decide +kernel
theorem d_st_placeOf_0 : decode prog_11_method_5_code 0 = .ok (.iload_n 1, 1) := by decide +kernel
theorem d_st_placeOf_1 : decode prog_11_method_5_code 1 = .ok (.ifCond .lt (26), 3) := by decide +kernel
theorem d_st_placeOf_4 : decode prog_11_method_5_code 4 = .ok (.iload_n 1, 1) := by decide +kernel
theorem d_st_placeOf_5 : decode prog_11_method_5_code 5 = .ok (.aload_n 0, 1) := by decide +kernel
theorem d_st_placeOf_6 : decode prog_11_method_5_code 6 = .ok (.getfield 30, 3) := by decide +kernel
theorem d_st_placeOf_9 : decode prog_11_method_5_code 9 = .ok (.if_icmp .ge (18), 3) := by decide +kernel
theorem d_st_placeOf_12 : decode prog_11_method_5_code 12 = .ok (.iload_n 1, 1) := by decide +kernel
theorem d_st_placeOf_13 : decode prog_11_method_5_code 13 = .ok (.bipush 61, 2) := by decide +kernel
theorem d_st_placeOf_15 : decode prog_11_method_5_code 15 = .ok (.if_icmp .ge (12), 3) := by decide +kernel
theorem d_st_placeOf_18 : decode prog_11_method_5_code 18 = .ok (.aload_n 0, 1) := by decide +kernel
theorem d_st_placeOf_19 : decode prog_11_method_5_code 19 = .ok (.getfield 15, 3) := by decide +kernel
theorem d_st_placeOf_22 : decode prog_11_method_5_code 22 = .ok (.iload_n 1, 1) := by decide +kernel
theorem d_st_placeOf_23 : decode prog_11_method_5_code 23 = .ok (.iaload, 1) := by decide +kernel
theorem d_st_placeOf_24 : decode prog_11_method_5_code 24 = .ok (.goto (4), 3) := by decide +kernel
theorem d_st_placeOf_27 : decode prog_11_method_5_code 27 = .ok (.iconst (-1), 1) := by decide +kernel
theorem d_st_placeOf_28 : decode prog_11_method_5_code 28 = .ok (.ireturn, 1) := by decide +kernel
theorem d_tk_init_0 : decode prog_12_method_1_code 0 = .ok (.aload_n 0, 1) := by decide +kernel
theorem d_tk_init_1 : decode prog_12_method_1_code 1 = .ok (.invokespecial 3, 3) := by decide +kernel
theorem d_tk_init_4 : decode prog_12_method_1_code 4 = .ok (.aload_n 0, 1) := by decide +kernel
theorem d_tk_init_5 : decode prog_12_method_1_code 5 = .ok (.bipush 120, 2) := by decide +kernel
theorem d_tk_init_7 : decode prog_12_method_1_code 7 = .ok (.newarray .int, 2) := by decide +kernel
theorem d_tk_init_9 : decode prog_12_method_1_code 9 = .ok (.putfield 9, 3) := by decide +kernel
theorem d_tk_init_12 : decode prog_12_method_1_code 12 = .ok (.aload_n 0, 1) := by decide +kernel
theorem d_tk_init_13 : decode prog_12_method_1_code 13 = .ok (.bipush 120, 2) := by decide +kernel
theorem d_tk_init_15 : decode prog_12_method_1_code 15 = .ok (.newarray .int, 2) := by decide +kernel
theorem d_tk_init_17 : decode prog_12_method_1_code 17 = .ok (.putfield 15, 3) := by decide +kernel
theorem d_tk_init_20 : decode prog_12_method_1_code 20 = .ok (.aload_n 0, 1) := by decide +kernel
theorem d_tk_init_21 : decode prog_12_method_1_code 21 = .ok (.bipush 120, 2) := by decide +kernel
theorem d_tk_init_23 : decode prog_12_method_1_code 23 = .ok (.newarray .int, 2) := by decide +kernel
theorem d_tk_init_25 : decode prog_12_method_1_code 25 = .ok (.putfield 18, 3) := by decide +kernel
theorem d_tk_init_28 : decode prog_12_method_1_code 28 = .ok (.aload_n 0, 1) := by decide +kernel
theorem d_tk_init_29 : decode prog_12_method_1_code 29 = .ok (.bipush 120, 2) := by decide +kernel
theorem d_tk_init_31 : decode prog_12_method_1_code 31 = .ok (.newarray .int, 2) := by decide +kernel
theorem d_tk_init_33 : decode prog_12_method_1_code 33 = .ok (.putfield 21, 3) := by decide +kernel
theorem d_tk_init_36 : decode prog_12_method_1_code 36 = .ok (.return_, 1) := by decide +kernel
theorem d_tk_read_0 : decode prog_12_method_2_code 0 = .ok (.aload_n 0, 1) := by decide +kernel
theorem d_tk_read_1 : decode prog_12_method_2_code 1 = .ok (.iconst 0, 1) := by decide +kernel
theorem d_tk_read_2 : decode prog_12_method_2_code 2 = .ok (.putfield 24, 3) := by decide +kernel
theorem d_tk_read_5 : decode prog_12_method_2_code 5 = .ok (.aload_n 0, 1) := by decide +kernel
theorem d_tk_read_6 : decode prog_12_method_2_code 6 = .ok (.iload_n 2, 1) := by decide +kernel
theorem d_tk_read_7 : decode prog_12_method_2_code 7 = .ok (.aload_n 1, 1) := by decide +kernel
theorem d_tk_read_8 : decode prog_12_method_2_code 8 = .ok (.arraylength, 1) := by decide +kernel
theorem d_tk_read_9 : decode prog_12_method_2_code 9 = .ok (.invokestatic 28, 3) := by decide +kernel
theorem d_tk_read_12 : decode prog_12_method_2_code 12 = .ok (.putfield 34, 3) := by decide +kernel
theorem d_tk_read_15 : decode prog_12_method_2_code 15 = .ok (.iconst 0, 1) := by decide +kernel
theorem d_tk_read_16 : decode prog_12_method_2_code 16 = .ok (.istore_n 3, 1) := by decide +kernel
theorem d_tk_read_17 : decode prog_12_method_2_code 17 = .ok (.iconst 0, 1) := by decide +kernel
theorem d_tk_read_18 : decode prog_12_method_2_code 18 = .ok (.istore 4, 2) := by decide +kernel
theorem d_tk_read_20 : decode prog_12_method_2_code 20 = .ok (.iload 4, 2) := by decide +kernel
theorem d_tk_read_22 : decode prog_12_method_2_code 22 = .ok (.bipush 120, 2) := by decide +kernel
theorem d_tk_read_24 : decode prog_12_method_2_code 24 = .ok (.if_icmp .ge (24), 3) := by decide +kernel
theorem d_tk_read_27 : decode prog_12_method_2_code 27 = .ok (.iload_n 3, 1) := by decide +kernel
theorem d_tk_read_28 : decode prog_12_method_2_code 28 = .ok (.aload_n 0, 1) := by decide +kernel
theorem d_tk_read_29 : decode prog_12_method_2_code 29 = .ok (.getfield 34, 3) := by decide +kernel
theorem d_tk_read_32 : decode prog_12_method_2_code 32 = .ok (.if_icmp .ge (16), 3) := by decide +kernel
theorem d_tk_read_35 : decode prog_12_method_2_code 35 = .ok (.aload_n 0, 1) := by decide +kernel
theorem d_tk_read_36 : decode prog_12_method_2_code 36 = .ok (.aload_n 1, 1) := by decide +kernel
theorem d_tk_read_37 : decode prog_12_method_2_code 37 = .ok (.iload_n 3, 1) := by decide +kernel
theorem d_tk_read_38 : decode prog_12_method_2_code 38 = .ok (.invokevirtual 37, 3) := by decide +kernel
theorem d_tk_read_41 : decode prog_12_method_2_code 41 = .ok (.istore_n 3, 1) := by decide +kernel
theorem d_tk_read_42 : decode prog_12_method_2_code 42 = .ok (.iinc 4 (1), 3) := by decide +kernel
theorem d_tk_read_45 : decode prog_12_method_2_code 45 = .ok (.goto (-25), 3) := by decide +kernel
theorem d_tk_read_48 : decode prog_12_method_2_code 48 = .ok (.return_, 1) := by decide +kernel
theorem d_tk_kindAt_0 : decode prog_12_method_3_code 0 = .ok (.iload_n 1, 1) := by decide +kernel
theorem d_tk_kindAt_1 : decode prog_12_method_3_code 1 = .ok (.ifCond .lt (26), 3) := by decide +kernel
theorem d_tk_kindAt_4 : decode prog_12_method_3_code 4 = .ok (.iload_n 1, 1) := by decide +kernel
theorem d_tk_kindAt_5 : decode prog_12_method_3_code 5 = .ok (.aload_n 0, 1) := by decide +kernel
theorem d_tk_kindAt_6 : decode prog_12_method_3_code 6 = .ok (.getfield 24, 3) := by decide +kernel
theorem d_tk_kindAt_9 : decode prog_12_method_3_code 9 = .ok (.if_icmp .ge (18), 3) := by decide +kernel
theorem d_tk_kindAt_12 : decode prog_12_method_3_code 12 = .ok (.iload_n 1, 1) := by decide +kernel
theorem d_tk_kindAt_13 : decode prog_12_method_3_code 13 = .ok (.bipush 120, 2) := by decide +kernel
theorem d_tk_kindAt_15 : decode prog_12_method_3_code 15 = .ok (.if_icmp .ge (12), 3) := by decide +kernel
theorem d_tk_kindAt_18 : decode prog_12_method_3_code 18 = .ok (.aload_n 0, 1) := by decide +kernel
theorem d_tk_kindAt_19 : decode prog_12_method_3_code 19 = .ok (.getfield 9, 3) := by decide +kernel
theorem d_tk_kindAt_22 : decode prog_12_method_3_code 22 = .ok (.iload_n 1, 1) := by decide +kernel
theorem d_tk_kindAt_23 : decode prog_12_method_3_code 23 = .ok (.iaload, 1) := by decide +kernel
theorem d_tk_kindAt_24 : decode prog_12_method_3_code 24 = .ok (.goto (6), 3) := by decide +kernel
theorem d_tk_kindAt_27 : decode prog_12_method_3_code 27 = .ok (.sipush 256, 3) := by decide +kernel
theorem d_tk_kindAt_30 : decode prog_12_method_3_code 30 = .ok (.ireturn, 1) := by decide +kernel
theorem d_tk_placeOf_0 : decode prog_12_method_4_code 0 = .ok (.iload_n 1, 1) := by decide +kernel
theorem d_tk_placeOf_1 : decode prog_12_method_4_code 1 = .ok (.ifCond .lt (26), 3) := by decide +kernel
theorem d_tk_placeOf_4 : decode prog_12_method_4_code 4 = .ok (.iload_n 1, 1) := by decide +kernel
theorem d_tk_placeOf_5 : decode prog_12_method_4_code 5 = .ok (.aload_n 0, 1) := by decide +kernel
theorem d_tk_placeOf_6 : decode prog_12_method_4_code 6 = .ok (.getfield 24, 3) := by decide +kernel
theorem d_tk_placeOf_9 : decode prog_12_method_4_code 9 = .ok (.if_icmp .ge (18), 3) := by decide +kernel
theorem d_tk_placeOf_12 : decode prog_12_method_4_code 12 = .ok (.iload_n 1, 1) := by decide +kernel
theorem d_tk_placeOf_13 : decode prog_12_method_4_code 13 = .ok (.bipush 120, 2) := by decide +kernel
theorem d_tk_placeOf_15 : decode prog_12_method_4_code 15 = .ok (.if_icmp .ge (12), 3) := by decide +kernel
theorem d_tk_placeOf_18 : decode prog_12_method_4_code 18 = .ok (.aload_n 0, 1) := by decide +kernel
theorem d_tk_placeOf_19 : decode prog_12_method_4_code 19 = .ok (.getfield 15, 3) := by decide +kernel
theorem d_tk_placeOf_22 : decode prog_12_method_4_code 22 = .ok (.iload_n 1, 1) := by decide +kernel
theorem d_tk_placeOf_23 : decode prog_12_method_4_code 23 = .ok (.iaload, 1) := by decide +kernel
theorem d_tk_placeOf_24 : decode prog_12_method_4_code 24 = .ok (.goto (7), 3) := by decide +kernel
theorem d_tk_placeOf_27 : decode prog_12_method_4_code 27 = .ok (.aload_n 0, 1) := by decide +kernel
theorem d_tk_placeOf_28 : decode prog_12_method_4_code 28 = .ok (.getfield 34, 3) := by decide +kernel
theorem d_tk_placeOf_31 : decode prog_12_method_4_code 31 = .ok (.ireturn, 1) := by decide +kernel
theorem d_tk_endOf_0 : decode prog_12_method_5_code 0 = .ok (.iload_n 1, 1) := by decide +kernel
theorem d_tk_endOf_1 : decode prog_12_method_5_code 1 = .ok (.ifCond .lt (26), 3) := by decide +kernel
theorem d_tk_endOf_4 : decode prog_12_method_5_code 4 = .ok (.iload_n 1, 1) := by decide +kernel
theorem d_tk_endOf_5 : decode prog_12_method_5_code 5 = .ok (.aload_n 0, 1) := by decide +kernel
theorem d_tk_endOf_6 : decode prog_12_method_5_code 6 = .ok (.getfield 24, 3) := by decide +kernel
theorem d_tk_endOf_9 : decode prog_12_method_5_code 9 = .ok (.if_icmp .ge (18), 3) := by decide +kernel
theorem d_tk_endOf_12 : decode prog_12_method_5_code 12 = .ok (.iload_n 1, 1) := by decide +kernel
theorem d_tk_endOf_13 : decode prog_12_method_5_code 13 = .ok (.bipush 120, 2) := by decide +kernel
theorem d_tk_endOf_15 : decode prog_12_method_5_code 15 = .ok (.if_icmp .ge (12), 3) := by decide +kernel
theorem d_tk_endOf_18 : decode prog_12_method_5_code 18 = .ok (.aload_n 0, 1) := by decide +kernel
theorem d_tk_endOf_19 : decode prog_12_method_5_code 19 = .ok (.getfield 18, 3) := by decide +kernel
theorem d_tk_endOf_22 : decode prog_12_method_5_code 22 = .ok (.iload_n 1, 1) := by decide +kernel
theorem d_tk_endOf_23 : decode prog_12_method_5_code 23 = .ok (.iaload, 1) := by decide +kernel
theorem d_tk_endOf_24 : decode prog_12_method_5_code 24 = .ok (.goto (4), 3) := by decide +kernel
theorem d_tk_endOf_27 : decode prog_12_method_5_code 27 = .ok (.iconst 0, 1) := by decide +kernel
theorem d_tk_endOf_28 : decode prog_12_method_5_code 28 = .ok (.ireturn, 1) := by decide +kernel
theorem d_tk_numberOf_0 : decode prog_12_method_6_code 0 = .ok (.iload_n 1, 1) := by decide +kernel
theorem d_tk_numberOf_1 : decode prog_12_method_6_code 1 = .ok (.ifCond .lt (26), 3) := by decide +kernel
theorem d_tk_numberOf_4 : decode prog_12_method_6_code 4 = .ok (.iload_n 1, 1) := by decide +kernel
theorem d_tk_numberOf_5 : decode prog_12_method_6_code 5 = .ok (.aload_n 0, 1) := by decide +kernel
theorem d_tk_numberOf_6 : decode prog_12_method_6_code 6 = .ok (.getfield 24, 3) := by decide +kernel
theorem d_tk_numberOf_9 : decode prog_12_method_6_code 9 = .ok (.if_icmp .ge (18), 3) := by decide +kernel
theorem d_tk_numberOf_12 : decode prog_12_method_6_code 12 = .ok (.iload_n 1, 1) := by decide +kernel
theorem d_tk_numberOf_13 : decode prog_12_method_6_code 13 = .ok (.bipush 120, 2) := by decide +kernel
theorem d_tk_numberOf_15 : decode prog_12_method_6_code 15 = .ok (.if_icmp .ge (12), 3) := by decide +kernel
theorem d_tk_numberOf_18 : decode prog_12_method_6_code 18 = .ok (.aload_n 0, 1) := by decide +kernel
theorem d_tk_numberOf_19 : decode prog_12_method_6_code 19 = .ok (.getfield 21, 3) := by decide +kernel
theorem d_tk_numberOf_22 : decode prog_12_method_6_code 22 = .ok (.iload_n 1, 1) := by decide +kernel
theorem d_tk_numberOf_23 : decode prog_12_method_6_code 23 = .ok (.iaload, 1) := by decide +kernel
theorem d_tk_numberOf_24 : decode prog_12_method_6_code 24 = .ok (.goto (4), 3) := by decide +kernel
theorem d_tk_numberOf_27 : decode prog_12_method_6_code 27 = .ok (.iconst 0, 1) := by decide +kernel
theorem d_tk_numberOf_28 : decode prog_12_method_6_code 28 = .ok (.ireturn, 1) := by decide +kernel
theorem d_tk_addFrom_0 : decode prog_12_method_7_code 0 = .ok (.aload_n 0, 1) := by decide +kernel
theorem d_tk_addFrom_1 : decode prog_12_method_7_code 1 = .ok (.aload_n 1, 1) := by decide +kernel
theorem d_tk_addFrom_2 : decode prog_12_method_7_code 2 = .ok (.iload_n 2, 1) := by decide +kernel
theorem d_tk_addFrom_3 : decode prog_12_method_7_code 3 = .ok (.invokevirtual 41, 3) := by decide +kernel
theorem d_tk_addFrom_6 : decode prog_12_method_7_code 6 = .ok (.istore_n 3, 1) := by decide +kernel
theorem d_tk_addFrom_7 : decode prog_12_method_7_code 7 = .ok (.iload_n 3, 1) := by decide +kernel
theorem d_tk_addFrom_8 : decode prog_12_method_7_code 8 = .ok (.bipush 32, 2) := by decide +kernel
theorem d_tk_addFrom_10 : decode prog_12_method_7_code 10 = .ok (.if_icmp .ne (7), 3) := by decide +kernel
theorem d_tk_addFrom_13 : decode prog_12_method_7_code 13 = .ok (.iload_n 2, 1) := by decide +kernel
theorem d_tk_addFrom_14 : decode prog_12_method_7_code 14 = .ok (.iconst 1, 1) := by decide +kernel
theorem d_tk_addFrom_15 : decode prog_12_method_7_code 15 = .ok (.iadd, 1) := by decide +kernel
theorem d_tk_addFrom_16 : decode prog_12_method_7_code 16 = .ok (.ireturn, 1) := by decide +kernel
theorem d_tk_addFrom_17 : decode prog_12_method_7_code 17 = .ok (.iload_n 3, 1) := by decide +kernel
theorem d_tk_addFrom_18 : decode prog_12_method_7_code 18 = .ok (.invokestatic 45, 3) := by decide +kernel
theorem d_tk_addFrom_21 : decode prog_12_method_7_code 21 = .ok (.ifCond .eq (10), 3) := by decide +kernel
theorem d_tk_addFrom_24 : decode prog_12_method_7_code 24 = .ok (.aload_n 0, 1) := by decide +kernel
theorem d_tk_addFrom_25 : decode prog_12_method_7_code 25 = .ok (.aload_n 1, 1) := by decide +kernel
theorem d_tk_addFrom_26 : decode prog_12_method_7_code 26 = .ok (.iload_n 2, 1) := by decide +kernel
theorem d_tk_addFrom_27 : decode prog_12_method_7_code 27 = .ok (.invokevirtual 49, 3) := by decide +kernel
theorem d_tk_addFrom_30 : decode prog_12_method_7_code 30 = .ok (.ireturn, 1) := by decide +kernel
theorem d_tk_addFrom_31 : decode prog_12_method_7_code 31 = .ok (.iload_n 3, 1) := by decide +kernel
theorem d_tk_addFrom_32 : decode prog_12_method_7_code 32 = .ok (.aload_n 0, 1) := by decide +kernel
theorem d_tk_addFrom_33 : decode prog_12_method_7_code 33 = .ok (.aload_n 1, 1) := by decide +kernel
theorem d_tk_addFrom_34 : decode prog_12_method_7_code 34 = .ok (.iload_n 2, 1) := by decide +kernel
theorem d_tk_addFrom_35 : decode prog_12_method_7_code 35 = .ok (.iconst 1, 1) := by decide +kernel
theorem d_tk_addFrom_36 : decode prog_12_method_7_code 36 = .ok (.iadd, 1) := by decide +kernel
theorem d_tk_addFrom_37 : decode prog_12_method_7_code 37 = .ok (.invokevirtual 41, 3) := by decide +kernel
theorem d_tk_addFrom_40 : decode prog_12_method_7_code 40 = .ok (.invokestatic 52, 3) := by decide +kernel
theorem d_tk_addFrom_43 : decode prog_12_method_7_code 43 = .ok (.istore 4, 2) := by decide +kernel
theorem d_tk_addFrom_45 : decode prog_12_method_7_code 45 = .ok (.iload 4, 2) := by decide +kernel
theorem d_tk_addFrom_47 : decode prog_12_method_7_code 47 = .ok (.sipush 257, 3) := by decide +kernel
theorem d_tk_addFrom_50 : decode prog_12_method_7_code 50 = .ok (.if_icmp .eq (15), 3) := by decide +kernel
theorem d_tk_addFrom_53 : decode prog_12_method_7_code 53 = .ok (.aload_n 0, 1) := by decide +kernel
theorem d_tk_addFrom_54 : decode prog_12_method_7_code 54 = .ok (.iload 4, 2) := by decide +kernel
theorem d_tk_addFrom_56 : decode prog_12_method_7_code 56 = .ok (.iload_n 2, 1) := by decide +kernel
theorem d_tk_addFrom_57 : decode prog_12_method_7_code 57 = .ok (.iload_n 2, 1) := by decide +kernel
theorem d_tk_addFrom_58 : decode prog_12_method_7_code 58 = .ok (.iconst 2, 1) := by decide +kernel
theorem d_tk_addFrom_59 : decode prog_12_method_7_code 59 = .ok (.iadd, 1) := by decide +kernel
theorem d_tk_addFrom_60 : decode prog_12_method_7_code 60 = .ok (.iconst 0, 1) := by decide +kernel
theorem d_tk_addFrom_61 : decode prog_12_method_7_code 61 = .ok (.invokevirtual 56, 3) := by decide +kernel
theorem d_tk_addFrom_64 : decode prog_12_method_7_code 64 = .ok (.ireturn, 1) := by decide +kernel
theorem d_tk_addFrom_65 : decode prog_12_method_7_code 65 = .ok (.iload_n 3, 1) := by decide +kernel
theorem d_tk_addFrom_66 : decode prog_12_method_7_code 66 = .ok (.invokestatic 60, 3) := by decide +kernel
theorem d_tk_addFrom_69 : decode prog_12_method_7_code 69 = .ok (.ifCond .eq (19), 3) := by decide +kernel
theorem d_tk_addFrom_72 : decode prog_12_method_7_code 72 = .ok (.aload_n 0, 1) := by decide +kernel
theorem d_tk_addFrom_73 : decode prog_12_method_7_code 73 = .ok (.sipush 259, 3) := by decide +kernel
theorem d_tk_addFrom_76 : decode prog_12_method_7_code 76 = .ok (.iload_n 2, 1) := by decide +kernel
theorem d_tk_addFrom_77 : decode prog_12_method_7_code 77 = .ok (.iload_n 2, 1) := by decide +kernel
theorem d_tk_addFrom_78 : decode prog_12_method_7_code 78 = .ok (.iconst 1, 1) := by decide +kernel
theorem d_tk_addFrom_79 : decode prog_12_method_7_code 79 = .ok (.iadd, 1) := by decide +kernel
theorem d_tk_addFrom_80 : decode prog_12_method_7_code 80 = .ok (.iload_n 3, 1) := by decide +kernel
theorem d_tk_addFrom_81 : decode prog_12_method_7_code 81 = .ok (.bipush 97, 2) := by decide +kernel
theorem d_tk_addFrom_83 : decode prog_12_method_7_code 83 = .ok (.isub, 1) := by decide +kernel
theorem d_tk_addFrom_84 : decode prog_12_method_7_code 84 = .ok (.invokevirtual 56, 3) := by decide +kernel
theorem d_tk_addFrom_87 : decode prog_12_method_7_code 87 = .ok (.ireturn, 1) := by decide +kernel
theorem d_tk_addFrom_88 : decode prog_12_method_7_code 88 = .ok (.aload_n 0, 1) := by decide +kernel
theorem d_tk_addFrom_89 : decode prog_12_method_7_code 89 = .ok (.iload_n 3, 1) := by decide +kernel
theorem d_tk_addFrom_90 : decode prog_12_method_7_code 90 = .ok (.bipush 38, 2) := by decide +kernel
theorem d_tk_addFrom_92 : decode prog_12_method_7_code 92 = .ok (.if_icmp .ne (9), 3) := by decide +kernel
theorem d_tk_addFrom_95 : decode prog_12_method_7_code 95 = .ok (.sipush 257, 3) := by decide +kernel
theorem d_tk_addFrom_98 : decode prog_12_method_7_code 98 = .ok (.goto (4), 3) := by decide +kernel
theorem d_tk_addFrom_101 : decode prog_12_method_7_code 101 = .ok (.iload_n 3, 1) := by decide +kernel
theorem d_tk_addFrom_102 : decode prog_12_method_7_code 102 = .ok (.iload_n 2, 1) := by decide +kernel
theorem d_tk_addFrom_103 : decode prog_12_method_7_code 103 = .ok (.iload_n 2, 1) := by decide +kernel
theorem d_tk_addFrom_104 : decode prog_12_method_7_code 104 = .ok (.iconst 1, 1) := by decide +kernel
theorem d_tk_addFrom_105 : decode prog_12_method_7_code 105 = .ok (.iadd, 1) := by decide +kernel
theorem d_tk_addFrom_106 : decode prog_12_method_7_code 106 = .ok (.iconst 0, 1) := by decide +kernel
theorem d_tk_addFrom_107 : decode prog_12_method_7_code 107 = .ok (.invokevirtual 56, 3) := by decide +kernel
theorem d_tk_addFrom_110 : decode prog_12_method_7_code 110 = .ok (.ireturn, 1) := by decide +kernel
theorem d_tk_addNumber_0 : decode prog_12_method_8_code 0 = .ok (.iload_n 2, 1) := by decide +kernel
theorem d_tk_addNumber_1 : decode prog_12_method_8_code 1 = .ok (.istore_n 3, 1) := by decide +kernel
theorem d_tk_addNumber_2 : decode prog_12_method_8_code 2 = .ok (.iconst 0, 1) := by decide +kernel
theorem d_tk_addNumber_3 : decode prog_12_method_8_code 3 = .ok (.istore 4, 2) := by decide +kernel
theorem d_tk_addNumber_5 : decode prog_12_method_8_code 5 = .ok (.iload_n 2, 1) := by decide +kernel
theorem d_tk_addNumber_6 : decode prog_12_method_8_code 6 = .ok (.istore 5, 2) := by decide +kernel
theorem d_tk_addNumber_8 : decode prog_12_method_8_code 8 = .ok (.iload 5, 2) := by decide +kernel
theorem d_tk_addNumber_10 : decode prog_12_method_8_code 10 = .ok (.aload_n 0, 1) := by decide +kernel
theorem d_tk_addNumber_11 : decode prog_12_method_8_code 11 = .ok (.getfield 34, 3) := by decide +kernel
theorem d_tk_addNumber_14 : decode prog_12_method_8_code 14 = .ok (.if_icmp .ge (45), 3) := by decide +kernel
theorem d_tk_addNumber_17 : decode prog_12_method_8_code 17 = .ok (.aload_n 0, 1) := by decide +kernel
theorem d_tk_addNumber_18 : decode prog_12_method_8_code 18 = .ok (.aload_n 1, 1) := by decide +kernel
theorem d_tk_addNumber_19 : decode prog_12_method_8_code 19 = .ok (.iload 5, 2) := by decide +kernel
theorem d_tk_addNumber_21 : decode prog_12_method_8_code 21 = .ok (.invokevirtual 41, 3) := by decide +kernel
theorem d_tk_addNumber_24 : decode prog_12_method_8_code 24 = .ok (.invokestatic 45, 3) := by decide +kernel
theorem d_tk_addNumber_27 : decode prog_12_method_8_code 27 = .ok (.ifCond .eq (32), 3) := by decide +kernel
theorem d_tk_addNumber_30 : decode prog_12_method_8_code 30 = .ok (.iload 4, 2) := by decide +kernel
theorem d_tk_addNumber_32 : decode prog_12_method_8_code 32 = .ok (.bipush 10, 2) := by decide +kernel
theorem d_tk_addNumber_34 : decode prog_12_method_8_code 34 = .ok (.imul, 1) := by decide +kernel
theorem d_tk_addNumber_35 : decode prog_12_method_8_code 35 = .ok (.aload_n 0, 1) := by decide +kernel
theorem d_tk_addNumber_36 : decode prog_12_method_8_code 36 = .ok (.aload_n 1, 1) := by decide +kernel
theorem d_tk_addNumber_37 : decode prog_12_method_8_code 37 = .ok (.iload 5, 2) := by decide +kernel
theorem d_tk_addNumber_39 : decode prog_12_method_8_code 39 = .ok (.invokevirtual 41, 3) := by decide +kernel
theorem d_tk_addNumber_42 : decode prog_12_method_8_code 42 = .ok (.bipush 48, 2) := by decide +kernel
theorem d_tk_addNumber_44 : decode prog_12_method_8_code 44 = .ok (.isub, 1) := by decide +kernel
theorem d_tk_addNumber_45 : decode prog_12_method_8_code 45 = .ok (.iadd, 1) := by decide +kernel
theorem d_tk_addNumber_46 : decode prog_12_method_8_code 46 = .ok (.istore 4, 2) := by decide +kernel
theorem d_tk_addNumber_48 : decode prog_12_method_8_code 48 = .ok (.iload 5, 2) := by decide +kernel
theorem d_tk_addNumber_50 : decode prog_12_method_8_code 50 = .ok (.iconst 1, 1) := by decide +kernel
theorem d_tk_addNumber_51 : decode prog_12_method_8_code 51 = .ok (.iadd, 1) := by decide +kernel
theorem d_tk_addNumber_52 : decode prog_12_method_8_code 52 = .ok (.istore_n 3, 1) := by decide +kernel
theorem d_tk_addNumber_53 : decode prog_12_method_8_code 53 = .ok (.iinc 5 (1), 3) := by decide +kernel
theorem d_tk_addNumber_56 : decode prog_12_method_8_code 56 = .ok (.goto (-48), 3) := by decide +kernel
theorem d_tk_addNumber_59 : decode prog_12_method_8_code 59 = .ok (.aload_n 0, 1) := by decide +kernel
theorem d_tk_addNumber_60 : decode prog_12_method_8_code 60 = .ok (.iload_n 3, 1) := by decide +kernel
theorem d_tk_addNumber_61 : decode prog_12_method_8_code 61 = .ok (.iload_n 2, 1) := by decide +kernel
theorem d_tk_addNumber_62 : decode prog_12_method_8_code 62 = .ok (.isub, 1) := by decide +kernel
theorem d_tk_addNumber_63 : decode prog_12_method_8_code 63 = .ok (.iconst 4, 1) := by decide +kernel
theorem d_tk_addNumber_64 : decode prog_12_method_8_code 64 = .ok (.if_icmp .le (9), 3) := by decide +kernel
theorem d_tk_addNumber_67 : decode prog_12_method_8_code 67 = .ok (.sipush 257, 3) := by decide +kernel
theorem d_tk_addNumber_70 : decode prog_12_method_8_code 70 = .ok (.goto (6), 3) := by decide +kernel
theorem d_tk_addNumber_73 : decode prog_12_method_8_code 73 = .ok (.sipush 258, 3) := by decide +kernel
theorem d_tk_addNumber_76 : decode prog_12_method_8_code 76 = .ok (.iload_n 2, 1) := by decide +kernel
theorem d_tk_addNumber_77 : decode prog_12_method_8_code 77 = .ok (.iload_n 3, 1) := by decide +kernel
theorem d_tk_addNumber_78 : decode prog_12_method_8_code 78 = .ok (.iload 4, 2) := by decide +kernel
theorem d_tk_addNumber_80 : decode prog_12_method_8_code 80 = .ok (.invokevirtual 56, 3) := by decide +kernel
theorem d_tk_addNumber_83 : decode prog_12_method_8_code 83 = .ok (.ireturn, 1) := by decide +kernel
theorem d_tk_add_0 : decode prog_12_method_9_code 0 = .ok (.aload_n 0, 1) := by decide +kernel
theorem d_tk_add_1 : decode prog_12_method_9_code 1 = .ok (.getfield 24, 3) := by decide +kernel
theorem d_tk_add_4 : decode prog_12_method_9_code 4 = .ok (.bipush 120, 2) := by decide +kernel
theorem d_tk_add_6 : decode prog_12_method_9_code 6 = .ok (.if_icmp .ge (54), 3) := by decide +kernel
theorem d_tk_add_9 : decode prog_12_method_9_code 9 = .ok (.aload_n 0, 1) := by decide +kernel
theorem d_tk_add_10 : decode prog_12_method_9_code 10 = .ok (.getfield 9, 3) := by decide +kernel
theorem d_tk_add_13 : decode prog_12_method_9_code 13 = .ok (.aload_n 0, 1) := by decide +kernel
theorem d_tk_add_14 : decode prog_12_method_9_code 14 = .ok (.getfield 24, 3) := by decide +kernel
theorem d_tk_add_17 : decode prog_12_method_9_code 17 = .ok (.iload_n 1, 1) := by decide +kernel
theorem d_tk_add_18 : decode prog_12_method_9_code 18 = .ok (.iastore, 1) := by decide +kernel
theorem d_tk_add_19 : decode prog_12_method_9_code 19 = .ok (.aload_n 0, 1) := by decide +kernel
theorem d_tk_add_20 : decode prog_12_method_9_code 20 = .ok (.getfield 15, 3) := by decide +kernel
theorem d_tk_add_23 : decode prog_12_method_9_code 23 = .ok (.aload_n 0, 1) := by decide +kernel
theorem d_tk_add_24 : decode prog_12_method_9_code 24 = .ok (.getfield 24, 3) := by decide +kernel
theorem d_tk_add_27 : decode prog_12_method_9_code 27 = .ok (.iload_n 2, 1) := by decide +kernel
theorem d_tk_add_28 : decode prog_12_method_9_code 28 = .ok (.iastore, 1) := by decide +kernel
theorem d_tk_add_29 : decode prog_12_method_9_code 29 = .ok (.aload_n 0, 1) := by decide +kernel
theorem d_tk_add_30 : decode prog_12_method_9_code 30 = .ok (.getfield 18, 3) := by decide +kernel
theorem d_tk_add_33 : decode prog_12_method_9_code 33 = .ok (.aload_n 0, 1) := by decide +kernel
theorem d_tk_add_34 : decode prog_12_method_9_code 34 = .ok (.getfield 24, 3) := by decide +kernel
theorem d_tk_add_37 : decode prog_12_method_9_code 37 = .ok (.iload_n 3, 1) := by decide +kernel
theorem d_tk_add_38 : decode prog_12_method_9_code 38 = .ok (.iastore, 1) := by decide +kernel
theorem d_tk_add_39 : decode prog_12_method_9_code 39 = .ok (.aload_n 0, 1) := by decide +kernel
theorem d_tk_add_40 : decode prog_12_method_9_code 40 = .ok (.getfield 21, 3) := by decide +kernel
theorem d_tk_add_43 : decode prog_12_method_9_code 43 = .ok (.aload_n 0, 1) := by decide +kernel
theorem d_tk_add_44 : decode prog_12_method_9_code 44 = .ok (.getfield 24, 3) := by decide +kernel
theorem d_tk_add_47 : decode prog_12_method_9_code 47 = .ok (.iload 4, 2) := by decide +kernel
theorem d_tk_add_49 : decode prog_12_method_9_code 49 = .ok (.iastore, 1) := by decide +kernel
theorem d_tk_add_50 : decode prog_12_method_9_code 50 = .ok (.aload_n 0, 1) := by decide +kernel
theorem d_tk_add_51 : decode prog_12_method_9_code 51 = .ok (.dup, 1) := by decide +kernel
theorem d_tk_add_52 : decode prog_12_method_9_code 52 = .ok (.getfield 24, 3) := by decide +kernel
theorem d_tk_add_55 : decode prog_12_method_9_code 55 = .ok (.iconst 1, 1) := by decide +kernel
theorem d_tk_add_56 : decode prog_12_method_9_code 56 = .ok (.iadd, 1) := by decide +kernel
theorem d_tk_add_57 : decode prog_12_method_9_code 57 = .ok (.putfield 24, 3) := by decide +kernel
theorem d_tk_add_60 : decode prog_12_method_9_code 60 = .ok (.iload_n 3, 1) := by decide +kernel
theorem d_tk_add_61 : decode prog_12_method_9_code 61 = .ok (.ireturn, 1) := by decide +kernel
theorem d_tk_characterAt_0 : decode prog_12_method_10_code 0 = .ok (.iload_n 2, 1) := by decide +kernel
theorem d_tk_characterAt_1 : decode prog_12_method_10_code 1 = .ok (.ifCond .lt (23), 3) := by decide +kernel
theorem d_tk_characterAt_4 : decode prog_12_method_10_code 4 = .ok (.iload_n 2, 1) := by decide +kernel
theorem d_tk_characterAt_5 : decode prog_12_method_10_code 5 = .ok (.aload_n 0, 1) := by decide +kernel
theorem d_tk_characterAt_6 : decode prog_12_method_10_code 6 = .ok (.getfield 34, 3) := by decide +kernel
theorem d_tk_characterAt_9 : decode prog_12_method_10_code 9 = .ok (.if_icmp .ge (15), 3) := by decide +kernel
theorem d_tk_characterAt_12 : decode prog_12_method_10_code 12 = .ok (.iload_n 2, 1) := by decide +kernel
theorem d_tk_characterAt_13 : decode prog_12_method_10_code 13 = .ok (.aload_n 1, 1) := by decide +kernel
theorem d_tk_characterAt_14 : decode prog_12_method_10_code 14 = .ok (.arraylength, 1) := by decide +kernel
theorem d_tk_characterAt_15 : decode prog_12_method_10_code 15 = .ok (.if_icmp .ge (9), 3) := by decide +kernel
theorem d_tk_characterAt_18 : decode prog_12_method_10_code 18 = .ok (.aload_n 1, 1) := by decide +kernel
theorem d_tk_characterAt_19 : decode prog_12_method_10_code 19 = .ok (.iload_n 2, 1) := by decide +kernel
theorem d_tk_characterAt_20 : decode prog_12_method_10_code 20 = .ok (.caload, 1) := by decide +kernel
theorem d_tk_characterAt_21 : decode prog_12_method_10_code 21 = .ok (.goto (5), 3) := by decide +kernel
theorem d_tk_characterAt_24 : decode prog_12_method_10_code 24 = .ok (.bipush 32, 2) := by decide +kernel
theorem d_tk_characterAt_26 : decode prog_12_method_10_code 26 = .ok (.ireturn, 1) := by decide +kernel
theorem d_tk_pairOf_0 : decode prog_12_method_11_code 0 = .ok (.iload_n 1, 1) := by decide +kernel
theorem d_tk_pairOf_1 : decode prog_12_method_11_code 1 = .ok (.bipush 61, 2) := by decide +kernel
theorem d_tk_pairOf_3 : decode prog_12_method_11_code 3 = .ok (.if_icmp .ne (65), 3) := by decide +kernel
theorem d_tk_pairOf_6 : decode prog_12_method_11_code 6 = .ok (.iload_n 0, 1) := by decide +kernel
theorem d_tk_pairOf_7 : decode prog_12_method_11_code 7 = .ok (.lookupswitch (57) #[(33, 45), (60, 49), (61, 41), (62, 53)], 41) := by decide +kernel
theorem d_tk_pairOf_48 : decode prog_12_method_11_code 48 = .ok (.sipush 260, 3) := by decide +kernel
theorem d_tk_pairOf_51 : decode prog_12_method_11_code 51 = .ok (.ireturn, 1) := by decide +kernel
theorem d_tk_pairOf_52 : decode prog_12_method_11_code 52 = .ok (.sipush 261, 3) := by decide +kernel
theorem d_tk_pairOf_55 : decode prog_12_method_11_code 55 = .ok (.ireturn, 1) := by decide +kernel
theorem d_tk_pairOf_56 : decode prog_12_method_11_code 56 = .ok (.sipush 262, 3) := by decide +kernel
theorem d_tk_pairOf_59 : decode prog_12_method_11_code 59 = .ok (.ireturn, 1) := by decide +kernel
theorem d_tk_pairOf_60 : decode prog_12_method_11_code 60 = .ok (.sipush 263, 3) := by decide +kernel
theorem d_tk_pairOf_63 : decode prog_12_method_11_code 63 = .ok (.ireturn, 1) := by decide +kernel
theorem d_tk_pairOf_64 : decode prog_12_method_11_code 64 = .ok (.sipush 257, 3) := by decide +kernel
theorem d_tk_pairOf_67 : decode prog_12_method_11_code 67 = .ok (.ireturn, 1) := by decide +kernel
theorem d_tk_pairOf_68 : decode prog_12_method_11_code 68 = .ok (.iload_n 0, 1) := by decide +kernel
theorem d_tk_pairOf_69 : decode prog_12_method_11_code 69 = .ok (.iload_n 1, 1) := by decide +kernel
theorem d_tk_pairOf_70 : decode prog_12_method_11_code 70 = .ok (.if_icmp .eq (7), 3) := by decide +kernel
theorem d_tk_pairOf_73 : decode prog_12_method_11_code 73 = .ok (.sipush 257, 3) := by decide +kernel
theorem d_tk_pairOf_76 : decode prog_12_method_11_code 76 = .ok (.ireturn, 1) := by decide +kernel
theorem d_tk_pairOf_77 : decode prog_12_method_11_code 77 = .ok (.iload_n 0, 1) := by decide +kernel
theorem d_tk_pairOf_78 : decode prog_12_method_11_code 78 = .ok (.bipush 38, 2) := by decide +kernel
theorem d_tk_pairOf_80 : decode prog_12_method_11_code 80 = .ok (.if_icmp .ne (9), 3) := by decide +kernel
theorem d_tk_pairOf_83 : decode prog_12_method_11_code 83 = .ok (.sipush 264, 3) := by decide +kernel
theorem d_tk_pairOf_86 : decode prog_12_method_11_code 86 = .ok (.goto (30), 3) := by decide +kernel
theorem d_tk_pairOf_89 : decode prog_12_method_11_code 89 = .ok (.iload_n 0, 1) := by decide +kernel
theorem d_tk_pairOf_90 : decode prog_12_method_11_code 90 = .ok (.bipush 124, 2) := by decide +kernel
theorem d_tk_pairOf_92 : decode prog_12_method_11_code 92 = .ok (.if_icmp .ne (9), 3) := by decide +kernel
theorem d_tk_pairOf_95 : decode prog_12_method_11_code 95 = .ok (.sipush 265, 3) := by decide +kernel
theorem d_tk_pairOf_98 : decode prog_12_method_11_code 98 = .ok (.goto (18), 3) := by decide +kernel
theorem d_tk_pairOf_101 : decode prog_12_method_11_code 101 = .ok (.iload_n 0, 1) := by decide +kernel
theorem d_tk_pairOf_102 : decode prog_12_method_11_code 102 = .ok (.bipush 62, 2) := by decide +kernel
theorem d_tk_pairOf_104 : decode prog_12_method_11_code 104 = .ok (.if_icmp .ne (9), 3) := by decide +kernel
theorem d_tk_pairOf_107 : decode prog_12_method_11_code 107 = .ok (.sipush 266, 3) := by decide +kernel
theorem d_tk_pairOf_110 : decode prog_12_method_11_code 110 = .ok (.goto (6), 3) := by decide +kernel
theorem d_tk_pairOf_113 : decode prog_12_method_11_code 113 = .ok (.sipush 257, 3) := by decide +kernel
theorem d_tk_pairOf_116 : decode prog_12_method_11_code 116 = .ok (.ireturn, 1) := by decide +kernel
theorem d_lw_law_0 : decode code 0 = .ok (.new 7, 3) := by decide +kernel
theorem d_lw_law_3 : decode code 3 = .ok (.dup, 1) := by decide +kernel
theorem d_lw_law_4 : decode code 4 = .ok (.invokespecial 9, 3) := by decide +kernel
theorem d_lw_law_7 : decode code 7 = .ok (.astore_n 1, 1) := by decide +kernel
theorem d_lw_law_8 : decode code 8 = .ok (.new 10, 3) := by decide +kernel
theorem d_lw_law_11 : decode code 11 = .ok (.dup, 1) := by decide +kernel
theorem d_lw_law_12 : decode code 12 = .ok (.invokespecial 12, 3) := by decide +kernel
theorem d_lw_law_15 : decode code 15 = .ok (.astore_n 2, 1) := by decide +kernel
theorem d_lw_law_16 : decode code 16 = .ok (.iconst 0, 1) := by decide +kernel
theorem d_lw_law_17 : decode code 17 = .ok (.istore_n 3, 1) := by decide +kernel
theorem d_lw_law_18 : decode code 18 = .ok (.iload_n 3, 1) := by decide +kernel
theorem d_lw_law_19 : decode code 19 = .ok (.aload_n 0, 1) := by decide +kernel
theorem d_lw_law_20 : decode code 20 = .ok (.arraylength, 1) := by decide +kernel
theorem d_lw_law_21 : decode code 21 = .ok (.iconst 4, 1) := by decide +kernel
theorem d_lw_law_22 : decode code 22 = .ok (.isub, 1) := by decide +kernel
theorem d_lw_law_23 : decode code 23 = .ok (.if_icmp .gt (511), 3) := by decide +kernel
theorem d_lw_law_26 : decode code 26 = .ok (.aload_n 0, 1) := by decide +kernel
theorem d_lw_law_27 : decode code 27 = .ok (.iload_n 3, 1) := by decide +kernel
theorem d_lw_law_28 : decode code 28 = .ok (.iaload, 1) := by decide +kernel
theorem d_lw_law_29 : decode code 29 = .ok (.bipush 15, 2) := by decide +kernel
theorem d_lw_law_31 : decode code 31 = .ok (.iand, 1) := by decide +kernel
theorem d_lw_law_32 : decode code 32 = .ok (.tableswitch (496) 0 15 #[80, 143, 154, 167, 180, 193, 206, 229, 252, 275, 308, 341, 364, 397, 430, 453], 80) := by decide +kernel
theorem d_lw_law_112 : decode code 112 = .ok (.aload_n 1, 1) := by decide +kernel
theorem d_lw_law_113 : decode code 113 = .ok (.aload_n 0, 1) := by decide +kernel
theorem d_lw_law_114 : decode code 114 = .ok (.iload_n 3, 1) := by decide +kernel
theorem d_lw_law_115 : decode code 115 = .ok (.iconst 1, 1) := by decide +kernel
theorem d_lw_law_116 : decode code 116 = .ok (.iadd, 1) := by decide +kernel
theorem d_lw_law_117 : decode code 117 = .ok (.iaload, 1) := by decide +kernel
theorem d_lw_law_118 : decode code 118 = .ok (.i2l, 1) := by decide +kernel
theorem d_lw_law_119 : decode code 119 = .ok (.bipush 32, 2) := by decide +kernel
theorem d_lw_law_121 : decode code 121 = .ok (.lshl, 1) := by decide +kernel
theorem d_lw_law_122 : decode code 122 = .ok (.aload_n 0, 1) := by decide +kernel
theorem d_lw_law_123 : decode code 123 = .ok (.iload_n 3, 1) := by decide +kernel
theorem d_lw_law_124 : decode code 124 = .ok (.iconst 2, 1) := by decide +kernel
theorem d_lw_law_125 : decode code 125 = .ok (.iadd, 1) := by decide +kernel
theorem d_lw_law_126 : decode code 126 = .ok (.iaload, 1) := by decide +kernel
theorem d_lw_law_127 : decode code 127 = .ok (.i2l, 1) := by decide +kernel
theorem d_lw_law_128 : decode code 128 = .ok (.ldc2_w 13, 3) := by decide +kernel
theorem d_lw_law_131 : decode code 131 = .ok (.land, 1) := by decide +kernel
theorem d_lw_law_132 : decode code 132 = .ok (.lor, 1) := by decide +kernel
theorem d_lw_law_133 : decode code 133 = .ok (.aload_n 0, 1) := by decide +kernel
theorem d_lw_law_134 : decode code 134 = .ok (.iload_n 3, 1) := by decide +kernel
theorem d_lw_law_135 : decode code 135 = .ok (.iconst 3, 1) := by decide +kernel
theorem d_lw_law_136 : decode code 136 = .ok (.iadd, 1) := by decide +kernel
theorem d_lw_law_137 : decode code 137 = .ok (.iaload, 1) := by decide +kernel
theorem d_lw_law_138 : decode code 138 = .ok (.invokevirtual 15, 3) := by decide +kernel
theorem d_lw_law_141 : decode code 141 = .ok (.aload_n 2, 1) := by decide +kernel
theorem d_lw_law_142 : decode code 142 = .ok (.aload_n 0, 1) := by decide +kernel
theorem d_lw_law_143 : decode code 143 = .ok (.iload_n 3, 1) := by decide +kernel
theorem d_lw_law_144 : decode code 144 = .ok (.iconst 1, 1) := by decide +kernel
theorem d_lw_law_145 : decode code 145 = .ok (.iadd, 1) := by decide +kernel
theorem d_lw_law_146 : decode code 146 = .ok (.iaload, 1) := by decide +kernel
theorem d_lw_law_147 : decode code 147 = .ok (.i2l, 1) := by decide +kernel
theorem d_lw_law_148 : decode code 148 = .ok (.bipush 32, 2) := by decide +kernel
theorem d_lw_law_150 : decode code 150 = .ok (.lshl, 1) := by decide +kernel
theorem d_lw_law_151 : decode code 151 = .ok (.aload_n 0, 1) := by decide +kernel
theorem d_lw_law_152 : decode code 152 = .ok (.iload_n 3, 1) := by decide +kernel
theorem d_lw_law_153 : decode code 153 = .ok (.iconst 2, 1) := by decide +kernel
theorem d_lw_law_154 : decode code 154 = .ok (.iadd, 1) := by decide +kernel
theorem d_lw_law_155 : decode code 155 = .ok (.iaload, 1) := by decide +kernel
theorem d_lw_law_156 : decode code 156 = .ok (.i2l, 1) := by decide +kernel
theorem d_lw_law_157 : decode code 157 = .ok (.ldc2_w 13, 3) := by decide +kernel
theorem d_lw_law_160 : decode code 160 = .ok (.land, 1) := by decide +kernel
theorem d_lw_law_161 : decode code 161 = .ok (.lor, 1) := by decide +kernel
theorem d_lw_law_162 : decode code 162 = .ok (.aload_n 0, 1) := by decide +kernel
theorem d_lw_law_163 : decode code 163 = .ok (.iload_n 3, 1) := by decide +kernel
theorem d_lw_law_164 : decode code 164 = .ok (.iconst 3, 1) := by decide +kernel
theorem d_lw_law_165 : decode code 165 = .ok (.iadd, 1) := by decide +kernel
theorem d_lw_law_166 : decode code 166 = .ok (.iaload, 1) := by decide +kernel
theorem d_lw_law_167 : decode code 167 = .ok (.invokevirtual 19, 3) := by decide +kernel
theorem d_lw_law_170 : decode code 170 = .ok (.if_icmp .eq (358), 3) := by decide +kernel
theorem d_lw_law_173 : decode code 173 = .ok (.iconst 0, 1) := by decide +kernel
theorem d_lw_law_174 : decode code 174 = .ok (.ireturn, 1) := by decide +kernel
theorem d_lw_law_175 : decode code 175 = .ok (.aload_n 1, 1) := by decide +kernel
theorem d_lw_law_176 : decode code 176 = .ok (.invokevirtual 20, 3) := by decide +kernel
theorem d_lw_law_179 : decode code 179 = .ok (.aload_n 2, 1) := by decide +kernel
theorem d_lw_law_180 : decode code 180 = .ok (.invokevirtual 23, 3) := by decide +kernel
theorem d_lw_law_183 : decode code 183 = .ok (.goto (345), 3) := by decide +kernel
theorem d_lw_law_186 : decode code 186 = .ok (.aload_n 1, 1) := by decide +kernel
theorem d_lw_law_187 : decode code 187 = .ok (.invokevirtual 24, 3) := by decide +kernel
theorem d_lw_law_190 : decode code 190 = .ok (.aload_n 2, 1) := by decide +kernel
theorem d_lw_law_191 : decode code 191 = .ok (.invokevirtual 28, 3) := by decide +kernel
theorem d_lw_law_194 : decode code 194 = .ok (.if_icmp .eq (334), 3) := by decide +kernel
theorem d_lw_law_197 : decode code 197 = .ok (.iconst 0, 1) := by decide +kernel
theorem d_lw_law_198 : decode code 198 = .ok (.ireturn, 1) := by decide +kernel
theorem d_lw_law_199 : decode code 199 = .ok (.aload_n 1, 1) := by decide +kernel
theorem d_lw_law_200 : decode code 200 = .ok (.invokevirtual 29, 3) := by decide +kernel
theorem d_lw_law_203 : decode code 203 = .ok (.aload_n 2, 1) := by decide +kernel
theorem d_lw_law_204 : decode code 204 = .ok (.invokevirtual 32, 3) := by decide +kernel
theorem d_lw_law_207 : decode code 207 = .ok (.if_icmp .eq (321), 3) := by decide +kernel
theorem d_lw_law_210 : decode code 210 = .ok (.iconst 0, 1) := by decide +kernel
theorem d_lw_law_211 : decode code 211 = .ok (.ireturn, 1) := by decide +kernel
theorem d_lw_law_212 : decode code 212 = .ok (.aload_n 1, 1) := by decide +kernel
theorem d_lw_law_213 : decode code 213 = .ok (.invokevirtual 33, 3) := by decide +kernel
theorem d_lw_law_216 : decode code 216 = .ok (.aload_n 2, 1) := by decide +kernel
theorem d_lw_law_217 : decode code 217 = .ok (.invokevirtual 36, 3) := by decide +kernel
theorem d_lw_law_220 : decode code 220 = .ok (.if_icmp .eq (308), 3) := by decide +kernel
theorem d_lw_law_223 : decode code 223 = .ok (.iconst 0, 1) := by decide +kernel
theorem d_lw_law_224 : decode code 224 = .ok (.ireturn, 1) := by decide +kernel
theorem d_lw_law_225 : decode code 225 = .ok (.aload_n 1, 1) := by decide +kernel
theorem d_lw_law_226 : decode code 226 = .ok (.invokevirtual 37, 3) := by decide +kernel
theorem d_lw_law_229 : decode code 229 = .ok (.aload_n 2, 1) := by decide +kernel
theorem d_lw_law_230 : decode code 230 = .ok (.invokevirtual 40, 3) := by decide +kernel
theorem d_lw_law_233 : decode code 233 = .ok (.if_icmp .eq (295), 3) := by decide +kernel
theorem d_lw_law_236 : decode code 236 = .ok (.iconst 0, 1) := by decide +kernel
theorem d_lw_law_237 : decode code 237 = .ok (.ireturn, 1) := by decide +kernel
theorem d_lw_law_238 : decode code 238 = .ok (.aload_n 1, 1) := by decide +kernel
theorem d_lw_law_239 : decode code 239 = .ok (.aload_n 0, 1) := by decide +kernel
theorem d_lw_law_240 : decode code 240 = .ok (.iload_n 3, 1) := by decide +kernel
theorem d_lw_law_241 : decode code 241 = .ok (.iconst 1, 1) := by decide +kernel
theorem d_lw_law_242 : decode code 242 = .ok (.iadd, 1) := by decide +kernel
theorem d_lw_law_243 : decode code 243 = .ok (.iaload, 1) := by decide +kernel
theorem d_lw_law_244 : decode code 244 = .ok (.invokevirtual 41, 3) := by decide +kernel
theorem d_lw_law_247 : decode code 247 = .ok (.aload_n 2, 1) := by decide +kernel
theorem d_lw_law_248 : decode code 248 = .ok (.aload_n 0, 1) := by decide +kernel
theorem d_lw_law_249 : decode code 249 = .ok (.iload_n 3, 1) := by decide +kernel
theorem d_lw_law_250 : decode code 250 = .ok (.iconst 1, 1) := by decide +kernel
theorem d_lw_law_251 : decode code 251 = .ok (.iadd, 1) := by decide +kernel
theorem d_lw_law_252 : decode code 252 = .ok (.iaload, 1) := by decide +kernel
theorem d_lw_law_253 : decode code 253 = .ok (.invokevirtual 45, 3) := by decide +kernel
theorem d_lw_law_256 : decode code 256 = .ok (.if_icmp .eq (272), 3) := by decide +kernel
theorem d_lw_law_259 : decode code 259 = .ok (.iconst 0, 1) := by decide +kernel
theorem d_lw_law_260 : decode code 260 = .ok (.ireturn, 1) := by decide +kernel
theorem d_lw_law_261 : decode code 261 = .ok (.aload_n 1, 1) := by decide +kernel
theorem d_lw_law_262 : decode code 262 = .ok (.aload_n 0, 1) := by decide +kernel
theorem d_lw_law_263 : decode code 263 = .ok (.iload_n 3, 1) := by decide +kernel
theorem d_lw_law_264 : decode code 264 = .ok (.iconst 1, 1) := by decide +kernel
theorem d_lw_law_265 : decode code 265 = .ok (.iadd, 1) := by decide +kernel
theorem d_lw_law_266 : decode code 266 = .ok (.iaload, 1) := by decide +kernel
theorem d_lw_law_267 : decode code 267 = .ok (.invokevirtual 46, 3) := by decide +kernel
theorem d_lw_law_270 : decode code 270 = .ok (.aload_n 2, 1) := by decide +kernel
theorem d_lw_law_271 : decode code 271 = .ok (.aload_n 0, 1) := by decide +kernel
theorem d_lw_law_272 : decode code 272 = .ok (.iload_n 3, 1) := by decide +kernel
theorem d_lw_law_273 : decode code 273 = .ok (.iconst 1, 1) := by decide +kernel
theorem d_lw_law_274 : decode code 274 = .ok (.iadd, 1) := by decide +kernel
theorem d_lw_law_275 : decode code 275 = .ok (.iaload, 1) := by decide +kernel
theorem d_lw_law_276 : decode code 276 = .ok (.invokevirtual 49, 3) := by decide +kernel
theorem d_lw_law_279 : decode code 279 = .ok (.if_icmp .eq (249), 3) := by decide +kernel
theorem d_lw_law_282 : decode code 282 = .ok (.iconst 0, 1) := by decide +kernel
theorem d_lw_law_283 : decode code 283 = .ok (.ireturn, 1) := by decide +kernel
theorem d_lw_law_284 : decode code 284 = .ok (.aload_n 1, 1) := by decide +kernel
theorem d_lw_law_285 : decode code 285 = .ok (.aload_n 0, 1) := by decide +kernel
theorem d_lw_law_286 : decode code 286 = .ok (.iload_n 3, 1) := by decide +kernel
theorem d_lw_law_287 : decode code 287 = .ok (.iconst 1, 1) := by decide +kernel
theorem d_lw_law_288 : decode code 288 = .ok (.iadd, 1) := by decide +kernel
theorem d_lw_law_289 : decode code 289 = .ok (.iaload, 1) := by decide +kernel
theorem d_lw_law_290 : decode code 290 = .ok (.invokevirtual 50, 3) := by decide +kernel
theorem d_lw_law_293 : decode code 293 = .ok (.aload_n 2, 1) := by decide +kernel
theorem d_lw_law_294 : decode code 294 = .ok (.aload_n 0, 1) := by decide +kernel
theorem d_lw_law_295 : decode code 295 = .ok (.iload_n 3, 1) := by decide +kernel
theorem d_lw_law_296 : decode code 296 = .ok (.iconst 1, 1) := by decide +kernel
theorem d_lw_law_297 : decode code 297 = .ok (.iadd, 1) := by decide +kernel
theorem d_lw_law_298 : decode code 298 = .ok (.iaload, 1) := by decide +kernel
theorem d_lw_law_299 : decode code 299 = .ok (.invokevirtual 54, 3) := by decide +kernel
theorem d_lw_law_302 : decode code 302 = .ok (.if_icmp .eq (226), 3) := by decide +kernel
theorem d_lw_law_305 : decode code 305 = .ok (.iconst 0, 1) := by decide +kernel
theorem d_lw_law_306 : decode code 306 = .ok (.ireturn, 1) := by decide +kernel
theorem d_lw_law_307 : decode code 307 = .ok (.aload_n 1, 1) := by decide +kernel
theorem d_lw_law_308 : decode code 308 = .ok (.aload_n 0, 1) := by decide +kernel
theorem d_lw_law_309 : decode code 309 = .ok (.iload_n 3, 1) := by decide +kernel
theorem d_lw_law_310 : decode code 310 = .ok (.iconst 1, 1) := by decide +kernel
theorem d_lw_law_311 : decode code 311 = .ok (.iadd, 1) := by decide +kernel
theorem d_lw_law_312 : decode code 312 = .ok (.iaload, 1) := by decide +kernel
theorem d_lw_law_313 : decode code 313 = .ok (.aload_n 0, 1) := by decide +kernel
theorem d_lw_law_314 : decode code 314 = .ok (.iload_n 3, 1) := by decide +kernel
theorem d_lw_law_315 : decode code 315 = .ok (.iconst 2, 1) := by decide +kernel
theorem d_lw_law_316 : decode code 316 = .ok (.iadd, 1) := by decide +kernel
theorem d_lw_law_317 : decode code 317 = .ok (.iaload, 1) := by decide +kernel
theorem d_lw_law_318 : decode code 318 = .ok (.invokevirtual 55, 3) := by decide +kernel
theorem d_lw_law_321 : decode code 321 = .ok (.aload_n 2, 1) := by decide +kernel
theorem d_lw_law_322 : decode code 322 = .ok (.aload_n 0, 1) := by decide +kernel
theorem d_lw_law_323 : decode code 323 = .ok (.iload_n 3, 1) := by decide +kernel
theorem d_lw_law_324 : decode code 324 = .ok (.iconst 1, 1) := by decide +kernel
theorem d_lw_law_325 : decode code 325 = .ok (.iadd, 1) := by decide +kernel
theorem d_lw_law_326 : decode code 326 = .ok (.iaload, 1) := by decide +kernel
theorem d_lw_law_327 : decode code 327 = .ok (.aload_n 0, 1) := by decide +kernel
theorem d_lw_law_328 : decode code 328 = .ok (.iload_n 3, 1) := by decide +kernel
theorem d_lw_law_329 : decode code 329 = .ok (.iconst 2, 1) := by decide +kernel
theorem d_lw_law_330 : decode code 330 = .ok (.iadd, 1) := by decide +kernel
theorem d_lw_law_331 : decode code 331 = .ok (.iaload, 1) := by decide +kernel
theorem d_lw_law_332 : decode code 332 = .ok (.invokevirtual 59, 3) := by decide +kernel
theorem d_lw_law_335 : decode code 335 = .ok (.if_icmp .eq (193), 3) := by decide +kernel
theorem d_lw_law_338 : decode code 338 = .ok (.iconst 0, 1) := by decide +kernel
theorem d_lw_law_339 : decode code 339 = .ok (.ireturn, 1) := by decide +kernel
theorem d_lw_law_340 : decode code 340 = .ok (.aload_n 1, 1) := by decide +kernel
theorem d_lw_law_341 : decode code 341 = .ok (.aload_n 0, 1) := by decide +kernel
theorem d_lw_law_342 : decode code 342 = .ok (.iload_n 3, 1) := by decide +kernel
theorem d_lw_law_343 : decode code 343 = .ok (.iconst 1, 1) := by decide +kernel
theorem d_lw_law_344 : decode code 344 = .ok (.iadd, 1) := by decide +kernel
theorem d_lw_law_345 : decode code 345 = .ok (.iaload, 1) := by decide +kernel
theorem d_lw_law_346 : decode code 346 = .ok (.aload_n 0, 1) := by decide +kernel
theorem d_lw_law_347 : decode code 347 = .ok (.iload_n 3, 1) := by decide +kernel
theorem d_lw_law_348 : decode code 348 = .ok (.iconst 2, 1) := by decide +kernel
theorem d_lw_law_349 : decode code 349 = .ok (.iadd, 1) := by decide +kernel
theorem d_lw_law_350 : decode code 350 = .ok (.iaload, 1) := by decide +kernel
theorem d_lw_law_351 : decode code 351 = .ok (.invokevirtual 60, 3) := by decide +kernel
theorem d_lw_law_354 : decode code 354 = .ok (.aload_n 2, 1) := by decide +kernel
theorem d_lw_law_355 : decode code 355 = .ok (.aload_n 0, 1) := by decide +kernel
theorem d_lw_law_356 : decode code 356 = .ok (.iload_n 3, 1) := by decide +kernel
theorem d_lw_law_357 : decode code 357 = .ok (.iconst 1, 1) := by decide +kernel
theorem d_lw_law_358 : decode code 358 = .ok (.iadd, 1) := by decide +kernel
theorem d_lw_law_359 : decode code 359 = .ok (.iaload, 1) := by decide +kernel
theorem d_lw_law_360 : decode code 360 = .ok (.aload_n 0, 1) := by decide +kernel
theorem d_lw_law_361 : decode code 361 = .ok (.iload_n 3, 1) := by decide +kernel
theorem d_lw_law_362 : decode code 362 = .ok (.iconst 2, 1) := by decide +kernel
theorem d_lw_law_363 : decode code 363 = .ok (.iadd, 1) := by decide +kernel
theorem d_lw_law_364 : decode code 364 = .ok (.iaload, 1) := by decide +kernel
theorem d_lw_law_365 : decode code 365 = .ok (.invokevirtual 63, 3) := by decide +kernel
theorem d_lw_law_368 : decode code 368 = .ok (.if_icmp .eq (160), 3) := by decide +kernel
theorem d_lw_law_371 : decode code 371 = .ok (.iconst 0, 1) := by decide +kernel
theorem d_lw_law_372 : decode code 372 = .ok (.ireturn, 1) := by decide +kernel
theorem d_lw_law_373 : decode code 373 = .ok (.aload_n 1, 1) := by decide +kernel
theorem d_lw_law_374 : decode code 374 = .ok (.aload_n 0, 1) := by decide +kernel
theorem d_lw_law_375 : decode code 375 = .ok (.iload_n 3, 1) := by decide +kernel
theorem d_lw_law_376 : decode code 376 = .ok (.iconst 1, 1) := by decide +kernel
theorem d_lw_law_377 : decode code 377 = .ok (.iadd, 1) := by decide +kernel
theorem d_lw_law_378 : decode code 378 = .ok (.iaload, 1) := by decide +kernel
theorem d_lw_law_379 : decode code 379 = .ok (.invokevirtual 64, 3) := by decide +kernel
theorem d_lw_law_382 : decode code 382 = .ok (.aload_n 2, 1) := by decide +kernel
theorem d_lw_law_383 : decode code 383 = .ok (.aload_n 0, 1) := by decide +kernel
theorem d_lw_law_384 : decode code 384 = .ok (.iload_n 3, 1) := by decide +kernel
theorem d_lw_law_385 : decode code 385 = .ok (.iconst 1, 1) := by decide +kernel
theorem d_lw_law_386 : decode code 386 = .ok (.iadd, 1) := by decide +kernel
theorem d_lw_law_387 : decode code 387 = .ok (.iaload, 1) := by decide +kernel
theorem d_lw_law_388 : decode code 388 = .ok (.invokevirtual 67, 3) := by decide +kernel
theorem d_lw_law_391 : decode code 391 = .ok (.if_icmp .eq (137), 3) := by decide +kernel
theorem d_lw_law_394 : decode code 394 = .ok (.iconst 0, 1) := by decide +kernel
theorem d_lw_law_395 : decode code 395 = .ok (.ireturn, 1) := by decide +kernel
theorem d_lw_law_396 : decode code 396 = .ok (.aload_n 1, 1) := by decide +kernel
theorem d_lw_law_397 : decode code 397 = .ok (.aload_n 0, 1) := by decide +kernel
theorem d_lw_law_398 : decode code 398 = .ok (.iload_n 3, 1) := by decide +kernel
theorem d_lw_law_399 : decode code 399 = .ok (.iconst 1, 1) := by decide +kernel
theorem d_lw_law_400 : decode code 400 = .ok (.iadd, 1) := by decide +kernel
theorem d_lw_law_401 : decode code 401 = .ok (.iaload, 1) := by decide +kernel
theorem d_lw_law_402 : decode code 402 = .ok (.aload_n 0, 1) := by decide +kernel
theorem d_lw_law_403 : decode code 403 = .ok (.iload_n 3, 1) := by decide +kernel
theorem d_lw_law_404 : decode code 404 = .ok (.iconst 2, 1) := by decide +kernel
theorem d_lw_law_405 : decode code 405 = .ok (.iadd, 1) := by decide +kernel
theorem d_lw_law_406 : decode code 406 = .ok (.iaload, 1) := by decide +kernel
theorem d_lw_law_407 : decode code 407 = .ok (.invokevirtual 68, 3) := by decide +kernel
theorem d_lw_law_410 : decode code 410 = .ok (.aload_n 2, 1) := by decide +kernel
theorem d_lw_law_411 : decode code 411 = .ok (.aload_n 0, 1) := by decide +kernel
theorem d_lw_law_412 : decode code 412 = .ok (.iload_n 3, 1) := by decide +kernel
theorem d_lw_law_413 : decode code 413 = .ok (.iconst 1, 1) := by decide +kernel
theorem d_lw_law_414 : decode code 414 = .ok (.iadd, 1) := by decide +kernel
theorem d_lw_law_415 : decode code 415 = .ok (.iaload, 1) := by decide +kernel
theorem d_lw_law_416 : decode code 416 = .ok (.aload_n 0, 1) := by decide +kernel
theorem d_lw_law_417 : decode code 417 = .ok (.iload_n 3, 1) := by decide +kernel
theorem d_lw_law_418 : decode code 418 = .ok (.iconst 2, 1) := by decide +kernel
theorem d_lw_law_419 : decode code 419 = .ok (.iadd, 1) := by decide +kernel
theorem d_lw_law_420 : decode code 420 = .ok (.iaload, 1) := by decide +kernel
theorem d_lw_law_421 : decode code 421 = .ok (.invokevirtual 71, 3) := by decide +kernel
theorem d_lw_law_424 : decode code 424 = .ok (.if_icmp .eq (104), 3) := by decide +kernel
theorem d_lw_law_427 : decode code 427 = .ok (.iconst 0, 1) := by decide +kernel
theorem d_lw_law_428 : decode code 428 = .ok (.ireturn, 1) := by decide +kernel
theorem d_lw_law_429 : decode code 429 = .ok (.aload_n 1, 1) := by decide +kernel
theorem d_lw_law_430 : decode code 430 = .ok (.aload_n 0, 1) := by decide +kernel
theorem d_lw_law_431 : decode code 431 = .ok (.iload_n 3, 1) := by decide +kernel
theorem d_lw_law_432 : decode code 432 = .ok (.iconst 1, 1) := by decide +kernel
theorem d_lw_law_433 : decode code 433 = .ok (.iadd, 1) := by decide +kernel
theorem d_lw_law_434 : decode code 434 = .ok (.iaload, 1) := by decide +kernel
theorem d_lw_law_435 : decode code 435 = .ok (.aload_n 0, 1) := by decide +kernel
theorem d_lw_law_436 : decode code 436 = .ok (.iload_n 3, 1) := by decide +kernel
theorem d_lw_law_437 : decode code 437 = .ok (.iconst 2, 1) := by decide +kernel
theorem d_lw_law_438 : decode code 438 = .ok (.iadd, 1) := by decide +kernel
theorem d_lw_law_439 : decode code 439 = .ok (.iaload, 1) := by decide +kernel
theorem d_lw_law_440 : decode code 440 = .ok (.invokevirtual 72, 3) := by decide +kernel
theorem d_lw_law_443 : decode code 443 = .ok (.aload_n 2, 1) := by decide +kernel
theorem d_lw_law_444 : decode code 444 = .ok (.aload_n 0, 1) := by decide +kernel
theorem d_lw_law_445 : decode code 445 = .ok (.iload_n 3, 1) := by decide +kernel
theorem d_lw_law_446 : decode code 446 = .ok (.iconst 1, 1) := by decide +kernel
theorem d_lw_law_447 : decode code 447 = .ok (.iadd, 1) := by decide +kernel
theorem d_lw_law_448 : decode code 448 = .ok (.iaload, 1) := by decide +kernel
theorem d_lw_law_449 : decode code 449 = .ok (.aload_n 0, 1) := by decide +kernel
theorem d_lw_law_450 : decode code 450 = .ok (.iload_n 3, 1) := by decide +kernel
theorem d_lw_law_451 : decode code 451 = .ok (.iconst 2, 1) := by decide +kernel
theorem d_lw_law_452 : decode code 452 = .ok (.iadd, 1) := by decide +kernel
theorem d_lw_law_453 : decode code 453 = .ok (.iaload, 1) := by decide +kernel
theorem d_lw_law_454 : decode code 454 = .ok (.invokevirtual 75, 3) := by decide +kernel
theorem d_lw_law_457 : decode code 457 = .ok (.if_icmp .eq (71), 3) := by decide +kernel
theorem d_lw_law_460 : decode code 460 = .ok (.iconst 0, 1) := by decide +kernel
theorem d_lw_law_461 : decode code 461 = .ok (.ireturn, 1) := by decide +kernel
theorem d_lw_law_462 : decode code 462 = .ok (.aload_n 1, 1) := by decide +kernel
theorem d_lw_law_463 : decode code 463 = .ok (.aload_n 0, 1) := by decide +kernel
theorem d_lw_law_464 : decode code 464 = .ok (.iload_n 3, 1) := by decide +kernel
theorem d_lw_law_465 : decode code 465 = .ok (.iconst 1, 1) := by decide +kernel
theorem d_lw_law_466 : decode code 466 = .ok (.iadd, 1) := by decide +kernel
theorem d_lw_law_467 : decode code 467 = .ok (.iaload, 1) := by decide +kernel
theorem d_lw_law_468 : decode code 468 = .ok (.invokevirtual 76, 3) := by decide +kernel
theorem d_lw_law_471 : decode code 471 = .ok (.aload_n 2, 1) := by decide +kernel
theorem d_lw_law_472 : decode code 472 = .ok (.aload_n 0, 1) := by decide +kernel
theorem d_lw_law_473 : decode code 473 = .ok (.iload_n 3, 1) := by decide +kernel
theorem d_lw_law_474 : decode code 474 = .ok (.iconst 1, 1) := by decide +kernel
theorem d_lw_law_475 : decode code 475 = .ok (.iadd, 1) := by decide +kernel
theorem d_lw_law_476 : decode code 476 = .ok (.iaload, 1) := by decide +kernel
theorem d_lw_law_477 : decode code 477 = .ok (.invokevirtual 79, 3) := by decide +kernel
theorem d_lw_law_480 : decode code 480 = .ok (.if_icmp .eq (48), 3) := by decide +kernel
theorem d_lw_law_483 : decode code 483 = .ok (.iconst 0, 1) := by decide +kernel
theorem d_lw_law_484 : decode code 484 = .ok (.ireturn, 1) := by decide +kernel
theorem d_lw_law_485 : decode code 485 = .ok (.aload_n 1, 1) := by decide +kernel
theorem d_lw_law_486 : decode code 486 = .ok (.aload_n 0, 1) := by decide +kernel
theorem d_lw_law_487 : decode code 487 = .ok (.iload_n 3, 1) := by decide +kernel
theorem d_lw_law_488 : decode code 488 = .ok (.iconst 1, 1) := by decide +kernel
theorem d_lw_law_489 : decode code 489 = .ok (.iadd, 1) := by decide +kernel
theorem d_lw_law_490 : decode code 490 = .ok (.iaload, 1) := by decide +kernel
theorem d_lw_law_491 : decode code 491 = .ok (.aload_n 0, 1) := by decide +kernel
theorem d_lw_law_492 : decode code 492 = .ok (.iload_n 3, 1) := by decide +kernel
theorem d_lw_law_493 : decode code 493 = .ok (.iconst 2, 1) := by decide +kernel
theorem d_lw_law_494 : decode code 494 = .ok (.iadd, 1) := by decide +kernel
theorem d_lw_law_495 : decode code 495 = .ok (.iaload, 1) := by decide +kernel
theorem d_lw_law_496 : decode code 496 = .ok (.aload_n 0, 1) := by decide +kernel
theorem d_lw_law_497 : decode code 497 = .ok (.iload_n 3, 1) := by decide +kernel
theorem d_lw_law_498 : decode code 498 = .ok (.iconst 3, 1) := by decide +kernel
theorem d_lw_law_499 : decode code 499 = .ok (.iadd, 1) := by decide +kernel
theorem d_lw_law_500 : decode code 500 = .ok (.iaload, 1) := by decide +kernel
theorem d_lw_law_501 : decode code 501 = .ok (.invokevirtual 80, 3) := by decide +kernel
theorem d_lw_law_504 : decode code 504 = .ok (.aload_n 2, 1) := by decide +kernel
theorem d_lw_law_505 : decode code 505 = .ok (.aload_n 0, 1) := by decide +kernel
theorem d_lw_law_506 : decode code 506 = .ok (.iload_n 3, 1) := by decide +kernel
theorem d_lw_law_507 : decode code 507 = .ok (.iconst 1, 1) := by decide +kernel
theorem d_lw_law_508 : decode code 508 = .ok (.iadd, 1) := by decide +kernel
theorem d_lw_law_509 : decode code 509 = .ok (.iaload, 1) := by decide +kernel
theorem d_lw_law_510 : decode code 510 = .ok (.aload_n 0, 1) := by decide +kernel
theorem d_lw_law_511 : decode code 511 = .ok (.iload_n 3, 1) := by decide +kernel
theorem d_lw_law_512 : decode code 512 = .ok (.iconst 2, 1) := by decide +kernel
theorem d_lw_law_513 : decode code 513 = .ok (.iadd, 1) := by decide +kernel
theorem d_lw_law_514 : decode code 514 = .ok (.iaload, 1) := by decide +kernel
theorem d_lw_law_515 : decode code 515 = .ok (.aload_n 0, 1) := by decide +kernel
theorem d_lw_law_516 : decode code 516 = .ok (.iload_n 3, 1) := by decide +kernel
theorem d_lw_law_517 : decode code 517 = .ok (.iconst 3, 1) := by decide +kernel
theorem d_lw_law_518 : decode code 518 = .ok (.iadd, 1) := by decide +kernel
theorem d_lw_law_519 : decode code 519 = .ok (.iaload, 1) := by decide +kernel
theorem d_lw_law_520 : decode code 520 = .ok (.invokevirtual 84, 3) := by decide +kernel
theorem d_lw_law_523 : decode code 523 = .ok (.if_icmp .eq (5), 3) := by decide +kernel
theorem d_lw_law_526 : decode code 526 = .ok (.iconst 0, 1) := by decide +kernel
theorem d_lw_law_527 : decode code 527 = .ok (.ireturn, 1) := by decide +kernel
theorem d_lw_law_528 : decode code 528 = .ok (.iinc 3 (4), 3) := by decide +kernel
theorem d_lw_law_531 : decode code 531 = .ok (.goto (-513), 3) := by decide +kernel
theorem d_lw_law_534 : decode code 534 = .ok (.iconst 1, 1) := by decide +kernel
theorem d_lw_law_535 : decode code 535 = .ok (.ireturn, 1) := by decide +kernel
