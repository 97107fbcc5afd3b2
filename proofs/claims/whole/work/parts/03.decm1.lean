theorem d_md_isWhom_26 : decode prog_14_method_29_code 26 = .ok (.iconst 0, 1) := by decide +kernel
theorem d_md_isWhom_27 : decode prog_14_method_29_code 27 = .ok (.ireturn, 1) := by decide +kernel
theorem d_md_isRule_0 : decode prog_14_method_30_code 0 = .ok (.aload_n 0, 1) := by decide +kernel
theorem d_md_isRule_1 : decode prog_14_method_30_code 1 = .ok (.getfield 13, 3) := by decide +kernel
theorem d_md_isRule_4 : decode prog_14_method_30_code 4 = .ok (.aload_n 0, 1) := by decide +kernel
theorem d_md_isRule_5 : decode prog_14_method_30_code 5 = .ok (.getfield 207, 3) := by decide +kernel
theorem d_md_isRule_8 : decode prog_14_method_30_code 8 = .ok (.iaload, 1) := by decide +kernel
theorem d_md_isRule_9 : decode prog_14_method_30_code 9 = .ok (.iconst 1, 1) := by decide +kernel
theorem d_md_isRule_10 : decode prog_14_method_30_code 10 = .ok (.if_icmp .eq (5), 3) := by decide +kernel
theorem d_md_isRule_13 : decode prog_14_method_30_code 13 = .ok (.iconst 0, 1) := by decide +kernel
theorem d_md_isRule_14 : decode prog_14_method_30_code 14 = .ok (.ireturn, 1) := by decide +kernel
theorem d_md_isRule_15 : decode prog_14_method_30_code 15 = .ok (.aload_n 0, 1) := by decide +kernel
theorem d_md_isRule_16 : decode prog_14_method_30_code 16 = .ok (.getfield 13, 3) := by decide +kernel
theorem d_md_isRule_19 : decode prog_14_method_30_code 19 = .ok (.aload_n 0, 1) := by decide +kernel
theorem d_md_isRule_20 : decode prog_14_method_30_code 20 = .ok (.getfield 207, 3) := by decide +kernel
theorem d_md_isRule_23 : decode prog_14_method_30_code 23 = .ok (.iconst 1, 1) := by decide +kernel
theorem d_md_isRule_24 : decode prog_14_method_30_code 24 = .ok (.iadd, 1) := by decide +kernel
theorem d_md_isRule_25 : decode prog_14_method_30_code 25 = .ok (.iaload, 1) := by decide +kernel
theorem d_md_isRule_26 : decode prog_14_method_30_code 26 = .ok (.bipush 42, 2) := by decide +kernel
theorem d_md_isRule_28 : decode prog_14_method_30_code 28 = .ok (.if_icmp .ne (14), 3) := by decide +kernel
theorem d_md_isRule_31 : decode prog_14_method_30_code 31 = .ok (.aload_n 0, 1) := by decide +kernel
theorem d_md_isRule_32 : decode prog_14_method_30_code 32 = .ok (.aload_n 0, 1) := by decide +kernel
theorem d_md_isRule_33 : decode prog_14_method_30_code 33 = .ok (.getfield 207, 3) := by decide +kernel
theorem d_md_isRule_36 : decode prog_14_method_30_code 36 = .ok (.iconst 2, 1) := by decide +kernel
theorem d_md_isRule_37 : decode prog_14_method_30_code 37 = .ok (.iadd, 1) := by decide +kernel
theorem d_md_isRule_38 : decode prog_14_method_30_code 38 = .ok (.invokevirtual 294, 3) := by decide +kernel
theorem d_md_isRule_41 : decode prog_14_method_30_code 41 = .ok (.ireturn, 1) := by decide +kernel
theorem d_md_isRule_42 : decode prog_14_method_30_code 42 = .ok (.aload_n 0, 1) := by decide +kernel
theorem d_md_isRule_43 : decode prog_14_method_30_code 43 = .ok (.getfield 13, 3) := by decide +kernel
theorem d_md_isRule_46 : decode prog_14_method_30_code 46 = .ok (.aload_n 0, 1) := by decide +kernel
theorem d_md_isRule_47 : decode prog_14_method_30_code 47 = .ok (.getfield 207, 3) := by decide +kernel
theorem d_md_isRule_50 : decode prog_14_method_30_code 50 = .ok (.iconst 1, 1) := by decide +kernel
theorem d_md_isRule_51 : decode prog_14_method_30_code 51 = .ok (.iadd, 1) := by decide +kernel
theorem d_md_isRule_52 : decode prog_14_method_30_code 52 = .ok (.iaload, 1) := by decide +kernel
theorem d_md_isRule_53 : decode prog_14_method_30_code 53 = .ok (.bipush 45, 2) := by decide +kernel
theorem d_md_isRule_55 : decode prog_14_method_30_code 55 = .ok (.if_icmp .eq (5), 3) := by decide +kernel
theorem d_md_isRule_58 : decode prog_14_method_30_code 58 = .ok (.iconst 0, 1) := by decide +kernel
theorem d_md_isRule_59 : decode prog_14_method_30_code 59 = .ok (.ireturn, 1) := by decide +kernel
theorem d_md_isRule_60 : decode prog_14_method_30_code 60 = .ok (.aload_n 0, 1) := by decide +kernel
theorem d_md_isRule_61 : decode prog_14_method_30_code 61 = .ok (.getfield 13, 3) := by decide +kernel
theorem d_md_isRule_64 : decode prog_14_method_30_code 64 = .ok (.aload_n 0, 1) := by decide +kernel
theorem d_md_isRule_65 : decode prog_14_method_30_code 65 = .ok (.getfield 207, 3) := by decide +kernel
theorem d_md_isRule_68 : decode prog_14_method_30_code 68 = .ok (.iconst 2, 1) := by decide +kernel
theorem d_md_isRule_69 : decode prog_14_method_30_code 69 = .ok (.iadd, 1) := by decide +kernel
theorem d_md_isRule_70 : decode prog_14_method_30_code 70 = .ok (.iaload, 1) := by decide +kernel
theorem d_md_isRule_71 : decode prog_14_method_30_code 71 = .ok (.bipush 95, 2) := by decide +kernel
theorem d_md_isRule_73 : decode prog_14_method_30_code 73 = .ok (.if_icmp .eq (47), 3) := by decide +kernel
theorem d_md_isRule_76 : decode prog_14_method_30_code 76 = .ok (.aload_n 0, 1) := by decide +kernel
theorem d_md_isRule_77 : decode prog_14_method_30_code 77 = .ok (.getfield 13, 3) := by decide +kernel
theorem d_md_isRule_80 : decode prog_14_method_30_code 80 = .ok (.aload_n 0, 1) := by decide +kernel
theorem d_md_isRule_81 : decode prog_14_method_30_code 81 = .ok (.getfield 207, 3) := by decide +kernel
theorem d_md_isRule_84 : decode prog_14_method_30_code 84 = .ok (.iconst 2, 1) := by decide +kernel
theorem d_md_isRule_85 : decode prog_14_method_30_code 85 = .ok (.iadd, 1) := by decide +kernel
theorem d_md_isRule_86 : decode prog_14_method_30_code 86 = .ok (.iaload, 1) := by decide +kernel
theorem d_md_isRule_87 : decode prog_14_method_30_code 87 = .ok (.iconst 1, 1) := by decide +kernel
theorem d_md_isRule_88 : decode prog_14_method_30_code 88 = .ok (.if_icmp .ne (36), 3) := by decide +kernel
theorem d_md_isRule_91 : decode prog_14_method_30_code 91 = .ok (.aload_n 0, 1) := by decide +kernel
theorem d_md_isRule_92 : decode prog_14_method_30_code 92 = .ok (.getfield 13, 3) := by decide +kernel
theorem d_md_isRule_95 : decode prog_14_method_30_code 95 = .ok (.aload_n 0, 1) := by decide +kernel
theorem d_md_isRule_96 : decode prog_14_method_30_code 96 = .ok (.getfield 207, 3) := by decide +kernel
theorem d_md_isRule_99 : decode prog_14_method_30_code 99 = .ok (.iconst 3, 1) := by decide +kernel
theorem d_md_isRule_100 : decode prog_14_method_30_code 100 = .ok (.iadd, 1) := by decide +kernel
theorem d_md_isRule_101 : decode prog_14_method_30_code 101 = .ok (.iaload, 1) := by decide +kernel
theorem d_md_isRule_102 : decode prog_14_method_30_code 102 = .ok (.bipush 42, 2) := by decide +kernel
theorem d_md_isRule_104 : decode prog_14_method_30_code 104 = .ok (.if_icmp .ne (20), 3) := by decide +kernel
theorem d_md_isRule_107 : decode prog_14_method_30_code 107 = .ok (.aload_n 0, 1) := by decide +kernel
theorem d_md_isRule_108 : decode prog_14_method_30_code 108 = .ok (.aload_n 0, 1) := by decide +kernel
theorem d_md_isRule_109 : decode prog_14_method_30_code 109 = .ok (.getfield 207, 3) := by decide +kernel
theorem d_md_isRule_112 : decode prog_14_method_30_code 112 = .ok (.iconst 4, 1) := by decide +kernel
theorem d_md_isRule_113 : decode prog_14_method_30_code 113 = .ok (.iadd, 1) := by decide +kernel
theorem d_md_isRule_114 : decode prog_14_method_30_code 114 = .ok (.invokevirtual 294, 3) := by decide +kernel
theorem d_md_isRule_117 : decode prog_14_method_30_code 117 = .ok (.ifCond .eq (7), 3) := by decide +kernel
theorem d_md_isRule_120 : decode prog_14_method_30_code 120 = .ok (.iconst 1, 1) := by decide +kernel
theorem d_md_isRule_121 : decode prog_14_method_30_code 121 = .ok (.goto (4), 3) := by decide +kernel
theorem d_md_isRule_124 : decode prog_14_method_30_code 124 = .ok (.iconst 0, 1) := by decide +kernel
theorem d_md_isRule_125 : decode prog_14_method_30_code 125 = .ok (.ireturn, 1) := by decide +kernel
theorem d_md_rule_0 : decode prog_14_method_31_code 0 = .ok (.aload_n 0, 1) := by decide +kernel
theorem d_md_rule_1 : decode prog_14_method_31_code 1 = .ok (.bipush 7, 2) := by decide +kernel
theorem d_md_rule_3 : decode prog_14_method_31_code 3 = .ok (.invokevirtual 284, 3) := by decide +kernel
theorem d_md_rule_6 : decode prog_14_method_31_code 6 = .ok (.aload_n 0, 1) := by decide +kernel
theorem d_md_rule_7 : decode prog_14_method_31_code 7 = .ok (.getfield 58, 3) := by decide +kernel
theorem d_md_rule_10 : decode prog_14_method_31_code 10 = .ok (.aload_n 0, 1) := by decide +kernel
theorem d_md_rule_11 : decode prog_14_method_31_code 11 = .ok (.getfield 275, 3) := by decide +kernel
theorem d_md_rule_14 : decode prog_14_method_31_code 14 = .ok (.aload_n 0, 1) := by decide +kernel
theorem d_md_rule_15 : decode prog_14_method_31_code 15 = .ok (.getfield 16, 3) := by decide +kernel
theorem d_md_rule_18 : decode prog_14_method_31_code 18 = .ok (.aload_n 0, 1) := by decide +kernel
theorem d_md_rule_19 : decode prog_14_method_31_code 19 = .ok (.getfield 207, 3) := by decide +kernel
theorem d_md_rule_22 : decode prog_14_method_31_code 22 = .ok (.iaload, 1) := by decide +kernel
theorem d_md_rule_23 : decode prog_14_method_31_code 23 = .ok (.iastore, 1) := by decide +kernel
theorem d_md_rule_24 : decode prog_14_method_31_code 24 = .ok (.aload_n 0, 1) := by decide +kernel
theorem d_md_rule_25 : decode prog_14_method_31_code 25 = .ok (.getfield 61, 3) := by decide +kernel
theorem d_md_rule_28 : decode prog_14_method_31_code 28 = .ok (.aload_n 0, 1) := by decide +kernel
theorem d_md_rule_29 : decode prog_14_method_31_code 29 = .ok (.getfield 275, 3) := by decide +kernel
theorem d_md_rule_32 : decode prog_14_method_31_code 32 = .ok (.aload_n 0, 1) := by decide +kernel
theorem d_md_rule_33 : decode prog_14_method_31_code 33 = .ok (.getfield 16, 3) := by decide +kernel
theorem d_md_rule_36 : decode prog_14_method_31_code 36 = .ok (.aload_n 0, 1) := by decide +kernel
theorem d_md_rule_37 : decode prog_14_method_31_code 37 = .ok (.getfield 207, 3) := by decide +kernel
theorem d_md_rule_40 : decode prog_14_method_31_code 40 = .ok (.iaload, 1) := by decide +kernel
theorem d_md_rule_41 : decode prog_14_method_31_code 41 = .ok (.iastore, 1) := by decide +kernel
theorem d_md_rule_42 : decode prog_14_method_31_code 42 = .ok (.aload_n 0, 1) := by decide +kernel
theorem d_md_rule_43 : decode prog_14_method_31_code 43 = .ok (.dup, 1) := by decide +kernel
theorem d_md_rule_44 : decode prog_14_method_31_code 44 = .ok (.getfield 207, 3) := by decide +kernel
theorem d_md_rule_47 : decode prog_14_method_31_code 47 = .ok (.iconst 1, 1) := by decide +kernel
theorem d_md_rule_48 : decode prog_14_method_31_code 48 = .ok (.iadd, 1) := by decide +kernel
theorem d_md_rule_49 : decode prog_14_method_31_code 49 = .ok (.putfield 207, 3) := by decide +kernel
theorem d_md_rule_52 : decode prog_14_method_31_code 52 = .ok (.aload_n 0, 1) := by decide +kernel
theorem d_md_rule_53 : decode prog_14_method_31_code 53 = .ok (.getfield 13, 3) := by decide +kernel
theorem d_md_rule_56 : decode prog_14_method_31_code 56 = .ok (.aload_n 0, 1) := by decide +kernel
theorem d_md_rule_57 : decode prog_14_method_31_code 57 = .ok (.getfield 207, 3) := by decide +kernel
theorem d_md_rule_60 : decode prog_14_method_31_code 60 = .ok (.iaload, 1) := by decide +kernel
theorem d_md_rule_61 : decode prog_14_method_31_code 61 = .ok (.bipush 45, 2) := by decide +kernel
theorem d_md_rule_63 : decode prog_14_method_31_code 63 = .ok (.if_icmp .ne (52), 3) := by decide +kernel
theorem d_md_rule_66 : decode prog_14_method_31_code 66 = .ok (.aload_n 0, 1) := by decide +kernel
theorem d_md_rule_67 : decode prog_14_method_31_code 67 = .ok (.getfield 61, 3) := by decide +kernel
theorem d_md_rule_70 : decode prog_14_method_31_code 70 = .ok (.aload_n 0, 1) := by decide +kernel
theorem d_md_rule_71 : decode prog_14_method_31_code 71 = .ok (.getfield 275, 3) := by decide +kernel
theorem d_md_rule_74 : decode prog_14_method_31_code 74 = .ok (.aload_n 0, 1) := by decide +kernel
theorem d_md_rule_75 : decode prog_14_method_31_code 75 = .ok (.getfield 13, 3) := by decide +kernel
theorem d_md_rule_78 : decode prog_14_method_31_code 78 = .ok (.aload_n 0, 1) := by decide +kernel
theorem d_md_rule_79 : decode prog_14_method_31_code 79 = .ok (.getfield 207, 3) := by decide +kernel
theorem d_md_rule_82 : decode prog_14_method_31_code 82 = .ok (.iconst 1, 1) := by decide +kernel
theorem d_md_rule_83 : decode prog_14_method_31_code 83 = .ok (.iadd, 1) := by decide +kernel
theorem d_md_rule_84 : decode prog_14_method_31_code 84 = .ok (.iaload, 1) := by decide +kernel
theorem d_md_rule_85 : decode prog_14_method_31_code 85 = .ok (.iconst 1, 1) := by decide +kernel
theorem d_md_rule_86 : decode prog_14_method_31_code 86 = .ok (.if_icmp .ne (17), 3) := by decide +kernel
theorem d_md_rule_89 : decode prog_14_method_31_code 89 = .ok (.aload_n 0, 1) := by decide +kernel
theorem d_md_rule_90 : decode prog_14_method_31_code 90 = .ok (.getfield 16, 3) := by decide +kernel
theorem d_md_rule_93 : decode prog_14_method_31_code 93 = .ok (.aload_n 0, 1) := by decide +kernel
theorem d_md_rule_94 : decode prog_14_method_31_code 94 = .ok (.getfield 207, 3) := by decide +kernel
theorem d_md_rule_97 : decode prog_14_method_31_code 97 = .ok (.iconst 1, 1) := by decide +kernel
theorem d_md_rule_98 : decode prog_14_method_31_code 98 = .ok (.iadd, 1) := by decide +kernel
theorem d_md_rule_99 : decode prog_14_method_31_code 99 = .ok (.iaload, 1) := by decide +kernel
theorem d_md_rule_100 : decode prog_14_method_31_code 100 = .ok (.goto (4), 3) := by decide +kernel
theorem d_md_rule_103 : decode prog_14_method_31_code 103 = .ok (.iconst (-1), 1) := by decide +kernel
theorem d_md_rule_104 : decode prog_14_method_31_code 104 = .ok (.iastore, 1) := by decide +kernel
theorem d_md_rule_105 : decode prog_14_method_31_code 105 = .ok (.aload_n 0, 1) := by decide +kernel
theorem d_md_rule_106 : decode prog_14_method_31_code 106 = .ok (.dup, 1) := by decide +kernel
theorem d_md_rule_107 : decode prog_14_method_31_code 107 = .ok (.getfield 207, 3) := by decide +kernel
theorem d_md_rule_110 : decode prog_14_method_31_code 110 = .ok (.iconst 2, 1) := by decide +kernel
theorem d_md_rule_111 : decode prog_14_method_31_code 111 = .ok (.iadd, 1) := by decide +kernel
theorem d_md_rule_112 : decode prog_14_method_31_code 112 = .ok (.putfield 207, 3) := by decide +kernel
theorem d_md_rule_115 : decode prog_14_method_31_code 115 = .ok (.aload_n 0, 1) := by decide +kernel
theorem d_md_rule_116 : decode prog_14_method_31_code 116 = .ok (.bipush 42, 2) := by decide +kernel
theorem d_md_rule_118 : decode prog_14_method_31_code 118 = .ok (.invokevirtual 297, 3) := by decide +kernel
theorem d_md_rule_121 : decode prog_14_method_31_code 121 = .ok (.ifCond .ne (5), 3) := by decide +kernel
theorem d_md_rule_124 : decode prog_14_method_31_code 124 = .ok (.iconst 0, 1) := by decide +kernel
theorem d_md_rule_125 : decode prog_14_method_31_code 125 = .ok (.ireturn, 1) := by decide +kernel
theorem d_md_rule_126 : decode prog_14_method_31_code 126 = .ok (.aload_n 0, 1) := by decide +kernel
theorem d_md_rule_127 : decode prog_14_method_31_code 127 = .ok (.aload_n 0, 1) := by decide +kernel
theorem d_md_rule_128 : decode prog_14_method_31_code 128 = .ok (.getfield 207, 3) := by decide +kernel
theorem d_md_rule_131 : decode prog_14_method_31_code 131 = .ok (.invokevirtual 294, 3) := by decide +kernel
theorem d_md_rule_134 : decode prog_14_method_31_code 134 = .ok (.ifCond .ne (8), 3) := by decide +kernel
theorem d_md_rule_137 : decode prog_14_method_31_code 137 = .ok (.aload_n 0, 1) := by decide +kernel
theorem d_md_rule_138 : decode prog_14_method_31_code 138 = .ok (.invokevirtual 213, 3) := by decide +kernel
theorem d_md_rule_141 : decode prog_14_method_31_code 141 = .ok (.ireturn, 1) := by decide +kernel
theorem d_md_rule_142 : decode prog_14_method_31_code 142 = .ok (.aload_n 0, 1) := by decide +kernel
theorem d_md_rule_143 : decode prog_14_method_31_code 143 = .ok (.getfield 64, 3) := by decide +kernel
theorem d_md_rule_146 : decode prog_14_method_31_code 146 = .ok (.aload_n 0, 1) := by decide +kernel
theorem d_md_rule_147 : decode prog_14_method_31_code 147 = .ok (.getfield 275, 3) := by decide +kernel
theorem d_md_rule_150 : decode prog_14_method_31_code 150 = .ok (.aload_n 0, 1) := by decide +kernel
theorem d_md_rule_151 : decode prog_14_method_31_code 151 = .ok (.getfield 13, 3) := by decide +kernel
theorem d_md_rule_154 : decode prog_14_method_31_code 154 = .ok (.aload_n 0, 1) := by decide +kernel
theorem d_md_rule_155 : decode prog_14_method_31_code 155 = .ok (.getfield 207, 3) := by decide +kernel
theorem d_md_rule_158 : decode prog_14_method_31_code 158 = .ok (.iaload, 1) := by decide +kernel
theorem d_md_rule_159 : decode prog_14_method_31_code 159 = .ok (.bipush 78, 2) := by decide +kernel
theorem d_md_rule_161 : decode prog_14_method_31_code 161 = .ok (.if_icmp .ne (7), 3) := by decide +kernel
theorem d_md_rule_164 : decode prog_14_method_31_code 164 = .ok (.iconst 1, 1) := by decide +kernel
theorem d_md_rule_165 : decode prog_14_method_31_code 165 = .ok (.goto (4), 3) := by decide +kernel
theorem d_md_rule_168 : decode prog_14_method_31_code 168 = .ok (.iconst 0, 1) := by decide +kernel
theorem d_md_rule_169 : decode prog_14_method_31_code 169 = .ok (.iastore, 1) := by decide +kernel
theorem d_md_rule_170 : decode prog_14_method_31_code 170 = .ok (.aload_n 0, 1) := by decide +kernel
theorem d_md_rule_171 : decode prog_14_method_31_code 171 = .ok (.dup, 1) := by decide +kernel
theorem d_md_rule_172 : decode prog_14_method_31_code 172 = .ok (.getfield 207, 3) := by decide +kernel
theorem d_md_rule_175 : decode prog_14_method_31_code 175 = .ok (.iconst 1, 1) := by decide +kernel
theorem d_md_rule_176 : decode prog_14_method_31_code 176 = .ok (.iadd, 1) := by decide +kernel
theorem d_md_rule_177 : decode prog_14_method_31_code 177 = .ok (.putfield 207, 3) := by decide +kernel
theorem d_md_rule_180 : decode prog_14_method_31_code 180 = .ok (.aload_n 0, 1) := by decide +kernel
theorem d_md_rule_181 : decode prog_14_method_31_code 181 = .ok (.bipush 40, 2) := by decide +kernel
theorem d_md_rule_183 : decode prog_14_method_31_code 183 = .ok (.invokevirtual 297, 3) := by decide +kernel
theorem d_md_rule_186 : decode prog_14_method_31_code 186 = .ok (.ifCond .eq (19), 3) := by decide +kernel
theorem d_md_rule_189 : decode prog_14_method_31_code 189 = .ok (.aload_n 0, 1) := by decide +kernel
theorem d_md_rule_190 : decode prog_14_method_31_code 190 = .ok (.invokevirtual 300, 3) := by decide +kernel
theorem d_md_rule_193 : decode prog_14_method_31_code 193 = .ok (.ifCond .eq (12), 3) := by decide +kernel
theorem d_md_rule_196 : decode prog_14_method_31_code 196 = .ok (.aload_n 0, 1) := by decide +kernel
theorem d_md_rule_197 : decode prog_14_method_31_code 197 = .ok (.bipush 41, 2) := by decide +kernel
theorem d_md_rule_199 : decode prog_14_method_31_code 199 = .ok (.invokevirtual 297, 3) := by decide +kernel
theorem d_md_rule_202 : decode prog_14_method_31_code 202 = .ok (.ifCond .ne (5), 3) := by decide +kernel
theorem d_md_rule_205 : decode prog_14_method_31_code 205 = .ok (.iconst 0, 1) := by decide +kernel
theorem d_md_rule_206 : decode prog_14_method_31_code 206 = .ok (.ireturn, 1) := by decide +kernel
theorem d_md_rule_207 : decode prog_14_method_31_code 207 = .ok (.aload_n 0, 1) := by decide +kernel
theorem d_md_rule_208 : decode prog_14_method_31_code 208 = .ok (.getfield 73, 3) := by decide +kernel
theorem d_md_rule_211 : decode prog_14_method_31_code 211 = .ok (.aload_n 0, 1) := by decide +kernel
theorem d_md_rule_212 : decode prog_14_method_31_code 212 = .ok (.getfield 275, 3) := by decide +kernel
theorem d_md_rule_215 : decode prog_14_method_31_code 215 = .ok (.aload_n 0, 1) := by decide +kernel
theorem d_md_rule_216 : decode prog_14_method_31_code 216 = .ok (.getfield 303, 3) := by decide +kernel
theorem d_md_rule_219 : decode prog_14_method_31_code 219 = .ok (.iastore, 1) := by decide +kernel
theorem d_md_rule_220 : decode prog_14_method_31_code 220 = .ok (.aload_n 0, 1) := by decide +kernel
theorem d_md_rule_221 : decode prog_14_method_31_code 221 = .ok (.getfield 13, 3) := by decide +kernel
theorem d_md_rule_224 : decode prog_14_method_31_code 224 = .ok (.aload_n 0, 1) := by decide +kernel
theorem d_md_rule_225 : decode prog_14_method_31_code 225 = .ok (.getfield 207, 3) := by decide +kernel
theorem d_md_rule_228 : decode prog_14_method_31_code 228 = .ok (.iaload, 1) := by decide +kernel
theorem d_md_rule_229 : decode prog_14_method_31_code 229 = .ok (.sipush 134, 3) := by decide +kernel
theorem d_md_rule_232 : decode prog_14_method_31_code 232 = .ok (.if_icmp .ne (7), 3) := by decide +kernel
theorem d_md_rule_235 : decode prog_14_method_31_code 235 = .ok (.iconst 1, 1) := by decide +kernel
theorem d_md_rule_236 : decode prog_14_method_31_code 236 = .ok (.goto (4), 3) := by decide +kernel
theorem d_md_rule_239 : decode prog_14_method_31_code 239 = .ok (.iconst 0, 1) := by decide +kernel
theorem d_md_rule_240 : decode prog_14_method_31_code 240 = .ok (.istore_n 1, 1) := by decide +kernel
theorem d_md_rule_241 : decode prog_14_method_31_code 241 = .ok (.iload_n 1, 1) := by decide +kernel
theorem d_md_rule_242 : decode prog_14_method_31_code 242 = .ok (.ifCond .eq (128), 3) := by decide +kernel
theorem d_md_rule_245 : decode prog_14_method_31_code 245 = .ok (.aload_n 0, 1) := by decide +kernel
theorem d_md_rule_246 : decode prog_14_method_31_code 246 = .ok (.dup, 1) := by decide +kernel
theorem d_md_rule_247 : decode prog_14_method_31_code 247 = .ok (.getfield 207, 3) := by decide +kernel
theorem d_md_rule_250 : decode prog_14_method_31_code 250 = .ok (.iconst 1, 1) := by decide +kernel
theorem d_md_rule_251 : decode prog_14_method_31_code 251 = .ok (.iadd, 1) := by decide +kernel
theorem d_md_rule_252 : decode prog_14_method_31_code 252 = .ok (.putfield 207, 3) := by decide +kernel
theorem d_md_rule_255 : decode prog_14_method_31_code 255 = .ok (.aload_n 0, 1) := by decide +kernel
theorem d_md_rule_256 : decode prog_14_method_31_code 256 = .ok (.getfield 13, 3) := by decide +kernel
theorem d_md_rule_259 : decode prog_14_method_31_code 259 = .ok (.aload_n 0, 1) := by decide +kernel
theorem d_md_rule_260 : decode prog_14_method_31_code 260 = .ok (.getfield 207, 3) := by decide +kernel
theorem d_md_rule_263 : decode prog_14_method_31_code 263 = .ok (.iaload, 1) := by decide +kernel
theorem d_md_rule_264 : decode prog_14_method_31_code 264 = .ok (.bipush 45, 2) := by decide +kernel
theorem d_md_rule_266 : decode prog_14_method_31_code 266 = .ok (.if_icmp .ne (7), 3) := by decide +kernel
theorem d_md_rule_269 : decode prog_14_method_31_code 269 = .ok (.iconst (-1), 1) := by decide +kernel
theorem d_md_rule_270 : decode prog_14_method_31_code 270 = .ok (.goto (4), 3) := by decide +kernel
theorem d_md_rule_273 : decode prog_14_method_31_code 273 = .ok (.iconst 1, 1) := by decide +kernel
theorem d_md_rule_274 : decode prog_14_method_31_code 274 = .ok (.istore_n 2, 1) := by decide +kernel
theorem d_md_rule_275 : decode prog_14_method_31_code 275 = .ok (.iload_n 2, 1) := by decide +kernel
theorem d_md_rule_276 : decode prog_14_method_31_code 276 = .ok (.ifCond .ge (13), 3) := by decide +kernel
theorem d_md_rule_279 : decode prog_14_method_31_code 279 = .ok (.aload_n 0, 1) := by decide +kernel
theorem d_md_rule_280 : decode prog_14_method_31_code 280 = .ok (.dup, 1) := by decide +kernel
theorem d_md_rule_281 : decode prog_14_method_31_code 281 = .ok (.getfield 207, 3) := by decide +kernel
theorem d_md_rule_284 : decode prog_14_method_31_code 284 = .ok (.iconst 1, 1) := by decide +kernel
theorem d_md_rule_285 : decode prog_14_method_31_code 285 = .ok (.iadd, 1) := by decide +kernel
theorem d_md_rule_286 : decode prog_14_method_31_code 286 = .ok (.putfield 207, 3) := by decide +kernel
theorem d_md_rule_289 : decode prog_14_method_31_code 289 = .ok (.aload_n 0, 1) := by decide +kernel
theorem d_md_rule_290 : decode prog_14_method_31_code 290 = .ok (.getfield 13, 3) := by decide +kernel
theorem d_md_rule_293 : decode prog_14_method_31_code 293 = .ok (.aload_n 0, 1) := by decide +kernel
theorem d_md_rule_294 : decode prog_14_method_31_code 294 = .ok (.getfield 207, 3) := by decide +kernel
theorem d_md_rule_297 : decode prog_14_method_31_code 297 = .ok (.iaload, 1) := by decide +kernel
theorem d_md_rule_298 : decode prog_14_method_31_code 298 = .ok (.iconst 1, 1) := by decide +kernel
theorem d_md_rule_299 : decode prog_14_method_31_code 299 = .ok (.if_icmp .eq (8), 3) := by decide +kernel
theorem d_md_rule_302 : decode prog_14_method_31_code 302 = .ok (.aload_n 0, 1) := by decide +kernel
theorem d_md_rule_303 : decode prog_14_method_31_code 303 = .ok (.invokevirtual 213, 3) := by decide +kernel
theorem d_md_rule_306 : decode prog_14_method_31_code 306 = .ok (.ireturn, 1) := by decide +kernel
theorem d_md_rule_307 : decode prog_14_method_31_code 307 = .ok (.aload_n 0, 1) := by decide +kernel
theorem d_md_rule_308 : decode prog_14_method_31_code 308 = .ok (.getfield 82, 3) := by decide +kernel
theorem d_md_rule_311 : decode prog_14_method_31_code 311 = .ok (.aload_n 0, 1) := by decide +kernel
theorem d_md_rule_312 : decode prog_14_method_31_code 312 = .ok (.getfield 303, 3) := by decide +kernel
theorem d_md_rule_315 : decode prog_14_method_31_code 315 = .ok (.iload_n 2, 1) := by decide +kernel
theorem d_md_rule_316 : decode prog_14_method_31_code 316 = .ok (.aload_n 0, 1) := by decide +kernel
theorem d_md_rule_317 : decode prog_14_method_31_code 317 = .ok (.getfield 16, 3) := by decide +kernel
theorem d_md_rule_320 : decode prog_14_method_31_code 320 = .ok (.aload_n 0, 1) := by decide +kernel
theorem d_md_rule_321 : decode prog_14_method_31_code 321 = .ok (.getfield 207, 3) := by decide +kernel
theorem d_md_rule_324 : decode prog_14_method_31_code 324 = .ok (.iaload, 1) := by decide +kernel
theorem d_md_rule_325 : decode prog_14_method_31_code 325 = .ok (.imul, 1) := by decide +kernel
theorem d_md_rule_326 : decode prog_14_method_31_code 326 = .ok (.iastore, 1) := by decide +kernel
theorem d_md_rule_327 : decode prog_14_method_31_code 327 = .ok (.aload_n 0, 1) := by decide +kernel
theorem d_md_rule_328 : decode prog_14_method_31_code 328 = .ok (.dup, 1) := by decide +kernel
theorem d_md_rule_329 : decode prog_14_method_31_code 329 = .ok (.getfield 303, 3) := by decide +kernel
theorem d_md_rule_332 : decode prog_14_method_31_code 332 = .ok (.iconst 1, 1) := by decide +kernel
theorem d_md_rule_333 : decode prog_14_method_31_code 333 = .ok (.iadd, 1) := by decide +kernel
theorem d_md_rule_334 : decode prog_14_method_31_code 334 = .ok (.putfield 303, 3) := by decide +kernel
theorem d_md_rule_337 : decode prog_14_method_31_code 337 = .ok (.aload_n 0, 1) := by decide +kernel
theorem d_md_rule_338 : decode prog_14_method_31_code 338 = .ok (.dup, 1) := by decide +kernel
theorem d_md_rule_339 : decode prog_14_method_31_code 339 = .ok (.getfield 207, 3) := by decide +kernel
theorem d_md_rule_342 : decode prog_14_method_31_code 342 = .ok (.iconst 1, 1) := by decide +kernel
theorem d_md_rule_343 : decode prog_14_method_31_code 343 = .ok (.iadd, 1) := by decide +kernel
theorem d_md_rule_344 : decode prog_14_method_31_code 344 = .ok (.putfield 207, 3) := by decide +kernel
theorem d_md_rule_347 : decode prog_14_method_31_code 347 = .ok (.aload_n 0, 1) := by decide +kernel
theorem d_md_rule_348 : decode prog_14_method_31_code 348 = .ok (.getfield 13, 3) := by decide +kernel
theorem d_md_rule_351 : decode prog_14_method_31_code 351 = .ok (.aload_n 0, 1) := by decide +kernel
theorem d_md_rule_352 : decode prog_14_method_31_code 352 = .ok (.getfield 207, 3) := by decide +kernel
theorem d_md_rule_355 : decode prog_14_method_31_code 355 = .ok (.iaload, 1) := by decide +kernel
theorem d_md_rule_356 : decode prog_14_method_31_code 356 = .ok (.bipush 44, 2) := by decide +kernel
theorem d_md_rule_358 : decode prog_14_method_31_code 358 = .ok (.if_icmp .ne (7), 3) := by decide +kernel
theorem d_md_rule_361 : decode prog_14_method_31_code 361 = .ok (.iconst 1, 1) := by decide +kernel
theorem d_md_rule_362 : decode prog_14_method_31_code 362 = .ok (.goto (4), 3) := by decide +kernel
theorem d_md_rule_365 : decode prog_14_method_31_code 365 = .ok (.iconst 0, 1) := by decide +kernel
theorem d_md_rule_366 : decode prog_14_method_31_code 366 = .ok (.istore_n 1, 1) := by decide +kernel
theorem d_md_rule_367 : decode prog_14_method_31_code 367 = .ok (.goto (-126), 3) := by decide +kernel
theorem d_md_rule_370 : decode prog_14_method_31_code 370 = .ok (.aload_n 0, 1) := by decide +kernel
theorem d_md_rule_371 : decode prog_14_method_31_code 371 = .ok (.getfield 76, 3) := by decide +kernel
theorem d_md_rule_374 : decode prog_14_method_31_code 374 = .ok (.aload_n 0, 1) := by decide +kernel
theorem d_md_rule_375 : decode prog_14_method_31_code 375 = .ok (.getfield 275, 3) := by decide +kernel
theorem d_md_rule_378 : decode prog_14_method_31_code 378 = .ok (.aload_n 0, 1) := by decide +kernel
theorem d_md_rule_379 : decode prog_14_method_31_code 379 = .ok (.getfield 303, 3) := by decide +kernel
theorem d_md_rule_382 : decode prog_14_method_31_code 382 = .ok (.iastore, 1) := by decide +kernel
theorem d_md_rule_383 : decode prog_14_method_31_code 383 = .ok (.aload_n 0, 1) := by decide +kernel
theorem d_md_rule_384 : decode prog_14_method_31_code 384 = .ok (.getfield 61, 3) := by decide +kernel
theorem d_md_rule_387 : decode prog_14_method_31_code 387 = .ok (.aload_n 0, 1) := by decide +kernel
theorem d_md_rule_388 : decode prog_14_method_31_code 388 = .ok (.getfield 275, 3) := by decide +kernel
theorem d_md_rule_391 : decode prog_14_method_31_code 391 = .ok (.iaload, 1) := by decide +kernel
theorem d_md_rule_392 : decode prog_14_method_31_code 392 = .ok (.ifCond .lt (38), 3) := by decide +kernel
theorem d_md_rule_395 : decode prog_14_method_31_code 395 = .ok (.aload_n 0, 1) := by decide +kernel
theorem d_md_rule_396 : decode prog_14_method_31_code 396 = .ok (.getfield 61, 3) := by decide +kernel
theorem d_md_rule_399 : decode prog_14_method_31_code 399 = .ok (.aload_n 0, 1) := by decide +kernel
theorem d_md_rule_400 : decode prog_14_method_31_code 400 = .ok (.getfield 275, 3) := by decide +kernel
theorem d_md_rule_403 : decode prog_14_method_31_code 403 = .ok (.iaload, 1) := by decide +kernel
theorem d_md_rule_404 : decode prog_14_method_31_code 404 = .ok (.aload_n 0, 1) := by decide +kernel
theorem d_md_rule_405 : decode prog_14_method_31_code 405 = .ok (.getfield 58, 3) := by decide +kernel
theorem d_md_rule_408 : decode prog_14_method_31_code 408 = .ok (.aload_n 0, 1) := by decide +kernel
theorem d_md_rule_409 : decode prog_14_method_31_code 409 = .ok (.getfield 275, 3) := by decide +kernel
theorem d_md_rule_412 : decode prog_14_method_31_code 412 = .ok (.iaload, 1) := by decide +kernel
theorem d_md_rule_413 : decode prog_14_method_31_code 413 = .ok (.if_icmp .ge (17), 3) := by decide +kernel
theorem d_md_rule_416 : decode prog_14_method_31_code 416 = .ok (.aload_n 0, 1) := by decide +kernel
theorem d_md_rule_417 : decode prog_14_method_31_code 417 = .ok (.iconst 5, 1) := by decide +kernel
theorem d_md_rule_418 : decode prog_14_method_31_code 418 = .ok (.aload_n 0, 1) := by decide +kernel
theorem d_md_rule_419 : decode prog_14_method_31_code 419 = .ok (.getfield 52, 3) := by decide +kernel
theorem d_md_rule_422 : decode prog_14_method_31_code 422 = .ok (.aload_n 0, 1) := by decide +kernel
theorem d_md_rule_423 : decode prog_14_method_31_code 423 = .ok (.getfield 275, 3) := by decide +kernel
theorem d_md_rule_426 : decode prog_14_method_31_code 426 = .ok (.iaload, 1) := by decide +kernel
theorem d_md_rule_427 : decode prog_14_method_31_code 427 = .ok (.invokevirtual 306, 3) := by decide +kernel
theorem d_md_rule_430 : decode prog_14_method_31_code 430 = .ok (.aload_n 0, 1) := by decide +kernel
theorem d_md_rule_431 : decode prog_14_method_31_code 431 = .ok (.invokevirtual 291, 3) := by decide +kernel
theorem d_md_rule_434 : decode prog_14_method_31_code 434 = .ok (.iconst 1, 1) := by decide +kernel
theorem d_md_rule_435 : decode prog_14_method_31_code 435 = .ok (.ireturn, 1) := by decide +kernel
theorem d_md_argument_0 : decode prog_14_method_32_code 0 = .ok (.aload_n 0, 1) := by decide +kernel
theorem d_md_argument_1 : decode prog_14_method_32_code 1 = .ok (.getfield 67, 3) := by decide +kernel
theorem d_md_argument_4 : decode prog_14_method_32_code 4 = .ok (.aload_n 0, 1) := by decide +kernel
theorem d_md_argument_5 : decode prog_14_method_32_code 5 = .ok (.getfield 275, 3) := by decide +kernel
theorem d_md_argument_8 : decode prog_14_method_32_code 8 = .ok (.aload_n 0, 1) := by decide +kernel
theorem d_md_argument_9 : decode prog_14_method_32_code 9 = .ok (.getfield 13, 3) := by decide +kernel
theorem d_md_argument_12 : decode prog_14_method_32_code 12 = .ok (.aload_n 0, 1) := by decide +kernel
theorem d_md_argument_13 : decode prog_14_method_32_code 13 = .ok (.getfield 207, 3) := by decide +kernel
theorem d_md_argument_16 : decode prog_14_method_32_code 16 = .ok (.iaload, 1) := by decide +kernel
theorem d_md_argument_17 : decode prog_14_method_32_code 17 = .ok (.bipush 95, 2) := by decide +kernel
theorem d_md_argument_19 : decode prog_14_method_32_code 19 = .ok (.if_icmp .ne (7), 3) := by decide +kernel
theorem d_md_argument_22 : decode prog_14_method_32_code 22 = .ok (.iconst 0, 1) := by decide +kernel
theorem d_md_argument_23 : decode prog_14_method_32_code 23 = .ok (.goto (22), 3) := by decide +kernel
theorem d_md_argument_26 : decode prog_14_method_32_code 26 = .ok (.aload_n 0, 1) := by decide +kernel
theorem d_md_argument_27 : decode prog_14_method_32_code 27 = .ok (.getfield 13, 3) := by decide +kernel
theorem d_md_argument_30 : decode prog_14_method_32_code 30 = .ok (.aload_n 0, 1) := by decide +kernel
theorem d_md_argument_31 : decode prog_14_method_32_code 31 = .ok (.getfield 207, 3) := by decide +kernel
theorem d_md_argument_34 : decode prog_14_method_32_code 34 = .ok (.iaload, 1) := by decide +kernel
theorem d_md_argument_35 : decode prog_14_method_32_code 35 = .ok (.bipush 33, 2) := by decide +kernel
theorem d_md_argument_37 : decode prog_14_method_32_code 37 = .ok (.if_icmp .ne (7), 3) := by decide +kernel
theorem d_md_argument_40 : decode prog_14_method_32_code 40 = .ok (.iconst 2, 1) := by decide +kernel
theorem d_md_argument_41 : decode prog_14_method_32_code 41 = .ok (.goto (4), 3) := by decide +kernel
theorem d_md_argument_44 : decode prog_14_method_32_code 44 = .ok (.iconst 1, 1) := by decide +kernel
theorem d_md_argument_45 : decode prog_14_method_32_code 45 = .ok (.iastore, 1) := by decide +kernel
theorem d_md_argument_46 : decode prog_14_method_32_code 46 = .ok (.aload_n 0, 1) := by decide +kernel
theorem d_md_argument_47 : decode prog_14_method_32_code 47 = .ok (.getfield 13, 3) := by decide +kernel
theorem d_md_argument_50 : decode prog_14_method_32_code 50 = .ok (.aload_n 0, 1) := by decide +kernel
theorem d_md_argument_51 : decode prog_14_method_32_code 51 = .ok (.getfield 207, 3) := by decide +kernel
theorem d_md_argument_54 : decode prog_14_method_32_code 54 = .ok (.iaload, 1) := by decide +kernel
theorem d_md_argument_55 : decode prog_14_method_32_code 55 = .ok (.bipush 33, 2) := by decide +kernel
theorem d_md_argument_57 : decode prog_14_method_32_code 57 = .ok (.if_icmp .ne (13), 3) := by decide +kernel
theorem d_md_argument_60 : decode prog_14_method_32_code 60 = .ok (.aload_n 0, 1) := by decide +kernel
theorem d_md_argument_61 : decode prog_14_method_32_code 61 = .ok (.dup, 1) := by decide +kernel
theorem d_md_argument_62 : decode prog_14_method_32_code 62 = .ok (.getfield 207, 3) := by decide +kernel
theorem d_md_argument_65 : decode prog_14_method_32_code 65 = .ok (.iconst 1, 1) := by decide +kernel
theorem d_md_argument_66 : decode prog_14_method_32_code 66 = .ok (.iadd, 1) := by decide +kernel
theorem d_md_argument_67 : decode prog_14_method_32_code 67 = .ok (.putfield 207, 3) := by decide +kernel
theorem d_md_argument_70 : decode prog_14_method_32_code 70 = .ok (.aload_n 0, 1) := by decide +kernel
theorem d_md_argument_71 : decode prog_14_method_32_code 71 = .ok (.getfield 67, 3) := by decide +kernel
theorem d_md_argument_74 : decode prog_14_method_32_code 74 = .ok (.aload_n 0, 1) := by decide +kernel
theorem d_md_argument_75 : decode prog_14_method_32_code 75 = .ok (.getfield 275, 3) := by decide +kernel
theorem d_md_argument_78 : decode prog_14_method_32_code 78 = .ok (.iaload, 1) := by decide +kernel
theorem d_md_argument_79 : decode prog_14_method_32_code 79 = .ok (.ifCond .le (21), 3) := by decide +kernel
theorem d_md_argument_82 : decode prog_14_method_32_code 82 = .ok (.aload_n 0, 1) := by decide +kernel
theorem d_md_argument_83 : decode prog_14_method_32_code 83 = .ok (.getfield 13, 3) := by decide +kernel
theorem d_md_argument_86 : decode prog_14_method_32_code 86 = .ok (.aload_n 0, 1) := by decide +kernel
theorem d_md_argument_87 : decode prog_14_method_32_code 87 = .ok (.getfield 207, 3) := by decide +kernel
theorem d_md_argument_90 : decode prog_14_method_32_code 90 = .ok (.iaload, 1) := by decide +kernel
theorem d_md_argument_91 : decode prog_14_method_32_code 91 = .ok (.iconst 1, 1) := by decide +kernel
theorem d_md_argument_92 : decode prog_14_method_32_code 92 = .ok (.if_icmp .eq (8), 3) := by decide +kernel
theorem d_md_argument_95 : decode prog_14_method_32_code 95 = .ok (.aload_n 0, 1) := by decide +kernel
theorem d_md_argument_96 : decode prog_14_method_32_code 96 = .ok (.invokevirtual 213, 3) := by decide +kernel
theorem d_md_argument_99 : decode prog_14_method_32_code 99 = .ok (.ireturn, 1) := by decide +kernel
theorem d_md_argument_100 : decode prog_14_method_32_code 100 = .ok (.aload_n 0, 1) := by decide +kernel
theorem d_md_argument_101 : decode prog_14_method_32_code 101 = .ok (.getfield 70, 3) := by decide +kernel
theorem d_md_argument_104 : decode prog_14_method_32_code 104 = .ok (.aload_n 0, 1) := by decide +kernel
theorem d_md_argument_105 : decode prog_14_method_32_code 105 = .ok (.getfield 275, 3) := by decide +kernel
theorem d_md_argument_108 : decode prog_14_method_32_code 108 = .ok (.aload_n 0, 1) := by decide +kernel
theorem d_md_argument_109 : decode prog_14_method_32_code 109 = .ok (.getfield 16, 3) := by decide +kernel
theorem d_md_argument_112 : decode prog_14_method_32_code 112 = .ok (.aload_n 0, 1) := by decide +kernel
theorem d_md_argument_113 : decode prog_14_method_32_code 113 = .ok (.getfield 207, 3) := by decide +kernel
theorem d_md_argument_116 : decode prog_14_method_32_code 116 = .ok (.iaload, 1) := by decide +kernel
theorem d_md_argument_117 : decode prog_14_method_32_code 117 = .ok (.iastore, 1) := by decide +kernel
theorem d_md_argument_118 : decode prog_14_method_32_code 118 = .ok (.aload_n 0, 1) := by decide +kernel
theorem d_md_argument_119 : decode prog_14_method_32_code 119 = .ok (.dup, 1) := by decide +kernel
theorem d_md_argument_120 : decode prog_14_method_32_code 120 = .ok (.getfield 207, 3) := by decide +kernel
theorem d_md_argument_123 : decode prog_14_method_32_code 123 = .ok (.iconst 1, 1) := by decide +kernel
theorem d_md_argument_124 : decode prog_14_method_32_code 124 = .ok (.iadd, 1) := by decide +kernel
theorem d_md_argument_125 : decode prog_14_method_32_code 125 = .ok (.putfield 207, 3) := by decide +kernel
theorem d_md_argument_128 : decode prog_14_method_32_code 128 = .ok (.iconst 1, 1) := by decide +kernel
theorem d_md_argument_129 : decode prog_14_method_32_code 129 = .ok (.ireturn, 1) := by decide +kernel
theorem d_md_claim_0 : decode prog_14_method_33_code 0 = .ok (.aload_n 0, 1) := by decide +kernel
theorem d_md_claim_1 : decode prog_14_method_33_code 1 = .ok (.invokevirtual 310, 3) := by decide +kernel
theorem d_md_claim_4 : decode prog_14_method_33_code 4 = .ok (.ifCond .eq (8), 3) := by decide +kernel
theorem d_md_claim_7 : decode prog_14_method_33_code 7 = .ok (.aload_n 0, 1) := by decide +kernel
theorem d_md_claim_8 : decode prog_14_method_33_code 8 = .ok (.invokevirtual 313, 3) := by decide +kernel
theorem d_md_claim_11 : decode prog_14_method_33_code 11 = .ok (.ireturn, 1) := by decide +kernel
theorem d_md_claim_12 : decode prog_14_method_33_code 12 = .ok (.aload_n 0, 1) := by decide +kernel
theorem d_md_claim_13 : decode prog_14_method_33_code 13 = .ok (.getfield 13, 3) := by decide +kernel
theorem d_md_claim_16 : decode prog_14_method_33_code 16 = .ok (.aload_n 0, 1) := by decide +kernel
theorem d_md_claim_17 : decode prog_14_method_33_code 17 = .ok (.getfield 207, 3) := by decide +kernel
theorem d_md_claim_20 : decode prog_14_method_33_code 20 = .ok (.iaload, 1) := by decide +kernel
theorem d_md_claim_21 : decode prog_14_method_33_code 21 = .ok (.bipush 33, 2) := by decide +kernel
theorem d_md_claim_23 : decode prog_14_method_33_code 23 = .ok (.if_icmp .ne (23), 3) := by decide +kernel
theorem d_md_claim_26 : decode prog_14_method_33_code 26 = .ok (.aload_n 0, 1) := by decide +kernel
theorem d_md_claim_27 : decode prog_14_method_33_code 27 = .ok (.getfield 13, 3) := by decide +kernel
theorem d_md_claim_30 : decode prog_14_method_33_code 30 = .ok (.aload_n 0, 1) := by decide +kernel
theorem d_md_claim_31 : decode prog_14_method_33_code 31 = .ok (.getfield 207, 3) := by decide +kernel
theorem d_md_claim_34 : decode prog_14_method_33_code 34 = .ok (.iconst 1, 1) := by decide +kernel
theorem d_md_claim_35 : decode prog_14_method_33_code 35 = .ok (.iadd, 1) := by decide +kernel
theorem d_md_claim_36 : decode prog_14_method_33_code 36 = .ok (.iaload, 1) := by decide +kernel
theorem d_md_claim_37 : decode prog_14_method_33_code 37 = .ok (.bipush 88, 2) := by decide +kernel
theorem d_md_claim_39 : decode prog_14_method_33_code 39 = .ok (.if_icmp .ne (7), 3) := by decide +kernel
theorem d_md_claim_42 : decode prog_14_method_33_code 42 = .ok (.iconst 1, 1) := by decide +kernel
theorem d_md_claim_43 : decode prog_14_method_33_code 43 = .ok (.goto (4), 3) := by decide +kernel
theorem d_md_claim_46 : decode prog_14_method_33_code 46 = .ok (.iconst 0, 1) := by decide +kernel
theorem d_md_claim_47 : decode prog_14_method_33_code 47 = .ok (.istore_n 1, 1) := by decide +kernel
theorem d_md_claim_48 : decode prog_14_method_33_code 48 = .ok (.iload_n 1, 1) := by decide +kernel
theorem d_md_claim_49 : decode prog_14_method_33_code 49 = .ok (.ifCond .ne (23), 3) := by decide +kernel
theorem d_md_claim_52 : decode prog_14_method_33_code 52 = .ok (.aload_n 0, 1) := by decide +kernel
theorem d_md_claim_53 : decode prog_14_method_33_code 53 = .ok (.getfield 13, 3) := by decide +kernel
theorem d_md_claim_56 : decode prog_14_method_33_code 56 = .ok (.aload_n 0, 1) := by decide +kernel
theorem d_md_claim_57 : decode prog_14_method_33_code 57 = .ok (.getfield 207, 3) := by decide +kernel
theorem d_md_claim_60 : decode prog_14_method_33_code 60 = .ok (.iaload, 1) := by decide +kernel
theorem d_md_claim_61 : decode prog_14_method_33_code 61 = .ok (.bipush 88, 2) := by decide +kernel
theorem d_md_claim_63 : decode prog_14_method_33_code 63 = .ok (.if_icmp .eq (9), 3) := by decide +kernel
theorem d_md_claim_66 : decode prog_14_method_33_code 66 = .ok (.aload_n 0, 1) := by decide +kernel
theorem d_md_claim_67 : decode prog_14_method_33_code 67 = .ok (.iconst 4, 1) := by decide +kernel
theorem d_md_claim_68 : decode prog_14_method_33_code 68 = .ok (.invokevirtual 316, 3) := by decide +kernel
theorem d_md_claim_71 : decode prog_14_method_33_code 71 = .ok (.ireturn, 1) := by decide +kernel
theorem d_md_claim_72 : decode prog_14_method_33_code 72 = .ok (.aload_n 0, 1) := by decide +kernel
theorem d_md_claim_73 : decode prog_14_method_33_code 73 = .ok (.iload_n 1, 1) := by decide +kernel
theorem d_md_claim_74 : decode prog_14_method_33_code 74 = .ok (.ifCond .eq (8), 3) := by decide +kernel
theorem d_md_claim_77 : decode prog_14_method_33_code 77 = .ok (.bipush 6, 2) := by decide +kernel
theorem d_md_claim_79 : decode prog_14_method_33_code 79 = .ok (.goto (4), 3) := by decide +kernel
theorem d_md_claim_82 : decode prog_14_method_33_code 82 = .ok (.iconst 5, 1) := by decide +kernel
theorem d_md_claim_83 : decode prog_14_method_33_code 83 = .ok (.invokevirtual 284, 3) := by decide +kernel
theorem d_md_claim_86 : decode prog_14_method_33_code 86 = .ok (.aload_n 0, 1) := by decide +kernel
theorem d_md_claim_87 : decode prog_14_method_33_code 87 = .ok (.dup, 1) := by decide +kernel
theorem d_md_claim_88 : decode prog_14_method_33_code 88 = .ok (.getfield 207, 3) := by decide +kernel
theorem d_md_claim_91 : decode prog_14_method_33_code 91 = .ok (.iload_n 1, 1) := by decide +kernel
theorem d_md_claim_92 : decode prog_14_method_33_code 92 = .ok (.ifCond .eq (7), 3) := by decide +kernel
theorem d_md_claim_95 : decode prog_14_method_33_code 95 = .ok (.iconst 2, 1) := by decide +kernel
theorem d_md_claim_96 : decode prog_14_method_33_code 96 = .ok (.goto (4), 3) := by decide +kernel
theorem d_md_claim_99 : decode prog_14_method_33_code 99 = .ok (.iconst 1, 1) := by decide +kernel
theorem d_md_claim_100 : decode prog_14_method_33_code 100 = .ok (.iadd, 1) := by decide +kernel
theorem d_md_claim_101 : decode prog_14_method_33_code 101 = .ok (.putfield 207, 3) := by decide +kernel
theorem d_md_claim_104 : decode prog_14_method_33_code 104 = .ok (.aload_n 0, 1) := by decide +kernel
theorem d_md_claim_105 : decode prog_14_method_33_code 105 = .ok (.invokevirtual 291, 3) := by decide +kernel
theorem d_md_claim_108 : decode prog_14_method_33_code 108 = .ok (.iconst 1, 1) := by decide +kernel
theorem d_md_claim_109 : decode prog_14_method_33_code 109 = .ok (.ireturn, 1) := by decide +kernel
theorem d_md_several_0 : decode prog_14_method_34_code 0 = .ok (.iconst 1, 1) := by decide +kernel
theorem d_md_several_1 : decode prog_14_method_34_code 1 = .ok (.istore_n 2, 1) := by decide +kernel
theorem d_md_several_2 : decode prog_14_method_34_code 2 = .ok (.iload_n 2, 1) := by decide +kernel
theorem d_md_several_3 : decode prog_14_method_34_code 3 = .ok (.ifCond .eq (77), 3) := by decide +kernel
theorem d_md_several_6 : decode prog_14_method_34_code 6 = .ok (.iload_n 1, 1) := by decide +kernel
theorem d_md_several_7 : decode prog_14_method_34_code 7 = .ok (.iconst 2, 1) := by decide +kernel
theorem d_md_several_8 : decode prog_14_method_34_code 8 = .ok (.if_icmp .ne (11), 3) := by decide +kernel
theorem d_md_several_11 : decode prog_14_method_34_code 11 = .ok (.aload_n 0, 1) := by decide +kernel
theorem d_md_several_12 : decode prog_14_method_34_code 12 = .ok (.iload_n 1, 1) := by decide +kernel
theorem d_md_several_13 : decode prog_14_method_34_code 13 = .ok (.invokevirtual 316, 3) := by decide +kernel
theorem d_md_several_16 : decode prog_14_method_34_code 16 = .ok (.goto (20), 3) := by decide +kernel
theorem d_md_several_19 : decode prog_14_method_34_code 19 = .ok (.iload_n 1, 1) := by decide +kernel
theorem d_md_several_20 : decode prog_14_method_34_code 20 = .ok (.iconst 4, 1) := by decide +kernel
theorem d_md_several_21 : decode prog_14_method_34_code 21 = .ok (.if_icmp .ne (10), 3) := by decide +kernel
theorem d_md_several_24 : decode prog_14_method_34_code 24 = .ok (.aload_n 0, 1) := by decide +kernel
theorem d_md_several_25 : decode prog_14_method_34_code 25 = .ok (.invokevirtual 319, 3) := by decide +kernel
theorem d_md_several_28 : decode prog_14_method_34_code 28 = .ok (.goto (8), 3) := by decide +kernel
theorem d_md_several_31 : decode prog_14_method_34_code 31 = .ok (.aload_n 0, 1) := by decide +kernel
theorem d_md_several_32 : decode prog_14_method_34_code 32 = .ok (.iload_n 1, 1) := by decide +kernel
theorem d_md_several_33 : decode prog_14_method_34_code 33 = .ok (.invokevirtual 322, 3) := by decide +kernel
theorem d_md_several_36 : decode prog_14_method_34_code 36 = .ok (.istore_n 3, 1) := by decide +kernel
theorem d_md_several_37 : decode prog_14_method_34_code 37 = .ok (.iload_n 3, 1) := by decide +kernel
theorem d_md_several_38 : decode prog_14_method_34_code 38 = .ok (.ifCond .ne (5), 3) := by decide +kernel
theorem d_md_several_41 : decode prog_14_method_34_code 41 = .ok (.iconst 0, 1) := by decide +kernel
theorem d_md_several_42 : decode prog_14_method_34_code 42 = .ok (.ireturn, 1) := by decide +kernel
theorem d_md_several_43 : decode prog_14_method_34_code 43 = .ok (.aload_n 0, 1) := by decide +kernel
theorem d_md_several_44 : decode prog_14_method_34_code 44 = .ok (.getfield 13, 3) := by decide +kernel
theorem d_md_several_47 : decode prog_14_method_34_code 47 = .ok (.aload_n 0, 1) := by decide +kernel
theorem d_md_several_48 : decode prog_14_method_34_code 48 = .ok (.getfield 207, 3) := by decide +kernel
theorem d_md_several_51 : decode prog_14_method_34_code 51 = .ok (.iaload, 1) := by decide +kernel
theorem d_md_several_52 : decode prog_14_method_34_code 52 = .ok (.bipush 59, 2) := by decide +kernel
theorem d_md_several_54 : decode prog_14_method_34_code 54 = .ok (.if_icmp .ne (7), 3) := by decide +kernel
theorem d_md_several_57 : decode prog_14_method_34_code 57 = .ok (.iconst 1, 1) := by decide +kernel
theorem d_md_several_58 : decode prog_14_method_34_code 58 = .ok (.goto (4), 3) := by decide +kernel
theorem d_md_several_61 : decode prog_14_method_34_code 61 = .ok (.iconst 0, 1) := by decide +kernel
theorem d_md_several_62 : decode prog_14_method_34_code 62 = .ok (.istore_n 2, 1) := by decide +kernel
theorem d_md_several_63 : decode prog_14_method_34_code 63 = .ok (.iload_n 2, 1) := by decide +kernel
theorem d_md_several_64 : decode prog_14_method_34_code 64 = .ok (.ifCond .eq (13), 3) := by decide +kernel
theorem d_md_several_67 : decode prog_14_method_34_code 67 = .ok (.aload_n 0, 1) := by decide +kernel
theorem d_md_several_68 : decode prog_14_method_34_code 68 = .ok (.dup, 1) := by decide +kernel
theorem d_md_several_69 : decode prog_14_method_34_code 69 = .ok (.getfield 207, 3) := by decide +kernel
theorem d_md_several_72 : decode prog_14_method_34_code 72 = .ok (.iconst 1, 1) := by decide +kernel
theorem d_md_several_73 : decode prog_14_method_34_code 73 = .ok (.iadd, 1) := by decide +kernel
theorem d_md_several_74 : decode prog_14_method_34_code 74 = .ok (.putfield 207, 3) := by decide +kernel
theorem d_md_several_77 : decode prog_14_method_34_code 77 = .ok (.goto (-75), 3) := by decide +kernel
theorem d_md_several_80 : decode prog_14_method_34_code 80 = .ok (.iconst 1, 1) := by decide +kernel
theorem d_md_several_81 : decode prog_14_method_34_code 81 = .ok (.ireturn, 1) := by decide +kernel
theorem d_md_block_0 : decode prog_14_method_35_code 0 = .ok (.aload_n 0, 1) := by decide +kernel
theorem d_md_block_1 : decode prog_14_method_35_code 1 = .ok (.iload_n 1, 1) := by decide +kernel
theorem d_md_block_2 : decode prog_14_method_35_code 2 = .ok (.invokevirtual 297, 3) := by decide +kernel
theorem d_md_block_5 : decode prog_14_method_35_code 5 = .ok (.ifCond .eq (24), 3) := by decide +kernel
theorem d_md_block_8 : decode prog_14_method_35_code 8 = .ok (.aload_n 0, 1) := by decide +kernel
theorem d_md_block_9 : decode prog_14_method_35_code 9 = .ok (.bipush 58, 2) := by decide +kernel
theorem d_md_block_11 : decode prog_14_method_35_code 11 = .ok (.invokevirtual 297, 3) := by decide +kernel
theorem d_md_block_14 : decode prog_14_method_35_code 14 = .ok (.ifCond .eq (15), 3) := by decide +kernel
theorem d_md_block_17 : decode prog_14_method_35_code 17 = .ok (.aload_n 0, 1) := by decide +kernel
theorem d_md_block_18 : decode prog_14_method_35_code 18 = .ok (.iload_n 2, 1) := by decide +kernel
theorem d_md_block_19 : decode prog_14_method_35_code 19 = .ok (.invokevirtual 325, 3) := by decide +kernel
theorem d_md_block_22 : decode prog_14_method_35_code 22 = .ok (.ifCond .eq (7), 3) := by decide +kernel
theorem d_md_block_25 : decode prog_14_method_35_code 25 = .ok (.iconst 1, 1) := by decide +kernel
theorem d_md_block_26 : decode prog_14_method_35_code 26 = .ok (.goto (4), 3) := by decide +kernel
theorem d_md_block_29 : decode prog_14_method_35_code 29 = .ok (.iconst 0, 1) := by decide +kernel
theorem d_md_block_30 : decode prog_14_method_35_code 30 = .ok (.ireturn, 1) := by decide +kernel
theorem d_md_isBar_0 : decode prog_14_method_36_code 0 = .ok (.aload_n 0, 1) := by decide +kernel
theorem d_md_isBar_1 : decode prog_14_method_36_code 1 = .ok (.getfield 13, 3) := by decide +kernel
theorem d_md_isBar_4 : decode prog_14_method_36_code 4 = .ok (.aload_n 0, 1) := by decide +kernel
theorem d_md_isBar_5 : decode prog_14_method_36_code 5 = .ok (.getfield 207, 3) := by decide +kernel
theorem d_md_isBar_8 : decode prog_14_method_36_code 8 = .ok (.iaload, 1) := by decide +kernel
theorem d_md_isBar_9 : decode prog_14_method_36_code 9 = .ok (.bipush 124, 2) := by decide +kernel
theorem d_md_isBar_11 : decode prog_14_method_36_code 11 = .ok (.if_icmp .eq (18), 3) := by decide +kernel
theorem d_md_isBar_14 : decode prog_14_method_36_code 14 = .ok (.aload_n 0, 1) := by decide +kernel
theorem d_md_isBar_15 : decode prog_14_method_36_code 15 = .ok (.getfield 13, 3) := by decide +kernel
theorem d_md_isBar_18 : decode prog_14_method_36_code 18 = .ok (.aload_n 0, 1) := by decide +kernel
theorem d_md_isBar_19 : decode prog_14_method_36_code 19 = .ok (.getfield 207, 3) := by decide +kernel
theorem d_md_isBar_22 : decode prog_14_method_36_code 22 = .ok (.iaload, 1) := by decide +kernel
theorem d_md_isBar_23 : decode prog_14_method_36_code 23 = .ok (.sipush 133, 3) := by decide +kernel
theorem d_md_isBar_26 : decode prog_14_method_36_code 26 = .ok (.if_icmp .ne (7), 3) := by decide +kernel
theorem d_md_isBar_29 : decode prog_14_method_36_code 29 = .ok (.iconst 1, 1) := by decide +kernel
theorem d_md_isBar_30 : decode prog_14_method_36_code 30 = .ok (.goto (4), 3) := by decide +kernel
theorem d_md_isBar_33 : decode prog_14_method_36_code 33 = .ok (.iconst 0, 1) := by decide +kernel
theorem d_md_isBar_34 : decode prog_14_method_36_code 34 = .ok (.ireturn, 1) := by decide +kernel
theorem d_md_table_0 : decode prog_14_method_37_code 0 = .ok (.aload_n 0, 1) := by decide +kernel
theorem d_md_table_1 : decode prog_14_method_37_code 1 = .ok (.dup, 1) := by decide +kernel
theorem d_md_table_2 : decode prog_14_method_37_code 2 = .ok (.getfield 207, 3) := by decide +kernel
theorem d_md_table_5 : decode prog_14_method_37_code 5 = .ok (.iconst 1, 1) := by decide +kernel
theorem d_md_table_6 : decode prog_14_method_37_code 6 = .ok (.iadd, 1) := by decide +kernel
theorem d_md_table_7 : decode prog_14_method_37_code 7 = .ok (.putfield 207, 3) := by decide +kernel
theorem d_md_table_10 : decode prog_14_method_37_code 10 = .ok (.aload_n 0, 1) := by decide +kernel
theorem d_md_table_11 : decode prog_14_method_37_code 11 = .ok (.bipush 58, 2) := by decide +kernel
theorem d_md_table_13 : decode prog_14_method_37_code 13 = .ok (.invokevirtual 297, 3) := by decide +kernel
theorem d_md_table_16 : decode prog_14_method_37_code 16 = .ok (.ifCond .ne (5), 3) := by decide +kernel
theorem d_md_table_19 : decode prog_14_method_37_code 19 = .ok (.iconst 0, 1) := by decide +kernel
theorem d_md_table_20 : decode prog_14_method_37_code 20 = .ok (.ireturn, 1) := by decide +kernel
theorem d_md_table_21 : decode prog_14_method_37_code 21 = .ok (.iconst 1, 1) := by decide +kernel
theorem d_md_table_22 : decode prog_14_method_37_code 22 = .ok (.istore_n 1, 1) := by decide +kernel
theorem d_md_table_23 : decode prog_14_method_37_code 23 = .ok (.iload_n 1, 1) := by decide +kernel
theorem d_md_table_24 : decode prog_14_method_37_code 24 = .ok (.ifCond .eq (108), 3) := by decide +kernel
theorem d_md_table_27 : decode prog_14_method_37_code 27 = .ok (.aload_n 0, 1) := by decide +kernel
theorem d_md_table_28 : decode prog_14_method_37_code 28 = .ok (.getfield 13, 3) := by decide +kernel
theorem d_md_table_31 : decode prog_14_method_37_code 31 = .ok (.aload_n 0, 1) := by decide +kernel
theorem d_md_table_32 : decode prog_14_method_37_code 32 = .ok (.getfield 207, 3) := by decide +kernel
theorem d_md_table_35 : decode prog_14_method_37_code 35 = .ok (.iaload, 1) := by decide +kernel
theorem d_md_table_36 : decode prog_14_method_37_code 36 = .ok (.iconst 2, 1) := by decide +kernel
theorem d_md_table_37 : decode prog_14_method_37_code 37 = .ok (.if_icmp .eq (8), 3) := by decide +kernel
theorem d_md_table_40 : decode prog_14_method_37_code 40 = .ok (.aload_n 0, 1) := by decide +kernel
theorem d_md_table_41 : decode prog_14_method_37_code 41 = .ok (.invokevirtual 213, 3) := by decide +kernel
theorem d_md_table_44 : decode prog_14_method_37_code 44 = .ok (.ireturn, 1) := by decide +kernel
theorem d_md_table_45 : decode prog_14_method_37_code 45 = .ok (.aload_n 0, 1) := by decide +kernel
theorem d_md_table_46 : decode prog_14_method_37_code 46 = .ok (.iconst 3, 1) := by decide +kernel
theorem d_md_table_47 : decode prog_14_method_37_code 47 = .ok (.aload_n 0, 1) := by decide +kernel
theorem d_md_table_48 : decode prog_14_method_37_code 48 = .ok (.getfield 19, 3) := by decide +kernel
theorem d_md_table_51 : decode prog_14_method_37_code 51 = .ok (.aload_n 0, 1) := by decide +kernel
theorem d_md_table_52 : decode prog_14_method_37_code 52 = .ok (.getfield 207, 3) := by decide +kernel
theorem d_md_table_55 : decode prog_14_method_37_code 55 = .ok (.iaload, 1) := by decide +kernel
theorem d_md_table_56 : decode prog_14_method_37_code 56 = .ok (.aload_n 0, 1) := by decide +kernel
theorem d_md_table_57 : decode prog_14_method_37_code 57 = .ok (.getfield 16, 3) := by decide +kernel
theorem d_md_table_60 : decode prog_14_method_37_code 60 = .ok (.aload_n 0, 1) := by decide +kernel
theorem d_md_table_61 : decode prog_14_method_37_code 61 = .ok (.getfield 207, 3) := by decide +kernel
theorem d_md_table_64 : decode prog_14_method_37_code 64 = .ok (.iaload, 1) := by decide +kernel
theorem d_md_table_65 : decode prog_14_method_37_code 65 = .ok (.aload_n 0, 1) := by decide +kernel
theorem d_md_table_66 : decode prog_14_method_37_code 66 = .ok (.getfield 328, 3) := by decide +kernel
theorem d_md_table_69 : decode prog_14_method_37_code 69 = .ok (.invokevirtual 236, 3) := by decide +kernel
theorem d_md_table_72 : decode prog_14_method_37_code 72 = .ok (.aload_n 0, 1) := by decide +kernel
theorem d_md_table_73 : decode prog_14_method_37_code 73 = .ok (.getfield 115, 3) := by decide +kernel
theorem d_md_table_76 : decode prog_14_method_37_code 76 = .ok (.aload_n 0, 1) := by decide +kernel
theorem d_md_table_77 : decode prog_14_method_37_code 77 = .ok (.getfield 328, 3) := by decide +kernel
theorem d_md_table_80 : decode prog_14_method_37_code 80 = .ok (.aload_n 0, 1) := by decide +kernel
theorem d_md_table_81 : decode prog_14_method_37_code 81 = .ok (.getfield 16, 3) := by decide +kernel
theorem d_md_table_84 : decode prog_14_method_37_code 84 = .ok (.aload_n 0, 1) := by decide +kernel
theorem d_md_table_85 : decode prog_14_method_37_code 85 = .ok (.getfield 207, 3) := by decide +kernel
theorem d_md_table_88 : decode prog_14_method_37_code 88 = .ok (.iaload, 1) := by decide +kernel
theorem d_md_table_89 : decode prog_14_method_37_code 89 = .ok (.iastore, 1) := by decide +kernel
theorem d_md_table_90 : decode prog_14_method_37_code 90 = .ok (.aload_n 0, 1) := by decide +kernel
theorem d_md_table_91 : decode prog_14_method_37_code 91 = .ok (.dup, 1) := by decide +kernel
theorem d_md_table_92 : decode prog_14_method_37_code 92 = .ok (.getfield 328, 3) := by decide +kernel
theorem d_md_table_95 : decode prog_14_method_37_code 95 = .ok (.iconst 1, 1) := by decide +kernel
theorem d_md_table_96 : decode prog_14_method_37_code 96 = .ok (.iadd, 1) := by decide +kernel
theorem d_md_table_97 : decode prog_14_method_37_code 97 = .ok (.putfield 328, 3) := by decide +kernel
theorem d_md_table_100 : decode prog_14_method_37_code 100 = .ok (.aload_n 0, 1) := by decide +kernel
theorem d_md_table_101 : decode prog_14_method_37_code 101 = .ok (.dup, 1) := by decide +kernel
theorem d_md_table_102 : decode prog_14_method_37_code 102 = .ok (.getfield 207, 3) := by decide +kernel
theorem d_md_table_105 : decode prog_14_method_37_code 105 = .ok (.iconst 1, 1) := by decide +kernel
theorem d_md_table_106 : decode prog_14_method_37_code 106 = .ok (.iadd, 1) := by decide +kernel
theorem d_md_table_107 : decode prog_14_method_37_code 107 = .ok (.putfield 207, 3) := by decide +kernel
theorem d_md_table_110 : decode prog_14_method_37_code 110 = .ok (.aload_n 0, 1) := by decide +kernel
theorem d_md_table_111 : decode prog_14_method_37_code 111 = .ok (.invokevirtual 331, 3) := by decide +kernel
theorem d_md_table_114 : decode prog_14_method_37_code 114 = .ok (.istore_n 1, 1) := by decide +kernel
theorem d_md_table_115 : decode prog_14_method_37_code 115 = .ok (.iload_n 1, 1) := by decide +kernel
theorem d_md_table_116 : decode prog_14_method_37_code 116 = .ok (.ifCond .eq (-93), 3) := by decide +kernel
theorem d_md_table_119 : decode prog_14_method_37_code 119 = .ok (.aload_n 0, 1) := by decide +kernel
theorem d_md_table_120 : decode prog_14_method_37_code 120 = .ok (.dup, 1) := by decide +kernel
theorem d_md_table_121 : decode prog_14_method_37_code 121 = .ok (.getfield 207, 3) := by decide +kernel
theorem d_md_table_124 : decode prog_14_method_37_code 124 = .ok (.iconst 1, 1) := by decide +kernel
theorem d_md_table_125 : decode prog_14_method_37_code 125 = .ok (.iadd, 1) := by decide +kernel
theorem d_md_table_126 : decode prog_14_method_37_code 126 = .ok (.putfield 207, 3) := by decide +kernel
theorem d_md_table_129 : decode prog_14_method_37_code 129 = .ok (.goto (-106), 3) := by decide +kernel
theorem d_md_table_132 : decode prog_14_method_37_code 132 = .ok (.aload_n 0, 1) := by decide +kernel
theorem d_md_table_133 : decode prog_14_method_37_code 133 = .ok (.getfield 13, 3) := by decide +kernel
theorem d_md_table_136 : decode prog_14_method_37_code 136 = .ok (.aload_n 0, 1) := by decide +kernel
theorem d_md_table_137 : decode prog_14_method_37_code 137 = .ok (.getfield 207, 3) := by decide +kernel
theorem d_md_table_140 : decode prog_14_method_37_code 140 = .ok (.iaload, 1) := by decide +kernel
theorem d_md_table_141 : decode prog_14_method_37_code 141 = .ok (.bipush 59, 2) := by decide +kernel
theorem d_md_table_143 : decode prog_14_method_37_code 143 = .ok (.if_icmp .eq (8), 3) := by decide +kernel
theorem d_md_table_146 : decode prog_14_method_37_code 146 = .ok (.aload_n 0, 1) := by decide +kernel
theorem d_md_table_147 : decode prog_14_method_37_code 147 = .ok (.invokevirtual 213, 3) := by decide +kernel
theorem d_md_table_150 : decode prog_14_method_37_code 150 = .ok (.ireturn, 1) := by decide +kernel
theorem d_md_table_151 : decode prog_14_method_37_code 151 = .ok (.aload_n 0, 1) := by decide +kernel
theorem d_md_table_152 : decode prog_14_method_37_code 152 = .ok (.getfield 13, 3) := by decide +kernel
theorem d_md_table_155 : decode prog_14_method_37_code 155 = .ok (.aload_n 0, 1) := by decide +kernel
theorem d_md_table_156 : decode prog_14_method_37_code 156 = .ok (.getfield 207, 3) := by decide +kernel
theorem d_md_table_159 : decode prog_14_method_37_code 159 = .ok (.iaload, 1) := by decide +kernel
theorem d_md_table_160 : decode prog_14_method_37_code 160 = .ok (.bipush 59, 2) := by decide +kernel
theorem d_md_table_162 : decode prog_14_method_37_code 162 = .ok (.if_icmp .ne (22), 3) := by decide +kernel
theorem d_md_table_165 : decode prog_14_method_37_code 165 = .ok (.aload_n 0, 1) := by decide +kernel
theorem d_md_table_166 : decode prog_14_method_37_code 166 = .ok (.dup, 1) := by decide +kernel
theorem d_md_table_167 : decode prog_14_method_37_code 167 = .ok (.getfield 207, 3) := by decide +kernel
theorem d_md_table_170 : decode prog_14_method_37_code 170 = .ok (.iconst 1, 1) := by decide +kernel
theorem d_md_table_171 : decode prog_14_method_37_code 171 = .ok (.iadd, 1) := by decide +kernel
theorem d_md_table_172 : decode prog_14_method_37_code 172 = .ok (.putfield 207, 3) := by decide +kernel
theorem d_md_table_175 : decode prog_14_method_37_code 175 = .ok (.aload_n 0, 1) := by decide +kernel
theorem d_md_table_176 : decode prog_14_method_37_code 176 = .ok (.invokevirtual 334, 3) := by decide +kernel
theorem d_md_table_179 : decode prog_14_method_37_code 179 = .ok (.ifCond .ne (-28), 3) := by decide +kernel
theorem d_md_table_182 : decode prog_14_method_37_code 182 = .ok (.iconst 0, 1) := by decide +kernel
theorem d_md_table_183 : decode prog_14_method_37_code 183 = .ok (.ireturn, 1) := by decide +kernel
theorem d_md_table_184 : decode prog_14_method_37_code 184 = .ok (.iconst 1, 1) := by decide +kernel
theorem d_md_table_185 : decode prog_14_method_37_code 185 = .ok (.ireturn, 1) := by decide +kernel
theorem d_md_tableRow_0 : decode prog_14_method_38_code 0 = .ok (.aload_n 0, 1) := by decide +kernel
theorem d_md_tableRow_1 : decode prog_14_method_38_code 1 = .ok (.getfield 19, 3) := by decide +kernel
theorem d_md_tableRow_4 : decode prog_14_method_38_code 4 = .ok (.aload_n 0, 1) := by decide +kernel
theorem d_md_tableRow_5 : decode prog_14_method_38_code 5 = .ok (.getfield 207, 3) := by decide +kernel
theorem d_md_tableRow_8 : decode prog_14_method_38_code 8 = .ok (.iaload, 1) := by decide +kernel
theorem d_md_tableRow_9 : decode prog_14_method_38_code 9 = .ok (.istore_n 1, 1) := by decide +kernel
theorem d_md_tableRow_10 : decode prog_14_method_38_code 10 = .ok (.aload_n 0, 1) := by decide +kernel
theorem d_md_tableRow_11 : decode prog_14_method_38_code 11 = .ok (.iconst 0, 1) := by decide +kernel
theorem d_md_tableRow_12 : decode prog_14_method_38_code 12 = .ok (.putfield 233, 3) := by decide +kernel
theorem d_md_tableRow_15 : decode prog_14_method_38_code 15 = .ok (.iconst 1, 1) := by decide +kernel
theorem d_md_tableRow_16 : decode prog_14_method_38_code 16 = .ok (.istore_n 2, 1) := by decide +kernel
theorem d_md_tableRow_17 : decode prog_14_method_38_code 17 = .ok (.iload_n 2, 1) := by decide +kernel
theorem d_md_tableRow_18 : decode prog_14_method_38_code 18 = .ok (.ifCond .eq (89), 3) := by decide +kernel
theorem d_md_tableRow_21 : decode prog_14_method_38_code 21 = .ok (.aload_n 0, 1) := by decide +kernel
theorem d_md_tableRow_22 : decode prog_14_method_38_code 22 = .ok (.bipush 9, 2) := by decide +kernel
theorem d_md_tableRow_24 : decode prog_14_method_38_code 24 = .ok (.invokevirtual 284, 3) := by decide +kernel
theorem d_md_tableRow_27 : decode prog_14_method_38_code 27 = .ok (.aload_n 0, 1) := by decide +kernel
theorem d_md_tableRow_28 : decode prog_14_method_38_code 28 = .ok (.getfield 43, 3) := by decide +kernel
theorem d_md_tableRow_31 : decode prog_14_method_38_code 31 = .ok (.aload_n 0, 1) := by decide +kernel
theorem d_md_tableRow_32 : decode prog_14_method_38_code 32 = .ok (.getfield 275, 3) := by decide +kernel
theorem d_md_tableRow_35 : decode prog_14_method_38_code 35 = .ok (.aload_n 0, 1) := by decide +kernel
theorem d_md_tableRow_36 : decode prog_14_method_38_code 36 = .ok (.getfield 233, 3) := by decide +kernel
theorem d_md_tableRow_39 : decode prog_14_method_38_code 39 = .ok (.aload_n 0, 1) := by decide +kernel
theorem d_md_tableRow_40 : decode prog_14_method_38_code 40 = .ok (.getfield 328, 3) := by decide +kernel
theorem d_md_tableRow_43 : decode prog_14_method_38_code 43 = .ok (.if_icmp .ge (15), 3) := by decide +kernel
theorem d_md_tableRow_46 : decode prog_14_method_38_code 46 = .ok (.aload_n 0, 1) := by decide +kernel
theorem d_md_tableRow_47 : decode prog_14_method_38_code 47 = .ok (.getfield 115, 3) := by decide +kernel
theorem d_md_tableRow_50 : decode prog_14_method_38_code 50 = .ok (.aload_n 0, 1) := by decide +kernel
theorem d_md_tableRow_51 : decode prog_14_method_38_code 51 = .ok (.getfield 233, 3) := by decide +kernel
theorem d_md_tableRow_54 : decode prog_14_method_38_code 54 = .ok (.iaload, 1) := by decide +kernel
theorem d_md_tableRow_55 : decode prog_14_method_38_code 55 = .ok (.goto (4), 3) := by decide +kernel
theorem d_md_tableRow_58 : decode prog_14_method_38_code 58 = .ok (.iconst 0, 1) := by decide +kernel
theorem d_md_tableRow_59 : decode prog_14_method_38_code 59 = .ok (.iastore, 1) := by decide +kernel
theorem d_md_tableRow_60 : decode prog_14_method_38_code 60 = .ok (.aload_n 0, 1) := by decide +kernel
theorem d_md_tableRow_61 : decode prog_14_method_38_code 61 = .ok (.iconst 4, 1) := by decide +kernel
theorem d_md_tableRow_62 : decode prog_14_method_38_code 62 = .ok (.iconst 0, 1) := by decide +kernel
theorem d_md_tableRow_63 : decode prog_14_method_38_code 63 = .ok (.invokevirtual 287, 3) := by decide +kernel
theorem d_md_tableRow_66 : decode prog_14_method_38_code 66 = .ok (.ifCond .ne (5), 3) := by decide +kernel
theorem d_md_tableRow_69 : decode prog_14_method_38_code 69 = .ok (.iconst 0, 1) := by decide +kernel
theorem d_md_tableRow_70 : decode prog_14_method_38_code 70 = .ok (.ireturn, 1) := by decide +kernel
theorem d_md_tableRow_71 : decode prog_14_method_38_code 71 = .ok (.aload_n 0, 1) := by decide +kernel
theorem d_md_tableRow_72 : decode prog_14_method_38_code 72 = .ok (.invokevirtual 291, 3) := by decide +kernel
theorem d_md_tableRow_75 : decode prog_14_method_38_code 75 = .ok (.aload_n 0, 1) := by decide +kernel
theorem d_md_tableRow_76 : decode prog_14_method_38_code 76 = .ok (.dup, 1) := by decide +kernel
theorem d_md_tableRow_77 : decode prog_14_method_38_code 77 = .ok (.getfield 233, 3) := by decide +kernel
theorem d_md_tableRow_80 : decode prog_14_method_38_code 80 = .ok (.iconst 1, 1) := by decide +kernel
theorem d_md_tableRow_81 : decode prog_14_method_38_code 81 = .ok (.iadd, 1) := by decide +kernel
theorem d_md_tableRow_82 : decode prog_14_method_38_code 82 = .ok (.putfield 233, 3) := by decide +kernel
theorem d_md_tableRow_85 : decode prog_14_method_38_code 85 = .ok (.aload_n 0, 1) := by decide +kernel
theorem d_md_tableRow_86 : decode prog_14_method_38_code 86 = .ok (.invokevirtual 331, 3) := by decide +kernel
theorem d_md_tableRow_89 : decode prog_14_method_38_code 89 = .ok (.istore_n 2, 1) := by decide +kernel
theorem d_md_tableRow_90 : decode prog_14_method_38_code 90 = .ok (.iload_n 2, 1) := by decide +kernel
theorem d_md_tableRow_91 : decode prog_14_method_38_code 91 = .ok (.ifCond .eq (-74), 3) := by decide +kernel
theorem d_md_tableRow_94 : decode prog_14_method_38_code 94 = .ok (.aload_n 0, 1) := by decide +kernel
theorem d_md_tableRow_95 : decode prog_14_method_38_code 95 = .ok (.dup, 1) := by decide +kernel
theorem d_md_tableRow_96 : decode prog_14_method_38_code 96 = .ok (.getfield 207, 3) := by decide +kernel
theorem d_md_tableRow_99 : decode prog_14_method_38_code 99 = .ok (.iconst 1, 1) := by decide +kernel
theorem d_md_tableRow_100 : decode prog_14_method_38_code 100 = .ok (.iadd, 1) := by decide +kernel
theorem d_md_tableRow_101 : decode prog_14_method_38_code 101 = .ok (.putfield 207, 3) := by decide +kernel
theorem d_md_tableRow_104 : decode prog_14_method_38_code 104 = .ok (.goto (-87), 3) := by decide +kernel
theorem d_md_tableRow_107 : decode prog_14_method_38_code 107 = .ok (.aload_n 0, 1) := by decide +kernel
theorem d_md_tableRow_108 : decode prog_14_method_38_code 108 = .ok (.getfield 233, 3) := by decide +kernel
theorem d_md_tableRow_111 : decode prog_14_method_38_code 111 = .ok (.aload_n 0, 1) := by decide +kernel
theorem d_md_tableRow_112 : decode prog_14_method_38_code 112 = .ok (.getfield 328, 3) := by decide +kernel
theorem d_md_tableRow_115 : decode prog_14_method_38_code 115 = .ok (.if_icmp .ne (12), 3) := by decide +kernel
theorem d_md_tableRow_118 : decode prog_14_method_38_code 118 = .ok (.aload_n 0, 1) := by decide +kernel
theorem d_md_tableRow_119 : decode prog_14_method_38_code 119 = .ok (.getfield 278, 3) := by decide +kernel
theorem d_md_tableRow_122 : decode prog_14_method_38_code 122 = .ok (.bipush 6, 2) := by decide +kernel
theorem d_md_tableRow_124 : decode prog_14_method_38_code 124 = .ok (.if_icmp .lt (9), 3) := by decide +kernel
theorem d_md_tableRow_127 : decode prog_14_method_38_code 127 = .ok (.aload_n 0, 1) := by decide +kernel
theorem d_md_tableRow_128 : decode prog_14_method_38_code 128 = .ok (.iconst 4, 1) := by decide +kernel
theorem d_md_tableRow_129 : decode prog_14_method_38_code 129 = .ok (.iload_n 1, 1) := by decide +kernel
theorem d_md_tableRow_130 : decode prog_14_method_38_code 130 = .ok (.invokevirtual 306, 3) := by decide +kernel
theorem d_md_tableRow_133 : decode prog_14_method_38_code 133 = .ok (.aload_n 0, 1) := by decide +kernel
theorem d_md_tableRow_134 : decode prog_14_method_38_code 134 = .ok (.iconst (-1), 1) := by decide +kernel
theorem d_md_tableRow_135 : decode prog_14_method_38_code 135 = .ok (.putfield 233, 3) := by decide +kernel
theorem d_md_tableRow_138 : decode prog_14_method_38_code 138 = .ok (.aload_n 0, 1) := by decide +kernel
theorem d_md_tableRow_139 : decode prog_14_method_38_code 139 = .ok (.dup, 1) := by decide +kernel
theorem d_md_tableRow_140 : decode prog_14_method_38_code 140 = .ok (.getfield 278, 3) := by decide +kernel
theorem d_md_tableRow_143 : decode prog_14_method_38_code 143 = .ok (.iconst 1, 1) := by decide +kernel
theorem d_md_tableRow_144 : decode prog_14_method_38_code 144 = .ok (.iadd, 1) := by decide +kernel
theorem d_md_tableRow_145 : decode prog_14_method_38_code 145 = .ok (.putfield 278, 3) := by decide +kernel
theorem d_md_tableRow_148 : decode prog_14_method_38_code 148 = .ok (.iconst 1, 1) := by decide +kernel
theorem d_md_tableRow_149 : decode prog_14_method_38_code 149 = .ok (.ireturn, 1) := by decide +kernel
theorem d_md_feature_0 : decode prog_14_method_39_code 0 = .ok (.aload_n 0, 1) := by decide +kernel
theorem d_md_feature_1 : decode prog_14_method_39_code 1 = .ok (.getfield 13, 3) := by decide +kernel
theorem d_md_feature_4 : decode prog_14_method_39_code 4 = .ok (.aload_n 0, 1) := by decide +kernel
theorem d_md_feature_5 : decode prog_14_method_39_code 5 = .ok (.getfield 207, 3) := by decide +kernel
theorem d_md_feature_8 : decode prog_14_method_39_code 8 = .ok (.iaload, 1) := by decide +kernel
theorem d_md_feature_9 : decode prog_14_method_39_code 9 = .ok (.bipush 71, 2) := by decide +kernel
theorem d_md_feature_11 : decode prog_14_method_39_code 11 = .ok (.if_icmp .ne (15), 3) := by decide +kernel
theorem d_md_feature_14 : decode prog_14_method_39_code 14 = .ok (.aload_n 0, 1) := by decide +kernel
theorem d_md_feature_15 : decode prog_14_method_39_code 15 = .ok (.bipush 71, 2) := by decide +kernel
theorem d_md_feature_17 : decode prog_14_method_39_code 17 = .ok (.iconst 1, 1) := by decide +kernel
theorem d_md_feature_18 : decode prog_14_method_39_code 18 = .ok (.invokevirtual 337, 3) := by decide +kernel
theorem d_md_feature_21 : decode prog_14_method_39_code 21 = .ok (.ifCond .ne (5), 3) := by decide +kernel
theorem d_md_feature_24 : decode prog_14_method_39_code 24 = .ok (.iconst 0, 1) := by decide +kernel
theorem d_md_feature_25 : decode prog_14_method_39_code 25 = .ok (.ireturn, 1) := by decide +kernel
theorem d_md_feature_26 : decode prog_14_method_39_code 26 = .ok (.iconst 1, 1) := by decide +kernel
theorem d_md_feature_27 : decode prog_14_method_39_code 27 = .ok (.istore_n 1, 1) := by decide +kernel
theorem d_md_feature_28 : decode prog_14_method_39_code 28 = .ok (.iload_n 1, 1) := by decide +kernel
theorem d_md_feature_29 : decode prog_14_method_39_code 29 = .ok (.ifCond .eq (98), 3) := by decide +kernel
theorem d_md_feature_32 : decode prog_14_method_39_code 32 = .ok (.aload_n 0, 1) := by decide +kernel
theorem d_md_feature_33 : decode prog_14_method_39_code 33 = .ok (.getfield 13, 3) := by decide +kernel
theorem d_md_feature_36 : decode prog_14_method_39_code 36 = .ok (.aload_n 0, 1) := by decide +kernel
theorem d_md_feature_37 : decode prog_14_method_39_code 37 = .ok (.getfield 207, 3) := by decide +kernel
theorem d_md_feature_40 : decode prog_14_method_39_code 40 = .ok (.iaload, 1) := by decide +kernel
theorem d_md_feature_41 : decode prog_14_method_39_code 41 = .ok (.bipush 69, 2) := by decide +kernel
theorem d_md_feature_43 : decode prog_14_method_39_code 43 = .ok (.if_icmp .ne (15), 3) := by decide +kernel
theorem d_md_feature_46 : decode prog_14_method_39_code 46 = .ok (.aload_n 0, 1) := by decide +kernel
theorem d_md_feature_47 : decode prog_14_method_39_code 47 = .ok (.bipush 69, 2) := by decide +kernel
theorem d_md_feature_49 : decode prog_14_method_39_code 49 = .ok (.iconst 2, 1) := by decide +kernel
theorem d_md_feature_50 : decode prog_14_method_39_code 50 = .ok (.invokevirtual 337, 3) := by decide +kernel
theorem d_md_feature_53 : decode prog_14_method_39_code 53 = .ok (.ifCond .ne (27), 3) := by decide +kernel
theorem d_md_feature_56 : decode prog_14_method_39_code 56 = .ok (.iconst 0, 1) := by decide +kernel
theorem d_md_feature_57 : decode prog_14_method_39_code 57 = .ok (.ireturn, 1) := by decide +kernel
theorem d_md_feature_58 : decode prog_14_method_39_code 58 = .ok (.aload_n 0, 1) := by decide +kernel
theorem d_md_feature_59 : decode prog_14_method_39_code 59 = .ok (.bipush 87, 2) := by decide +kernel
theorem d_md_feature_61 : decode prog_14_method_39_code 61 = .ok (.iconst 3, 1) := by decide +kernel
theorem d_md_feature_62 : decode prog_14_method_39_code 62 = .ok (.invokevirtual 337, 3) := by decide +kernel
theorem d_md_feature_65 : decode prog_14_method_39_code 65 = .ok (.ifCond .eq (13), 3) := by decide +kernel
theorem d_md_feature_68 : decode prog_14_method_39_code 68 = .ok (.aload_n 0, 1) := by decide +kernel
theorem d_md_feature_69 : decode prog_14_method_39_code 69 = .ok (.bipush 84, 2) := by decide +kernel
theorem d_md_feature_71 : decode prog_14_method_39_code 71 = .ok (.iconst 4, 1) := by decide +kernel
theorem d_md_feature_72 : decode prog_14_method_39_code 72 = .ok (.invokevirtual 337, 3) := by decide +kernel
theorem d_md_feature_75 : decode prog_14_method_39_code 75 = .ok (.ifCond .ne (5), 3) := by decide +kernel
theorem d_md_feature_78 : decode prog_14_method_39_code 78 = .ok (.iconst 0, 1) := by decide +kernel
theorem d_md_feature_79 : decode prog_14_method_39_code 79 = .ok (.ireturn, 1) := by decide +kernel
theorem d_md_feature_80 : decode prog_14_method_39_code 80 = .ok (.aload_n 0, 1) := by decide +kernel
theorem d_md_feature_81 : decode prog_14_method_39_code 81 = .ok (.dup, 1) := by decide +kernel
theorem d_md_feature_82 : decode prog_14_method_39_code 82 = .ok (.getfield 281, 3) := by decide +kernel
theorem d_md_feature_85 : decode prog_14_method_39_code 85 = .ok (.iconst 1, 1) := by decide +kernel
theorem d_md_feature_86 : decode prog_14_method_39_code 86 = .ok (.iadd, 1) := by decide +kernel
theorem d_md_feature_87 : decode prog_14_method_39_code 87 = .ok (.putfield 281, 3) := by decide +kernel
theorem d_md_feature_90 : decode prog_14_method_39_code 90 = .ok (.aload_n 0, 1) := by decide +kernel
theorem d_md_feature_91 : decode prog_14_method_39_code 91 = .ok (.getfield 13, 3) := by decide +kernel
theorem d_md_feature_94 : decode prog_14_method_39_code 94 = .ok (.aload_n 0, 1) := by decide +kernel
theorem d_md_feature_95 : decode prog_14_method_39_code 95 = .ok (.getfield 207, 3) := by decide +kernel
theorem d_md_feature_98 : decode prog_14_method_39_code 98 = .ok (.iaload, 1) := by decide +kernel
theorem d_md_feature_99 : decode prog_14_method_39_code 99 = .ok (.bipush 69, 2) := by decide +kernel
theorem d_md_feature_101 : decode prog_14_method_39_code 101 = .ok (.if_icmp .eq (17), 3) := by decide +kernel
theorem d_md_feature_104 : decode prog_14_method_39_code 104 = .ok (.aload_n 0, 1) := by decide +kernel
theorem d_md_feature_105 : decode prog_14_method_39_code 105 = .ok (.getfield 13, 3) := by decide +kernel
theorem d_md_feature_108 : decode prog_14_method_39_code 108 = .ok (.aload_n 0, 1) := by decide +kernel
theorem d_md_feature_109 : decode prog_14_method_39_code 109 = .ok (.getfield 207, 3) := by decide +kernel
theorem d_md_feature_112 : decode prog_14_method_39_code 112 = .ok (.iaload, 1) := by decide +kernel
theorem d_md_feature_113 : decode prog_14_method_39_code 113 = .ok (.bipush 87, 2) := by decide +kernel
theorem d_md_feature_115 : decode prog_14_method_39_code 115 = .ok (.if_icmp .ne (7), 3) := by decide +kernel
theorem d_md_feature_118 : decode prog_14_method_39_code 118 = .ok (.iconst 1, 1) := by decide +kernel
theorem d_md_feature_119 : decode prog_14_method_39_code 119 = .ok (.goto (4), 3) := by decide +kernel
theorem d_md_feature_122 : decode prog_14_method_39_code 122 = .ok (.iconst 0, 1) := by decide +kernel
theorem d_md_feature_123 : decode prog_14_method_39_code 123 = .ok (.istore_n 1, 1) := by decide +kernel
theorem d_md_feature_124 : decode prog_14_method_39_code 124 = .ok (.goto (-96), 3) := by decide +kernel
theorem d_md_feature_127 : decode prog_14_method_39_code 127 = .ok (.aload_n 0, 1) := by decide +kernel
theorem d_md_feature_128 : decode prog_14_method_39_code 128 = .ok (.getfield 13, 3) := by decide +kernel
theorem d_md_feature_131 : decode prog_14_method_39_code 131 = .ok (.aload_n 0, 1) := by decide +kernel
theorem d_md_feature_132 : decode prog_14_method_39_code 132 = .ok (.getfield 207, 3) := by decide +kernel
theorem d_md_feature_135 : decode prog_14_method_39_code 135 = .ok (.iaload, 1) := by decide +kernel
theorem d_md_feature_136 : decode prog_14_method_39_code 136 = .ok (.bipush 67, 2) := by decide +kernel
theorem d_md_feature_138 : decode prog_14_method_39_code 138 = .ok (.if_icmp .ne (16), 3) := by decide +kernel
theorem d_md_feature_141 : decode prog_14_method_39_code 141 = .ok (.aload_n 0, 1) := by decide +kernel
theorem d_md_feature_142 : decode prog_14_method_39_code 142 = .ok (.bipush 67, 2) := by decide +kernel
theorem d_md_feature_144 : decode prog_14_method_39_code 144 = .ok (.bipush 8, 2) := by decide +kernel
theorem d_md_feature_146 : decode prog_14_method_39_code 146 = .ok (.invokevirtual 337, 3) := by decide +kernel
theorem d_md_feature_149 : decode prog_14_method_39_code 149 = .ok (.ifCond .ne (5), 3) := by decide +kernel
theorem d_md_feature_152 : decode prog_14_method_39_code 152 = .ok (.iconst 0, 1) := by decide +kernel
theorem d_md_feature_153 : decode prog_14_method_39_code 153 = .ok (.ireturn, 1) := by decide +kernel
theorem d_md_feature_154 : decode prog_14_method_39_code 154 = .ok (.aload_n 0, 1) := by decide +kernel
theorem d_md_feature_155 : decode prog_14_method_39_code 155 = .ok (.getfield 13, 3) := by decide +kernel
theorem d_md_feature_158 : decode prog_14_method_39_code 158 = .ok (.aload_n 0, 1) := by decide +kernel
theorem d_md_feature_159 : decode prog_14_method_39_code 159 = .ok (.getfield 207, 3) := by decide +kernel
theorem d_md_feature_162 : decode prog_14_method_39_code 162 = .ok (.iaload, 1) := by decide +kernel
theorem d_md_feature_163 : decode prog_14_method_39_code 163 = .ok (.bipush 68, 2) := by decide +kernel
theorem d_md_feature_165 : decode prog_14_method_39_code 165 = .ok (.if_icmp .ne (12), 3) := by decide +kernel
theorem d_md_feature_168 : decode prog_14_method_39_code 168 = .ok (.aload_n 0, 1) := by decide +kernel
theorem d_md_feature_169 : decode prog_14_method_39_code 169 = .ok (.invokevirtual 341, 3) := by decide +kernel
theorem d_md_feature_172 : decode prog_14_method_39_code 172 = .ok (.ifCond .ne (5), 3) := by decide +kernel
theorem d_md_feature_175 : decode prog_14_method_39_code 175 = .ok (.iconst 0, 1) := by decide +kernel
theorem d_md_feature_176 : decode prog_14_method_39_code 176 = .ok (.ireturn, 1) := by decide +kernel
theorem d_md_feature_177 : decode prog_14_method_39_code 177 = .ok (.aload_n 0, 1) := by decide +kernel
theorem d_md_feature_178 : decode prog_14_method_39_code 178 = .ok (.iconst 0, 1) := by decide +kernel
theorem d_md_feature_179 : decode prog_14_method_39_code 179 = .ok (.invokevirtual 297, 3) := by decide +kernel
theorem d_md_feature_182 : decode prog_14_method_39_code 182 = .ok (.ireturn, 1) := by decide +kernel
theorem d_md_isData_0 : decode prog_14_method_40_code 0 = .ok (.iconst 0, 1) := by decide +kernel
theorem d_md_isData_1 : decode prog_14_method_40_code 1 = .ok (.istore_n 3, 1) := by decide +kernel
theorem d_md_isData_2 : decode prog_14_method_40_code 2 = .ok (.iconst 0, 1) := by decide +kernel
theorem d_md_isData_3 : decode prog_14_method_40_code 3 = .ok (.istore 4, 2) := by decide +kernel
theorem d_md_isData_5 : decode prog_14_method_40_code 5 = .ok (.iload 4, 2) := by decide +kernel
theorem d_md_isData_7 : decode prog_14_method_40_code 7 = .ok (.aload_n 0, 1) := by decide +kernel
theorem d_md_isData_8 : decode prog_14_method_40_code 8 = .ok (.getfield 328, 3) := by decide +kernel
theorem d_md_isData_11 : decode prog_14_method_40_code 11 = .ok (.if_icmp .ge (36), 3) := by decide +kernel
theorem d_md_isData_14 : decode prog_14_method_40_code 14 = .ok (.iload 4, 2) := by decide +kernel
theorem d_md_isData_16 : decode prog_14_method_40_code 16 = .ok (.iload_n 2, 1) := by decide +kernel
theorem d_md_isData_17 : decode prog_14_method_40_code 17 = .ok (.if_icmp .ge (30), 3) := by decide +kernel
theorem d_md_isData_20 : decode prog_14_method_40_code 20 = .ok (.iload_n 3, 1) := by decide +kernel
theorem d_md_isData_21 : decode prog_14_method_40_code 21 = .ok (.ifCond .ne (14), 3) := by decide +kernel
theorem d_md_isData_24 : decode prog_14_method_40_code 24 = .ok (.aload_n 0, 1) := by decide +kernel
theorem d_md_isData_25 : decode prog_14_method_40_code 25 = .ok (.getfield 115, 3) := by decide +kernel
theorem d_md_isData_28 : decode prog_14_method_40_code 28 = .ok (.iload 4, 2) := by decide +kernel
theorem d_md_isData_30 : decode prog_14_method_40_code 30 = .ok (.iaload, 1) := by decide +kernel
theorem d_md_isData_31 : decode prog_14_method_40_code 31 = .ok (.iload_n 1, 1) := by decide +kernel
theorem d_md_isData_32 : decode prog_14_method_40_code 32 = .ok (.if_icmp .ne (7), 3) := by decide +kernel
theorem d_md_isData_35 : decode prog_14_method_40_code 35 = .ok (.iconst 1, 1) := by decide +kernel
theorem d_md_isData_36 : decode prog_14_method_40_code 36 = .ok (.goto (4), 3) := by decide +kernel
theorem d_md_isData_39 : decode prog_14_method_40_code 39 = .ok (.iconst 0, 1) := by decide +kernel
theorem d_md_isData_40 : decode prog_14_method_40_code 40 = .ok (.istore_n 3, 1) := by decide +kernel
theorem d_md_isData_41 : decode prog_14_method_40_code 41 = .ok (.iinc 4 (1), 3) := by decide +kernel
theorem d_md_isData_44 : decode prog_14_method_40_code 44 = .ok (.goto (-39), 3) := by decide +kernel
theorem d_md_isData_47 : decode prog_14_method_40_code 47 = .ok (.iload_n 3, 1) := by decide +kernel
theorem d_md_isData_48 : decode prog_14_method_40_code 48 = .ok (.ireturn, 1) := by decide +kernel
theorem d_md_look_0 : decode prog_14_method_41_code 0 = .ok (.iconst 0, 1) := by decide +kernel
theorem d_md_look_1 : decode prog_14_method_41_code 1 = .ok (.istore_n 1, 1) := by decide +kernel
theorem d_md_look_2 : decode prog_14_method_41_code 2 = .ok (.iconst 0, 1) := by decide +kernel
theorem d_md_look_3 : decode prog_14_method_41_code 3 = .ok (.istore_n 2, 1) := by decide +kernel
theorem d_md_look_4 : decode prog_14_method_41_code 4 = .ok (.iload_n 2, 1) := by decide +kernel
theorem d_md_look_5 : decode prog_14_method_41_code 5 = .ok (.aload_n 0, 1) := by decide +kernel
theorem d_md_look_6 : decode prog_14_method_41_code 6 = .ok (.getfield 269, 3) := by decide +kernel
theorem d_md_look_9 : decode prog_14_method_41_code 9 = .ok (.if_icmp .ge (201), 3) := by decide +kernel
theorem d_md_look_12 : decode prog_14_method_41_code 12 = .ok (.aload_n 0, 1) := by decide +kernel
theorem d_md_look_13 : decode prog_14_method_41_code 13 = .ok (.getfield 109, 3) := by decide +kernel
theorem d_md_look_16 : decode prog_14_method_41_code 16 = .ok (.iload_n 2, 1) := by decide +kernel
theorem d_md_look_17 : decode prog_14_method_41_code 17 = .ok (.iaload, 1) := by decide +kernel
theorem d_md_look_18 : decode prog_14_method_41_code 18 = .ok (.istore_n 3, 1) := by decide +kernel
theorem d_md_look_19 : decode prog_14_method_41_code 19 = .ok (.iload_n 1, 1) := by decide +kernel
theorem d_md_look_20 : decode prog_14_method_41_code 20 = .ok (.iload_n 3, 1) := by decide +kernel
theorem d_md_look_21 : decode prog_14_method_41_code 21 = .ok (.ishr, 1) := by decide +kernel
theorem d_md_look_22 : decode prog_14_method_41_code 22 = .ok (.iconst 1, 1) := by decide +kernel
theorem d_md_look_23 : decode prog_14_method_41_code 23 = .ok (.iand, 1) := by decide +kernel
theorem d_md_look_24 : decode prog_14_method_41_code 24 = .ok (.iconst 1, 1) := by decide +kernel
theorem d_md_look_25 : decode prog_14_method_41_code 25 = .ok (.if_icmp .eq (15), 3) := by decide +kernel
theorem d_md_look_28 : decode prog_14_method_41_code 28 = .ok (.aload_n 0, 1) := by decide +kernel
theorem d_md_look_29 : decode prog_14_method_41_code 29 = .ok (.iload_n 3, 1) := by decide +kernel
theorem d_md_look_30 : decode prog_14_method_41_code 30 = .ok (.aload_n 0, 1) := by decide +kernel
theorem d_md_look_31 : decode prog_14_method_41_code 31 = .ok (.getfield 328, 3) := by decide +kernel
theorem d_md_look_34 : decode prog_14_method_41_code 34 = .ok (.invokevirtual 344, 3) := by decide +kernel
theorem d_md_look_37 : decode prog_14_method_41_code 37 = .ok (.ifCond .eq (7), 3) := by decide +kernel
theorem d_md_look_40 : decode prog_14_method_41_code 40 = .ok (.iconst 1, 1) := by decide +kernel
theorem d_md_look_41 : decode prog_14_method_41_code 41 = .ok (.goto (4), 3) := by decide +kernel
theorem d_md_look_44 : decode prog_14_method_41_code 44 = .ok (.iconst 0, 1) := by decide +kernel
theorem d_md_look_45 : decode prog_14_method_41_code 45 = .ok (.istore 4, 2) := by decide +kernel
theorem d_md_look_47 : decode prog_14_method_41_code 47 = .ok (.aload_n 0, 1) := by decide +kernel
theorem d_md_look_48 : decode prog_14_method_41_code 48 = .ok (.getfield 103, 3) := by decide +kernel
theorem d_md_look_51 : decode prog_14_method_41_code 51 = .ok (.iload_n 2, 1) := by decide +kernel
theorem d_md_look_52 : decode prog_14_method_41_code 52 = .ok (.iaload, 1) := by decide +kernel
theorem d_md_look_53 : decode prog_14_method_41_code 53 = .ok (.ifCond .ne (8), 3) := by decide +kernel
theorem d_md_look_56 : decode prog_14_method_41_code 56 = .ok (.iload 4, 2) := by decide +kernel
theorem d_md_look_58 : decode prog_14_method_41_code 58 = .ok (.ifCond .eq (27), 3) := by decide +kernel
theorem d_md_look_61 : decode prog_14_method_41_code 61 = .ok (.aload_n 0, 1) := by decide +kernel
theorem d_md_look_62 : decode prog_14_method_41_code 62 = .ok (.getfield 103, 3) := by decide +kernel
theorem d_md_look_65 : decode prog_14_method_41_code 65 = .ok (.iload_n 2, 1) := by decide +kernel
theorem d_md_look_66 : decode prog_14_method_41_code 66 = .ok (.iaload, 1) := by decide +kernel
theorem d_md_look_67 : decode prog_14_method_41_code 67 = .ok (.iconst 1, 1) := by decide +kernel
theorem d_md_look_68 : decode prog_14_method_41_code 68 = .ok (.if_icmp .ne (28), 3) := by decide +kernel
theorem d_md_look_71 : decode prog_14_method_41_code 71 = .ok (.aload_n 0, 1) := by decide +kernel
theorem d_md_look_72 : decode prog_14_method_41_code 72 = .ok (.iload_n 3, 1) := by decide +kernel
theorem d_md_look_73 : decode prog_14_method_41_code 73 = .ok (.aload_n 0, 1) := by decide +kernel
theorem d_md_look_74 : decode prog_14_method_41_code 74 = .ok (.getfield 112, 3) := by decide +kernel
theorem d_md_look_77 : decode prog_14_method_41_code 77 = .ok (.iload_n 2, 1) := by decide +kernel
theorem d_md_look_78 : decode prog_14_method_41_code 78 = .ok (.iaload, 1) := by decide +kernel
theorem d_md_look_79 : decode prog_14_method_41_code 79 = .ok (.invokevirtual 344, 3) := by decide +kernel
theorem d_md_look_82 : decode prog_14_method_41_code 82 = .ok (.ifCond .ne (14), 3) := by decide +kernel
theorem d_md_look_85 : decode prog_14_method_41_code 85 = .ok (.aload_n 0, 1) := by decide +kernel
theorem d_md_look_86 : decode prog_14_method_41_code 86 = .ok (.iconst 2, 1) := by decide +kernel
theorem d_md_look_87 : decode prog_14_method_41_code 87 = .ok (.aload_n 0, 1) := by decide +kernel
theorem d_md_look_88 : decode prog_14_method_41_code 88 = .ok (.getfield 106, 3) := by decide +kernel
theorem d_md_look_91 : decode prog_14_method_41_code 91 = .ok (.iload_n 2, 1) := by decide +kernel
theorem d_md_look_92 : decode prog_14_method_41_code 92 = .ok (.iaload, 1) := by decide +kernel
theorem d_md_look_93 : decode prog_14_method_41_code 93 = .ok (.invokevirtual 306, 3) := by decide +kernel
theorem d_md_look_96 : decode prog_14_method_41_code 96 = .ok (.aload_n 0, 1) := by decide +kernel
theorem d_md_look_97 : decode prog_14_method_41_code 97 = .ok (.getfield 103, 3) := by decide +kernel
theorem d_md_look_100 : decode prog_14_method_41_code 100 = .ok (.iload_n 2, 1) := by decide +kernel
theorem d_md_look_101 : decode prog_14_method_41_code 101 = .ok (.iaload, 1) := by decide +kernel
theorem d_md_look_102 : decode prog_14_method_41_code 102 = .ok (.iconst 2, 1) := by decide +kernel
theorem d_md_look_103 : decode prog_14_method_41_code 103 = .ok (.if_icmp .ne (15), 3) := by decide +kernel
theorem d_md_look_106 : decode prog_14_method_41_code 106 = .ok (.aload_n 0, 1) := by decide +kernel
theorem d_md_look_107 : decode prog_14_method_41_code 107 = .ok (.iload_n 3, 1) := by decide +kernel
theorem d_md_look_108 : decode prog_14_method_41_code 108 = .ok (.aload_n 0, 1) := by decide +kernel
theorem d_md_look_109 : decode prog_14_method_41_code 109 = .ok (.getfield 328, 3) := by decide +kernel
theorem d_md_look_112 : decode prog_14_method_41_code 112 = .ok (.invokevirtual 344, 3) := by decide +kernel
theorem d_md_look_115 : decode prog_14_method_41_code 115 = .ok (.ifCond .ne (27), 3) := by decide +kernel
theorem d_md_look_118 : decode prog_14_method_41_code 118 = .ok (.aload_n 0, 1) := by decide +kernel
theorem d_md_look_119 : decode prog_14_method_41_code 119 = .ok (.getfield 103, 3) := by decide +kernel
theorem d_md_look_122 : decode prog_14_method_41_code 122 = .ok (.iload_n 2, 1) := by decide +kernel
theorem d_md_look_123 : decode prog_14_method_41_code 123 = .ok (.iaload, 1) := by decide +kernel
theorem d_md_look_124 : decode prog_14_method_41_code 124 = .ok (.iconst 3, 1) := by decide +kernel
theorem d_md_look_125 : decode prog_14_method_41_code 125 = .ok (.if_icmp .ne (28), 3) := by decide +kernel
theorem d_md_look_128 : decode prog_14_method_41_code 128 = .ok (.aload_n 0, 1) := by decide +kernel
theorem d_md_look_129 : decode prog_14_method_41_code 129 = .ok (.iload_n 3, 1) := by decide +kernel
theorem d_md_look_130 : decode prog_14_method_41_code 130 = .ok (.aload_n 0, 1) := by decide +kernel
theorem d_md_look_131 : decode prog_14_method_41_code 131 = .ok (.getfield 112, 3) := by decide +kernel
theorem d_md_look_134 : decode prog_14_method_41_code 134 = .ok (.iload_n 2, 1) := by decide +kernel
theorem d_md_look_135 : decode prog_14_method_41_code 135 = .ok (.iaload, 1) := by decide +kernel
theorem d_md_look_136 : decode prog_14_method_41_code 136 = .ok (.invokevirtual 344, 3) := by decide +kernel
theorem d_md_look_139 : decode prog_14_method_41_code 139 = .ok (.ifCond .eq (14), 3) := by decide +kernel
theorem d_md_look_142 : decode prog_14_method_41_code 142 = .ok (.aload_n 0, 1) := by decide +kernel
theorem d_md_look_143 : decode prog_14_method_41_code 143 = .ok (.iconst 3, 1) := by decide +kernel
theorem d_md_look_144 : decode prog_14_method_41_code 144 = .ok (.aload_n 0, 1) := by decide +kernel
theorem d_md_look_145 : decode prog_14_method_41_code 145 = .ok (.getfield 106, 3) := by decide +kernel
theorem d_md_look_148 : decode prog_14_method_41_code 148 = .ok (.iload_n 2, 1) := by decide +kernel
theorem d_md_look_149 : decode prog_14_method_41_code 149 = .ok (.iaload, 1) := by decide +kernel
theorem d_md_look_150 : decode prog_14_method_41_code 150 = .ok (.invokevirtual 306, 3) := by decide +kernel
theorem d_md_look_153 : decode prog_14_method_41_code 153 = .ok (.aload_n 0, 1) := by decide +kernel
theorem d_md_look_154 : decode prog_14_method_41_code 154 = .ok (.getfield 103, 3) := by decide +kernel
theorem d_md_look_157 : decode prog_14_method_41_code 157 = .ok (.iload_n 2, 1) := by decide +kernel
theorem d_md_look_158 : decode prog_14_method_41_code 158 = .ok (.iaload, 1) := by decide +kernel
theorem d_md_look_159 : decode prog_14_method_41_code 159 = .ok (.iconst 3, 1) := by decide +kernel
theorem d_md_look_160 : decode prog_14_method_41_code 160 = .ok (.if_icmp .ne (24), 3) := by decide +kernel
theorem d_md_look_163 : decode prog_14_method_41_code 163 = .ok (.aload_n 0, 1) := by decide +kernel
theorem d_md_look_164 : decode prog_14_method_41_code 164 = .ok (.getfield 112, 3) := by decide +kernel
theorem d_md_look_167 : decode prog_14_method_41_code 167 = .ok (.iload_n 2, 1) := by decide +kernel
theorem d_md_look_168 : decode prog_14_method_41_code 168 = .ok (.iaload, 1) := by decide +kernel
theorem d_md_look_169 : decode prog_14_method_41_code 169 = .ok (.iconst 4, 1) := by decide +kernel
theorem d_md_look_170 : decode prog_14_method_41_code 170 = .ok (.if_icmp .ne (14), 3) := by decide +kernel
theorem d_md_look_173 : decode prog_14_method_41_code 173 = .ok (.aload_n 0, 1) := by decide +kernel
theorem d_md_look_174 : decode prog_14_method_41_code 174 = .ok (.iconst 4, 1) := by decide +kernel
theorem d_md_look_175 : decode prog_14_method_41_code 175 = .ok (.aload_n 0, 1) := by decide +kernel
theorem d_md_look_176 : decode prog_14_method_41_code 176 = .ok (.getfield 106, 3) := by decide +kernel
theorem d_md_look_179 : decode prog_14_method_41_code 179 = .ok (.iload_n 2, 1) := by decide +kernel
theorem d_md_look_180 : decode prog_14_method_41_code 180 = .ok (.iaload, 1) := by decide +kernel
theorem d_md_look_181 : decode prog_14_method_41_code 181 = .ok (.invokevirtual 306, 3) := by decide +kernel
theorem d_md_look_184 : decode prog_14_method_41_code 184 = .ok (.aload_n 0, 1) := by decide +kernel
theorem d_md_look_185 : decode prog_14_method_41_code 185 = .ok (.getfield 103, 3) := by decide +kernel
theorem d_md_look_188 : decode prog_14_method_41_code 188 = .ok (.iload_n 2, 1) := by decide +kernel
theorem d_md_look_189 : decode prog_14_method_41_code 189 = .ok (.iaload, 1) := by decide +kernel
theorem d_md_look_190 : decode prog_14_method_41_code 190 = .ok (.iconst 2, 1) := by decide +kernel
theorem d_md_look_191 : decode prog_14_method_41_code 191 = .ok (.if_icmp .ne (11), 3) := by decide +kernel
theorem d_md_look_194 : decode prog_14_method_41_code 194 = .ok (.iload_n 1, 1) := by decide +kernel
theorem d_md_look_195 : decode prog_14_method_41_code 195 = .ok (.iconst 1, 1) := by decide +kernel
theorem d_md_look_196 : decode prog_14_method_41_code 196 = .ok (.iload_n 3, 1) := by decide +kernel
theorem d_md_look_197 : decode prog_14_method_41_code 197 = .ok (.ishl, 1) := by decide +kernel
theorem d_md_look_198 : decode prog_14_method_41_code 198 = .ok (.ior, 1) := by decide +kernel
theorem d_md_look_199 : decode prog_14_method_41_code 199 = .ok (.goto (4), 3) := by decide +kernel
theorem d_md_look_202 : decode prog_14_method_41_code 202 = .ok (.iload_n 1, 1) := by decide +kernel
theorem d_md_look_203 : decode prog_14_method_41_code 203 = .ok (.istore_n 1, 1) := by decide +kernel
theorem d_md_look_204 : decode prog_14_method_41_code 204 = .ok (.iinc 2 (1), 3) := by decide +kernel
theorem d_md_look_207 : decode prog_14_method_41_code 207 = .ok (.goto (-203), 3) := by decide +kernel
theorem d_md_look_210 : decode prog_14_method_41_code 210 = .ok (.return_, 1) := by decide +kernel
theorem d_md_judge_0 : decode prog_14_method_42_code 0 = .ok (.iconst 1, 1) := by decide +kernel
theorem d_md_judge_1 : decode prog_14_method_42_code 1 = .ok (.aload_n 0, 1) := by decide +kernel
theorem d_md_judge_2 : decode prog_14_method_42_code 2 = .ok (.getfield 347, 3) := by decide +kernel
theorem d_md_judge_5 : decode prog_14_method_42_code 5 = .ok (.isub, 1) := by decide +kernel
theorem d_md_judge_6 : decode prog_14_method_42_code 6 = .ok (.istore_n 1, 1) := by decide +kernel
theorem d_md_judge_7 : decode prog_14_method_42_code 7 = .ok (.aload_n 0, 1) := by decide +kernel
theorem d_md_judge_8 : decode prog_14_method_42_code 8 = .ok (.invokevirtual 350, 3) := by decide +kernel
theorem d_md_judge_11 : decode prog_14_method_42_code 11 = .ok (.aload_n 0, 1) := by decide +kernel
theorem d_md_judge_12 : decode prog_14_method_42_code 12 = .ok (.iconst 0, 1) := by decide +kernel
theorem d_md_judge_13 : decode prog_14_method_42_code 13 = .ok (.putfield 207, 3) := by decide +kernel
theorem d_md_judge_16 : decode prog_14_method_42_code 16 = .ok (.aload_n 0, 1) := by decide +kernel
theorem d_md_judge_17 : decode prog_14_method_42_code 17 = .ok (.sipush 400, 3) := by decide +kernel
theorem d_md_judge_20 : decode prog_14_method_42_code 20 = .ok (.iload_n 1, 1) := by decide +kernel
theorem d_md_judge_21 : decode prog_14_method_42_code 21 = .ok (.imul, 1) := by decide +kernel
theorem d_md_judge_22 : decode prog_14_method_42_code 22 = .ok (.putfield 217, 3) := by decide +kernel
theorem d_md_judge_25 : decode prog_14_method_42_code 25 = .ok (.aload_n 0, 1) := by decide +kernel
theorem d_md_judge_26 : decode prog_14_method_42_code 26 = .ok (.bipush 100, 2) := by decide +kernel
theorem d_md_judge_28 : decode prog_14_method_42_code 28 = .ok (.iload_n 1, 1) := by decide +kernel
theorem d_md_judge_29 : decode prog_14_method_42_code 29 = .ok (.imul, 1) := by decide +kernel
theorem d_md_judge_30 : decode prog_14_method_42_code 30 = .ok (.putfield 275, 3) := by decide +kernel
theorem d_md_judge_33 : decode prog_14_method_42_code 33 = .ok (.aload_n 0, 1) := by decide +kernel
theorem d_md_judge_34 : decode prog_14_method_42_code 34 = .ok (.bipush 120, 2) := by decide +kernel
theorem d_md_judge_36 : decode prog_14_method_42_code 36 = .ok (.iload_n 1, 1) := by decide +kernel
theorem d_md_judge_37 : decode prog_14_method_42_code 37 = .ok (.imul, 1) := by decide +kernel
theorem d_md_judge_38 : decode prog_14_method_42_code 38 = .ok (.putfield 303, 3) := by decide +kernel
theorem d_md_judge_41 : decode prog_14_method_42_code 41 = .ok (.aload_n 0, 1) := by decide +kernel
theorem d_md_judge_42 : decode prog_14_method_42_code 42 = .ok (.iconst 0, 1) := by decide +kernel
theorem d_md_judge_43 : decode prog_14_method_42_code 43 = .ok (.putfield 281, 3) := by decide +kernel
theorem d_md_judge_46 : decode prog_14_method_42_code 46 = .ok (.aload_n 0, 1) := by decide +kernel
theorem d_md_judge_47 : decode prog_14_method_42_code 47 = .ok (.iconst 0, 1) := by decide +kernel
theorem d_md_judge_48 : decode prog_14_method_42_code 48 = .ok (.putfield 278, 3) := by decide +kernel
theorem d_md_judge_51 : decode prog_14_method_42_code 51 = .ok (.aload_n 0, 1) := by decide +kernel
theorem d_md_judge_52 : decode prog_14_method_42_code 52 = .ok (.iconst 0, 1) := by decide +kernel
theorem d_md_judge_53 : decode prog_14_method_42_code 53 = .ok (.putfield 269, 3) := by decide +kernel
theorem d_md_judge_56 : decode prog_14_method_42_code 56 = .ok (.aload_n 0, 1) := by decide +kernel
theorem d_md_judge_57 : decode prog_14_method_42_code 57 = .ok (.iconst 0, 1) := by decide +kernel
theorem d_md_judge_58 : decode prog_14_method_42_code 58 = .ok (.putfield 328, 3) := by decide +kernel
theorem d_md_judge_61 : decode prog_14_method_42_code 61 = .ok (.aload_n 0, 1) := by decide +kernel
theorem d_md_judge_62 : decode prog_14_method_42_code 62 = .ok (.iconst (-1), 1) := by decide +kernel
theorem d_md_judge_63 : decode prog_14_method_42_code 63 = .ok (.putfield 233, 3) := by decide +kernel
theorem d_md_judge_66 : decode prog_14_method_42_code 66 = .ok (.aload_n 0, 1) := by decide +kernel
theorem d_md_judge_67 : decode prog_14_method_42_code 67 = .ok (.iconst 0, 1) := by decide +kernel
theorem d_md_judge_68 : decode prog_14_method_42_code 68 = .ok (.putfield 272, 3) := by decide +kernel
theorem d_md_judge_71 : decode prog_14_method_42_code 71 = .ok (.aload_n 0, 1) := by decide +kernel
theorem d_md_judge_72 : decode prog_14_method_42_code 72 = .ok (.iconst (-1), 1) := by decide +kernel
theorem d_md_judge_73 : decode prog_14_method_42_code 73 = .ok (.putfield 118, 3) := by decide +kernel
theorem d_md_judge_76 : decode prog_14_method_42_code 76 = .ok (.aload_n 0, 1) := by decide +kernel
theorem d_md_judge_77 : decode prog_14_method_42_code 77 = .ok (.invokevirtual 353, 3) := by decide +kernel
theorem d_md_judge_80 : decode prog_14_method_42_code 80 = .ok (.ifCond .ne (13), 3) := by decide +kernel
theorem d_md_judge_83 : decode prog_14_method_42_code 83 = .ok (.aload_n 0, 1) := by decide +kernel
theorem d_md_judge_84 : decode prog_14_method_42_code 84 = .ok (.aload_n 0, 1) := by decide +kernel
theorem d_md_judge_85 : decode prog_14_method_42_code 85 = .ok (.getfield 210, 3) := by decide +kernel
theorem d_md_judge_88 : decode prog_14_method_42_code 88 = .ok (.putfield 118, 3) := by decide +kernel
theorem d_md_judge_91 : decode prog_14_method_42_code 91 = .ok (.iconst 1, 1) := by decide +kernel
theorem d_md_judge_92 : decode prog_14_method_42_code 92 = .ok (.ireturn, 1) := by decide +kernel
theorem d_md_judge_93 : decode prog_14_method_42_code 93 = .ok (.aload_n 0, 1) := by decide +kernel
theorem d_md_judge_94 : decode prog_14_method_42_code 94 = .ok (.invokevirtual 356, 3) := by decide +kernel
theorem d_md_judge_97 : decode prog_14_method_42_code 97 = .ok (.aload_n 0, 1) := by decide +kernel
theorem d_md_judge_98 : decode prog_14_method_42_code 98 = .ok (.getfield 272, 3) := by decide +kernel
theorem d_md_judge_101 : decode prog_14_method_42_code 101 = .ok (.ifCond .le (8), 3) := by decide +kernel
theorem d_md_judge_104 : decode prog_14_method_42_code 104 = .ok (.aload_n 0, 1) := by decide +kernel
theorem d_md_judge_105 : decode prog_14_method_42_code 105 = .ok (.getfield 272, 3) := by decide +kernel
theorem d_md_judge_108 : decode prog_14_method_42_code 108 = .ok (.ireturn, 1) := by decide +kernel
theorem d_md_judge_109 : decode prog_14_method_42_code 109 = .ok (.aload_n 0, 1) := by decide +kernel
theorem d_md_judge_110 : decode prog_14_method_42_code 110 = .ok (.iload_n 1, 1) := by decide +kernel
theorem d_md_judge_111 : decode prog_14_method_42_code 111 = .ok (.putfield 347, 3) := by decide +kernel
theorem d_md_judge_114 : decode prog_14_method_42_code 114 = .ok (.aload_n 0, 1) := by decide +kernel
theorem d_md_judge_115 : decode prog_14_method_42_code 115 = .ok (.iconst 1, 1) := by decide +kernel
theorem d_md_judge_116 : decode prog_14_method_42_code 116 = .ok (.putfield 359, 3) := by decide +kernel
theorem d_md_judge_119 : decode prog_14_method_42_code 119 = .ok (.aload_n 0, 1) := by decide +kernel
theorem d_md_judge_120 : decode prog_14_method_42_code 120 = .ok (.getfield 85, 3) := by decide +kernel
theorem d_md_judge_123 : decode prog_14_method_42_code 123 = .ok (.aload_n 0, 1) := by decide +kernel
theorem d_md_judge_124 : decode prog_14_method_42_code 124 = .ok (.getfield 347, 3) := by decide +kernel
theorem d_md_judge_127 : decode prog_14_method_42_code 127 = .ok (.aload_n 0, 1) := by decide +kernel
theorem d_md_judge_128 : decode prog_14_method_42_code 128 = .ok (.getfield 275, 3) := by decide +kernel
theorem d_md_judge_131 : decode prog_14_method_42_code 131 = .ok (.iastore, 1) := by decide +kernel
theorem d_md_judge_132 : decode prog_14_method_42_code 132 = .ok (.aload_n 0, 1) := by decide +kernel
theorem d_md_judge_133 : decode prog_14_method_42_code 133 = .ok (.getfield 88, 3) := by decide +kernel
theorem d_md_judge_136 : decode prog_14_method_42_code 136 = .ok (.aload_n 0, 1) := by decide +kernel
theorem d_md_judge_137 : decode prog_14_method_42_code 137 = .ok (.getfield 347, 3) := by decide +kernel
theorem d_md_judge_140 : decode prog_14_method_42_code 140 = .ok (.aload_n 0, 1) := by decide +kernel
theorem d_md_judge_141 : decode prog_14_method_42_code 141 = .ok (.getfield 281, 3) := by decide +kernel
theorem d_md_judge_144 : decode prog_14_method_42_code 144 = .ok (.iastore, 1) := by decide +kernel
theorem d_md_judge_145 : decode prog_14_method_42_code 145 = .ok (.aload_n 0, 1) := by decide +kernel
theorem d_md_judge_146 : decode prog_14_method_42_code 146 = .ok (.getfield 91, 3) := by decide +kernel
theorem d_md_judge_149 : decode prog_14_method_42_code 149 = .ok (.aload_n 0, 1) := by decide +kernel
theorem d_md_judge_150 : decode prog_14_method_42_code 150 = .ok (.getfield 347, 3) := by decide +kernel
theorem d_md_judge_153 : decode prog_14_method_42_code 153 = .ok (.aload_n 0, 1) := by decide +kernel
theorem d_md_judge_154 : decode prog_14_method_42_code 154 = .ok (.getfield 278, 3) := by decide +kernel
theorem d_md_judge_157 : decode prog_14_method_42_code 157 = .ok (.iastore, 1) := by decide +kernel
theorem d_md_judge_158 : decode prog_14_method_42_code 158 = .ok (.iconst 0, 1) := by decide +kernel
theorem d_md_judge_159 : decode prog_14_method_42_code 159 = .ok (.istore_n 2, 1) := by decide +kernel
theorem d_md_judge_160 : decode prog_14_method_42_code 160 = .ok (.iload_n 2, 1) := by decide +kernel
theorem d_md_judge_161 : decode prog_14_method_42_code 161 = .ok (.aload_n 0, 1) := by decide +kernel
theorem d_md_judge_162 : decode prog_14_method_42_code 162 = .ok (.getfield 174, 3) := by decide +kernel
theorem d_md_judge_165 : decode prog_14_method_42_code 165 = .ok (.if_icmp .ge (29), 3) := by decide +kernel
theorem d_md_judge_168 : decode prog_14_method_42_code 168 = .ok (.aload_n 0, 1) := by decide +kernel
theorem d_md_judge_169 : decode prog_14_method_42_code 169 = .ok (.getfield 25, 3) := by decide +kernel
theorem d_md_judge_172 : decode prog_14_method_42_code 172 = .ok (.bipush 120, 2) := by decide +kernel
theorem d_md_judge_174 : decode prog_14_method_42_code 174 = .ok (.aload_n 0, 1) := by decide +kernel
theorem d_md_judge_175 : decode prog_14_method_42_code 175 = .ok (.getfield 347, 3) := by decide +kernel
theorem d_md_judge_178 : decode prog_14_method_42_code 178 = .ok (.imul, 1) := by decide +kernel
theorem d_md_judge_179 : decode prog_14_method_42_code 179 = .ok (.iload_n 2, 1) := by decide +kernel
theorem d_md_judge_180 : decode prog_14_method_42_code 180 = .ok (.iadd, 1) := by decide +kernel
theorem d_md_judge_181 : decode prog_14_method_42_code 181 = .ok (.aload_n 0, 1) := by decide +kernel
theorem d_md_judge_182 : decode prog_14_method_42_code 182 = .ok (.getfield 7, 3) := by decide +kernel
theorem d_md_judge_185 : decode prog_14_method_42_code 185 = .ok (.iload_n 2, 1) := by decide +kernel
theorem d_md_judge_186 : decode prog_14_method_42_code 186 = .ok (.iaload, 1) := by decide +kernel
theorem d_md_judge_187 : decode prog_14_method_42_code 187 = .ok (.iastore, 1) := by decide +kernel
theorem d_md_judge_188 : decode prog_14_method_42_code 188 = .ok (.iinc 2 (1), 3) := by decide +kernel
theorem d_md_judge_191 : decode prog_14_method_42_code 191 = .ok (.goto (-31), 3) := by decide +kernel
theorem d_md_judge_194 : decode prog_14_method_42_code 194 = .ok (.iconst 0, 1) := by decide +kernel
theorem d_md_judge_195 : decode prog_14_method_42_code 195 = .ok (.ireturn, 1) := by decide +kernel
theorem d_md_place_0 : decode prog_14_method_43_code 0 = .ok (.aload_n 0, 1) := by decide +kernel
theorem d_md_place_1 : decode prog_14_method_43_code 1 = .ok (.getfield 118, 3) := by decide +kernel
theorem d_md_place_4 : decode prog_14_method_43_code 4 = .ok (.ireturn, 1) := by decide +kernel
theorem d_md_draw_0 : decode prog_14_method_44_code 0 = .ok (.aload_n 0, 1) := by decide +kernel
theorem d_md_draw_1 : decode prog_14_method_44_code 1 = .ok (.getfield 128, 3) := by decide +kernel
theorem d_md_draw_4 : decode prog_14_method_44_code 4 = .ok (.aload_n 0, 1) := by decide +kernel
theorem d_md_draw_5 : decode prog_14_method_44_code 5 = .ok (.getfield 362, 3) := by decide +kernel
theorem d_md_draw_8 : decode prog_14_method_44_code 8 = .ok (.iload_n 1, 1) := by decide +kernel
theorem d_md_draw_9 : decode prog_14_method_44_code 9 = .ok (.iastore, 1) := by decide +kernel
theorem d_md_draw_10 : decode prog_14_method_44_code 10 = .ok (.aload_n 0, 1) := by decide +kernel
theorem d_md_draw_11 : decode prog_14_method_44_code 11 = .ok (.getfield 131, 3) := by decide +kernel
theorem d_md_draw_14 : decode prog_14_method_44_code 14 = .ok (.aload_n 0, 1) := by decide +kernel
theorem d_md_draw_15 : decode prog_14_method_44_code 15 = .ok (.getfield 362, 3) := by decide +kernel
theorem d_md_draw_18 : decode prog_14_method_44_code 18 = .ok (.iload_n 2, 1) := by decide +kernel
theorem d_md_draw_19 : decode prog_14_method_44_code 19 = .ok (.iastore, 1) := by decide +kernel
theorem d_md_draw_20 : decode prog_14_method_44_code 20 = .ok (.aload_n 0, 1) := by decide +kernel
theorem d_md_draw_21 : decode prog_14_method_44_code 21 = .ok (.dup, 1) := by decide +kernel
theorem d_md_draw_22 : decode prog_14_method_44_code 22 = .ok (.getfield 362, 3) := by decide +kernel
theorem d_md_draw_25 : decode prog_14_method_44_code 25 = .ok (.iconst 1, 1) := by decide +kernel
theorem d_md_draw_26 : decode prog_14_method_44_code 26 = .ok (.iadd, 1) := by decide +kernel
theorem d_md_draw_27 : decode prog_14_method_44_code 27 = .ok (.putfield 362, 3) := by decide +kernel
theorem d_md_draw_30 : decode prog_14_method_44_code 30 = .ok (.return_, 1) := by decide +kernel
theorem d_md_give_0 : decode prog_14_method_45_code 0 = .ok (.aload_n 0, 1) := by decide +kernel
theorem d_md_give_1 : decode prog_14_method_45_code 1 = .ok (.getfield 122, 3) := by decide +kernel
theorem d_md_give_4 : decode prog_14_method_45_code 4 = .ok (.aload_n 0, 1) := by decide +kernel
theorem d_md_give_5 : decode prog_14_method_45_code 5 = .ok (.getfield 365, 3) := by decide +kernel
theorem d_md_give_8 : decode prog_14_method_45_code 8 = .ok (.iload_n 1, 1) := by decide +kernel
theorem d_md_give_9 : decode prog_14_method_45_code 9 = .ok (.iastore, 1) := by decide +kernel
theorem d_md_give_10 : decode prog_14_method_45_code 10 = .ok (.aload_n 0, 1) := by decide +kernel
theorem d_md_give_11 : decode prog_14_method_45_code 11 = .ok (.dup, 1) := by decide +kernel
theorem d_md_give_12 : decode prog_14_method_45_code 12 = .ok (.getfield 365, 3) := by decide +kernel
theorem d_md_give_15 : decode prog_14_method_45_code 15 = .ok (.iconst 1, 1) := by decide +kernel
theorem d_md_give_16 : decode prog_14_method_45_code 16 = .ok (.iadd, 1) := by decide +kernel
theorem d_md_give_17 : decode prog_14_method_45_code 17 = .ok (.putfield 365, 3) := by decide +kernel
theorem d_md_give_20 : decode prog_14_method_45_code 20 = .ok (.return_, 1) := by decide +kernel
theorem d_md_trouble_0 : decode prog_14_method_46_code 0 = .ok (.aload_n 0, 1) := by decide +kernel
theorem d_md_trouble_1 : decode prog_14_method_46_code 1 = .ok (.iload_n 1, 1) := by decide +kernel
theorem d_md_trouble_2 : decode prog_14_method_46_code 2 = .ok (.putfield 368, 3) := by decide +kernel
theorem d_md_trouble_5 : decode prog_14_method_46_code 5 = .ok (.aload_n 0, 1) := by decide +kernel
theorem d_md_trouble_6 : decode prog_14_method_46_code 6 = .ok (.iload_n 2, 1) := by decide +kernel
theorem d_md_trouble_7 : decode prog_14_method_46_code 7 = .ok (.putfield 371, 3) := by decide +kernel
theorem d_md_trouble_10 : decode prog_14_method_46_code 10 = .ok (.iconst 0, 1) := by decide +kernel
theorem d_md_trouble_11 : decode prog_14_method_46_code 11 = .ok (.ireturn, 1) := by decide +kernel
theorem d_md_call_0 : decode prog_14_method_47_code 0 = .ok (.aload_n 0, 1) := by decide +kernel
theorem d_md_call_1 : decode prog_14_method_47_code 1 = .ok (.getfield 150, 3) := by decide +kernel
theorem d_md_call_4 : decode prog_14_method_47_code 4 = .ok (.iconst 2, 1) := by decide +kernel
theorem d_md_call_5 : decode prog_14_method_47_code 5 = .ok (.aload_n 0, 1) := by decide +kernel
theorem d_md_call_6 : decode prog_14_method_47_code 6 = .ok (.getfield 374, 3) := by decide +kernel
theorem d_md_call_9 : decode prog_14_method_47_code 9 = .ok (.imul, 1) := by decide +kernel
theorem d_md_call_10 : decode prog_14_method_47_code 10 = .ok (.iload_n 1, 1) := by decide +kernel
theorem d_md_call_11 : decode prog_14_method_47_code 11 = .ok (.iadd, 1) := by decide +kernel
theorem d_md_call_12 : decode prog_14_method_47_code 12 = .ok (.dup2, 1) := by decide +kernel
theorem d_md_call_13 : decode prog_14_method_47_code 13 = .ok (.iaload, 1) := by decide +kernel
theorem d_md_call_14 : decode prog_14_method_47_code 14 = .ok (.iconst 1, 1) := by decide +kernel
theorem d_md_call_15 : decode prog_14_method_47_code 15 = .ok (.iadd, 1) := by decide +kernel
theorem d_md_call_16 : decode prog_14_method_47_code 16 = .ok (.iastore, 1) := by decide +kernel
theorem d_md_call_17 : decode prog_14_method_47_code 17 = .ok (.iconst 0, 1) := by decide +kernel
theorem d_md_call_18 : decode prog_14_method_47_code 18 = .ok (.istore 4, 2) := by decide +kernel
theorem d_md_call_20 : decode prog_14_method_47_code 20 = .ok (.aload_n 0, 1) := by decide +kernel
theorem d_md_call_21 : decode prog_14_method_47_code 21 = .ok (.getfield 377, 3) := by decide +kernel
theorem d_md_call_24 : decode prog_14_method_47_code 24 = .ok (.istore 5, 2) := by decide +kernel
theorem d_md_call_26 : decode prog_14_method_47_code 26 = .ok (.iload 5, 2) := by decide +kernel
theorem d_md_call_28 : decode prog_14_method_47_code 28 = .ok (.aload_n 0, 1) := by decide +kernel
theorem d_md_call_29 : decode prog_14_method_47_code 29 = .ok (.getfield 380, 3) := by decide +kernel
theorem d_md_call_32 : decode prog_14_method_47_code 32 = .ok (.if_icmp .ge (242), 3) := by decide +kernel
theorem d_md_call_35 : decode prog_14_method_47_code 35 = .ok (.aload_n 0, 1) := by decide +kernel
theorem d_md_call_36 : decode prog_14_method_47_code 36 = .ok (.getfield 383, 3) := by decide +kernel
theorem d_md_call_39 : decode prog_14_method_47_code 39 = .ok (.ifCond .eq (235), 3) := by decide +kernel
theorem d_md_call_42 : decode prog_14_method_47_code 42 = .ok (.aload_n 0, 1) := by decide +kernel
theorem d_md_call_43 : decode prog_14_method_47_code 43 = .ok (.getfield 37, 3) := by decide +kernel
theorem d_md_call_46 : decode prog_14_method_47_code 46 = .ok (.iload 5, 2) := by decide +kernel
theorem d_md_call_48 : decode prog_14_method_47_code 48 = .ok (.iaload, 1) := by decide +kernel
theorem d_md_call_49 : decode prog_14_method_47_code 49 = .ok (.bipush 7, 2) := by decide +kernel
theorem d_md_call_51 : decode prog_14_method_47_code 51 = .ok (.if_icmp .ne (63), 3) := by decide +kernel
theorem d_md_call_54 : decode prog_14_method_47_code 54 = .ok (.aload_n 0, 1) := by decide +kernel
theorem d_md_call_55 : decode prog_14_method_47_code 55 = .ok (.getfield 64, 3) := by decide +kernel
theorem d_md_call_58 : decode prog_14_method_47_code 58 = .ok (.iload 5, 2) := by decide +kernel
theorem d_md_call_60 : decode prog_14_method_47_code 60 = .ok (.iaload, 1) := by decide +kernel
theorem d_md_call_61 : decode prog_14_method_47_code 61 = .ok (.iload_n 1, 1) := by decide +kernel
theorem d_md_call_62 : decode prog_14_method_47_code 62 = .ok (.if_icmp .ne (52), 3) := by decide +kernel
theorem d_md_call_65 : decode prog_14_method_47_code 65 = .ok (.aload_n 0, 1) := by decide +kernel
theorem d_md_call_66 : decode prog_14_method_47_code 66 = .ok (.getfield 67, 3) := by decide +kernel
theorem d_md_call_69 : decode prog_14_method_47_code 69 = .ok (.iload 5, 2) := by decide +kernel
theorem d_md_call_71 : decode prog_14_method_47_code 71 = .ok (.iaload, 1) := by decide +kernel
theorem d_md_call_72 : decode prog_14_method_47_code 72 = .ok (.ifCond .eq (38), 3) := by decide +kernel
theorem d_md_call_75 : decode prog_14_method_47_code 75 = .ok (.aload_n 0, 1) := by decide +kernel
theorem d_md_call_76 : decode prog_14_method_47_code 76 = .ok (.getfield 67, 3) := by decide +kernel
theorem d_md_call_79 : decode prog_14_method_47_code 79 = .ok (.iload 5, 2) := by decide +kernel
theorem d_md_call_81 : decode prog_14_method_47_code 81 = .ok (.iaload, 1) := by decide +kernel
theorem d_md_call_82 : decode prog_14_method_47_code 82 = .ok (.iconst 1, 1) := by decide +kernel
theorem d_md_call_83 : decode prog_14_method_47_code 83 = .ok (.if_icmp .ne (7), 3) := by decide +kernel
theorem d_md_call_86 : decode prog_14_method_47_code 86 = .ok (.iconst 1, 1) := by decide +kernel
theorem d_md_call_87 : decode prog_14_method_47_code 87 = .ok (.goto (4), 3) := by decide +kernel
theorem d_md_call_90 : decode prog_14_method_47_code 90 = .ok (.iconst 0, 1) := by decide +kernel
theorem d_md_call_91 : decode prog_14_method_47_code 91 = .ok (.iload_n 2, 1) := by decide +kernel
theorem d_md_call_92 : decode prog_14_method_47_code 92 = .ok (.aload_n 0, 1) := by decide +kernel
theorem d_md_call_93 : decode prog_14_method_47_code 93 = .ok (.getfield 70, 3) := by decide +kernel
theorem d_md_call_96 : decode prog_14_method_47_code 96 = .ok (.iload 5, 2) := by decide +kernel
theorem d_md_call_98 : decode prog_14_method_47_code 98 = .ok (.iaload, 1) := by decide +kernel
theorem d_md_call_99 : decode prog_14_method_47_code 99 = .ok (.if_icmp .ne (7), 3) := by decide +kernel
theorem d_md_call_102 : decode prog_14_method_47_code 102 = .ok (.iconst 1, 1) := by decide +kernel
theorem d_md_call_103 : decode prog_14_method_47_code 103 = .ok (.goto (4), 3) := by decide +kernel
theorem d_md_call_106 : decode prog_14_method_47_code 106 = .ok (.iconst 0, 1) := by decide +kernel
theorem d_md_call_107 : decode prog_14_method_47_code 107 = .ok (.if_icmp .ne (7), 3) := by decide +kernel
theorem d_md_call_110 : decode prog_14_method_47_code 110 = .ok (.iconst 1, 1) := by decide +kernel
theorem d_md_call_111 : decode prog_14_method_47_code 111 = .ok (.goto (4), 3) := by decide +kernel
theorem d_md_call_114 : decode prog_14_method_47_code 114 = .ok (.iconst 0, 1) := by decide +kernel
theorem d_md_call_115 : decode prog_14_method_47_code 115 = .ok (.istore 6, 2) := by decide +kernel
theorem d_md_call_117 : decode prog_14_method_47_code 117 = .ok (.iload 6, 2) := by decide +kernel
theorem d_md_call_119 : decode prog_14_method_47_code 119 = .ok (.ifCond .eq (132), 3) := by decide +kernel
theorem d_md_call_122 : decode prog_14_method_47_code 122 = .ok (.aload_n 0, 1) := by decide +kernel
theorem d_md_call_123 : decode prog_14_method_47_code 123 = .ok (.getfield 61, 3) := by decide +kernel
theorem d_md_call_126 : decode prog_14_method_47_code 126 = .ok (.iload 5, 2) := by decide +kernel
theorem d_md_call_128 : decode prog_14_method_47_code 128 = .ok (.iaload, 1) := by decide +kernel
theorem d_md_call_129 : decode prog_14_method_47_code 129 = .ok (.ifCond .lt (20), 3) := by decide +kernel
theorem d_md_call_132 : decode prog_14_method_47_code 132 = .ok (.aload_n 0, 1) := by decide +kernel
theorem d_md_call_133 : decode prog_14_method_47_code 133 = .ok (.getfield 79, 3) := by decide +kernel
theorem d_md_call_136 : decode prog_14_method_47_code 136 = .ok (.iload 5, 2) := by decide +kernel
theorem d_md_call_138 : decode prog_14_method_47_code 138 = .ok (.iaload, 1) := by decide +kernel
theorem d_md_call_139 : decode prog_14_method_47_code 139 = .ok (.aload_n 0, 1) := by decide +kernel
theorem d_md_call_140 : decode prog_14_method_47_code 140 = .ok (.getfield 61, 3) := by decide +kernel
theorem d_md_call_143 : decode prog_14_method_47_code 143 = .ok (.iload 5, 2) := by decide +kernel
theorem d_md_call_145 : decode prog_14_method_47_code 145 = .ok (.iaload, 1) := by decide +kernel
theorem d_md_call_146 : decode prog_14_method_47_code 146 = .ok (.if_icmp .ge (105), 3) := by decide +kernel
theorem d_md_call_149 : decode prog_14_method_47_code 149 = .ok (.aload_n 0, 1) := by decide +kernel
theorem d_md_call_150 : decode prog_14_method_47_code 150 = .ok (.getfield 76, 3) := by decide +kernel
theorem d_md_call_153 : decode prog_14_method_47_code 153 = .ok (.iload 5, 2) := by decide +kernel
theorem d_md_call_155 : decode prog_14_method_47_code 155 = .ok (.iaload, 1) := by decide +kernel
theorem d_md_call_156 : decode prog_14_method_47_code 156 = .ok (.aload_n 0, 1) := by decide +kernel
theorem d_md_call_157 : decode prog_14_method_47_code 157 = .ok (.getfield 73, 3) := by decide +kernel
theorem d_md_call_160 : decode prog_14_method_47_code 160 = .ok (.iload 5, 2) := by decide +kernel
theorem d_md_call_162 : decode prog_14_method_47_code 162 = .ok (.iaload, 1) := by decide +kernel
theorem d_md_call_163 : decode prog_14_method_47_code 163 = .ok (.isub, 1) := by decide +kernel
theorem d_md_call_164 : decode prog_14_method_47_code 164 = .ok (.istore 7, 2) := by decide +kernel
theorem d_md_call_166 : decode prog_14_method_47_code 166 = .ok (.aload_n 0, 1) := by decide +kernel
theorem d_md_call_167 : decode prog_14_method_47_code 167 = .ok (.getfield 79, 3) := by decide +kernel
theorem d_md_call_170 : decode prog_14_method_47_code 170 = .ok (.iload 5, 2) := by decide +kernel
theorem d_md_call_172 : decode prog_14_method_47_code 172 = .ok (.iaload, 1) := by decide +kernel
theorem d_md_call_173 : decode prog_14_method_47_code 173 = .ok (.iload 7, 2) := by decide +kernel
theorem d_md_call_175 : decode prog_14_method_47_code 175 = .ok (.if_icmp .ge (13), 3) := by decide +kernel
theorem d_md_call_178 : decode prog_14_method_47_code 178 = .ok (.aload_n 0, 1) := by decide +kernel
theorem d_md_call_179 : decode prog_14_method_47_code 179 = .ok (.getfield 79, 3) := by decide +kernel
theorem d_md_call_182 : decode prog_14_method_47_code 182 = .ok (.iload 5, 2) := by decide +kernel
theorem d_md_call_184 : decode prog_14_method_47_code 184 = .ok (.iaload, 1) := by decide +kernel
theorem d_md_call_185 : decode prog_14_method_47_code 185 = .ok (.goto (7), 3) := by decide +kernel
theorem d_md_call_188 : decode prog_14_method_47_code 188 = .ok (.iload 7, 2) := by decide +kernel
theorem d_md_call_190 : decode prog_14_method_47_code 190 = .ok (.iconst 1, 1) := by decide +kernel
theorem d_md_call_191 : decode prog_14_method_47_code 191 = .ok (.isub, 1) := by decide +kernel
theorem d_md_call_192 : decode prog_14_method_47_code 192 = .ok (.istore 8, 2) := by decide +kernel
theorem d_md_call_194 : decode prog_14_method_47_code 194 = .ok (.aload_n 0, 1) := by decide +kernel
theorem d_md_call_195 : decode prog_14_method_47_code 195 = .ok (.getfield 79, 3) := by decide +kernel
theorem d_md_call_198 : decode prog_14_method_47_code 198 = .ok (.iload 5, 2) := by decide +kernel
theorem d_md_call_200 : decode prog_14_method_47_code 200 = .ok (.dup2, 1) := by decide +kernel
theorem d_md_call_201 : decode prog_14_method_47_code 201 = .ok (.iaload, 1) := by decide +kernel
theorem d_md_call_202 : decode prog_14_method_47_code 202 = .ok (.iconst 1, 1) := by decide +kernel
theorem d_md_call_203 : decode prog_14_method_47_code 203 = .ok (.iadd, 1) := by decide +kernel
theorem d_md_call_204 : decode prog_14_method_47_code 204 = .ok (.iastore, 1) := by decide +kernel
theorem d_md_call_205 : decode prog_14_method_47_code 205 = .ok (.aload_n 0, 1) := by decide +kernel
theorem d_md_call_206 : decode prog_14_method_47_code 206 = .ok (.iload 7, 2) := by decide +kernel
theorem d_md_call_208 : decode prog_14_method_47_code 208 = .ok (.ifCond .ne (7), 3) := by decide +kernel
theorem d_md_call_211 : decode prog_14_method_47_code 211 = .ok (.iconst 0, 1) := by decide +kernel
theorem d_md_call_212 : decode prog_14_method_47_code 212 = .ok (.goto (18), 3) := by decide +kernel
theorem d_md_call_215 : decode prog_14_method_47_code 215 = .ok (.aload_n 0, 1) := by decide +kernel
theorem d_md_call_216 : decode prog_14_method_47_code 216 = .ok (.getfield 82, 3) := by decide +kernel
theorem d_md_call_219 : decode prog_14_method_47_code 219 = .ok (.aload_n 0, 1) := by decide +kernel
theorem d_md_call_220 : decode prog_14_method_47_code 220 = .ok (.getfield 73, 3) := by decide +kernel
theorem d_md_call_223 : decode prog_14_method_47_code 223 = .ok (.iload 5, 2) := by decide +kernel
theorem d_md_call_225 : decode prog_14_method_47_code 225 = .ok (.iaload, 1) := by decide +kernel
theorem d_md_call_226 : decode prog_14_method_47_code 226 = .ok (.iload 8, 2) := by decide +kernel
theorem d_md_call_228 : decode prog_14_method_47_code 228 = .ok (.iadd, 1) := by decide +kernel
theorem d_md_call_229 : decode prog_14_method_47_code 229 = .ok (.iaload, 1) := by decide +kernel
theorem d_md_call_230 : decode prog_14_method_47_code 230 = .ok (.invokevirtual 386, 3) := by decide +kernel
theorem d_md_call_233 : decode prog_14_method_47_code 233 = .ok (.aload_n 0, 1) := by decide +kernel
theorem d_md_call_234 : decode prog_14_method_47_code 234 = .ok (.iload_n 3, 1) := by decide +kernel
theorem d_md_call_235 : decode prog_14_method_47_code 235 = .ok (.aload_n 0, 1) := by decide +kernel
theorem d_md_call_236 : decode prog_14_method_47_code 236 = .ok (.getfield 122, 3) := by decide +kernel
theorem d_md_call_239 : decode prog_14_method_47_code 239 = .ok (.aload_n 0, 1) := by decide +kernel
theorem d_md_call_240 : decode prog_14_method_47_code 240 = .ok (.getfield 365, 3) := by decide +kernel
theorem d_md_call_243 : decode prog_14_method_47_code 243 = .ok (.iconst 1, 1) := by decide +kernel
theorem d_md_call_244 : decode prog_14_method_47_code 244 = .ok (.isub, 1) := by decide +kernel
theorem d_md_call_245 : decode prog_14_method_47_code 245 = .ok (.iaload, 1) := by decide +kernel
theorem d_md_call_246 : decode prog_14_method_47_code 246 = .ok (.invokevirtual 389, 3) := by decide +kernel
theorem d_md_call_249 : decode prog_14_method_47_code 249 = .ok (.iconst 1, 1) := by decide +kernel
theorem d_md_call_250 : decode prog_14_method_47_code 250 = .ok (.ireturn, 1) := by decide +kernel
theorem d_md_call_251 : decode prog_14_method_47_code 251 = .ok (.iload 4, 2) := by decide +kernel
theorem d_md_call_253 : decode prog_14_method_47_code 253 = .ok (.ifCond .ne (8), 3) := by decide +kernel
theorem d_md_call_256 : decode prog_14_method_47_code 256 = .ok (.iload 6, 2) := by decide +kernel
theorem d_md_call_258 : decode prog_14_method_47_code 258 = .ok (.ifCond .eq (7), 3) := by decide +kernel
theorem d_md_call_261 : decode prog_14_method_47_code 261 = .ok (.iconst 1, 1) := by decide +kernel
theorem d_md_call_262 : decode prog_14_method_47_code 262 = .ok (.goto (4), 3) := by decide +kernel
theorem d_md_call_265 : decode prog_14_method_47_code 265 = .ok (.iconst 0, 1) := by decide +kernel
theorem d_md_call_266 : decode prog_14_method_47_code 266 = .ok (.istore 4, 2) := by decide +kernel
theorem d_md_call_268 : decode prog_14_method_47_code 268 = .ok (.iinc 5 (1), 3) := by decide +kernel
theorem d_md_call_271 : decode prog_14_method_47_code 271 = .ok (.goto (-245), 3) := by decide +kernel
theorem d_md_call_274 : decode prog_14_method_47_code 274 = .ok (.iload 4, 2) := by decide +kernel
theorem d_md_call_276 : decode prog_14_method_47_code 276 = .ok (.ifCond .eq (10), 3) := by decide +kernel
theorem d_md_call_279 : decode prog_14_method_47_code 279 = .ok (.aload_n 0, 1) := by decide +kernel
theorem d_md_call_280 : decode prog_14_method_47_code 280 = .ok (.iconst 2, 1) := by decide +kernel
theorem d_md_call_281 : decode prog_14_method_47_code 281 = .ok (.iload_n 3, 1) := by decide +kernel
theorem d_md_call_282 : decode prog_14_method_47_code 282 = .ok (.invokevirtual 392, 3) := by decide +kernel
theorem d_md_call_285 : decode prog_14_method_47_code 285 = .ok (.ireturn, 1) := by decide +kernel
theorem d_md_call_286 : decode prog_14_method_47_code 286 = .ok (.aload_n 0, 1) := by decide +kernel
theorem d_md_call_287 : decode prog_14_method_47_code 287 = .ok (.iconst 0, 1) := by decide +kernel
theorem d_md_call_288 : decode prog_14_method_47_code 288 = .ok (.invokevirtual 386, 3) := by decide +kernel
theorem d_md_call_291 : decode prog_14_method_47_code 291 = .ok (.aload_n 0, 1) := by decide +kernel
theorem d_md_call_292 : decode prog_14_method_47_code 292 = .ok (.iload_n 3, 1) := by decide +kernel
theorem d_md_call_293 : decode prog_14_method_47_code 293 = .ok (.iconst 0, 1) := by decide +kernel
theorem d_md_call_294 : decode prog_14_method_47_code 294 = .ok (.invokevirtual 389, 3) := by decide +kernel
theorem d_md_call_297 : decode prog_14_method_47_code 297 = .ok (.iconst 1, 1) := by decide +kernel
theorem d_md_call_298 : decode prog_14_method_47_code 298 = .ok (.ireturn, 1) := by decide +kernel
theorem d_md_truth_0 : decode prog_14_method_48_code 0 = .ok (.iload_n 0, 1) := by decide +kernel
theorem d_md_truth_1 : decode prog_14_method_48_code 1 = .ok (.ifCond .eq (7), 3) := by decide +kernel
theorem d_md_truth_4 : decode prog_14_method_48_code 4 = .ok (.iconst 1, 1) := by decide +kernel
theorem d_md_truth_5 : decode prog_14_method_48_code 5 = .ok (.goto (4), 3) := by decide +kernel
theorem d_md_truth_8 : decode prog_14_method_48_code 8 = .ok (.iconst 0, 1) := by decide +kernel
theorem d_md_truth_9 : decode prog_14_method_48_code 9 = .ok (.ireturn, 1) := by decide +kernel
theorem d_md_compared_0 : decode prog_14_method_49_code 0 = .ok (.iload_n 0, 1) := by decide +kernel
theorem d_md_compared_1 : decode prog_14_method_49_code 1 = .ok (.sipush 128, 3) := by decide +kernel
theorem d_md_compared_4 : decode prog_14_method_49_code 4 = .ok (.if_icmp .ne (17), 3) := by decide +kernel
theorem d_md_compared_7 : decode prog_14_method_49_code 7 = .ok (.iload_n 1, 1) := by decide +kernel
theorem d_md_compared_8 : decode prog_14_method_49_code 8 = .ok (.iload_n 2, 1) := by decide +kernel
theorem d_md_compared_9 : decode prog_14_method_49_code 9 = .ok (.if_icmp .ne (7), 3) := by decide +kernel
theorem d_md_compared_12 : decode prog_14_method_49_code 12 = .ok (.iconst 1, 1) := by decide +kernel
theorem d_md_compared_13 : decode prog_14_method_49_code 13 = .ok (.goto (4), 3) := by decide +kernel
theorem d_md_compared_16 : decode prog_14_method_49_code 16 = .ok (.iconst 0, 1) := by decide +kernel
theorem d_md_compared_17 : decode prog_14_method_49_code 17 = .ok (.invokestatic 394, 3) := by decide +kernel
theorem d_md_compared_20 : decode prog_14_method_49_code 20 = .ok (.ireturn, 1) := by decide +kernel
theorem d_md_compared_21 : decode prog_14_method_49_code 21 = .ok (.iload_n 0, 1) := by decide +kernel
theorem d_md_compared_22 : decode prog_14_method_49_code 22 = .ok (.sipush 129, 3) := by decide +kernel
theorem d_md_compared_25 : decode prog_14_method_49_code 25 = .ok (.if_icmp .ne (17), 3) := by decide +kernel
theorem d_md_compared_28 : decode prog_14_method_49_code 28 = .ok (.iload_n 1, 1) := by decide +kernel
theorem d_md_compared_29 : decode prog_14_method_49_code 29 = .ok (.iload_n 2, 1) := by decide +kernel
theorem d_md_compared_30 : decode prog_14_method_49_code 30 = .ok (.if_icmp .eq (7), 3) := by decide +kernel
theorem d_md_compared_33 : decode prog_14_method_49_code 33 = .ok (.iconst 1, 1) := by decide +kernel
theorem d_md_compared_34 : decode prog_14_method_49_code 34 = .ok (.goto (4), 3) := by decide +kernel
theorem d_md_compared_37 : decode prog_14_method_49_code 37 = .ok (.iconst 0, 1) := by decide +kernel
theorem d_md_compared_38 : decode prog_14_method_49_code 38 = .ok (.invokestatic 394, 3) := by decide +kernel
theorem d_md_compared_41 : decode prog_14_method_49_code 41 = .ok (.ireturn, 1) := by decide +kernel
theorem d_md_compared_42 : decode prog_14_method_49_code 42 = .ok (.iload_n 0, 1) := by decide +kernel
theorem d_md_compared_43 : decode prog_14_method_49_code 43 = .ok (.sipush 130, 3) := by decide +kernel
theorem d_md_compared_46 : decode prog_14_method_49_code 46 = .ok (.if_icmp .ne (17), 3) := by decide +kernel
theorem d_md_compared_49 : decode prog_14_method_49_code 49 = .ok (.iload_n 1, 1) := by decide +kernel
theorem d_md_compared_50 : decode prog_14_method_49_code 50 = .ok (.iload_n 2, 1) := by decide +kernel
theorem d_md_compared_51 : decode prog_14_method_49_code 51 = .ok (.if_icmp .gt (7), 3) := by decide +kernel
theorem d_md_compared_54 : decode prog_14_method_49_code 54 = .ok (.iconst 1, 1) := by decide +kernel
theorem d_md_compared_55 : decode prog_14_method_49_code 55 = .ok (.goto (4), 3) := by decide +kernel
theorem d_md_compared_58 : decode prog_14_method_49_code 58 = .ok (.iconst 0, 1) := by decide +kernel
theorem d_md_compared_59 : decode prog_14_method_49_code 59 = .ok (.invokestatic 394, 3) := by decide +kernel
theorem d_md_compared_62 : decode prog_14_method_49_code 62 = .ok (.ireturn, 1) := by decide +kernel
theorem d_md_compared_63 : decode prog_14_method_49_code 63 = .ok (.iload_n 0, 1) := by decide +kernel
theorem d_md_compared_64 : decode prog_14_method_49_code 64 = .ok (.sipush 131, 3) := by decide +kernel
theorem d_md_compared_67 : decode prog_14_method_49_code 67 = .ok (.if_icmp .ne (17), 3) := by decide +kernel
theorem d_md_compared_70 : decode prog_14_method_49_code 70 = .ok (.iload_n 1, 1) := by decide +kernel
theorem d_md_compared_71 : decode prog_14_method_49_code 71 = .ok (.iload_n 2, 1) := by decide +kernel
theorem d_md_compared_72 : decode prog_14_method_49_code 72 = .ok (.if_icmp .lt (7), 3) := by decide +kernel
theorem d_md_compared_75 : decode prog_14_method_49_code 75 = .ok (.iconst 1, 1) := by decide +kernel
theorem d_md_compared_76 : decode prog_14_method_49_code 76 = .ok (.goto (4), 3) := by decide +kernel
theorem d_md_compared_79 : decode prog_14_method_49_code 79 = .ok (.iconst 0, 1) := by decide +kernel
theorem d_md_compared_80 : decode prog_14_method_49_code 80 = .ok (.invokestatic 394, 3) := by decide +kernel
theorem d_md_compared_83 : decode prog_14_method_49_code 83 = .ok (.ireturn, 1) := by decide +kernel
theorem d_md_compared_84 : decode prog_14_method_49_code 84 = .ok (.iload_n 0, 1) := by decide +kernel
theorem d_md_compared_85 : decode prog_14_method_49_code 85 = .ok (.bipush 60, 2) := by decide +kernel
theorem d_md_compared_87 : decode prog_14_method_49_code 87 = .ok (.if_icmp .ne (16), 3) := by decide +kernel
theorem d_md_compared_90 : decode prog_14_method_49_code 90 = .ok (.iload_n 1, 1) := by decide +kernel
theorem d_md_compared_91 : decode prog_14_method_49_code 91 = .ok (.iload_n 2, 1) := by decide +kernel
theorem d_md_compared_92 : decode prog_14_method_49_code 92 = .ok (.if_icmp .ge (7), 3) := by decide +kernel
theorem d_md_compared_95 : decode prog_14_method_49_code 95 = .ok (.iconst 1, 1) := by decide +kernel
theorem d_md_compared_96 : decode prog_14_method_49_code 96 = .ok (.goto (17), 3) := by decide +kernel
theorem d_md_compared_99 : decode prog_14_method_49_code 99 = .ok (.iconst 0, 1) := by decide +kernel
theorem d_md_compared_100 : decode prog_14_method_49_code 100 = .ok (.goto (13), 3) := by decide +kernel
theorem d_md_compared_103 : decode prog_14_method_49_code 103 = .ok (.iload_n 1, 1) := by decide +kernel
theorem d_md_compared_104 : decode prog_14_method_49_code 104 = .ok (.iload_n 2, 1) := by decide +kernel
theorem d_md_compared_105 : decode prog_14_method_49_code 105 = .ok (.if_icmp .le (7), 3) := by decide +kernel
theorem d_md_compared_108 : decode prog_14_method_49_code 108 = .ok (.iconst 1, 1) := by decide +kernel
theorem d_md_compared_109 : decode prog_14_method_49_code 109 = .ok (.goto (4), 3) := by decide +kernel
theorem d_md_compared_112 : decode prog_14_method_49_code 112 = .ok (.iconst 0, 1) := by decide +kernel
theorem d_md_compared_113 : decode prog_14_method_49_code 113 = .ok (.invokestatic 394, 3) := by decide +kernel
theorem d_md_compared_116 : decode prog_14_method_49_code 116 = .ok (.ireturn, 1) := by decide +kernel
theorem d_md_reckon_0 : decode prog_14_method_50_code 0 = .ok (.aload_n 0, 1) := by decide +kernel
theorem d_md_reckon_1 : decode prog_14_method_50_code 1 = .ok (.getfield 122, 3) := by decide +kernel
theorem d_md_reckon_4 : decode prog_14_method_50_code 4 = .ok (.aload_n 0, 1) := by decide +kernel
theorem d_md_reckon_5 : decode prog_14_method_50_code 5 = .ok (.getfield 365, 3) := by decide +kernel
theorem d_md_reckon_8 : decode prog_14_method_50_code 8 = .ok (.iconst 1, 1) := by decide +kernel
theorem d_md_reckon_9 : decode prog_14_method_50_code 9 = .ok (.isub, 1) := by decide +kernel
theorem d_md_reckon_10 : decode prog_14_method_50_code 10 = .ok (.iaload, 1) := by decide +kernel
theorem d_md_reckon_11 : decode prog_14_method_50_code 11 = .ok (.istore_n 3, 1) := by decide +kernel
theorem d_md_reckon_12 : decode prog_14_method_50_code 12 = .ok (.aload_n 0, 1) := by decide +kernel
theorem d_md_reckon_13 : decode prog_14_method_50_code 13 = .ok (.getfield 122, 3) := by decide +kernel
theorem d_md_reckon_16 : decode prog_14_method_50_code 16 = .ok (.aload_n 0, 1) := by decide +kernel
theorem d_md_reckon_17 : decode prog_14_method_50_code 17 = .ok (.getfield 365, 3) := by decide +kernel
theorem d_md_reckon_20 : decode prog_14_method_50_code 20 = .ok (.iconst 2, 1) := by decide +kernel
theorem d_md_reckon_21 : decode prog_14_method_50_code 21 = .ok (.isub, 1) := by decide +kernel
theorem d_md_reckon_22 : decode prog_14_method_50_code 22 = .ok (.iaload, 1) := by decide +kernel
theorem d_md_reckon_23 : decode prog_14_method_50_code 23 = .ok (.istore 4, 2) := by decide +kernel
theorem d_md_reckon_25 : decode prog_14_method_50_code 25 = .ok (.aload_n 0, 1) := by decide +kernel
theorem d_md_reckon_26 : decode prog_14_method_50_code 26 = .ok (.dup, 1) := by decide +kernel
theorem d_md_reckon_27 : decode prog_14_method_50_code 27 = .ok (.getfield 365, 3) := by decide +kernel
theorem d_md_reckon_30 : decode prog_14_method_50_code 30 = .ok (.iconst 2, 1) := by decide +kernel
theorem d_md_reckon_31 : decode prog_14_method_50_code 31 = .ok (.isub, 1) := by decide +kernel
theorem d_md_reckon_32 : decode prog_14_method_50_code 32 = .ok (.putfield 365, 3) := by decide +kernel
theorem d_md_reckon_35 : decode prog_14_method_50_code 35 = .ok (.iload_n 1, 1) := by decide +kernel
theorem d_md_reckon_36 : decode prog_14_method_50_code 36 = .ok (.bipush 47, 2) := by decide +kernel
theorem d_md_reckon_38 : decode prog_14_method_50_code 38 = .ok (.if_icmp .eq (9), 3) := by decide +kernel
theorem d_md_reckon_41 : decode prog_14_method_50_code 41 = .ok (.iload_n 1, 1) := by decide +kernel
theorem d_md_reckon_42 : decode prog_14_method_50_code 42 = .ok (.bipush 37, 2) := by decide +kernel
theorem d_md_reckon_44 : decode prog_14_method_50_code 44 = .ok (.if_icmp .ne (14), 3) := by decide +kernel
theorem d_md_reckon_47 : decode prog_14_method_50_code 47 = .ok (.iload_n 3, 1) := by decide +kernel
theorem d_md_reckon_48 : decode prog_14_method_50_code 48 = .ok (.ifCond .ne (10), 3) := by decide +kernel
theorem d_md_reckon_51 : decode prog_14_method_50_code 51 = .ok (.aload_n 0, 1) := by decide +kernel
theorem d_md_reckon_52 : decode prog_14_method_50_code 52 = .ok (.iconst 3, 1) := by decide +kernel
theorem d_md_reckon_53 : decode prog_14_method_50_code 53 = .ok (.iload_n 2, 1) := by decide +kernel
theorem d_md_reckon_54 : decode prog_14_method_50_code 54 = .ok (.invokevirtual 392, 3) := by decide +kernel
theorem d_md_reckon_57 : decode prog_14_method_50_code 57 = .ok (.ireturn, 1) := by decide +kernel
theorem d_md_reckon_58 : decode prog_14_method_50_code 58 = .ok (.iconst 0, 1) := by decide +kernel
theorem d_md_reckon_59 : decode prog_14_method_50_code 59 = .ok (.istore 5, 2) := by decide +kernel
theorem d_md_reckon_61 : decode prog_14_method_50_code 61 = .ok (.iload_n 1, 1) := by decide +kernel
theorem d_md_reckon_62 : decode prog_14_method_50_code 62 = .ok (.invokestatic 223, 3) := by decide +kernel
theorem d_md_reckon_65 : decode prog_14_method_50_code 65 = .ok (.iconst 3, 1) := by decide +kernel
theorem d_md_reckon_66 : decode prog_14_method_50_code 66 = .ok (.if_icmp .ne (15), 3) := by decide +kernel
theorem d_md_reckon_69 : decode prog_14_method_50_code 69 = .ok (.iload_n 1, 1) := by decide +kernel
theorem d_md_reckon_70 : decode prog_14_method_50_code 70 = .ok (.iload 4, 2) := by decide +kernel
theorem d_md_reckon_72 : decode prog_14_method_50_code 72 = .ok (.iload_n 3, 1) := by decide +kernel
theorem d_md_reckon_73 : decode prog_14_method_50_code 73 = .ok (.invokestatic 398, 3) := by decide +kernel
theorem d_md_reckon_76 : decode prog_14_method_50_code 76 = .ok (.istore 5, 2) := by decide +kernel
theorem d_md_reckon_78 : decode prog_14_method_50_code 78 = .ok (.goto (67), 3) := by decide +kernel
theorem d_md_reckon_81 : decode prog_14_method_50_code 81 = .ok (.iload_n 1, 1) := by decide +kernel
theorem d_md_reckon_82 : decode prog_14_method_50_code 82 = .ok (.bipush 43, 2) := by decide +kernel
theorem d_md_reckon_84 : decode prog_14_method_50_code 84 = .ok (.if_icmp .ne (12), 3) := by decide +kernel
theorem d_md_reckon_87 : decode prog_14_method_50_code 87 = .ok (.iload 4, 2) := by decide +kernel
theorem d_md_reckon_89 : decode prog_14_method_50_code 89 = .ok (.iload_n 3, 1) := by decide +kernel
theorem d_md_reckon_90 : decode prog_14_method_50_code 90 = .ok (.iadd, 1) := by decide +kernel
theorem d_md_reckon_91 : decode prog_14_method_50_code 91 = .ok (.istore 5, 2) := by decide +kernel
theorem d_md_reckon_93 : decode prog_14_method_50_code 93 = .ok (.goto (52), 3) := by decide +kernel
theorem d_md_reckon_96 : decode prog_14_method_50_code 96 = .ok (.iload_n 1, 1) := by decide +kernel
theorem d_md_reckon_97 : decode prog_14_method_50_code 97 = .ok (.bipush 45, 2) := by decide +kernel
theorem d_md_reckon_99 : decode prog_14_method_50_code 99 = .ok (.if_icmp .ne (12), 3) := by decide +kernel
theorem d_md_reckon_102 : decode prog_14_method_50_code 102 = .ok (.iload 4, 2) := by decide +kernel
theorem d_md_reckon_104 : decode prog_14_method_50_code 104 = .ok (.iload_n 3, 1) := by decide +kernel
theorem d_md_reckon_105 : decode prog_14_method_50_code 105 = .ok (.isub, 1) := by decide +kernel
theorem d_md_reckon_106 : decode prog_14_method_50_code 106 = .ok (.istore 5, 2) := by decide +kernel
theorem d_md_reckon_108 : decode prog_14_method_50_code 108 = .ok (.goto (37), 3) := by decide +kernel
theorem d_md_reckon_111 : decode prog_14_method_50_code 111 = .ok (.iload_n 1, 1) := by decide +kernel
theorem d_md_reckon_112 : decode prog_14_method_50_code 112 = .ok (.bipush 42, 2) := by decide +kernel
theorem d_md_reckon_114 : decode prog_14_method_50_code 114 = .ok (.if_icmp .ne (12), 3) := by decide +kernel
theorem d_md_reckon_117 : decode prog_14_method_50_code 117 = .ok (.iload 4, 2) := by decide +kernel
theorem d_md_reckon_119 : decode prog_14_method_50_code 119 = .ok (.iload_n 3, 1) := by decide +kernel
theorem d_md_reckon_120 : decode prog_14_method_50_code 120 = .ok (.imul, 1) := by decide +kernel
theorem d_md_reckon_121 : decode prog_14_method_50_code 121 = .ok (.istore 5, 2) := by decide +kernel
theorem d_md_reckon_123 : decode prog_14_method_50_code 123 = .ok (.goto (22), 3) := by decide +kernel
theorem d_md_reckon_126 : decode prog_14_method_50_code 126 = .ok (.iload_n 1, 1) := by decide +kernel
theorem d_md_reckon_127 : decode prog_14_method_50_code 127 = .ok (.bipush 47, 2) := by decide +kernel
theorem d_md_reckon_129 : decode prog_14_method_50_code 129 = .ok (.if_icmp .ne (10), 3) := by decide +kernel
theorem d_md_reckon_132 : decode prog_14_method_50_code 132 = .ok (.iload 4, 2) := by decide +kernel
theorem d_md_reckon_134 : decode prog_14_method_50_code 134 = .ok (.iload_n 3, 1) := by decide +kernel
theorem d_md_reckon_135 : decode prog_14_method_50_code 135 = .ok (.idiv, 1) := by decide +kernel
theorem d_md_reckon_136 : decode prog_14_method_50_code 136 = .ok (.goto (7), 3) := by decide +kernel
theorem d_md_reckon_139 : decode prog_14_method_50_code 139 = .ok (.iload 4, 2) := by decide +kernel
theorem d_md_reckon_141 : decode prog_14_method_50_code 141 = .ok (.iload_n 3, 1) := by decide +kernel
theorem d_md_reckon_142 : decode prog_14_method_50_code 142 = .ok (.irem, 1) := by decide +kernel
theorem d_md_reckon_143 : decode prog_14_method_50_code 143 = .ok (.istore 5, 2) := by decide +kernel
theorem d_md_reckon_145 : decode prog_14_method_50_code 145 = .ok (.aload_n 0, 1) := by decide +kernel
theorem d_md_reckon_146 : decode prog_14_method_50_code 146 = .ok (.iload 5, 2) := by decide +kernel
theorem d_md_reckon_148 : decode prog_14_method_50_code 148 = .ok (.invokevirtual 386, 3) := by decide +kernel
theorem d_md_reckon_151 : decode prog_14_method_50_code 151 = .ok (.aload_n 0, 1) := by decide +kernel
theorem d_md_reckon_152 : decode prog_14_method_50_code 152 = .ok (.iload_n 2, 1) := by decide +kernel
theorem d_md_reckon_153 : decode prog_14_method_50_code 153 = .ok (.iload 5, 2) := by decide +kernel
theorem d_md_reckon_155 : decode prog_14_method_50_code 155 = .ok (.invokevirtual 389, 3) := by decide +kernel
