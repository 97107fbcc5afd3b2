theorem d_md_reckon_158 : decode prog_14_method_50_code 158 = .ok (.iconst 1, 1) := by decide +kernel
theorem d_md_reckon_159 : decode prog_14_method_50_code 159 = .ok (.ireturn, 1) := by decide +kernel
theorem d_md_perform_0 : decode prog_14_method_51_code 0 = .ok (.iload_n 1, 1) := by decide +kernel
theorem d_md_perform_1 : decode prog_14_method_51_code 1 = .ok (.istore_n 3, 1) := by decide +kernel
theorem d_md_perform_2 : decode prog_14_method_51_code 2 = .ok (.aload_n 0, 1) := by decide +kernel
theorem d_md_perform_3 : decode prog_14_method_51_code 3 = .ok (.iconst 0, 1) := by decide +kernel
theorem d_md_perform_4 : decode prog_14_method_51_code 4 = .ok (.putfield 365, 3) := by decide +kernel
theorem d_md_perform_7 : decode prog_14_method_51_code 7 = .ok (.aload_n 0, 1) := by decide +kernel
theorem d_md_perform_8 : decode prog_14_method_51_code 8 = .ok (.iconst 0, 1) := by decide +kernel
theorem d_md_perform_9 : decode prog_14_method_51_code 9 = .ok (.putfield 362, 3) := by decide +kernel
theorem d_md_perform_12 : decode prog_14_method_51_code 12 = .ok (.iload_n 3, 1) := by decide +kernel
theorem d_md_perform_13 : decode prog_14_method_51_code 13 = .ok (.iload_n 2, 1) := by decide +kernel
theorem d_md_perform_14 : decode prog_14_method_51_code 14 = .ok (.if_icmp .ge (23), 3) := by decide +kernel
theorem d_md_perform_17 : decode prog_14_method_51_code 17 = .ok (.aload_n 0, 1) := by decide +kernel
theorem d_md_perform_18 : decode prog_14_method_51_code 18 = .ok (.iload_n 3, 1) := by decide +kernel
theorem d_md_perform_19 : decode prog_14_method_51_code 19 = .ok (.invokevirtual 402, 3) := by decide +kernel
theorem d_md_perform_22 : decode prog_14_method_51_code 22 = .ok (.istore 4, 2) := by decide +kernel
theorem d_md_perform_24 : decode prog_14_method_51_code 24 = .ok (.iload 4, 2) := by decide +kernel
theorem d_md_perform_26 : decode prog_14_method_51_code 26 = .ok (.ifCond .ge (5), 3) := by decide +kernel
theorem d_md_perform_29 : decode prog_14_method_51_code 29 = .ok (.iconst 0, 1) := by decide +kernel
theorem d_md_perform_30 : decode prog_14_method_51_code 30 = .ok (.ireturn, 1) := by decide +kernel
theorem d_md_perform_31 : decode prog_14_method_51_code 31 = .ok (.iload 4, 2) := by decide +kernel
theorem d_md_perform_33 : decode prog_14_method_51_code 33 = .ok (.istore_n 3, 1) := by decide +kernel
theorem d_md_perform_34 : decode prog_14_method_51_code 34 = .ok (.goto (-22), 3) := by decide +kernel
theorem d_md_perform_37 : decode prog_14_method_51_code 37 = .ok (.iconst 1, 1) := by decide +kernel
theorem d_md_perform_38 : decode prog_14_method_51_code 38 = .ok (.ireturn, 1) := by decide +kernel
theorem d_md_one_0 : decode prog_14_method_52_code 0 = .ok (.aload_n 0, 1) := by decide +kernel
theorem d_md_one_1 : decode prog_14_method_52_code 1 = .ok (.getfield 28, 3) := by decide +kernel
theorem d_md_one_4 : decode prog_14_method_52_code 4 = .ok (.iload_n 1, 1) := by decide +kernel
theorem d_md_one_5 : decode prog_14_method_52_code 5 = .ok (.iaload, 1) := by decide +kernel
theorem d_md_one_6 : decode prog_14_method_52_code 6 = .ok (.istore_n 2, 1) := by decide +kernel
theorem d_md_one_7 : decode prog_14_method_52_code 7 = .ok (.iload_n 2, 1) := by decide +kernel
theorem d_md_one_8 : decode prog_14_method_52_code 8 = .ok (.iconst 1, 1) := by decide +kernel
theorem d_md_one_9 : decode prog_14_method_52_code 9 = .ok (.if_icmp .ne (16), 3) := by decide +kernel
theorem d_md_one_12 : decode prog_14_method_52_code 12 = .ok (.aload_n 0, 1) := by decide +kernel
theorem d_md_one_13 : decode prog_14_method_52_code 13 = .ok (.aload_n 0, 1) := by decide +kernel
theorem d_md_one_14 : decode prog_14_method_52_code 14 = .ok (.getfield 31, 3) := by decide +kernel
theorem d_md_one_17 : decode prog_14_method_52_code 17 = .ok (.iload_n 1, 1) := by decide +kernel
theorem d_md_one_18 : decode prog_14_method_52_code 18 = .ok (.iaload, 1) := by decide +kernel
theorem d_md_one_19 : decode prog_14_method_52_code 19 = .ok (.invokevirtual 386, 3) := by decide +kernel
theorem d_md_one_22 : decode prog_14_method_52_code 22 = .ok (.goto (291), 3) := by decide +kernel
theorem d_md_one_25 : decode prog_14_method_52_code 25 = .ok (.iload_n 2, 1) := by decide +kernel
theorem d_md_one_26 : decode prog_14_method_52_code 26 = .ok (.iconst 2, 1) := by decide +kernel
theorem d_md_one_27 : decode prog_14_method_52_code 27 = .ok (.if_icmp .ne (50), 3) := by decide +kernel
theorem d_md_one_30 : decode prog_14_method_52_code 30 = .ok (.aload_n 0, 1) := by decide +kernel
theorem d_md_one_31 : decode prog_14_method_52_code 31 = .ok (.aload_n 0, 1) := by decide +kernel
theorem d_md_one_32 : decode prog_14_method_52_code 32 = .ok (.getfield 147, 3) := by decide +kernel
theorem d_md_one_35 : decode prog_14_method_52_code 35 = .ok (.bipush 26, 2) := by decide +kernel
theorem d_md_one_37 : decode prog_14_method_52_code 37 = .ok (.aload_n 0, 1) := by decide +kernel
theorem d_md_one_38 : decode prog_14_method_52_code 38 = .ok (.getfield 374, 3) := by decide +kernel
theorem d_md_one_41 : decode prog_14_method_52_code 41 = .ok (.imul, 1) := by decide +kernel
theorem d_md_one_42 : decode prog_14_method_52_code 42 = .ok (.aload_n 0, 1) := by decide +kernel
theorem d_md_one_43 : decode prog_14_method_52_code 43 = .ok (.getfield 31, 3) := by decide +kernel
theorem d_md_one_46 : decode prog_14_method_52_code 46 = .ok (.iload_n 1, 1) := by decide +kernel
theorem d_md_one_47 : decode prog_14_method_52_code 47 = .ok (.iaload, 1) := by decide +kernel
theorem d_md_one_48 : decode prog_14_method_52_code 48 = .ok (.iadd, 1) := by decide +kernel
theorem d_md_one_49 : decode prog_14_method_52_code 49 = .ok (.iaload, 1) := by decide +kernel
theorem d_md_one_50 : decode prog_14_method_52_code 50 = .ok (.invokevirtual 386, 3) := by decide +kernel
theorem d_md_one_53 : decode prog_14_method_52_code 53 = .ok (.aload_n 0, 1) := by decide +kernel
theorem d_md_one_54 : decode prog_14_method_52_code 54 = .ok (.aload_n 0, 1) := by decide +kernel
theorem d_md_one_55 : decode prog_14_method_52_code 55 = .ok (.getfield 34, 3) := by decide +kernel
theorem d_md_one_58 : decode prog_14_method_52_code 58 = .ok (.iload_n 1, 1) := by decide +kernel
theorem d_md_one_59 : decode prog_14_method_52_code 59 = .ok (.iaload, 1) := by decide +kernel
theorem d_md_one_60 : decode prog_14_method_52_code 60 = .ok (.aload_n 0, 1) := by decide +kernel
theorem d_md_one_61 : decode prog_14_method_52_code 61 = .ok (.getfield 122, 3) := by decide +kernel
theorem d_md_one_64 : decode prog_14_method_52_code 64 = .ok (.aload_n 0, 1) := by decide +kernel
theorem d_md_one_65 : decode prog_14_method_52_code 65 = .ok (.getfield 365, 3) := by decide +kernel
theorem d_md_one_68 : decode prog_14_method_52_code 68 = .ok (.iconst 1, 1) := by decide +kernel
theorem d_md_one_69 : decode prog_14_method_52_code 69 = .ok (.isub, 1) := by decide +kernel
theorem d_md_one_70 : decode prog_14_method_52_code 70 = .ok (.iaload, 1) := by decide +kernel
theorem d_md_one_71 : decode prog_14_method_52_code 71 = .ok (.invokevirtual 389, 3) := by decide +kernel
theorem d_md_one_74 : decode prog_14_method_52_code 74 = .ok (.goto (239), 3) := by decide +kernel
theorem d_md_one_77 : decode prog_14_method_52_code 77 = .ok (.iload_n 2, 1) := by decide +kernel
theorem d_md_one_78 : decode prog_14_method_52_code 78 = .ok (.sipush 202, 3) := by decide +kernel
theorem d_md_one_81 : decode prog_14_method_52_code 81 = .ok (.if_icmp .ne (38), 3) := by decide +kernel
theorem d_md_one_84 : decode prog_14_method_52_code 84 = .ok (.aload_n 0, 1) := by decide +kernel
theorem d_md_one_85 : decode prog_14_method_52_code 85 = .ok (.aload_n 0, 1) := by decide +kernel
theorem d_md_one_86 : decode prog_14_method_52_code 86 = .ok (.getfield 125, 3) := by decide +kernel
theorem d_md_one_89 : decode prog_14_method_52_code 89 = .ok (.iload_n 1, 1) := by decide +kernel
theorem d_md_one_90 : decode prog_14_method_52_code 90 = .ok (.iaload, 1) := by decide +kernel
theorem d_md_one_91 : decode prog_14_method_52_code 91 = .ok (.invokevirtual 386, 3) := by decide +kernel
theorem d_md_one_94 : decode prog_14_method_52_code 94 = .ok (.aload_n 0, 1) := by decide +kernel
theorem d_md_one_95 : decode prog_14_method_52_code 95 = .ok (.aload_n 0, 1) := by decide +kernel
theorem d_md_one_96 : decode prog_14_method_52_code 96 = .ok (.getfield 34, 3) := by decide +kernel
theorem d_md_one_99 : decode prog_14_method_52_code 99 = .ok (.iload_n 1, 1) := by decide +kernel
theorem d_md_one_100 : decode prog_14_method_52_code 100 = .ok (.iaload, 1) := by decide +kernel
theorem d_md_one_101 : decode prog_14_method_52_code 101 = .ok (.aload_n 0, 1) := by decide +kernel
theorem d_md_one_102 : decode prog_14_method_52_code 102 = .ok (.getfield 125, 3) := by decide +kernel
theorem d_md_one_105 : decode prog_14_method_52_code 105 = .ok (.iload_n 1, 1) := by decide +kernel
theorem d_md_one_106 : decode prog_14_method_52_code 106 = .ok (.iaload, 1) := by decide +kernel
theorem d_md_one_107 : decode prog_14_method_52_code 107 = .ok (.invokevirtual 389, 3) := by decide +kernel
theorem d_md_one_110 : decode prog_14_method_52_code 110 = .ok (.aload_n 0, 1) := by decide +kernel
theorem d_md_one_111 : decode prog_14_method_52_code 111 = .ok (.getfield 31, 3) := by decide +kernel
theorem d_md_one_114 : decode prog_14_method_52_code 114 = .ok (.iload_n 1, 1) := by decide +kernel
theorem d_md_one_115 : decode prog_14_method_52_code 115 = .ok (.iaload, 1) := by decide +kernel
theorem d_md_one_116 : decode prog_14_method_52_code 116 = .ok (.iconst 1, 1) := by decide +kernel
theorem d_md_one_117 : decode prog_14_method_52_code 117 = .ok (.iadd, 1) := by decide +kernel
theorem d_md_one_118 : decode prog_14_method_52_code 118 = .ok (.ireturn, 1) := by decide +kernel
theorem d_md_one_119 : decode prog_14_method_52_code 119 = .ok (.iload_n 2, 1) := by decide +kernel
theorem d_md_one_120 : decode prog_14_method_52_code 120 = .ok (.sipush 201, 3) := by decide +kernel
theorem d_md_one_123 : decode prog_14_method_52_code 123 = .ok (.if_icmp .ne (43), 3) := by decide +kernel
theorem d_md_one_126 : decode prog_14_method_52_code 126 = .ok (.aload_n 0, 1) := by decide +kernel
theorem d_md_one_127 : decode prog_14_method_52_code 127 = .ok (.dup, 1) := by decide +kernel
theorem d_md_one_128 : decode prog_14_method_52_code 128 = .ok (.getfield 365, 3) := by decide +kernel
theorem d_md_one_131 : decode prog_14_method_52_code 131 = .ok (.iconst 1, 1) := by decide +kernel
theorem d_md_one_132 : decode prog_14_method_52_code 132 = .ok (.isub, 1) := by decide +kernel
theorem d_md_one_133 : decode prog_14_method_52_code 133 = .ok (.putfield 365, 3) := by decide +kernel
theorem d_md_one_136 : decode prog_14_method_52_code 136 = .ok (.aload_n 0, 1) := by decide +kernel
theorem d_md_one_137 : decode prog_14_method_52_code 137 = .ok (.aload_n 0, 1) := by decide +kernel
theorem d_md_one_138 : decode prog_14_method_52_code 138 = .ok (.getfield 31, 3) := by decide +kernel
theorem d_md_one_141 : decode prog_14_method_52_code 141 = .ok (.iload_n 1, 1) := by decide +kernel
theorem d_md_one_142 : decode prog_14_method_52_code 142 = .ok (.iaload, 1) := by decide +kernel
theorem d_md_one_143 : decode prog_14_method_52_code 143 = .ok (.aload_n 0, 1) := by decide +kernel
theorem d_md_one_144 : decode prog_14_method_52_code 144 = .ok (.getfield 122, 3) := by decide +kernel
theorem d_md_one_147 : decode prog_14_method_52_code 147 = .ok (.aload_n 0, 1) := by decide +kernel
theorem d_md_one_148 : decode prog_14_method_52_code 148 = .ok (.getfield 365, 3) := by decide +kernel
theorem d_md_one_151 : decode prog_14_method_52_code 151 = .ok (.iaload, 1) := by decide +kernel
theorem d_md_one_152 : decode prog_14_method_52_code 152 = .ok (.aload_n 0, 1) := by decide +kernel
theorem d_md_one_153 : decode prog_14_method_52_code 153 = .ok (.getfield 34, 3) := by decide +kernel
theorem d_md_one_156 : decode prog_14_method_52_code 156 = .ok (.iload_n 1, 1) := by decide +kernel
theorem d_md_one_157 : decode prog_14_method_52_code 157 = .ok (.iaload, 1) := by decide +kernel
theorem d_md_one_158 : decode prog_14_method_52_code 158 = .ok (.invokevirtual 405, 3) := by decide +kernel
theorem d_md_one_161 : decode prog_14_method_52_code 161 = .ok (.ifCond .ne (152), 3) := by decide +kernel
theorem d_md_one_164 : decode prog_14_method_52_code 164 = .ok (.iconst (-1), 1) := by decide +kernel
theorem d_md_one_165 : decode prog_14_method_52_code 165 = .ok (.ireturn, 1) := by decide +kernel
theorem d_md_one_166 : decode prog_14_method_52_code 166 = .ok (.iload_n 2, 1) := by decide +kernel
theorem d_md_one_167 : decode prog_14_method_52_code 167 = .ok (.sipush 205, 3) := by decide +kernel
theorem d_md_one_170 : decode prog_14_method_52_code 170 = .ok (.if_icmp .ne (9), 3) := by decide +kernel
theorem d_md_one_173 : decode prog_14_method_52_code 173 = .ok (.aload_n 0, 1) := by decide +kernel
theorem d_md_one_174 : decode prog_14_method_52_code 174 = .ok (.iload_n 1, 1) := by decide +kernel
theorem d_md_one_175 : decode prog_14_method_52_code 175 = .ok (.invokevirtual 409, 3) := by decide +kernel
theorem d_md_one_178 : decode prog_14_method_52_code 178 = .ok (.ireturn, 1) := by decide +kernel
theorem d_md_one_179 : decode prog_14_method_52_code 179 = .ok (.iload_n 2, 1) := by decide +kernel
theorem d_md_one_180 : decode prog_14_method_52_code 180 = .ok (.sipush 203, 3) := by decide +kernel
theorem d_md_one_183 : decode prog_14_method_52_code 183 = .ok (.if_icmp .eq (24), 3) := by decide +kernel
theorem d_md_one_186 : decode prog_14_method_52_code 186 = .ok (.iload_n 2, 1) := by decide +kernel
theorem d_md_one_187 : decode prog_14_method_52_code 187 = .ok (.sipush 204, 3) := by decide +kernel
theorem d_md_one_190 : decode prog_14_method_52_code 190 = .ok (.if_icmp .eq (17), 3) := by decide +kernel
theorem d_md_one_193 : decode prog_14_method_52_code 193 = .ok (.iload_n 2, 1) := by decide +kernel
theorem d_md_one_194 : decode prog_14_method_52_code 194 = .ok (.sipush 132, 3) := by decide +kernel
theorem d_md_one_197 : decode prog_14_method_52_code 197 = .ok (.if_icmp .eq (10), 3) := by decide +kernel
theorem d_md_one_200 : decode prog_14_method_52_code 200 = .ok (.iload_n 2, 1) := by decide +kernel
theorem d_md_one_201 : decode prog_14_method_52_code 201 = .ok (.sipush 133, 3) := by decide +kernel
theorem d_md_one_204 : decode prog_14_method_52_code 204 = .ok (.if_icmp .ne (93), 3) := by decide +kernel
theorem d_md_one_207 : decode prog_14_method_52_code 207 = .ok (.aload_n 0, 1) := by decide +kernel
theorem d_md_one_208 : decode prog_14_method_52_code 208 = .ok (.getfield 122, 3) := by decide +kernel
theorem d_md_one_211 : decode prog_14_method_52_code 211 = .ok (.aload_n 0, 1) := by decide +kernel
theorem d_md_one_212 : decode prog_14_method_52_code 212 = .ok (.getfield 365, 3) := by decide +kernel
theorem d_md_one_215 : decode prog_14_method_52_code 215 = .ok (.iconst 1, 1) := by decide +kernel
theorem d_md_one_216 : decode prog_14_method_52_code 216 = .ok (.isub, 1) := by decide +kernel
theorem d_md_one_217 : decode prog_14_method_52_code 217 = .ok (.iaload, 1) := by decide +kernel
theorem d_md_one_218 : decode prog_14_method_52_code 218 = .ok (.istore_n 3, 1) := by decide +kernel
theorem d_md_one_219 : decode prog_14_method_52_code 219 = .ok (.aload_n 0, 1) := by decide +kernel
theorem d_md_one_220 : decode prog_14_method_52_code 220 = .ok (.getfield 122, 3) := by decide +kernel
theorem d_md_one_223 : decode prog_14_method_52_code 223 = .ok (.aload_n 0, 1) := by decide +kernel
theorem d_md_one_224 : decode prog_14_method_52_code 224 = .ok (.getfield 365, 3) := by decide +kernel
theorem d_md_one_227 : decode prog_14_method_52_code 227 = .ok (.iconst 1, 1) := by decide +kernel
theorem d_md_one_228 : decode prog_14_method_52_code 228 = .ok (.isub, 1) := by decide +kernel
theorem d_md_one_229 : decode prog_14_method_52_code 229 = .ok (.iload_n 2, 1) := by decide +kernel
theorem d_md_one_230 : decode prog_14_method_52_code 230 = .ok (.sipush 203, 3) := by decide +kernel
theorem d_md_one_233 : decode prog_14_method_52_code 233 = .ok (.if_icmp .ne (8), 3) := by decide +kernel
theorem d_md_one_236 : decode prog_14_method_52_code 236 = .ok (.iload_n 3, 1) := by decide +kernel
theorem d_md_one_237 : decode prog_14_method_52_code 237 = .ok (.ineg, 1) := by decide +kernel
theorem d_md_one_238 : decode prog_14_method_52_code 238 = .ok (.goto (34), 3) := by decide +kernel
theorem d_md_one_241 : decode prog_14_method_52_code 241 = .ok (.iload_n 2, 1) := by decide +kernel
theorem d_md_one_242 : decode prog_14_method_52_code 242 = .ok (.sipush 204, 3) := by decide +kernel
theorem d_md_one_245 : decode prog_14_method_52_code 245 = .ok (.if_icmp .ne (15), 3) := by decide +kernel
theorem d_md_one_248 : decode prog_14_method_52_code 248 = .ok (.iload_n 3, 1) := by decide +kernel
theorem d_md_one_249 : decode prog_14_method_52_code 249 = .ok (.ifCond .ne (7), 3) := by decide +kernel
theorem d_md_one_252 : decode prog_14_method_52_code 252 = .ok (.iconst 1, 1) := by decide +kernel
theorem d_md_one_253 : decode prog_14_method_52_code 253 = .ok (.goto (16), 3) := by decide +kernel
theorem d_md_one_256 : decode prog_14_method_52_code 256 = .ok (.iconst 0, 1) := by decide +kernel
theorem d_md_one_257 : decode prog_14_method_52_code 257 = .ok (.goto (12), 3) := by decide +kernel
theorem d_md_one_260 : decode prog_14_method_52_code 260 = .ok (.iload_n 3, 1) := by decide +kernel
theorem d_md_one_261 : decode prog_14_method_52_code 261 = .ok (.ifCond .eq (7), 3) := by decide +kernel
theorem d_md_one_264 : decode prog_14_method_52_code 264 = .ok (.iconst 1, 1) := by decide +kernel
theorem d_md_one_265 : decode prog_14_method_52_code 265 = .ok (.goto (4), 3) := by decide +kernel
theorem d_md_one_268 : decode prog_14_method_52_code 268 = .ok (.iconst 0, 1) := by decide +kernel
theorem d_md_one_269 : decode prog_14_method_52_code 269 = .ok (.invokestatic 394, 3) := by decide +kernel
theorem d_md_one_272 : decode prog_14_method_52_code 272 = .ok (.iastore, 1) := by decide +kernel
theorem d_md_one_273 : decode prog_14_method_52_code 273 = .ok (.aload_n 0, 1) := by decide +kernel
theorem d_md_one_274 : decode prog_14_method_52_code 274 = .ok (.aload_n 0, 1) := by decide +kernel
theorem d_md_one_275 : decode prog_14_method_52_code 275 = .ok (.getfield 34, 3) := by decide +kernel
theorem d_md_one_278 : decode prog_14_method_52_code 278 = .ok (.iload_n 1, 1) := by decide +kernel
theorem d_md_one_279 : decode prog_14_method_52_code 279 = .ok (.iaload, 1) := by decide +kernel
theorem d_md_one_280 : decode prog_14_method_52_code 280 = .ok (.aload_n 0, 1) := by decide +kernel
theorem d_md_one_281 : decode prog_14_method_52_code 281 = .ok (.getfield 122, 3) := by decide +kernel
theorem d_md_one_284 : decode prog_14_method_52_code 284 = .ok (.aload_n 0, 1) := by decide +kernel
theorem d_md_one_285 : decode prog_14_method_52_code 285 = .ok (.getfield 365, 3) := by decide +kernel
theorem d_md_one_288 : decode prog_14_method_52_code 288 = .ok (.iconst 1, 1) := by decide +kernel
theorem d_md_one_289 : decode prog_14_method_52_code 289 = .ok (.isub, 1) := by decide +kernel
theorem d_md_one_290 : decode prog_14_method_52_code 290 = .ok (.iaload, 1) := by decide +kernel
theorem d_md_one_291 : decode prog_14_method_52_code 291 = .ok (.invokevirtual 389, 3) := by decide +kernel
theorem d_md_one_294 : decode prog_14_method_52_code 294 = .ok (.goto (19), 3) := by decide +kernel
theorem d_md_one_297 : decode prog_14_method_52_code 297 = .ok (.aload_n 0, 1) := by decide +kernel
theorem d_md_one_298 : decode prog_14_method_52_code 298 = .ok (.iload_n 2, 1) := by decide +kernel
theorem d_md_one_299 : decode prog_14_method_52_code 299 = .ok (.aload_n 0, 1) := by decide +kernel
theorem d_md_one_300 : decode prog_14_method_52_code 300 = .ok (.getfield 34, 3) := by decide +kernel
theorem d_md_one_303 : decode prog_14_method_52_code 303 = .ok (.iload_n 1, 1) := by decide +kernel
theorem d_md_one_304 : decode prog_14_method_52_code 304 = .ok (.iaload, 1) := by decide +kernel
theorem d_md_one_305 : decode prog_14_method_52_code 305 = .ok (.invokevirtual 412, 3) := by decide +kernel
theorem d_md_one_308 : decode prog_14_method_52_code 308 = .ok (.ifCond .ne (5), 3) := by decide +kernel
theorem d_md_one_311 : decode prog_14_method_52_code 311 = .ok (.iconst (-1), 1) := by decide +kernel
theorem d_md_one_312 : decode prog_14_method_52_code 312 = .ok (.ireturn, 1) := by decide +kernel
theorem d_md_one_313 : decode prog_14_method_52_code 313 = .ok (.iload_n 1, 1) := by decide +kernel
theorem d_md_one_314 : decode prog_14_method_52_code 314 = .ok (.iconst 1, 1) := by decide +kernel
theorem d_md_one_315 : decode prog_14_method_52_code 315 = .ok (.iadd, 1) := by decide +kernel
theorem d_md_one_316 : decode prog_14_method_52_code 316 = .ok (.ireturn, 1) := by decide +kernel
theorem d_md_tested_0 : decode prog_14_method_53_code 0 = .ok (.aload_n 0, 1) := by decide +kernel
theorem d_md_tested_1 : decode prog_14_method_53_code 1 = .ok (.getfield 31, 3) := by decide +kernel
theorem d_md_tested_4 : decode prog_14_method_53_code 4 = .ok (.iload_n 1, 1) := by decide +kernel
theorem d_md_tested_5 : decode prog_14_method_53_code 5 = .ok (.iaload, 1) := by decide +kernel
theorem d_md_tested_6 : decode prog_14_method_53_code 6 = .ok (.istore_n 2, 1) := by decide +kernel
theorem d_md_tested_7 : decode prog_14_method_53_code 7 = .ok (.aload_n 0, 1) := by decide +kernel
theorem d_md_tested_8 : decode prog_14_method_53_code 8 = .ok (.getfield 122, 3) := by decide +kernel
theorem d_md_tested_11 : decode prog_14_method_53_code 11 = .ok (.aload_n 0, 1) := by decide +kernel
theorem d_md_tested_12 : decode prog_14_method_53_code 12 = .ok (.getfield 365, 3) := by decide +kernel
theorem d_md_tested_15 : decode prog_14_method_53_code 15 = .ok (.iconst 1, 1) := by decide +kernel
theorem d_md_tested_16 : decode prog_14_method_53_code 16 = .ok (.isub, 1) := by decide +kernel
theorem d_md_tested_17 : decode prog_14_method_53_code 17 = .ok (.iaload, 1) := by decide +kernel
theorem d_md_tested_18 : decode prog_14_method_53_code 18 = .ok (.ifCond .eq (7), 3) := by decide +kernel
theorem d_md_tested_21 : decode prog_14_method_53_code 21 = .ok (.iconst 1, 1) := by decide +kernel
theorem d_md_tested_22 : decode prog_14_method_53_code 22 = .ok (.goto (4), 3) := by decide +kernel
theorem d_md_tested_25 : decode prog_14_method_53_code 25 = .ok (.iconst 0, 1) := by decide +kernel
theorem d_md_tested_26 : decode prog_14_method_53_code 26 = .ok (.istore_n 3, 1) := by decide +kernel
theorem d_md_tested_27 : decode prog_14_method_53_code 27 = .ok (.iload_n 3, 1) := by decide +kernel
theorem d_md_tested_28 : decode prog_14_method_53_code 28 = .ok (.aload_n 0, 1) := by decide +kernel
theorem d_md_tested_29 : decode prog_14_method_53_code 29 = .ok (.getfield 28, 3) := by decide +kernel
theorem d_md_tested_32 : decode prog_14_method_53_code 32 = .ok (.iload_n 2, 1) := by decide +kernel
theorem d_md_tested_33 : decode prog_14_method_53_code 33 = .ok (.iaload, 1) := by decide +kernel
theorem d_md_tested_34 : decode prog_14_method_53_code 34 = .ok (.sipush 132, 3) := by decide +kernel
theorem d_md_tested_37 : decode prog_14_method_53_code 37 = .ok (.if_icmp .ne (7), 3) := by decide +kernel
theorem d_md_tested_40 : decode prog_14_method_53_code 40 = .ok (.iconst 1, 1) := by decide +kernel
theorem d_md_tested_41 : decode prog_14_method_53_code 41 = .ok (.goto (4), 3) := by decide +kernel
theorem d_md_tested_44 : decode prog_14_method_53_code 44 = .ok (.iconst 0, 1) := by decide +kernel
theorem d_md_tested_45 : decode prog_14_method_53_code 45 = .ok (.if_icmp .ne (17), 3) := by decide +kernel
theorem d_md_tested_48 : decode prog_14_method_53_code 48 = .ok (.aload_n 0, 1) := by decide +kernel
theorem d_md_tested_49 : decode prog_14_method_53_code 49 = .ok (.dup, 1) := by decide +kernel
theorem d_md_tested_50 : decode prog_14_method_53_code 50 = .ok (.getfield 365, 3) := by decide +kernel
theorem d_md_tested_53 : decode prog_14_method_53_code 53 = .ok (.iconst 1, 1) := by decide +kernel
theorem d_md_tested_54 : decode prog_14_method_53_code 54 = .ok (.isub, 1) := by decide +kernel
theorem d_md_tested_55 : decode prog_14_method_53_code 55 = .ok (.putfield 365, 3) := by decide +kernel
theorem d_md_tested_58 : decode prog_14_method_53_code 58 = .ok (.iload_n 1, 1) := by decide +kernel
theorem d_md_tested_59 : decode prog_14_method_53_code 59 = .ok (.iconst 1, 1) := by decide +kernel
theorem d_md_tested_60 : decode prog_14_method_53_code 60 = .ok (.iadd, 1) := by decide +kernel
theorem d_md_tested_61 : decode prog_14_method_53_code 61 = .ok (.ireturn, 1) := by decide +kernel
theorem d_md_tested_62 : decode prog_14_method_53_code 62 = .ok (.aload_n 0, 1) := by decide +kernel
theorem d_md_tested_63 : decode prog_14_method_53_code 63 = .ok (.getfield 122, 3) := by decide +kernel
theorem d_md_tested_66 : decode prog_14_method_53_code 66 = .ok (.aload_n 0, 1) := by decide +kernel
theorem d_md_tested_67 : decode prog_14_method_53_code 67 = .ok (.getfield 365, 3) := by decide +kernel
theorem d_md_tested_70 : decode prog_14_method_53_code 70 = .ok (.iconst 1, 1) := by decide +kernel
theorem d_md_tested_71 : decode prog_14_method_53_code 71 = .ok (.isub, 1) := by decide +kernel
theorem d_md_tested_72 : decode prog_14_method_53_code 72 = .ok (.iload_n 3, 1) := by decide +kernel
theorem d_md_tested_73 : decode prog_14_method_53_code 73 = .ok (.invokestatic 394, 3) := by decide +kernel
theorem d_md_tested_76 : decode prog_14_method_53_code 76 = .ok (.iastore, 1) := by decide +kernel
theorem d_md_tested_77 : decode prog_14_method_53_code 77 = .ok (.aload_n 0, 1) := by decide +kernel
theorem d_md_tested_78 : decode prog_14_method_53_code 78 = .ok (.aload_n 0, 1) := by decide +kernel
theorem d_md_tested_79 : decode prog_14_method_53_code 79 = .ok (.getfield 34, 3) := by decide +kernel
theorem d_md_tested_82 : decode prog_14_method_53_code 82 = .ok (.iload_n 1, 1) := by decide +kernel
theorem d_md_tested_83 : decode prog_14_method_53_code 83 = .ok (.iaload, 1) := by decide +kernel
theorem d_md_tested_84 : decode prog_14_method_53_code 84 = .ok (.aload_n 0, 1) := by decide +kernel
theorem d_md_tested_85 : decode prog_14_method_53_code 85 = .ok (.getfield 122, 3) := by decide +kernel
theorem d_md_tested_88 : decode prog_14_method_53_code 88 = .ok (.aload_n 0, 1) := by decide +kernel
theorem d_md_tested_89 : decode prog_14_method_53_code 89 = .ok (.getfield 365, 3) := by decide +kernel
theorem d_md_tested_92 : decode prog_14_method_53_code 92 = .ok (.iconst 1, 1) := by decide +kernel
theorem d_md_tested_93 : decode prog_14_method_53_code 93 = .ok (.isub, 1) := by decide +kernel
theorem d_md_tested_94 : decode prog_14_method_53_code 94 = .ok (.iaload, 1) := by decide +kernel
theorem d_md_tested_95 : decode prog_14_method_53_code 95 = .ok (.invokevirtual 389, 3) := by decide +kernel
theorem d_md_tested_98 : decode prog_14_method_53_code 98 = .ok (.iload_n 2, 1) := by decide +kernel
theorem d_md_tested_99 : decode prog_14_method_53_code 99 = .ok (.iconst 1, 1) := by decide +kernel
theorem d_md_tested_100 : decode prog_14_method_53_code 100 = .ok (.iadd, 1) := by decide +kernel
theorem d_md_tested_101 : decode prog_14_method_53_code 101 = .ok (.ireturn, 1) := by decide +kernel
theorem d_md_fails_0 : decode prog_14_method_54_code 0 = .ok (.aload_n 0, 1) := by decide +kernel
theorem d_md_fails_1 : decode prog_14_method_54_code 1 = .ok (.getfield 137, 3) := by decide +kernel
theorem d_md_fails_4 : decode prog_14_method_54_code 4 = .ok (.aload_n 0, 1) := by decide +kernel
theorem d_md_fails_5 : decode prog_14_method_54_code 5 = .ok (.getfield 374, 3) := by decide +kernel
theorem d_md_fails_8 : decode prog_14_method_54_code 8 = .ok (.iaload, 1) := by decide +kernel
theorem d_md_fails_9 : decode prog_14_method_54_code 9 = .ok (.ifCond .ne (26), 3) := by decide +kernel
theorem d_md_fails_12 : decode prog_14_method_54_code 12 = .ok (.aload_n 0, 1) := by decide +kernel
theorem d_md_fails_13 : decode prog_14_method_54_code 13 = .ok (.getfield 137, 3) := by decide +kernel
theorem d_md_fails_16 : decode prog_14_method_54_code 16 = .ok (.aload_n 0, 1) := by decide +kernel
theorem d_md_fails_17 : decode prog_14_method_54_code 17 = .ok (.getfield 374, 3) := by decide +kernel
theorem d_md_fails_20 : decode prog_14_method_54_code 20 = .ok (.iload_n 1, 1) := by decide +kernel
theorem d_md_fails_21 : decode prog_14_method_54_code 21 = .ok (.iastore, 1) := by decide +kernel
theorem d_md_fails_22 : decode prog_14_method_54_code 22 = .ok (.aload_n 0, 1) := by decide +kernel
theorem d_md_fails_23 : decode prog_14_method_54_code 23 = .ok (.getfield 140, 3) := by decide +kernel
theorem d_md_fails_26 : decode prog_14_method_54_code 26 = .ok (.aload_n 0, 1) := by decide +kernel
theorem d_md_fails_27 : decode prog_14_method_54_code 27 = .ok (.getfield 374, 3) := by decide +kernel
theorem d_md_fails_30 : decode prog_14_method_54_code 30 = .ok (.iload_n 2, 1) := by decide +kernel
theorem d_md_fails_31 : decode prog_14_method_54_code 31 = .ok (.iastore, 1) := by decide +kernel
theorem d_md_fails_32 : decode prog_14_method_54_code 32 = .ok (.goto (13), 3) := by decide +kernel
theorem d_md_fails_35 : decode prog_14_method_54_code 35 = .ok (.aload_n 0, 1) := by decide +kernel
theorem d_md_fails_36 : decode prog_14_method_54_code 36 = .ok (.getfield 143, 3) := by decide +kernel
theorem d_md_fails_39 : decode prog_14_method_54_code 39 = .ok (.aload_n 0, 1) := by decide +kernel
theorem d_md_fails_40 : decode prog_14_method_54_code 40 = .ok (.getfield 374, 3) := by decide +kernel
theorem d_md_fails_43 : decode prog_14_method_54_code 43 = .ok (.iconst 1, 1) := by decide +kernel
theorem d_md_fails_44 : decode prog_14_method_54_code 44 = .ok (.bastore, 1) := by decide +kernel
theorem d_md_fails_45 : decode prog_14_method_54_code 45 = .ok (.return_, 1) := by decide +kernel
theorem d_md_does_0 : decode prog_14_method_55_code 0 = .ok (.aload_n 0, 1) := by decide +kernel
theorem d_md_does_1 : decode prog_14_method_55_code 1 = .ok (.aload_n 0, 1) := by decide +kernel
theorem d_md_does_2 : decode prog_14_method_55_code 2 = .ok (.getfield 46, 3) := by decide +kernel
theorem d_md_does_5 : decode prog_14_method_55_code 5 = .ok (.iload_n 1, 1) := by decide +kernel
theorem d_md_does_6 : decode prog_14_method_55_code 6 = .ok (.iaload, 1) := by decide +kernel
theorem d_md_does_7 : decode prog_14_method_55_code 7 = .ok (.aload_n 0, 1) := by decide +kernel
theorem d_md_does_8 : decode prog_14_method_55_code 8 = .ok (.getfield 49, 3) := by decide +kernel
theorem d_md_does_11 : decode prog_14_method_55_code 11 = .ok (.iload_n 1, 1) := by decide +kernel
theorem d_md_does_12 : decode prog_14_method_55_code 12 = .ok (.iaload, 1) := by decide +kernel
theorem d_md_does_13 : decode prog_14_method_55_code 13 = .ok (.invokevirtual 415, 3) := by decide +kernel
theorem d_md_does_16 : decode prog_14_method_55_code 16 = .ok (.ifCond .ne (5), 3) := by decide +kernel
theorem d_md_does_19 : decode prog_14_method_55_code 19 = .ok (.iconst 0, 1) := by decide +kernel
theorem d_md_does_20 : decode prog_14_method_55_code 20 = .ok (.ireturn, 1) := by decide +kernel
theorem d_md_does_21 : decode prog_14_method_55_code 21 = .ok (.aload_n 0, 1) := by decide +kernel
theorem d_md_does_22 : decode prog_14_method_55_code 22 = .ok (.getfield 43, 3) := by decide +kernel
theorem d_md_does_25 : decode prog_14_method_55_code 25 = .ok (.iload_n 1, 1) := by decide +kernel
theorem d_md_does_26 : decode prog_14_method_55_code 26 = .ok (.iaload, 1) := by decide +kernel
theorem d_md_does_27 : decode prog_14_method_55_code 27 = .ok (.ifCond .lt (28), 3) := by decide +kernel
theorem d_md_does_30 : decode prog_14_method_55_code 30 = .ok (.aload_n 0, 1) := by decide +kernel
theorem d_md_does_31 : decode prog_14_method_55_code 31 = .ok (.getfield 147, 3) := by decide +kernel
theorem d_md_does_34 : decode prog_14_method_55_code 34 = .ok (.bipush 26, 2) := by decide +kernel
theorem d_md_does_36 : decode prog_14_method_55_code 36 = .ok (.aload_n 0, 1) := by decide +kernel
theorem d_md_does_37 : decode prog_14_method_55_code 37 = .ok (.getfield 374, 3) := by decide +kernel
theorem d_md_does_40 : decode prog_14_method_55_code 40 = .ok (.imul, 1) := by decide +kernel
theorem d_md_does_41 : decode prog_14_method_55_code 41 = .ok (.aload_n 0, 1) := by decide +kernel
theorem d_md_does_42 : decode prog_14_method_55_code 42 = .ok (.getfield 43, 3) := by decide +kernel
theorem d_md_does_45 : decode prog_14_method_55_code 45 = .ok (.iload_n 1, 1) := by decide +kernel
theorem d_md_does_46 : decode prog_14_method_55_code 46 = .ok (.iaload, 1) := by decide +kernel
theorem d_md_does_47 : decode prog_14_method_55_code 47 = .ok (.iadd, 1) := by decide +kernel
theorem d_md_does_48 : decode prog_14_method_55_code 48 = .ok (.aload_n 0, 1) := by decide +kernel
theorem d_md_does_49 : decode prog_14_method_55_code 49 = .ok (.getfield 122, 3) := by decide +kernel
theorem d_md_does_52 : decode prog_14_method_55_code 52 = .ok (.iconst 0, 1) := by decide +kernel
theorem d_md_does_53 : decode prog_14_method_55_code 53 = .ok (.iaload, 1) := by decide +kernel
theorem d_md_does_54 : decode prog_14_method_55_code 54 = .ok (.iastore, 1) := by decide +kernel
theorem d_md_does_55 : decode prog_14_method_55_code 55 = .ok (.iconst 1, 1) := by decide +kernel
theorem d_md_does_56 : decode prog_14_method_55_code 56 = .ok (.ireturn, 1) := by decide +kernel
theorem d_md_steps_0 : decode prog_14_method_56_code 0 = .ok (.iconst 1, 1) := by decide +kernel
theorem d_md_steps_1 : decode prog_14_method_56_code 1 = .ok (.istore_n 3, 1) := by decide +kernel
theorem d_md_steps_2 : decode prog_14_method_56_code 2 = .ok (.bipush 100, 2) := by decide +kernel
theorem d_md_steps_4 : decode prog_14_method_56_code 4 = .ok (.aload_n 0, 1) := by decide +kernel
theorem d_md_steps_5 : decode prog_14_method_56_code 5 = .ok (.getfield 347, 3) := by decide +kernel
theorem d_md_steps_8 : decode prog_14_method_56_code 8 = .ok (.imul, 1) := by decide +kernel
theorem d_md_steps_9 : decode prog_14_method_56_code 9 = .ok (.istore 4, 2) := by decide +kernel
theorem d_md_steps_11 : decode prog_14_method_56_code 11 = .ok (.iload 4, 2) := by decide +kernel
theorem d_md_steps_13 : decode prog_14_method_56_code 13 = .ok (.aload_n 0, 1) := by decide +kernel
theorem d_md_steps_14 : decode prog_14_method_56_code 14 = .ok (.getfield 85, 3) := by decide +kernel
theorem d_md_steps_17 : decode prog_14_method_56_code 17 = .ok (.aload_n 0, 1) := by decide +kernel
theorem d_md_steps_18 : decode prog_14_method_56_code 18 = .ok (.getfield 347, 3) := by decide +kernel
theorem d_md_steps_21 : decode prog_14_method_56_code 21 = .ok (.iaload, 1) := by decide +kernel
theorem d_md_steps_22 : decode prog_14_method_56_code 22 = .ok (.if_icmp .ge (69), 3) := by decide +kernel
theorem d_md_steps_25 : decode prog_14_method_56_code 25 = .ok (.iload_n 3, 1) := by decide +kernel
theorem d_md_steps_26 : decode prog_14_method_56_code 26 = .ok (.ifCond .eq (65), 3) := by decide +kernel
theorem d_md_steps_29 : decode prog_14_method_56_code 29 = .ok (.aload_n 0, 1) := by decide +kernel
theorem d_md_steps_30 : decode prog_14_method_56_code 30 = .ok (.getfield 37, 3) := by decide +kernel
theorem d_md_steps_33 : decode prog_14_method_56_code 33 = .ok (.iload 4, 2) := by decide +kernel
theorem d_md_steps_35 : decode prog_14_method_56_code 35 = .ok (.iaload, 1) := by decide +kernel
theorem d_md_steps_36 : decode prog_14_method_56_code 36 = .ok (.iload_n 1, 1) := by decide +kernel
theorem d_md_steps_37 : decode prog_14_method_56_code 37 = .ok (.if_icmp .ne (48), 3) := by decide +kernel
theorem d_md_steps_40 : decode prog_14_method_56_code 40 = .ok (.aload_n 0, 1) := by decide +kernel
theorem d_md_steps_41 : decode prog_14_method_56_code 41 = .ok (.getfield 40, 3) := by decide +kernel
theorem d_md_steps_44 : decode prog_14_method_56_code 44 = .ok (.iload 4, 2) := by decide +kernel
theorem d_md_steps_46 : decode prog_14_method_56_code 46 = .ok (.iaload, 1) := by decide +kernel
theorem d_md_steps_47 : decode prog_14_method_56_code 47 = .ok (.iload_n 2, 1) := by decide +kernel
theorem d_md_steps_48 : decode prog_14_method_56_code 48 = .ok (.if_icmp .eq (14), 3) := by decide +kernel
theorem d_md_steps_51 : decode prog_14_method_56_code 51 = .ok (.iload_n 1, 1) := by decide +kernel
theorem d_md_steps_52 : decode prog_14_method_56_code 52 = .ok (.iconst 1, 1) := by decide +kernel
theorem d_md_steps_53 : decode prog_14_method_56_code 53 = .ok (.if_icmp .eq (9), 3) := by decide +kernel
theorem d_md_steps_56 : decode prog_14_method_56_code 56 = .ok (.iload_n 1, 1) := by decide +kernel
theorem d_md_steps_57 : decode prog_14_method_56_code 57 = .ok (.bipush 8, 2) := by decide +kernel
theorem d_md_steps_59 : decode prog_14_method_56_code 59 = .ok (.if_icmp .ne (26), 3) := by decide +kernel
theorem d_md_steps_62 : decode prog_14_method_56_code 62 = .ok (.aload_n 0, 1) := by decide +kernel
theorem d_md_steps_63 : decode prog_14_method_56_code 63 = .ok (.iload 4, 2) := by decide +kernel
theorem d_md_steps_65 : decode prog_14_method_56_code 65 = .ok (.invokevirtual 418, 3) := by decide +kernel
theorem d_md_steps_68 : decode prog_14_method_56_code 68 = .ok (.istore_n 3, 1) := by decide +kernel
theorem d_md_steps_69 : decode prog_14_method_56_code 69 = .ok (.iload_n 3, 1) := by decide +kernel
theorem d_md_steps_70 : decode prog_14_method_56_code 70 = .ok (.ifCond .ne (15), 3) := by decide +kernel
theorem d_md_steps_73 : decode prog_14_method_56_code 73 = .ok (.aload_n 0, 1) := by decide +kernel
theorem d_md_steps_74 : decode prog_14_method_56_code 74 = .ok (.aload_n 0, 1) := by decide +kernel
theorem d_md_steps_75 : decode prog_14_method_56_code 75 = .ok (.getfield 368, 3) := by decide +kernel
theorem d_md_steps_78 : decode prog_14_method_56_code 78 = .ok (.aload_n 0, 1) := by decide +kernel
theorem d_md_steps_79 : decode prog_14_method_56_code 79 = .ok (.getfield 371, 3) := by decide +kernel
theorem d_md_steps_82 : decode prog_14_method_56_code 82 = .ok (.invokevirtual 421, 3) := by decide +kernel
theorem d_md_steps_85 : decode prog_14_method_56_code 85 = .ok (.iinc 4 (1), 3) := by decide +kernel
theorem d_md_steps_88 : decode prog_14_method_56_code 88 = .ok (.goto (-77), 3) := by decide +kernel
theorem d_md_steps_91 : decode prog_14_method_56_code 91 = .ok (.return_, 1) := by decide +kernel
theorem d_md_truly_0 : decode prog_14_method_57_code 0 = .ok (.aload_n 0, 1) := by decide +kernel
theorem d_md_truly_1 : decode prog_14_method_57_code 1 = .ok (.aload_n 0, 1) := by decide +kernel
theorem d_md_truly_2 : decode prog_14_method_57_code 2 = .ok (.getfield 46, 3) := by decide +kernel
theorem d_md_truly_5 : decode prog_14_method_57_code 5 = .ok (.iload_n 1, 1) := by decide +kernel
theorem d_md_truly_6 : decode prog_14_method_57_code 6 = .ok (.iaload, 1) := by decide +kernel
theorem d_md_truly_7 : decode prog_14_method_57_code 7 = .ok (.aload_n 0, 1) := by decide +kernel
theorem d_md_truly_8 : decode prog_14_method_57_code 8 = .ok (.getfield 49, 3) := by decide +kernel
theorem d_md_truly_11 : decode prog_14_method_57_code 11 = .ok (.iload_n 1, 1) := by decide +kernel
theorem d_md_truly_12 : decode prog_14_method_57_code 12 = .ok (.iaload, 1) := by decide +kernel
theorem d_md_truly_13 : decode prog_14_method_57_code 13 = .ok (.invokevirtual 415, 3) := by decide +kernel
theorem d_md_truly_16 : decode prog_14_method_57_code 16 = .ok (.ifCond .ne (18), 3) := by decide +kernel
theorem d_md_truly_19 : decode prog_14_method_57_code 19 = .ok (.aload_n 0, 1) := by decide +kernel
theorem d_md_truly_20 : decode prog_14_method_57_code 20 = .ok (.aload_n 0, 1) := by decide +kernel
theorem d_md_truly_21 : decode prog_14_method_57_code 21 = .ok (.getfield 368, 3) := by decide +kernel
theorem d_md_truly_24 : decode prog_14_method_57_code 24 = .ok (.aload_n 0, 1) := by decide +kernel
theorem d_md_truly_25 : decode prog_14_method_57_code 25 = .ok (.getfield 371, 3) := by decide +kernel
theorem d_md_truly_28 : decode prog_14_method_57_code 28 = .ok (.invokevirtual 421, 3) := by decide +kernel
theorem d_md_truly_31 : decode prog_14_method_57_code 31 = .ok (.goto (28), 3) := by decide +kernel
theorem d_md_truly_34 : decode prog_14_method_57_code 34 = .ok (.aload_n 0, 1) := by decide +kernel
theorem d_md_truly_35 : decode prog_14_method_57_code 35 = .ok (.getfield 122, 3) := by decide +kernel
theorem d_md_truly_38 : decode prog_14_method_57_code 38 = .ok (.iconst 0, 1) := by decide +kernel
theorem d_md_truly_39 : decode prog_14_method_57_code 39 = .ok (.iaload, 1) := by decide +kernel
theorem d_md_truly_40 : decode prog_14_method_57_code 40 = .ok (.ifCond .ne (19), 3) := by decide +kernel
theorem d_md_truly_43 : decode prog_14_method_57_code 43 = .ok (.aload_n 0, 1) := by decide +kernel
theorem d_md_truly_44 : decode prog_14_method_57_code 44 = .ok (.iconst 1, 1) := by decide +kernel
theorem d_md_truly_45 : decode prog_14_method_57_code 45 = .ok (.aload_n 0, 1) := by decide +kernel
theorem d_md_truly_46 : decode prog_14_method_57_code 46 = .ok (.getfield 52, 3) := by decide +kernel
theorem d_md_truly_49 : decode prog_14_method_57_code 49 = .ok (.iload_n 1, 1) := by decide +kernel
theorem d_md_truly_50 : decode prog_14_method_57_code 50 = .ok (.iaload, 1) := by decide +kernel
theorem d_md_truly_51 : decode prog_14_method_57_code 51 = .ok (.invokevirtual 421, 3) := by decide +kernel
theorem d_md_truly_54 : decode prog_14_method_57_code 54 = .ok (.aload_n 0, 1) := by decide +kernel
theorem d_md_truly_55 : decode prog_14_method_57_code 55 = .ok (.iload_n 1, 1) := by decide +kernel
theorem d_md_truly_56 : decode prog_14_method_57_code 56 = .ok (.invokevirtual 424, 3) := by decide +kernel
theorem d_md_truly_59 : decode prog_14_method_57_code 59 = .ok (.return_, 1) := by decide +kernel
theorem d_md_keep_0 : decode prog_14_method_58_code 0 = .ok (.aload_n 0, 1) := by decide +kernel
theorem d_md_keep_1 : decode prog_14_method_58_code 1 = .ok (.getfield 153, 3) := by decide +kernel
theorem d_md_keep_4 : decode prog_14_method_58_code 4 = .ok (.aload_n 0, 1) := by decide +kernel
theorem d_md_keep_5 : decode prog_14_method_58_code 5 = .ok (.getfield 374, 3) := by decide +kernel
theorem d_md_keep_8 : decode prog_14_method_58_code 8 = .ok (.aload_n 0, 1) := by decide +kernel
theorem d_md_keep_9 : decode prog_14_method_58_code 9 = .ok (.getfield 362, 3) := by decide +kernel
theorem d_md_keep_12 : decode prog_14_method_58_code 12 = .ok (.iastore, 1) := by decide +kernel
theorem d_md_keep_13 : decode prog_14_method_58_code 13 = .ok (.aload_n 0, 1) := by decide +kernel
theorem d_md_keep_14 : decode prog_14_method_58_code 14 = .ok (.getfield 162, 3) := by decide +kernel
theorem d_md_keep_17 : decode prog_14_method_58_code 17 = .ok (.aload_n 0, 1) := by decide +kernel
theorem d_md_keep_18 : decode prog_14_method_58_code 18 = .ok (.getfield 374, 3) := by decide +kernel
theorem d_md_keep_21 : decode prog_14_method_58_code 21 = .ok (.aload_n 0, 1) := by decide +kernel
theorem d_md_keep_22 : decode prog_14_method_58_code 22 = .ok (.getfield 52, 3) := by decide +kernel
theorem d_md_keep_25 : decode prog_14_method_58_code 25 = .ok (.iload_n 1, 1) := by decide +kernel
theorem d_md_keep_26 : decode prog_14_method_58_code 26 = .ok (.iaload, 1) := by decide +kernel
theorem d_md_keep_27 : decode prog_14_method_58_code 27 = .ok (.iastore, 1) := by decide +kernel
theorem d_md_keep_28 : decode prog_14_method_58_code 28 = .ok (.aload_n 0, 1) := by decide +kernel
theorem d_md_keep_29 : decode prog_14_method_58_code 29 = .ok (.getfield 165, 3) := by decide +kernel
theorem d_md_keep_32 : decode prog_14_method_58_code 32 = .ok (.aload_n 0, 1) := by decide +kernel
theorem d_md_keep_33 : decode prog_14_method_58_code 33 = .ok (.getfield 374, 3) := by decide +kernel
theorem d_md_keep_36 : decode prog_14_method_58_code 36 = .ok (.aload_n 0, 1) := by decide +kernel
theorem d_md_keep_37 : decode prog_14_method_58_code 37 = .ok (.getfield 55, 3) := by decide +kernel
theorem d_md_keep_40 : decode prog_14_method_58_code 40 = .ok (.iload_n 1, 1) := by decide +kernel
theorem d_md_keep_41 : decode prog_14_method_58_code 41 = .ok (.iaload, 1) := by decide +kernel
theorem d_md_keep_42 : decode prog_14_method_58_code 42 = .ok (.iastore, 1) := by decide +kernel
theorem d_md_keep_43 : decode prog_14_method_58_code 43 = .ok (.iconst 0, 1) := by decide +kernel
theorem d_md_keep_44 : decode prog_14_method_58_code 44 = .ok (.istore_n 2, 1) := by decide +kernel
theorem d_md_keep_45 : decode prog_14_method_58_code 45 = .ok (.iload_n 2, 1) := by decide +kernel
theorem d_md_keep_46 : decode prog_14_method_58_code 46 = .ok (.aload_n 0, 1) := by decide +kernel
theorem d_md_keep_47 : decode prog_14_method_58_code 47 = .ok (.getfield 362, 3) := by decide +kernel
theorem d_md_keep_50 : decode prog_14_method_58_code 50 = .ok (.if_icmp .ge (100), 3) := by decide +kernel
theorem d_md_keep_53 : decode prog_14_method_58_code 53 = .ok (.iconst 0, 1) := by decide +kernel
theorem d_md_keep_54 : decode prog_14_method_58_code 54 = .ok (.istore_n 3, 1) := by decide +kernel
theorem d_md_keep_55 : decode prog_14_method_58_code 55 = .ok (.iconst 0, 1) := by decide +kernel
theorem d_md_keep_56 : decode prog_14_method_58_code 56 = .ok (.istore 4, 2) := by decide +kernel
theorem d_md_keep_58 : decode prog_14_method_58_code 58 = .ok (.iload 4, 2) := by decide +kernel
theorem d_md_keep_60 : decode prog_14_method_58_code 60 = .ok (.aload_n 0, 1) := by decide +kernel
theorem d_md_keep_61 : decode prog_14_method_58_code 61 = .ok (.getfield 362, 3) := by decide +kernel
theorem d_md_keep_64 : decode prog_14_method_58_code 64 = .ok (.if_icmp .ge (33), 3) := by decide +kernel
theorem d_md_keep_67 : decode prog_14_method_58_code 67 = .ok (.aload_n 0, 1) := by decide +kernel
theorem d_md_keep_68 : decode prog_14_method_58_code 68 = .ok (.getfield 128, 3) := by decide +kernel
theorem d_md_keep_71 : decode prog_14_method_58_code 71 = .ok (.iload 4, 2) := by decide +kernel
theorem d_md_keep_73 : decode prog_14_method_58_code 73 = .ok (.iaload, 1) := by decide +kernel
theorem d_md_keep_74 : decode prog_14_method_58_code 74 = .ok (.aload_n 0, 1) := by decide +kernel
theorem d_md_keep_75 : decode prog_14_method_58_code 75 = .ok (.getfield 128, 3) := by decide +kernel
theorem d_md_keep_78 : decode prog_14_method_58_code 78 = .ok (.iload_n 2, 1) := by decide +kernel
theorem d_md_keep_79 : decode prog_14_method_58_code 79 = .ok (.iaload, 1) := by decide +kernel
theorem d_md_keep_80 : decode prog_14_method_58_code 80 = .ok (.if_icmp .ge (9), 3) := by decide +kernel
theorem d_md_keep_83 : decode prog_14_method_58_code 83 = .ok (.iload_n 3, 1) := by decide +kernel
theorem d_md_keep_84 : decode prog_14_method_58_code 84 = .ok (.iconst 1, 1) := by decide +kernel
theorem d_md_keep_85 : decode prog_14_method_58_code 85 = .ok (.iadd, 1) := by decide +kernel
theorem d_md_keep_86 : decode prog_14_method_58_code 86 = .ok (.goto (4), 3) := by decide +kernel
theorem d_md_keep_89 : decode prog_14_method_58_code 89 = .ok (.iload_n 3, 1) := by decide +kernel
theorem d_md_keep_90 : decode prog_14_method_58_code 90 = .ok (.istore_n 3, 1) := by decide +kernel
theorem d_md_keep_91 : decode prog_14_method_58_code 91 = .ok (.iinc 4 (1), 3) := by decide +kernel
theorem d_md_keep_94 : decode prog_14_method_58_code 94 = .ok (.goto (-36), 3) := by decide +kernel
theorem d_md_keep_97 : decode prog_14_method_58_code 97 = .ok (.aload_n 0, 1) := by decide +kernel
theorem d_md_keep_98 : decode prog_14_method_58_code 98 = .ok (.getfield 156, 3) := by decide +kernel
theorem d_md_keep_101 : decode prog_14_method_58_code 101 = .ok (.bipush 120, 2) := by decide +kernel
theorem d_md_keep_103 : decode prog_14_method_58_code 103 = .ok (.aload_n 0, 1) := by decide +kernel
theorem d_md_keep_104 : decode prog_14_method_58_code 104 = .ok (.getfield 374, 3) := by decide +kernel
theorem d_md_keep_107 : decode prog_14_method_58_code 107 = .ok (.imul, 1) := by decide +kernel
theorem d_md_keep_108 : decode prog_14_method_58_code 108 = .ok (.iload_n 3, 1) := by decide +kernel
theorem d_md_keep_109 : decode prog_14_method_58_code 109 = .ok (.iadd, 1) := by decide +kernel
theorem d_md_keep_110 : decode prog_14_method_58_code 110 = .ok (.aload_n 0, 1) := by decide +kernel
theorem d_md_keep_111 : decode prog_14_method_58_code 111 = .ok (.getfield 128, 3) := by decide +kernel
theorem d_md_keep_114 : decode prog_14_method_58_code 114 = .ok (.iload_n 2, 1) := by decide +kernel
theorem d_md_keep_115 : decode prog_14_method_58_code 115 = .ok (.iaload, 1) := by decide +kernel
theorem d_md_keep_116 : decode prog_14_method_58_code 116 = .ok (.aload_n 0, 1) := by decide +kernel
theorem d_md_keep_117 : decode prog_14_method_58_code 117 = .ok (.getfield 52, 3) := by decide +kernel
theorem d_md_keep_120 : decode prog_14_method_58_code 120 = .ok (.iload_n 1, 1) := by decide +kernel
theorem d_md_keep_121 : decode prog_14_method_58_code 121 = .ok (.iaload, 1) := by decide +kernel
theorem d_md_keep_122 : decode prog_14_method_58_code 122 = .ok (.isub, 1) := by decide +kernel
theorem d_md_keep_123 : decode prog_14_method_58_code 123 = .ok (.iastore, 1) := by decide +kernel
theorem d_md_keep_124 : decode prog_14_method_58_code 124 = .ok (.aload_n 0, 1) := by decide +kernel
theorem d_md_keep_125 : decode prog_14_method_58_code 125 = .ok (.getfield 159, 3) := by decide +kernel
theorem d_md_keep_128 : decode prog_14_method_58_code 128 = .ok (.bipush 120, 2) := by decide +kernel
theorem d_md_keep_130 : decode prog_14_method_58_code 130 = .ok (.aload_n 0, 1) := by decide +kernel
theorem d_md_keep_131 : decode prog_14_method_58_code 131 = .ok (.getfield 374, 3) := by decide +kernel
theorem d_md_keep_134 : decode prog_14_method_58_code 134 = .ok (.imul, 1) := by decide +kernel
theorem d_md_keep_135 : decode prog_14_method_58_code 135 = .ok (.iload_n 3, 1) := by decide +kernel
theorem d_md_keep_136 : decode prog_14_method_58_code 136 = .ok (.iadd, 1) := by decide +kernel
theorem d_md_keep_137 : decode prog_14_method_58_code 137 = .ok (.aload_n 0, 1) := by decide +kernel
theorem d_md_keep_138 : decode prog_14_method_58_code 138 = .ok (.getfield 131, 3) := by decide +kernel
theorem d_md_keep_141 : decode prog_14_method_58_code 141 = .ok (.iload_n 2, 1) := by decide +kernel
theorem d_md_keep_142 : decode prog_14_method_58_code 142 = .ok (.iaload, 1) := by decide +kernel
theorem d_md_keep_143 : decode prog_14_method_58_code 143 = .ok (.iastore, 1) := by decide +kernel
theorem d_md_keep_144 : decode prog_14_method_58_code 144 = .ok (.iinc 2 (1), 3) := by decide +kernel
theorem d_md_keep_147 : decode prog_14_method_58_code 147 = .ok (.goto (-102), 3) := by decide +kernel
theorem d_md_keep_150 : decode prog_14_method_58_code 150 = .ok (.return_, 1) := by decide +kernel
theorem d_md_befores_0 : decode prog_14_method_59_code 0 = .ok (.bipush 100, 2) := by decide +kernel
theorem d_md_befores_2 : decode prog_14_method_59_code 2 = .ok (.aload_n 0, 1) := by decide +kernel
theorem d_md_befores_3 : decode prog_14_method_59_code 3 = .ok (.getfield 347, 3) := by decide +kernel
theorem d_md_befores_6 : decode prog_14_method_59_code 6 = .ok (.imul, 1) := by decide +kernel
theorem d_md_befores_7 : decode prog_14_method_59_code 7 = .ok (.istore_n 2, 1) := by decide +kernel
theorem d_md_befores_8 : decode prog_14_method_59_code 8 = .ok (.iload_n 2, 1) := by decide +kernel
theorem d_md_befores_9 : decode prog_14_method_59_code 9 = .ok (.aload_n 0, 1) := by decide +kernel
theorem d_md_befores_10 : decode prog_14_method_59_code 10 = .ok (.getfield 85, 3) := by decide +kernel
theorem d_md_befores_13 : decode prog_14_method_59_code 13 = .ok (.aload_n 0, 1) := by decide +kernel
theorem d_md_befores_14 : decode prog_14_method_59_code 14 = .ok (.getfield 347, 3) := by decide +kernel
theorem d_md_befores_17 : decode prog_14_method_59_code 17 = .ok (.iaload, 1) := by decide +kernel
theorem d_md_befores_18 : decode prog_14_method_59_code 18 = .ok (.if_icmp .ge (94), 3) := by decide +kernel
theorem d_md_befores_21 : decode prog_14_method_59_code 21 = .ok (.aload_n 0, 1) := by decide +kernel
theorem d_md_befores_22 : decode prog_14_method_59_code 22 = .ok (.getfield 46, 3) := by decide +kernel
theorem d_md_befores_25 : decode prog_14_method_59_code 25 = .ok (.iload_n 2, 1) := by decide +kernel
theorem d_md_befores_26 : decode prog_14_method_59_code 26 = .ok (.iaload, 1) := by decide +kernel
theorem d_md_befores_27 : decode prog_14_method_59_code 27 = .ok (.istore_n 3, 1) := by decide +kernel
theorem d_md_befores_28 : decode prog_14_method_59_code 28 = .ok (.iload_n 3, 1) := by decide +kernel
theorem d_md_befores_29 : decode prog_14_method_59_code 29 = .ok (.aload_n 0, 1) := by decide +kernel
theorem d_md_befores_30 : decode prog_14_method_59_code 30 = .ok (.getfield 49, 3) := by decide +kernel
theorem d_md_befores_33 : decode prog_14_method_59_code 33 = .ok (.iload_n 2, 1) := by decide +kernel
theorem d_md_befores_34 : decode prog_14_method_59_code 34 = .ok (.iaload, 1) := by decide +kernel
theorem d_md_befores_35 : decode prog_14_method_59_code 35 = .ok (.if_icmp .ge (71), 3) := by decide +kernel
theorem d_md_befores_38 : decode prog_14_method_59_code 38 = .ok (.aload_n 0, 1) := by decide +kernel
theorem d_md_befores_39 : decode prog_14_method_59_code 39 = .ok (.getfield 37, 3) := by decide +kernel
theorem d_md_befores_42 : decode prog_14_method_59_code 42 = .ok (.iload_n 2, 1) := by decide +kernel
theorem d_md_befores_43 : decode prog_14_method_59_code 43 = .ok (.iaload, 1) := by decide +kernel
theorem d_md_befores_44 : decode prog_14_method_59_code 44 = .ok (.iconst 4, 1) := by decide +kernel
theorem d_md_befores_45 : decode prog_14_method_59_code 45 = .ok (.if_icmp .ne (61), 3) := by decide +kernel
theorem d_md_befores_48 : decode prog_14_method_59_code 48 = .ok (.aload_n 0, 1) := by decide +kernel
theorem d_md_befores_49 : decode prog_14_method_59_code 49 = .ok (.getfield 40, 3) := by decide +kernel
theorem d_md_befores_52 : decode prog_14_method_59_code 52 = .ok (.iload_n 2, 1) := by decide +kernel
theorem d_md_befores_53 : decode prog_14_method_59_code 53 = .ok (.iaload, 1) := by decide +kernel
theorem d_md_befores_54 : decode prog_14_method_59_code 54 = .ok (.iload_n 1, 1) := by decide +kernel
theorem d_md_befores_55 : decode prog_14_method_59_code 55 = .ok (.if_icmp .ne (51), 3) := by decide +kernel
theorem d_md_befores_58 : decode prog_14_method_59_code 58 = .ok (.aload_n 0, 1) := by decide +kernel
theorem d_md_befores_59 : decode prog_14_method_59_code 59 = .ok (.getfield 28, 3) := by decide +kernel
theorem d_md_befores_62 : decode prog_14_method_59_code 62 = .ok (.iload_n 3, 1) := by decide +kernel
theorem d_md_befores_63 : decode prog_14_method_59_code 63 = .ok (.iaload, 1) := by decide +kernel
theorem d_md_befores_64 : decode prog_14_method_59_code 64 = .ok (.sipush 202, 3) := by decide +kernel
theorem d_md_befores_67 : decode prog_14_method_59_code 67 = .ok (.if_icmp .ne (33), 3) := by decide +kernel
theorem d_md_befores_70 : decode prog_14_method_59_code 70 = .ok (.aload_n 0, 1) := by decide +kernel
theorem d_md_befores_71 : decode prog_14_method_59_code 71 = .ok (.iload_n 3, 1) := by decide +kernel
theorem d_md_befores_72 : decode prog_14_method_59_code 72 = .ok (.iconst 1, 1) := by decide +kernel
theorem d_md_befores_73 : decode prog_14_method_59_code 73 = .ok (.iadd, 1) := by decide +kernel
theorem d_md_befores_74 : decode prog_14_method_59_code 74 = .ok (.aload_n 0, 1) := by decide +kernel
theorem d_md_befores_75 : decode prog_14_method_59_code 75 = .ok (.getfield 31, 3) := by decide +kernel
theorem d_md_befores_78 : decode prog_14_method_59_code 78 = .ok (.iload_n 3, 1) := by decide +kernel
theorem d_md_befores_79 : decode prog_14_method_59_code 79 = .ok (.iaload, 1) := by decide +kernel
theorem d_md_befores_80 : decode prog_14_method_59_code 80 = .ok (.invokevirtual 415, 3) := by decide +kernel
theorem d_md_befores_83 : decode prog_14_method_59_code 83 = .ok (.ifCond .ne (5), 3) := by decide +kernel
theorem d_md_befores_86 : decode prog_14_method_59_code 86 = .ok (.iconst 0, 1) := by decide +kernel
theorem d_md_befores_87 : decode prog_14_method_59_code 87 = .ok (.ireturn, 1) := by decide +kernel
theorem d_md_befores_88 : decode prog_14_method_59_code 88 = .ok (.aload_n 0, 1) := by decide +kernel
theorem d_md_befores_89 : decode prog_14_method_59_code 89 = .ok (.getfield 125, 3) := by decide +kernel
theorem d_md_befores_92 : decode prog_14_method_59_code 92 = .ok (.iload_n 3, 1) := by decide +kernel
theorem d_md_befores_93 : decode prog_14_method_59_code 93 = .ok (.aload_n 0, 1) := by decide +kernel
theorem d_md_befores_94 : decode prog_14_method_59_code 94 = .ok (.getfield 122, 3) := by decide +kernel
theorem d_md_befores_97 : decode prog_14_method_59_code 97 = .ok (.iconst 0, 1) := by decide +kernel
theorem d_md_befores_98 : decode prog_14_method_59_code 98 = .ok (.iaload, 1) := by decide +kernel
theorem d_md_befores_99 : decode prog_14_method_59_code 99 = .ok (.iastore, 1) := by decide +kernel
theorem d_md_befores_100 : decode prog_14_method_59_code 100 = .ok (.iinc 3 (1), 3) := by decide +kernel
theorem d_md_befores_103 : decode prog_14_method_59_code 103 = .ok (.goto (-75), 3) := by decide +kernel
theorem d_md_befores_106 : decode prog_14_method_59_code 106 = .ok (.iinc 2 (1), 3) := by decide +kernel
theorem d_md_befores_109 : decode prog_14_method_59_code 109 = .ok (.goto (-101), 3) := by decide +kernel
theorem d_md_befores_112 : decode prog_14_method_59_code 112 = .ok (.iconst 1, 1) := by decide +kernel
theorem d_md_befores_113 : decode prog_14_method_59_code 113 = .ok (.ireturn, 1) := by decide +kernel
theorem d_md_firstItem_0 : decode prog_14_method_60_code 0 = .ok (.iconst (-1), 1) := by decide +kernel
theorem d_md_firstItem_1 : decode prog_14_method_60_code 1 = .ok (.istore_n 3, 1) := by decide +kernel
theorem d_md_firstItem_2 : decode prog_14_method_60_code 2 = .ok (.aload_n 0, 1) := by decide +kernel
theorem d_md_firstItem_3 : decode prog_14_method_60_code 3 = .ok (.getfield 85, 3) := by decide +kernel
theorem d_md_firstItem_6 : decode prog_14_method_60_code 6 = .ok (.aload_n 0, 1) := by decide +kernel
theorem d_md_firstItem_7 : decode prog_14_method_60_code 7 = .ok (.getfield 347, 3) := by decide +kernel
theorem d_md_firstItem_10 : decode prog_14_method_60_code 10 = .ok (.iaload, 1) := by decide +kernel
theorem d_md_firstItem_11 : decode prog_14_method_60_code 11 = .ok (.iconst 1, 1) := by decide +kernel
theorem d_md_firstItem_12 : decode prog_14_method_60_code 12 = .ok (.isub, 1) := by decide +kernel
theorem d_md_firstItem_13 : decode prog_14_method_60_code 13 = .ok (.istore 4, 2) := by decide +kernel
theorem d_md_firstItem_15 : decode prog_14_method_60_code 15 = .ok (.iload 4, 2) := by decide +kernel
theorem d_md_firstItem_17 : decode prog_14_method_60_code 17 = .ok (.bipush 100, 2) := by decide +kernel
theorem d_md_firstItem_19 : decode prog_14_method_60_code 19 = .ok (.aload_n 0, 1) := by decide +kernel
theorem d_md_firstItem_20 : decode prog_14_method_60_code 20 = .ok (.getfield 347, 3) := by decide +kernel
theorem d_md_firstItem_23 : decode prog_14_method_60_code 23 = .ok (.imul, 1) := by decide +kernel
theorem d_md_firstItem_24 : decode prog_14_method_60_code 24 = .ok (.if_icmp .lt (38), 3) := by decide +kernel
theorem d_md_firstItem_27 : decode prog_14_method_60_code 27 = .ok (.aload_n 0, 1) := by decide +kernel
theorem d_md_firstItem_28 : decode prog_14_method_60_code 28 = .ok (.getfield 37, 3) := by decide +kernel
theorem d_md_firstItem_31 : decode prog_14_method_60_code 31 = .ok (.iload 4, 2) := by decide +kernel
theorem d_md_firstItem_33 : decode prog_14_method_60_code 33 = .ok (.iaload, 1) := by decide +kernel
theorem d_md_firstItem_34 : decode prog_14_method_60_code 34 = .ok (.iload_n 1, 1) := by decide +kernel
theorem d_md_firstItem_35 : decode prog_14_method_60_code 35 = .ok (.if_icmp .ne (19), 3) := by decide +kernel
theorem d_md_firstItem_38 : decode prog_14_method_60_code 38 = .ok (.aload_n 0, 1) := by decide +kernel
theorem d_md_firstItem_39 : decode prog_14_method_60_code 39 = .ok (.getfield 40, 3) := by decide +kernel
theorem d_md_firstItem_42 : decode prog_14_method_60_code 42 = .ok (.iload 4, 2) := by decide +kernel
theorem d_md_firstItem_44 : decode prog_14_method_60_code 44 = .ok (.iaload, 1) := by decide +kernel
theorem d_md_firstItem_45 : decode prog_14_method_60_code 45 = .ok (.iload_n 2, 1) := by decide +kernel
theorem d_md_firstItem_46 : decode prog_14_method_60_code 46 = .ok (.if_icmp .ne (8), 3) := by decide +kernel
theorem d_md_firstItem_49 : decode prog_14_method_60_code 49 = .ok (.iload 4, 2) := by decide +kernel
theorem d_md_firstItem_51 : decode prog_14_method_60_code 51 = .ok (.goto (4), 3) := by decide +kernel
theorem d_md_firstItem_54 : decode prog_14_method_60_code 54 = .ok (.iload_n 3, 1) := by decide +kernel
theorem d_md_firstItem_55 : decode prog_14_method_60_code 55 = .ok (.istore_n 3, 1) := by decide +kernel
theorem d_md_firstItem_56 : decode prog_14_method_60_code 56 = .ok (.iinc 4 (-1), 3) := by decide +kernel
theorem d_md_firstItem_59 : decode prog_14_method_60_code 59 = .ok (.goto (-44), 3) := by decide +kernel
theorem d_md_firstItem_62 : decode prog_14_method_60_code 62 = .ok (.iload_n 3, 1) := by decide +kernel
theorem d_md_firstItem_63 : decode prog_14_method_60_code 63 = .ok (.ireturn, 1) := by decide +kernel
theorem d_md_acted_0 : decode prog_14_method_61_code 0 = .ok (.iconst 0, 1) := by decide +kernel
theorem d_md_acted_1 : decode prog_14_method_61_code 1 = .ok (.istore_n 2, 1) := by decide +kernel
theorem d_md_acted_2 : decode prog_14_method_61_code 2 = .ok (.aload_n 0, 1) := by decide +kernel
theorem d_md_acted_3 : decode prog_14_method_61_code 3 = .ok (.iconst 1, 1) := by decide +kernel
theorem d_md_acted_4 : decode prog_14_method_61_code 4 = .ok (.putfield 383, 3) := by decide +kernel
theorem d_md_acted_7 : decode prog_14_method_61_code 7 = .ok (.aload_n 0, 1) := by decide +kernel
theorem d_md_acted_8 : decode prog_14_method_61_code 8 = .ok (.bipush 100, 2) := by decide +kernel
theorem d_md_acted_10 : decode prog_14_method_61_code 10 = .ok (.aload_n 0, 1) := by decide +kernel
theorem d_md_acted_11 : decode prog_14_method_61_code 11 = .ok (.getfield 347, 3) := by decide +kernel
theorem d_md_acted_14 : decode prog_14_method_61_code 14 = .ok (.imul, 1) := by decide +kernel
theorem d_md_acted_15 : decode prog_14_method_61_code 15 = .ok (.putfield 377, 3) := by decide +kernel
theorem d_md_acted_18 : decode prog_14_method_61_code 18 = .ok (.aload_n 0, 1) := by decide +kernel
theorem d_md_acted_19 : decode prog_14_method_61_code 19 = .ok (.aload_n 0, 1) := by decide +kernel
theorem d_md_acted_20 : decode prog_14_method_61_code 20 = .ok (.getfield 85, 3) := by decide +kernel
theorem d_md_acted_23 : decode prog_14_method_61_code 23 = .ok (.aload_n 0, 1) := by decide +kernel
theorem d_md_acted_24 : decode prog_14_method_61_code 24 = .ok (.getfield 347, 3) := by decide +kernel
theorem d_md_acted_27 : decode prog_14_method_61_code 27 = .ok (.iaload, 1) := by decide +kernel
theorem d_md_acted_28 : decode prog_14_method_61_code 28 = .ok (.putfield 380, 3) := by decide +kernel
theorem d_md_acted_31 : decode prog_14_method_61_code 31 = .ok (.aload_n 0, 1) := by decide +kernel
theorem d_md_acted_32 : decode prog_14_method_61_code 32 = .ok (.getfield 377, 3) := by decide +kernel
theorem d_md_acted_35 : decode prog_14_method_61_code 35 = .ok (.istore_n 3, 1) := by decide +kernel
theorem d_md_acted_36 : decode prog_14_method_61_code 36 = .ok (.iload_n 3, 1) := by decide +kernel
theorem d_md_acted_37 : decode prog_14_method_61_code 37 = .ok (.aload_n 0, 1) := by decide +kernel
theorem d_md_acted_38 : decode prog_14_method_61_code 38 = .ok (.getfield 380, 3) := by decide +kernel
theorem d_md_acted_41 : decode prog_14_method_61_code 41 = .ok (.if_icmp .ge (41), 3) := by decide +kernel
theorem d_md_acted_44 : decode prog_14_method_61_code 44 = .ok (.aload_n 0, 1) := by decide +kernel
theorem d_md_acted_45 : decode prog_14_method_61_code 45 = .ok (.getfield 79, 3) := by decide +kernel
theorem d_md_acted_48 : decode prog_14_method_61_code 48 = .ok (.iload_n 3, 1) := by decide +kernel
theorem d_md_acted_49 : decode prog_14_method_61_code 49 = .ok (.iconst 0, 1) := by decide +kernel
theorem d_md_acted_50 : decode prog_14_method_61_code 50 = .ok (.iastore, 1) := by decide +kernel
theorem d_md_acted_51 : decode prog_14_method_61_code 51 = .ok (.aload_n 0, 1) := by decide +kernel
theorem d_md_acted_52 : decode prog_14_method_61_code 52 = .ok (.getfield 37, 3) := by decide +kernel
theorem d_md_acted_55 : decode prog_14_method_61_code 55 = .ok (.iload_n 3, 1) := by decide +kernel
theorem d_md_acted_56 : decode prog_14_method_61_code 56 = .ok (.iaload, 1) := by decide +kernel
theorem d_md_acted_57 : decode prog_14_method_61_code 57 = .ok (.iconst 3, 1) := by decide +kernel
theorem d_md_acted_58 : decode prog_14_method_61_code 58 = .ok (.if_icmp .ne (18), 3) := by decide +kernel
theorem d_md_acted_61 : decode prog_14_method_61_code 61 = .ok (.aload_n 0, 1) := by decide +kernel
theorem d_md_acted_62 : decode prog_14_method_61_code 62 = .ok (.getfield 40, 3) := by decide +kernel
theorem d_md_acted_65 : decode prog_14_method_61_code 65 = .ok (.iload_n 3, 1) := by decide +kernel
theorem d_md_acted_66 : decode prog_14_method_61_code 66 = .ok (.iaload, 1) := by decide +kernel
theorem d_md_acted_67 : decode prog_14_method_61_code 67 = .ok (.iload_n 1, 1) := by decide +kernel
theorem d_md_acted_68 : decode prog_14_method_61_code 68 = .ok (.if_icmp .ne (8), 3) := by decide +kernel
theorem d_md_acted_71 : decode prog_14_method_61_code 71 = .ok (.aload_n 0, 1) := by decide +kernel
theorem d_md_acted_72 : decode prog_14_method_61_code 72 = .ok (.iload_n 3, 1) := by decide +kernel
theorem d_md_acted_73 : decode prog_14_method_61_code 73 = .ok (.putfield 377, 3) := by decide +kernel
theorem d_md_acted_76 : decode prog_14_method_61_code 76 = .ok (.iinc 3 (1), 3) := by decide +kernel
theorem d_md_acted_79 : decode prog_14_method_61_code 79 = .ok (.goto (-43), 3) := by decide +kernel
theorem d_md_acted_82 : decode prog_14_method_61_code 82 = .ok (.aload_n 0, 1) := by decide +kernel
theorem d_md_acted_83 : decode prog_14_method_61_code 83 = .ok (.aload_n 0, 1) := by decide +kernel
theorem d_md_acted_84 : decode prog_14_method_61_code 84 = .ok (.getfield 377, 3) := by decide +kernel
theorem d_md_acted_87 : decode prog_14_method_61_code 87 = .ok (.putfield 380, 3) := by decide +kernel
theorem d_md_acted_90 : decode prog_14_method_61_code 90 = .ok (.aload_n 0, 1) := by decide +kernel
theorem d_md_acted_91 : decode prog_14_method_61_code 91 = .ok (.getfield 380, 3) := by decide +kernel
theorem d_md_acted_94 : decode prog_14_method_61_code 94 = .ok (.aload_n 0, 1) := by decide +kernel
theorem d_md_acted_95 : decode prog_14_method_61_code 95 = .ok (.getfield 85, 3) := by decide +kernel
theorem d_md_acted_98 : decode prog_14_method_61_code 98 = .ok (.aload_n 0, 1) := by decide +kernel
theorem d_md_acted_99 : decode prog_14_method_61_code 99 = .ok (.getfield 347, 3) := by decide +kernel
theorem d_md_acted_102 : decode prog_14_method_61_code 102 = .ok (.iaload, 1) := by decide +kernel
theorem d_md_acted_103 : decode prog_14_method_61_code 103 = .ok (.if_icmp .ge (57), 3) := by decide +kernel
theorem d_md_acted_106 : decode prog_14_method_61_code 106 = .ok (.aload_n 0, 1) := by decide +kernel
theorem d_md_acted_107 : decode prog_14_method_61_code 107 = .ok (.getfield 40, 3) := by decide +kernel
theorem d_md_acted_110 : decode prog_14_method_61_code 110 = .ok (.aload_n 0, 1) := by decide +kernel
theorem d_md_acted_111 : decode prog_14_method_61_code 111 = .ok (.getfield 380, 3) := by decide +kernel
theorem d_md_acted_114 : decode prog_14_method_61_code 114 = .ok (.iaload, 1) := by decide +kernel
theorem d_md_acted_115 : decode prog_14_method_61_code 115 = .ok (.iload_n 1, 1) := by decide +kernel
theorem d_md_acted_116 : decode prog_14_method_61_code 116 = .ok (.if_icmp .ne (44), 3) := by decide +kernel
theorem d_md_acted_119 : decode prog_14_method_61_code 119 = .ok (.aload_n 0, 1) := by decide +kernel
theorem d_md_acted_120 : decode prog_14_method_61_code 120 = .ok (.getfield 37, 3) := by decide +kernel
theorem d_md_acted_123 : decode prog_14_method_61_code 123 = .ok (.aload_n 0, 1) := by decide +kernel
theorem d_md_acted_124 : decode prog_14_method_61_code 124 = .ok (.getfield 380, 3) := by decide +kernel
theorem d_md_acted_127 : decode prog_14_method_61_code 127 = .ok (.iaload, 1) := by decide +kernel
theorem d_md_acted_128 : decode prog_14_method_61_code 128 = .ok (.bipush 8, 2) := by decide +kernel
theorem d_md_acted_130 : decode prog_14_method_61_code 130 = .ok (.if_icmp .eq (30), 3) := by decide +kernel
theorem d_md_acted_133 : decode prog_14_method_61_code 133 = .ok (.aload_n 0, 1) := by decide +kernel
theorem d_md_acted_134 : decode prog_14_method_61_code 134 = .ok (.getfield 37, 3) := by decide +kernel
theorem d_md_acted_137 : decode prog_14_method_61_code 137 = .ok (.aload_n 0, 1) := by decide +kernel
theorem d_md_acted_138 : decode prog_14_method_61_code 138 = .ok (.getfield 380, 3) := by decide +kernel
theorem d_md_acted_141 : decode prog_14_method_61_code 141 = .ok (.iaload, 1) := by decide +kernel
theorem d_md_acted_142 : decode prog_14_method_61_code 142 = .ok (.bipush 9, 2) := by decide +kernel
theorem d_md_acted_144 : decode prog_14_method_61_code 144 = .ok (.if_icmp .eq (16), 3) := by decide +kernel
theorem d_md_acted_147 : decode prog_14_method_61_code 147 = .ok (.aload_n 0, 1) := by decide +kernel
theorem d_md_acted_148 : decode prog_14_method_61_code 148 = .ok (.dup, 1) := by decide +kernel
theorem d_md_acted_149 : decode prog_14_method_61_code 149 = .ok (.getfield 380, 3) := by decide +kernel
theorem d_md_acted_152 : decode prog_14_method_61_code 152 = .ok (.iconst 1, 1) := by decide +kernel
theorem d_md_acted_153 : decode prog_14_method_61_code 153 = .ok (.iadd, 1) := by decide +kernel
theorem d_md_acted_154 : decode prog_14_method_61_code 154 = .ok (.putfield 380, 3) := by decide +kernel
theorem d_md_acted_157 : decode prog_14_method_61_code 157 = .ok (.goto (-67), 3) := by decide +kernel
theorem d_md_acted_160 : decode prog_14_method_61_code 160 = .ok (.bipush 100, 2) := by decide +kernel
theorem d_md_acted_162 : decode prog_14_method_61_code 162 = .ok (.aload_n 0, 1) := by decide +kernel
theorem d_md_acted_163 : decode prog_14_method_61_code 163 = .ok (.getfield 347, 3) := by decide +kernel
theorem d_md_acted_166 : decode prog_14_method_61_code 166 = .ok (.imul, 1) := by decide +kernel
theorem d_md_acted_167 : decode prog_14_method_61_code 167 = .ok (.istore_n 3, 1) := by decide +kernel
theorem d_md_acted_168 : decode prog_14_method_61_code 168 = .ok (.iload_n 3, 1) := by decide +kernel
theorem d_md_acted_169 : decode prog_14_method_61_code 169 = .ok (.aload_n 0, 1) := by decide +kernel
theorem d_md_acted_170 : decode prog_14_method_61_code 170 = .ok (.getfield 85, 3) := by decide +kernel
theorem d_md_acted_173 : decode prog_14_method_61_code 173 = .ok (.aload_n 0, 1) := by decide +kernel
theorem d_md_acted_174 : decode prog_14_method_61_code 174 = .ok (.getfield 347, 3) := by decide +kernel
theorem d_md_acted_177 : decode prog_14_method_61_code 177 = .ok (.iaload, 1) := by decide +kernel
theorem d_md_acted_178 : decode prog_14_method_61_code 178 = .ok (.if_icmp .ge (46), 3) := by decide +kernel
theorem d_md_acted_181 : decode prog_14_method_61_code 181 = .ok (.iload_n 2, 1) := by decide +kernel
theorem d_md_acted_182 : decode prog_14_method_61_code 182 = .ok (.ifCond .ne (42), 3) := by decide +kernel
theorem d_md_acted_185 : decode prog_14_method_61_code 185 = .ok (.aload_n 0, 1) := by decide +kernel
theorem d_md_acted_186 : decode prog_14_method_61_code 186 = .ok (.getfield 37, 3) := by decide +kernel
theorem d_md_acted_189 : decode prog_14_method_61_code 189 = .ok (.iload_n 3, 1) := by decide +kernel
theorem d_md_acted_190 : decode prog_14_method_61_code 190 = .ok (.iaload, 1) := by decide +kernel
theorem d_md_acted_191 : decode prog_14_method_61_code 191 = .ok (.iconst 3, 1) := by decide +kernel
theorem d_md_acted_192 : decode prog_14_method_61_code 192 = .ok (.if_icmp .ne (26), 3) := by decide +kernel
theorem d_md_acted_195 : decode prog_14_method_61_code 195 = .ok (.aload_n 0, 1) := by decide +kernel
theorem d_md_acted_196 : decode prog_14_method_61_code 196 = .ok (.getfield 40, 3) := by decide +kernel
theorem d_md_acted_199 : decode prog_14_method_61_code 199 = .ok (.iload_n 3, 1) := by decide +kernel
theorem d_md_acted_200 : decode prog_14_method_61_code 200 = .ok (.iaload, 1) := by decide +kernel
theorem d_md_acted_201 : decode prog_14_method_61_code 201 = .ok (.iload_n 1, 1) := by decide +kernel
theorem d_md_acted_202 : decode prog_14_method_61_code 202 = .ok (.if_icmp .ne (16), 3) := by decide +kernel
theorem d_md_acted_205 : decode prog_14_method_61_code 205 = .ok (.aload_n 0, 1) := by decide +kernel
theorem d_md_acted_206 : decode prog_14_method_61_code 206 = .ok (.iload_n 3, 1) := by decide +kernel
theorem d_md_acted_207 : decode prog_14_method_61_code 207 = .ok (.invokevirtual 418, 3) := by decide +kernel
theorem d_md_acted_210 : decode prog_14_method_61_code 210 = .ok (.ifCond .ne (8), 3) := by decide +kernel
theorem d_md_acted_213 : decode prog_14_method_61_code 213 = .ok (.aload_n 0, 1) := by decide +kernel
theorem d_md_acted_214 : decode prog_14_method_61_code 214 = .ok (.getfield 368, 3) := by decide +kernel
theorem d_md_acted_217 : decode prog_14_method_61_code 217 = .ok (.istore_n 2, 1) := by decide +kernel
theorem d_md_acted_218 : decode prog_14_method_61_code 218 = .ok (.iinc 3 (1), 3) := by decide +kernel
theorem d_md_acted_221 : decode prog_14_method_61_code 221 = .ok (.goto (-53), 3) := by decide +kernel
theorem d_md_acted_224 : decode prog_14_method_61_code 224 = .ok (.aload_n 0, 1) := by decide +kernel
theorem d_md_acted_225 : decode prog_14_method_61_code 225 = .ok (.iconst 0, 1) := by decide +kernel
theorem d_md_acted_226 : decode prog_14_method_61_code 226 = .ok (.putfield 383, 3) := by decide +kernel
theorem d_md_acted_229 : decode prog_14_method_61_code 229 = .ok (.iload_n 2, 1) := by decide +kernel
theorem d_md_acted_230 : decode prog_14_method_61_code 230 = .ok (.ireturn, 1) := by decide +kernel
theorem d_md_whenThen_0 : decode prog_14_method_62_code 0 = .ok (.aload_n 0, 1) := by decide +kernel
theorem d_md_whenThen_1 : decode prog_14_method_62_code 1 = .ok (.iload_n 1, 1) := by decide +kernel
theorem d_md_whenThen_2 : decode prog_14_method_62_code 2 = .ok (.invokevirtual 427, 3) := by decide +kernel
theorem d_md_whenThen_5 : decode prog_14_method_62_code 5 = .ok (.ifCond .ne (16), 3) := by decide +kernel
theorem d_md_whenThen_8 : decode prog_14_method_62_code 8 = .ok (.aload_n 0, 1) := by decide +kernel
theorem d_md_whenThen_9 : decode prog_14_method_62_code 9 = .ok (.aload_n 0, 1) := by decide +kernel
theorem d_md_whenThen_10 : decode prog_14_method_62_code 10 = .ok (.getfield 368, 3) := by decide +kernel
theorem d_md_whenThen_13 : decode prog_14_method_62_code 13 = .ok (.aload_n 0, 1) := by decide +kernel
theorem d_md_whenThen_14 : decode prog_14_method_62_code 14 = .ok (.getfield 371, 3) := by decide +kernel
theorem d_md_whenThen_17 : decode prog_14_method_62_code 17 = .ok (.invokevirtual 421, 3) := by decide +kernel
theorem d_md_whenThen_20 : decode prog_14_method_62_code 20 = .ok (.return_, 1) := by decide +kernel
theorem d_md_whenThen_21 : decode prog_14_method_62_code 21 = .ok (.aload_n 0, 1) := by decide +kernel
theorem d_md_whenThen_22 : decode prog_14_method_62_code 22 = .ok (.iload_n 1, 1) := by decide +kernel
theorem d_md_whenThen_23 : decode prog_14_method_62_code 23 = .ok (.invokevirtual 430, 3) := by decide +kernel
theorem d_md_whenThen_26 : decode prog_14_method_62_code 26 = .ok (.istore_n 2, 1) := by decide +kernel
theorem d_md_whenThen_27 : decode prog_14_method_62_code 27 = .ok (.iload_n 2, 1) := by decide +kernel
theorem d_md_whenThen_28 : decode prog_14_method_62_code 28 = .ok (.iconst 2, 1) := by decide +kernel
theorem d_md_whenThen_29 : decode prog_14_method_62_code 29 = .ok (.if_icmp .eq (17), 3) := by decide +kernel
theorem d_md_whenThen_32 : decode prog_14_method_62_code 32 = .ok (.iload_n 2, 1) := by decide +kernel
theorem d_md_whenThen_33 : decode prog_14_method_62_code 33 = .ok (.iconst 3, 1) := by decide +kernel
theorem d_md_whenThen_34 : decode prog_14_method_62_code 34 = .ok (.if_icmp .ne (22), 3) := by decide +kernel
theorem d_md_whenThen_37 : decode prog_14_method_62_code 37 = .ok (.aload_n 0, 1) := by decide +kernel
theorem d_md_whenThen_38 : decode prog_14_method_62_code 38 = .ok (.iconst 5, 1) := by decide +kernel
theorem d_md_whenThen_39 : decode prog_14_method_62_code 39 = .ok (.iload_n 1, 1) := by decide +kernel
theorem d_md_whenThen_40 : decode prog_14_method_62_code 40 = .ok (.invokevirtual 433, 3) := by decide +kernel
theorem d_md_whenThen_43 : decode prog_14_method_62_code 43 = .ok (.ifCond .ge (13), 3) := by decide +kernel
theorem d_md_whenThen_46 : decode prog_14_method_62_code 46 = .ok (.aload_n 0, 1) := by decide +kernel
theorem d_md_whenThen_47 : decode prog_14_method_62_code 47 = .ok (.iload_n 2, 1) := by decide +kernel
theorem d_md_whenThen_48 : decode prog_14_method_62_code 48 = .ok (.aload_n 0, 1) := by decide +kernel
theorem d_md_whenThen_49 : decode prog_14_method_62_code 49 = .ok (.getfield 371, 3) := by decide +kernel
theorem d_md_whenThen_52 : decode prog_14_method_62_code 52 = .ok (.invokevirtual 421, 3) := by decide +kernel
theorem d_md_whenThen_55 : decode prog_14_method_62_code 55 = .ok (.return_, 1) := by decide +kernel
theorem d_md_whenThen_56 : decode prog_14_method_62_code 56 = .ok (.aload_n 0, 1) := by decide +kernel
theorem d_md_whenThen_57 : decode prog_14_method_62_code 57 = .ok (.getfield 380, 3) := by decide +kernel
theorem d_md_whenThen_60 : decode prog_14_method_62_code 60 = .ok (.istore_n 3, 1) := by decide +kernel
theorem d_md_whenThen_61 : decode prog_14_method_62_code 61 = .ok (.aload_n 0, 1) := by decide +kernel
theorem d_md_whenThen_62 : decode prog_14_method_62_code 62 = .ok (.getfield 377, 3) := by decide +kernel
theorem d_md_whenThen_65 : decode prog_14_method_62_code 65 = .ok (.istore 4, 2) := by decide +kernel
theorem d_md_whenThen_67 : decode prog_14_method_62_code 67 = .ok (.iload 4, 2) := by decide +kernel
theorem d_md_whenThen_69 : decode prog_14_method_62_code 69 = .ok (.iload_n 3, 1) := by decide +kernel
theorem d_md_whenThen_70 : decode prog_14_method_62_code 70 = .ok (.if_icmp .ge (82), 3) := by decide +kernel
theorem d_md_whenThen_73 : decode prog_14_method_62_code 73 = .ok (.aload_n 0, 1) := by decide +kernel
theorem d_md_whenThen_74 : decode prog_14_method_62_code 74 = .ok (.getfield 137, 3) := by decide +kernel
theorem d_md_whenThen_77 : decode prog_14_method_62_code 77 = .ok (.aload_n 0, 1) := by decide +kernel
theorem d_md_whenThen_78 : decode prog_14_method_62_code 78 = .ok (.getfield 374, 3) := by decide +kernel
theorem d_md_whenThen_81 : decode prog_14_method_62_code 81 = .ok (.iaload, 1) := by decide +kernel
theorem d_md_whenThen_82 : decode prog_14_method_62_code 82 = .ok (.ifCond .ne (70), 3) := by decide +kernel
theorem d_md_whenThen_85 : decode prog_14_method_62_code 85 = .ok (.aload_n 0, 1) := by decide +kernel
theorem d_md_whenThen_86 : decode prog_14_method_62_code 86 = .ok (.getfield 37, 3) := by decide +kernel
theorem d_md_whenThen_89 : decode prog_14_method_62_code 89 = .ok (.iload 4, 2) := by decide +kernel
theorem d_md_whenThen_91 : decode prog_14_method_62_code 91 = .ok (.iaload, 1) := by decide +kernel
theorem d_md_whenThen_92 : decode prog_14_method_62_code 92 = .ok (.iconst 5, 1) := by decide +kernel
theorem d_md_whenThen_93 : decode prog_14_method_62_code 93 = .ok (.if_icmp .ne (7), 3) := by decide +kernel
theorem d_md_whenThen_96 : decode prog_14_method_62_code 96 = .ok (.iload_n 2, 1) := by decide +kernel
theorem d_md_whenThen_97 : decode prog_14_method_62_code 97 = .ok (.ifCond .eq (20), 3) := by decide +kernel
theorem d_md_whenThen_100 : decode prog_14_method_62_code 100 = .ok (.aload_n 0, 1) := by decide +kernel
theorem d_md_whenThen_101 : decode prog_14_method_62_code 101 = .ok (.getfield 37, 3) := by decide +kernel
theorem d_md_whenThen_104 : decode prog_14_method_62_code 104 = .ok (.iload 4, 2) := by decide +kernel
theorem d_md_whenThen_106 : decode prog_14_method_62_code 106 = .ok (.iaload, 1) := by decide +kernel
theorem d_md_whenThen_107 : decode prog_14_method_62_code 107 = .ok (.bipush 6, 2) := by decide +kernel
theorem d_md_whenThen_109 : decode prog_14_method_62_code 109 = .ok (.if_icmp .ne (20), 3) := by decide +kernel
theorem d_md_whenThen_112 : decode prog_14_method_62_code 112 = .ok (.iload_n 2, 1) := by decide +kernel
theorem d_md_whenThen_113 : decode prog_14_method_62_code 113 = .ok (.iconst 3, 1) := by decide +kernel
theorem d_md_whenThen_114 : decode prog_14_method_62_code 114 = .ok (.if_icmp .ne (15), 3) := by decide +kernel
theorem d_md_whenThen_117 : decode prog_14_method_62_code 117 = .ok (.aload_n 0, 1) := by decide +kernel
theorem d_md_whenThen_118 : decode prog_14_method_62_code 118 = .ok (.iconst 1, 1) := by decide +kernel
theorem d_md_whenThen_119 : decode prog_14_method_62_code 119 = .ok (.aload_n 0, 1) := by decide +kernel
theorem d_md_whenThen_120 : decode prog_14_method_62_code 120 = .ok (.getfield 52, 3) := by decide +kernel
theorem d_md_whenThen_123 : decode prog_14_method_62_code 123 = .ok (.iload 4, 2) := by decide +kernel
theorem d_md_whenThen_125 : decode prog_14_method_62_code 125 = .ok (.iaload, 1) := by decide +kernel
theorem d_md_whenThen_126 : decode prog_14_method_62_code 126 = .ok (.invokevirtual 421, 3) := by decide +kernel
theorem d_md_whenThen_129 : decode prog_14_method_62_code 129 = .ok (.aload_n 0, 1) := by decide +kernel
theorem d_md_whenThen_130 : decode prog_14_method_62_code 130 = .ok (.getfield 37, 3) := by decide +kernel
theorem d_md_whenThen_133 : decode prog_14_method_62_code 133 = .ok (.iload 4, 2) := by decide +kernel
theorem d_md_whenThen_135 : decode prog_14_method_62_code 135 = .ok (.iaload, 1) := by decide +kernel
theorem d_md_whenThen_136 : decode prog_14_method_62_code 136 = .ok (.iconst 4, 1) := by decide +kernel
theorem d_md_whenThen_137 : decode prog_14_method_62_code 137 = .ok (.if_icmp .ne (9), 3) := by decide +kernel
theorem d_md_whenThen_140 : decode prog_14_method_62_code 140 = .ok (.aload_n 0, 1) := by decide +kernel
theorem d_md_whenThen_141 : decode prog_14_method_62_code 141 = .ok (.iload 4, 2) := by decide +kernel
theorem d_md_whenThen_143 : decode prog_14_method_62_code 143 = .ok (.invokevirtual 436, 3) := by decide +kernel
theorem d_md_whenThen_146 : decode prog_14_method_62_code 146 = .ok (.iinc 4 (1), 3) := by decide +kernel
theorem d_md_whenThen_149 : decode prog_14_method_62_code 149 = .ok (.goto (-82), 3) := by decide +kernel
theorem d_md_whenThen_152 : decode prog_14_method_62_code 152 = .ok (.aload_n 0, 1) := by decide +kernel
theorem d_md_whenThen_153 : decode prog_14_method_62_code 153 = .ok (.getfield 377, 3) := by decide +kernel
theorem d_md_whenThen_156 : decode prog_14_method_62_code 156 = .ok (.istore 4, 2) := by decide +kernel
theorem d_md_whenThen_158 : decode prog_14_method_62_code 158 = .ok (.iload 4, 2) := by decide +kernel
theorem d_md_whenThen_160 : decode prog_14_method_62_code 160 = .ok (.iload_n 3, 1) := by decide +kernel
theorem d_md_whenThen_161 : decode prog_14_method_62_code 161 = .ok (.if_icmp .ge (62), 3) := by decide +kernel
theorem d_md_whenThen_164 : decode prog_14_method_62_code 164 = .ok (.aload_n 0, 1) := by decide +kernel
theorem d_md_whenThen_165 : decode prog_14_method_62_code 165 = .ok (.getfield 137, 3) := by decide +kernel
theorem d_md_whenThen_168 : decode prog_14_method_62_code 168 = .ok (.aload_n 0, 1) := by decide +kernel
theorem d_md_whenThen_169 : decode prog_14_method_62_code 169 = .ok (.getfield 374, 3) := by decide +kernel
theorem d_md_whenThen_172 : decode prog_14_method_62_code 172 = .ok (.iaload, 1) := by decide +kernel
theorem d_md_whenThen_173 : decode prog_14_method_62_code 173 = .ok (.ifCond .ne (50), 3) := by decide +kernel
theorem d_md_whenThen_176 : decode prog_14_method_62_code 176 = .ok (.aload_n 0, 1) := by decide +kernel
theorem d_md_whenThen_177 : decode prog_14_method_62_code 177 = .ok (.getfield 37, 3) := by decide +kernel
theorem d_md_whenThen_180 : decode prog_14_method_62_code 180 = .ok (.iload 4, 2) := by decide +kernel
theorem d_md_whenThen_182 : decode prog_14_method_62_code 182 = .ok (.iaload, 1) := by decide +kernel
theorem d_md_whenThen_183 : decode prog_14_method_62_code 183 = .ok (.bipush 7, 2) := by decide +kernel
theorem d_md_whenThen_185 : decode prog_14_method_62_code 185 = .ok (.if_icmp .ne (32), 3) := by decide +kernel
theorem d_md_whenThen_188 : decode prog_14_method_62_code 188 = .ok (.aload_n 0, 1) := by decide +kernel
theorem d_md_whenThen_189 : decode prog_14_method_62_code 189 = .ok (.getfield 79, 3) := by decide +kernel
theorem d_md_whenThen_192 : decode prog_14_method_62_code 192 = .ok (.iload 4, 2) := by decide +kernel
theorem d_md_whenThen_194 : decode prog_14_method_62_code 194 = .ok (.iaload, 1) := by decide +kernel
theorem d_md_whenThen_195 : decode prog_14_method_62_code 195 = .ok (.aload_n 0, 1) := by decide +kernel
theorem d_md_whenThen_196 : decode prog_14_method_62_code 196 = .ok (.getfield 58, 3) := by decide +kernel
theorem d_md_whenThen_199 : decode prog_14_method_62_code 199 = .ok (.iload 4, 2) := by decide +kernel
theorem d_md_whenThen_201 : decode prog_14_method_62_code 201 = .ok (.iaload, 1) := by decide +kernel
theorem d_md_whenThen_202 : decode prog_14_method_62_code 202 = .ok (.if_icmp .ge (15), 3) := by decide +kernel
theorem d_md_whenThen_205 : decode prog_14_method_62_code 205 = .ok (.aload_n 0, 1) := by decide +kernel
theorem d_md_whenThen_206 : decode prog_14_method_62_code 206 = .ok (.iconst 2, 1) := by decide +kernel
theorem d_md_whenThen_207 : decode prog_14_method_62_code 207 = .ok (.aload_n 0, 1) := by decide +kernel
theorem d_md_whenThen_208 : decode prog_14_method_62_code 208 = .ok (.getfield 52, 3) := by decide +kernel
theorem d_md_whenThen_211 : decode prog_14_method_62_code 211 = .ok (.iload 4, 2) := by decide +kernel
theorem d_md_whenThen_213 : decode prog_14_method_62_code 213 = .ok (.iaload, 1) := by decide +kernel
theorem d_md_whenThen_214 : decode prog_14_method_62_code 214 = .ok (.invokevirtual 421, 3) := by decide +kernel
theorem d_md_whenThen_217 : decode prog_14_method_62_code 217 = .ok (.iinc 4 (1), 3) := by decide +kernel
theorem d_md_whenThen_220 : decode prog_14_method_62_code 220 = .ok (.goto (-62), 3) := by decide +kernel
theorem d_md_whenThen_223 : decode prog_14_method_62_code 223 = .ok (.return_, 1) := by decide +kernel
theorem d_md_iterate_0 : decode prog_14_method_63_code 0 = .ok (.aload_n 0, 1) := by decide +kernel
theorem d_md_iterate_1 : decode prog_14_method_63_code 1 = .ok (.iload_n 1, 1) := by decide +kernel
theorem d_md_iterate_2 : decode prog_14_method_63_code 2 = .ok (.putfield 374, 3) := by decide +kernel
theorem d_md_iterate_5 : decode prog_14_method_63_code 5 = .ok (.aload_n 0, 1) := by decide +kernel
theorem d_md_iterate_6 : decode prog_14_method_63_code 6 = .ok (.iconst 0, 1) := by decide +kernel
theorem d_md_iterate_7 : decode prog_14_method_63_code 7 = .ok (.putfield 383, 3) := by decide +kernel
theorem d_md_iterate_10 : decode prog_14_method_63_code 10 = .ok (.aload_n 0, 1) := by decide +kernel
theorem d_md_iterate_11 : decode prog_14_method_63_code 11 = .ok (.getfield 137, 3) := by decide +kernel
theorem d_md_iterate_14 : decode prog_14_method_63_code 14 = .ok (.iload_n 1, 1) := by decide +kernel
theorem d_md_iterate_15 : decode prog_14_method_63_code 15 = .ok (.iconst 0, 1) := by decide +kernel
theorem d_md_iterate_16 : decode prog_14_method_63_code 16 = .ok (.iastore, 1) := by decide +kernel
theorem d_md_iterate_17 : decode prog_14_method_63_code 17 = .ok (.aload_n 0, 1) := by decide +kernel
theorem d_md_iterate_18 : decode prog_14_method_63_code 18 = .ok (.getfield 140, 3) := by decide +kernel
theorem d_md_iterate_21 : decode prog_14_method_63_code 21 = .ok (.iload_n 1, 1) := by decide +kernel
theorem d_md_iterate_22 : decode prog_14_method_63_code 22 = .ok (.iconst (-1), 1) := by decide +kernel
theorem d_md_iterate_23 : decode prog_14_method_63_code 23 = .ok (.iastore, 1) := by decide +kernel
theorem d_md_iterate_24 : decode prog_14_method_63_code 24 = .ok (.aload_n 0, 1) := by decide +kernel
theorem d_md_iterate_25 : decode prog_14_method_63_code 25 = .ok (.getfield 143, 3) := by decide +kernel
theorem d_md_iterate_28 : decode prog_14_method_63_code 28 = .ok (.iload_n 1, 1) := by decide +kernel
theorem d_md_iterate_29 : decode prog_14_method_63_code 29 = .ok (.iconst 0, 1) := by decide +kernel
theorem d_md_iterate_30 : decode prog_14_method_63_code 30 = .ok (.bastore, 1) := by decide +kernel
theorem d_md_iterate_31 : decode prog_14_method_63_code 31 = .ok (.aload_n 0, 1) := by decide +kernel
theorem d_md_iterate_32 : decode prog_14_method_63_code 32 = .ok (.getfield 153, 3) := by decide +kernel
theorem d_md_iterate_35 : decode prog_14_method_63_code 35 = .ok (.iload_n 1, 1) := by decide +kernel
theorem d_md_iterate_36 : decode prog_14_method_63_code 36 = .ok (.iconst (-1), 1) := by decide +kernel
theorem d_md_iterate_37 : decode prog_14_method_63_code 37 = .ok (.iastore, 1) := by decide +kernel
theorem d_md_iterate_38 : decode prog_14_method_63_code 38 = .ok (.aload_n 0, 1) := by decide +kernel
theorem d_md_iterate_39 : decode prog_14_method_63_code 39 = .ok (.getfield 150, 3) := by decide +kernel
theorem d_md_iterate_42 : decode prog_14_method_63_code 42 = .ok (.iconst 2, 1) := by decide +kernel
theorem d_md_iterate_43 : decode prog_14_method_63_code 43 = .ok (.iload_n 1, 1) := by decide +kernel
theorem d_md_iterate_44 : decode prog_14_method_63_code 44 = .ok (.imul, 1) := by decide +kernel
theorem d_md_iterate_45 : decode prog_14_method_63_code 45 = .ok (.iconst 0, 1) := by decide +kernel
theorem d_md_iterate_46 : decode prog_14_method_63_code 46 = .ok (.iastore, 1) := by decide +kernel
theorem d_md_iterate_47 : decode prog_14_method_63_code 47 = .ok (.aload_n 0, 1) := by decide +kernel
theorem d_md_iterate_48 : decode prog_14_method_63_code 48 = .ok (.getfield 150, 3) := by decide +kernel
theorem d_md_iterate_51 : decode prog_14_method_63_code 51 = .ok (.iconst 2, 1) := by decide +kernel
theorem d_md_iterate_52 : decode prog_14_method_63_code 52 = .ok (.iload_n 1, 1) := by decide +kernel
theorem d_md_iterate_53 : decode prog_14_method_63_code 53 = .ok (.imul, 1) := by decide +kernel
theorem d_md_iterate_54 : decode prog_14_method_63_code 54 = .ok (.iconst 1, 1) := by decide +kernel
theorem d_md_iterate_55 : decode prog_14_method_63_code 55 = .ok (.iadd, 1) := by decide +kernel
theorem d_md_iterate_56 : decode prog_14_method_63_code 56 = .ok (.iconst 0, 1) := by decide +kernel
theorem d_md_iterate_57 : decode prog_14_method_63_code 57 = .ok (.iastore, 1) := by decide +kernel
theorem d_md_iterate_58 : decode prog_14_method_63_code 58 = .ok (.iconst 0, 1) := by decide +kernel
theorem d_md_iterate_59 : decode prog_14_method_63_code 59 = .ok (.istore_n 2, 1) := by decide +kernel
theorem d_md_iterate_60 : decode prog_14_method_63_code 60 = .ok (.iload_n 2, 1) := by decide +kernel
theorem d_md_iterate_61 : decode prog_14_method_63_code 61 = .ok (.bipush 26, 2) := by decide +kernel
theorem d_md_iterate_63 : decode prog_14_method_63_code 63 = .ok (.if_icmp .ge (21), 3) := by decide +kernel
theorem d_md_iterate_66 : decode prog_14_method_63_code 66 = .ok (.aload_n 0, 1) := by decide +kernel
theorem d_md_iterate_67 : decode prog_14_method_63_code 67 = .ok (.getfield 147, 3) := by decide +kernel
theorem d_md_iterate_70 : decode prog_14_method_63_code 70 = .ok (.bipush 26, 2) := by decide +kernel
theorem d_md_iterate_72 : decode prog_14_method_63_code 72 = .ok (.iload_n 1, 1) := by decide +kernel
theorem d_md_iterate_73 : decode prog_14_method_63_code 73 = .ok (.imul, 1) := by decide +kernel
theorem d_md_iterate_74 : decode prog_14_method_63_code 74 = .ok (.iload_n 2, 1) := by decide +kernel
theorem d_md_iterate_75 : decode prog_14_method_63_code 75 = .ok (.iadd, 1) := by decide +kernel
theorem d_md_iterate_76 : decode prog_14_method_63_code 76 = .ok (.iconst 0, 1) := by decide +kernel
theorem d_md_iterate_77 : decode prog_14_method_63_code 77 = .ok (.iastore, 1) := by decide +kernel
theorem d_md_iterate_78 : decode prog_14_method_63_code 78 = .ok (.iinc 2 (1), 3) := by decide +kernel
theorem d_md_iterate_81 : decode prog_14_method_63_code 81 = .ok (.goto (-21), 3) := by decide +kernel
theorem d_md_iterate_84 : decode prog_14_method_63_code 84 = .ok (.aload_n 0, 1) := by decide +kernel
theorem d_md_iterate_85 : decode prog_14_method_63_code 85 = .ok (.bipush 9, 2) := by decide +kernel
theorem d_md_iterate_87 : decode prog_14_method_63_code 87 = .ok (.iload_n 1, 1) := by decide +kernel
theorem d_md_iterate_88 : decode prog_14_method_63_code 88 = .ok (.invokevirtual 439, 3) := by decide +kernel
theorem d_md_iterate_91 : decode prog_14_method_63_code 91 = .ok (.aload_n 0, 1) := by decide +kernel
theorem d_md_iterate_92 : decode prog_14_method_63_code 92 = .ok (.getfield 137, 3) := by decide +kernel
theorem d_md_iterate_95 : decode prog_14_method_63_code 95 = .ok (.iload_n 1, 1) := by decide +kernel
theorem d_md_iterate_96 : decode prog_14_method_63_code 96 = .ok (.iaload, 1) := by decide +kernel
theorem d_md_iterate_97 : decode prog_14_method_63_code 97 = .ok (.ifCond .le (4), 3) := by decide +kernel
theorem d_md_iterate_100 : decode prog_14_method_63_code 100 = .ok (.return_, 1) := by decide +kernel
theorem d_md_iterate_101 : decode prog_14_method_63_code 101 = .ok (.aload_n 0, 1) := by decide +kernel
theorem d_md_iterate_102 : decode prog_14_method_63_code 102 = .ok (.iconst 1, 1) := by decide +kernel
theorem d_md_iterate_103 : decode prog_14_method_63_code 103 = .ok (.iconst 0, 1) := by decide +kernel
theorem d_md_iterate_104 : decode prog_14_method_63_code 104 = .ok (.invokevirtual 439, 3) := by decide +kernel
theorem d_md_iterate_107 : decode prog_14_method_63_code 107 = .ok (.iconst 0, 1) := by decide +kernel
theorem d_md_iterate_108 : decode prog_14_method_63_code 108 = .ok (.istore_n 2, 1) := by decide +kernel
theorem d_md_iterate_109 : decode prog_14_method_63_code 109 = .ok (.iload_n 2, 1) := by decide +kernel
theorem d_md_iterate_110 : decode prog_14_method_63_code 110 = .ok (.aload_n 0, 1) := by decide +kernel
theorem d_md_iterate_111 : decode prog_14_method_63_code 111 = .ok (.getfield 88, 3) := by decide +kernel
theorem d_md_iterate_114 : decode prog_14_method_63_code 114 = .ok (.aload_n 0, 1) := by decide +kernel
theorem d_md_iterate_115 : decode prog_14_method_63_code 115 = .ok (.getfield 347, 3) := by decide +kernel
theorem d_md_iterate_118 : decode prog_14_method_63_code 118 = .ok (.iaload, 1) := by decide +kernel
theorem d_md_iterate_119 : decode prog_14_method_63_code 119 = .ok (.if_icmp .ge (96), 3) := by decide +kernel
theorem d_md_iterate_122 : decode prog_14_method_63_code 122 = .ok (.aload_n 0, 1) := by decide +kernel
theorem d_md_iterate_123 : decode prog_14_method_63_code 123 = .ok (.getfield 137, 3) := by decide +kernel
theorem d_md_iterate_126 : decode prog_14_method_63_code 126 = .ok (.iload_n 1, 1) := by decide +kernel
theorem d_md_iterate_127 : decode prog_14_method_63_code 127 = .ok (.iaload, 1) := by decide +kernel
theorem d_md_iterate_128 : decode prog_14_method_63_code 128 = .ok (.ifCond .ne (87), 3) := by decide +kernel
theorem d_md_iterate_131 : decode prog_14_method_63_code 131 = .ok (.aload_n 0, 1) := by decide +kernel
theorem d_md_iterate_132 : decode prog_14_method_63_code 132 = .ok (.iconst 3, 1) := by decide +kernel
theorem d_md_iterate_133 : decode prog_14_method_63_code 133 = .ok (.iload_n 2, 1) := by decide +kernel
theorem d_md_iterate_134 : decode prog_14_method_63_code 134 = .ok (.invokevirtual 433, 3) := by decide +kernel
theorem d_md_iterate_137 : decode prog_14_method_63_code 137 = .ok (.ifCond .lt (11), 3) := by decide +kernel
theorem d_md_iterate_140 : decode prog_14_method_63_code 140 = .ok (.aload_n 0, 1) := by decide +kernel
theorem d_md_iterate_141 : decode prog_14_method_63_code 141 = .ok (.iload_n 2, 1) := by decide +kernel
theorem d_md_iterate_142 : decode prog_14_method_63_code 142 = .ok (.invokevirtual 442, 3) := by decide +kernel
theorem d_md_iterate_145 : decode prog_14_method_63_code 145 = .ok (.goto (64), 3) := by decide +kernel
theorem d_md_iterate_148 : decode prog_14_method_63_code 148 = .ok (.bipush 100, 2) := by decide +kernel
theorem d_md_iterate_150 : decode prog_14_method_63_code 150 = .ok (.aload_n 0, 1) := by decide +kernel
theorem d_md_iterate_151 : decode prog_14_method_63_code 151 = .ok (.getfield 347, 3) := by decide +kernel
theorem d_md_iterate_154 : decode prog_14_method_63_code 154 = .ok (.imul, 1) := by decide +kernel
theorem d_md_iterate_155 : decode prog_14_method_63_code 155 = .ok (.istore_n 3, 1) := by decide +kernel
theorem d_md_iterate_156 : decode prog_14_method_63_code 156 = .ok (.iload_n 3, 1) := by decide +kernel
theorem d_md_iterate_157 : decode prog_14_method_63_code 157 = .ok (.aload_n 0, 1) := by decide +kernel
theorem d_md_iterate_158 : decode prog_14_method_63_code 158 = .ok (.getfield 85, 3) := by decide +kernel
theorem d_md_iterate_161 : decode prog_14_method_63_code 161 = .ok (.aload_n 0, 1) := by decide +kernel
theorem d_md_iterate_162 : decode prog_14_method_63_code 162 = .ok (.getfield 347, 3) := by decide +kernel
theorem d_md_iterate_165 : decode prog_14_method_63_code 165 = .ok (.iaload, 1) := by decide +kernel
theorem d_md_iterate_166 : decode prog_14_method_63_code 166 = .ok (.if_icmp .ge (43), 3) := by decide +kernel
theorem d_md_iterate_169 : decode prog_14_method_63_code 169 = .ok (.aload_n 0, 1) := by decide +kernel
theorem d_md_iterate_170 : decode prog_14_method_63_code 170 = .ok (.getfield 137, 3) := by decide +kernel
theorem d_md_iterate_173 : decode prog_14_method_63_code 173 = .ok (.iload_n 1, 1) := by decide +kernel
theorem d_md_iterate_174 : decode prog_14_method_63_code 174 = .ok (.iaload, 1) := by decide +kernel
theorem d_md_iterate_175 : decode prog_14_method_63_code 175 = .ok (.ifCond .ne (34), 3) := by decide +kernel
theorem d_md_iterate_178 : decode prog_14_method_63_code 178 = .ok (.aload_n 0, 1) := by decide +kernel
theorem d_md_iterate_179 : decode prog_14_method_63_code 179 = .ok (.getfield 37, 3) := by decide +kernel
theorem d_md_iterate_182 : decode prog_14_method_63_code 182 = .ok (.iload_n 3, 1) := by decide +kernel
theorem d_md_iterate_183 : decode prog_14_method_63_code 183 = .ok (.iaload, 1) := by decide +kernel
theorem d_md_iterate_184 : decode prog_14_method_63_code 184 = .ok (.iconst 2, 1) := by decide +kernel
theorem d_md_iterate_185 : decode prog_14_method_63_code 185 = .ok (.if_icmp .ne (18), 3) := by decide +kernel
theorem d_md_iterate_188 : decode prog_14_method_63_code 188 = .ok (.aload_n 0, 1) := by decide +kernel
theorem d_md_iterate_189 : decode prog_14_method_63_code 189 = .ok (.getfield 40, 3) := by decide +kernel
theorem d_md_iterate_192 : decode prog_14_method_63_code 192 = .ok (.iload_n 3, 1) := by decide +kernel
theorem d_md_iterate_193 : decode prog_14_method_63_code 193 = .ok (.iaload, 1) := by decide +kernel
theorem d_md_iterate_194 : decode prog_14_method_63_code 194 = .ok (.iload_n 2, 1) := by decide +kernel
theorem d_md_iterate_195 : decode prog_14_method_63_code 195 = .ok (.if_icmp .ne (8), 3) := by decide +kernel
theorem d_md_iterate_198 : decode prog_14_method_63_code 198 = .ok (.aload_n 0, 1) := by decide +kernel
theorem d_md_iterate_199 : decode prog_14_method_63_code 199 = .ok (.iload_n 3, 1) := by decide +kernel
theorem d_md_iterate_200 : decode prog_14_method_63_code 200 = .ok (.invokevirtual 436, 3) := by decide +kernel
theorem d_md_iterate_203 : decode prog_14_method_63_code 203 = .ok (.iinc 3 (1), 3) := by decide +kernel
theorem d_md_iterate_206 : decode prog_14_method_63_code 206 = .ok (.goto (-50), 3) := by decide +kernel
theorem d_md_iterate_209 : decode prog_14_method_63_code 209 = .ok (.iinc 2 (1), 3) := by decide +kernel
theorem d_md_iterate_212 : decode prog_14_method_63_code 212 = .ok (.goto (-103), 3) := by decide +kernel
theorem d_md_iterate_215 : decode prog_14_method_63_code 215 = .ok (.aload_n 0, 1) := by decide +kernel
theorem d_md_iterate_216 : decode prog_14_method_63_code 216 = .ok (.bipush 8, 2) := by decide +kernel
theorem d_md_iterate_218 : decode prog_14_method_63_code 218 = .ok (.iconst 0, 1) := by decide +kernel
theorem d_md_iterate_219 : decode prog_14_method_63_code 219 = .ok (.invokevirtual 439, 3) := by decide +kernel
theorem d_md_iterate_222 : decode prog_14_method_63_code 222 = .ok (.return_, 1) := by decide +kernel
theorem d_md_run_0 : decode prog_14_method_64_code 0 = .ok (.aload_n 0, 1) := by decide +kernel
theorem d_md_run_1 : decode prog_14_method_64_code 1 = .ok (.getfield 359, 3) := by decide +kernel
theorem d_md_run_4 : decode prog_14_method_64_code 4 = .ok (.ifCond .ne (5), 3) := by decide +kernel
theorem d_md_run_7 : decode prog_14_method_64_code 7 = .ok (.iconst (-1), 1) := by decide +kernel
theorem d_md_run_8 : decode prog_14_method_64_code 8 = .ok (.ireturn, 1) := by decide +kernel
theorem d_md_run_9 : decode prog_14_method_64_code 9 = .ok (.iconst 0, 1) := by decide +kernel
theorem d_md_run_10 : decode prog_14_method_64_code 10 = .ok (.istore_n 1, 1) := by decide +kernel
theorem d_md_run_11 : decode prog_14_method_64_code 11 = .ok (.aload_n 0, 1) := by decide +kernel
theorem d_md_run_12 : decode prog_14_method_64_code 12 = .ok (.aload_n 0, 1) := by decide +kernel
theorem d_md_run_13 : decode prog_14_method_64_code 13 = .ok (.getfield 91, 3) := by decide +kernel
theorem d_md_run_16 : decode prog_14_method_64_code 16 = .ok (.aload_n 0, 1) := by decide +kernel
theorem d_md_run_17 : decode prog_14_method_64_code 17 = .ok (.getfield 347, 3) := by decide +kernel
theorem d_md_run_20 : decode prog_14_method_64_code 20 = .ok (.iaload, 1) := by decide +kernel
theorem d_md_run_21 : decode prog_14_method_64_code 21 = .ok (.ifCond .ne (7), 3) := by decide +kernel
theorem d_md_run_24 : decode prog_14_method_64_code 24 = .ok (.iconst 1, 1) := by decide +kernel
theorem d_md_run_25 : decode prog_14_method_64_code 25 = .ok (.goto (12), 3) := by decide +kernel
theorem d_md_run_28 : decode prog_14_method_64_code 28 = .ok (.aload_n 0, 1) := by decide +kernel
theorem d_md_run_29 : decode prog_14_method_64_code 29 = .ok (.getfield 91, 3) := by decide +kernel
theorem d_md_run_32 : decode prog_14_method_64_code 32 = .ok (.aload_n 0, 1) := by decide +kernel
theorem d_md_run_33 : decode prog_14_method_64_code 33 = .ok (.getfield 347, 3) := by decide +kernel
theorem d_md_run_36 : decode prog_14_method_64_code 36 = .ok (.iaload, 1) := by decide +kernel
theorem d_md_run_37 : decode prog_14_method_64_code 37 = .ok (.putfield 445, 3) := by decide +kernel
theorem d_md_run_40 : decode prog_14_method_64_code 40 = .ok (.iconst 0, 1) := by decide +kernel
theorem d_md_run_41 : decode prog_14_method_64_code 41 = .ok (.istore_n 2, 1) := by decide +kernel
theorem d_md_run_42 : decode prog_14_method_64_code 42 = .ok (.iload_n 2, 1) := by decide +kernel
theorem d_md_run_43 : decode prog_14_method_64_code 43 = .ok (.bipush 120, 2) := by decide +kernel
theorem d_md_run_45 : decode prog_14_method_64_code 45 = .ok (.if_icmp .ge (29), 3) := by decide +kernel
theorem d_md_run_48 : decode prog_14_method_64_code 48 = .ok (.aload_n 0, 1) := by decide +kernel
theorem d_md_run_49 : decode prog_14_method_64_code 49 = .ok (.getfield 134, 3) := by decide +kernel
theorem d_md_run_52 : decode prog_14_method_64_code 52 = .ok (.iload_n 2, 1) := by decide +kernel
theorem d_md_run_53 : decode prog_14_method_64_code 53 = .ok (.aload_n 0, 1) := by decide +kernel
theorem d_md_run_54 : decode prog_14_method_64_code 54 = .ok (.getfield 25, 3) := by decide +kernel
theorem d_md_run_57 : decode prog_14_method_64_code 57 = .ok (.bipush 120, 2) := by decide +kernel
theorem d_md_run_59 : decode prog_14_method_64_code 59 = .ok (.aload_n 0, 1) := by decide +kernel
theorem d_md_run_60 : decode prog_14_method_64_code 60 = .ok (.getfield 347, 3) := by decide +kernel
theorem d_md_run_63 : decode prog_14_method_64_code 63 = .ok (.imul, 1) := by decide +kernel
theorem d_md_run_64 : decode prog_14_method_64_code 64 = .ok (.iload_n 2, 1) := by decide +kernel
theorem d_md_run_65 : decode prog_14_method_64_code 65 = .ok (.iadd, 1) := by decide +kernel
theorem d_md_run_66 : decode prog_14_method_64_code 66 = .ok (.iaload, 1) := by decide +kernel
theorem d_md_run_67 : decode prog_14_method_64_code 67 = .ok (.iastore, 1) := by decide +kernel
theorem d_md_run_68 : decode prog_14_method_64_code 68 = .ok (.iinc 2 (1), 3) := by decide +kernel
theorem d_md_run_71 : decode prog_14_method_64_code 71 = .ok (.goto (-29), 3) := by decide +kernel
theorem d_md_run_74 : decode prog_14_method_64_code 74 = .ok (.iconst 0, 1) := by decide +kernel
theorem d_md_run_75 : decode prog_14_method_64_code 75 = .ok (.istore_n 2, 1) := by decide +kernel
theorem d_md_run_76 : decode prog_14_method_64_code 76 = .ok (.iload_n 2, 1) := by decide +kernel
theorem d_md_run_77 : decode prog_14_method_64_code 77 = .ok (.aload_n 0, 1) := by decide +kernel
theorem d_md_run_78 : decode prog_14_method_64_code 78 = .ok (.getfield 445, 3) := by decide +kernel
theorem d_md_run_81 : decode prog_14_method_64_code 81 = .ok (.if_icmp .ge (31), 3) := by decide +kernel
theorem d_md_run_84 : decode prog_14_method_64_code 84 = .ok (.aload_n 0, 1) := by decide +kernel
theorem d_md_run_85 : decode prog_14_method_64_code 85 = .ok (.iload_n 2, 1) := by decide +kernel
theorem d_md_run_86 : decode prog_14_method_64_code 86 = .ok (.invokevirtual 448, 3) := by decide +kernel
theorem d_md_run_89 : decode prog_14_method_64_code 89 = .ok (.aload_n 0, 1) := by decide +kernel
theorem d_md_run_90 : decode prog_14_method_64_code 90 = .ok (.getfield 137, 3) := by decide +kernel
theorem d_md_run_93 : decode prog_14_method_64_code 93 = .ok (.iload_n 2, 1) := by decide +kernel
theorem d_md_run_94 : decode prog_14_method_64_code 94 = .ok (.iaload, 1) := by decide +kernel
theorem d_md_run_95 : decode prog_14_method_64_code 95 = .ok (.ifCond .le (9), 3) := by decide +kernel
theorem d_md_run_98 : decode prog_14_method_64_code 98 = .ok (.iload_n 1, 1) := by decide +kernel
theorem d_md_run_99 : decode prog_14_method_64_code 99 = .ok (.iconst 1, 1) := by decide +kernel
theorem d_md_run_100 : decode prog_14_method_64_code 100 = .ok (.iadd, 1) := by decide +kernel
theorem d_md_run_101 : decode prog_14_method_64_code 101 = .ok (.goto (4), 3) := by decide +kernel
theorem d_md_run_104 : decode prog_14_method_64_code 104 = .ok (.iload_n 1, 1) := by decide +kernel
theorem d_md_run_105 : decode prog_14_method_64_code 105 = .ok (.istore_n 1, 1) := by decide +kernel
theorem d_md_run_106 : decode prog_14_method_64_code 106 = .ok (.iinc 2 (1), 3) := by decide +kernel
theorem d_md_run_109 : decode prog_14_method_64_code 109 = .ok (.goto (-33), 3) := by decide +kernel
theorem d_md_run_112 : decode prog_14_method_64_code 112 = .ok (.iload_n 1, 1) := by decide +kernel
theorem d_md_run_113 : decode prog_14_method_64_code 113 = .ok (.ireturn, 1) := by decide +kernel
theorem d_md_there_0 : decode prog_14_method_65_code 0 = .ok (.iload_n 1, 1) := by decide +kernel
theorem d_md_there_1 : decode prog_14_method_65_code 1 = .ok (.ifCond .lt (15), 3) := by decide +kernel
theorem d_md_there_4 : decode prog_14_method_65_code 4 = .ok (.iload_n 1, 1) := by decide +kernel
theorem d_md_there_5 : decode prog_14_method_65_code 5 = .ok (.aload_n 0, 1) := by decide +kernel
theorem d_md_there_6 : decode prog_14_method_65_code 6 = .ok (.getfield 445, 3) := by decide +kernel
theorem d_md_there_9 : decode prog_14_method_65_code 9 = .ok (.if_icmp .ge (7), 3) := by decide +kernel
theorem d_md_there_12 : decode prog_14_method_65_code 12 = .ok (.iconst 1, 1) := by decide +kernel
theorem d_md_there_13 : decode prog_14_method_65_code 13 = .ok (.goto (4), 3) := by decide +kernel
theorem d_md_there_16 : decode prog_14_method_65_code 16 = .ok (.iconst 0, 1) := by decide +kernel
theorem d_md_there_17 : decode prog_14_method_65_code 17 = .ok (.ireturn, 1) := by decide +kernel
theorem d_md_iterations_0 : decode prog_14_method_66_code 0 = .ok (.aload_n 0, 1) := by decide +kernel
theorem d_md_iterations_1 : decode prog_14_method_66_code 1 = .ok (.getfield 445, 3) := by decide +kernel
theorem d_md_iterations_4 : decode prog_14_method_66_code 4 = .ok (.ireturn, 1) := by decide +kernel
theorem d_md_status_0 : decode prog_14_method_67_code 0 = .ok (.aload_n 0, 1) := by decide +kernel
theorem d_md_status_1 : decode prog_14_method_67_code 1 = .ok (.iload_n 1, 1) := by decide +kernel
theorem d_md_status_2 : decode prog_14_method_67_code 2 = .ok (.invokevirtual 451, 3) := by decide +kernel
theorem d_md_status_5 : decode prog_14_method_67_code 5 = .ok (.ifCond .eq (12), 3) := by decide +kernel
theorem d_md_status_8 : decode prog_14_method_67_code 8 = .ok (.aload_n 0, 1) := by decide +kernel
theorem d_md_status_9 : decode prog_14_method_67_code 9 = .ok (.getfield 137, 3) := by decide +kernel
theorem d_md_status_12 : decode prog_14_method_67_code 12 = .ok (.iload_n 1, 1) := by decide +kernel
theorem d_md_status_13 : decode prog_14_method_67_code 13 = .ok (.iaload, 1) := by decide +kernel
theorem d_md_status_14 : decode prog_14_method_67_code 14 = .ok (.goto (4), 3) := by decide +kernel
theorem d_md_status_17 : decode prog_14_method_67_code 17 = .ok (.iconst (-1), 1) := by decide +kernel
theorem d_md_status_18 : decode prog_14_method_67_code 18 = .ok (.ireturn, 1) := by decide +kernel
theorem d_md_failedAt_0 : decode prog_14_method_68_code 0 = .ok (.aload_n 0, 1) := by decide +kernel
theorem d_md_failedAt_1 : decode prog_14_method_68_code 1 = .ok (.iload_n 1, 1) := by decide +kernel
theorem d_md_failedAt_2 : decode prog_14_method_68_code 2 = .ok (.invokevirtual 451, 3) := by decide +kernel
theorem d_md_failedAt_5 : decode prog_14_method_68_code 5 = .ok (.ifCond .eq (12), 3) := by decide +kernel
theorem d_md_failedAt_8 : decode prog_14_method_68_code 8 = .ok (.aload_n 0, 1) := by decide +kernel
theorem d_md_failedAt_9 : decode prog_14_method_68_code 9 = .ok (.getfield 140, 3) := by decide +kernel
theorem d_md_failedAt_12 : decode prog_14_method_68_code 12 = .ok (.iload_n 1, 1) := by decide +kernel
theorem d_md_failedAt_13 : decode prog_14_method_68_code 13 = .ok (.iaload, 1) := by decide +kernel
theorem d_md_failedAt_14 : decode prog_14_method_68_code 14 = .ok (.goto (4), 3) := by decide +kernel
theorem d_md_failedAt_17 : decode prog_14_method_68_code 17 = .ok (.iconst (-1), 1) := by decide +kernel
theorem d_md_failedAt_18 : decode prog_14_method_68_code 18 = .ok (.ireturn, 1) := by decide +kernel
theorem d_md_second_0 : decode prog_14_method_69_code 0 = .ok (.aload_n 0, 1) := by decide +kernel
theorem d_md_second_1 : decode prog_14_method_69_code 1 = .ok (.iload_n 1, 1) := by decide +kernel
theorem d_md_second_2 : decode prog_14_method_69_code 2 = .ok (.invokevirtual 451, 3) := by decide +kernel
theorem d_md_second_5 : decode prog_14_method_69_code 5 = .ok (.ifCond .eq (16), 3) := by decide +kernel
theorem d_md_second_8 : decode prog_14_method_69_code 8 = .ok (.aload_n 0, 1) := by decide +kernel
theorem d_md_second_9 : decode prog_14_method_69_code 9 = .ok (.getfield 143, 3) := by decide +kernel
theorem d_md_second_12 : decode prog_14_method_69_code 12 = .ok (.iload_n 1, 1) := by decide +kernel
theorem d_md_second_13 : decode prog_14_method_69_code 13 = .ok (.baload, 1) := by decide +kernel
theorem d_md_second_14 : decode prog_14_method_69_code 14 = .ok (.ifCond .eq (7), 3) := by decide +kernel
theorem d_md_second_17 : decode prog_14_method_69_code 17 = .ok (.iconst 1, 1) := by decide +kernel
theorem d_md_second_18 : decode prog_14_method_69_code 18 = .ok (.goto (4), 3) := by decide +kernel
theorem d_md_second_21 : decode prog_14_method_69_code 21 = .ok (.iconst 0, 1) := by decide +kernel
theorem d_md_second_22 : decode prog_14_method_69_code 22 = .ok (.ireturn, 1) := by decide +kernel
theorem d_md_variable_0 : decode prog_14_method_70_code 0 = .ok (.aload_n 0, 1) := by decide +kernel
theorem d_md_variable_1 : decode prog_14_method_70_code 1 = .ok (.iload_n 1, 1) := by decide +kernel
theorem d_md_variable_2 : decode prog_14_method_70_code 2 = .ok (.invokevirtual 451, 3) := by decide +kernel
theorem d_md_variable_5 : decode prog_14_method_70_code 5 = .ok (.ifCond .eq (27), 3) := by decide +kernel
theorem d_md_variable_8 : decode prog_14_method_70_code 8 = .ok (.iload_n 2, 1) := by decide +kernel
theorem d_md_variable_9 : decode prog_14_method_70_code 9 = .ok (.ifCond .lt (23), 3) := by decide +kernel
theorem d_md_variable_12 : decode prog_14_method_70_code 12 = .ok (.iload_n 2, 1) := by decide +kernel
theorem d_md_variable_13 : decode prog_14_method_70_code 13 = .ok (.bipush 26, 2) := by decide +kernel
theorem d_md_variable_15 : decode prog_14_method_70_code 15 = .ok (.if_icmp .ge (17), 3) := by decide +kernel
theorem d_md_variable_18 : decode prog_14_method_70_code 18 = .ok (.aload_n 0, 1) := by decide +kernel
theorem d_md_variable_19 : decode prog_14_method_70_code 19 = .ok (.getfield 147, 3) := by decide +kernel
theorem d_md_variable_22 : decode prog_14_method_70_code 22 = .ok (.bipush 26, 2) := by decide +kernel
theorem d_md_variable_24 : decode prog_14_method_70_code 24 = .ok (.iload_n 1, 1) := by decide +kernel
theorem d_md_variable_25 : decode prog_14_method_70_code 25 = .ok (.imul, 1) := by decide +kernel
theorem d_md_variable_26 : decode prog_14_method_70_code 26 = .ok (.iload_n 2, 1) := by decide +kernel
theorem d_md_variable_27 : decode prog_14_method_70_code 27 = .ok (.iadd, 1) := by decide +kernel
theorem d_md_variable_28 : decode prog_14_method_70_code 28 = .ok (.iaload, 1) := by decide +kernel
theorem d_md_variable_29 : decode prog_14_method_70_code 29 = .ok (.goto (4), 3) := by decide +kernel
theorem d_md_variable_32 : decode prog_14_method_70_code 32 = .ok (.iconst 0, 1) := by decide +kernel
theorem d_md_variable_33 : decode prog_14_method_70_code 33 = .ok (.ireturn, 1) := by decide +kernel
theorem d_md_calls_0 : decode prog_14_method_71_code 0 = .ok (.aload_n 0, 1) := by decide +kernel
theorem d_md_calls_1 : decode prog_14_method_71_code 1 = .ok (.iload_n 1, 1) := by decide +kernel
theorem d_md_calls_2 : decode prog_14_method_71_code 2 = .ok (.invokevirtual 451, 3) := by decide +kernel
theorem d_md_calls_5 : decode prog_14_method_71_code 5 = .ok (.ifCond .eq (25), 3) := by decide +kernel
theorem d_md_calls_8 : decode prog_14_method_71_code 8 = .ok (.iload_n 2, 1) := by decide +kernel
theorem d_md_calls_9 : decode prog_14_method_71_code 9 = .ok (.ifCond .eq (8), 3) := by decide +kernel
theorem d_md_calls_12 : decode prog_14_method_71_code 12 = .ok (.iload_n 2, 1) := by decide +kernel
theorem d_md_calls_13 : decode prog_14_method_71_code 13 = .ok (.iconst 1, 1) := by decide +kernel
theorem d_md_calls_14 : decode prog_14_method_71_code 14 = .ok (.if_icmp .ne (16), 3) := by decide +kernel
theorem d_md_calls_17 : decode prog_14_method_71_code 17 = .ok (.aload_n 0, 1) := by decide +kernel
theorem d_md_calls_18 : decode prog_14_method_71_code 18 = .ok (.getfield 150, 3) := by decide +kernel
theorem d_md_calls_21 : decode prog_14_method_71_code 21 = .ok (.iconst 2, 1) := by decide +kernel
theorem d_md_calls_22 : decode prog_14_method_71_code 22 = .ok (.iload_n 1, 1) := by decide +kernel
theorem d_md_calls_23 : decode prog_14_method_71_code 23 = .ok (.imul, 1) := by decide +kernel
theorem d_md_calls_24 : decode prog_14_method_71_code 24 = .ok (.iload_n 2, 1) := by decide +kernel
theorem d_md_calls_25 : decode prog_14_method_71_code 25 = .ok (.iadd, 1) := by decide +kernel
theorem d_md_calls_26 : decode prog_14_method_71_code 26 = .ok (.iaload, 1) := by decide +kernel
theorem d_md_calls_27 : decode prog_14_method_71_code 27 = .ok (.goto (4), 3) := by decide +kernel
theorem d_md_calls_30 : decode prog_14_method_71_code 30 = .ok (.iconst 0, 1) := by decide +kernel
theorem d_md_calls_31 : decode prog_14_method_71_code 31 = .ok (.ireturn, 1) := by decide +kernel
theorem d_md_values_0 : decode prog_14_method_72_code 0 = .ok (.aload_n 0, 1) := by decide +kernel
theorem d_md_values_1 : decode prog_14_method_72_code 1 = .ok (.iload_n 1, 1) := by decide +kernel
theorem d_md_values_2 : decode prog_14_method_72_code 2 = .ok (.invokevirtual 451, 3) := by decide +kernel
theorem d_md_values_5 : decode prog_14_method_72_code 5 = .ok (.ifCond .eq (21), 3) := by decide +kernel
theorem d_md_values_8 : decode prog_14_method_72_code 8 = .ok (.aload_n 0, 1) := by decide +kernel
theorem d_md_values_9 : decode prog_14_method_72_code 9 = .ok (.getfield 153, 3) := by decide +kernel
theorem d_md_values_12 : decode prog_14_method_72_code 12 = .ok (.iload_n 1, 1) := by decide +kernel
theorem d_md_values_13 : decode prog_14_method_72_code 13 = .ok (.iaload, 1) := by decide +kernel
theorem d_md_values_14 : decode prog_14_method_72_code 14 = .ok (.ifCond .le (12), 3) := by decide +kernel
theorem d_md_values_17 : decode prog_14_method_72_code 17 = .ok (.aload_n 0, 1) := by decide +kernel
theorem d_md_values_18 : decode prog_14_method_72_code 18 = .ok (.getfield 153, 3) := by decide +kernel
theorem d_md_values_21 : decode prog_14_method_72_code 21 = .ok (.iload_n 1, 1) := by decide +kernel
theorem d_md_values_22 : decode prog_14_method_72_code 22 = .ok (.iaload, 1) := by decide +kernel
theorem d_md_values_23 : decode prog_14_method_72_code 23 = .ok (.goto (4), 3) := by decide +kernel
theorem d_md_values_26 : decode prog_14_method_72_code 26 = .ok (.iconst 0, 1) := by decide +kernel
theorem d_md_values_27 : decode prog_14_method_72_code 27 = .ok (.ireturn, 1) := by decide +kernel
theorem d_md_column_0 : decode prog_14_method_73_code 0 = .ok (.iload_n 2, 1) := by decide +kernel
theorem d_md_column_1 : decode prog_14_method_73_code 1 = .ok (.ifCond .lt (26), 3) := by decide +kernel
theorem d_md_column_4 : decode prog_14_method_73_code 4 = .ok (.iload_n 2, 1) := by decide +kernel
theorem d_md_column_5 : decode prog_14_method_73_code 5 = .ok (.aload_n 0, 1) := by decide +kernel
theorem d_md_column_6 : decode prog_14_method_73_code 6 = .ok (.iload_n 1, 1) := by decide +kernel
theorem d_md_column_7 : decode prog_14_method_73_code 7 = .ok (.invokevirtual 454, 3) := by decide +kernel
theorem d_md_column_10 : decode prog_14_method_73_code 10 = .ok (.if_icmp .ge (17), 3) := by decide +kernel
theorem d_md_column_13 : decode prog_14_method_73_code 13 = .ok (.aload_n 0, 1) := by decide +kernel
theorem d_md_column_14 : decode prog_14_method_73_code 14 = .ok (.getfield 156, 3) := by decide +kernel
theorem d_md_column_17 : decode prog_14_method_73_code 17 = .ok (.bipush 120, 2) := by decide +kernel
theorem d_md_column_19 : decode prog_14_method_73_code 19 = .ok (.iload_n 1, 1) := by decide +kernel
theorem d_md_column_20 : decode prog_14_method_73_code 20 = .ok (.imul, 1) := by decide +kernel
theorem d_md_column_21 : decode prog_14_method_73_code 21 = .ok (.iload_n 2, 1) := by decide +kernel
theorem d_md_column_22 : decode prog_14_method_73_code 22 = .ok (.iadd, 1) := by decide +kernel
theorem d_md_column_23 : decode prog_14_method_73_code 23 = .ok (.iaload, 1) := by decide +kernel
theorem d_md_column_24 : decode prog_14_method_73_code 24 = .ok (.goto (4), 3) := by decide +kernel
theorem d_md_column_27 : decode prog_14_method_73_code 27 = .ok (.iconst (-1), 1) := by decide +kernel
theorem d_md_column_28 : decode prog_14_method_73_code 28 = .ok (.ireturn, 1) := by decide +kernel
theorem d_md_value_0 : decode prog_14_method_74_code 0 = .ok (.iload_n 2, 1) := by decide +kernel
theorem d_md_value_1 : decode prog_14_method_74_code 1 = .ok (.ifCond .lt (26), 3) := by decide +kernel
theorem d_md_value_4 : decode prog_14_method_74_code 4 = .ok (.iload_n 2, 1) := by decide +kernel
theorem d_md_value_5 : decode prog_14_method_74_code 5 = .ok (.aload_n 0, 1) := by decide +kernel
theorem d_md_value_6 : decode prog_14_method_74_code 6 = .ok (.iload_n 1, 1) := by decide +kernel
theorem d_md_value_7 : decode prog_14_method_74_code 7 = .ok (.invokevirtual 454, 3) := by decide +kernel
theorem d_md_value_10 : decode prog_14_method_74_code 10 = .ok (.if_icmp .ge (17), 3) := by decide +kernel
theorem d_md_value_13 : decode prog_14_method_74_code 13 = .ok (.aload_n 0, 1) := by decide +kernel
theorem d_md_value_14 : decode prog_14_method_74_code 14 = .ok (.getfield 159, 3) := by decide +kernel
theorem d_md_value_17 : decode prog_14_method_74_code 17 = .ok (.bipush 120, 2) := by decide +kernel
theorem d_md_value_19 : decode prog_14_method_74_code 19 = .ok (.iload_n 1, 1) := by decide +kernel
theorem d_md_value_20 : decode prog_14_method_74_code 20 = .ok (.imul, 1) := by decide +kernel
theorem d_md_value_21 : decode prog_14_method_74_code 21 = .ok (.iload_n 2, 1) := by decide +kernel
theorem d_md_value_22 : decode prog_14_method_74_code 22 = .ok (.iadd, 1) := by decide +kernel
theorem d_md_value_23 : decode prog_14_method_74_code 23 = .ok (.iaload, 1) := by decide +kernel
theorem d_md_value_24 : decode prog_14_method_74_code 24 = .ok (.goto (4), 3) := by decide +kernel
theorem d_md_value_27 : decode prog_14_method_74_code 27 = .ok (.iconst 0, 1) := by decide +kernel
theorem d_md_value_28 : decode prog_14_method_74_code 28 = .ok (.ireturn, 1) := by decide +kernel
theorem d_md_width_0 : decode prog_14_method_75_code 0 = .ok (.iload_n 0, 1) := by decide +kernel
theorem d_md_width_1 : decode prog_14_method_75_code 1 = .ok (.ifCond .ge (7), 3) := by decide +kernel
theorem d_md_width_4 : decode prog_14_method_75_code 4 = .ok (.iconst 2, 1) := by decide +kernel
theorem d_md_width_5 : decode prog_14_method_75_code 5 = .ok (.goto (4), 3) := by decide +kernel
theorem d_md_width_8 : decode prog_14_method_75_code 8 = .ok (.iconst 1, 1) := by decide +kernel
theorem d_md_width_9 : decode prog_14_method_75_code 9 = .ok (.istore_n 1, 1) := by decide +kernel
theorem d_md_width_10 : decode prog_14_method_75_code 10 = .ok (.iload_n 0, 1) := by decide +kernel
theorem d_md_width_11 : decode prog_14_method_75_code 11 = .ok (.bipush 10, 2) := by decide +kernel
theorem d_md_width_13 : decode prog_14_method_75_code 13 = .ok (.idiv, 1) := by decide +kernel
theorem d_md_width_14 : decode prog_14_method_75_code 14 = .ok (.istore_n 2, 1) := by decide +kernel
theorem d_md_width_15 : decode prog_14_method_75_code 15 = .ok (.iload_n 2, 1) := by decide +kernel
theorem d_md_width_16 : decode prog_14_method_75_code 16 = .ok (.ifCond .eq (14), 3) := by decide +kernel
theorem d_md_width_19 : decode prog_14_method_75_code 19 = .ok (.iload_n 2, 1) := by decide +kernel
theorem d_md_width_20 : decode prog_14_method_75_code 20 = .ok (.bipush 10, 2) := by decide +kernel
theorem d_md_width_22 : decode prog_14_method_75_code 22 = .ok (.idiv, 1) := by decide +kernel
theorem d_md_width_23 : decode prog_14_method_75_code 23 = .ok (.istore_n 2, 1) := by decide +kernel
theorem d_md_width_24 : decode prog_14_method_75_code 24 = .ok (.iinc 1 (1), 3) := by decide +kernel
theorem d_md_width_27 : decode prog_14_method_75_code 27 = .ok (.goto (-12), 3) := by decide +kernel
theorem d_md_width_30 : decode prog_14_method_75_code 30 = .ok (.iload_n 1, 1) := by decide +kernel
theorem d_md_width_31 : decode prog_14_method_75_code 31 = .ok (.ireturn, 1) := by decide +kernel
theorem d_md_digitOf_0 : decode prog_14_method_76_code 0 = .ok (.iload_n 0, 1) := by decide +kernel
theorem d_md_digitOf_1 : decode prog_14_method_76_code 1 = .ok (.ifCond .ge (10), 3) := by decide +kernel
theorem d_md_digitOf_4 : decode prog_14_method_76_code 4 = .ok (.iload_n 1, 1) := by decide +kernel
theorem d_md_digitOf_5 : decode prog_14_method_76_code 5 = .ok (.ifCond .ne (6), 3) := by decide +kernel
theorem d_md_digitOf_8 : decode prog_14_method_76_code 8 = .ok (.bipush 45, 2) := by decide +kernel
theorem d_md_digitOf_10 : decode prog_14_method_76_code 10 = .ok (.ireturn, 1) := by decide +kernel
theorem d_md_digitOf_11 : decode prog_14_method_76_code 11 = .ok (.iload_n 0, 1) := by decide +kernel
theorem d_md_digitOf_12 : decode prog_14_method_76_code 12 = .ok (.istore_n 2, 1) := by decide +kernel
theorem d_md_digitOf_13 : decode prog_14_method_76_code 13 = .ok (.iload_n 0, 1) := by decide +kernel
theorem d_md_digitOf_14 : decode prog_14_method_76_code 14 = .ok (.invokestatic 456, 3) := by decide +kernel
theorem d_md_digitOf_17 : decode prog_14_method_76_code 17 = .ok (.iconst 1, 1) := by decide +kernel
theorem d_md_digitOf_18 : decode prog_14_method_76_code 18 = .ok (.isub, 1) := by decide +kernel
theorem d_md_digitOf_19 : decode prog_14_method_76_code 19 = .ok (.istore_n 3, 1) := by decide +kernel
theorem d_md_digitOf_20 : decode prog_14_method_76_code 20 = .ok (.iload_n 3, 1) := by decide +kernel
theorem d_md_digitOf_21 : decode prog_14_method_76_code 21 = .ok (.iload_n 1, 1) := by decide +kernel
theorem d_md_digitOf_22 : decode prog_14_method_76_code 22 = .ok (.if_icmp .le (14), 3) := by decide +kernel
theorem d_md_digitOf_25 : decode prog_14_method_76_code 25 = .ok (.iload_n 2, 1) := by decide +kernel
theorem d_md_digitOf_26 : decode prog_14_method_76_code 26 = .ok (.bipush 10, 2) := by decide +kernel
theorem d_md_digitOf_28 : decode prog_14_method_76_code 28 = .ok (.idiv, 1) := by decide +kernel
theorem d_md_digitOf_29 : decode prog_14_method_76_code 29 = .ok (.istore_n 2, 1) := by decide +kernel
theorem d_md_digitOf_30 : decode prog_14_method_76_code 30 = .ok (.iinc 3 (-1), 3) := by decide +kernel
theorem d_md_digitOf_33 : decode prog_14_method_76_code 33 = .ok (.goto (-13), 3) := by decide +kernel
theorem d_md_digitOf_36 : decode prog_14_method_76_code 36 = .ok (.iload_n 2, 1) := by decide +kernel
theorem d_md_digitOf_37 : decode prog_14_method_76_code 37 = .ok (.bipush 10, 2) := by decide +kernel
theorem d_md_digitOf_39 : decode prog_14_method_76_code 39 = .ok (.irem, 1) := by decide +kernel
theorem d_md_digitOf_40 : decode prog_14_method_76_code 40 = .ok (.istore_n 3, 1) := by decide +kernel
theorem d_md_digitOf_41 : decode prog_14_method_76_code 41 = .ok (.bipush 48, 2) := by decide +kernel
theorem d_md_digitOf_43 : decode prog_14_method_76_code 43 = .ok (.iload_n 3, 1) := by decide +kernel
theorem d_md_digitOf_44 : decode prog_14_method_76_code 44 = .ok (.ifCond .ge (8), 3) := by decide +kernel
theorem d_md_digitOf_47 : decode prog_14_method_76_code 47 = .ok (.iload_n 3, 1) := by decide +kernel
theorem d_md_digitOf_48 : decode prog_14_method_76_code 48 = .ok (.ineg, 1) := by decide +kernel
theorem d_md_digitOf_49 : decode prog_14_method_76_code 49 = .ok (.goto (4), 3) := by decide +kernel
theorem d_md_digitOf_52 : decode prog_14_method_76_code 52 = .ok (.iload_n 3, 1) := by decide +kernel
theorem d_md_digitOf_53 : decode prog_14_method_76_code 53 = .ok (.iadd, 1) := by decide +kernel
theorem d_md_digitOf_54 : decode prog_14_method_76_code 54 = .ok (.ireturn, 1) := by decide +kernel
theorem d_md_layout_0 : decode prog_14_method_77_code 0 = .ok (.aload_n 0, 1) := by decide +kernel
theorem d_md_layout_1 : decode prog_14_method_77_code 1 = .ok (.getfield 153, 3) := by decide +kernel
theorem d_md_layout_4 : decode prog_14_method_77_code 4 = .ok (.iload_n 1, 1) := by decide +kernel
theorem d_md_layout_5 : decode prog_14_method_77_code 5 = .ok (.iaload, 1) := by decide +kernel
theorem d_md_layout_6 : decode prog_14_method_77_code 6 = .ok (.istore_n 2, 1) := by decide +kernel
theorem d_md_layout_7 : decode prog_14_method_77_code 7 = .ok (.iload_n 2, 1) := by decide +kernel
theorem d_md_layout_8 : decode prog_14_method_77_code 8 = .ok (.ifCond .le (7), 3) := by decide +kernel
theorem d_md_layout_11 : decode prog_14_method_77_code 11 = .ok (.iconst 2, 1) := by decide +kernel
theorem d_md_layout_12 : decode prog_14_method_77_code 12 = .ok (.goto (4), 3) := by decide +kernel
theorem d_md_layout_15 : decode prog_14_method_77_code 15 = .ok (.iconst 1, 1) := by decide +kernel
theorem d_md_layout_16 : decode prog_14_method_77_code 16 = .ok (.istore_n 3, 1) := by decide +kernel
theorem d_md_layout_17 : decode prog_14_method_77_code 17 = .ok (.iconst 0, 1) := by decide +kernel
theorem d_md_layout_18 : decode prog_14_method_77_code 18 = .ok (.istore 4, 2) := by decide +kernel
theorem d_md_layout_20 : decode prog_14_method_77_code 20 = .ok (.iload 4, 2) := by decide +kernel
theorem d_md_layout_22 : decode prog_14_method_77_code 22 = .ok (.sipush 130, 3) := by decide +kernel
theorem d_md_layout_25 : decode prog_14_method_77_code 25 = .ok (.if_icmp .ge (19), 3) := by decide +kernel
theorem d_md_layout_28 : decode prog_14_method_77_code 28 = .ok (.aload_n 0, 1) := by decide +kernel
theorem d_md_layout_29 : decode prog_14_method_77_code 29 = .ok (.getfield 171, 3) := by decide +kernel
theorem d_md_layout_32 : decode prog_14_method_77_code 32 = .ok (.iload 4, 2) := by decide +kernel
theorem d_md_layout_34 : decode prog_14_method_77_code 34 = .ok (.ldc_w 459, 3) := by decide +kernel
theorem d_md_layout_37 : decode prog_14_method_77_code 37 = .ok (.iastore, 1) := by decide +kernel
theorem d_md_layout_38 : decode prog_14_method_77_code 38 = .ok (.iinc 4 (1), 3) := by decide +kernel
theorem d_md_layout_41 : decode prog_14_method_77_code 41 = .ok (.goto (-21), 3) := by decide +kernel
theorem d_md_layout_44 : decode prog_14_method_77_code 44 = .ok (.iload_n 2, 1) := by decide +kernel
theorem d_md_layout_45 : decode prog_14_method_77_code 45 = .ok (.iconst 1, 1) := by decide +kernel
theorem d_md_layout_46 : decode prog_14_method_77_code 46 = .ok (.isub, 1) := by decide +kernel
theorem d_md_layout_47 : decode prog_14_method_77_code 47 = .ok (.istore 4, 2) := by decide +kernel
theorem d_md_layout_49 : decode prog_14_method_77_code 49 = .ok (.iload 4, 2) := by decide +kernel
theorem d_md_layout_51 : decode prog_14_method_77_code 51 = .ok (.ifCond .lt (106), 3) := by decide +kernel
theorem d_md_layout_54 : decode prog_14_method_77_code 54 = .ok (.aload_n 0, 1) := by decide +kernel
theorem d_md_layout_55 : decode prog_14_method_77_code 55 = .ok (.getfield 156, 3) := by decide +kernel
theorem d_md_layout_58 : decode prog_14_method_77_code 58 = .ok (.bipush 120, 2) := by decide +kernel
theorem d_md_layout_60 : decode prog_14_method_77_code 60 = .ok (.iload_n 1, 1) := by decide +kernel
theorem d_md_layout_61 : decode prog_14_method_77_code 61 = .ok (.imul, 1) := by decide +kernel
theorem d_md_layout_62 : decode prog_14_method_77_code 62 = .ok (.iload 4, 2) := by decide +kernel
theorem d_md_layout_64 : decode prog_14_method_77_code 64 = .ok (.iadd, 1) := by decide +kernel
theorem d_md_layout_65 : decode prog_14_method_77_code 65 = .ok (.iaload, 1) := by decide +kernel
theorem d_md_layout_66 : decode prog_14_method_77_code 66 = .ok (.istore 5, 2) := by decide +kernel
theorem d_md_layout_68 : decode prog_14_method_77_code 68 = .ok (.iload 5, 2) := by decide +kernel
theorem d_md_layout_70 : decode prog_14_method_77_code 70 = .ok (.aload_n 0, 1) := by decide +kernel
theorem d_md_layout_71 : decode prog_14_method_77_code 71 = .ok (.getfield 159, 3) := by decide +kernel
theorem d_md_layout_74 : decode prog_14_method_77_code 74 = .ok (.bipush 120, 2) := by decide +kernel
theorem d_md_layout_76 : decode prog_14_method_77_code 76 = .ok (.iload_n 1, 1) := by decide +kernel
theorem d_md_layout_77 : decode prog_14_method_77_code 77 = .ok (.imul, 1) := by decide +kernel
theorem d_md_layout_78 : decode prog_14_method_77_code 78 = .ok (.iload 4, 2) := by decide +kernel
theorem d_md_layout_80 : decode prog_14_method_77_code 80 = .ok (.iadd, 1) := by decide +kernel
theorem d_md_layout_81 : decode prog_14_method_77_code 81 = .ok (.iaload, 1) := by decide +kernel
theorem d_md_layout_82 : decode prog_14_method_77_code 82 = .ok (.invokestatic 456, 3) := by decide +kernel
theorem d_md_layout_85 : decode prog_14_method_77_code 85 = .ok (.iadd, 1) := by decide +kernel
theorem d_md_layout_86 : decode prog_14_method_77_code 86 = .ok (.istore 6, 2) := by decide +kernel
theorem d_md_layout_88 : decode prog_14_method_77_code 88 = .ok (.iconst 2, 1) := by decide +kernel
theorem d_md_layout_89 : decode prog_14_method_77_code 89 = .ok (.istore 7, 2) := by decide +kernel
theorem d_md_layout_91 : decode prog_14_method_77_code 91 = .ok (.aload_n 0, 1) := by decide +kernel
theorem d_md_layout_92 : decode prog_14_method_77_code 92 = .ok (.getfield 171, 3) := by decide +kernel
theorem d_md_layout_95 : decode prog_14_method_77_code 95 = .ok (.iload 7, 2) := by decide +kernel
theorem d_md_layout_97 : decode prog_14_method_77_code 97 = .ok (.iaload, 1) := by decide +kernel
theorem d_md_layout_98 : decode prog_14_method_77_code 98 = .ok (.iload 6, 2) := by decide +kernel
theorem d_md_layout_100 : decode prog_14_method_77_code 100 = .ok (.if_icmp .gt (18), 3) := by decide +kernel
theorem d_md_layout_103 : decode prog_14_method_77_code 103 = .ok (.aload_n 0, 1) := by decide +kernel
theorem d_md_layout_104 : decode prog_14_method_77_code 104 = .ok (.getfield 171, 3) := by decide +kernel
theorem d_md_layout_107 : decode prog_14_method_77_code 107 = .ok (.iload 7, 2) := by decide +kernel
theorem d_md_layout_109 : decode prog_14_method_77_code 109 = .ok (.iload 5, 2) := by decide +kernel
theorem d_md_layout_111 : decode prog_14_method_77_code 111 = .ok (.iastore, 1) := by decide +kernel
theorem d_md_layout_112 : decode prog_14_method_77_code 112 = .ok (.iinc 7 (1), 3) := by decide +kernel
theorem d_md_layout_115 : decode prog_14_method_77_code 115 = .ok (.goto (-24), 3) := by decide +kernel
theorem d_md_layout_118 : decode prog_14_method_77_code 118 = .ok (.aload_n 0, 1) := by decide +kernel
theorem d_md_layout_119 : decode prog_14_method_77_code 119 = .ok (.getfield 171, 3) := by decide +kernel
theorem d_md_layout_122 : decode prog_14_method_77_code 122 = .ok (.iload 7, 2) := by decide +kernel
theorem d_md_layout_124 : decode prog_14_method_77_code 124 = .ok (.iload 5, 2) := by decide +kernel
theorem d_md_layout_126 : decode prog_14_method_77_code 126 = .ok (.iastore, 1) := by decide +kernel
theorem d_md_layout_127 : decode prog_14_method_77_code 127 = .ok (.aload_n 0, 1) := by decide +kernel
theorem d_md_layout_128 : decode prog_14_method_77_code 128 = .ok (.getfield 168, 3) := by decide +kernel
theorem d_md_layout_131 : decode prog_14_method_77_code 131 = .ok (.iload 4, 2) := by decide +kernel
theorem d_md_layout_133 : decode prog_14_method_77_code 133 = .ok (.iload 7, 2) := by decide +kernel
theorem d_md_layout_135 : decode prog_14_method_77_code 135 = .ok (.iastore, 1) := by decide +kernel
theorem d_md_layout_136 : decode prog_14_method_77_code 136 = .ok (.iload 7, 2) := by decide +kernel
theorem d_md_layout_138 : decode prog_14_method_77_code 138 = .ok (.iload_n 3, 1) := by decide +kernel
theorem d_md_layout_139 : decode prog_14_method_77_code 139 = .ok (.if_icmp .lt (10), 3) := by decide +kernel
theorem d_md_layout_142 : decode prog_14_method_77_code 142 = .ok (.iload 7, 2) := by decide +kernel
theorem d_md_layout_144 : decode prog_14_method_77_code 144 = .ok (.iconst 1, 1) := by decide +kernel
theorem d_md_layout_145 : decode prog_14_method_77_code 145 = .ok (.iadd, 1) := by decide +kernel
theorem d_md_layout_146 : decode prog_14_method_77_code 146 = .ok (.goto (4), 3) := by decide +kernel
theorem d_md_layout_149 : decode prog_14_method_77_code 149 = .ok (.iload_n 3, 1) := by decide +kernel
theorem d_md_layout_150 : decode prog_14_method_77_code 150 = .ok (.istore_n 3, 1) := by decide +kernel
theorem d_md_layout_151 : decode prog_14_method_77_code 151 = .ok (.iinc 4 (-1), 3) := by decide +kernel
theorem d_md_layout_154 : decode prog_14_method_77_code 154 = .ok (.goto (-105), 3) := by decide +kernel
theorem d_md_layout_157 : decode prog_14_method_77_code 157 = .ok (.iload_n 3, 1) := by decide +kernel
theorem d_md_layout_158 : decode prog_14_method_77_code 158 = .ok (.ireturn, 1) := by decide +kernel
theorem d_md_lines_0 : decode prog_14_method_78_code 0 = .ok (.aload_n 0, 1) := by decide +kernel
theorem d_md_lines_1 : decode prog_14_method_78_code 1 = .ok (.iload_n 1, 1) := by decide +kernel
theorem d_md_lines_2 : decode prog_14_method_78_code 2 = .ok (.invokevirtual 451, 3) := by decide +kernel
theorem d_md_lines_5 : decode prog_14_method_78_code 5 = .ok (.ifCond .eq (20), 3) := by decide +kernel
theorem d_md_lines_8 : decode prog_14_method_78_code 8 = .ok (.aload_n 0, 1) := by decide +kernel
theorem d_md_lines_9 : decode prog_14_method_78_code 9 = .ok (.getfield 153, 3) := by decide +kernel
theorem d_md_lines_12 : decode prog_14_method_78_code 12 = .ok (.iload_n 1, 1) := by decide +kernel
theorem d_md_lines_13 : decode prog_14_method_78_code 13 = .ok (.iaload, 1) := by decide +kernel
theorem d_md_lines_14 : decode prog_14_method_78_code 14 = .ok (.ifCond .lt (11), 3) := by decide +kernel
theorem d_md_lines_17 : decode prog_14_method_78_code 17 = .ok (.aload_n 0, 1) := by decide +kernel
theorem d_md_lines_18 : decode prog_14_method_78_code 18 = .ok (.iload_n 1, 1) := by decide +kernel
theorem d_md_lines_19 : decode prog_14_method_78_code 19 = .ok (.invokevirtual 460, 3) := by decide +kernel
theorem d_md_lines_22 : decode prog_14_method_78_code 22 = .ok (.goto (4), 3) := by decide +kernel
theorem d_md_lines_25 : decode prog_14_method_78_code 25 = .ok (.iconst 0, 1) := by decide +kernel
theorem d_md_lines_26 : decode prog_14_method_78_code 26 = .ok (.ireturn, 1) := by decide +kernel
theorem d_md_drawn_0 : decode prog_14_method_79_code 0 = .ok (.iload_n 2, 1) := by decide +kernel
theorem d_md_drawn_1 : decode prog_14_method_79_code 1 = .ok (.ifCond .lt (16), 3) := by decide +kernel
theorem d_md_drawn_4 : decode prog_14_method_79_code 4 = .ok (.iload_n 2, 1) := by decide +kernel
theorem d_md_drawn_5 : decode prog_14_method_79_code 5 = .ok (.aload_n 0, 1) := by decide +kernel
theorem d_md_drawn_6 : decode prog_14_method_79_code 6 = .ok (.iload_n 1, 1) := by decide +kernel
theorem d_md_drawn_7 : decode prog_14_method_79_code 7 = .ok (.invokevirtual 463, 3) := by decide +kernel
theorem d_md_drawn_10 : decode prog_14_method_79_code 10 = .ok (.if_icmp .ge (7), 3) := by decide +kernel
theorem d_md_drawn_13 : decode prog_14_method_79_code 13 = .ok (.iload_n 3, 1) := by decide +kernel
theorem d_md_drawn_14 : decode prog_14_method_79_code 14 = .ok (.ifCond .ge (5), 3) := by decide +kernel
theorem d_md_drawn_17 : decode prog_14_method_79_code 17 = .ok (.iconst 0, 1) := by decide +kernel
theorem d_md_drawn_18 : decode prog_14_method_79_code 18 = .ok (.ireturn, 1) := by decide +kernel
theorem d_md_drawn_19 : decode prog_14_method_79_code 19 = .ok (.iload_n 2, 1) := by decide +kernel
theorem d_md_drawn_20 : decode prog_14_method_79_code 20 = .ok (.ifCond .ne (39), 3) := by decide +kernel
theorem d_md_drawn_23 : decode prog_14_method_79_code 23 = .ok (.iload_n 3, 1) := by decide +kernel
theorem d_md_drawn_24 : decode prog_14_method_79_code 24 = .ok (.aload_n 0, 1) := by decide +kernel
theorem d_md_drawn_25 : decode prog_14_method_79_code 25 = .ok (.getfield 165, 3) := by decide +kernel
theorem d_md_drawn_28 : decode prog_14_method_79_code 28 = .ok (.iload_n 1, 1) := by decide +kernel
theorem d_md_drawn_29 : decode prog_14_method_79_code 29 = .ok (.iaload, 1) := by decide +kernel
theorem d_md_drawn_30 : decode prog_14_method_79_code 30 = .ok (.aload_n 0, 1) := by decide +kernel
theorem d_md_drawn_31 : decode prog_14_method_79_code 31 = .ok (.getfield 162, 3) := by decide +kernel
theorem d_md_drawn_34 : decode prog_14_method_79_code 34 = .ok (.iload_n 1, 1) := by decide +kernel
theorem d_md_drawn_35 : decode prog_14_method_79_code 35 = .ok (.iaload, 1) := by decide +kernel
theorem d_md_drawn_36 : decode prog_14_method_79_code 36 = .ok (.isub, 1) := by decide +kernel
theorem d_md_drawn_37 : decode prog_14_method_79_code 37 = .ok (.if_icmp .ge (19), 3) := by decide +kernel
theorem d_md_drawn_40 : decode prog_14_method_79_code 40 = .ok (.aload_n 0, 1) := by decide +kernel
theorem d_md_drawn_41 : decode prog_14_method_79_code 41 = .ok (.getfield 134, 3) := by decide +kernel
theorem d_md_drawn_44 : decode prog_14_method_79_code 44 = .ok (.aload_n 0, 1) := by decide +kernel
theorem d_md_drawn_45 : decode prog_14_method_79_code 45 = .ok (.getfield 162, 3) := by decide +kernel
theorem d_md_drawn_48 : decode prog_14_method_79_code 48 = .ok (.iload_n 1, 1) := by decide +kernel
theorem d_md_drawn_49 : decode prog_14_method_79_code 49 = .ok (.iaload, 1) := by decide +kernel
theorem d_md_drawn_50 : decode prog_14_method_79_code 50 = .ok (.iload_n 3, 1) := by decide +kernel
theorem d_md_drawn_51 : decode prog_14_method_79_code 51 = .ok (.iadd, 1) := by decide +kernel
theorem d_md_drawn_52 : decode prog_14_method_79_code 52 = .ok (.iaload, 1) := by decide +kernel
theorem d_md_drawn_53 : decode prog_14_method_79_code 53 = .ok (.goto (5), 3) := by decide +kernel
theorem d_md_drawn_56 : decode prog_14_method_79_code 56 = .ok (.bipush 32, 2) := by decide +kernel
theorem d_md_drawn_58 : decode prog_14_method_79_code 58 = .ok (.ireturn, 1) := by decide +kernel
theorem d_md_drawn_59 : decode prog_14_method_79_code 59 = .ok (.iconst 0, 1) := by decide +kernel
theorem d_md_drawn_60 : decode prog_14_method_79_code 60 = .ok (.istore 4, 2) := by decide +kernel
theorem d_md_drawn_62 : decode prog_14_method_79_code 62 = .ok (.iload 4, 2) := by decide +kernel
theorem d_md_drawn_64 : decode prog_14_method_79_code 64 = .ok (.aload_n 0, 1) := by decide +kernel
theorem d_md_drawn_65 : decode prog_14_method_79_code 65 = .ok (.getfield 153, 3) := by decide +kernel
theorem d_md_drawn_68 : decode prog_14_method_79_code 68 = .ok (.iload_n 1, 1) := by decide +kernel
theorem d_md_drawn_69 : decode prog_14_method_79_code 69 = .ok (.iaload, 1) := by decide +kernel
theorem d_md_drawn_70 : decode prog_14_method_79_code 70 = .ok (.if_icmp .ge (96), 3) := by decide +kernel
theorem d_md_drawn_73 : decode prog_14_method_79_code 73 = .ok (.aload_n 0, 1) := by decide +kernel
theorem d_md_drawn_74 : decode prog_14_method_79_code 74 = .ok (.getfield 156, 3) := by decide +kernel
theorem d_md_drawn_77 : decode prog_14_method_79_code 77 = .ok (.bipush 120, 2) := by decide +kernel
theorem d_md_drawn_79 : decode prog_14_method_79_code 79 = .ok (.iload_n 1, 1) := by decide +kernel
theorem d_md_drawn_80 : decode prog_14_method_79_code 80 = .ok (.imul, 1) := by decide +kernel
theorem d_md_drawn_81 : decode prog_14_method_79_code 81 = .ok (.iload 4, 2) := by decide +kernel
theorem d_md_drawn_83 : decode prog_14_method_79_code 83 = .ok (.iadd, 1) := by decide +kernel
theorem d_md_drawn_84 : decode prog_14_method_79_code 84 = .ok (.iaload, 1) := by decide +kernel
theorem d_md_drawn_85 : decode prog_14_method_79_code 85 = .ok (.istore 5, 2) := by decide +kernel
theorem d_md_drawn_87 : decode prog_14_method_79_code 87 = .ok (.aload_n 0, 1) := by decide +kernel
theorem d_md_drawn_88 : decode prog_14_method_79_code 88 = .ok (.getfield 159, 3) := by decide +kernel
theorem d_md_drawn_91 : decode prog_14_method_79_code 91 = .ok (.bipush 120, 2) := by decide +kernel
theorem d_md_drawn_93 : decode prog_14_method_79_code 93 = .ok (.iload_n 1, 1) := by decide +kernel
theorem d_md_drawn_94 : decode prog_14_method_79_code 94 = .ok (.imul, 1) := by decide +kernel
theorem d_md_drawn_95 : decode prog_14_method_79_code 95 = .ok (.iload 4, 2) := by decide +kernel
theorem d_md_drawn_97 : decode prog_14_method_79_code 97 = .ok (.iadd, 1) := by decide +kernel
theorem d_md_drawn_98 : decode prog_14_method_79_code 98 = .ok (.iaload, 1) := by decide +kernel
theorem d_md_drawn_99 : decode prog_14_method_79_code 99 = .ok (.istore 6, 2) := by decide +kernel
theorem d_md_drawn_101 : decode prog_14_method_79_code 101 = .ok (.iload_n 2, 1) := by decide +kernel
theorem d_md_drawn_102 : decode prog_14_method_79_code 102 = .ok (.aload_n 0, 1) := by decide +kernel
theorem d_md_drawn_103 : decode prog_14_method_79_code 103 = .ok (.getfield 168, 3) := by decide +kernel
theorem d_md_drawn_106 : decode prog_14_method_79_code 106 = .ok (.iload 4, 2) := by decide +kernel
theorem d_md_drawn_108 : decode prog_14_method_79_code 108 = .ok (.iaload, 1) := by decide +kernel
theorem d_md_drawn_109 : decode prog_14_method_79_code 109 = .ok (.if_icmp .ge (12), 3) := by decide +kernel
theorem d_md_drawn_112 : decode prog_14_method_79_code 112 = .ok (.iload_n 3, 1) := by decide +kernel
theorem d_md_drawn_113 : decode prog_14_method_79_code 113 = .ok (.iload 5, 2) := by decide +kernel
theorem d_md_drawn_115 : decode prog_14_method_79_code 115 = .ok (.if_icmp .ne (6), 3) := by decide +kernel
theorem d_md_drawn_118 : decode prog_14_method_79_code 118 = .ok (.bipush 124, 2) := by decide +kernel
theorem d_md_drawn_120 : decode prog_14_method_79_code 120 = .ok (.ireturn, 1) := by decide +kernel
theorem d_md_drawn_121 : decode prog_14_method_79_code 121 = .ok (.iload_n 2, 1) := by decide +kernel
theorem d_md_drawn_122 : decode prog_14_method_79_code 122 = .ok (.aload_n 0, 1) := by decide +kernel
theorem d_md_drawn_123 : decode prog_14_method_79_code 123 = .ok (.getfield 168, 3) := by decide +kernel
theorem d_md_drawn_126 : decode prog_14_method_79_code 126 = .ok (.iload 4, 2) := by decide +kernel
theorem d_md_drawn_128 : decode prog_14_method_79_code 128 = .ok (.iaload, 1) := by decide +kernel
theorem d_md_drawn_129 : decode prog_14_method_79_code 129 = .ok (.if_icmp .ne (31), 3) := by decide +kernel
theorem d_md_drawn_132 : decode prog_14_method_79_code 132 = .ok (.iload_n 3, 1) := by decide +kernel
theorem d_md_drawn_133 : decode prog_14_method_79_code 133 = .ok (.iload 5, 2) := by decide +kernel
theorem d_md_drawn_135 : decode prog_14_method_79_code 135 = .ok (.if_icmp .lt (25), 3) := by decide +kernel
theorem d_md_drawn_138 : decode prog_14_method_79_code 138 = .ok (.iload_n 3, 1) := by decide +kernel
theorem d_md_drawn_139 : decode prog_14_method_79_code 139 = .ok (.iload 5, 2) := by decide +kernel
theorem d_md_drawn_141 : decode prog_14_method_79_code 141 = .ok (.iload 6, 2) := by decide +kernel
theorem d_md_drawn_143 : decode prog_14_method_79_code 143 = .ok (.invokestatic 456, 3) := by decide +kernel
theorem d_md_drawn_146 : decode prog_14_method_79_code 146 = .ok (.iadd, 1) := by decide +kernel
theorem d_md_drawn_147 : decode prog_14_method_79_code 147 = .ok (.if_icmp .ge (13), 3) := by decide +kernel
theorem d_md_drawn_150 : decode prog_14_method_79_code 150 = .ok (.iload 6, 2) := by decide +kernel
theorem d_md_drawn_152 : decode prog_14_method_79_code 152 = .ok (.iload_n 3, 1) := by decide +kernel
theorem d_md_drawn_153 : decode prog_14_method_79_code 153 = .ok (.iload 5, 2) := by decide +kernel
theorem d_md_drawn_155 : decode prog_14_method_79_code 155 = .ok (.isub, 1) := by decide +kernel
theorem d_md_drawn_156 : decode prog_14_method_79_code 156 = .ok (.invokestatic 466, 3) := by decide +kernel
theorem d_md_drawn_159 : decode prog_14_method_79_code 159 = .ok (.ireturn, 1) := by decide +kernel
theorem d_md_drawn_160 : decode prog_14_method_79_code 160 = .ok (.iinc 4 (1), 3) := by decide +kernel
theorem d_md_drawn_163 : decode prog_14_method_79_code 163 = .ok (.goto (-101), 3) := by decide +kernel
theorem d_md_drawn_166 : decode prog_14_method_79_code 166 = .ok (.bipush 32, 2) := by decide +kernel
theorem d_md_drawn_168 : decode prog_14_method_79_code 168 = .ok (.ireturn, 1) := by decide +kernel
