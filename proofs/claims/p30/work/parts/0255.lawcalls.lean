theorem dJ9_max_7cf53_0 : decode cJ9_max_7cf53 0 = .ok (.iload_n 0, 1) := by decide +kernel
theorem dJ9_max_7cf53_1 : decode cJ9_max_7cf53 1 = .ok (.iload_n 1, 1) := by decide +kernel
theorem dJ9_max_7cf53_2 : decode cJ9_max_7cf53 2 = .ok (.if_icmp .lt 7, 3) := by decide +kernel
theorem dJ9_max_7cf53_5 : decode cJ9_max_7cf53 5 = .ok (.iload_n 0, 1) := by decide +kernel
theorem dJ9_max_7cf53_6 : decode cJ9_max_7cf53 6 = .ok (.goto 4, 3) := by decide +kernel
theorem dJ9_max_7cf53_9 : decode cJ9_max_7cf53 9 = .ok (.iload_n 1, 1) := by decide +kernel
theorem dJ9_max_7cf53_10 : decode cJ9_max_7cf53 10 = .ok (.ireturn, 1) := by decide +kernel
theorem dJ9_min_7cf53_0 : decode cJ9_min_7cf53 0 = .ok (.iload_n 0, 1) := by decide +kernel
theorem dJ9_min_7cf53_1 : decode cJ9_min_7cf53 1 = .ok (.iload_n 1, 1) := by decide +kernel
theorem dJ9_min_7cf53_2 : decode cJ9_min_7cf53 2 = .ok (.if_icmp .gt 7, 3) := by decide +kernel
theorem dJ9_min_7cf53_5 : decode cJ9_min_7cf53 5 = .ok (.iload_n 0, 1) := by decide +kernel
theorem dJ9_min_7cf53_6 : decode cJ9_min_7cf53 6 = .ok (.goto 4, 3) := by decide +kernel
theorem dJ9_min_7cf53_9 : decode cJ9_min_7cf53 9 = .ok (.iload_n 1, 1) := by decide +kernel
theorem dJ9_min_7cf53_10 : decode cJ9_min_7cf53 10 = .ok (.ireturn, 1) := by decide +kernel
theorem dL_cell_0 : decode cL_cell 0 = .ok (.iload_n 1, 1) := by decide +kernel
theorem dL_cell_1 : decode cL_cell 1 = .ok (.aload_n 0, 1) := by decide +kernel
theorem dL_cell_2 : decode cL_cell 2 = .ok (.arraylength, 1) := by decide +kernel
theorem dL_cell_3 : decode cL_cell 3 = .ok (.if_icmp .ge 9, 3) := by decide +kernel
theorem dL_cell_6 : decode cL_cell 6 = .ok (.aload_n 0, 1) := by decide +kernel
theorem dL_cell_7 : decode cL_cell 7 = .ok (.iload_n 1, 1) := by decide +kernel
theorem dL_cell_8 : decode cL_cell 8 = .ok (.iaload, 1) := by decide +kernel
theorem dL_cell_9 : decode cL_cell 9 = .ok (.goto 11, 3) := by decide +kernel
theorem dL_cell_12 : decode cL_cell 12 = .ok (.ldc 7, 2) := by decide +kernel
theorem dL_cell_14 : decode cL_cell 14 = .ok (.iload_n 1, 1) := by decide +kernel
theorem dL_cell_15 : decode cL_cell 15 = .ok (.sipush 503, 3) := by decide +kernel
theorem dL_cell_18 : decode cL_cell 18 = .ok (.iadd, 1) := by decide +kernel
theorem dL_cell_19 : decode cL_cell 19 = .ok (.imul, 1) := by decide +kernel
theorem dL_cell_20 : decode cL_cell 20 = .ok (.ireturn, 1) := by decide +kernel
theorem dL_up_0 : decode cL_up 0 = .ok (.iload_n 0, 1) := by decide +kernel
theorem dL_up_1 : decode cL_up 1 = .ok (.ldc 8, 2) := by decide +kernel
theorem dL_up_3 : decode cL_up 3 = .ok (.iand, 1) := by decide +kernel
theorem dL_up_4 : decode cL_up 4 = .ok (.iload_n 1, 1) := by decide +kernel
theorem dL_up_5 : decode cL_up 5 = .ok (.irem, 1) := by decide +kernel
theorem dL_up_6 : decode cL_up 6 = .ok (.ireturn, 1) := by decide +kernel
set_option maxRecDepth 20000 in
theorem ggL_plans_L_cell : GoodIn wsL_plans wsL_cell := goodIn_r _ [4, 5] (by decide +kernel) (by decide +kernel)
set_option maxRecDepth 20000 in
theorem gL_plans_L_cell : GoodIn wsL_plans (va_wsS RL 9 yL_cell wsL_cell) := goodIn_app (goodIn_of _ (by decide +kernel)) ggL_plans_L_cell
set_option maxRecDepth 20000 in
theorem ggL_plans_L_up : GoodIn wsL_plans wsL_up := goodIn_r _ [8, 9] (by decide +kernel) (by decide +kernel)
set_option maxRecDepth 20000 in
theorem gL_plans_L_up : GoodIn wsL_plans (va_wsS RL 15 yL_up wsL_up) := goodIn_app (goodIn_of _ (by decide +kernel)) ggL_plans_L_up
set_option maxRecDepth 20000 in
theorem ggL_plans_X5_addRoof : GoodIn wsL_plans wsX5_addRoof := goodIn_ca (goodIn_ca (goodIn_r _ [14, 15, 16, 17, 18, 19, 20, 21, 22, 13, 23, 24, 25, 26, 27, 28, 29, 30, 31, 32, 33, 34, 35, 36, 37, 38, 39, 40, 41, 42, 43, 44, 45, 46, 47, 48, 49, 50, 51, 52, 53, 54, 55, 56, 57, 58, 59, 60, 61, 62, 63, 64, 65, 66, 67, 68, 69, 70, 71, 72, 73, 74, 75, 76, 77, 78, 79, 80, 81, 82, 83, 84, 85, 86, 87, 88, 89, 90, 91, 92, 93, 94, 95, 96, 97, 98, 99, 100, 109, 110, 111, 112, 113, 114, 115, 116, 117, 118, 119, 120, 121, 122, 123, 124, 125, 126, 127, 128, 129, 130, 131, 132, 133, 134, 135, 136, 137, 138, 139, 140, 141, 142] (by decide +kernel) (by decide +kernel)) (goodIn_sub (fun _ h => List.mem_cons_of_mem _ (List.mem_append_left _ (List.mem_append_right _ h))) (by decide +kernel))) (goodIn_sub (fun _ h => List.mem_cons_of_mem _ (List.mem_append_right _ h)) (by decide +kernel))
set_option maxRecDepth 20000 in
theorem gL_plans_X5_addRoof : GoodIn wsL_plans (wsV RL 19 RX5 yX5_addRoof wsX5_addRoof) := goodIn_app (goodIn_of _ (by decide +kernel)) ggL_plans_X5_addRoof
set_option maxRecDepth 20000 in
theorem ggL_plans_X5_addUser : GoodIn wsL_plans wsX5_addUser := goodIn_ca (goodIn_ca (goodIn_r _ [104, 15, 16, 18, 105, 106, 107, 21, 22, 13, 23, 24, 25, 26, 27, 28, 29, 30, 31, 32, 33, 34, 35, 36, 37, 38, 39, 40, 41, 42, 43, 44, 45, 46, 47, 48, 49, 50, 51, 52, 53, 54, 55, 56, 57, 58, 59, 60, 61, 62, 63, 64, 65, 66, 67, 68, 69, 70, 71, 72, 73, 74, 75, 76, 77, 78, 79, 80, 81, 82, 83, 84, 85, 86, 87, 88, 89, 90, 91, 92, 93, 94, 95, 96, 97, 98, 99, 108, 109, 110, 111, 112, 113, 114, 115, 116, 117, 118, 119, 120, 121, 122, 123, 124, 125, 126, 127, 128, 129, 136, 137, 138, 130, 131, 132, 133, 134, 135, 139, 140, 141, 142] (by decide +kernel) (by decide +kernel)) (goodIn_sub (fun _ h => List.mem_cons_of_mem _ (List.mem_append_left _ (List.mem_append_right _ h))) (by decide +kernel))) (goodIn_sub (fun _ h => List.mem_cons_of_mem _ (List.mem_append_right _ h)) (by decide +kernel))
set_option maxRecDepth 20000 in
theorem gL_plans_X5_addUser : GoodIn wsL_plans (wsV RL 25 RX5 yX5_addUser wsX5_addUser) := goodIn_app (goodIn_of _ (by decide +kernel)) ggL_plans_X5_addUser
theorem dL_plans_0 : decode cL_plans 0 = .ok (.iconst 1, 1) := by decide +kernel
theorem dL_plans_1 : decode cL_plans 1 = .ok (.istore_n 3, 1) := by decide +kernel
theorem dL_plans_2 : decode cL_plans 2 = .ok (.aload_n 2, 1) := by decide +kernel
theorem dL_plans_3 : decode cL_plans 3 = .ok (.iconst 0, 1) := by decide +kernel
theorem dL_plans_4 : decode cL_plans 4 = .ok (.invokestatic 9, 3) := by decide +kernel
theorem dL_plans_7 : decode cL_plans 7 = .ok (.bipush 6, 2) := by decide +kernel
theorem dL_plans_9 : decode cL_plans 9 = .ok (.invokestatic 15, 3) := by decide +kernel
theorem dL_plans_12 : decode cL_plans 12 = .ok (.istore 4, 2) := by decide +kernel
theorem dL_plans_14 : decode cL_plans 14 = .ok (.iconst 0, 1) := by decide +kernel
theorem dL_plans_15 : decode cL_plans 15 = .ok (.istore 5, 2) := by decide +kernel
theorem dL_plans_17 : decode cL_plans 17 = .ok (.iload 5, 2) := by decide +kernel
theorem dL_plans_19 : decode cL_plans 19 = .ok (.iload 4, 2) := by decide +kernel
theorem dL_plans_21 : decode cL_plans 21 = .ok (.if_icmp .ge 210, 3) := by decide +kernel
theorem dL_plans_24 : decode cL_plans 24 = .ok (.aload_n 2, 1) := by decide +kernel
theorem dL_plans_25 : decode cL_plans 25 = .ok (.iconst 1, 1) := by decide +kernel
theorem dL_plans_26 : decode cL_plans 26 = .ok (.iload 5, 2) := by decide +kernel
theorem dL_plans_28 : decode cL_plans 28 = .ok (.iadd, 1) := by decide +kernel
theorem dL_plans_29 : decode cL_plans 29 = .ok (.invokestatic 9, 3) := by decide +kernel
theorem dL_plans_32 : decode cL_plans 32 = .ok (.istore 6, 2) := by decide +kernel
theorem dL_plans_34 : decode cL_plans 34 = .ok (.iconst 2, 1) := by decide +kernel
theorem dL_plans_35 : decode cL_plans 35 = .ok (.iconst 2, 1) := by decide +kernel
theorem dL_plans_36 : decode cL_plans 36 = .ok (.iload 6, 2) := by decide +kernel
theorem dL_plans_38 : decode cL_plans 38 = .ok (.sipush 240, 3) := by decide +kernel
theorem dL_plans_41 : decode cL_plans 41 = .ok (.invokestatic 15, 3) := by decide +kernel
theorem dL_plans_44 : decode cL_plans 44 = .ok (.imul, 1) := by decide +kernel
theorem dL_plans_45 : decode cL_plans 45 = .ok (.iadd, 1) := by decide +kernel
theorem dL_plans_46 : decode cL_plans 46 = .ok (.istore 7, 2) := by decide +kernel
theorem dL_plans_48 : decode cL_plans 48 = .ok (.iload 5, 2) := by decide +kernel
theorem dL_plans_50 : decode cL_plans 50 = .ok (.ifCond .ne 8, 3) := by decide +kernel
theorem dL_plans_53 : decode cL_plans 53 = .ok (.bipush 100, 2) := by decide +kernel
theorem dL_plans_55 : decode cL_plans 55 = .ok (.goto 15, 3) := by decide +kernel
theorem dL_plans_58 : decode cL_plans 58 = .ok (.iconst 1, 1) := by decide +kernel
theorem dL_plans_59 : decode cL_plans 59 = .ok (.iload 6, 2) := by decide +kernel
theorem dL_plans_61 : decode cL_plans 61 = .ok (.bipush 8, 2) := by decide +kernel
theorem dL_plans_63 : decode cL_plans 63 = .ok (.ishr, 1) := by decide +kernel
theorem dL_plans_64 : decode cL_plans 64 = .ok (.bipush 100, 2) := by decide +kernel
theorem dL_plans_66 : decode cL_plans 66 = .ok (.invokestatic 15, 3) := by decide +kernel
theorem dL_plans_69 : decode cL_plans 69 = .ok (.iadd, 1) := by decide +kernel
theorem dL_plans_70 : decode cL_plans 70 = .ok (.istore 8, 2) := by decide +kernel
theorem dL_plans_72 : decode cL_plans 72 = .ok (.iconst 2, 1) := by decide +kernel
theorem dL_plans_73 : decode cL_plans 73 = .ok (.iload 6, 2) := by decide +kernel
theorem dL_plans_75 : decode cL_plans 75 = .ok (.iconst 4, 1) := by decide +kernel
theorem dL_plans_76 : decode cL_plans 76 = .ok (.ishr, 1) := by decide +kernel
theorem dL_plans_77 : decode cL_plans 77 = .ok (.sipush 300, 3) := by decide +kernel
theorem dL_plans_80 : decode cL_plans 80 = .ok (.invokestatic 15, 3) := by decide +kernel
theorem dL_plans_83 : decode cL_plans 83 = .ok (.imul, 1) := by decide +kernel
theorem dL_plans_84 : decode cL_plans 84 = .ok (.istore 9, 2) := by decide +kernel
theorem dL_plans_86 : decode cL_plans 86 = .ok (.iconst 2, 1) := by decide +kernel
theorem dL_plans_87 : decode cL_plans 87 = .ok (.iconst 2, 1) := by decide +kernel
theorem dL_plans_88 : decode cL_plans 88 = .ok (.iload 6, 2) := by decide +kernel
theorem dL_plans_90 : decode cL_plans 90 = .ok (.bipush 12, 2) := by decide +kernel
theorem dL_plans_92 : decode cL_plans 92 = .ok (.ishr, 1) := by decide +kernel
theorem dL_plans_93 : decode cL_plans 93 = .ok (.sipush 3000, 3) := by decide +kernel
theorem dL_plans_96 : decode cL_plans 96 = .ok (.invokestatic 15, 3) := by decide +kernel
theorem dL_plans_99 : decode cL_plans 99 = .ok (.imul, 1) := by decide +kernel
theorem dL_plans_100 : decode cL_plans 100 = .ok (.iadd, 1) := by decide +kernel
theorem dL_plans_101 : decode cL_plans 101 = .ok (.istore 10, 2) := by decide +kernel
theorem dL_plans_103 : decode cL_plans 103 = .ok (.iload_n 3, 1) := by decide +kernel
theorem dL_plans_104 : decode cL_plans 104 = .ok (.ifCond .eq 24, 3) := by decide +kernel
theorem dL_plans_107 : decode cL_plans 107 = .ok (.aload_n 0, 1) := by decide +kernel
theorem dL_plans_108 : decode cL_plans 108 = .ok (.iload 7, 2) := by decide +kernel
theorem dL_plans_110 : decode cL_plans 110 = .ok (.iload 8, 2) := by decide +kernel
theorem dL_plans_112 : decode cL_plans 112 = .ok (.iload 9, 2) := by decide +kernel
theorem dL_plans_114 : decode cL_plans 114 = .ok (.iload 10, 2) := by decide +kernel
theorem dL_plans_116 : decode cL_plans 116 = .ok (.invokevirtual 19, 3) := by decide +kernel
theorem dL_plans_119 : decode cL_plans 119 = .ok (.iload 5, 2) := by decide +kernel
theorem dL_plans_121 : decode cL_plans 121 = .ok (.if_icmp .ne 7, 3) := by decide +kernel
theorem dL_plans_124 : decode cL_plans 124 = .ok (.iconst 1, 1) := by decide +kernel
theorem dL_plans_125 : decode cL_plans 125 = .ok (.goto 4, 3) := by decide +kernel
theorem dL_plans_128 : decode cL_plans 128 = .ok (.iconst 0, 1) := by decide +kernel
theorem dL_plans_129 : decode cL_plans 129 = .ok (.istore_n 3, 1) := by decide +kernel
theorem dL_plans_130 : decode cL_plans 130 = .ok (.iload 5, 2) := by decide +kernel
theorem dL_plans_132 : decode cL_plans 132 = .ok (.ifCond .ne 34, 3) := by decide +kernel
theorem dL_plans_135 : decode cL_plans 135 = .ok (.iload_n 3, 1) := by decide +kernel
theorem dL_plans_136 : decode cL_plans 136 = .ok (.ifCond .eq 28, 3) := by decide +kernel
theorem dL_plans_139 : decode cL_plans 139 = .ok (.aload_n 1, 1) := by decide +kernel
theorem dL_plans_140 : decode cL_plans 140 = .ok (.iload 7, 2) := by decide +kernel
theorem dL_plans_142 : decode cL_plans 142 = .ok (.iconst 2, 1) := by decide +kernel
theorem dL_plans_143 : decode cL_plans 143 = .ok (.idiv, 1) := by decide +kernel
theorem dL_plans_144 : decode cL_plans 144 = .ok (.iload 8, 2) := by decide +kernel
theorem dL_plans_146 : decode cL_plans 146 = .ok (.iload 9, 2) := by decide +kernel
theorem dL_plans_148 : decode cL_plans 148 = .ok (.iconst 2, 1) := by decide +kernel
theorem dL_plans_149 : decode cL_plans 149 = .ok (.idiv, 1) := by decide +kernel
theorem dL_plans_150 : decode cL_plans 150 = .ok (.iload 10, 2) := by decide +kernel
theorem dL_plans_152 : decode cL_plans 152 = .ok (.iconst 2, 1) := by decide +kernel
theorem dL_plans_153 : decode cL_plans 153 = .ok (.idiv, 1) := by decide +kernel
theorem dL_plans_154 : decode cL_plans 154 = .ok (.invokevirtual 19, 3) := by decide +kernel
theorem dL_plans_157 : decode cL_plans 157 = .ok (.ifCond .ne 7, 3) := by decide +kernel
theorem dL_plans_160 : decode cL_plans 160 = .ok (.iconst 1, 1) := by decide +kernel
theorem dL_plans_161 : decode cL_plans 161 = .ok (.goto 4, 3) := by decide +kernel
theorem dL_plans_164 : decode cL_plans 164 = .ok (.iconst 0, 1) := by decide +kernel
theorem dL_plans_165 : decode cL_plans 165 = .ok (.istore_n 3, 1) := by decide +kernel
theorem dL_plans_166 : decode cL_plans 166 = .ok (.iload_n 3, 1) := by decide +kernel
theorem dL_plans_167 : decode cL_plans 167 = .ok (.ifCond .eq 56, 3) := by decide +kernel
theorem dL_plans_170 : decode cL_plans 170 = .ok (.iload 5, 2) := by decide +kernel
theorem dL_plans_172 : decode cL_plans 172 = .ok (.ifCond .ne 28, 3) := by decide +kernel
theorem dL_plans_175 : decode cL_plans 175 = .ok (.aload_n 1, 1) := by decide +kernel
theorem dL_plans_176 : decode cL_plans 176 = .ok (.iload 7, 2) := by decide +kernel
theorem dL_plans_178 : decode cL_plans 178 = .ok (.iconst 2, 1) := by decide +kernel
theorem dL_plans_179 : decode cL_plans 179 = .ok (.idiv, 1) := by decide +kernel
theorem dL_plans_180 : decode cL_plans 180 = .ok (.iload 8, 2) := by decide +kernel
theorem dL_plans_182 : decode cL_plans 182 = .ok (.iload 9, 2) := by decide +kernel
theorem dL_plans_184 : decode cL_plans 184 = .ok (.iconst 2, 1) := by decide +kernel
theorem dL_plans_185 : decode cL_plans 185 = .ok (.idiv, 1) := by decide +kernel
theorem dL_plans_186 : decode cL_plans 186 = .ok (.iload 10, 2) := by decide +kernel
theorem dL_plans_188 : decode cL_plans 188 = .ok (.iconst 2, 1) := by decide +kernel
theorem dL_plans_189 : decode cL_plans 189 = .ok (.idiv, 1) := by decide +kernel
theorem dL_plans_190 : decode cL_plans 190 = .ok (.invokevirtual 19, 3) := by decide +kernel
theorem dL_plans_193 : decode cL_plans 193 = .ok (.iconst 1, 1) := by decide +kernel
theorem dL_plans_194 : decode cL_plans 194 = .ok (.if_icmp .ne 29, 3) := by decide +kernel
theorem dL_plans_197 : decode cL_plans 197 = .ok (.goto 22, 3) := by decide +kernel
theorem dL_plans_200 : decode cL_plans 200 = .ok (.aload_n 1, 1) := by decide +kernel
theorem dL_plans_201 : decode cL_plans 201 = .ok (.iload 7, 2) := by decide +kernel
theorem dL_plans_203 : decode cL_plans 203 = .ok (.iload 8, 2) := by decide +kernel
theorem dL_plans_205 : decode cL_plans 205 = .ok (.iload 9, 2) := by decide +kernel
theorem dL_plans_207 : decode cL_plans 207 = .ok (.iload 10, 2) := by decide +kernel
theorem dL_plans_209 : decode cL_plans 209 = .ok (.invokevirtual 19, 3) := by decide +kernel
theorem dL_plans_212 : decode cL_plans 212 = .ok (.iload 5, 2) := by decide +kernel
theorem dL_plans_214 : decode cL_plans 214 = .ok (.iconst 1, 1) := by decide +kernel
theorem dL_plans_215 : decode cL_plans 215 = .ok (.iadd, 1) := by decide +kernel
theorem dL_plans_216 : decode cL_plans 216 = .ok (.if_icmp .ne 7, 3) := by decide +kernel
theorem dL_plans_219 : decode cL_plans 219 = .ok (.iconst 1, 1) := by decide +kernel
theorem dL_plans_220 : decode cL_plans 220 = .ok (.goto 4, 3) := by decide +kernel
theorem dL_plans_223 : decode cL_plans 223 = .ok (.iconst 0, 1) := by decide +kernel
theorem dL_plans_224 : decode cL_plans 224 = .ok (.istore_n 3, 1) := by decide +kernel
theorem dL_plans_225 : decode cL_plans 225 = .ok (.iinc 5 1, 3) := by decide +kernel
theorem dL_plans_228 : decode cL_plans 228 = .ok (.goto (-211), 3) := by decide +kernel
theorem dL_plans_231 : decode cL_plans 231 = .ok (.aload_n 2, 1) := by decide +kernel
theorem dL_plans_232 : decode cL_plans 232 = .ok (.bipush 7, 2) := by decide +kernel
theorem dL_plans_234 : decode cL_plans 234 = .ok (.invokestatic 9, 3) := by decide +kernel
theorem dL_plans_237 : decode cL_plans 237 = .ok (.bipush 6, 2) := by decide +kernel
theorem dL_plans_239 : decode cL_plans 239 = .ok (.invokestatic 15, 3) := by decide +kernel
theorem dL_plans_242 : decode cL_plans 242 = .ok (.istore 5, 2) := by decide +kernel
theorem dL_plans_244 : decode cL_plans 244 = .ok (.iconst 0, 1) := by decide +kernel
theorem dL_plans_245 : decode cL_plans 245 = .ok (.istore 6, 2) := by decide +kernel
theorem dL_plans_247 : decode cL_plans 247 = .ok (.iload 6, 2) := by decide +kernel
theorem dL_plans_249 : decode cL_plans 249 = .ok (.iload 5, 2) := by decide +kernel
theorem dL_plans_251 : decode cL_plans 251 = .ok (.if_icmp .ge 88, 3) := by decide +kernel
theorem dL_plans_254 : decode cL_plans 254 = .ok (.aload_n 2, 1) := by decide +kernel
theorem dL_plans_255 : decode cL_plans 255 = .ok (.bipush 8, 2) := by decide +kernel
theorem dL_plans_257 : decode cL_plans 257 = .ok (.iload 6, 2) := by decide +kernel
theorem dL_plans_259 : decode cL_plans 259 = .ok (.iadd, 1) := by decide +kernel
theorem dL_plans_260 : decode cL_plans 260 = .ok (.invokestatic 9, 3) := by decide +kernel
theorem dL_plans_263 : decode cL_plans 263 = .ok (.istore 7, 2) := by decide +kernel
theorem dL_plans_265 : decode cL_plans 265 = .ok (.iload_n 3, 1) := by decide +kernel
theorem dL_plans_266 : decode cL_plans 266 = .ok (.ifCond .eq 65, 3) := by decide +kernel
theorem dL_plans_269 : decode cL_plans 269 = .ok (.aload_n 0, 1) := by decide +kernel
theorem dL_plans_270 : decode cL_plans 270 = .ok (.iload 7, 2) := by decide +kernel
theorem dL_plans_272 : decode cL_plans 272 = .ok (.sipush 1500, 3) := by decide +kernel
theorem dL_plans_275 : decode cL_plans 275 = .ok (.invokestatic 15, 3) := by decide +kernel
theorem dL_plans_278 : decode cL_plans 278 = .ok (.iconst 1, 1) := by decide +kernel
theorem dL_plans_279 : decode cL_plans 279 = .ok (.iload 7, 2) := by decide +kernel
theorem dL_plans_281 : decode cL_plans 281 = .ok (.bipush 12, 2) := by decide +kernel
theorem dL_plans_283 : decode cL_plans 283 = .ok (.ishr, 1) := by decide +kernel
theorem dL_plans_284 : decode cL_plans 284 = .ok (.bipush 9, 2) := by decide +kernel
theorem dL_plans_286 : decode cL_plans 286 = .ok (.invokestatic 15, 3) := by decide +kernel
theorem dL_plans_289 : decode cL_plans 289 = .ok (.iadd, 1) := by decide +kernel
theorem dL_plans_290 : decode cL_plans 290 = .ok (.invokevirtual 25, 3) := by decide +kernel
theorem dL_plans_293 : decode cL_plans 293 = .ok (.iload 6, 2) := by decide +kernel
theorem dL_plans_295 : decode cL_plans 295 = .ok (.if_icmp .ne 36, 3) := by decide +kernel
theorem dL_plans_298 : decode cL_plans 298 = .ok (.aload_n 1, 1) := by decide +kernel
theorem dL_plans_299 : decode cL_plans 299 = .ok (.iload 7, 2) := by decide +kernel
theorem dL_plans_301 : decode cL_plans 301 = .ok (.sipush 1500, 3) := by decide +kernel
theorem dL_plans_304 : decode cL_plans 304 = .ok (.invokestatic 15, 3) := by decide +kernel
theorem dL_plans_307 : decode cL_plans 307 = .ok (.iconst 1, 1) := by decide +kernel
theorem dL_plans_308 : decode cL_plans 308 = .ok (.iload 7, 2) := by decide +kernel
theorem dL_plans_310 : decode cL_plans 310 = .ok (.bipush 12, 2) := by decide +kernel
theorem dL_plans_312 : decode cL_plans 312 = .ok (.ishr, 1) := by decide +kernel
theorem dL_plans_313 : decode cL_plans 313 = .ok (.bipush 9, 2) := by decide +kernel
theorem dL_plans_315 : decode cL_plans 315 = .ok (.invokestatic 15, 3) := by decide +kernel
theorem dL_plans_318 : decode cL_plans 318 = .ok (.iadd, 1) := by decide +kernel
theorem dL_plans_319 : decode cL_plans 319 = .ok (.invokevirtual 25, 3) := by decide +kernel
theorem dL_plans_322 : decode cL_plans 322 = .ok (.iload 6, 2) := by decide +kernel
theorem dL_plans_324 : decode cL_plans 324 = .ok (.if_icmp .ne 7, 3) := by decide +kernel
theorem dL_plans_327 : decode cL_plans 327 = .ok (.iconst 1, 1) := by decide +kernel
theorem dL_plans_328 : decode cL_plans 328 = .ok (.goto 4, 3) := by decide +kernel
theorem dL_plans_331 : decode cL_plans 331 = .ok (.iconst 0, 1) := by decide +kernel
theorem dL_plans_332 : decode cL_plans 332 = .ok (.istore_n 3, 1) := by decide +kernel
theorem dL_plans_333 : decode cL_plans 333 = .ok (.iinc 6 1, 3) := by decide +kernel
theorem dL_plans_336 : decode cL_plans 336 = .ok (.goto (-89), 3) := by decide +kernel
theorem dL_plans_339 : decode cL_plans 339 = .ok (.iload_n 3, 1) := by decide +kernel
theorem dL_plans_340 : decode cL_plans 340 = .ok (.ireturn, 1) := by decide +kernel
set_option maxRecDepth 20000 in
theorem ggL_sets_L_up : GoodIn wsL_sets wsL_up := goodIn_r _ [4, 5] (by decide +kernel) (by decide +kernel)
set_option maxRecDepth 20000 in
theorem gL_sets_L_up : GoodIn wsL_sets (va_wsS RL 15 yL_up wsL_up) := goodIn_app (goodIn_of _ (by decide +kernel)) ggL_sets_L_up
set_option maxRecDepth 20000 in
theorem ggL_sets_X5_setReservoir : GoodIn wsL_sets wsX5_setReservoir := goodIn_ca (goodIn_r _ [10, 11, 12, 13, 14, 15, 16, 17, 18, 9, 19, 20, 21, 22, 23, 24, 25, 26, 27, 28, 29, 30, 31, 32, 33, 34, 35, 36, 37, 38, 39, 40, 41, 42, 43, 44, 45, 46, 47, 48, 49, 50, 51, 52, 53, 54, 55, 56, 57, 58, 59, 60, 61, 62, 63, 64, 65, 66, 67, 68, 69, 70, 71, 72, 73, 74, 75, 76, 77, 78, 79, 80, 81, 82, 83, 84, 85, 86, 87, 88, 89, 90, 91, 92, 93, 94, 95, 96, 97, 98, 99, 100, 101, 102, 103, 104, 105, 106, 107, 108, 109, 110, 111, 112, 113, 114, 115, 116, 117, 118, 119, 120, 121, 122, 123, 124, 125, 126, 127, 128, 129, 130, 131, 132, 133, 134, 135, 136, 137] (by decide +kernel) (by decide +kernel)) (goodIn_sub (fun _ h => List.mem_cons_of_mem _ (List.mem_append_right _ h)) (by decide +kernel))
set_option maxRecDepth 20000 in
theorem gL_sets_X5_setReservoir : GoodIn wsL_sets (wsV RL 28 RX5 yX5_setReservoir wsX5_setReservoir) := goodIn_app (goodIn_of _ (by decide +kernel)) ggL_sets_X5_setReservoir
theorem dL_sets_0 : decode cL_sets 0 = .ok (.bipush 100, 2) := by decide +kernel
theorem dL_sets_2 : decode cL_sets 2 = .ok (.iload_n 2, 1) := by decide +kernel
theorem dL_sets_3 : decode cL_sets 3 = .ok (.sipush 9000, 3) := by decide +kernel
theorem dL_sets_6 : decode cL_sets 6 = .ok (.invokestatic 15, 3) := by decide +kernel
theorem dL_sets_9 : decode cL_sets 9 = .ok (.iadd, 1) := by decide +kernel
theorem dL_sets_10 : decode cL_sets 10 = .ok (.istore_n 3, 1) := by decide +kernel
theorem dL_sets_11 : decode cL_sets 11 = .ok (.iload_n 2, 1) := by decide +kernel
theorem dL_sets_12 : decode cL_sets 12 = .ok (.bipush 8, 2) := by decide +kernel
theorem dL_sets_14 : decode cL_sets 14 = .ok (.ishr, 1) := by decide +kernel
theorem dL_sets_15 : decode cL_sets 15 = .ok (.sipush 200, 3) := by decide +kernel
theorem dL_sets_18 : decode cL_sets 18 = .ok (.invokestatic 15, 3) := by decide +kernel
theorem dL_sets_21 : decode cL_sets 21 = .ok (.iload_n 3, 1) := by decide +kernel
theorem dL_sets_22 : decode cL_sets 22 = .ok (.if_icmp .ge 16, 3) := by decide +kernel
theorem dL_sets_25 : decode cL_sets 25 = .ok (.iload_n 2, 1) := by decide +kernel
theorem dL_sets_26 : decode cL_sets 26 = .ok (.bipush 8, 2) := by decide +kernel
theorem dL_sets_28 : decode cL_sets 28 = .ok (.ishr, 1) := by decide +kernel
theorem dL_sets_29 : decode cL_sets 29 = .ok (.sipush 200, 3) := by decide +kernel
theorem dL_sets_32 : decode cL_sets 32 = .ok (.invokestatic 15, 3) := by decide +kernel
theorem dL_sets_35 : decode cL_sets 35 = .ok (.goto 4, 3) := by decide +kernel
theorem dL_sets_38 : decode cL_sets 38 = .ok (.iconst 0, 1) := by decide +kernel
theorem dL_sets_39 : decode cL_sets 39 = .ok (.istore 4, 2) := by decide +kernel
theorem dL_sets_41 : decode cL_sets 41 = .ok (.iload_n 2, 1) := by decide +kernel
theorem dL_sets_42 : decode cL_sets 42 = .ok (.bipush 12, 2) := by decide +kernel
theorem dL_sets_44 : decode cL_sets 44 = .ok (.ishr, 1) := by decide +kernel
theorem dL_sets_45 : decode cL_sets 45 = .ok (.iconst 3, 1) := by decide +kernel
theorem dL_sets_46 : decode cL_sets 46 = .ok (.invokestatic 15, 3) := by decide +kernel
theorem dL_sets_49 : decode cL_sets 49 = .ok (.ifCond .ne 14, 3) := by decide +kernel
theorem dL_sets_52 : decode cL_sets 52 = .ok (.iload_n 2, 1) := by decide +kernel
theorem dL_sets_53 : decode cL_sets 53 = .ok (.bipush 14, 2) := by decide +kernel
theorem dL_sets_55 : decode cL_sets 55 = .ok (.ishr, 1) := by decide +kernel
theorem dL_sets_56 : decode cL_sets 56 = .ok (.iload_n 3, 1) := by decide +kernel
theorem dL_sets_57 : decode cL_sets 57 = .ok (.invokestatic 15, 3) := by decide +kernel
theorem dL_sets_60 : decode cL_sets 60 = .ok (.goto 4, 3) := by decide +kernel
theorem dL_sets_63 : decode cL_sets 63 = .ok (.iconst 0, 1) := by decide +kernel
theorem dL_sets_64 : decode cL_sets 64 = .ok (.istore 5, 2) := by decide +kernel
theorem dL_sets_66 : decode cL_sets 66 = .ok (.aload_n 0, 1) := by decide +kernel
theorem dL_sets_67 : decode cL_sets 67 = .ok (.iload_n 3, 1) := by decide +kernel
theorem dL_sets_68 : decode cL_sets 68 = .ok (.iload 4, 2) := by decide +kernel
theorem dL_sets_70 : decode cL_sets 70 = .ok (.iload 5, 2) := by decide +kernel
theorem dL_sets_72 : decode cL_sets 72 = .ok (.invokevirtual 28, 3) := by decide +kernel
theorem dL_sets_75 : decode cL_sets 75 = .ok (.aload_n 1, 1) := by decide +kernel
theorem dL_sets_76 : decode cL_sets 76 = .ok (.iload_n 3, 1) := by decide +kernel
theorem dL_sets_77 : decode cL_sets 77 = .ok (.iload 4, 2) := by decide +kernel
theorem dL_sets_79 : decode cL_sets 79 = .ok (.iload 5, 2) := by decide +kernel
theorem dL_sets_81 : decode cL_sets 81 = .ok (.invokevirtual 28, 3) := by decide +kernel
theorem dL_sets_84 : decode cL_sets 84 = .ok (.if_icmp .ne 7, 3) := by decide +kernel
theorem dL_sets_87 : decode cL_sets 87 = .ok (.iconst 1, 1) := by decide +kernel
theorem dL_sets_88 : decode cL_sets 88 = .ok (.goto 4, 3) := by decide +kernel
theorem dL_sets_91 : decode cL_sets 91 = .ok (.iconst 0, 1) := by decide +kernel
theorem dL_sets_92 : decode cL_sets 92 = .ok (.ireturn, 1) := by decide +kernel
set_option maxRecDepth 20000 in
theorem ggL_isStep_L_up : GoodIn wsL_isStep wsL_up := goodIn_r _ [5, 6] (by decide +kernel) (by decide +kernel)
set_option maxRecDepth 20000 in
theorem gL_isStep_L_up : GoodIn wsL_isStep (va_wsS RL 15 yL_up wsL_up) := goodIn_app (goodIn_of _ (by decide +kernel)) ggL_isStep_L_up
set_option maxRecDepth 20000 in
theorem ggL_isStep_L_sets : GoodIn wsL_isStep wsL_sets := goodIn_ca (goodIn_r _ [9, 2, 3, 4, 5, 6, 10, 11, 12, 13, 14, 15, 16, 17, 18, 19, 20, 21, 22, 23, 24, 25, 26, 27, 28, 29, 30, 31, 32, 33, 34, 35, 36, 37, 38, 39, 40, 41, 42, 43, 44, 45, 46, 47, 48, 49, 50, 51, 52, 53, 54, 55, 56, 57, 58, 59, 60, 61, 62, 63, 64, 65, 66, 67, 68, 69, 70, 71, 72, 73, 74, 75, 76, 77, 78, 79, 80, 81, 82, 83, 84, 85, 86, 87, 88, 89, 90, 91, 92, 93, 94, 95, 96, 97, 98, 99, 100, 101, 102, 103, 104, 105, 106, 107, 268, 269, 270, 271, 272, 273, 274, 275, 276, 277, 278, 279, 280, 281, 282, 283, 284, 285, 286, 287, 288, 289, 290, 291, 292, 293, 294, 295, 296, 297, 298, 299, 300, 301] (by decide +kernel) (by decide +kernel)) (goodIn_sub (fun _ h => List.mem_cons_of_mem _ (List.mem_append_left _ (List.mem_append_right _ h))) (by decide +kernel))
set_option maxRecDepth 20000 in
theorem gL_isStep_L_sets : GoodIn wsL_isStep (va_wsS RL 32 yL_sets wsL_sets) := goodIn_app (goodIn_of _ (by decide +kernel)) ggL_isStep_L_sets
set_option maxRecDepth 20000 in
theorem ggL_isStep_X5_setWays : GoodIn wsL_isStep wsX5_setWays := goodIn_ca (goodIn_r _ [111, 16, 112, 113, 114, 21, 22, 13, 23, 24, 25, 26, 27, 28, 29, 30, 31, 32, 33, 34, 35, 36, 37, 38, 39, 40, 41, 42, 43, 44, 45, 46, 47, 48, 49, 50, 51, 52, 53, 54, 55, 56, 57, 58, 59, 60, 61, 62, 63, 64, 65, 66, 67, 68, 69, 70, 71, 72, 73, 74, 75, 76, 77, 78, 79, 80, 81, 82, 83, 84, 85, 86, 87, 88, 89, 90, 91, 92, 93, 94, 95, 96, 97, 98, 99, 268, 269, 270, 271, 272, 273, 274, 275, 276, 277, 278, 279, 280, 281, 282, 283, 284, 285, 286, 287, 288, 289, 290, 291, 292, 293, 294, 295, 296, 297, 298, 299, 300, 301] (by decide +kernel) (by decide +kernel)) (goodIn_sub (fun _ h => List.mem_cons_of_mem _ (List.mem_append_left _ (List.mem_append_right _ h))) (by decide +kernel))
set_option maxRecDepth 20000 in
theorem gL_isStep_X5_setWays : GoodIn wsL_isStep (wsV RL 36 RX5 yX5_setWays wsX5_setWays) := goodIn_app (goodIn_of _ (by decide +kernel)) ggL_isStep_X5_setWays
set_option maxRecDepth 20000 in
theorem ggL_isStep_X5_setting : GoodIn wsL_isStep wsX5_setting := goodIn_ca (goodIn_r _ [118, 16, 21, 22, 13, 23, 24, 25, 119, 120, 121, 35, 122, 37, 38, 39, 40, 41, 42, 43, 45, 123, 46, 52, 54, 55, 268, 269, 270, 271, 272, 273, 274, 275, 276, 277, 278, 279, 280, 281, 282, 283, 284, 285, 286, 287, 288, 295, 296, 297] (by decide +kernel) (by decide +kernel)) (goodIn_sub (fun _ h => List.mem_cons_of_mem _ (List.mem_append_left _ (List.mem_append_right _ h))) (by decide +kernel))
set_option maxRecDepth 20000 in
theorem gL_isStep_X5_setting : GoodIn wsL_isStep (wsV RL 39 RX5 yX5_setting wsX5_setting) := goodIn_app (goodIn_of _ (by decide +kernel)) ggL_isStep_X5_setting
set_option maxRecDepth 20000 in
theorem ggL_isStep_X5_addRandomRain : GoodIn wsL_isStep wsX5_addRandomRain := goodIn_ca (goodIn_ca (goodIn_r _ [127, 128, 129, 130, 16, 131, 21, 22, 13, 23, 24, 25, 132, 133, 134, 135, 136, 137, 26, 27, 28, 29, 30, 31, 32, 33, 34, 35, 36, 37, 38, 39, 40, 41, 42, 43, 44, 45, 46, 47, 48, 49, 50, 51, 52, 53, 54, 55, 56, 57, 58, 59, 60, 61, 62, 63, 64, 65, 66, 67, 68, 69, 70, 71, 72, 73, 74, 75, 76, 77, 78, 79, 80, 81, 82, 83, 84, 85, 86, 87, 88, 89, 90, 91, 92, 93, 94, 95, 96, 97, 98, 99, 138, 139, 140, 141, 142, 143, 144, 145, 146, 147, 268, 269, 270, 271, 272, 273, 274, 275, 276, 277, 278, 279, 280, 281, 282, 283, 284, 285, 286, 287, 288, 289, 290, 291, 292, 293, 294, 295, 296, 297, 298, 299, 300, 301] (by decide +kernel) (by decide +kernel)) (goodIn_sub (fun _ h => List.mem_cons_of_mem _ (List.mem_append_left _ (List.mem_append_right _ h))) (by decide +kernel))) (goodIn_sub (fun _ h => List.mem_cons_of_mem _ (List.mem_append_right _ h)) (by decide +kernel))
set_option maxRecDepth 20000 in
theorem gL_isStep_X5_addRandomRain : GoodIn wsL_isStep (wsV RL 44 RX5 yX5_addRandomRain wsX5_addRandomRain) := goodIn_app (goodIn_of _ (by decide +kernel)) ggL_isStep_X5_addRandomRain
set_option maxRecDepth 20000 in
theorem ggL_isStep_X5_restart : GoodIn wsL_isStep wsX5_restart := goodIn_r _ [151, 16, 152, 26, 27, 28, 13, 29, 30, 31, 32, 33, 34, 35, 36, 37, 38, 39, 40, 41, 42, 43, 44, 45, 46, 47, 48, 49, 50, 51, 52, 53, 54, 55, 56, 57, 58, 59, 60, 61, 62, 63, 64, 65, 66, 67, 68, 69, 70, 71, 72, 73, 74, 75, 76, 77, 78, 79, 80, 81, 82, 83, 84, 85, 86, 87, 88, 89, 90, 91, 92, 93, 94, 95, 96, 97, 98, 99, 153, 154, 155, 156, 157, 158, 159, 160, 161, 162, 268, 269, 270, 271, 272, 273, 274, 275, 276, 277, 278, 279, 280, 281, 282, 283, 284, 285, 286, 287, 288, 289, 290, 291, 292, 293, 294, 295, 296, 297, 298, 299, 300, 301] (by decide +kernel) (by decide +kernel)
set_option maxRecDepth 20000 in
theorem gL_isStep_X5_restart : GoodIn wsL_isStep (wsV RL 47 RX5 yX5_restart wsX5_restart) := goodIn_app (goodIn_of _ (by decide +kernel)) ggL_isStep_X5_restart
set_option maxRecDepth 20000 in
theorem ggL_isStep_X5_run : GoodIn wsL_isStep wsX5_run := goodIn_ca (goodIn_ca (goodIn_r _ [166, 136, 137, 16, 131, 152, 21, 22, 13, 23, 24, 25, 26, 27, 28, 29, 30, 31, 32, 33, 34, 35, 36, 37, 38, 39, 40, 41, 42, 43, 44, 45, 46, 47, 48, 49, 50, 51, 52, 53, 54, 55, 56, 57, 58, 59, 60, 61, 62, 63, 64, 65, 66, 67, 68, 69, 70, 71, 72, 73, 74, 75, 76, 77, 78, 79, 80, 81, 82, 83, 84, 85, 86, 87, 88, 89, 90, 91, 92, 93, 94, 95, 96, 97, 98, 99, 167, 168, 169, 170, 171, 172, 173, 174, 175, 176, 177, 178, 179, 180, 181, 182, 183, 184, 185, 186, 187, 188, 106, 189, 190, 191, 192, 193, 194, 105, 107, 195, 196, 197, 198, 199, 200, 201, 202, 104, 203, 204, 205, 206, 207, 101, 102, 103, 208, 209, 210, 211, 212, 213, 214, 215, 216, 217, 218, 219, 220, 221, 222, 223, 224, 225, 226, 227, 228, 229, 230, 231, 232, 233, 234, 235, 236, 237, 238, 239, 240, 241, 242, 243, 244, 245, 246, 247, 248, 249, 250, 251, 252, 253, 254, 255, 256, 257, 258, 259, 260, 261, 262, 263, 264, 265, 266, 267, 268, 269, 270, 271, 272, 273, 274, 275, 276, 277, 278, 279, 280, 281, 282, 283, 284, 285, 286, 287, 288, 289, 290, 291, 292, 293, 294, 295, 296, 297, 298, 299, 300, 301] (by decide +kernel) (by decide +kernel)) (goodIn_sub (fun _ h => List.mem_cons_of_mem _ (List.mem_append_right _ h)) (by decide +kernel))) (goodIn_sub (fun _ h => List.mem_cons_of_mem _ (List.mem_append_left _ (List.mem_append_right _ h))) (by decide +kernel))
set_option maxRecDepth 20000 in
theorem gL_isStep_X5_run : GoodIn wsL_isStep (wsV RL 51 RX5 yX5_run wsX5_run) := goodIn_app (goodIn_of _ (by decide +kernel)) ggL_isStep_X5_run
theorem dL_isStep_0 : decode cL_isStep 0 = .ok (.iload_n 2, 1) := by decide +kernel
theorem dL_isStep_1 : decode cL_isStep 1 = .ok (.bipush 7, 2) := by decide +kernel
theorem dL_isStep_3 : decode cL_isStep 3 = .ok (.invokestatic 15, 3) := by decide +kernel
theorem dL_isStep_6 : decode cL_isStep 6 = .ok (.tableswitch 241 0 3 #[30, 39, 110, 214], 30) := by decide +kernel
theorem dL_isStep_36 : decode cL_isStep 36 = .ok (.aload_n 0, 1) := by decide +kernel
theorem dL_isStep_37 : decode cL_isStep 37 = .ok (.aload_n 1, 1) := by decide +kernel
theorem dL_isStep_38 : decode cL_isStep 38 = .ok (.iload_n 2, 1) := by decide +kernel
theorem dL_isStep_39 : decode cL_isStep 39 = .ok (.iconst 3, 1) := by decide +kernel
theorem dL_isStep_40 : decode cL_isStep 40 = .ok (.ishr, 1) := by decide +kernel
theorem dL_isStep_41 : decode cL_isStep 41 = .ok (.invokestatic 32, 3) := by decide +kernel
theorem dL_isStep_44 : decode cL_isStep 44 = .ok (.ireturn, 1) := by decide +kernel
theorem dL_isStep_45 : decode cL_isStep 45 = .ok (.aload_n 0, 1) := by decide +kernel
theorem dL_isStep_46 : decode cL_isStep 46 = .ok (.iload_n 2, 1) := by decide +kernel
theorem dL_isStep_47 : decode cL_isStep 47 = .ok (.iconst 3, 1) := by decide +kernel
theorem dL_isStep_48 : decode cL_isStep 48 = .ok (.ishr, 1) := by decide +kernel
theorem dL_isStep_49 : decode cL_isStep 49 = .ok (.bipush 101, 2) := by decide +kernel
theorem dL_isStep_51 : decode cL_isStep 51 = .ok (.invokestatic 15, 3) := by decide +kernel
theorem dL_isStep_54 : decode cL_isStep 54 = .ok (.iconst 1, 1) := by decide +kernel
theorem dL_isStep_55 : decode cL_isStep 55 = .ok (.iload_n 2, 1) := by decide +kernel
theorem dL_isStep_56 : decode cL_isStep 56 = .ok (.bipush 10, 2) := by decide +kernel
theorem dL_isStep_58 : decode cL_isStep 58 = .ok (.ishr, 1) := by decide +kernel
theorem dL_isStep_59 : decode cL_isStep 59 = .ok (.bipush 9, 2) := by decide +kernel
theorem dL_isStep_61 : decode cL_isStep 61 = .ok (.invokestatic 15, 3) := by decide +kernel
theorem dL_isStep_64 : decode cL_isStep 64 = .ok (.iadd, 1) := by decide +kernel
theorem dL_isStep_65 : decode cL_isStep 65 = .ok (.iload_n 2, 1) := by decide +kernel
theorem dL_isStep_66 : decode cL_isStep 66 = .ok (.bipush 14, 2) := by decide +kernel
theorem dL_isStep_68 : decode cL_isStep 68 = .ok (.ishr, 1) := by decide +kernel
theorem dL_isStep_69 : decode cL_isStep 69 = .ok (.iconst 4, 1) := by decide +kernel
theorem dL_isStep_70 : decode cL_isStep 70 = .ok (.invokestatic 15, 3) := by decide +kernel
theorem dL_isStep_73 : decode cL_isStep 73 = .ok (.invokevirtual 36, 3) := by decide +kernel
theorem dL_isStep_76 : decode cL_isStep 76 = .ok (.aload_n 1, 1) := by decide +kernel
theorem dL_isStep_77 : decode cL_isStep 77 = .ok (.iload_n 2, 1) := by decide +kernel
theorem dL_isStep_78 : decode cL_isStep 78 = .ok (.iconst 3, 1) := by decide +kernel
theorem dL_isStep_79 : decode cL_isStep 79 = .ok (.ishr, 1) := by decide +kernel
theorem dL_isStep_80 : decode cL_isStep 80 = .ok (.bipush 101, 2) := by decide +kernel
theorem dL_isStep_82 : decode cL_isStep 82 = .ok (.invokestatic 15, 3) := by decide +kernel
theorem dL_isStep_85 : decode cL_isStep 85 = .ok (.iconst 1, 1) := by decide +kernel
theorem dL_isStep_86 : decode cL_isStep 86 = .ok (.iload_n 2, 1) := by decide +kernel
theorem dL_isStep_87 : decode cL_isStep 87 = .ok (.bipush 10, 2) := by decide +kernel
theorem dL_isStep_89 : decode cL_isStep 89 = .ok (.ishr, 1) := by decide +kernel
theorem dL_isStep_90 : decode cL_isStep 90 = .ok (.bipush 9, 2) := by decide +kernel
theorem dL_isStep_92 : decode cL_isStep 92 = .ok (.invokestatic 15, 3) := by decide +kernel
theorem dL_isStep_95 : decode cL_isStep 95 = .ok (.iadd, 1) := by decide +kernel
theorem dL_isStep_96 : decode cL_isStep 96 = .ok (.iload_n 2, 1) := by decide +kernel
theorem dL_isStep_97 : decode cL_isStep 97 = .ok (.bipush 14, 2) := by decide +kernel
theorem dL_isStep_99 : decode cL_isStep 99 = .ok (.ishr, 1) := by decide +kernel
theorem dL_isStep_100 : decode cL_isStep 100 = .ok (.iconst 4, 1) := by decide +kernel
theorem dL_isStep_101 : decode cL_isStep 101 = .ok (.invokestatic 15, 3) := by decide +kernel
theorem dL_isStep_104 : decode cL_isStep 104 = .ok (.invokevirtual 36, 3) := by decide +kernel
theorem dL_isStep_107 : decode cL_isStep 107 = .ok (.if_icmp .ne 7, 3) := by decide +kernel
theorem dL_isStep_110 : decode cL_isStep 110 = .ok (.iconst 1, 1) := by decide +kernel
theorem dL_isStep_111 : decode cL_isStep 111 = .ok (.goto 4, 3) := by decide +kernel
theorem dL_isStep_114 : decode cL_isStep 114 = .ok (.iconst 0, 1) := by decide +kernel
theorem dL_isStep_115 : decode cL_isStep 115 = .ok (.ireturn, 1) := by decide +kernel
theorem dL_isStep_116 : decode cL_isStep 116 = .ok (.aload_n 0, 1) := by decide +kernel
theorem dL_isStep_117 : decode cL_isStep 117 = .ok (.bipush 8, 2) := by decide +kernel
theorem dL_isStep_119 : decode cL_isStep 119 = .ok (.invokevirtual 39, 3) := by decide +kernel
theorem dL_isStep_122 : decode cL_isStep 122 = .ok (.bipush 80, 2) := by decide +kernel
theorem dL_isStep_124 : decode cL_isStep 124 = .ok (.if_icmp .gt 90, 3) := by decide +kernel
theorem dL_isStep_127 : decode cL_isStep 127 = .ok (.aload_n 0, 1) := by decide +kernel
theorem dL_isStep_128 : decode cL_isStep 128 = .ok (.iload_n 2, 1) := by decide +kernel
theorem dL_isStep_129 : decode cL_isStep 129 = .ok (.iconst 3, 1) := by decide +kernel
theorem dL_isStep_130 : decode cL_isStep 130 = .ok (.ishr, 1) := by decide +kernel
theorem dL_isStep_131 : decode cL_isStep 131 = .ok (.ldc 43, 2) := by decide +kernel
theorem dL_isStep_133 : decode cL_isStep 133 = .ok (.invokestatic 15, 3) := by decide +kernel
theorem dL_isStep_136 : decode cL_isStep 136 = .ok (.iconst 1, 1) := by decide +kernel
theorem dL_isStep_137 : decode cL_isStep 137 = .ok (.iload_n 2, 1) := by decide +kernel
theorem dL_isStep_138 : decode cL_isStep 138 = .ok (.iconst 4, 1) := by decide +kernel
theorem dL_isStep_139 : decode cL_isStep 139 = .ok (.ishr, 1) := by decide +kernel
theorem dL_isStep_140 : decode cL_isStep 140 = .ok (.bipush 20, 2) := by decide +kernel
theorem dL_isStep_142 : decode cL_isStep 142 = .ok (.invokestatic 15, 3) := by decide +kernel
theorem dL_isStep_145 : decode cL_isStep 145 = .ok (.iadd, 1) := by decide +kernel
theorem dL_isStep_146 : decode cL_isStep 146 = .ok (.iload_n 2, 1) := by decide +kernel
theorem dL_isStep_147 : decode cL_isStep 147 = .ok (.bipush 8, 2) := by decide +kernel
theorem dL_isStep_149 : decode cL_isStep 149 = .ok (.ishr, 1) := by decide +kernel
theorem dL_isStep_150 : decode cL_isStep 150 = .ok (.bipush 101, 2) := by decide +kernel
theorem dL_isStep_152 : decode cL_isStep 152 = .ok (.invokestatic 15, 3) := by decide +kernel
theorem dL_isStep_155 : decode cL_isStep 155 = .ok (.iconst 1, 1) := by decide +kernel
theorem dL_isStep_156 : decode cL_isStep 156 = .ok (.iload_n 2, 1) := by decide +kernel
theorem dL_isStep_157 : decode cL_isStep 157 = .ok (.bipush 9, 2) := by decide +kernel
theorem dL_isStep_159 : decode cL_isStep 159 = .ok (.ishr, 1) := by decide +kernel
theorem dL_isStep_160 : decode cL_isStep 160 = .ok (.bipush 80, 2) := by decide +kernel
theorem dL_isStep_162 : decode cL_isStep 162 = .ok (.invokestatic 15, 3) := by decide +kernel
theorem dL_isStep_165 : decode cL_isStep 165 = .ok (.iadd, 1) := by decide +kernel
theorem dL_isStep_166 : decode cL_isStep 166 = .ok (.invokevirtual 44, 3) := by decide +kernel
theorem dL_isStep_169 : decode cL_isStep 169 = .ok (.aload_n 1, 1) := by decide +kernel
theorem dL_isStep_170 : decode cL_isStep 170 = .ok (.iload_n 2, 1) := by decide +kernel
theorem dL_isStep_171 : decode cL_isStep 171 = .ok (.iconst 3, 1) := by decide +kernel
theorem dL_isStep_172 : decode cL_isStep 172 = .ok (.ishr, 1) := by decide +kernel
theorem dL_isStep_173 : decode cL_isStep 173 = .ok (.ldc 43, 2) := by decide +kernel
theorem dL_isStep_175 : decode cL_isStep 175 = .ok (.invokestatic 15, 3) := by decide +kernel
theorem dL_isStep_178 : decode cL_isStep 178 = .ok (.iconst 1, 1) := by decide +kernel
theorem dL_isStep_179 : decode cL_isStep 179 = .ok (.iload_n 2, 1) := by decide +kernel
theorem dL_isStep_180 : decode cL_isStep 180 = .ok (.iconst 4, 1) := by decide +kernel
theorem dL_isStep_181 : decode cL_isStep 181 = .ok (.ishr, 1) := by decide +kernel
theorem dL_isStep_182 : decode cL_isStep 182 = .ok (.bipush 20, 2) := by decide +kernel
theorem dL_isStep_184 : decode cL_isStep 184 = .ok (.invokestatic 15, 3) := by decide +kernel
theorem dL_isStep_187 : decode cL_isStep 187 = .ok (.iadd, 1) := by decide +kernel
theorem dL_isStep_188 : decode cL_isStep 188 = .ok (.iload_n 2, 1) := by decide +kernel
theorem dL_isStep_189 : decode cL_isStep 189 = .ok (.bipush 8, 2) := by decide +kernel
theorem dL_isStep_191 : decode cL_isStep 191 = .ok (.ishr, 1) := by decide +kernel
theorem dL_isStep_192 : decode cL_isStep 192 = .ok (.bipush 101, 2) := by decide +kernel
theorem dL_isStep_194 : decode cL_isStep 194 = .ok (.invokestatic 15, 3) := by decide +kernel
theorem dL_isStep_197 : decode cL_isStep 197 = .ok (.iconst 1, 1) := by decide +kernel
theorem dL_isStep_198 : decode cL_isStep 198 = .ok (.iload_n 2, 1) := by decide +kernel
theorem dL_isStep_199 : decode cL_isStep 199 = .ok (.bipush 9, 2) := by decide +kernel
theorem dL_isStep_201 : decode cL_isStep 201 = .ok (.ishr, 1) := by decide +kernel
theorem dL_isStep_202 : decode cL_isStep 202 = .ok (.bipush 80, 2) := by decide +kernel
theorem dL_isStep_204 : decode cL_isStep 204 = .ok (.invokestatic 15, 3) := by decide +kernel
theorem dL_isStep_207 : decode cL_isStep 207 = .ok (.iadd, 1) := by decide +kernel
theorem dL_isStep_208 : decode cL_isStep 208 = .ok (.invokevirtual 44, 3) := by decide +kernel
theorem dL_isStep_211 : decode cL_isStep 211 = .ok (.if_icmp .ne 7, 3) := by decide +kernel
theorem dL_isStep_214 : decode cL_isStep 214 = .ok (.iconst 1, 1) := by decide +kernel
theorem dL_isStep_215 : decode cL_isStep 215 = .ok (.goto 4, 3) := by decide +kernel
theorem dL_isStep_218 : decode cL_isStep 218 = .ok (.iconst 0, 1) := by decide +kernel
theorem dL_isStep_219 : decode cL_isStep 219 = .ok (.ireturn, 1) := by decide +kernel
theorem dL_isStep_220 : decode cL_isStep 220 = .ok (.iload_n 2, 1) := by decide +kernel
theorem dL_isStep_221 : decode cL_isStep 221 = .ok (.iconst 3, 1) := by decide +kernel
theorem dL_isStep_222 : decode cL_isStep 222 = .ok (.ishr, 1) := by decide +kernel
theorem dL_isStep_223 : decode cL_isStep 223 = .ok (.iconst 4, 1) := by decide +kernel
theorem dL_isStep_224 : decode cL_isStep 224 = .ok (.invokestatic 15, 3) := by decide +kernel
theorem dL_isStep_227 : decode cL_isStep 227 = .ok (.ifCond .gt 14, 3) := by decide +kernel
theorem dL_isStep_230 : decode cL_isStep 230 = .ok (.aload_n 0, 1) := by decide +kernel
theorem dL_isStep_231 : decode cL_isStep 231 = .ok (.invokevirtual 47, 3) := by decide +kernel
theorem dL_isStep_234 : decode cL_isStep 234 = .ok (.aload_n 1, 1) := by decide +kernel
theorem dL_isStep_235 : decode cL_isStep 235 = .ok (.invokevirtual 47, 3) := by decide +kernel
theorem dL_isStep_238 : decode cL_isStep 238 = .ok (.if_icmp .ne 7, 3) := by decide +kernel
theorem dL_isStep_241 : decode cL_isStep 241 = .ok (.iconst 1, 1) := by decide +kernel
theorem dL_isStep_242 : decode cL_isStep 242 = .ok (.goto 4, 3) := by decide +kernel
theorem dL_isStep_245 : decode cL_isStep 245 = .ok (.iconst 0, 1) := by decide +kernel
theorem dL_isStep_246 : decode cL_isStep 246 = .ok (.ireturn, 1) := by decide +kernel
theorem dL_isStep_247 : decode cL_isStep 247 = .ok (.aload_n 0, 1) := by decide +kernel
theorem dL_isStep_248 : decode cL_isStep 248 = .ok (.bipush 8, 2) := by decide +kernel
theorem dL_isStep_250 : decode cL_isStep 250 = .ok (.invokevirtual 39, 3) := by decide +kernel
theorem dL_isStep_253 : decode cL_isStep 253 = .ok (.aload_n 0, 1) := by decide +kernel
theorem dL_isStep_254 : decode cL_isStep 254 = .ok (.bipush 9, 2) := by decide +kernel
theorem dL_isStep_256 : decode cL_isStep 256 = .ok (.invokevirtual 39, 3) := by decide +kernel
theorem dL_isStep_259 : decode cL_isStep 259 = .ok (.isub, 1) := by decide +kernel
theorem dL_isStep_260 : decode cL_isStep 260 = .ok (.istore_n 3, 1) := by decide +kernel
theorem dL_isStep_261 : decode cL_isStep 261 = .ok (.iload_n 3, 1) := by decide +kernel
theorem dL_isStep_262 : decode cL_isStep 262 = .ok (.ifCond .ne 7, 3) := by decide +kernel
theorem dL_isStep_265 : decode cL_isStep 265 = .ok (.iconst 0, 1) := by decide +kernel
theorem dL_isStep_266 : decode cL_isStep 266 = .ok (.goto 12, 3) := by decide +kernel
theorem dL_isStep_269 : decode cL_isStep 269 = .ok (.iload_n 2, 1) := by decide +kernel
theorem dL_isStep_270 : decode cL_isStep 270 = .ok (.iconst 3, 1) := by decide +kernel
theorem dL_isStep_271 : decode cL_isStep 271 = .ok (.ishr, 1) := by decide +kernel
theorem dL_isStep_272 : decode cL_isStep 272 = .ok (.iload_n 3, 1) := by decide +kernel
theorem dL_isStep_273 : decode cL_isStep 273 = .ok (.iconst 1, 1) := by decide +kernel
theorem dL_isStep_274 : decode cL_isStep 274 = .ok (.iadd, 1) := by decide +kernel
theorem dL_isStep_275 : decode cL_isStep 275 = .ok (.invokestatic 15, 3) := by decide +kernel
theorem dL_isStep_278 : decode cL_isStep 278 = .ok (.istore 4, 2) := by decide +kernel
theorem dL_isStep_280 : decode cL_isStep 280 = .ok (.iload 4, 2) := by decide +kernel
theorem dL_isStep_282 : decode cL_isStep 282 = .ok (.ifCond .ne 7, 3) := by decide +kernel
theorem dL_isStep_285 : decode cL_isStep 285 = .ok (.iconst 0, 1) := by decide +kernel
theorem dL_isStep_286 : decode cL_isStep 286 = .ok (.goto 12, 3) := by decide +kernel
theorem dL_isStep_289 : decode cL_isStep 289 = .ok (.iload_n 2, 1) := by decide +kernel
theorem dL_isStep_290 : decode cL_isStep 290 = .ok (.bipush 12, 2) := by decide +kernel
theorem dL_isStep_292 : decode cL_isStep 292 = .ok (.ishr, 1) := by decide +kernel
theorem dL_isStep_293 : decode cL_isStep 293 = .ok (.iload 4, 2) := by decide +kernel
theorem dL_isStep_295 : decode cL_isStep 295 = .ok (.invokestatic 15, 3) := by decide +kernel
theorem dL_isStep_298 : decode cL_isStep 298 = .ok (.istore 5, 2) := by decide +kernel
theorem dL_isStep_300 : decode cL_isStep 300 = .ok (.aload_n 0, 1) := by decide +kernel
theorem dL_isStep_301 : decode cL_isStep 301 = .ok (.iload 4, 2) := by decide +kernel
theorem dL_isStep_303 : decode cL_isStep 303 = .ok (.invokevirtual 51, 3) := by decide +kernel
theorem dL_isStep_306 : decode cL_isStep 306 = .ok (.aload_n 1, 1) := by decide +kernel
theorem dL_isStep_307 : decode cL_isStep 307 = .ok (.iload 5, 2) := by decide +kernel
theorem dL_isStep_309 : decode cL_isStep 309 = .ok (.invokevirtual 51, 3) := by decide +kernel
theorem dL_isStep_312 : decode cL_isStep 312 = .ok (.aload_n 1, 1) := by decide +kernel
theorem dL_isStep_313 : decode cL_isStep 313 = .ok (.iload 4, 2) := by decide +kernel
theorem dL_isStep_315 : decode cL_isStep 315 = .ok (.iload 5, 2) := by decide +kernel
theorem dL_isStep_317 : decode cL_isStep 317 = .ok (.isub, 1) := by decide +kernel
theorem dL_isStep_318 : decode cL_isStep 318 = .ok (.invokevirtual 51, 3) := by decide +kernel
theorem dL_isStep_321 : decode cL_isStep 321 = .ok (.iadd, 1) := by decide +kernel
theorem dL_isStep_322 : decode cL_isStep 322 = .ok (.if_icmp .ne 7, 3) := by decide +kernel
theorem dL_isStep_325 : decode cL_isStep 325 = .ok (.iconst 1, 1) := by decide +kernel
theorem dL_isStep_326 : decode cL_isStep 326 = .ok (.goto 4, 3) := by decide +kernel
theorem dL_isStep_329 : decode cL_isStep 329 = .ok (.iconst 0, 1) := by decide +kernel
theorem dL_isStep_330 : decode cL_isStep 330 = .ok (.ireturn, 1) := by decide +kernel
set_option maxRecDepth 20000 in
theorem ggL_areAlike_X5_setting : GoodIn wsL_areAlike wsX5_setting := goodIn_ca (goodIn_r _ [5, 6, 7, 8, 4, 9, 10, 11, 12, 13, 14, 15, 16, 17, 18, 19, 20, 21, 22, 23, 24, 25, 26, 27, 28, 29, 79, 80, 81, 82, 83, 84, 85, 86, 87, 88, 89, 90, 91, 92, 93, 94, 95, 96, 97, 98, 99, 100, 101, 102] (by decide +kernel) (by decide +kernel)) (goodIn_sub (fun _ h => List.mem_cons_of_mem _ (List.mem_append_left _ (List.mem_append_right _ h))) (by decide +kernel))
set_option maxRecDepth 20000 in
theorem gL_areAlike_X5_setting : GoodIn wsL_areAlike (wsV RL 39 RX5 yX5_setting wsX5_setting) := goodIn_app (goodIn_of _ (by decide +kernel)) ggL_areAlike_X5_setting
set_option maxRecDepth 20000 in
theorem ggL_areAlike_X5_sum : GoodIn wsL_areAlike wsX5_sum := goodIn_ca (goodIn_r _ [33, 6, 34, 35, 7, 8, 4, 9, 10, 11, 36, 37, 38, 15, 39, 40, 79, 80, 81, 82, 83, 84, 85, 86, 87, 88, 89, 90, 91, 92, 93, 94, 95, 96, 97, 98, 99] (by decide +kernel) (by decide +kernel)) (goodIn_sub (fun _ h => List.mem_cons_of_mem _ (List.mem_append_left _ (List.mem_append_right _ h))) (by decide +kernel))
set_option maxRecDepth 20000 in
theorem gL_areAlike_X5_sum : GoodIn wsL_areAlike (wsV RL 54 RX5 yX5_sum wsX5_sum) := goodIn_app (goodIn_of _ (by decide +kernel)) ggL_areAlike_X5_sum
set_option maxRecDepth 20000 in
theorem ggL_areAlike_X5_user : GoodIn wsL_areAlike wsX5_user := goodIn_ca (goodIn_ca (goodIn_r _ [44, 6, 45, 46, 47, 48, 49, 4, 50, 51, 52, 7, 8, 9, 10, 11, 53, 54, 55, 56, 57, 58, 59, 60, 61, 79, 80, 81, 82, 83, 84, 85, 86, 87, 88, 89, 90, 91, 92, 93, 94, 95, 96, 97, 98, 99, 100, 101, 102, 103, 104, 105, 106] (by decide +kernel) (by decide +kernel)) (goodIn_sub (fun _ h => List.mem_cons_of_mem _ (List.mem_append_right _ h)) (by decide +kernel))) (goodIn_sub (fun _ h => List.mem_cons_of_mem _ (List.mem_append_left _ (List.mem_append_right _ h))) (by decide +kernel))
set_option maxRecDepth 20000 in
theorem gL_areAlike_X5_user : GoodIn wsL_areAlike (wsV RL 58 RX5 yX5_user wsX5_user) := goodIn_app (goodIn_of _ (by decide +kernel)) ggL_areAlike_X5_user
set_option maxRecDepth 20000 in
theorem ggL_areAlike_X5_reliability : GoodIn wsL_areAlike wsX5_reliability := goodIn_r _ [65, 6, 35, 66, 67, 68, 15, 69, 70, 37, 38, 39, 40, 79, 80, 81, 82, 83, 84, 85, 86, 87, 88, 89, 90, 91, 92, 93, 94, 95, 96, 97, 98, 99] (by decide +kernel) (by decide +kernel)
set_option maxRecDepth 20000 in
theorem gL_areAlike_X5_reliability : GoodIn wsL_areAlike (wsV RL 61 RX5 yX5_reliability wsX5_reliability) := goodIn_app (goodIn_of _ (by decide +kernel)) ggL_areAlike_X5_reliability
set_option maxRecDepth 20000 in
theorem ggL_areAlike_X5_longestShortage : GoodIn wsL_areAlike wsX5_longestShortage := goodIn_r _ [74, 6, 35, 75, 76, 77, 78, 66, 67, 68, 15, 69, 70, 37, 38, 39, 40, 79, 80, 81, 82, 83, 84, 85, 86, 87, 88, 89, 90, 91, 92, 93, 94, 95, 96, 97, 98, 99] (by decide +kernel) (by decide +kernel)
set_option maxRecDepth 20000 in
theorem gL_areAlike_X5_longestShortage : GoodIn wsL_areAlike (wsV RL 65 RX5 yX5_longestShortage wsX5_longestShortage) := goodIn_app (goodIn_of _ (by decide +kernel)) ggL_areAlike_X5_longestShortage
theorem dL_areAlike_0 : decode cL_areAlike 0 = .ok (.iconst 1, 1) := by decide +kernel
theorem dL_areAlike_1 : decode cL_areAlike 1 = .ok (.istore_n 2, 1) := by decide +kernel
theorem dL_areAlike_2 : decode cL_areAlike 2 = .ok (.iconst 0, 1) := by decide +kernel
theorem dL_areAlike_3 : decode cL_areAlike 3 = .ok (.istore_n 3, 1) := by decide +kernel
theorem dL_areAlike_4 : decode cL_areAlike 4 = .ok (.iload_n 3, 1) := by decide +kernel
theorem dL_areAlike_5 : decode cL_areAlike 5 = .ok (.bipush 12, 2) := by decide +kernel
theorem dL_areAlike_7 : decode cL_areAlike 7 = .ok (.if_icmp .ge 38, 3) := by decide +kernel
theorem dL_areAlike_10 : decode cL_areAlike 10 = .ok (.iload_n 2, 1) := by decide +kernel
theorem dL_areAlike_11 : decode cL_areAlike 11 = .ok (.ifCond .eq 26, 3) := by decide +kernel
theorem dL_areAlike_14 : decode cL_areAlike 14 = .ok (.iload_n 3, 1) := by decide +kernel
theorem dL_areAlike_15 : decode cL_areAlike 15 = .ok (.bipush 6, 2) := by decide +kernel
theorem dL_areAlike_17 : decode cL_areAlike 17 = .ok (.if_icmp .eq 16, 3) := by decide +kernel
theorem dL_areAlike_20 : decode cL_areAlike 20 = .ok (.aload_n 0, 1) := by decide +kernel
theorem dL_areAlike_21 : decode cL_areAlike 21 = .ok (.iload_n 3, 1) := by decide +kernel
theorem dL_areAlike_22 : decode cL_areAlike 22 = .ok (.invokevirtual 39, 3) := by decide +kernel
theorem dL_areAlike_25 : decode cL_areAlike 25 = .ok (.aload_n 1, 1) := by decide +kernel
theorem dL_areAlike_26 : decode cL_areAlike 26 = .ok (.iload_n 3, 1) := by decide +kernel
theorem dL_areAlike_27 : decode cL_areAlike 27 = .ok (.invokevirtual 39, 3) := by decide +kernel
theorem dL_areAlike_30 : decode cL_areAlike 30 = .ok (.if_icmp .ne 7, 3) := by decide +kernel
theorem dL_areAlike_33 : decode cL_areAlike 33 = .ok (.iconst 1, 1) := by decide +kernel
theorem dL_areAlike_34 : decode cL_areAlike 34 = .ok (.goto 4, 3) := by decide +kernel
theorem dL_areAlike_37 : decode cL_areAlike 37 = .ok (.iconst 0, 1) := by decide +kernel
theorem dL_areAlike_38 : decode cL_areAlike 38 = .ok (.istore_n 2, 1) := by decide +kernel
theorem dL_areAlike_39 : decode cL_areAlike 39 = .ok (.iinc 3 1, 3) := by decide +kernel
theorem dL_areAlike_42 : decode cL_areAlike 42 = .ok (.goto (-38), 3) := by decide +kernel
theorem dL_areAlike_45 : decode cL_areAlike 45 = .ok (.iconst 1, 1) := by decide +kernel
theorem dL_areAlike_46 : decode cL_areAlike 46 = .ok (.istore_n 3, 1) := by decide +kernel
theorem dL_areAlike_47 : decode cL_areAlike 47 = .ok (.iload_n 3, 1) := by decide +kernel
theorem dL_areAlike_48 : decode cL_areAlike 48 = .ok (.bipush 10, 2) := by decide +kernel
theorem dL_areAlike_50 : decode cL_areAlike 50 = .ok (.if_icmp .ge 33, 3) := by decide +kernel
theorem dL_areAlike_53 : decode cL_areAlike 53 = .ok (.iload_n 2, 1) := by decide +kernel
theorem dL_areAlike_54 : decode cL_areAlike 54 = .ok (.ifCond .eq 21, 3) := by decide +kernel
theorem dL_areAlike_57 : decode cL_areAlike 57 = .ok (.aload_n 0, 1) := by decide +kernel
theorem dL_areAlike_58 : decode cL_areAlike 58 = .ok (.iload_n 3, 1) := by decide +kernel
theorem dL_areAlike_59 : decode cL_areAlike 59 = .ok (.invokevirtual 54, 3) := by decide +kernel
theorem dL_areAlike_62 : decode cL_areAlike 62 = .ok (.aload_n 1, 1) := by decide +kernel
theorem dL_areAlike_63 : decode cL_areAlike 63 = .ok (.iload_n 3, 1) := by decide +kernel
theorem dL_areAlike_64 : decode cL_areAlike 64 = .ok (.invokevirtual 54, 3) := by decide +kernel
theorem dL_areAlike_67 : decode cL_areAlike 67 = .ok (.lcmp, 1) := by decide +kernel
theorem dL_areAlike_68 : decode cL_areAlike 68 = .ok (.ifCond .ne 7, 3) := by decide +kernel
theorem dL_areAlike_71 : decode cL_areAlike 71 = .ok (.iconst 1, 1) := by decide +kernel
theorem dL_areAlike_72 : decode cL_areAlike 72 = .ok (.goto 4, 3) := by decide +kernel
theorem dL_areAlike_75 : decode cL_areAlike 75 = .ok (.iconst 0, 1) := by decide +kernel
theorem dL_areAlike_76 : decode cL_areAlike 76 = .ok (.istore_n 2, 1) := by decide +kernel
theorem dL_areAlike_77 : decode cL_areAlike 77 = .ok (.iinc 3 1, 3) := by decide +kernel
theorem dL_areAlike_80 : decode cL_areAlike 80 = .ok (.goto (-33), 3) := by decide +kernel
theorem dL_areAlike_83 : decode cL_areAlike 83 = .ok (.iconst 0, 1) := by decide +kernel
theorem dL_areAlike_84 : decode cL_areAlike 84 = .ok (.istore_n 3, 1) := by decide +kernel
theorem dL_areAlike_85 : decode cL_areAlike 85 = .ok (.iload_n 3, 1) := by decide +kernel
theorem dL_areAlike_86 : decode cL_areAlike 86 = .ok (.aload_n 0, 1) := by decide +kernel
theorem dL_areAlike_87 : decode cL_areAlike 87 = .ok (.bipush 7, 2) := by decide +kernel
theorem dL_areAlike_89 : decode cL_areAlike 89 = .ok (.invokevirtual 39, 3) := by decide +kernel
theorem dL_areAlike_92 : decode cL_areAlike 92 = .ok (.if_icmp .ge 49, 3) := by decide +kernel
theorem dL_areAlike_95 : decode cL_areAlike 95 = .ok (.iload_n 2, 1) := by decide +kernel
theorem dL_areAlike_96 : decode cL_areAlike 96 = .ok (.ifCond .eq 37, 3) := by decide +kernel
theorem dL_areAlike_99 : decode cL_areAlike 99 = .ok (.aload_n 0, 1) := by decide +kernel
theorem dL_areAlike_100 : decode cL_areAlike 100 = .ok (.iload_n 3, 1) := by decide +kernel
theorem dL_areAlike_101 : decode cL_areAlike 101 = .ok (.iconst 2, 1) := by decide +kernel
theorem dL_areAlike_102 : decode cL_areAlike 102 = .ok (.invokevirtual 58, 3) := by decide +kernel
theorem dL_areAlike_105 : decode cL_areAlike 105 = .ok (.aload_n 1, 1) := by decide +kernel
theorem dL_areAlike_106 : decode cL_areAlike 106 = .ok (.iload_n 3, 1) := by decide +kernel
theorem dL_areAlike_107 : decode cL_areAlike 107 = .ok (.iconst 2, 1) := by decide +kernel
theorem dL_areAlike_108 : decode cL_areAlike 108 = .ok (.invokevirtual 58, 3) := by decide +kernel
theorem dL_areAlike_111 : decode cL_areAlike 111 = .ok (.if_icmp .ne 22, 3) := by decide +kernel
theorem dL_areAlike_114 : decode cL_areAlike 114 = .ok (.aload_n 0, 1) := by decide +kernel
theorem dL_areAlike_115 : decode cL_areAlike 115 = .ok (.iload_n 3, 1) := by decide +kernel
theorem dL_areAlike_116 : decode cL_areAlike 116 = .ok (.iconst 3, 1) := by decide +kernel
theorem dL_areAlike_117 : decode cL_areAlike 117 = .ok (.invokevirtual 58, 3) := by decide +kernel
theorem dL_areAlike_120 : decode cL_areAlike 120 = .ok (.aload_n 1, 1) := by decide +kernel
theorem dL_areAlike_121 : decode cL_areAlike 121 = .ok (.iload_n 3, 1) := by decide +kernel
theorem dL_areAlike_122 : decode cL_areAlike 122 = .ok (.iconst 3, 1) := by decide +kernel
theorem dL_areAlike_123 : decode cL_areAlike 123 = .ok (.invokevirtual 58, 3) := by decide +kernel
theorem dL_areAlike_126 : decode cL_areAlike 126 = .ok (.if_icmp .ne 7, 3) := by decide +kernel
theorem dL_areAlike_129 : decode cL_areAlike 129 = .ok (.iconst 1, 1) := by decide +kernel
theorem dL_areAlike_130 : decode cL_areAlike 130 = .ok (.goto 4, 3) := by decide +kernel
theorem dL_areAlike_133 : decode cL_areAlike 133 = .ok (.iconst 0, 1) := by decide +kernel
theorem dL_areAlike_134 : decode cL_areAlike 134 = .ok (.istore_n 2, 1) := by decide +kernel
theorem dL_areAlike_135 : decode cL_areAlike 135 = .ok (.iinc 3 1, 3) := by decide +kernel
theorem dL_areAlike_138 : decode cL_areAlike 138 = .ok (.goto (-53), 3) := by decide +kernel
theorem dL_areAlike_141 : decode cL_areAlike 141 = .ok (.iload_n 2, 1) := by decide +kernel
theorem dL_areAlike_142 : decode cL_areAlike 142 = .ok (.ifCond .eq 30, 3) := by decide +kernel
theorem dL_areAlike_145 : decode cL_areAlike 145 = .ok (.aload_n 0, 1) := by decide +kernel
theorem dL_areAlike_146 : decode cL_areAlike 146 = .ok (.invokevirtual 61, 3) := by decide +kernel
theorem dL_areAlike_149 : decode cL_areAlike 149 = .ok (.aload_n 1, 1) := by decide +kernel
theorem dL_areAlike_150 : decode cL_areAlike 150 = .ok (.invokevirtual 61, 3) := by decide +kernel
theorem dL_areAlike_153 : decode cL_areAlike 153 = .ok (.dcmp .l, 1) := by decide +kernel
theorem dL_areAlike_154 : decode cL_areAlike 154 = .ok (.ifCond .ne 18, 3) := by decide +kernel
theorem dL_areAlike_157 : decode cL_areAlike 157 = .ok (.aload_n 0, 1) := by decide +kernel
theorem dL_areAlike_158 : decode cL_areAlike 158 = .ok (.invokevirtual 65, 3) := by decide +kernel
theorem dL_areAlike_161 : decode cL_areAlike 161 = .ok (.aload_n 1, 1) := by decide +kernel
theorem dL_areAlike_162 : decode cL_areAlike 162 = .ok (.invokevirtual 65, 3) := by decide +kernel
theorem dL_areAlike_165 : decode cL_areAlike 165 = .ok (.if_icmp .ne 7, 3) := by decide +kernel
theorem dL_areAlike_168 : decode cL_areAlike 168 = .ok (.iconst 1, 1) := by decide +kernel
theorem dL_areAlike_169 : decode cL_areAlike 169 = .ok (.goto 4, 3) := by decide +kernel
theorem dL_areAlike_172 : decode cL_areAlike 172 = .ok (.iconst 0, 1) := by decide +kernel
theorem dL_areAlike_173 : decode cL_areAlike 173 = .ok (.ireturn, 1) := by decide +kernel
set_option maxRecDepth 20000 in
theorem ggL_isSound_X5_setting : GoodIn wsL_isSound wsX5_setting := goodIn_ca (goodIn_r _ [5, 6, 7, 8, 4, 9, 10, 11, 12, 13, 14, 15, 16, 17, 18, 19, 20, 21, 22, 23, 24, 25, 26, 27, 28, 29, 105, 106, 107, 108, 109, 110, 111, 112, 113, 114, 115, 116, 117, 118, 119, 120, 121, 122, 123, 124, 125, 126, 127, 128] (by decide +kernel) (by decide +kernel)) (goodIn_sub (fun _ h => List.mem_cons_of_mem _ (List.mem_append_left _ (List.mem_append_right _ h))) (by decide +kernel))
set_option maxRecDepth 20000 in
theorem gL_isSound_X5_setting : GoodIn wsL_isSound (wsV RL 39 RX5 yX5_setting wsX5_setting) := goodIn_app (goodIn_of _ (by decide +kernel)) ggL_isSound_X5_setting
set_option maxRecDepth 20000 in
theorem ggL_isSound_X5_roof : GoodIn wsL_isSound wsX5_roof := goodIn_ca (goodIn_ca (goodIn_r _ [33, 6, 34, 35, 36, 37, 4, 38, 39, 40, 7, 8, 9, 10, 11, 41, 42, 43, 44, 45, 46, 47, 48, 49, 50, 105, 106, 107, 108, 109, 110, 111, 112, 113, 114, 115, 116, 117, 118, 119, 120, 121, 122, 123, 124, 125, 129, 130, 131, 132, 133, 134] (by decide +kernel) (by decide +kernel)) (goodIn_sub (fun _ h => List.mem_cons_of_mem _ (List.mem_append_right _ h)) (by decide +kernel))) (goodIn_sub (fun _ h => List.mem_cons_of_mem _ (List.mem_append_left _ (List.mem_append_right _ h))) (by decide +kernel))
set_option maxRecDepth 20000 in
theorem gL_isSound_X5_roof : GoodIn wsL_isSound (wsV RL 68 RX5 yX5_roof wsX5_roof) := goodIn_app (goodIn_of _ (by decide +kernel)) ggL_isSound_X5_roof
set_option maxRecDepth 20000 in
theorem ggL_isSound_X5_sum : GoodIn wsL_isSound wsX5_sum := goodIn_ca (goodIn_r _ [54, 6, 55, 56, 7, 8, 4, 9, 10, 11, 57, 58, 59, 15, 60, 61, 105, 106, 107, 108, 109, 110, 111, 112, 113, 114, 115, 116, 117, 118, 119, 120, 121, 122, 123, 124, 125] (by decide +kernel) (by decide +kernel)) (goodIn_sub (fun _ h => List.mem_cons_of_mem _ (List.mem_append_left _ (List.mem_append_right _ h))) (by decide +kernel))
set_option maxRecDepth 20000 in
theorem gL_isSound_X5_sum : GoodIn wsL_isSound (wsV RL 54 RX5 yX5_sum wsX5_sum) := goodIn_app (goodIn_of _ (by decide +kernel)) ggL_isSound_X5_sum
set_option maxRecDepth 20000 in
theorem ggL_isSound_X5_user : GoodIn wsL_isSound wsX5_user := goodIn_ca (goodIn_ca (goodIn_r _ [65, 6, 66, 67, 68, 36, 37, 4, 38, 39, 40, 7, 8, 9, 10, 11, 69, 70, 71, 72, 73, 74, 75, 76, 77, 105, 106, 107, 108, 109, 110, 111, 112, 113, 114, 115, 116, 117, 118, 119, 120, 121, 122, 123, 124, 125, 126, 127, 128, 135, 136, 137, 138] (by decide +kernel) (by decide +kernel)) (goodIn_sub (fun _ h => List.mem_cons_of_mem _ (List.mem_append_right _ h)) (by decide +kernel))) (goodIn_sub (fun _ h => List.mem_cons_of_mem _ (List.mem_append_left _ (List.mem_append_right _ h))) (by decide +kernel))
set_option maxRecDepth 20000 in
theorem gL_isSound_X5_user : GoodIn wsL_isSound (wsV RL 58 RX5 yX5_user wsX5_user) := goodIn_app (goodIn_of _ (by decide +kernel)) ggL_isSound_X5_user
set_option maxRecDepth 20000 in
theorem ggL_isSound_X5_day : GoodIn wsL_isSound wsX5_day := goodIn_ca (goodIn_ca (goodIn_r _ [81, 6, 56, 36, 37, 4, 38, 39, 40, 7, 8, 9, 10, 11, 57, 58, 59, 15, 60, 61, 105, 106, 107, 108, 109, 110, 111, 112, 113, 114, 115, 116, 117, 118, 119, 120, 121, 122, 123, 124, 125] (by decide +kernel) (by decide +kernel)) (goodIn_sub (fun _ h => List.mem_cons_of_mem _ (List.mem_append_right _ h)) (by decide +kernel))) (goodIn_sub (fun _ h => List.mem_cons_of_mem _ (List.mem_append_left _ (List.mem_append_right _ h))) (by decide +kernel))
set_option maxRecDepth 20000 in
theorem gL_isSound_X5_day : GoodIn wsL_isSound (wsV RL 71 RX5 yX5_day wsX5_day) := goodIn_app (goodIn_of _ (by decide +kernel)) ggL_isSound_X5_day
set_option maxRecDepth 20000 in
theorem ggL_isSound_X5_rain : GoodIn wsL_isSound wsX5_rain := goodIn_ca (goodIn_r _ [85, 6, 86, 87, 36, 37, 4, 38, 39, 40, 105, 106, 107, 108, 109, 110, 111, 112, 113, 114, 115, 116, 117, 118, 119, 120, 121, 122, 123, 124, 125] (by decide +kernel) (by decide +kernel)) (goodIn_sub (fun _ h => List.mem_cons_of_mem _ (List.mem_append_right _ h)) (by decide +kernel))
set_option maxRecDepth 20000 in
theorem gL_isSound_X5_rain : GoodIn wsL_isSound (wsV RL 74 RX5 yX5_rain wsX5_rain) := goodIn_app (goodIn_of _ (by decide +kernel)) ggL_isSound_X5_rain
set_option maxRecDepth 20000 in
theorem ggL_isSound_X5_longestShortage : GoodIn wsL_isSound wsX5_longestShortage := goodIn_r _ [91, 6, 56, 92, 93, 94, 95, 96, 97, 98, 15, 99, 100, 58, 59, 60, 61, 105, 106, 107, 108, 109, 110, 111, 112, 113, 114, 115, 116, 117, 118, 119, 120, 121, 122, 123, 124, 125] (by decide +kernel) (by decide +kernel)
set_option maxRecDepth 20000 in
theorem gL_isSound_X5_longestShortage : GoodIn wsL_isSound (wsV RL 65 RX5 yX5_longestShortage wsX5_longestShortage) := goodIn_app (goodIn_of _ (by decide +kernel)) ggL_isSound_X5_longestShortage
set_option maxRecDepth 20000 in
theorem ggL_isSound_X5_reliability : GoodIn wsL_isSound wsX5_reliability := goodIn_r _ [104, 6, 56, 96, 97, 98, 15, 99, 100, 58, 59, 60, 61, 105, 106, 107, 108, 109, 110, 111, 112, 113, 114, 115, 116, 117, 118, 119, 120, 121, 122, 123, 124, 125] (by decide +kernel) (by decide +kernel)
set_option maxRecDepth 20000 in
theorem gL_isSound_X5_reliability : GoodIn wsL_isSound (wsV RL 61 RX5 yX5_reliability wsX5_reliability) := goodIn_app (goodIn_of _ (by decide +kernel)) ggL_isSound_X5_reliability
theorem dL_isSound_0 : decode cL_isSound 0 = .ok (.lconst 0, 1) := by decide +kernel
theorem dL_isSound_1 : decode cL_isSound 1 = .ok (.lstore_n 1, 1) := by decide +kernel
theorem dL_isSound_2 : decode cL_isSound 2 = .ok (.iconst 0, 1) := by decide +kernel
theorem dL_isSound_3 : decode cL_isSound 3 = .ok (.istore_n 3, 1) := by decide +kernel
theorem dL_isSound_4 : decode cL_isSound 4 = .ok (.iload_n 3, 1) := by decide +kernel
theorem dL_isSound_5 : decode cL_isSound 5 = .ok (.aload_n 0, 1) := by decide +kernel
theorem dL_isSound_6 : decode cL_isSound 6 = .ok (.bipush 6, 2) := by decide +kernel
theorem dL_isSound_8 : decode cL_isSound 8 = .ok (.invokevirtual 39, 3) := by decide +kernel
theorem dL_isSound_11 : decode cL_isSound 11 = .ok (.if_icmp .ge 19, 3) := by decide +kernel
theorem dL_isSound_14 : decode cL_isSound 14 = .ok (.lload_n 1, 1) := by decide +kernel
theorem dL_isSound_15 : decode cL_isSound 15 = .ok (.aload_n 0, 1) := by decide +kernel
theorem dL_isSound_16 : decode cL_isSound 16 = .ok (.iload_n 3, 1) := by decide +kernel
theorem dL_isSound_17 : decode cL_isSound 17 = .ok (.iconst 4, 1) := by decide +kernel
theorem dL_isSound_18 : decode cL_isSound 18 = .ok (.invokevirtual 68, 3) := by decide +kernel
theorem dL_isSound_21 : decode cL_isSound 21 = .ok (.i2l, 1) := by decide +kernel
theorem dL_isSound_22 : decode cL_isSound 22 = .ok (.ladd, 1) := by decide +kernel
theorem dL_isSound_23 : decode cL_isSound 23 = .ok (.lstore_n 1, 1) := by decide +kernel
theorem dL_isSound_24 : decode cL_isSound 24 = .ok (.iinc 3 1, 3) := by decide +kernel
theorem dL_isSound_27 : decode cL_isSound 27 = .ok (.goto (-23), 3) := by decide +kernel
theorem dL_isSound_30 : decode cL_isSound 30 = .ok (.aload_n 0, 1) := by decide +kernel
theorem dL_isSound_31 : decode cL_isSound 31 = .ok (.iconst 1, 1) := by decide +kernel
theorem dL_isSound_32 : decode cL_isSound 32 = .ok (.invokevirtual 54, 3) := by decide +kernel
theorem dL_isSound_35 : decode cL_isSound 35 = .ok (.aload_n 0, 1) := by decide +kernel
theorem dL_isSound_36 : decode cL_isSound 36 = .ok (.bipush 8, 2) := by decide +kernel
theorem dL_isSound_38 : decode cL_isSound 38 = .ok (.invokevirtual 54, 3) := by decide +kernel
theorem dL_isSound_41 : decode cL_isSound 41 = .ok (.ladd, 1) := by decide +kernel
theorem dL_isSound_42 : decode cL_isSound 42 = .ok (.aload_n 0, 1) := by decide +kernel
theorem dL_isSound_43 : decode cL_isSound 43 = .ok (.iconst 4, 1) := by decide +kernel
theorem dL_isSound_44 : decode cL_isSound 44 = .ok (.invokevirtual 54, 3) := by decide +kernel
theorem dL_isSound_47 : decode cL_isSound 47 = .ok (.aload_n 0, 1) := by decide +kernel
theorem dL_isSound_48 : decode cL_isSound 48 = .ok (.iconst 5, 1) := by decide +kernel
theorem dL_isSound_49 : decode cL_isSound 49 = .ok (.invokevirtual 54, 3) := by decide +kernel
theorem dL_isSound_52 : decode cL_isSound 52 = .ok (.ladd, 1) := by decide +kernel
theorem dL_isSound_53 : decode cL_isSound 53 = .ok (.aload_n 0, 1) := by decide +kernel
theorem dL_isSound_54 : decode cL_isSound 54 = .ok (.bipush 6, 2) := by decide +kernel
theorem dL_isSound_56 : decode cL_isSound 56 = .ok (.invokevirtual 54, 3) := by decide +kernel
theorem dL_isSound_59 : decode cL_isSound 59 = .ok (.ladd, 1) := by decide +kernel
theorem dL_isSound_60 : decode cL_isSound 60 = .ok (.aload_n 0, 1) := by decide +kernel
theorem dL_isSound_61 : decode cL_isSound 61 = .ok (.bipush 10, 2) := by decide +kernel
theorem dL_isSound_63 : decode cL_isSound 63 = .ok (.invokevirtual 39, 3) := by decide +kernel
theorem dL_isSound_66 : decode cL_isSound 66 = .ok (.i2l, 1) := by decide +kernel
theorem dL_isSound_67 : decode cL_isSound 67 = .ok (.ladd, 1) := by decide +kernel
theorem dL_isSound_68 : decode cL_isSound 68 = .ok (.lcmp, 1) := by decide +kernel
theorem dL_isSound_69 : decode cL_isSound 69 = .ok (.ifCond .ne 38, 3) := by decide +kernel
theorem dL_isSound_72 : decode cL_isSound 72 = .ok (.aload_n 0, 1) := by decide +kernel
theorem dL_isSound_73 : decode cL_isSound 73 = .ok (.iconst 2, 1) := by decide +kernel
theorem dL_isSound_74 : decode cL_isSound 74 = .ok (.invokevirtual 54, 3) := by decide +kernel
theorem dL_isSound_77 : decode cL_isSound 77 = .ok (.aload_n 0, 1) := by decide +kernel
theorem dL_isSound_78 : decode cL_isSound 78 = .ok (.bipush 9, 2) := by decide +kernel
theorem dL_isSound_80 : decode cL_isSound 80 = .ok (.invokevirtual 54, 3) := by decide +kernel
theorem dL_isSound_83 : decode cL_isSound 83 = .ok (.lload_n 1, 1) := by decide +kernel
theorem dL_isSound_84 : decode cL_isSound 84 = .ok (.ladd, 1) := by decide +kernel
theorem dL_isSound_85 : decode cL_isSound 85 = .ok (.lcmp, 1) := by decide +kernel
theorem dL_isSound_86 : decode cL_isSound 86 = .ok (.ifCond .ne 21, 3) := by decide +kernel
theorem dL_isSound_89 : decode cL_isSound 89 = .ok (.aload_n 0, 1) := by decide +kernel
theorem dL_isSound_90 : decode cL_isSound 90 = .ok (.bipush 10, 2) := by decide +kernel
theorem dL_isSound_92 : decode cL_isSound 92 = .ok (.invokevirtual 39, 3) := by decide +kernel
theorem dL_isSound_95 : decode cL_isSound 95 = .ok (.aload_n 0, 1) := by decide +kernel
theorem dL_isSound_96 : decode cL_isSound 96 = .ok (.iconst 0, 1) := by decide +kernel
theorem dL_isSound_97 : decode cL_isSound 97 = .ok (.invokevirtual 39, 3) := by decide +kernel
theorem dL_isSound_100 : decode cL_isSound 100 = .ok (.if_icmp .gt 7, 3) := by decide +kernel
theorem dL_isSound_103 : decode cL_isSound 103 = .ok (.iconst 1, 1) := by decide +kernel
theorem dL_isSound_104 : decode cL_isSound 104 = .ok (.goto 4, 3) := by decide +kernel
theorem dL_isSound_107 : decode cL_isSound 107 = .ok (.iconst 0, 1) := by decide +kernel
theorem dL_isSound_108 : decode cL_isSound 108 = .ok (.istore_n 3, 1) := by decide +kernel
theorem dL_isSound_109 : decode cL_isSound 109 = .ok (.lconst 0, 1) := by decide +kernel
theorem dL_isSound_110 : decode cL_isSound 110 = .ok (.lstore 4, 2) := by decide +kernel
theorem dL_isSound_112 : decode cL_isSound 112 = .ok (.iconst 0, 1) := by decide +kernel
theorem dL_isSound_113 : decode cL_isSound 113 = .ok (.istore 6, 2) := by decide +kernel
theorem dL_isSound_115 : decode cL_isSound 115 = .ok (.iload 6, 2) := by decide +kernel
theorem dL_isSound_117 : decode cL_isSound 117 = .ok (.aload_n 0, 1) := by decide +kernel
theorem dL_isSound_118 : decode cL_isSound 118 = .ok (.bipush 7, 2) := by decide +kernel
theorem dL_isSound_120 : decode cL_isSound 120 = .ok (.invokevirtual 39, 3) := by decide +kernel
theorem dL_isSound_123 : decode cL_isSound 123 = .ok (.if_icmp .ge 49, 3) := by decide +kernel
theorem dL_isSound_126 : decode cL_isSound 126 = .ok (.lload 4, 2) := by decide +kernel
theorem dL_isSound_128 : decode cL_isSound 128 = .ok (.aload_n 0, 1) := by decide +kernel
theorem dL_isSound_129 : decode cL_isSound 129 = .ok (.iload 6, 2) := by decide +kernel
theorem dL_isSound_131 : decode cL_isSound 131 = .ok (.iconst 3, 1) := by decide +kernel
theorem dL_isSound_132 : decode cL_isSound 132 = .ok (.invokevirtual 58, 3) := by decide +kernel
theorem dL_isSound_135 : decode cL_isSound 135 = .ok (.i2l, 1) := by decide +kernel
theorem dL_isSound_136 : decode cL_isSound 136 = .ok (.ladd, 1) := by decide +kernel
theorem dL_isSound_137 : decode cL_isSound 137 = .ok (.lstore 4, 2) := by decide +kernel
theorem dL_isSound_139 : decode cL_isSound 139 = .ok (.iload_n 3, 1) := by decide +kernel
theorem dL_isSound_140 : decode cL_isSound 140 = .ok (.ifCond .eq 24, 3) := by decide +kernel
theorem dL_isSound_143 : decode cL_isSound 143 = .ok (.aload_n 0, 1) := by decide +kernel
theorem dL_isSound_144 : decode cL_isSound 144 = .ok (.iload 6, 2) := by decide +kernel
theorem dL_isSound_146 : decode cL_isSound 146 = .ok (.iconst 2, 1) := by decide +kernel
theorem dL_isSound_147 : decode cL_isSound 147 = .ok (.invokevirtual 58, 3) := by decide +kernel
theorem dL_isSound_150 : decode cL_isSound 150 = .ok (.aload_n 0, 1) := by decide +kernel
theorem dL_isSound_151 : decode cL_isSound 151 = .ok (.iload 6, 2) := by decide +kernel
theorem dL_isSound_153 : decode cL_isSound 153 = .ok (.iconst 0, 1) := by decide +kernel
theorem dL_isSound_154 : decode cL_isSound 154 = .ok (.invokevirtual 58, 3) := by decide +kernel
theorem dL_isSound_157 : decode cL_isSound 157 = .ok (.if_icmp .gt 7, 3) := by decide +kernel
theorem dL_isSound_160 : decode cL_isSound 160 = .ok (.iconst 1, 1) := by decide +kernel
theorem dL_isSound_161 : decode cL_isSound 161 = .ok (.goto 4, 3) := by decide +kernel
theorem dL_isSound_164 : decode cL_isSound 164 = .ok (.iconst 0, 1) := by decide +kernel
theorem dL_isSound_165 : decode cL_isSound 165 = .ok (.istore_n 3, 1) := by decide +kernel
theorem dL_isSound_166 : decode cL_isSound 166 = .ok (.iinc 6 1, 3) := by decide +kernel
theorem dL_isSound_169 : decode cL_isSound 169 = .ok (.goto (-54), 3) := by decide +kernel
theorem dL_isSound_172 : decode cL_isSound 172 = .ok (.iconst 0, 1) := by decide +kernel
theorem dL_isSound_173 : decode cL_isSound 173 = .ok (.istore 6, 2) := by decide +kernel
theorem dL_isSound_175 : decode cL_isSound 175 = .ok (.iconst 0, 1) := by decide +kernel
theorem dL_isSound_176 : decode cL_isSound 176 = .ok (.istore 7, 2) := by decide +kernel
theorem dL_isSound_178 : decode cL_isSound 178 = .ok (.iload 7, 2) := by decide +kernel
theorem dL_isSound_180 : decode cL_isSound 180 = .ok (.aload_n 0, 1) := by decide +kernel
theorem dL_isSound_181 : decode cL_isSound 181 = .ok (.bipush 9, 2) := by decide +kernel
theorem dL_isSound_183 : decode cL_isSound 183 = .ok (.invokevirtual 39, 3) := by decide +kernel
theorem dL_isSound_186 : decode cL_isSound 186 = .ok (.if_icmp .ge 89, 3) := by decide +kernel
theorem dL_isSound_189 : decode cL_isSound 189 = .ok (.iload 6, 2) := by decide +kernel
theorem dL_isSound_191 : decode cL_isSound 191 = .ok (.aload_n 0, 1) := by decide +kernel
theorem dL_isSound_192 : decode cL_isSound 192 = .ok (.iload 7, 2) := by decide +kernel
theorem dL_isSound_194 : decode cL_isSound 194 = .ok (.bipush 7, 2) := by decide +kernel
theorem dL_isSound_196 : decode cL_isSound 196 = .ok (.invokevirtual 71, 3) := by decide +kernel
theorem dL_isSound_199 : decode cL_isSound 199 = .ok (.ifCond .le 7, 3) := by decide +kernel
theorem dL_isSound_202 : decode cL_isSound 202 = .ok (.iconst 1, 1) := by decide +kernel
theorem dL_isSound_203 : decode cL_isSound 203 = .ok (.goto 4, 3) := by decide +kernel
theorem dL_isSound_206 : decode cL_isSound 206 = .ok (.iconst 0, 1) := by decide +kernel
theorem dL_isSound_207 : decode cL_isSound 207 = .ok (.iadd, 1) := by decide +kernel
theorem dL_isSound_208 : decode cL_isSound 208 = .ok (.istore 6, 2) := by decide +kernel
theorem dL_isSound_210 : decode cL_isSound 210 = .ok (.iload_n 3, 1) := by decide +kernel
theorem dL_isSound_211 : decode cL_isSound 211 = .ok (.ifCond .eq 56, 3) := by decide +kernel
theorem dL_isSound_214 : decode cL_isSound 214 = .ok (.aload_n 0, 1) := by decide +kernel
theorem dL_isSound_215 : decode cL_isSound 215 = .ok (.iload 7, 2) := by decide +kernel
theorem dL_isSound_217 : decode cL_isSound 217 = .ok (.invokevirtual 74, 3) := by decide +kernel
theorem dL_isSound_220 : decode cL_isSound 220 = .ok (.ifCond .gt 23, 3) := by decide +kernel
theorem dL_isSound_223 : decode cL_isSound 223 = .ok (.aload_n 0, 1) := by decide +kernel
theorem dL_isSound_224 : decode cL_isSound 224 = .ok (.iload 7, 2) := by decide +kernel
theorem dL_isSound_226 : decode cL_isSound 226 = .ok (.iconst 1, 1) := by decide +kernel
theorem dL_isSound_227 : decode cL_isSound 227 = .ok (.invokevirtual 71, 3) := by decide +kernel
theorem dL_isSound_230 : decode cL_isSound 230 = .ok (.ifCond .ne 37, 3) := by decide +kernel
theorem dL_isSound_233 : decode cL_isSound 233 = .ok (.aload_n 0, 1) := by decide +kernel
theorem dL_isSound_234 : decode cL_isSound 234 = .ok (.iload 7, 2) := by decide +kernel
theorem dL_isSound_236 : decode cL_isSound 236 = .ok (.iconst 2, 1) := by decide +kernel
theorem dL_isSound_237 : decode cL_isSound 237 = .ok (.invokevirtual 71, 3) := by decide +kernel
theorem dL_isSound_240 : decode cL_isSound 240 = .ok (.ifCond .ne 27, 3) := by decide +kernel
theorem dL_isSound_243 : decode cL_isSound 243 = .ok (.aload_n 0, 1) := by decide +kernel
theorem dL_isSound_244 : decode cL_isSound 244 = .ok (.iload 7, 2) := by decide +kernel
theorem dL_isSound_246 : decode cL_isSound 246 = .ok (.invokevirtual 74, 3) := by decide +kernel
theorem dL_isSound_249 : decode cL_isSound 249 = .ok (.ifCond .eq 14, 3) := by decide +kernel
theorem dL_isSound_252 : decode cL_isSound 252 = .ok (.aload_n 0, 1) := by decide +kernel
theorem dL_isSound_253 : decode cL_isSound 253 = .ok (.iload 7, 2) := by decide +kernel
theorem dL_isSound_255 : decode cL_isSound 255 = .ok (.bipush 9, 2) := by decide +kernel
theorem dL_isSound_257 : decode cL_isSound 257 = .ok (.invokevirtual 71, 3) := by decide +kernel
theorem dL_isSound_260 : decode cL_isSound 260 = .ok (.ifCond .ne 7, 3) := by decide +kernel
theorem dL_isSound_263 : decode cL_isSound 263 = .ok (.iconst 1, 1) := by decide +kernel
theorem dL_isSound_264 : decode cL_isSound 264 = .ok (.goto 4, 3) := by decide +kernel
theorem dL_isSound_267 : decode cL_isSound 267 = .ok (.iconst 0, 1) := by decide +kernel
theorem dL_isSound_268 : decode cL_isSound 268 = .ok (.istore_n 3, 1) := by decide +kernel
theorem dL_isSound_269 : decode cL_isSound 269 = .ok (.iinc 7 1, 3) := by decide +kernel
theorem dL_isSound_272 : decode cL_isSound 272 = .ok (.goto (-94), 3) := by decide +kernel
theorem dL_isSound_275 : decode cL_isSound 275 = .ok (.iload_n 3, 1) := by decide +kernel
theorem dL_isSound_276 : decode cL_isSound 276 = .ok (.ifCond .eq 37, 3) := by decide +kernel
theorem dL_isSound_279 : decode cL_isSound 279 = .ok (.lload 4, 2) := by decide +kernel
theorem dL_isSound_281 : decode cL_isSound 281 = .ok (.aload_n 0, 1) := by decide +kernel
theorem dL_isSound_282 : decode cL_isSound 282 = .ok (.bipush 6, 2) := by decide +kernel
theorem dL_isSound_284 : decode cL_isSound 284 = .ok (.invokevirtual 54, 3) := by decide +kernel
theorem dL_isSound_287 : decode cL_isSound 287 = .ok (.lcmp, 1) := by decide +kernel
theorem dL_isSound_288 : decode cL_isSound 288 = .ok (.ifCond .ne 25, 3) := by decide +kernel
theorem dL_isSound_291 : decode cL_isSound 291 = .ok (.aload_n 0, 1) := by decide +kernel
theorem dL_isSound_292 : decode cL_isSound 292 = .ok (.invokevirtual 65, 3) := by decide +kernel
theorem dL_isSound_295 : decode cL_isSound 295 = .ok (.iload 6, 2) := by decide +kernel
theorem dL_isSound_297 : decode cL_isSound 297 = .ok (.if_icmp .gt 16, 3) := by decide +kernel
theorem dL_isSound_300 : decode cL_isSound 300 = .ok (.aload_n 0, 1) := by decide +kernel
theorem dL_isSound_301 : decode cL_isSound 301 = .ok (.invokevirtual 61, 3) := by decide +kernel
theorem dL_isSound_304 : decode cL_isSound 304 = .ok (.dconst 1, 1) := by decide +kernel
theorem dL_isSound_305 : decode cL_isSound 305 = .ok (.dcmp .g, 1) := by decide +kernel
theorem dL_isSound_306 : decode cL_isSound 306 = .ok (.ifCond .gt 7, 3) := by decide +kernel
theorem dL_isSound_309 : decode cL_isSound 309 = .ok (.iconst 1, 1) := by decide +kernel
theorem dL_isSound_310 : decode cL_isSound 310 = .ok (.goto 4, 3) := by decide +kernel
theorem dL_isSound_313 : decode cL_isSound 313 = .ok (.iconst 0, 1) := by decide +kernel
theorem dL_isSound_314 : decode cL_isSound 314 = .ok (.ireturn, 1) := by decide +kernel
