set_option maxRecDepth 20000 in
theorem ggX6_does_X6_drains : GoodIn wsX6_does wsX6_drains := goodIn_r _ [7, 1, 8, 9, 10, 6, 11, 12, 13, 14, 15, 16, 17, 18, 2, 60, 61, 62, 63, 64, 65, 66, 67, 68, 69, 70, 71, 72] (by decide +kernel) (by decide +kernel)
set_option maxRecDepth 20000 in
theorem gX6_does_X6_drains : GoodIn wsX6_does (wsV RX6 116 RX6 yX6_drains wsX6_drains) := goodIn_app (goodIn_of _ (by decide +kernel)) ggX6_does_X6_drains
set_option maxRecDepth 20000 in
theorem ggX6_does_X6_flows : GoodIn wsX6_does wsX6_flows := goodIn_r _ [22, 1, 23, 8, 9, 10, 6, 11, 12, 13, 14, 15, 16, 17, 18, 2, 60, 61, 62, 63, 64, 65, 66, 67, 68, 69, 70, 71, 72] (by decide +kernel) (by decide +kernel)
set_option maxRecDepth 20000 in
theorem gX6_does_X6_flows : GoodIn wsX6_does (wsV RX6 119 RX6 yX6_flows wsX6_flows) := goodIn_app (goodIn_of _ (by decide +kernel)) ggX6_does_X6_flows
set_option maxRecDepth 20000 in
theorem ggX6_does_X6_tells : GoodIn wsX6_does wsX6_tells := goodIn_r _ [18, 1, 2, 60, 61, 62, 63, 64, 65, 66, 67, 68, 69, 70, 71, 72] (by decide +kernel) (by decide +kernel)
set_option maxRecDepth 20000 in
theorem gX6_does_X6_tells : GoodIn wsX6_does (wsV RX6 113 RX6 yX6_tells wsX6_tells) := goodIn_app (goodIn_of _ (by decide +kernel)) ggX6_does_X6_tells
set_option maxRecDepth 20000 in
theorem ggX6_does_X6_shares : GoodIn wsX6_does wsX6_shares := goodIn_r _ [27, 28, 1, 29, 30, 31, 6, 32, 33, 34, 35, 36, 37, 38, 39, 40, 41, 42, 43, 44, 45, 46, 47, 48, 49, 50, 51, 52, 53, 54, 55, 56, 57, 58, 59, 15, 16, 17, 18, 2, 60, 61, 62, 63, 64, 65, 66, 67, 68, 69, 70, 71, 72] (by decide +kernel) (by decide +kernel)
set_option maxRecDepth 20000 in
theorem gX6_does_X6_shares : GoodIn wsX6_does (wsV RX6 122 RX6 yX6_shares wsX6_shares) := goodIn_app (goodIn_of _ (by decide +kernel)) ggX6_does_X6_shares
theorem dX6_does_0 : decode cX6_does 0 = .ok (.aload_n 0, 1) := by decide +kernel
theorem dX6_does_1 : decode cX6_does 1 = .ok (.aload_n 0, 1) := by decide +kernel
theorem dX6_does_2 : decode cX6_does 2 = .ok (.getfield 7, 3) := by decide +kernel
theorem dX6_does_5 : decode cX6_does 5 = .ok (.bipush 9, 2) := by decide +kernel
theorem dX6_does_7 : decode cX6_does 7 = .ok (.iaload, 1) := by decide +kernel
theorem dX6_does_8 : decode cX6_does 8 = .ok (.putfield 110, 3) := by decide +kernel
theorem dX6_does_11 : decode cX6_does 11 = .ok (.iconst 0, 1) := by decide +kernel
theorem dX6_does_12 : decode cX6_does 12 = .ok (.istore_n 1, 1) := by decide +kernel
theorem dX6_does_13 : decode cX6_does 13 = .ok (.iload_n 1, 1) := by decide +kernel
theorem dX6_does_14 : decode cX6_does 14 = .ok (.bipush 10, 2) := by decide +kernel
theorem dX6_does_16 : decode cX6_does 16 = .ok (.if_icmp .ge 28, 3) := by decide +kernel
theorem dX6_does_19 : decode cX6_does 19 = .ok (.aload_n 0, 1) := by decide +kernel
theorem dX6_does_20 : decode cX6_does 20 = .ok (.getfield 7, 3) := by decide +kernel
theorem dX6_does_23 : decode cX6_does 23 = .ok (.sipush 163, 3) := by decide +kernel
theorem dX6_does_26 : decode cX6_does 26 = .ok (.bipush 10, 2) := by decide +kernel
theorem dX6_does_28 : decode cX6_does 28 = .ok (.aload_n 0, 1) := by decide +kernel
theorem dX6_does_29 : decode cX6_does 29 = .ok (.getfield 110, 3) := by decide +kernel
theorem dX6_does_32 : decode cX6_does 32 = .ok (.imul, 1) := by decide +kernel
theorem dX6_does_33 : decode cX6_does 33 = .ok (.iadd, 1) := by decide +kernel
theorem dX6_does_34 : decode cX6_does 34 = .ok (.iload_n 1, 1) := by decide +kernel
theorem dX6_does_35 : decode cX6_does 35 = .ok (.iadd, 1) := by decide +kernel
theorem dX6_does_36 : decode cX6_does 36 = .ok (.iconst 0, 1) := by decide +kernel
theorem dX6_does_37 : decode cX6_does 37 = .ok (.iastore, 1) := by decide +kernel
theorem dX6_does_38 : decode cX6_does 38 = .ok (.iinc 1 1, 3) := by decide +kernel
theorem dX6_does_41 : decode cX6_does 41 = .ok (.goto (-28), 3) := by decide +kernel
theorem dX6_does_44 : decode cX6_does 44 = .ok (.aload_n 0, 1) := by decide +kernel
theorem dX6_does_45 : decode cX6_does 45 = .ok (.getfield 7, 3) := by decide +kernel
theorem dX6_does_48 : decode cX6_does 48 = .ok (.bipush 63, 2) := by decide +kernel
theorem dX6_does_50 : decode cX6_does 50 = .ok (.aload_n 0, 1) := by decide +kernel
theorem dX6_does_51 : decode cX6_does 51 = .ok (.getfield 110, 3) := by decide +kernel
theorem dX6_does_54 : decode cX6_does 54 = .ok (.iadd, 1) := by decide +kernel
theorem dX6_does_55 : decode cX6_does 55 = .ok (.iaload, 1) := by decide +kernel
theorem dX6_does_56 : decode cX6_does 56 = .ok (.istore_n 1, 1) := by decide +kernel
theorem dX6_does_57 : decode cX6_does 57 = .ok (.aload_n 0, 1) := by decide +kernel
theorem dX6_does_58 : decode cX6_does 58 = .ok (.getfield 7, 3) := by decide +kernel
theorem dX6_does_61 : decode cX6_does 61 = .ok (.bipush 11, 2) := by decide +kernel
theorem dX6_does_63 : decode cX6_does 63 = .ok (.iload_n 1, 1) := by decide +kernel
theorem dX6_does_64 : decode cX6_does 64 = .ok (.ifCond .ne 15, 3) := by decide +kernel
theorem dX6_does_67 : decode cX6_does 67 = .ok (.aload_n 0, 1) := by decide +kernel
theorem dX6_does_68 : decode cX6_does 68 = .ok (.getfield 7, 3) := by decide +kernel
theorem dX6_does_71 : decode cX6_does 71 = .ok (.bipush 11, 2) := by decide +kernel
theorem dX6_does_73 : decode cX6_does 73 = .ok (.iaload, 1) := by decide +kernel
theorem dX6_does_74 : decode cX6_does 74 = .ok (.iconst 1, 1) := by decide +kernel
theorem dX6_does_75 : decode cX6_does 75 = .ok (.iadd, 1) := by decide +kernel
theorem dX6_does_76 : decode cX6_does 76 = .ok (.goto 4, 3) := by decide +kernel
theorem dX6_does_79 : decode cX6_does 79 = .ok (.iconst 0, 1) := by decide +kernel
theorem dX6_does_80 : decode cX6_does 80 = .ok (.iastore, 1) := by decide +kernel
theorem dX6_does_81 : decode cX6_does 81 = .ok (.iload_n 1, 1) := by decide +kernel
theorem dX6_does_82 : decode cX6_does 82 = .ok (.ifCond .ne 23, 3) := by decide +kernel
theorem dX6_does_85 : decode cX6_does 85 = .ok (.aload_n 0, 1) := by decide +kernel
theorem dX6_does_86 : decode cX6_does 86 = .ok (.getfield 7, 3) := by decide +kernel
theorem dX6_does_89 : decode cX6_does 89 = .ok (.bipush 11, 2) := by decide +kernel
theorem dX6_does_91 : decode cX6_does 91 = .ok (.iaload, 1) := by decide +kernel
theorem dX6_does_92 : decode cX6_does 92 = .ok (.aload_n 0, 1) := by decide +kernel
theorem dX6_does_93 : decode cX6_does 93 = .ok (.getfield 7, 3) := by decide +kernel
theorem dX6_does_96 : decode cX6_does 96 = .ok (.iconst 4, 1) := by decide +kernel
theorem dX6_does_97 : decode cX6_does 97 = .ok (.iaload, 1) := by decide +kernel
theorem dX6_does_98 : decode cX6_does 98 = .ok (.if_icmp .lt 7, 3) := by decide +kernel
theorem dX6_does_101 : decode cX6_does 101 = .ok (.aload_n 0, 1) := by decide +kernel
theorem dX6_does_102 : decode cX6_does 102 = .ok (.invokevirtual 116, 3) := by decide +kernel
theorem dX6_does_105 : decode cX6_does 105 = .ok (.iconst 0, 1) := by decide +kernel
theorem dX6_does_106 : decode cX6_does 106 = .ok (.istore_n 2, 1) := by decide +kernel
theorem dX6_does_107 : decode cX6_does 107 = .ok (.iload_n 2, 1) := by decide +kernel
theorem dX6_does_108 : decode cX6_does 108 = .ok (.aload_n 0, 1) := by decide +kernel
theorem dX6_does_109 : decode cX6_does 109 = .ok (.getfield 7, 3) := by decide +kernel
theorem dX6_does_112 : decode cX6_does 112 = .ok (.bipush 6, 2) := by decide +kernel
theorem dX6_does_114 : decode cX6_does 114 = .ok (.iaload, 1) := by decide +kernel
theorem dX6_does_115 : decode cX6_does 115 = .ok (.if_icmp .ge 20, 3) := by decide +kernel
theorem dX6_does_118 : decode cX6_does 118 = .ok (.aload_n 0, 1) := by decide +kernel
theorem dX6_does_119 : decode cX6_does 119 = .ok (.iconst 1, 1) := by decide +kernel
theorem dX6_does_120 : decode cX6_does 120 = .ok (.aload_n 0, 1) := by decide +kernel
theorem dX6_does_121 : decode cX6_does 121 = .ok (.iload_n 2, 1) := by decide +kernel
theorem dX6_does_122 : decode cX6_does 122 = .ok (.iload_n 1, 1) := by decide +kernel
theorem dX6_does_123 : decode cX6_does 123 = .ok (.invokevirtual 119, 3) := by decide +kernel
theorem dX6_does_126 : decode cX6_does 126 = .ok (.invokevirtual 113, 3) := by decide +kernel
theorem dX6_does_129 : decode cX6_does 129 = .ok (.iinc 2 1, 3) := by decide +kernel
theorem dX6_does_132 : decode cX6_does 132 = .ok (.goto (-25), 3) := by decide +kernel
theorem dX6_does_135 : decode cX6_does 135 = .ok (.aload_n 0, 1) := by decide +kernel
theorem dX6_does_136 : decode cX6_does 136 = .ok (.getfield 7, 3) := by decide +kernel
theorem dX6_does_139 : decode cX6_does 139 = .ok (.bipush 10, 2) := by decide +kernel
theorem dX6_does_141 : decode cX6_does 141 = .ok (.iaload, 1) := by decide +kernel
theorem dX6_does_142 : decode cX6_does 142 = .ok (.aload_n 0, 1) := by decide +kernel
theorem dX6_does_143 : decode cX6_does 143 = .ok (.getfield 7, 3) := by decide +kernel
theorem dX6_does_146 : decode cX6_does 146 = .ok (.sipush 163, 3) := by decide +kernel
theorem dX6_does_149 : decode cX6_does 149 = .ok (.bipush 10, 2) := by decide +kernel
theorem dX6_does_151 : decode cX6_does 151 = .ok (.aload_n 0, 1) := by decide +kernel
theorem dX6_does_152 : decode cX6_does 152 = .ok (.getfield 110, 3) := by decide +kernel
theorem dX6_does_155 : decode cX6_does 155 = .ok (.imul, 1) := by decide +kernel
theorem dX6_does_156 : decode cX6_does 156 = .ok (.iadd, 1) := by decide +kernel
theorem dX6_does_157 : decode cX6_does 157 = .ok (.iconst 1, 1) := by decide +kernel
theorem dX6_does_158 : decode cX6_does 158 = .ok (.iadd, 1) := by decide +kernel
theorem dX6_does_159 : decode cX6_does 159 = .ok (.iaload, 1) := by decide +kernel
theorem dX6_does_160 : decode cX6_does 160 = .ok (.iadd, 1) := by decide +kernel
theorem dX6_does_161 : decode cX6_does 161 = .ok (.istore_n 2, 1) := by decide +kernel
theorem dX6_does_162 : decode cX6_does 162 = .ok (.iload_n 2, 1) := by decide +kernel
theorem dX6_does_163 : decode cX6_does 163 = .ok (.aload_n 0, 1) := by decide +kernel
theorem dX6_does_164 : decode cX6_does 164 = .ok (.getfield 7, 3) := by decide +kernel
theorem dX6_does_167 : decode cX6_does 167 = .ok (.iconst 0, 1) := by decide +kernel
theorem dX6_does_168 : decode cX6_does 168 = .ok (.iaload, 1) := by decide +kernel
theorem dX6_does_169 : decode cX6_does 169 = .ok (.if_icmp .le 14, 3) := by decide +kernel
theorem dX6_does_172 : decode cX6_does 172 = .ok (.iload_n 2, 1) := by decide +kernel
theorem dX6_does_173 : decode cX6_does 173 = .ok (.aload_n 0, 1) := by decide +kernel
theorem dX6_does_174 : decode cX6_does 174 = .ok (.getfield 7, 3) := by decide +kernel
theorem dX6_does_177 : decode cX6_does 177 = .ok (.iconst 0, 1) := by decide +kernel
theorem dX6_does_178 : decode cX6_does 178 = .ok (.iaload, 1) := by decide +kernel
theorem dX6_does_179 : decode cX6_does 179 = .ok (.isub, 1) := by decide +kernel
theorem dX6_does_180 : decode cX6_does 180 = .ok (.goto 4, 3) := by decide +kernel
theorem dX6_does_183 : decode cX6_does 183 = .ok (.iconst 0, 1) := by decide +kernel
theorem dX6_does_184 : decode cX6_does 184 = .ok (.istore_n 3, 1) := by decide +kernel
theorem dX6_does_185 : decode cX6_does 185 = .ok (.aload_n 0, 1) := by decide +kernel
theorem dX6_does_186 : decode cX6_does 186 = .ok (.iconst 4, 1) := by decide +kernel
theorem dX6_does_187 : decode cX6_does 187 = .ok (.iload_n 3, 1) := by decide +kernel
theorem dX6_does_188 : decode cX6_does 188 = .ok (.invokevirtual 113, 3) := by decide +kernel
theorem dX6_does_191 : decode cX6_does 191 = .ok (.iload_n 2, 1) := by decide +kernel
theorem dX6_does_192 : decode cX6_does 192 = .ok (.iload_n 3, 1) := by decide +kernel
theorem dX6_does_193 : decode cX6_does 193 = .ok (.isub, 1) := by decide +kernel
theorem dX6_does_194 : decode cX6_does 194 = .ok (.istore_n 2, 1) := by decide +kernel
theorem dX6_does_195 : decode cX6_does 195 = .ok (.iload_n 2, 1) := by decide +kernel
theorem dX6_does_196 : decode cX6_does 196 = .ok (.aload_n 0, 1) := by decide +kernel
theorem dX6_does_197 : decode cX6_does 197 = .ok (.getfield 7, 3) := by decide +kernel
theorem dX6_does_200 : decode cX6_does 200 = .ok (.iconst 3, 1) := by decide +kernel
theorem dX6_does_201 : decode cX6_does 201 = .ok (.iaload, 1) := by decide +kernel
theorem dX6_does_202 : decode cX6_does 202 = .ok (.imul, 1) := by decide +kernel
theorem dX6_does_203 : decode cX6_does 203 = .ok (.sipush 1000, 3) := by decide +kernel
theorem dX6_does_206 : decode cX6_does 206 = .ok (.idiv, 1) := by decide +kernel
theorem dX6_does_207 : decode cX6_does 207 = .ok (.istore 4, 2) := by decide +kernel
theorem dX6_does_209 : decode cX6_does 209 = .ok (.aload_n 0, 1) := by decide +kernel
theorem dX6_does_210 : decode cX6_does 210 = .ok (.iconst 5, 1) := by decide +kernel
theorem dX6_does_211 : decode cX6_does 211 = .ok (.iload 4, 2) := by decide +kernel
theorem dX6_does_213 : decode cX6_does 213 = .ok (.invokevirtual 113, 3) := by decide +kernel
theorem dX6_does_216 : decode cX6_does 216 = .ok (.iload_n 2, 1) := by decide +kernel
theorem dX6_does_217 : decode cX6_does 217 = .ok (.iload 4, 2) := by decide +kernel
theorem dX6_does_219 : decode cX6_does 219 = .ok (.isub, 1) := by decide +kernel
theorem dX6_does_220 : decode cX6_does 220 = .ok (.istore_n 2, 1) := by decide +kernel
theorem dX6_does_221 : decode cX6_does 221 = .ok (.aload_n 0, 1) := by decide +kernel
theorem dX6_does_222 : decode cX6_does 222 = .ok (.iload_n 2, 1) := by decide +kernel
theorem dX6_does_223 : decode cX6_does 223 = .ok (.aload_n 0, 1) := by decide +kernel
theorem dX6_does_224 : decode cX6_does 224 = .ok (.getfield 7, 3) := by decide +kernel
theorem dX6_does_227 : decode cX6_does 227 = .ok (.iconst 1, 1) := by decide +kernel
theorem dX6_does_228 : decode cX6_does 228 = .ok (.iaload, 1) := by decide +kernel
theorem dX6_does_229 : decode cX6_does 229 = .ok (.if_icmp .le 14, 3) := by decide +kernel
theorem dX6_does_232 : decode cX6_does 232 = .ok (.iload_n 2, 1) := by decide +kernel
theorem dX6_does_233 : decode cX6_does 233 = .ok (.aload_n 0, 1) := by decide +kernel
theorem dX6_does_234 : decode cX6_does 234 = .ok (.getfield 7, 3) := by decide +kernel
theorem dX6_does_237 : decode cX6_does 237 = .ok (.iconst 1, 1) := by decide +kernel
theorem dX6_does_238 : decode cX6_does 238 = .ok (.iaload, 1) := by decide +kernel
theorem dX6_does_239 : decode cX6_does 239 = .ok (.isub, 1) := by decide +kernel
theorem dX6_does_240 : decode cX6_does 240 = .ok (.goto 4, 3) := by decide +kernel
theorem dX6_does_243 : decode cX6_does 243 = .ok (.iconst 0, 1) := by decide +kernel
theorem dX6_does_244 : decode cX6_does 244 = .ok (.invokevirtual 122, 3) := by decide +kernel
theorem dX6_does_247 : decode cX6_does 247 = .ok (.istore 5, 2) := by decide +kernel
theorem dX6_does_249 : decode cX6_does 249 = .ok (.iload_n 2, 1) := by decide +kernel
theorem dX6_does_250 : decode cX6_does 250 = .ok (.aload_n 0, 1) := by decide +kernel
theorem dX6_does_251 : decode cX6_does 251 = .ok (.getfield 7, 3) := by decide +kernel
theorem dX6_does_254 : decode cX6_does 254 = .ok (.sipush 163, 3) := by decide +kernel
theorem dX6_does_257 : decode cX6_does 257 = .ok (.bipush 10, 2) := by decide +kernel
theorem dX6_does_259 : decode cX6_does 259 = .ok (.aload_n 0, 1) := by decide +kernel
theorem dX6_does_260 : decode cX6_does 260 = .ok (.getfield 110, 3) := by decide +kernel
theorem dX6_does_263 : decode cX6_does 263 = .ok (.imul, 1) := by decide +kernel
theorem dX6_does_264 : decode cX6_does 264 = .ok (.iadd, 1) := by decide +kernel
theorem dX6_does_265 : decode cX6_does 265 = .ok (.bipush 6, 2) := by decide +kernel
theorem dX6_does_267 : decode cX6_does 267 = .ok (.iadd, 1) := by decide +kernel
theorem dX6_does_268 : decode cX6_does 268 = .ok (.iaload, 1) := by decide +kernel
theorem dX6_does_269 : decode cX6_does 269 = .ok (.isub, 1) := by decide +kernel
theorem dX6_does_270 : decode cX6_does 270 = .ok (.istore_n 2, 1) := by decide +kernel
theorem dX6_does_271 : decode cX6_does 271 = .ok (.iload_n 2, 1) := by decide +kernel
theorem dX6_does_272 : decode cX6_does 272 = .ok (.aload_n 0, 1) := by decide +kernel
theorem dX6_does_273 : decode cX6_does 273 = .ok (.getfield 7, 3) := by decide +kernel
theorem dX6_does_276 : decode cX6_does 276 = .ok (.iconst 2, 1) := by decide +kernel
theorem dX6_does_277 : decode cX6_does 277 = .ok (.iaload, 1) := by decide +kernel
theorem dX6_does_278 : decode cX6_does 278 = .ok (.if_icmp .ge 14, 3) := by decide +kernel
theorem dX6_does_281 : decode cX6_does 281 = .ok (.aload_n 0, 1) := by decide +kernel
theorem dX6_does_282 : decode cX6_does 282 = .ok (.getfield 7, 3) := by decide +kernel
theorem dX6_does_285 : decode cX6_does 285 = .ok (.iconst 2, 1) := by decide +kernel
theorem dX6_does_286 : decode cX6_does 286 = .ok (.iaload, 1) := by decide +kernel
theorem dX6_does_287 : decode cX6_does 287 = .ok (.iload_n 2, 1) := by decide +kernel
theorem dX6_does_288 : decode cX6_does 288 = .ok (.isub, 1) := by decide +kernel
theorem dX6_does_289 : decode cX6_does 289 = .ok (.goto 4, 3) := by decide +kernel
theorem dX6_does_292 : decode cX6_does 292 = .ok (.iconst 0, 1) := by decide +kernel
theorem dX6_does_293 : decode cX6_does 293 = .ok (.istore 6, 2) := by decide +kernel
theorem dX6_does_295 : decode cX6_does 295 = .ok (.aload_n 0, 1) := by decide +kernel
theorem dX6_does_296 : decode cX6_does 296 = .ok (.bipush 8, 2) := by decide +kernel
theorem dX6_does_298 : decode cX6_does 298 = .ok (.iload 6, 2) := by decide +kernel
theorem dX6_does_300 : decode cX6_does 300 = .ok (.invokevirtual 113, 3) := by decide +kernel
theorem dX6_does_303 : decode cX6_does 303 = .ok (.aload_n 0, 1) := by decide +kernel
theorem dX6_does_304 : decode cX6_does 304 = .ok (.getfield 7, 3) := by decide +kernel
theorem dX6_does_307 : decode cX6_does 307 = .ok (.bipush 10, 2) := by decide +kernel
theorem dX6_does_309 : decode cX6_does 309 = .ok (.iload_n 2, 1) := by decide +kernel
theorem dX6_does_310 : decode cX6_does 310 = .ok (.iload 6, 2) := by decide +kernel
theorem dX6_does_312 : decode cX6_does 312 = .ok (.iadd, 1) := by decide +kernel
theorem dX6_does_313 : decode cX6_does 313 = .ok (.iastore, 1) := by decide +kernel
theorem dX6_does_314 : decode cX6_does 314 = .ok (.aload_n 0, 1) := by decide +kernel
theorem dX6_does_315 : decode cX6_does 315 = .ok (.iconst 0, 1) := by decide +kernel
theorem dX6_does_316 : decode cX6_does 316 = .ok (.aload_n 0, 1) := by decide +kernel
theorem dX6_does_317 : decode cX6_does 317 = .ok (.getfield 7, 3) := by decide +kernel
theorem dX6_does_320 : decode cX6_does 320 = .ok (.bipush 10, 2) := by decide +kernel
theorem dX6_does_322 : decode cX6_does 322 = .ok (.iaload, 1) := by decide +kernel
theorem dX6_does_323 : decode cX6_does 323 = .ok (.invokevirtual 113, 3) := by decide +kernel
theorem dX6_does_326 : decode cX6_does 326 = .ok (.aload_n 0, 1) := by decide +kernel
theorem dX6_does_327 : decode cX6_does 327 = .ok (.getfield 7, 3) := by decide +kernel
theorem dX6_does_330 : decode cX6_does 330 = .ok (.bipush 9, 2) := by decide +kernel
theorem dX6_does_332 : decode cX6_does 332 = .ok (.dup2, 1) := by decide +kernel
theorem dX6_does_333 : decode cX6_does 333 = .ok (.iaload, 1) := by decide +kernel
theorem dX6_does_334 : decode cX6_does 334 = .ok (.iconst 1, 1) := by decide +kernel
theorem dX6_does_335 : decode cX6_does 335 = .ok (.iadd, 1) := by decide +kernel
theorem dX6_does_336 : decode cX6_does 336 = .ok (.iastore, 1) := by decide +kernel
theorem dX6_does_337 : decode cX6_does 337 = .ok (.iload 5, 2) := by decide +kernel
theorem dX6_does_339 : decode cX6_does 339 = .ok (.ireturn, 1) := by decide +kernel
set_option maxRecDepth 20000 in
theorem ggX6_gives_X6_ofUser : GoodIn wsX6_gives wsX6_ofUser := goodIn_r _ [7, 2, 8, 9, 6, 10, 11, 12, 13, 14, 15, 16, 17, 18, 19, 20, 21, 22, 23] (by decide +kernel) (by decide +kernel)
set_option maxRecDepth 20000 in
theorem gX6_gives_X6_ofUser : GoodIn wsX6_gives (wsV RX6 67 RX6 yX6_ofUser wsX6_ofUser) := goodIn_app (goodIn_of _ (by decide +kernel)) ggX6_gives_X6_ofUser
set_option maxRecDepth 20000 in
theorem ggX6_gives_X6_userAt : GoodIn wsX6_gives wsX6_userAt := goodIn_r _ [10] (by decide +kernel) (by decide +kernel)
set_option maxRecDepth 20000 in
theorem gX6_gives_X6_userAt : GoodIn wsX6_gives (va_wsS RX6 37 yX6_userAt wsX6_userAt) := goodIn_app (goodIn_of _ (by decide +kernel)) ggX6_gives_X6_userAt
theorem dX6_gives_0 : decode cX6_gives 0 = .ok (.aload_n 0, 1) := by decide +kernel
theorem dX6_gives_1 : decode cX6_gives 1 = .ok (.iload_n 1, 1) := by decide +kernel
theorem dX6_gives_2 : decode cX6_gives 2 = .ok (.iconst 0, 1) := by decide +kernel
theorem dX6_gives_3 : decode cX6_gives 3 = .ok (.invokevirtual 67, 3) := by decide +kernel
theorem dX6_gives_6 : decode cX6_gives 6 = .ok (.aload_n 0, 1) := by decide +kernel
theorem dX6_gives_7 : decode cX6_gives 7 = .ok (.iload_n 1, 1) := by decide +kernel
theorem dX6_gives_8 : decode cX6_gives 8 = .ok (.iconst 2, 1) := by decide +kernel
theorem dX6_gives_9 : decode cX6_gives 9 = .ok (.invokevirtual 67, 3) := by decide +kernel
theorem dX6_gives_12 : decode cX6_gives 12 = .ok (.isub, 1) := by decide +kernel
theorem dX6_gives_13 : decode cX6_gives 13 = .ok (.istore_n 3, 1) := by decide +kernel
theorem dX6_gives_14 : decode cX6_gives 14 = .ok (.iload_n 2, 1) := by decide +kernel
theorem dX6_gives_15 : decode cX6_gives 15 = .ok (.iload_n 3, 1) := by decide +kernel
theorem dX6_gives_16 : decode cX6_gives 16 = .ok (.if_icmp .ge 7, 3) := by decide +kernel
theorem dX6_gives_19 : decode cX6_gives 19 = .ok (.iload_n 2, 1) := by decide +kernel
theorem dX6_gives_20 : decode cX6_gives 20 = .ok (.goto 4, 3) := by decide +kernel
theorem dX6_gives_23 : decode cX6_gives 23 = .ok (.iload_n 3, 1) := by decide +kernel
theorem dX6_gives_24 : decode cX6_gives 24 = .ok (.istore 4, 2) := by decide +kernel
theorem dX6_gives_26 : decode cX6_gives 26 = .ok (.iload 4, 2) := by decide +kernel
theorem dX6_gives_28 : decode cX6_gives 28 = .ok (.aload_n 0, 1) := by decide +kernel
theorem dX6_gives_29 : decode cX6_gives 29 = .ok (.getfield 125, 3) := by decide +kernel
theorem dX6_gives_32 : decode cX6_gives 32 = .ok (.if_icmp .ge 8, 3) := by decide +kernel
theorem dX6_gives_35 : decode cX6_gives 35 = .ok (.iload 4, 2) := by decide +kernel
theorem dX6_gives_37 : decode cX6_gives 37 = .ok (.goto 7, 3) := by decide +kernel
theorem dX6_gives_40 : decode cX6_gives 40 = .ok (.aload_n 0, 1) := by decide +kernel
theorem dX6_gives_41 : decode cX6_gives 41 = .ok (.getfield 125, 3) := by decide +kernel
theorem dX6_gives_44 : decode cX6_gives 44 = .ok (.istore 4, 2) := by decide +kernel
theorem dX6_gives_46 : decode cX6_gives 46 = .ok (.aload_n 0, 1) := by decide +kernel
theorem dX6_gives_47 : decode cX6_gives 47 = .ok (.getfield 7, 3) := by decide +kernel
theorem dX6_gives_50 : decode cX6_gives 50 = .ok (.iload_n 1, 1) := by decide +kernel
theorem dX6_gives_51 : decode cX6_gives 51 = .ok (.iconst 2, 1) := by decide +kernel
theorem dX6_gives_52 : decode cX6_gives 52 = .ok (.invokestatic 37, 3) := by decide +kernel
theorem dX6_gives_55 : decode cX6_gives 55 = .ok (.dup2, 1) := by decide +kernel
theorem dX6_gives_56 : decode cX6_gives 56 = .ok (.iaload, 1) := by decide +kernel
theorem dX6_gives_57 : decode cX6_gives 57 = .ok (.iload 4, 2) := by decide +kernel
theorem dX6_gives_59 : decode cX6_gives 59 = .ok (.iadd, 1) := by decide +kernel
theorem dX6_gives_60 : decode cX6_gives 60 = .ok (.iastore, 1) := by decide +kernel
theorem dX6_gives_61 : decode cX6_gives 61 = .ok (.aload_n 0, 1) := by decide +kernel
theorem dX6_gives_62 : decode cX6_gives 62 = .ok (.dup, 1) := by decide +kernel
theorem dX6_gives_63 : decode cX6_gives 63 = .ok (.getfield 125, 3) := by decide +kernel
theorem dX6_gives_66 : decode cX6_gives 66 = .ok (.iload 4, 2) := by decide +kernel
theorem dX6_gives_68 : decode cX6_gives 68 = .ok (.isub, 1) := by decide +kernel
theorem dX6_gives_69 : decode cX6_gives 69 = .ok (.putfield 125, 3) := by decide +kernel
theorem dX6_gives_72 : decode cX6_gives 72 = .ok (.return_, 1) := by decide +kernel
set_option maxRecDepth 20000 in
theorem ggX6_demands_X6_ofUser : GoodIn wsX6_demands wsX6_ofUser := goodIn_r _ [6, 1, 7, 8, 5, 9, 10, 11, 12, 13, 14, 15, 16, 17, 18, 19, 20, 21, 22] (by decide +kernel) (by decide +kernel)
set_option maxRecDepth 20000 in
theorem gX6_demands_X6_ofUser : GoodIn wsX6_demands (wsV RX6 67 RX6 yX6_ofUser wsX6_ofUser) := goodIn_app (goodIn_of _ (by decide +kernel)) ggX6_demands_X6_ofUser
theorem dX6_demands_0 : decode cX6_demands 0 = .ok (.iconst 0, 1) := by decide +kernel
theorem dX6_demands_1 : decode cX6_demands 1 = .ok (.istore_n 1, 1) := by decide +kernel
theorem dX6_demands_2 : decode cX6_demands 2 = .ok (.iconst 0, 1) := by decide +kernel
theorem dX6_demands_3 : decode cX6_demands 3 = .ok (.istore_n 2, 1) := by decide +kernel
theorem dX6_demands_4 : decode cX6_demands 4 = .ok (.iload_n 2, 1) := by decide +kernel
theorem dX6_demands_5 : decode cX6_demands 5 = .ok (.aload_n 0, 1) := by decide +kernel
theorem dX6_demands_6 : decode cX6_demands 6 = .ok (.getfield 7, 3) := by decide +kernel
theorem dX6_demands_9 : decode cX6_demands 9 = .ok (.bipush 7, 2) := by decide +kernel
theorem dX6_demands_11 : decode cX6_demands 11 = .ok (.iaload, 1) := by decide +kernel
theorem dX6_demands_12 : decode cX6_demands 12 = .ok (.if_icmp .ge 18, 3) := by decide +kernel
theorem dX6_demands_15 : decode cX6_demands 15 = .ok (.iload_n 1, 1) := by decide +kernel
theorem dX6_demands_16 : decode cX6_demands 16 = .ok (.aload_n 0, 1) := by decide +kernel
theorem dX6_demands_17 : decode cX6_demands 17 = .ok (.iload_n 2, 1) := by decide +kernel
theorem dX6_demands_18 : decode cX6_demands 18 = .ok (.iconst 0, 1) := by decide +kernel
theorem dX6_demands_19 : decode cX6_demands 19 = .ok (.invokevirtual 67, 3) := by decide +kernel
theorem dX6_demands_22 : decode cX6_demands 22 = .ok (.iadd, 1) := by decide +kernel
theorem dX6_demands_23 : decode cX6_demands 23 = .ok (.istore_n 1, 1) := by decide +kernel
theorem dX6_demands_24 : decode cX6_demands 24 = .ok (.iinc 2 1, 3) := by decide +kernel
theorem dX6_demands_27 : decode cX6_demands 27 = .ok (.goto (-23), 3) := by decide +kernel
theorem dX6_demands_30 : decode cX6_demands 30 = .ok (.iload_n 1, 1) := by decide +kernel
theorem dX6_demands_31 : decode cX6_demands 31 = .ok (.ireturn, 1) := by decide +kernel
set_option maxRecDepth 20000 in
theorem ggX6_shares_X6_demands : GoodIn wsX6_shares wsX6_demands := goodIn_r _ [7, 2, 8, 9, 10, 6, 11, 12, 13, 14, 40, 41, 42, 43, 44, 45, 46, 47, 48, 49, 50, 51, 52] (by decide +kernel) (by decide +kernel)
set_option maxRecDepth 20000 in
theorem gX6_shares_X6_demands : GoodIn wsX6_shares (wsV RX6 128 RX6 yX6_demands wsX6_demands) := goodIn_app (goodIn_of _ (by decide +kernel)) ggX6_shares_X6_demands
set_option maxRecDepth 20000 in
theorem ggX6_shares_X6_userAt : GoodIn wsX6_shares wsX6_userAt := goodIn_r _ [14] (by decide +kernel) (by decide +kernel)
set_option maxRecDepth 20000 in
theorem gX6_shares_X6_userAt : GoodIn wsX6_shares (va_wsS RX6 37 yX6_userAt wsX6_userAt) := goodIn_app (goodIn_of _ (by decide +kernel)) ggX6_shares_X6_userAt
set_option maxRecDepth 20000 in
theorem ggX6_shares_X6_inProportion : GoodIn wsX6_shares wsX6_inProportion := goodIn_r _ [18, 2, 1, 8, 9, 10, 6, 11, 12, 13, 14, 19, 20, 21, 22, 40, 41, 42, 43, 44, 45, 46, 47, 48, 49, 50, 51, 52] (by decide +kernel) (by decide +kernel)
set_option maxRecDepth 20000 in
theorem gX6_shares_X6_inProportion : GoodIn wsX6_shares (wsV RX6 132 RX6 yX6_inProportion wsX6_inProportion) := goodIn_app (goodIn_of _ (by decide +kernel)) ggX6_shares_X6_inProportion
set_option maxRecDepth 20000 in
theorem ggX6_shares_X6_byOrder : GoodIn wsX6_shares wsX6_byOrder := goodIn_r _ [26, 2, 8, 9, 10, 6, 11, 12, 13, 14, 19, 20, 21, 22, 1, 40, 41, 42, 43, 44, 45, 46, 47, 48, 49, 50, 51, 52] (by decide +kernel) (by decide +kernel)
set_option maxRecDepth 20000 in
theorem gX6_shares_X6_byOrder : GoodIn wsX6_shares (wsV RX6 135 RX6 yX6_byOrder wsX6_byOrder) := goodIn_app (goodIn_of _ (by decide +kernel)) ggX6_shares_X6_byOrder
set_option maxRecDepth 20000 in
theorem ggX6_shares_X6_byWeights : GoodIn wsX6_shares wsX6_byWeights := goodIn_r _ [30, 1, 2, 8, 9, 10, 6, 11, 12, 13, 14, 19, 20, 21, 22, 40, 41, 42, 43, 44, 45, 46, 47, 48, 49, 50, 51, 52] (by decide +kernel) (by decide +kernel)
set_option maxRecDepth 20000 in
theorem gX6_shares_X6_byWeights : GoodIn wsX6_shares (wsV RX6 138 RX6 yX6_byWeights wsX6_byWeights) := goodIn_app (goodIn_of _ (by decide +kernel)) ggX6_shares_X6_byWeights
set_option maxRecDepth 20000 in
theorem ggX6_shares_X6_smallestFirst : GoodIn wsX6_shares wsX6_smallestFirst := goodIn_r _ [34, 2, 8, 9, 10, 6, 11, 12, 13, 14, 19, 20, 21, 22, 1, 40, 41, 42, 43, 44, 45, 46, 47, 48, 49, 50, 51, 52] (by decide +kernel) (by decide +kernel)
set_option maxRecDepth 20000 in
theorem gX6_shares_X6_smallestFirst : GoodIn wsX6_shares (wsV RX6 141 RX6 yX6_smallestFirst wsX6_smallestFirst) := goodIn_app (goodIn_of _ (by decide +kernel)) ggX6_shares_X6_smallestFirst
set_option maxRecDepth 20000 in
theorem ggX6_shares_X6_ofUser : GoodIn wsX6_shares wsX6_ofUser := goodIn_r _ [11, 2, 12, 13, 6, 14, 40, 41, 42, 43, 44, 45, 46, 47, 48, 49, 50, 51, 52] (by decide +kernel) (by decide +kernel)
set_option maxRecDepth 20000 in
theorem gX6_shares_X6_ofUser : GoodIn wsX6_shares (wsV RX6 67 RX6 yX6_ofUser wsX6_ofUser) := goodIn_app (goodIn_of _ (by decide +kernel)) ggX6_shares_X6_ofUser
set_option maxRecDepth 20000 in
theorem ggX6_shares_X6_tells : GoodIn wsX6_shares wsX6_tells := goodIn_r _ [38, 2, 39, 40, 41, 42, 43, 44, 45, 46, 47, 48, 49, 50, 51, 52] (by decide +kernel) (by decide +kernel)
set_option maxRecDepth 20000 in
theorem gX6_shares_X6_tells : GoodIn wsX6_shares (wsV RX6 113 RX6 yX6_tells wsX6_tells) := goodIn_app (goodIn_of _ (by decide +kernel)) ggX6_shares_X6_tells
theorem dX6_shares_0 : decode cX6_shares 0 = .ok (.aload_n 0, 1) := by decide +kernel
theorem dX6_shares_1 : decode cX6_shares 1 = .ok (.invokevirtual 128, 3) := by decide +kernel
theorem dX6_shares_4 : decode cX6_shares 4 = .ok (.istore_n 2, 1) := by decide +kernel
theorem dX6_shares_5 : decode cX6_shares 5 = .ok (.aload_n 0, 1) := by decide +kernel
theorem dX6_shares_6 : decode cX6_shares 6 = .ok (.iload_n 1, 1) := by decide +kernel
theorem dX6_shares_7 : decode cX6_shares 7 = .ok (.putfield 125, 3) := by decide +kernel
theorem dX6_shares_10 : decode cX6_shares 10 = .ok (.iconst 0, 1) := by decide +kernel
theorem dX6_shares_11 : decode cX6_shares 11 = .ok (.istore_n 3, 1) := by decide +kernel
theorem dX6_shares_12 : decode cX6_shares 12 = .ok (.iload_n 3, 1) := by decide +kernel
theorem dX6_shares_13 : decode cX6_shares 13 = .ok (.aload_n 0, 1) := by decide +kernel
theorem dX6_shares_14 : decode cX6_shares 14 = .ok (.getfield 7, 3) := by decide +kernel
theorem dX6_shares_17 : decode cX6_shares 17 = .ok (.bipush 7, 2) := by decide +kernel
theorem dX6_shares_19 : decode cX6_shares 19 = .ok (.iaload, 1) := by decide +kernel
theorem dX6_shares_20 : decode cX6_shares 20 = .ok (.if_icmp .ge 20, 3) := by decide +kernel
theorem dX6_shares_23 : decode cX6_shares 23 = .ok (.aload_n 0, 1) := by decide +kernel
theorem dX6_shares_24 : decode cX6_shares 24 = .ok (.getfield 7, 3) := by decide +kernel
theorem dX6_shares_27 : decode cX6_shares 27 = .ok (.iload_n 3, 1) := by decide +kernel
theorem dX6_shares_28 : decode cX6_shares 28 = .ok (.iconst 2, 1) := by decide +kernel
theorem dX6_shares_29 : decode cX6_shares 29 = .ok (.invokestatic 37, 3) := by decide +kernel
theorem dX6_shares_32 : decode cX6_shares 32 = .ok (.iconst 0, 1) := by decide +kernel
theorem dX6_shares_33 : decode cX6_shares 33 = .ok (.iastore, 1) := by decide +kernel
theorem dX6_shares_34 : decode cX6_shares 34 = .ok (.iinc 3 1, 3) := by decide +kernel
theorem dX6_shares_37 : decode cX6_shares 37 = .ok (.goto (-25), 3) := by decide +kernel
theorem dX6_shares_40 : decode cX6_shares 40 = .ok (.iload_n 1, 1) := by decide +kernel
theorem dX6_shares_41 : decode cX6_shares 41 = .ok (.iload_n 2, 1) := by decide +kernel
theorem dX6_shares_42 : decode cX6_shares 42 = .ok (.if_icmp .ge 7, 3) := by decide +kernel
theorem dX6_shares_45 : decode cX6_shares 45 = .ok (.iconst 1, 1) := by decide +kernel
theorem dX6_shares_46 : decode cX6_shares 46 = .ok (.goto 4, 3) := by decide +kernel
theorem dX6_shares_49 : decode cX6_shares 49 = .ok (.iconst 0, 1) := by decide +kernel
theorem dX6_shares_50 : decode cX6_shares 50 = .ok (.istore_n 3, 1) := by decide +kernel
theorem dX6_shares_51 : decode cX6_shares 51 = .ok (.iload_n 3, 1) := by decide +kernel
theorem dX6_shares_52 : decode cX6_shares 52 = .ok (.ifCond .eq 12, 3) := by decide +kernel
theorem dX6_shares_55 : decode cX6_shares 55 = .ok (.aload_n 0, 1) := by decide +kernel
theorem dX6_shares_56 : decode cX6_shares 56 = .ok (.getfield 7, 3) := by decide +kernel
theorem dX6_shares_59 : decode cX6_shares 59 = .ok (.iconst 5, 1) := by decide +kernel
theorem dX6_shares_60 : decode cX6_shares 60 = .ok (.iaload, 1) := by decide +kernel
theorem dX6_shares_61 : decode cX6_shares 61 = .ok (.goto 4, 3) := by decide +kernel
theorem dX6_shares_64 : decode cX6_shares 64 = .ok (.iconst 1, 1) := by decide +kernel
theorem dX6_shares_65 : decode cX6_shares 65 = .ok (.tableswitch 50 0 2 #[27, 36, 43], 27) := by decide +kernel
theorem dX6_shares_92 : decode cX6_shares 92 = .ok (.aload_n 0, 1) := by decide +kernel
theorem dX6_shares_93 : decode cX6_shares 93 = .ok (.iload_n 1, 1) := by decide +kernel
theorem dX6_shares_94 : decode cX6_shares 94 = .ok (.iload_n 2, 1) := by decide +kernel
theorem dX6_shares_95 : decode cX6_shares 95 = .ok (.invokevirtual 132, 3) := by decide +kernel
theorem dX6_shares_98 : decode cX6_shares 98 = .ok (.goto 21, 3) := by decide +kernel
theorem dX6_shares_101 : decode cX6_shares 101 = .ok (.aload_n 0, 1) := by decide +kernel
theorem dX6_shares_102 : decode cX6_shares 102 = .ok (.invokevirtual 135, 3) := by decide +kernel
theorem dX6_shares_105 : decode cX6_shares 105 = .ok (.goto 14, 3) := by decide +kernel
theorem dX6_shares_108 : decode cX6_shares 108 = .ok (.aload_n 0, 1) := by decide +kernel
theorem dX6_shares_109 : decode cX6_shares 109 = .ok (.invokevirtual 138, 3) := by decide +kernel
theorem dX6_shares_112 : decode cX6_shares 112 = .ok (.goto 7, 3) := by decide +kernel
theorem dX6_shares_115 : decode cX6_shares 115 = .ok (.aload_n 0, 1) := by decide +kernel
theorem dX6_shares_116 : decode cX6_shares 116 = .ok (.invokevirtual 141, 3) := by decide +kernel
theorem dX6_shares_119 : decode cX6_shares 119 = .ok (.iconst 0, 1) := by decide +kernel
theorem dX6_shares_120 : decode cX6_shares 120 = .ok (.istore 4, 2) := by decide +kernel
theorem dX6_shares_122 : decode cX6_shares 122 = .ok (.iload 4, 2) := by decide +kernel
theorem dX6_shares_124 : decode cX6_shares 124 = .ok (.aload_n 0, 1) := by decide +kernel
theorem dX6_shares_125 : decode cX6_shares 125 = .ok (.getfield 7, 3) := by decide +kernel
theorem dX6_shares_128 : decode cX6_shares 128 = .ok (.bipush 7, 2) := by decide +kernel
theorem dX6_shares_130 : decode cX6_shares 130 = .ok (.iaload, 1) := by decide +kernel
theorem dX6_shares_131 : decode cX6_shares 131 = .ok (.if_icmp .ge 30, 3) := by decide +kernel
theorem dX6_shares_134 : decode cX6_shares 134 = .ok (.aload_n 0, 1) := by decide +kernel
theorem dX6_shares_135 : decode cX6_shares 135 = .ok (.getfield 7, 3) := by decide +kernel
theorem dX6_shares_138 : decode cX6_shares 138 = .ok (.iload 4, 2) := by decide +kernel
theorem dX6_shares_140 : decode cX6_shares 140 = .ok (.iconst 3, 1) := by decide +kernel
theorem dX6_shares_141 : decode cX6_shares 141 = .ok (.invokestatic 37, 3) := by decide +kernel
theorem dX6_shares_144 : decode cX6_shares 144 = .ok (.dup2, 1) := by decide +kernel
theorem dX6_shares_145 : decode cX6_shares 145 = .ok (.iaload, 1) := by decide +kernel
theorem dX6_shares_146 : decode cX6_shares 146 = .ok (.aload_n 0, 1) := by decide +kernel
theorem dX6_shares_147 : decode cX6_shares 147 = .ok (.iload 4, 2) := by decide +kernel
theorem dX6_shares_149 : decode cX6_shares 149 = .ok (.iconst 2, 1) := by decide +kernel
theorem dX6_shares_150 : decode cX6_shares 150 = .ok (.invokevirtual 67, 3) := by decide +kernel
theorem dX6_shares_153 : decode cX6_shares 153 = .ok (.iadd, 1) := by decide +kernel
theorem dX6_shares_154 : decode cX6_shares 154 = .ok (.iastore, 1) := by decide +kernel
theorem dX6_shares_155 : decode cX6_shares 155 = .ok (.iinc 4 1, 3) := by decide +kernel
theorem dX6_shares_158 : decode cX6_shares 158 = .ok (.goto (-36), 3) := by decide +kernel
theorem dX6_shares_161 : decode cX6_shares 161 = .ok (.aload_n 0, 1) := by decide +kernel
theorem dX6_shares_162 : decode cX6_shares 162 = .ok (.bipush 6, 2) := by decide +kernel
theorem dX6_shares_164 : decode cX6_shares 164 = .ok (.iload_n 1, 1) := by decide +kernel
theorem dX6_shares_165 : decode cX6_shares 165 = .ok (.aload_n 0, 1) := by decide +kernel
theorem dX6_shares_166 : decode cX6_shares 166 = .ok (.getfield 125, 3) := by decide +kernel
theorem dX6_shares_169 : decode cX6_shares 169 = .ok (.isub, 1) := by decide +kernel
theorem dX6_shares_170 : decode cX6_shares 170 = .ok (.invokevirtual 113, 3) := by decide +kernel
theorem dX6_shares_173 : decode cX6_shares 173 = .ok (.aload_n 0, 1) := by decide +kernel
theorem dX6_shares_174 : decode cX6_shares 174 = .ok (.bipush 7, 2) := by decide +kernel
theorem dX6_shares_176 : decode cX6_shares 176 = .ok (.iload_n 2, 1) := by decide +kernel
theorem dX6_shares_177 : decode cX6_shares 177 = .ok (.iload_n 1, 1) := by decide +kernel
theorem dX6_shares_178 : decode cX6_shares 178 = .ok (.aload_n 0, 1) := by decide +kernel
theorem dX6_shares_179 : decode cX6_shares 179 = .ok (.getfield 125, 3) := by decide +kernel
theorem dX6_shares_182 : decode cX6_shares 182 = .ok (.isub, 1) := by decide +kernel
theorem dX6_shares_183 : decode cX6_shares 183 = .ok (.isub, 1) := by decide +kernel
theorem dX6_shares_184 : decode cX6_shares 184 = .ok (.invokevirtual 113, 3) := by decide +kernel
theorem dX6_shares_187 : decode cX6_shares 187 = .ok (.iload_n 3, 1) := by decide +kernel
theorem dX6_shares_188 : decode cX6_shares 188 = .ok (.ireturn, 1) := by decide +kernel
set_option maxRecDepth 20000 in
theorem ggX6_inProportion_X6_ofUser : GoodIn wsX6_inProportion wsX6_ofUser := goodIn_r _ [7, 1, 8, 9, 6, 10, 15, 16, 17, 18, 19, 20, 21, 22, 23, 24, 25, 26, 27] (by decide +kernel) (by decide +kernel)
set_option maxRecDepth 20000 in
theorem gX6_inProportion_X6_ofUser : GoodIn wsX6_inProportion (wsV RX6 67 RX6 yX6_ofUser wsX6_ofUser) := goodIn_app (goodIn_of _ (by decide +kernel)) ggX6_inProportion_X6_ofUser
set_option maxRecDepth 20000 in
theorem ggX6_inProportion_X6_gives : GoodIn wsX6_inProportion wsX6_gives := goodIn_r _ [14, 2, 1, 3, 4, 5, 6, 7, 8, 9, 10, 15, 16, 17, 18, 19, 20, 21, 22, 23, 24, 25, 26, 27] (by decide +kernel) (by decide +kernel)
set_option maxRecDepth 20000 in
theorem gX6_inProportion_X6_gives : GoodIn wsX6_inProportion (wsV RX6 144 RX6 yX6_gives wsX6_gives) := goodIn_app (goodIn_of _ (by decide +kernel)) ggX6_inProportion_X6_gives
theorem dX6_inProportion_0 : decode cX6_inProportion 0 = .ok (.iconst 0, 1) := by decide +kernel
theorem dX6_inProportion_1 : decode cX6_inProportion 1 = .ok (.istore_n 3, 1) := by decide +kernel
theorem dX6_inProportion_2 : decode cX6_inProportion 2 = .ok (.iload_n 3, 1) := by decide +kernel
theorem dX6_inProportion_3 : decode cX6_inProportion 3 = .ok (.aload_n 0, 1) := by decide +kernel
theorem dX6_inProportion_4 : decode cX6_inProportion 4 = .ok (.getfield 7, 3) := by decide +kernel
theorem dX6_inProportion_7 : decode cX6_inProportion 7 = .ok (.bipush 7, 2) := by decide +kernel
theorem dX6_inProportion_9 : decode cX6_inProportion 9 = .ok (.iaload, 1) := by decide +kernel
theorem dX6_inProportion_10 : decode cX6_inProportion 10 = .ok (.if_icmp .ge 28, 3) := by decide +kernel
theorem dX6_inProportion_13 : decode cX6_inProportion 13 = .ok (.aload_n 0, 1) := by decide +kernel
theorem dX6_inProportion_14 : decode cX6_inProportion 14 = .ok (.iload_n 3, 1) := by decide +kernel
theorem dX6_inProportion_15 : decode cX6_inProportion 15 = .ok (.aload_n 0, 1) := by decide +kernel
theorem dX6_inProportion_16 : decode cX6_inProportion 16 = .ok (.iload_n 3, 1) := by decide +kernel
theorem dX6_inProportion_17 : decode cX6_inProportion 17 = .ok (.iconst 0, 1) := by decide +kernel
theorem dX6_inProportion_18 : decode cX6_inProportion 18 = .ok (.invokevirtual 67, 3) := by decide +kernel
theorem dX6_inProportion_21 : decode cX6_inProportion 21 = .ok (.i2l, 1) := by decide +kernel
theorem dX6_inProportion_22 : decode cX6_inProportion 22 = .ok (.iload_n 1, 1) := by decide +kernel
theorem dX6_inProportion_23 : decode cX6_inProportion 23 = .ok (.i2l, 1) := by decide +kernel
theorem dX6_inProportion_24 : decode cX6_inProportion 24 = .ok (.lmul, 1) := by decide +kernel
theorem dX6_inProportion_25 : decode cX6_inProportion 25 = .ok (.iload_n 2, 1) := by decide +kernel
theorem dX6_inProportion_26 : decode cX6_inProportion 26 = .ok (.i2l, 1) := by decide +kernel
theorem dX6_inProportion_27 : decode cX6_inProportion 27 = .ok (.ldiv, 1) := by decide +kernel
theorem dX6_inProportion_28 : decode cX6_inProportion 28 = .ok (.l2i, 1) := by decide +kernel
theorem dX6_inProportion_29 : decode cX6_inProportion 29 = .ok (.invokevirtual 144, 3) := by decide +kernel
theorem dX6_inProportion_32 : decode cX6_inProportion 32 = .ok (.iinc 3 1, 3) := by decide +kernel
theorem dX6_inProportion_35 : decode cX6_inProportion 35 = .ok (.goto (-33), 3) := by decide +kernel
theorem dX6_inProportion_38 : decode cX6_inProportion 38 = .ok (.aload_n 0, 1) := by decide +kernel
theorem dX6_inProportion_39 : decode cX6_inProportion 39 = .ok (.getfield 125, 3) := by decide +kernel
theorem dX6_inProportion_42 : decode cX6_inProportion 42 = .ok (.ifCond .le 31, 3) := by decide +kernel
theorem dX6_inProportion_45 : decode cX6_inProportion 45 = .ok (.iconst 0, 1) := by decide +kernel
theorem dX6_inProportion_46 : decode cX6_inProportion 46 = .ok (.istore_n 3, 1) := by decide +kernel
theorem dX6_inProportion_47 : decode cX6_inProportion 47 = .ok (.iload_n 3, 1) := by decide +kernel
theorem dX6_inProportion_48 : decode cX6_inProportion 48 = .ok (.aload_n 0, 1) := by decide +kernel
theorem dX6_inProportion_49 : decode cX6_inProportion 49 = .ok (.getfield 7, 3) := by decide +kernel
theorem dX6_inProportion_52 : decode cX6_inProportion 52 = .ok (.bipush 7, 2) := by decide +kernel
theorem dX6_inProportion_54 : decode cX6_inProportion 54 = .ok (.iaload, 1) := by decide +kernel
theorem dX6_inProportion_55 : decode cX6_inProportion 55 = .ok (.if_icmp .ge 15, 3) := by decide +kernel
theorem dX6_inProportion_58 : decode cX6_inProportion 58 = .ok (.aload_n 0, 1) := by decide +kernel
theorem dX6_inProportion_59 : decode cX6_inProportion 59 = .ok (.iload_n 3, 1) := by decide +kernel
theorem dX6_inProportion_60 : decode cX6_inProportion 60 = .ok (.iconst 1, 1) := by decide +kernel
theorem dX6_inProportion_61 : decode cX6_inProportion 61 = .ok (.invokevirtual 144, 3) := by decide +kernel
theorem dX6_inProportion_64 : decode cX6_inProportion 64 = .ok (.iinc 3 1, 3) := by decide +kernel
theorem dX6_inProportion_67 : decode cX6_inProportion 67 = .ok (.goto (-20), 3) := by decide +kernel
theorem dX6_inProportion_70 : decode cX6_inProportion 70 = .ok (.goto (-32), 3) := by decide +kernel
theorem dX6_inProportion_73 : decode cX6_inProportion 73 = .ok (.return_, 1) := by decide +kernel
set_option maxRecDepth 20000 in
theorem ggX6_byOrder_X6_ofUser : GoodIn wsX6_byOrder wsX6_ofUser := goodIn_r _ [6, 1, 7, 8, 5, 9, 15, 16, 17, 18, 19, 20, 21, 22, 23, 24, 25, 26, 27] (by decide +kernel) (by decide +kernel)
set_option maxRecDepth 20000 in
theorem gX6_byOrder_X6_ofUser : GoodIn wsX6_byOrder (wsV RX6 67 RX6 yX6_ofUser wsX6_ofUser) := goodIn_app (goodIn_of _ (by decide +kernel)) ggX6_byOrder_X6_ofUser
set_option maxRecDepth 20000 in
theorem ggX6_byOrder_X6_gives : GoodIn wsX6_byOrder wsX6_gives := goodIn_r _ [13, 14, 1, 2, 3, 4, 5, 6, 7, 8, 9, 15, 16, 17, 18, 19, 20, 21, 22, 23, 24, 25, 26, 27] (by decide +kernel) (by decide +kernel)
set_option maxRecDepth 20000 in
theorem gX6_byOrder_X6_gives : GoodIn wsX6_byOrder (wsV RX6 144 RX6 yX6_gives wsX6_gives) := goodIn_app (goodIn_of _ (by decide +kernel)) ggX6_byOrder_X6_gives
theorem dX6_byOrder_0 : decode cX6_byOrder 0 = .ok (.iconst 0, 1) := by decide +kernel
theorem dX6_byOrder_1 : decode cX6_byOrder 1 = .ok (.istore_n 1, 1) := by decide +kernel
theorem dX6_byOrder_2 : decode cX6_byOrder 2 = .ok (.iload_n 1, 1) := by decide +kernel
theorem dX6_byOrder_3 : decode cX6_byOrder 3 = .ok (.aload_n 0, 1) := by decide +kernel
theorem dX6_byOrder_4 : decode cX6_byOrder 4 = .ok (.getfield 7, 3) := by decide +kernel
theorem dX6_byOrder_7 : decode cX6_byOrder 7 = .ok (.bipush 7, 2) := by decide +kernel
theorem dX6_byOrder_9 : decode cX6_byOrder 9 = .ok (.iaload, 1) := by decide +kernel
theorem dX6_byOrder_10 : decode cX6_byOrder 10 = .ok (.if_icmp .ge 20, 3) := by decide +kernel
theorem dX6_byOrder_13 : decode cX6_byOrder 13 = .ok (.aload_n 0, 1) := by decide +kernel
theorem dX6_byOrder_14 : decode cX6_byOrder 14 = .ok (.iload_n 1, 1) := by decide +kernel
theorem dX6_byOrder_15 : decode cX6_byOrder 15 = .ok (.aload_n 0, 1) := by decide +kernel
theorem dX6_byOrder_16 : decode cX6_byOrder 16 = .ok (.iload_n 1, 1) := by decide +kernel
theorem dX6_byOrder_17 : decode cX6_byOrder 17 = .ok (.iconst 0, 1) := by decide +kernel
theorem dX6_byOrder_18 : decode cX6_byOrder 18 = .ok (.invokevirtual 67, 3) := by decide +kernel
theorem dX6_byOrder_21 : decode cX6_byOrder 21 = .ok (.invokevirtual 144, 3) := by decide +kernel
theorem dX6_byOrder_24 : decode cX6_byOrder 24 = .ok (.iinc 1 1, 3) := by decide +kernel
theorem dX6_byOrder_27 : decode cX6_byOrder 27 = .ok (.goto (-25), 3) := by decide +kernel
theorem dX6_byOrder_30 : decode cX6_byOrder 30 = .ok (.return_, 1) := by decide +kernel
set_option maxRecDepth 20000 in
theorem ggX6_byWeights_X6_ofUser : GoodIn wsX6_byWeights wsX6_ofUser := goodIn_r _ [7, 2, 8, 9, 6, 10, 15, 16, 17, 18, 19, 20, 21, 22, 23, 24, 25, 26, 27] (by decide +kernel) (by decide +kernel)
set_option maxRecDepth 20000 in
theorem gX6_byWeights_X6_ofUser : GoodIn wsX6_byWeights (wsV RX6 67 RX6 yX6_ofUser wsX6_ofUser) := goodIn_app (goodIn_of _ (by decide +kernel)) ggX6_byWeights_X6_ofUser
set_option maxRecDepth 20000 in
theorem ggX6_byWeights_X6_gives : GoodIn wsX6_byWeights wsX6_gives := goodIn_r _ [14, 1, 2, 3, 4, 5, 6, 7, 8, 9, 10, 15, 16, 17, 18, 19, 20, 21, 22, 23, 24, 25, 26, 27] (by decide +kernel) (by decide +kernel)
set_option maxRecDepth 20000 in
theorem gX6_byWeights_X6_gives : GoodIn wsX6_byWeights (wsV RX6 144 RX6 yX6_gives wsX6_gives) := goodIn_app (goodIn_of _ (by decide +kernel)) ggX6_byWeights_X6_gives
theorem dX6_byWeights_0 : decode cX6_byWeights 0 = .ok (.aload_n 0, 1) := by decide +kernel
theorem dX6_byWeights_1 : decode cX6_byWeights 1 = .ok (.getfield 125, 3) := by decide +kernel
theorem dX6_byWeights_4 : decode cX6_byWeights 4 = .ok (.ifCond .le 39, 3) := by decide +kernel
theorem dX6_byWeights_7 : decode cX6_byWeights 7 = .ok (.iconst 0, 1) := by decide +kernel
theorem dX6_byWeights_8 : decode cX6_byWeights 8 = .ok (.istore_n 1, 1) := by decide +kernel
theorem dX6_byWeights_9 : decode cX6_byWeights 9 = .ok (.iload_n 1, 1) := by decide +kernel
theorem dX6_byWeights_10 : decode cX6_byWeights 10 = .ok (.aload_n 0, 1) := by decide +kernel
theorem dX6_byWeights_11 : decode cX6_byWeights 11 = .ok (.getfield 7, 3) := by decide +kernel
theorem dX6_byWeights_14 : decode cX6_byWeights 14 = .ok (.bipush 7, 2) := by decide +kernel
theorem dX6_byWeights_16 : decode cX6_byWeights 16 = .ok (.iaload, 1) := by decide +kernel
theorem dX6_byWeights_17 : decode cX6_byWeights 17 = .ok (.if_icmp .ge 23, 3) := by decide +kernel
theorem dX6_byWeights_20 : decode cX6_byWeights 20 = .ok (.aload_n 0, 1) := by decide +kernel
theorem dX6_byWeights_21 : decode cX6_byWeights 21 = .ok (.iload_n 1, 1) := by decide +kernel
theorem dX6_byWeights_22 : decode cX6_byWeights 22 = .ok (.bipush 10, 2) := by decide +kernel
theorem dX6_byWeights_24 : decode cX6_byWeights 24 = .ok (.aload_n 0, 1) := by decide +kernel
theorem dX6_byWeights_25 : decode cX6_byWeights 25 = .ok (.iload_n 1, 1) := by decide +kernel
theorem dX6_byWeights_26 : decode cX6_byWeights 26 = .ok (.iconst 1, 1) := by decide +kernel
theorem dX6_byWeights_27 : decode cX6_byWeights 27 = .ok (.invokevirtual 67, 3) := by decide +kernel
theorem dX6_byWeights_30 : decode cX6_byWeights 30 = .ok (.imul, 1) := by decide +kernel
theorem dX6_byWeights_31 : decode cX6_byWeights 31 = .ok (.invokevirtual 144, 3) := by decide +kernel
theorem dX6_byWeights_34 : decode cX6_byWeights 34 = .ok (.iinc 1 1, 3) := by decide +kernel
theorem dX6_byWeights_37 : decode cX6_byWeights 37 = .ok (.goto (-28), 3) := by decide +kernel
theorem dX6_byWeights_40 : decode cX6_byWeights 40 = .ok (.goto (-40), 3) := by decide +kernel
theorem dX6_byWeights_43 : decode cX6_byWeights 43 = .ok (.return_, 1) := by decide +kernel
set_option maxRecDepth 20000 in
theorem ggX6_smallestFirst_X6_ofUser : GoodIn wsX6_smallestFirst wsX6_ofUser := goodIn_r _ [6, 1, 7, 8, 5, 9, 15, 16, 17, 18, 19, 20, 21, 22, 23, 24, 25, 26, 27] (by decide +kernel) (by decide +kernel)
set_option maxRecDepth 20000 in
theorem gX6_smallestFirst_X6_ofUser : GoodIn wsX6_smallestFirst (wsV RX6 67 RX6 yX6_ofUser wsX6_ofUser) := goodIn_app (goodIn_of _ (by decide +kernel)) ggX6_smallestFirst_X6_ofUser
set_option maxRecDepth 20000 in
theorem ggX6_smallestFirst_X6_gives : GoodIn wsX6_smallestFirst wsX6_gives := goodIn_r _ [13, 14, 1, 2, 3, 4, 5, 6, 7, 8, 9, 15, 16, 17, 18, 19, 20, 21, 22, 23, 24, 25, 26, 27] (by decide +kernel) (by decide +kernel)
set_option maxRecDepth 20000 in
theorem gX6_smallestFirst_X6_gives : GoodIn wsX6_smallestFirst (wsV RX6 144 RX6 yX6_gives wsX6_gives) := goodIn_app (goodIn_of _ (by decide +kernel)) ggX6_smallestFirst_X6_gives
theorem dX6_smallestFirst_0 : decode cX6_smallestFirst 0 = .ok (.iconst 0, 1) := by decide +kernel
theorem dX6_smallestFirst_1 : decode cX6_smallestFirst 1 = .ok (.istore_n 1, 1) := by decide +kernel
theorem dX6_smallestFirst_2 : decode cX6_smallestFirst 2 = .ok (.iconst 0, 1) := by decide +kernel
theorem dX6_smallestFirst_3 : decode cX6_smallestFirst 3 = .ok (.istore_n 2, 1) := by decide +kernel
theorem dX6_smallestFirst_4 : decode cX6_smallestFirst 4 = .ok (.iload_n 2, 1) := by decide +kernel
theorem dX6_smallestFirst_5 : decode cX6_smallestFirst 5 = .ok (.aload_n 0, 1) := by decide +kernel
theorem dX6_smallestFirst_6 : decode cX6_smallestFirst 6 = .ok (.getfield 7, 3) := by decide +kernel
theorem dX6_smallestFirst_9 : decode cX6_smallestFirst 9 = .ok (.bipush 7, 2) := by decide +kernel
theorem dX6_smallestFirst_11 : decode cX6_smallestFirst 11 = .ok (.iaload, 1) := by decide +kernel
theorem dX6_smallestFirst_12 : decode cX6_smallestFirst 12 = .ok (.if_icmp .ge 98, 3) := by decide +kernel
theorem dX6_smallestFirst_15 : decode cX6_smallestFirst 15 = .ok (.iconst (-1), 1) := by decide +kernel
theorem dX6_smallestFirst_16 : decode cX6_smallestFirst 16 = .ok (.istore_n 3, 1) := by decide +kernel
theorem dX6_smallestFirst_17 : decode cX6_smallestFirst 17 = .ok (.iconst 0, 1) := by decide +kernel
theorem dX6_smallestFirst_18 : decode cX6_smallestFirst 18 = .ok (.istore 4, 2) := by decide +kernel
theorem dX6_smallestFirst_20 : decode cX6_smallestFirst 20 = .ok (.iload 4, 2) := by decide +kernel
theorem dX6_smallestFirst_22 : decode cX6_smallestFirst 22 = .ok (.aload_n 0, 1) := by decide +kernel
theorem dX6_smallestFirst_23 : decode cX6_smallestFirst 23 = .ok (.getfield 7, 3) := by decide +kernel
theorem dX6_smallestFirst_26 : decode cX6_smallestFirst 26 = .ok (.bipush 7, 2) := by decide +kernel
theorem dX6_smallestFirst_28 : decode cX6_smallestFirst 28 = .ok (.iaload, 1) := by decide +kernel
theorem dX6_smallestFirst_29 : decode cX6_smallestFirst 29 = .ok (.if_icmp .ge 58, 3) := by decide +kernel
theorem dX6_smallestFirst_32 : decode cX6_smallestFirst 32 = .ok (.iload_n 1, 1) := by decide +kernel
theorem dX6_smallestFirst_33 : decode cX6_smallestFirst 33 = .ok (.iload 4, 2) := by decide +kernel
theorem dX6_smallestFirst_35 : decode cX6_smallestFirst 35 = .ok (.ishr, 1) := by decide +kernel
theorem dX6_smallestFirst_36 : decode cX6_smallestFirst 36 = .ok (.iconst 1, 1) := by decide +kernel
theorem dX6_smallestFirst_37 : decode cX6_smallestFirst 37 = .ok (.iand, 1) := by decide +kernel
theorem dX6_smallestFirst_38 : decode cX6_smallestFirst 38 = .ok (.ifCond .ne 7, 3) := by decide +kernel
theorem dX6_smallestFirst_41 : decode cX6_smallestFirst 41 = .ok (.iconst 1, 1) := by decide +kernel
theorem dX6_smallestFirst_42 : decode cX6_smallestFirst 42 = .ok (.goto 4, 3) := by decide +kernel
theorem dX6_smallestFirst_45 : decode cX6_smallestFirst 45 = .ok (.iconst 0, 1) := by decide +kernel
theorem dX6_smallestFirst_46 : decode cX6_smallestFirst 46 = .ok (.istore 5, 2) := by decide +kernel
theorem dX6_smallestFirst_48 : decode cX6_smallestFirst 48 = .ok (.iload 5, 2) := by decide +kernel
theorem dX6_smallestFirst_50 : decode cX6_smallestFirst 50 = .ok (.ifCond .eq 29, 3) := by decide +kernel
theorem dX6_smallestFirst_53 : decode cX6_smallestFirst 53 = .ok (.iload_n 3, 1) := by decide +kernel
theorem dX6_smallestFirst_54 : decode cX6_smallestFirst 54 = .ok (.iconst (-1), 1) := by decide +kernel
theorem dX6_smallestFirst_55 : decode cX6_smallestFirst 55 = .ok (.if_icmp .eq 19, 3) := by decide +kernel
theorem dX6_smallestFirst_58 : decode cX6_smallestFirst 58 = .ok (.aload_n 0, 1) := by decide +kernel
theorem dX6_smallestFirst_59 : decode cX6_smallestFirst 59 = .ok (.iload 4, 2) := by decide +kernel
theorem dX6_smallestFirst_61 : decode cX6_smallestFirst 61 = .ok (.iconst 0, 1) := by decide +kernel
theorem dX6_smallestFirst_62 : decode cX6_smallestFirst 62 = .ok (.invokevirtual 67, 3) := by decide +kernel
theorem dX6_smallestFirst_65 : decode cX6_smallestFirst 65 = .ok (.aload_n 0, 1) := by decide +kernel
theorem dX6_smallestFirst_66 : decode cX6_smallestFirst 66 = .ok (.iload_n 3, 1) := by decide +kernel
theorem dX6_smallestFirst_67 : decode cX6_smallestFirst 67 = .ok (.iconst 0, 1) := by decide +kernel
theorem dX6_smallestFirst_68 : decode cX6_smallestFirst 68 = .ok (.invokevirtual 67, 3) := by decide +kernel
theorem dX6_smallestFirst_71 : decode cX6_smallestFirst 71 = .ok (.if_icmp .ge 8, 3) := by decide +kernel
theorem dX6_smallestFirst_74 : decode cX6_smallestFirst 74 = .ok (.iload 4, 2) := by decide +kernel
theorem dX6_smallestFirst_76 : decode cX6_smallestFirst 76 = .ok (.goto 4, 3) := by decide +kernel
theorem dX6_smallestFirst_79 : decode cX6_smallestFirst 79 = .ok (.iload_n 3, 1) := by decide +kernel
theorem dX6_smallestFirst_80 : decode cX6_smallestFirst 80 = .ok (.istore_n 3, 1) := by decide +kernel
theorem dX6_smallestFirst_81 : decode cX6_smallestFirst 81 = .ok (.iinc 4 1, 3) := by decide +kernel
theorem dX6_smallestFirst_84 : decode cX6_smallestFirst 84 = .ok (.goto (-64), 3) := by decide +kernel
theorem dX6_smallestFirst_87 : decode cX6_smallestFirst 87 = .ok (.iload_n 1, 1) := by decide +kernel
theorem dX6_smallestFirst_88 : decode cX6_smallestFirst 88 = .ok (.iconst 1, 1) := by decide +kernel
theorem dX6_smallestFirst_89 : decode cX6_smallestFirst 89 = .ok (.iload_n 3, 1) := by decide +kernel
theorem dX6_smallestFirst_90 : decode cX6_smallestFirst 90 = .ok (.ishl, 1) := by decide +kernel
theorem dX6_smallestFirst_91 : decode cX6_smallestFirst 91 = .ok (.ior, 1) := by decide +kernel
theorem dX6_smallestFirst_92 : decode cX6_smallestFirst 92 = .ok (.istore_n 1, 1) := by decide +kernel
theorem dX6_smallestFirst_93 : decode cX6_smallestFirst 93 = .ok (.aload_n 0, 1) := by decide +kernel
theorem dX6_smallestFirst_94 : decode cX6_smallestFirst 94 = .ok (.iload_n 3, 1) := by decide +kernel
theorem dX6_smallestFirst_95 : decode cX6_smallestFirst 95 = .ok (.aload_n 0, 1) := by decide +kernel
theorem dX6_smallestFirst_96 : decode cX6_smallestFirst 96 = .ok (.iload_n 3, 1) := by decide +kernel
theorem dX6_smallestFirst_97 : decode cX6_smallestFirst 97 = .ok (.iconst 0, 1) := by decide +kernel
theorem dX6_smallestFirst_98 : decode cX6_smallestFirst 98 = .ok (.invokevirtual 67, 3) := by decide +kernel
theorem dX6_smallestFirst_101 : decode cX6_smallestFirst 101 = .ok (.invokevirtual 144, 3) := by decide +kernel
theorem dX6_smallestFirst_104 : decode cX6_smallestFirst 104 = .ok (.iinc 2 1, 3) := by decide +kernel
theorem dX6_smallestFirst_107 : decode cX6_smallestFirst 107 = .ok (.goto (-103), 3) := by decide +kernel
theorem dX6_smallestFirst_110 : decode cX6_smallestFirst 110 = .ok (.return_, 1) := by decide +kernel
set_option maxRecDepth 20000 in
theorem ggX6_run_X6_in : GoodIn wsX6_run wsX6_in := goodIn_r _ [6] (by decide +kernel) (by decide +kernel)
set_option maxRecDepth 20000 in
theorem gX6_run_X6_in : GoodIn wsX6_run (va_wsS RX6 40 yX6_in wsX6_in) := goodIn_app (goodIn_of _ (by decide +kernel)) ggX6_run_X6_in
set_option maxRecDepth 20000 in
theorem ggX6_run_X6_goes : GoodIn wsX6_run wsX6_goes := goodIn_r _ [10, 11, 79, 80, 81, 82, 83, 84, 85, 86, 87, 88, 89, 90, 91] (by decide +kernel) (by decide +kernel)
set_option maxRecDepth 20000 in
theorem gX6_run_X6_goes : GoodIn wsX6_run (wsV RX6 52 RX6 yX6_goes wsX6_goes) := goodIn_app (goodIn_of _ (by decide +kernel)) ggX6_run_X6_goes
set_option maxRecDepth 20000 in
theorem ggX6_run_X6_save : GoodIn wsX6_run wsX6_save := goodIn_r _ [15, 16, 17, 2, 79, 80, 81, 82, 83, 84, 85, 86, 87, 88, 89, 90, 91] (by decide +kernel) (by decide +kernel)
set_option maxRecDepth 20000 in
theorem gX6_run_X6_save : GoodIn wsX6_run (wsV RX6 56 RX6 yX6_save wsX6_save) := goodIn_app (goodIn_of _ (by decide +kernel)) ggX6_run_X6_save
set_option maxRecDepth 20000 in
theorem ggX6_run_X6_does : GoodIn wsX6_run wsX6_does := goodIn_r _ [21, 2, 22, 23, 24, 25, 5, 26, 27, 28, 29, 30, 31, 32, 33, 34, 35, 36, 37, 38, 39, 40, 41, 42, 43, 44, 45, 46, 47, 48, 49, 50, 51, 52, 53, 54, 55, 56, 57, 58, 59, 60, 61, 62, 63, 64, 65, 66, 67, 68, 69, 70, 71, 72, 73, 74, 75, 76, 77, 78, 79, 80, 81, 82, 83, 84, 85, 86, 87, 88, 89, 90, 91] (by decide +kernel) (by decide +kernel)
set_option maxRecDepth 20000 in
theorem gX6_run_X6_does : GoodIn wsX6_run (wsV RX6 147 RX6 yX6_does wsX6_does) := goodIn_app (goodIn_of _ (by decide +kernel)) ggX6_run_X6_does
theorem dX6_run_0 : decode cX6_run 0 = .ok (.iload_n 1, 1) := by decide +kernel
theorem dX6_run_1 : decode cX6_run 1 = .ok (.i2l, 1) := by decide +kernel
theorem dX6_run_2 : decode cX6_run 2 = .ok (.lconst 0, 1) := by decide +kernel
theorem dX6_run_3 : decode cX6_run 3 = .ok (.ldc2_w 46, 3) := by decide +kernel
theorem dX6_run_6 : decode cX6_run 6 = .ok (.invokestatic 40, 3) := by decide +kernel
theorem dX6_run_9 : decode cX6_run 9 = .ok (.istore_n 2, 1) := by decide +kernel
theorem dX6_run_10 : decode cX6_run 10 = .ok (.aload_n 0, 1) := by decide +kernel
theorem dX6_run_11 : decode cX6_run 11 = .ok (.iload_n 2, 1) := by decide +kernel
theorem dX6_run_12 : decode cX6_run 12 = .ok (.iload_n 2, 1) := by decide +kernel
theorem dX6_run_13 : decode cX6_run 13 = .ok (.ifCond .eq 26, 3) := by decide +kernel
theorem dX6_run_16 : decode cX6_run 16 = .ok (.aload_n 0, 1) := by decide +kernel
theorem dX6_run_17 : decode cX6_run 17 = .ok (.getfield 7, 3) := by decide +kernel
theorem dX6_run_20 : decode cX6_run 20 = .ok (.bipush 9, 2) := by decide +kernel
theorem dX6_run_22 : decode cX6_run 22 = .ok (.iaload, 1) := by decide +kernel
theorem dX6_run_23 : decode cX6_run 23 = .ok (.iload_n 1, 1) := by decide +kernel
theorem dX6_run_24 : decode cX6_run 24 = .ok (.iadd, 1) := by decide +kernel
theorem dX6_run_25 : decode cX6_run 25 = .ok (.aload_n 0, 1) := by decide +kernel
theorem dX6_run_26 : decode cX6_run 26 = .ok (.getfield 7, 3) := by decide +kernel
theorem dX6_run_29 : decode cX6_run 29 = .ok (.bipush 8, 2) := by decide +kernel
theorem dX6_run_31 : decode cX6_run 31 = .ok (.iaload, 1) := by decide +kernel
theorem dX6_run_32 : decode cX6_run 32 = .ok (.if_icmp .gt 7, 3) := by decide +kernel
theorem dX6_run_35 : decode cX6_run 35 = .ok (.iconst 1, 1) := by decide +kernel
theorem dX6_run_36 : decode cX6_run 36 = .ok (.goto 4, 3) := by decide +kernel
theorem dX6_run_39 : decode cX6_run 39 = .ok (.iconst 0, 1) := by decide +kernel
theorem dX6_run_40 : decode cX6_run 40 = .ok (.invokevirtual 52, 3) := by decide +kernel
theorem dX6_run_43 : decode cX6_run 43 = .ok (.ifCond .ne 5, 3) := by decide +kernel
theorem dX6_run_46 : decode cX6_run 46 = .ok (.iconst 0, 1) := by decide +kernel
theorem dX6_run_47 : decode cX6_run 47 = .ok (.ireturn, 1) := by decide +kernel
theorem dX6_run_48 : decode cX6_run 48 = .ok (.aload_n 0, 1) := by decide +kernel
theorem dX6_run_49 : decode cX6_run 49 = .ok (.invokevirtual 56, 3) := by decide +kernel
theorem dX6_run_52 : decode cX6_run 52 = .ok (.iconst 0, 1) := by decide +kernel
theorem dX6_run_53 : decode cX6_run 53 = .ok (.istore_n 3, 1) := by decide +kernel
theorem dX6_run_54 : decode cX6_run 54 = .ok (.iconst 0, 1) := by decide +kernel
theorem dX6_run_55 : decode cX6_run 55 = .ok (.istore 4, 2) := by decide +kernel
theorem dX6_run_57 : decode cX6_run 57 = .ok (.iload 4, 2) := by decide +kernel
theorem dX6_run_59 : decode cX6_run 59 = .ok (.iload_n 1, 1) := by decide +kernel
theorem dX6_run_60 : decode cX6_run 60 = .ok (.if_icmp .ge 24, 3) := by decide +kernel
theorem dX6_run_63 : decode cX6_run 63 = .ok (.iload_n 3, 1) := by decide +kernel
theorem dX6_run_64 : decode cX6_run 64 = .ok (.aload_n 0, 1) := by decide +kernel
theorem dX6_run_65 : decode cX6_run 65 = .ok (.invokevirtual 147, 3) := by decide +kernel
theorem dX6_run_68 : decode cX6_run 68 = .ok (.ifCond .eq 7, 3) := by decide +kernel
theorem dX6_run_71 : decode cX6_run 71 = .ok (.iconst 1, 1) := by decide +kernel
theorem dX6_run_72 : decode cX6_run 72 = .ok (.goto 4, 3) := by decide +kernel
theorem dX6_run_75 : decode cX6_run 75 = .ok (.iconst 0, 1) := by decide +kernel
theorem dX6_run_76 : decode cX6_run 76 = .ok (.iadd, 1) := by decide +kernel
theorem dX6_run_77 : decode cX6_run 77 = .ok (.istore_n 3, 1) := by decide +kernel
theorem dX6_run_78 : decode cX6_run 78 = .ok (.iinc 4 1, 3) := by decide +kernel
theorem dX6_run_81 : decode cX6_run 81 = .ok (.goto (-24), 3) := by decide +kernel
theorem dX6_run_84 : decode cX6_run 84 = .ok (.iload_n 3, 1) := by decide +kernel
theorem dX6_run_85 : decode cX6_run 85 = .ok (.ireturn, 1) := by decide +kernel
set_option maxRecDepth 20000 in
theorem ggX6_goesBack_X6_roofAt : GoodIn wsX6_goesBack wsX6_roofAt := goodIn_r _ [5] (by decide +kernel) (by decide +kernel)
set_option maxRecDepth 20000 in
theorem gX6_goesBack_X6_roofAt : GoodIn wsX6_goesBack (va_wsS RX6 33 yX6_roofAt wsX6_roofAt) := goodIn_app (goodIn_of _ (by decide +kernel)) ggX6_goesBack_X6_roofAt
set_option maxRecDepth 20000 in
theorem ggX6_goesBack_X6_userAt : GoodIn wsX6_goesBack wsX6_userAt := goodIn_r _ [8] (by decide +kernel) (by decide +kernel)
set_option maxRecDepth 20000 in
theorem gX6_goesBack_X6_userAt : GoodIn wsX6_goesBack (va_wsS RX6 37 yX6_userAt wsX6_userAt) := goodIn_app (goodIn_of _ (by decide +kernel)) ggX6_goesBack_X6_userAt
theorem dX6_goesBack_0 : decode cX6_goesBack 0 = .ok (.aload_n 0, 1) := by decide +kernel
theorem dX6_goesBack_1 : decode cX6_goesBack 1 = .ok (.getfield 7, 3) := by decide +kernel
theorem dX6_goesBack_4 : decode cX6_goesBack 4 = .ok (.bipush 9, 2) := by decide +kernel
theorem dX6_goesBack_6 : decode cX6_goesBack 6 = .ok (.iconst 0, 1) := by decide +kernel
theorem dX6_goesBack_7 : decode cX6_goesBack 7 = .ok (.iastore, 1) := by decide +kernel
theorem dX6_goesBack_8 : decode cX6_goesBack 8 = .ok (.aload_n 0, 1) := by decide +kernel
theorem dX6_goesBack_9 : decode cX6_goesBack 9 = .ok (.getfield 7, 3) := by decide +kernel
theorem dX6_goesBack_12 : decode cX6_goesBack 12 = .ok (.bipush 10, 2) := by decide +kernel
theorem dX6_goesBack_14 : decode cX6_goesBack 14 = .ok (.iconst 0, 1) := by decide +kernel
theorem dX6_goesBack_15 : decode cX6_goesBack 15 = .ok (.iastore, 1) := by decide +kernel
theorem dX6_goesBack_16 : decode cX6_goesBack 16 = .ok (.aload_n 0, 1) := by decide +kernel
theorem dX6_goesBack_17 : decode cX6_goesBack 17 = .ok (.getfield 7, 3) := by decide +kernel
theorem dX6_goesBack_20 : decode cX6_goesBack 20 = .ok (.bipush 11, 2) := by decide +kernel
theorem dX6_goesBack_22 : decode cX6_goesBack 22 = .ok (.iconst 0, 1) := by decide +kernel
theorem dX6_goesBack_23 : decode cX6_goesBack 23 = .ok (.iastore, 1) := by decide +kernel
theorem dX6_goesBack_24 : decode cX6_goesBack 24 = .ok (.aload_n 0, 1) := by decide +kernel
theorem dX6_goesBack_25 : decode cX6_goesBack 25 = .ok (.getfield 7, 3) := by decide +kernel
theorem dX6_goesBack_28 : decode cX6_goesBack 28 = .ok (.bipush 12, 2) := by decide +kernel
theorem dX6_goesBack_30 : decode cX6_goesBack 30 = .ok (.iconst 0, 1) := by decide +kernel
theorem dX6_goesBack_31 : decode cX6_goesBack 31 = .ok (.iastore, 1) := by decide +kernel
theorem dX6_goesBack_32 : decode cX6_goesBack 32 = .ok (.iconst 0, 1) := by decide +kernel
theorem dX6_goesBack_33 : decode cX6_goesBack 33 = .ok (.istore_n 1, 1) := by decide +kernel
theorem dX6_goesBack_34 : decode cX6_goesBack 34 = .ok (.iload_n 1, 1) := by decide +kernel
theorem dX6_goesBack_35 : decode cX6_goesBack 35 = .ok (.aload_n 0, 1) := by decide +kernel
theorem dX6_goesBack_36 : decode cX6_goesBack 36 = .ok (.getfield 7, 3) := by decide +kernel
theorem dX6_goesBack_39 : decode cX6_goesBack 39 = .ok (.bipush 6, 2) := by decide +kernel
theorem dX6_goesBack_41 : decode cX6_goesBack 41 = .ok (.iaload, 1) := by decide +kernel
theorem dX6_goesBack_42 : decode cX6_goesBack 42 = .ok (.if_icmp .ge 20, 3) := by decide +kernel
theorem dX6_goesBack_45 : decode cX6_goesBack 45 = .ok (.aload_n 0, 1) := by decide +kernel
theorem dX6_goesBack_46 : decode cX6_goesBack 46 = .ok (.getfield 7, 3) := by decide +kernel
theorem dX6_goesBack_49 : decode cX6_goesBack 49 = .ok (.iload_n 1, 1) := by decide +kernel
theorem dX6_goesBack_50 : decode cX6_goesBack 50 = .ok (.iconst 4, 1) := by decide +kernel
theorem dX6_goesBack_51 : decode cX6_goesBack 51 = .ok (.invokestatic 33, 3) := by decide +kernel
theorem dX6_goesBack_54 : decode cX6_goesBack 54 = .ok (.iconst 0, 1) := by decide +kernel
theorem dX6_goesBack_55 : decode cX6_goesBack 55 = .ok (.iastore, 1) := by decide +kernel
theorem dX6_goesBack_56 : decode cX6_goesBack 56 = .ok (.iinc 1 1, 3) := by decide +kernel
theorem dX6_goesBack_59 : decode cX6_goesBack 59 = .ok (.goto (-25), 3) := by decide +kernel
theorem dX6_goesBack_62 : decode cX6_goesBack 62 = .ok (.iconst 0, 1) := by decide +kernel
theorem dX6_goesBack_63 : decode cX6_goesBack 63 = .ok (.istore_n 1, 1) := by decide +kernel
theorem dX6_goesBack_64 : decode cX6_goesBack 64 = .ok (.iload_n 1, 1) := by decide +kernel
theorem dX6_goesBack_65 : decode cX6_goesBack 65 = .ok (.aload_n 0, 1) := by decide +kernel
theorem dX6_goesBack_66 : decode cX6_goesBack 66 = .ok (.getfield 7, 3) := by decide +kernel
theorem dX6_goesBack_69 : decode cX6_goesBack 69 = .ok (.bipush 7, 2) := by decide +kernel
theorem dX6_goesBack_71 : decode cX6_goesBack 71 = .ok (.iaload, 1) := by decide +kernel
theorem dX6_goesBack_72 : decode cX6_goesBack 72 = .ok (.if_icmp .ge 31, 3) := by decide +kernel
theorem dX6_goesBack_75 : decode cX6_goesBack 75 = .ok (.aload_n 0, 1) := by decide +kernel
theorem dX6_goesBack_76 : decode cX6_goesBack 76 = .ok (.getfield 7, 3) := by decide +kernel
theorem dX6_goesBack_79 : decode cX6_goesBack 79 = .ok (.iload_n 1, 1) := by decide +kernel
theorem dX6_goesBack_80 : decode cX6_goesBack 80 = .ok (.iconst 2, 1) := by decide +kernel
theorem dX6_goesBack_81 : decode cX6_goesBack 81 = .ok (.invokestatic 37, 3) := by decide +kernel
theorem dX6_goesBack_84 : decode cX6_goesBack 84 = .ok (.iconst 0, 1) := by decide +kernel
theorem dX6_goesBack_85 : decode cX6_goesBack 85 = .ok (.iastore, 1) := by decide +kernel
theorem dX6_goesBack_86 : decode cX6_goesBack 86 = .ok (.aload_n 0, 1) := by decide +kernel
theorem dX6_goesBack_87 : decode cX6_goesBack 87 = .ok (.getfield 7, 3) := by decide +kernel
theorem dX6_goesBack_90 : decode cX6_goesBack 90 = .ok (.iload_n 1, 1) := by decide +kernel
theorem dX6_goesBack_91 : decode cX6_goesBack 91 = .ok (.iconst 3, 1) := by decide +kernel
theorem dX6_goesBack_92 : decode cX6_goesBack 92 = .ok (.invokestatic 37, 3) := by decide +kernel
theorem dX6_goesBack_95 : decode cX6_goesBack 95 = .ok (.iconst 0, 1) := by decide +kernel
theorem dX6_goesBack_96 : decode cX6_goesBack 96 = .ok (.iastore, 1) := by decide +kernel
theorem dX6_goesBack_97 : decode cX6_goesBack 97 = .ok (.iinc 1 1, 3) := by decide +kernel
theorem dX6_goesBack_100 : decode cX6_goesBack 100 = .ok (.goto (-36), 3) := by decide +kernel
theorem dX6_goesBack_103 : decode cX6_goesBack 103 = .ok (.return_, 1) := by decide +kernel
set_option maxRecDepth 20000 in
theorem ggX6_restart_X6_save : GoodIn wsX6_restart wsX6_save := goodIn_r _ [7, 8, 9, 2, 20, 21, 22, 23, 24, 25, 26, 27, 28, 29, 30, 31, 32] (by decide +kernel) (by decide +kernel)
set_option maxRecDepth 20000 in
theorem gX6_restart_X6_save : GoodIn wsX6_restart (wsV RX6 56 RX6 yX6_save wsX6_save) := goodIn_app (goodIn_of _ (by decide +kernel)) ggX6_restart_X6_save
set_option maxRecDepth 20000 in
theorem ggX6_restart_X6_goesBack : GoodIn wsX6_restart wsX6_goesBack := goodIn_r _ [13, 2, 14, 15, 6, 16, 17, 18, 19, 20, 21, 22, 23, 24, 25, 26, 27, 28, 29, 30, 31, 32] (by decide +kernel) (by decide +kernel)
set_option maxRecDepth 20000 in
theorem gX6_restart_X6_goesBack : GoodIn wsX6_restart (wsV RX6 151 RX6 yX6_goesBack wsX6_goesBack) := goodIn_app (goodIn_of _ (by decide +kernel)) ggX6_restart_X6_goesBack
theorem dX6_restart_0 : decode cX6_restart 0 = .ok (.aload_n 0, 1) := by decide +kernel
theorem dX6_restart_1 : decode cX6_restart 1 = .ok (.iconst 0, 1) := by decide +kernel
theorem dX6_restart_2 : decode cX6_restart 2 = .ok (.putfield 26, 3) := by decide +kernel
theorem dX6_restart_5 : decode cX6_restart 5 = .ok (.aload_n 0, 1) := by decide +kernel
theorem dX6_restart_6 : decode cX6_restart 6 = .ok (.invokevirtual 56, 3) := by decide +kernel
theorem dX6_restart_9 : decode cX6_restart 9 = .ok (.aload_n 0, 1) := by decide +kernel
theorem dX6_restart_10 : decode cX6_restart 10 = .ok (.getfield 7, 3) := by decide +kernel
theorem dX6_restart_13 : decode cX6_restart 13 = .ok (.bipush 9, 2) := by decide +kernel
theorem dX6_restart_15 : decode cX6_restart 15 = .ok (.iaload, 1) := by decide +kernel
theorem dX6_restart_16 : decode cX6_restart 16 = .ok (.istore_n 1, 1) := by decide +kernel
theorem dX6_restart_17 : decode cX6_restart 17 = .ok (.aload_n 0, 1) := by decide +kernel
theorem dX6_restart_18 : decode cX6_restart 18 = .ok (.invokevirtual 151, 3) := by decide +kernel
theorem dX6_restart_21 : decode cX6_restart 21 = .ok (.iload_n 1, 1) := by decide +kernel
theorem dX6_restart_22 : decode cX6_restart 22 = .ok (.ireturn, 1) := by decide +kernel
set_option maxRecDepth 20000 in
theorem ggX6_day_X6_in : GoodIn wsX6_day wsX6_in := goodIn_r _ [6] (by decide +kernel) (by decide +kernel)
set_option maxRecDepth 20000 in
theorem gX6_day_X6_in : GoodIn wsX6_day (va_wsS RX6 40 yX6_in wsX6_in) := goodIn_app (goodIn_of _ (by decide +kernel)) ggX6_day_X6_in
set_option maxRecDepth 20000 in
theorem ggX6_day_X6_goes : GoodIn wsX6_day wsX6_goes := goodIn_r _ [10, 11, 12, 13, 14, 15, 16, 17, 18, 19, 20, 21, 22, 23, 24] (by decide +kernel) (by decide +kernel)
set_option maxRecDepth 20000 in
theorem gX6_day_X6_goes : GoodIn wsX6_day (wsV RX6 52 RX6 yX6_goes wsX6_goes) := goodIn_app (goodIn_of _ (by decide +kernel)) ggX6_day_X6_goes
theorem dX6_day_0 : decode cX6_day 0 = .ok (.aload_n 0, 1) := by decide +kernel
theorem dX6_day_1 : decode cX6_day 1 = .ok (.iload_n 1, 1) := by decide +kernel
theorem dX6_day_2 : decode cX6_day 2 = .ok (.i2l, 1) := by decide +kernel
theorem dX6_day_3 : decode cX6_day 3 = .ok (.lconst 0, 1) := by decide +kernel
theorem dX6_day_4 : decode cX6_day 4 = .ok (.aload_n 0, 1) := by decide +kernel
theorem dX6_day_5 : decode cX6_day 5 = .ok (.getfield 7, 3) := by decide +kernel
theorem dX6_day_8 : decode cX6_day 8 = .ok (.bipush 9, 2) := by decide +kernel
theorem dX6_day_10 : decode cX6_day 10 = .ok (.iaload, 1) := by decide +kernel
theorem dX6_day_11 : decode cX6_day 11 = .ok (.i2l, 1) := by decide +kernel
theorem dX6_day_12 : decode cX6_day 12 = .ok (.lconst 1, 1) := by decide +kernel
theorem dX6_day_13 : decode cX6_day 13 = .ok (.lsub, 1) := by decide +kernel
theorem dX6_day_14 : decode cX6_day 14 = .ok (.invokestatic 40, 3) := by decide +kernel
theorem dX6_day_17 : decode cX6_day 17 = .ok (.iload_n 2, 1) := by decide +kernel
theorem dX6_day_18 : decode cX6_day 18 = .ok (.i2l, 1) := by decide +kernel
theorem dX6_day_19 : decode cX6_day 19 = .ok (.lconst 0, 1) := by decide +kernel
theorem dX6_day_20 : decode cX6_day 20 = .ok (.ldc2_w 61, 3) := by decide +kernel
theorem dX6_day_23 : decode cX6_day 23 = .ok (.invokestatic 40, 3) := by decide +kernel
theorem dX6_day_26 : decode cX6_day 26 = .ok (.invokevirtual 52, 3) := by decide +kernel
theorem dX6_day_29 : decode cX6_day 29 = .ok (.ifCond .eq 21, 3) := by decide +kernel
theorem dX6_day_32 : decode cX6_day 32 = .ok (.aload_n 0, 1) := by decide +kernel
theorem dX6_day_33 : decode cX6_day 33 = .ok (.getfield 7, 3) := by decide +kernel
theorem dX6_day_36 : decode cX6_day 36 = .ok (.sipush 163, 3) := by decide +kernel
theorem dX6_day_39 : decode cX6_day 39 = .ok (.bipush 10, 2) := by decide +kernel
theorem dX6_day_41 : decode cX6_day 41 = .ok (.iload_n 1, 1) := by decide +kernel
theorem dX6_day_42 : decode cX6_day 42 = .ok (.imul, 1) := by decide +kernel
theorem dX6_day_43 : decode cX6_day 43 = .ok (.iadd, 1) := by decide +kernel
theorem dX6_day_44 : decode cX6_day 44 = .ok (.iload_n 2, 1) := by decide +kernel
theorem dX6_day_45 : decode cX6_day 45 = .ok (.iadd, 1) := by decide +kernel
theorem dX6_day_46 : decode cX6_day 46 = .ok (.iaload, 1) := by decide +kernel
theorem dX6_day_47 : decode cX6_day 47 = .ok (.goto 4, 3) := by decide +kernel
theorem dX6_day_50 : decode cX6_day 50 = .ok (.iconst 0, 1) := by decide +kernel
theorem dX6_day_51 : decode cX6_day 51 = .ok (.ireturn, 1) := by decide +kernel
theorem dX6_sumOf_0 : decode cX6_sumOf 0 = .ok (.iload_n 1, 1) := by decide +kernel
theorem dX6_sumOf_1 : decode cX6_sumOf 1 = .ok (.iconst 4, 1) := by decide +kernel
theorem dX6_sumOf_2 : decode cX6_sumOf 2 = .ok (.if_icmp .ne 14, 3) := by decide +kernel
theorem dX6_sumOf_5 : decode cX6_sumOf 5 = .ok (.aload_n 0, 1) := by decide +kernel
theorem dX6_sumOf_6 : decode cX6_sumOf 6 = .ok (.getfield 7, 3) := by decide +kernel
theorem dX6_sumOf_9 : decode cX6_sumOf 9 = .ok (.bipush 12, 2) := by decide +kernel
theorem dX6_sumOf_11 : decode cX6_sumOf 11 = .ok (.iaload, 1) := by decide +kernel
theorem dX6_sumOf_12 : decode cX6_sumOf 12 = .ok (.i2l, 1) := by decide +kernel
theorem dX6_sumOf_13 : decode cX6_sumOf 13 = .ok (.goto 4, 3) := by decide +kernel
theorem dX6_sumOf_16 : decode cX6_sumOf 16 = .ok (.lconst 0, 1) := by decide +kernel
theorem dX6_sumOf_17 : decode cX6_sumOf 17 = .ok (.lstore_n 2, 1) := by decide +kernel
theorem dX6_sumOf_18 : decode cX6_sumOf 18 = .ok (.iconst 0, 1) := by decide +kernel
theorem dX6_sumOf_19 : decode cX6_sumOf 19 = .ok (.istore 4, 2) := by decide +kernel
theorem dX6_sumOf_21 : decode cX6_sumOf 21 = .ok (.iload 4, 2) := by decide +kernel
theorem dX6_sumOf_23 : decode cX6_sumOf 23 = .ok (.aload_n 0, 1) := by decide +kernel
theorem dX6_sumOf_24 : decode cX6_sumOf 24 = .ok (.getfield 7, 3) := by decide +kernel
theorem dX6_sumOf_27 : decode cX6_sumOf 27 = .ok (.bipush 9, 2) := by decide +kernel
theorem dX6_sumOf_29 : decode cX6_sumOf 29 = .ok (.iaload, 1) := by decide +kernel
theorem dX6_sumOf_30 : decode cX6_sumOf 30 = .ok (.if_icmp .ge 29, 3) := by decide +kernel
theorem dX6_sumOf_33 : decode cX6_sumOf 33 = .ok (.lload_n 2, 1) := by decide +kernel
theorem dX6_sumOf_34 : decode cX6_sumOf 34 = .ok (.aload_n 0, 1) := by decide +kernel
theorem dX6_sumOf_35 : decode cX6_sumOf 35 = .ok (.getfield 7, 3) := by decide +kernel
theorem dX6_sumOf_38 : decode cX6_sumOf 38 = .ok (.sipush 163, 3) := by decide +kernel
theorem dX6_sumOf_41 : decode cX6_sumOf 41 = .ok (.bipush 10, 2) := by decide +kernel
theorem dX6_sumOf_43 : decode cX6_sumOf 43 = .ok (.iload 4, 2) := by decide +kernel
theorem dX6_sumOf_45 : decode cX6_sumOf 45 = .ok (.imul, 1) := by decide +kernel
theorem dX6_sumOf_46 : decode cX6_sumOf 46 = .ok (.iadd, 1) := by decide +kernel
theorem dX6_sumOf_47 : decode cX6_sumOf 47 = .ok (.iload_n 1, 1) := by decide +kernel
theorem dX6_sumOf_48 : decode cX6_sumOf 48 = .ok (.iadd, 1) := by decide +kernel
theorem dX6_sumOf_49 : decode cX6_sumOf 49 = .ok (.iaload, 1) := by decide +kernel
theorem dX6_sumOf_50 : decode cX6_sumOf 50 = .ok (.i2l, 1) := by decide +kernel
theorem dX6_sumOf_51 : decode cX6_sumOf 51 = .ok (.ladd, 1) := by decide +kernel
theorem dX6_sumOf_52 : decode cX6_sumOf 52 = .ok (.lstore_n 2, 1) := by decide +kernel
theorem dX6_sumOf_53 : decode cX6_sumOf 53 = .ok (.iinc 4 1, 3) := by decide +kernel
theorem dX6_sumOf_56 : decode cX6_sumOf 56 = .ok (.goto (-35), 3) := by decide +kernel
theorem dX6_sumOf_59 : decode cX6_sumOf 59 = .ok (.lload_n 2, 1) := by decide +kernel
theorem dX6_sumOf_60 : decode cX6_sumOf 60 = .ok (.lreturn, 1) := by decide +kernel
set_option maxRecDepth 20000 in
theorem ggX6_sum_X6_in : GoodIn wsX6_sum wsX6_in := goodIn_r _ [5] (by decide +kernel) (by decide +kernel)
set_option maxRecDepth 20000 in
theorem gX6_sum_X6_in : GoodIn wsX6_sum (va_wsS RX6 40 yX6_in wsX6_in) := goodIn_app (goodIn_of _ (by decide +kernel)) ggX6_sum_X6_in
set_option maxRecDepth 20000 in
theorem ggX6_sum_X6_goes : GoodIn wsX6_sum wsX6_goes := goodIn_r _ [9, 10, 16, 17, 18, 19, 20, 21, 22, 23, 24, 25, 26, 27, 28] (by decide +kernel) (by decide +kernel)
set_option maxRecDepth 20000 in
theorem gX6_sum_X6_goes : GoodIn wsX6_sum (wsV RX6 52 RX6 yX6_goes wsX6_goes) := goodIn_app (goodIn_of _ (by decide +kernel)) ggX6_sum_X6_goes
set_option maxRecDepth 20000 in
theorem ggX6_sum_X6_sumOf : GoodIn wsX6_sum wsX6_sumOf := goodIn_r _ [14, 15, 16, 17, 18, 19, 20, 21, 22, 23, 24, 25, 26, 27, 28] (by decide +kernel) (by decide +kernel)
set_option maxRecDepth 20000 in
theorem gX6_sum_X6_sumOf : GoodIn wsX6_sum (wsV RX6 154 RX6 yX6_sumOf wsX6_sumOf) := goodIn_app (goodIn_of _ (by decide +kernel)) ggX6_sum_X6_sumOf
theorem dX6_sum_0 : decode cX6_sum 0 = .ok (.aload_n 0, 1) := by decide +kernel
theorem dX6_sum_1 : decode cX6_sum 1 = .ok (.iload_n 1, 1) := by decide +kernel
theorem dX6_sum_2 : decode cX6_sum 2 = .ok (.i2l, 1) := by decide +kernel
theorem dX6_sum_3 : decode cX6_sum 3 = .ok (.lconst 1, 1) := by decide +kernel
theorem dX6_sum_4 : decode cX6_sum 4 = .ok (.ldc2_w 61, 3) := by decide +kernel
theorem dX6_sum_7 : decode cX6_sum 7 = .ok (.invokestatic 40, 3) := by decide +kernel
theorem dX6_sum_10 : decode cX6_sum 10 = .ok (.iconst 1, 1) := by decide +kernel
theorem dX6_sum_11 : decode cX6_sum 11 = .ok (.invokevirtual 52, 3) := by decide +kernel
theorem dX6_sum_14 : decode cX6_sum 14 = .ok (.ifCond .eq 11, 3) := by decide +kernel
theorem dX6_sum_17 : decode cX6_sum 17 = .ok (.aload_n 0, 1) := by decide +kernel
theorem dX6_sum_18 : decode cX6_sum 18 = .ok (.iload_n 1, 1) := by decide +kernel
theorem dX6_sum_19 : decode cX6_sum 19 = .ok (.invokevirtual 154, 3) := by decide +kernel
theorem dX6_sum_22 : decode cX6_sum 22 = .ok (.goto 4, 3) := by decide +kernel
theorem dX6_sum_25 : decode cX6_sum 25 = .ok (.lconst 0, 1) := by decide +kernel
theorem dX6_sum_26 : decode cX6_sum 26 = .ok (.lreturn, 1) := by decide +kernel
theorem dX6_wasShort_0 : decode cX6_wasShort 0 = .ok (.aload_n 0, 1) := by decide +kernel
theorem dX6_wasShort_1 : decode cX6_wasShort 1 = .ok (.getfield 7, 3) := by decide +kernel
theorem dX6_wasShort_4 : decode cX6_wasShort 4 = .ok (.sipush 163, 3) := by decide +kernel
theorem dX6_wasShort_7 : decode cX6_wasShort 7 = .ok (.bipush 10, 2) := by decide +kernel
theorem dX6_wasShort_9 : decode cX6_wasShort 9 = .ok (.iload_n 1, 1) := by decide +kernel
theorem dX6_wasShort_10 : decode cX6_wasShort 10 = .ok (.imul, 1) := by decide +kernel
theorem dX6_wasShort_11 : decode cX6_wasShort 11 = .ok (.iadd, 1) := by decide +kernel
theorem dX6_wasShort_12 : decode cX6_wasShort 12 = .ok (.bipush 7, 2) := by decide +kernel
theorem dX6_wasShort_14 : decode cX6_wasShort 14 = .ok (.iadd, 1) := by decide +kernel
theorem dX6_wasShort_15 : decode cX6_wasShort 15 = .ok (.iaload, 1) := by decide +kernel
theorem dX6_wasShort_16 : decode cX6_wasShort 16 = .ok (.ifCond .le 7, 3) := by decide +kernel
theorem dX6_wasShort_19 : decode cX6_wasShort 19 = .ok (.iconst 1, 1) := by decide +kernel
theorem dX6_wasShort_20 : decode cX6_wasShort 20 = .ok (.goto 4, 3) := by decide +kernel
theorem dX6_wasShort_23 : decode cX6_wasShort 23 = .ok (.iconst 0, 1) := by decide +kernel
theorem dX6_wasShort_24 : decode cX6_wasShort 24 = .ok (.ireturn, 1) := by decide +kernel
set_option maxRecDepth 20000 in
theorem ggX6_reliability_X6_wasShort : GoodIn wsX6_reliability wsX6_wasShort := goodIn_r _ [7, 2, 8, 9, 10, 11, 12, 13, 14, 15, 16, 17, 18, 19, 20] (by decide +kernel) (by decide +kernel)
set_option maxRecDepth 20000 in
theorem gX6_reliability_X6_wasShort : GoodIn wsX6_reliability (wsV RX6 158 RX6 yX6_wasShort wsX6_wasShort) := goodIn_app (goodIn_of _ (by decide +kernel)) ggX6_reliability_X6_wasShort
theorem dX6_reliability_0 : decode cX6_reliability 0 = .ok (.aload_n 0, 1) := by decide +kernel
theorem dX6_reliability_1 : decode cX6_reliability 1 = .ok (.iconst 0, 1) := by decide +kernel
theorem dX6_reliability_2 : decode cX6_reliability 2 = .ok (.putfield 26, 3) := by decide +kernel
theorem dX6_reliability_5 : decode cX6_reliability 5 = .ok (.iconst 0, 1) := by decide +kernel
theorem dX6_reliability_6 : decode cX6_reliability 6 = .ok (.istore_n 1, 1) := by decide +kernel
theorem dX6_reliability_7 : decode cX6_reliability 7 = .ok (.iconst 0, 1) := by decide +kernel
theorem dX6_reliability_8 : decode cX6_reliability 8 = .ok (.istore_n 2, 1) := by decide +kernel
theorem dX6_reliability_9 : decode cX6_reliability 9 = .ok (.iload_n 2, 1) := by decide +kernel
theorem dX6_reliability_10 : decode cX6_reliability 10 = .ok (.aload_n 0, 1) := by decide +kernel
theorem dX6_reliability_11 : decode cX6_reliability 11 = .ok (.getfield 7, 3) := by decide +kernel
theorem dX6_reliability_14 : decode cX6_reliability 14 = .ok (.bipush 9, 2) := by decide +kernel
theorem dX6_reliability_16 : decode cX6_reliability 16 = .ok (.iaload, 1) := by decide +kernel
theorem dX6_reliability_17 : decode cX6_reliability 17 = .ok (.if_icmp .ge 25, 3) := by decide +kernel
theorem dX6_reliability_20 : decode cX6_reliability 20 = .ok (.iload_n 1, 1) := by decide +kernel
theorem dX6_reliability_21 : decode cX6_reliability 21 = .ok (.aload_n 0, 1) := by decide +kernel
theorem dX6_reliability_22 : decode cX6_reliability 22 = .ok (.iload_n 2, 1) := by decide +kernel
theorem dX6_reliability_23 : decode cX6_reliability 23 = .ok (.invokevirtual 158, 3) := by decide +kernel
theorem dX6_reliability_26 : decode cX6_reliability 26 = .ok (.ifCond .eq 7, 3) := by decide +kernel
theorem dX6_reliability_29 : decode cX6_reliability 29 = .ok (.iconst 0, 1) := by decide +kernel
theorem dX6_reliability_30 : decode cX6_reliability 30 = .ok (.goto 4, 3) := by decide +kernel
theorem dX6_reliability_33 : decode cX6_reliability 33 = .ok (.iconst 1, 1) := by decide +kernel
theorem dX6_reliability_34 : decode cX6_reliability 34 = .ok (.iadd, 1) := by decide +kernel
theorem dX6_reliability_35 : decode cX6_reliability 35 = .ok (.istore_n 1, 1) := by decide +kernel
theorem dX6_reliability_36 : decode cX6_reliability 36 = .ok (.iinc 2 1, 3) := by decide +kernel
theorem dX6_reliability_39 : decode cX6_reliability 39 = .ok (.goto (-30), 3) := by decide +kernel
theorem dX6_reliability_42 : decode cX6_reliability 42 = .ok (.aload_n 0, 1) := by decide +kernel
theorem dX6_reliability_43 : decode cX6_reliability 43 = .ok (.getfield 7, 3) := by decide +kernel
theorem dX6_reliability_46 : decode cX6_reliability 46 = .ok (.bipush 9, 2) := by decide +kernel
theorem dX6_reliability_48 : decode cX6_reliability 48 = .ok (.iaload, 1) := by decide +kernel
theorem dX6_reliability_49 : decode cX6_reliability 49 = .ok (.ifCond .ne 7, 3) := by decide +kernel
theorem dX6_reliability_52 : decode cX6_reliability 52 = .ok (.dconst 1, 1) := by decide +kernel
theorem dX6_reliability_53 : decode cX6_reliability 53 = .ok (.goto 14, 3) := by decide +kernel
theorem dX6_reliability_56 : decode cX6_reliability 56 = .ok (.iload_n 1, 1) := by decide +kernel
theorem dX6_reliability_57 : decode cX6_reliability 57 = .ok (.i2d, 1) := by decide +kernel
theorem dX6_reliability_58 : decode cX6_reliability 58 = .ok (.aload_n 0, 1) := by decide +kernel
theorem dX6_reliability_59 : decode cX6_reliability 59 = .ok (.getfield 7, 3) := by decide +kernel
theorem dX6_reliability_62 : decode cX6_reliability 62 = .ok (.bipush 9, 2) := by decide +kernel
theorem dX6_reliability_64 : decode cX6_reliability 64 = .ok (.iaload, 1) := by decide +kernel
theorem dX6_reliability_65 : decode cX6_reliability 65 = .ok (.i2d, 1) := by decide +kernel
theorem dX6_reliability_66 : decode cX6_reliability 66 = .ok (.ddiv, 1) := by decide +kernel
theorem dX6_reliability_67 : decode cX6_reliability 67 = .ok (.dreturn, 1) := by decide +kernel
set_option maxRecDepth 20000 in
theorem ggX6_longestShortage_X6_wasShort : GoodIn wsX6_longestShortage wsX6_wasShort := goodIn_r _ [7, 2, 8, 9, 10, 11, 12, 13, 14, 15, 16, 17, 18, 19, 20] (by decide +kernel) (by decide +kernel)
set_option maxRecDepth 20000 in
theorem gX6_longestShortage_X6_wasShort : GoodIn wsX6_longestShortage (wsV RX6 158 RX6 yX6_wasShort wsX6_wasShort) := goodIn_app (goodIn_of _ (by decide +kernel)) ggX6_longestShortage_X6_wasShort
theorem dX6_longestShortage_0 : decode cX6_longestShortage 0 = .ok (.aload_n 0, 1) := by decide +kernel
theorem dX6_longestShortage_1 : decode cX6_longestShortage 1 = .ok (.iconst 0, 1) := by decide +kernel
theorem dX6_longestShortage_2 : decode cX6_longestShortage 2 = .ok (.putfield 26, 3) := by decide +kernel
theorem dX6_longestShortage_5 : decode cX6_longestShortage 5 = .ok (.iconst 0, 1) := by decide +kernel
theorem dX6_longestShortage_6 : decode cX6_longestShortage 6 = .ok (.istore_n 1, 1) := by decide +kernel
theorem dX6_longestShortage_7 : decode cX6_longestShortage 7 = .ok (.iconst 0, 1) := by decide +kernel
theorem dX6_longestShortage_8 : decode cX6_longestShortage 8 = .ok (.istore_n 2, 1) := by decide +kernel
theorem dX6_longestShortage_9 : decode cX6_longestShortage 9 = .ok (.iconst 0, 1) := by decide +kernel
theorem dX6_longestShortage_10 : decode cX6_longestShortage 10 = .ok (.istore_n 3, 1) := by decide +kernel
theorem dX6_longestShortage_11 : decode cX6_longestShortage 11 = .ok (.iload_n 3, 1) := by decide +kernel
theorem dX6_longestShortage_12 : decode cX6_longestShortage 12 = .ok (.aload_n 0, 1) := by decide +kernel
theorem dX6_longestShortage_13 : decode cX6_longestShortage 13 = .ok (.getfield 7, 3) := by decide +kernel
theorem dX6_longestShortage_16 : decode cX6_longestShortage 16 = .ok (.bipush 9, 2) := by decide +kernel
theorem dX6_longestShortage_18 : decode cX6_longestShortage 18 = .ok (.iaload, 1) := by decide +kernel
theorem dX6_longestShortage_19 : decode cX6_longestShortage 19 = .ok (.if_icmp .ge 36, 3) := by decide +kernel
theorem dX6_longestShortage_22 : decode cX6_longestShortage 22 = .ok (.aload_n 0, 1) := by decide +kernel
theorem dX6_longestShortage_23 : decode cX6_longestShortage 23 = .ok (.iload_n 3, 1) := by decide +kernel
theorem dX6_longestShortage_24 : decode cX6_longestShortage 24 = .ok (.invokevirtual 158, 3) := by decide +kernel
theorem dX6_longestShortage_27 : decode cX6_longestShortage 27 = .ok (.ifCond .eq 9, 3) := by decide +kernel
theorem dX6_longestShortage_30 : decode cX6_longestShortage 30 = .ok (.iload_n 2, 1) := by decide +kernel
theorem dX6_longestShortage_31 : decode cX6_longestShortage 31 = .ok (.iconst 1, 1) := by decide +kernel
theorem dX6_longestShortage_32 : decode cX6_longestShortage 32 = .ok (.iadd, 1) := by decide +kernel
theorem dX6_longestShortage_33 : decode cX6_longestShortage 33 = .ok (.goto 4, 3) := by decide +kernel
theorem dX6_longestShortage_36 : decode cX6_longestShortage 36 = .ok (.iconst 0, 1) := by decide +kernel
theorem dX6_longestShortage_37 : decode cX6_longestShortage 37 = .ok (.istore_n 2, 1) := by decide +kernel
theorem dX6_longestShortage_38 : decode cX6_longestShortage 38 = .ok (.iload_n 2, 1) := by decide +kernel
theorem dX6_longestShortage_39 : decode cX6_longestShortage 39 = .ok (.iload_n 1, 1) := by decide +kernel
theorem dX6_longestShortage_40 : decode cX6_longestShortage 40 = .ok (.if_icmp .le 7, 3) := by decide +kernel
theorem dX6_longestShortage_43 : decode cX6_longestShortage 43 = .ok (.iload_n 2, 1) := by decide +kernel
theorem dX6_longestShortage_44 : decode cX6_longestShortage 44 = .ok (.goto 4, 3) := by decide +kernel
theorem dX6_longestShortage_47 : decode cX6_longestShortage 47 = .ok (.iload_n 1, 1) := by decide +kernel
theorem dX6_longestShortage_48 : decode cX6_longestShortage 48 = .ok (.istore_n 1, 1) := by decide +kernel
theorem dX6_longestShortage_49 : decode cX6_longestShortage 49 = .ok (.iinc 3 1, 3) := by decide +kernel
theorem dX6_longestShortage_52 : decode cX6_longestShortage 52 = .ok (.goto (-41), 3) := by decide +kernel
theorem dX6_longestShortage_55 : decode cX6_longestShortage 55 = .ok (.iload_n 1, 1) := by decide +kernel
theorem dX6_longestShortage_56 : decode cX6_longestShortage 56 = .ok (.ireturn, 1) := by decide +kernel
set_option maxRecDepth 20000 in
theorem ggX6_shortDays_X6_goesBack : GoodIn wsX6_shortDays wsX6_goesBack := goodIn_r _ [7, 2, 8, 9, 6, 10, 11, 12, 13, 68, 69, 70, 71, 72, 73, 74, 75, 76, 77, 78, 79, 80] (by decide +kernel) (by decide +kernel)
set_option maxRecDepth 20000 in
theorem gX6_shortDays_X6_goesBack : GoodIn wsX6_shortDays (wsV RX6 151 RX6 yX6_goesBack wsX6_goesBack) := goodIn_app (goodIn_of _ (by decide +kernel)) ggX6_shortDays_X6_goesBack
set_option maxRecDepth 20000 in
theorem ggX6_shortDays_X6_does : GoodIn wsX6_shortDays wsX6_does := goodIn_r _ [17, 2, 18, 19, 20, 21, 6, 22, 23, 24, 25, 26, 8, 9, 10, 27, 28, 29, 30, 31, 32, 33, 34, 1, 35, 36, 37, 38, 39, 40, 41, 42, 43, 44, 45, 46, 47, 11, 12, 13, 48, 49, 50, 51, 52, 53, 54, 55, 56, 57, 58, 59, 60, 61, 62, 63, 64, 65, 66, 67, 68, 69, 70, 71, 72, 73, 74, 75, 76, 77, 78, 79, 80] (by decide +kernel) (by decide +kernel)
set_option maxRecDepth 20000 in
theorem gX6_shortDays_X6_does : GoodIn wsX6_shortDays (wsV RX6 147 RX6 yX6_does wsX6_does) := goodIn_app (goodIn_of _ (by decide +kernel)) ggX6_shortDays_X6_does
theorem dX6_shortDays_0 : decode cX6_shortDays 0 = .ok (.aload_n 0, 1) := by decide +kernel
theorem dX6_shortDays_1 : decode cX6_shortDays 1 = .ok (.invokevirtual 151, 3) := by decide +kernel
theorem dX6_shortDays_4 : decode cX6_shortDays 4 = .ok (.iconst 0, 1) := by decide +kernel
theorem dX6_shortDays_5 : decode cX6_shortDays 5 = .ok (.istore_n 1, 1) := by decide +kernel
theorem dX6_shortDays_6 : decode cX6_shortDays 6 = .ok (.iload_n 1, 1) := by decide +kernel
theorem dX6_shortDays_7 : decode cX6_shortDays 7 = .ok (.bipush 6, 2) := by decide +kernel
theorem dX6_shortDays_9 : decode cX6_shortDays 9 = .ok (.if_icmp .ge 16, 3) := by decide +kernel
theorem dX6_shortDays_12 : decode cX6_shortDays 12 = .ok (.aload_n 0, 1) := by decide +kernel
theorem dX6_shortDays_13 : decode cX6_shortDays 13 = .ok (.getfield 19, 3) := by decide +kernel
theorem dX6_shortDays_16 : decode cX6_shortDays 16 = .ok (.iload_n 1, 1) := by decide +kernel
theorem dX6_shortDays_17 : decode cX6_shortDays 17 = .ok (.lconst 0, 1) := by decide +kernel
theorem dX6_shortDays_18 : decode cX6_shortDays 18 = .ok (.lastore, 1) := by decide +kernel
theorem dX6_shortDays_19 : decode cX6_shortDays 19 = .ok (.iinc 1 1, 3) := by decide +kernel
theorem dX6_shortDays_22 : decode cX6_shortDays 22 = .ok (.goto (-16), 3) := by decide +kernel
theorem dX6_shortDays_25 : decode cX6_shortDays 25 = .ok (.iconst 0, 1) := by decide +kernel
theorem dX6_shortDays_26 : decode cX6_shortDays 26 = .ok (.istore_n 1, 1) := by decide +kernel
theorem dX6_shortDays_27 : decode cX6_shortDays 27 = .ok (.aload_n 0, 1) := by decide +kernel
theorem dX6_shortDays_28 : decode cX6_shortDays 28 = .ok (.getfield 7, 3) := by decide +kernel
theorem dX6_shortDays_31 : decode cX6_shortDays 31 = .ok (.bipush 9, 2) := by decide +kernel
theorem dX6_shortDays_33 : decode cX6_shortDays 33 = .ok (.iaload, 1) := by decide +kernel
theorem dX6_shortDays_34 : decode cX6_shortDays 34 = .ok (.aload_n 0, 1) := by decide +kernel
theorem dX6_shortDays_35 : decode cX6_shortDays 35 = .ok (.getfield 7, 3) := by decide +kernel
theorem dX6_shortDays_38 : decode cX6_shortDays 38 = .ok (.bipush 8, 2) := by decide +kernel
theorem dX6_shortDays_40 : decode cX6_shortDays 40 = .ok (.iaload, 1) := by decide +kernel
theorem dX6_shortDays_41 : decode cX6_shortDays 41 = .ok (.if_icmp .ge 21, 3) := by decide +kernel
theorem dX6_shortDays_44 : decode cX6_shortDays 44 = .ok (.iload_n 1, 1) := by decide +kernel
theorem dX6_shortDays_45 : decode cX6_shortDays 45 = .ok (.aload_n 0, 1) := by decide +kernel
theorem dX6_shortDays_46 : decode cX6_shortDays 46 = .ok (.invokevirtual 147, 3) := by decide +kernel
theorem dX6_shortDays_49 : decode cX6_shortDays 49 = .ok (.ifCond .eq 7, 3) := by decide +kernel
theorem dX6_shortDays_52 : decode cX6_shortDays 52 = .ok (.iconst 1, 1) := by decide +kernel
theorem dX6_shortDays_53 : decode cX6_shortDays 53 = .ok (.goto 4, 3) := by decide +kernel
theorem dX6_shortDays_56 : decode cX6_shortDays 56 = .ok (.iconst 0, 1) := by decide +kernel
theorem dX6_shortDays_57 : decode cX6_shortDays 57 = .ok (.iadd, 1) := by decide +kernel
theorem dX6_shortDays_58 : decode cX6_shortDays 58 = .ok (.istore_n 1, 1) := by decide +kernel
theorem dX6_shortDays_59 : decode cX6_shortDays 59 = .ok (.goto (-32), 3) := by decide +kernel
theorem dX6_shortDays_62 : decode cX6_shortDays 62 = .ok (.iload_n 1, 1) := by decide +kernel
theorem dX6_shortDays_63 : decode cX6_shortDays 63 = .ok (.ireturn, 1) := by decide +kernel
set_option maxRecDepth 20000 in
theorem ggX6_shortWith_X6_shortDays : GoodIn wsX6_shortWith wsX6_shortDays := goodIn_r _ [6, 7, 1, 8, 9, 10, 5, 11, 12, 13, 14, 15, 16, 17, 18, 19, 20, 21, 22, 23, 24, 25, 26, 27, 28, 29, 30, 31, 32, 33, 34, 35, 36, 37, 38, 39, 40, 41, 42, 43, 44, 45, 46, 47, 48, 49, 50, 51, 52, 53, 54, 55, 56, 57, 58, 59, 60, 61, 62, 63, 64, 65, 66, 67, 68, 69, 70, 71, 77, 78, 79, 80, 81, 82, 83, 84, 85, 86, 87, 88, 89] (by decide +kernel) (by decide +kernel)
set_option maxRecDepth 20000 in
theorem gX6_shortWith_X6_shortDays : GoodIn wsX6_shortWith (wsV RX6 161 RX6 yX6_shortDays wsX6_shortDays) := goodIn_app (goodIn_of _ (by decide +kernel)) ggX6_shortWith_X6_shortDays
set_option maxRecDepth 20000 in
theorem ggX6_shortWith_X6_takesBack : GoodIn wsX6_shortWith wsX6_takesBack := goodIn_r _ [75, 1, 76, 77, 78, 79, 80, 81, 82, 83, 84, 85, 86, 87, 88, 89] (by decide +kernel) (by decide +kernel)
set_option maxRecDepth 20000 in
theorem gX6_shortWith_X6_takesBack : GoodIn wsX6_shortWith (wsV RX6 164 RX6 yX6_takesBack wsX6_takesBack) := goodIn_app (goodIn_of _ (by decide +kernel)) ggX6_shortWith_X6_takesBack
theorem dX6_shortWith_0 : decode cX6_shortWith 0 = .ok (.aload_n 0, 1) := by decide +kernel
theorem dX6_shortWith_1 : decode cX6_shortWith 1 = .ok (.getfield 7, 3) := by decide +kernel
theorem dX6_shortWith_4 : decode cX6_shortWith 4 = .ok (.iconst 0, 1) := by decide +kernel
theorem dX6_shortWith_5 : decode cX6_shortWith 5 = .ok (.iload_n 1, 1) := by decide +kernel
theorem dX6_shortWith_6 : decode cX6_shortWith 6 = .ok (.iastore, 1) := by decide +kernel
theorem dX6_shortWith_7 : decode cX6_shortWith 7 = .ok (.aload_n 0, 1) := by decide +kernel
theorem dX6_shortWith_8 : decode cX6_shortWith 8 = .ok (.getfield 7, 3) := by decide +kernel
theorem dX6_shortWith_11 : decode cX6_shortWith 11 = .ok (.iconst 1, 1) := by decide +kernel
theorem dX6_shortWith_12 : decode cX6_shortWith 12 = .ok (.aload_n 0, 1) := by decide +kernel
theorem dX6_shortWith_13 : decode cX6_shortWith 13 = .ok (.getfield 7, 3) := by decide +kernel
theorem dX6_shortWith_16 : decode cX6_shortWith 16 = .ok (.iconst 1, 1) := by decide +kernel
theorem dX6_shortWith_17 : decode cX6_shortWith 17 = .ok (.iaload, 1) := by decide +kernel
theorem dX6_shortWith_18 : decode cX6_shortWith 18 = .ok (.iload_n 1, 1) := by decide +kernel
theorem dX6_shortWith_19 : decode cX6_shortWith 19 = .ok (.if_icmp .ge 12, 3) := by decide +kernel
theorem dX6_shortWith_22 : decode cX6_shortWith 22 = .ok (.aload_n 0, 1) := by decide +kernel
theorem dX6_shortWith_23 : decode cX6_shortWith 23 = .ok (.getfield 7, 3) := by decide +kernel
theorem dX6_shortWith_26 : decode cX6_shortWith 26 = .ok (.iconst 1, 1) := by decide +kernel
theorem dX6_shortWith_27 : decode cX6_shortWith 27 = .ok (.iaload, 1) := by decide +kernel
theorem dX6_shortWith_28 : decode cX6_shortWith 28 = .ok (.goto 4, 3) := by decide +kernel
theorem dX6_shortWith_31 : decode cX6_shortWith 31 = .ok (.iload_n 1, 1) := by decide +kernel
theorem dX6_shortWith_32 : decode cX6_shortWith 32 = .ok (.iastore, 1) := by decide +kernel
theorem dX6_shortWith_33 : decode cX6_shortWith 33 = .ok (.aload_n 0, 1) := by decide +kernel
theorem dX6_shortWith_34 : decode cX6_shortWith 34 = .ok (.getfield 7, 3) := by decide +kernel
theorem dX6_shortWith_37 : decode cX6_shortWith 37 = .ok (.iconst 2, 1) := by decide +kernel
theorem dX6_shortWith_38 : decode cX6_shortWith 38 = .ok (.aload_n 0, 1) := by decide +kernel
theorem dX6_shortWith_39 : decode cX6_shortWith 39 = .ok (.getfield 7, 3) := by decide +kernel
theorem dX6_shortWith_42 : decode cX6_shortWith 42 = .ok (.iconst 2, 1) := by decide +kernel
theorem dX6_shortWith_43 : decode cX6_shortWith 43 = .ok (.iaload, 1) := by decide +kernel
theorem dX6_shortWith_44 : decode cX6_shortWith 44 = .ok (.iload_n 1, 1) := by decide +kernel
theorem dX6_shortWith_45 : decode cX6_shortWith 45 = .ok (.if_icmp .ge 12, 3) := by decide +kernel
theorem dX6_shortWith_48 : decode cX6_shortWith 48 = .ok (.aload_n 0, 1) := by decide +kernel
theorem dX6_shortWith_49 : decode cX6_shortWith 49 = .ok (.getfield 7, 3) := by decide +kernel
theorem dX6_shortWith_52 : decode cX6_shortWith 52 = .ok (.iconst 2, 1) := by decide +kernel
theorem dX6_shortWith_53 : decode cX6_shortWith 53 = .ok (.iaload, 1) := by decide +kernel
theorem dX6_shortWith_54 : decode cX6_shortWith 54 = .ok (.goto 4, 3) := by decide +kernel
theorem dX6_shortWith_57 : decode cX6_shortWith 57 = .ok (.iload_n 1, 1) := by decide +kernel
theorem dX6_shortWith_58 : decode cX6_shortWith 58 = .ok (.iastore, 1) := by decide +kernel
theorem dX6_shortWith_59 : decode cX6_shortWith 59 = .ok (.aload_n 0, 1) := by decide +kernel
theorem dX6_shortWith_60 : decode cX6_shortWith 60 = .ok (.invokevirtual 161, 3) := by decide +kernel
theorem dX6_shortWith_63 : decode cX6_shortWith 63 = .ok (.istore_n 2, 1) := by decide +kernel
theorem dX6_shortWith_64 : decode cX6_shortWith 64 = .ok (.aload_n 0, 1) := by decide +kernel
theorem dX6_shortWith_65 : decode cX6_shortWith 65 = .ok (.invokevirtual 164, 3) := by decide +kernel
theorem dX6_shortWith_68 : decode cX6_shortWith 68 = .ok (.iload_n 2, 1) := by decide +kernel
theorem dX6_shortWith_69 : decode cX6_shortWith 69 = .ok (.ireturn, 1) := by decide +kernel
set_option maxRecDepth 20000 in
theorem ggX6_shortDaysWith_X6_in : GoodIn wsX6_shortDaysWith wsX6_in := goodIn_r _ [6] (by decide +kernel) (by decide +kernel)
set_option maxRecDepth 20000 in
theorem gX6_shortDaysWith_X6_in : GoodIn wsX6_shortDaysWith (va_wsS RX6 40 yX6_in wsX6_in) := goodIn_app (goodIn_of _ (by decide +kernel)) ggX6_shortDaysWith_X6_in
set_option maxRecDepth 20000 in
theorem ggX6_shortDaysWith_X6_goes : GoodIn wsX6_shortDaysWith wsX6_goes := goodIn_r _ [10, 11, 95, 96, 97, 98, 99, 100, 101, 102, 103, 104, 105, 106, 107] (by decide +kernel) (by decide +kernel)
set_option maxRecDepth 20000 in
theorem gX6_shortDaysWith_X6_goes : GoodIn wsX6_shortDaysWith (wsV RX6 52 RX6 yX6_goes wsX6_goes) := goodIn_app (goodIn_of _ (by decide +kernel)) ggX6_shortDaysWith_X6_goes
set_option maxRecDepth 20000 in
theorem ggX6_shortDaysWith_X6_lays : GoodIn wsX6_shortDaysWith wsX6_lays := goodIn_r _ [15, 16, 17, 95, 96, 97, 98, 99, 100, 101, 102, 103, 104, 105, 106, 107] (by decide +kernel) (by decide +kernel)
set_option maxRecDepth 20000 in
theorem gX6_shortDaysWith_X6_lays : GoodIn wsX6_shortDaysWith (wsV RX6 167 RX6 yX6_lays wsX6_lays) := goodIn_app (goodIn_of _ (by decide +kernel)) ggX6_shortDaysWith_X6_lays
set_option maxRecDepth 20000 in
theorem ggX6_shortDaysWith_X6_shortWith : GoodIn wsX6_shortDaysWith wsX6_shortWith := goodIn_r _ [21, 17, 22, 23, 24, 5, 25, 26, 27, 28, 29, 30, 31, 32, 33, 34, 35, 36, 37, 38, 39, 40, 41, 42, 43, 44, 45, 46, 47, 48, 49, 50, 51, 52, 53, 54, 55, 56, 57, 58, 59, 60, 61, 62, 63, 64, 65, 66, 67, 68, 69, 70, 71, 72, 73, 74, 75, 76, 77, 78, 79, 80, 81, 82, 83, 84, 85, 86, 87, 88, 89, 90, 91, 92, 93, 94, 16, 95, 96, 97, 98, 99, 100, 101, 102, 103, 104, 105, 106, 107] (by decide +kernel) (by decide +kernel)
set_option maxRecDepth 20000 in
theorem gX6_shortDaysWith_X6_shortWith : GoodIn wsX6_shortDaysWith (wsV RX6 170 RX6 yX6_shortWith wsX6_shortWith) := goodIn_app (goodIn_of _ (by decide +kernel)) ggX6_shortDaysWith_X6_shortWith
theorem dX6_shortDaysWith_0 : decode cX6_shortDaysWith 0 = .ok (.aload_n 0, 1) := by decide +kernel
theorem dX6_shortDaysWith_1 : decode cX6_shortDaysWith 1 = .ok (.iload_n 1, 1) := by decide +kernel
theorem dX6_shortDaysWith_2 : decode cX6_shortDaysWith 2 = .ok (.i2l, 1) := by decide +kernel
theorem dX6_shortDaysWith_3 : decode cX6_shortDaysWith 3 = .ok (.ldc2_w 46, 3) := by decide +kernel
theorem dX6_shortDaysWith_6 : decode cX6_shortDaysWith 6 = .ok (.ldc2_w 70, 3) := by decide +kernel
theorem dX6_shortDaysWith_9 : decode cX6_shortDaysWith 9 = .ok (.invokestatic 40, 3) := by decide +kernel
theorem dX6_shortDaysWith_12 : decode cX6_shortDaysWith 12 = .ok (.iconst 1, 1) := by decide +kernel
theorem dX6_shortDaysWith_13 : decode cX6_shortDaysWith 13 = .ok (.invokevirtual 52, 3) := by decide +kernel
theorem dX6_shortDaysWith_16 : decode cX6_shortDaysWith 16 = .ok (.ifCond .ne 5, 3) := by decide +kernel
theorem dX6_shortDaysWith_19 : decode cX6_shortDaysWith 19 = .ok (.iconst 0, 1) := by decide +kernel
theorem dX6_shortDaysWith_20 : decode cX6_shortDaysWith 20 = .ok (.ireturn, 1) := by decide +kernel
theorem dX6_shortDaysWith_21 : decode cX6_shortDaysWith 21 = .ok (.aload_n 0, 1) := by decide +kernel
theorem dX6_shortDaysWith_22 : decode cX6_shortDaysWith 22 = .ok (.invokevirtual 167, 3) := by decide +kernel
theorem dX6_shortDaysWith_25 : decode cX6_shortDaysWith 25 = .ok (.aload_n 0, 1) := by decide +kernel
theorem dX6_shortDaysWith_26 : decode cX6_shortDaysWith 26 = .ok (.iload_n 1, 1) := by decide +kernel
theorem dX6_shortDaysWith_27 : decode cX6_shortDaysWith 27 = .ok (.invokevirtual 170, 3) := by decide +kernel
theorem dX6_shortDaysWith_30 : decode cX6_shortDaysWith 30 = .ok (.ireturn, 1) := by decide +kernel
set_option maxRecDepth 20000 in
theorem ggX6_capacityFor_X6_in : GoodIn wsX6_capacityFor wsX6_in := goodIn_r _ [6] (by decide +kernel) (by decide +kernel)
set_option maxRecDepth 20000 in
theorem gX6_capacityFor_X6_in : GoodIn wsX6_capacityFor (va_wsS RX6 40 yX6_in wsX6_in) := goodIn_app (goodIn_of _ (by decide +kernel)) ggX6_capacityFor_X6_in
set_option maxRecDepth 20000 in
theorem ggX6_capacityFor_X6_goes : GoodIn wsX6_capacityFor wsX6_goes := goodIn_r _ [10, 11, 95, 96, 97, 98, 99, 100, 101, 102, 103, 104, 105, 106, 107] (by decide +kernel) (by decide +kernel)
set_option maxRecDepth 20000 in
theorem gX6_capacityFor_X6_goes : GoodIn wsX6_capacityFor (wsV RX6 52 RX6 yX6_goes wsX6_goes) := goodIn_app (goodIn_of _ (by decide +kernel)) ggX6_capacityFor_X6_goes
set_option maxRecDepth 20000 in
theorem ggX6_capacityFor_X6_lays : GoodIn wsX6_capacityFor wsX6_lays := goodIn_r _ [15, 16, 17, 95, 96, 97, 98, 99, 100, 101, 102, 103, 104, 105, 106, 107] (by decide +kernel) (by decide +kernel)
set_option maxRecDepth 20000 in
theorem gX6_capacityFor_X6_lays : GoodIn wsX6_capacityFor (wsV RX6 167 RX6 yX6_lays wsX6_lays) := goodIn_app (goodIn_of _ (by decide +kernel)) ggX6_capacityFor_X6_lays
set_option maxRecDepth 20000 in
theorem ggX6_capacityFor_X6_shortWith : GoodIn wsX6_capacityFor wsX6_shortWith := goodIn_r _ [21, 17, 22, 23, 24, 5, 25, 26, 27, 28, 29, 30, 31, 32, 33, 34, 35, 36, 37, 38, 39, 40, 41, 42, 43, 44, 45, 46, 47, 48, 49, 50, 51, 52, 53, 54, 55, 56, 57, 58, 59, 60, 61, 62, 63, 64, 65, 66, 67, 68, 69, 70, 71, 72, 73, 74, 75, 76, 77, 78, 79, 80, 81, 82, 83, 84, 85, 86, 87, 88, 89, 90, 91, 92, 93, 94, 16, 95, 96, 97, 98, 99, 100, 101, 102, 103, 104, 105, 106, 107] (by decide +kernel) (by decide +kernel)
set_option maxRecDepth 20000 in
theorem gX6_capacityFor_X6_shortWith : GoodIn wsX6_capacityFor (wsV RX6 170 RX6 yX6_shortWith wsX6_shortWith) := goodIn_app (goodIn_of _ (by decide +kernel)) ggX6_capacityFor_X6_shortWith
theorem dX6_capacityFor_0 : decode cX6_capacityFor 0 = .ok (.aload_n 0, 1) := by decide +kernel
theorem dX6_capacityFor_1 : decode cX6_capacityFor 1 = .ok (.iload_n 1, 1) := by decide +kernel
theorem dX6_capacityFor_2 : decode cX6_capacityFor 2 = .ok (.i2l, 1) := by decide +kernel
theorem dX6_capacityFor_3 : decode cX6_capacityFor 3 = .ok (.lconst 0, 1) := by decide +kernel
theorem dX6_capacityFor_4 : decode cX6_capacityFor 4 = .ok (.ldc2_w 46, 3) := by decide +kernel
theorem dX6_capacityFor_7 : decode cX6_capacityFor 7 = .ok (.invokestatic 40, 3) := by decide +kernel
theorem dX6_capacityFor_10 : decode cX6_capacityFor 10 = .ok (.iconst 1, 1) := by decide +kernel
theorem dX6_capacityFor_11 : decode cX6_capacityFor 11 = .ok (.invokevirtual 52, 3) := by decide +kernel
theorem dX6_capacityFor_14 : decode cX6_capacityFor 14 = .ok (.ifCond .ne 5, 3) := by decide +kernel
theorem dX6_capacityFor_17 : decode cX6_capacityFor 17 = .ok (.iconst 0, 1) := by decide +kernel
theorem dX6_capacityFor_18 : decode cX6_capacityFor 18 = .ok (.ireturn, 1) := by decide +kernel
theorem dX6_capacityFor_19 : decode cX6_capacityFor 19 = .ok (.aload_n 0, 1) := by decide +kernel
theorem dX6_capacityFor_20 : decode cX6_capacityFor 20 = .ok (.invokevirtual 167, 3) := by decide +kernel
theorem dX6_capacityFor_23 : decode cX6_capacityFor 23 = .ok (.sipush 500, 3) := by decide +kernel
theorem dX6_capacityFor_26 : decode cX6_capacityFor 26 = .ok (.istore_n 2, 1) := by decide +kernel
theorem dX6_capacityFor_27 : decode cX6_capacityFor 27 = .ok (.iload_n 2, 1) := by decide +kernel
theorem dX6_capacityFor_28 : decode cX6_capacityFor 28 = .ok (.ldc 173, 2) := by decide +kernel
theorem dX6_capacityFor_30 : decode cX6_capacityFor 30 = .ok (.if_icmp .gt 21, 3) := by decide +kernel
theorem dX6_capacityFor_33 : decode cX6_capacityFor 33 = .ok (.aload_n 0, 1) := by decide +kernel
theorem dX6_capacityFor_34 : decode cX6_capacityFor 34 = .ok (.iload_n 2, 1) := by decide +kernel
theorem dX6_capacityFor_35 : decode cX6_capacityFor 35 = .ok (.invokevirtual 170, 3) := by decide +kernel
theorem dX6_capacityFor_38 : decode cX6_capacityFor 38 = .ok (.iload_n 1, 1) := by decide +kernel
theorem dX6_capacityFor_39 : decode cX6_capacityFor 39 = .ok (.if_icmp .le 12, 3) := by decide +kernel
theorem dX6_capacityFor_42 : decode cX6_capacityFor 42 = .ok (.iinc 2 500, 6) := by decide +kernel
theorem dX6_capacityFor_48 : decode cX6_capacityFor 48 = .ok (.goto (-21), 3) := by decide +kernel
theorem dX6_capacityFor_51 : decode cX6_capacityFor 51 = .ok (.iload_n 2, 1) := by decide +kernel
theorem dX6_capacityFor_52 : decode cX6_capacityFor 52 = .ok (.ldc 173, 2) := by decide +kernel
theorem dX6_capacityFor_54 : decode cX6_capacityFor 54 = .ok (.if_icmp .gt 7, 3) := by decide +kernel
theorem dX6_capacityFor_57 : decode cX6_capacityFor 57 = .ok (.iload_n 2, 1) := by decide +kernel
theorem dX6_capacityFor_58 : decode cX6_capacityFor 58 = .ok (.goto 4, 3) := by decide +kernel
theorem dX6_capacityFor_61 : decode cX6_capacityFor 61 = .ok (.iconst (-1), 1) := by decide +kernel
theorem dX6_capacityFor_62 : decode cX6_capacityFor 62 = .ok (.ireturn, 1) := by decide +kernel
set_option maxRecDepth 20000 in
theorem ggX6_mostLack_X6_ofUser : GoodIn wsX6_mostLack wsX6_ofUser := goodIn_r _ [6, 1, 7, 8, 5, 9, 10, 11, 12, 13, 14, 15, 16, 17, 18, 19, 20, 21, 22] (by decide +kernel) (by decide +kernel)
set_option maxRecDepth 20000 in
theorem gX6_mostLack_X6_ofUser : GoodIn wsX6_mostLack (wsV RX6 67 RX6 yX6_ofUser wsX6_ofUser) := goodIn_app (goodIn_of _ (by decide +kernel)) ggX6_mostLack_X6_ofUser
theorem dX6_mostLack_0 : decode cX6_mostLack 0 = .ok (.iconst 0, 1) := by decide +kernel
theorem dX6_mostLack_1 : decode cX6_mostLack 1 = .ok (.istore_n 1, 1) := by decide +kernel
theorem dX6_mostLack_2 : decode cX6_mostLack 2 = .ok (.iconst 0, 1) := by decide +kernel
theorem dX6_mostLack_3 : decode cX6_mostLack 3 = .ok (.istore_n 2, 1) := by decide +kernel
theorem dX6_mostLack_4 : decode cX6_mostLack 4 = .ok (.iload_n 2, 1) := by decide +kernel
theorem dX6_mostLack_5 : decode cX6_mostLack 5 = .ok (.aload_n 0, 1) := by decide +kernel
theorem dX6_mostLack_6 : decode cX6_mostLack 6 = .ok (.getfield 7, 3) := by decide +kernel
theorem dX6_mostLack_9 : decode cX6_mostLack 9 = .ok (.bipush 7, 2) := by decide +kernel
theorem dX6_mostLack_11 : decode cX6_mostLack 11 = .ok (.iaload, 1) := by decide +kernel
theorem dX6_mostLack_12 : decode cX6_mostLack 12 = .ok (.if_icmp .ge 42, 3) := by decide +kernel
theorem dX6_mostLack_15 : decode cX6_mostLack 15 = .ok (.aload_n 0, 1) := by decide +kernel
theorem dX6_mostLack_16 : decode cX6_mostLack 16 = .ok (.iload_n 2, 1) := by decide +kernel
theorem dX6_mostLack_17 : decode cX6_mostLack 17 = .ok (.iconst 0, 1) := by decide +kernel
theorem dX6_mostLack_18 : decode cX6_mostLack 18 = .ok (.invokevirtual 67, 3) := by decide +kernel
theorem dX6_mostLack_21 : decode cX6_mostLack 21 = .ok (.aload_n 0, 1) := by decide +kernel
theorem dX6_mostLack_22 : decode cX6_mostLack 22 = .ok (.getfield 7, 3) := by decide +kernel
theorem dX6_mostLack_25 : decode cX6_mostLack 25 = .ok (.bipush 8, 2) := by decide +kernel
theorem dX6_mostLack_27 : decode cX6_mostLack 27 = .ok (.iaload, 1) := by decide +kernel
theorem dX6_mostLack_28 : decode cX6_mostLack 28 = .ok (.imul, 1) := by decide +kernel
theorem dX6_mostLack_29 : decode cX6_mostLack 29 = .ok (.aload_n 0, 1) := by decide +kernel
theorem dX6_mostLack_30 : decode cX6_mostLack 30 = .ok (.iload_n 2, 1) := by decide +kernel
theorem dX6_mostLack_31 : decode cX6_mostLack 31 = .ok (.iconst 3, 1) := by decide +kernel
theorem dX6_mostLack_32 : decode cX6_mostLack 32 = .ok (.invokevirtual 67, 3) := by decide +kernel
theorem dX6_mostLack_35 : decode cX6_mostLack 35 = .ok (.isub, 1) := by decide +kernel
theorem dX6_mostLack_36 : decode cX6_mostLack 36 = .ok (.istore_n 3, 1) := by decide +kernel
theorem dX6_mostLack_37 : decode cX6_mostLack 37 = .ok (.iload_n 3, 1) := by decide +kernel
theorem dX6_mostLack_38 : decode cX6_mostLack 38 = .ok (.iload_n 1, 1) := by decide +kernel
theorem dX6_mostLack_39 : decode cX6_mostLack 39 = .ok (.if_icmp .le 7, 3) := by decide +kernel
theorem dX6_mostLack_42 : decode cX6_mostLack 42 = .ok (.iload_n 3, 1) := by decide +kernel
theorem dX6_mostLack_43 : decode cX6_mostLack 43 = .ok (.goto 4, 3) := by decide +kernel
theorem dX6_mostLack_46 : decode cX6_mostLack 46 = .ok (.iload_n 1, 1) := by decide +kernel
theorem dX6_mostLack_47 : decode cX6_mostLack 47 = .ok (.istore_n 1, 1) := by decide +kernel
theorem dX6_mostLack_48 : decode cX6_mostLack 48 = .ok (.iinc 2 1, 3) := by decide +kernel
theorem dX6_mostLack_51 : decode cX6_mostLack 51 = .ok (.goto (-47), 3) := by decide +kernel
theorem dX6_mostLack_54 : decode cX6_mostLack 54 = .ok (.iload_n 1, 1) := by decide +kernel
theorem dX6_mostLack_55 : decode cX6_mostLack 55 = .ok (.ireturn, 1) := by decide +kernel
set_option maxRecDepth 20000 in
theorem ggX6_bestRule_X6_lays : GoodIn wsX6_bestRule wsX6_lays := goodIn_r _ [7, 8, 2, 86, 87, 88, 89, 90, 91, 92, 93, 94, 95, 96, 97, 98] (by decide +kernel) (by decide +kernel)
set_option maxRecDepth 20000 in
theorem gX6_bestRule_X6_lays : GoodIn wsX6_bestRule (wsV RX6 167 RX6 yX6_lays wsX6_lays) := goodIn_app (goodIn_of _ (by decide +kernel)) ggX6_bestRule_X6_lays
set_option maxRecDepth 20000 in
theorem ggX6_bestRule_X6_shortDays : GoodIn wsX6_bestRule wsX6_shortDays := goodIn_r _ [12, 13, 2, 14, 15, 16, 6, 17, 18, 19, 20, 21, 22, 23, 24, 25, 26, 27, 28, 29, 30, 31, 32, 33, 34, 35, 36, 37, 38, 39, 40, 41, 42, 43, 44, 45, 46, 47, 48, 49, 50, 51, 52, 53, 54, 55, 56, 57, 58, 59, 60, 61, 62, 63, 64, 65, 66, 67, 68, 69, 70, 71, 72, 73, 74, 75, 76, 77, 86, 87, 88, 89, 90, 91, 92, 93, 94, 95, 96, 97, 98] (by decide +kernel) (by decide +kernel)
set_option maxRecDepth 20000 in
theorem gX6_bestRule_X6_shortDays : GoodIn wsX6_bestRule (wsV RX6 161 RX6 yX6_shortDays wsX6_shortDays) := goodIn_app (goodIn_of _ (by decide +kernel)) ggX6_bestRule_X6_shortDays
set_option maxRecDepth 20000 in
theorem ggX6_bestRule_X6_mostLack : GoodIn wsX6_bestRule wsX6_mostLack := goodIn_r _ [81, 2, 54, 55, 56, 6, 57, 21, 22, 23, 86, 87, 88, 89, 90, 91, 92, 93, 94, 95, 96, 97, 98] (by decide +kernel) (by decide +kernel)
set_option maxRecDepth 20000 in
theorem gX6_bestRule_X6_mostLack : GoodIn wsX6_bestRule (wsV RX6 174 RX6 yX6_mostLack wsX6_mostLack) := goodIn_app (goodIn_of _ (by decide +kernel)) ggX6_bestRule_X6_mostLack
set_option maxRecDepth 20000 in
theorem ggX6_bestRule_X6_takesBack : GoodIn wsX6_bestRule wsX6_takesBack := goodIn_r _ [85, 2, 8, 86, 87, 88, 89, 90, 91, 92, 93, 94, 95, 96, 97, 98] (by decide +kernel) (by decide +kernel)
set_option maxRecDepth 20000 in
theorem gX6_bestRule_X6_takesBack : GoodIn wsX6_bestRule (wsV RX6 164 RX6 yX6_takesBack wsX6_takesBack) := goodIn_app (goodIn_of _ (by decide +kernel)) ggX6_bestRule_X6_takesBack
theorem dX6_bestRule_0 : decode cX6_bestRule 0 = .ok (.aload_n 0, 1) := by decide +kernel
theorem dX6_bestRule_1 : decode cX6_bestRule 1 = .ok (.iconst 0, 1) := by decide +kernel
theorem dX6_bestRule_2 : decode cX6_bestRule 2 = .ok (.putfield 26, 3) := by decide +kernel
theorem dX6_bestRule_5 : decode cX6_bestRule 5 = .ok (.aload_n 0, 1) := by decide +kernel
theorem dX6_bestRule_6 : decode cX6_bestRule 6 = .ok (.invokevirtual 167, 3) := by decide +kernel
theorem dX6_bestRule_9 : decode cX6_bestRule 9 = .ok (.iconst (-1), 1) := by decide +kernel
theorem dX6_bestRule_10 : decode cX6_bestRule 10 = .ok (.istore_n 1, 1) := by decide +kernel
theorem dX6_bestRule_11 : decode cX6_bestRule 11 = .ok (.iconst 0, 1) := by decide +kernel
theorem dX6_bestRule_12 : decode cX6_bestRule 12 = .ok (.istore_n 2, 1) := by decide +kernel
theorem dX6_bestRule_13 : decode cX6_bestRule 13 = .ok (.iconst 0, 1) := by decide +kernel
theorem dX6_bestRule_14 : decode cX6_bestRule 14 = .ok (.istore_n 3, 1) := by decide +kernel
theorem dX6_bestRule_15 : decode cX6_bestRule 15 = .ok (.iload_n 3, 1) := by decide +kernel
theorem dX6_bestRule_16 : decode cX6_bestRule 16 = .ok (.iconst 4, 1) := by decide +kernel
theorem dX6_bestRule_17 : decode cX6_bestRule 17 = .ok (.if_icmp .ge 73, 3) := by decide +kernel
theorem dX6_bestRule_20 : decode cX6_bestRule 20 = .ok (.aload_n 0, 1) := by decide +kernel
theorem dX6_bestRule_21 : decode cX6_bestRule 21 = .ok (.getfield 7, 3) := by decide +kernel
theorem dX6_bestRule_24 : decode cX6_bestRule 24 = .ok (.iconst 5, 1) := by decide +kernel
theorem dX6_bestRule_25 : decode cX6_bestRule 25 = .ok (.iload_n 3, 1) := by decide +kernel
theorem dX6_bestRule_26 : decode cX6_bestRule 26 = .ok (.iastore, 1) := by decide +kernel
theorem dX6_bestRule_27 : decode cX6_bestRule 27 = .ok (.aload_n 0, 1) := by decide +kernel
theorem dX6_bestRule_28 : decode cX6_bestRule 28 = .ok (.invokevirtual 161, 3) := by decide +kernel
theorem dX6_bestRule_31 : decode cX6_bestRule 31 = .ok (.istore 4, 2) := by decide +kernel
theorem dX6_bestRule_33 : decode cX6_bestRule 33 = .ok (.aload_n 0, 1) := by decide +kernel
theorem dX6_bestRule_34 : decode cX6_bestRule 34 = .ok (.invokevirtual 174, 3) := by decide +kernel
theorem dX6_bestRule_37 : decode cX6_bestRule 37 = .ok (.istore 5, 2) := by decide +kernel
theorem dX6_bestRule_39 : decode cX6_bestRule 39 = .ok (.aload_n 0, 1) := by decide +kernel
theorem dX6_bestRule_40 : decode cX6_bestRule 40 = .ok (.invokevirtual 164, 3) := by decide +kernel
theorem dX6_bestRule_43 : decode cX6_bestRule 43 = .ok (.iload_n 1, 1) := by decide +kernel
theorem dX6_bestRule_44 : decode cX6_bestRule 44 = .ok (.iconst (-1), 1) := by decide +kernel
theorem dX6_bestRule_45 : decode cX6_bestRule 45 = .ok (.if_icmp .eq 9, 3) := by decide +kernel
theorem dX6_bestRule_48 : decode cX6_bestRule 48 = .ok (.iload 5, 2) := by decide +kernel
theorem dX6_bestRule_50 : decode cX6_bestRule 50 = .ok (.iload_n 2, 1) := by decide +kernel
theorem dX6_bestRule_51 : decode cX6_bestRule 51 = .ok (.if_icmp .ge 7, 3) := by decide +kernel
theorem dX6_bestRule_54 : decode cX6_bestRule 54 = .ok (.iconst 1, 1) := by decide +kernel
theorem dX6_bestRule_55 : decode cX6_bestRule 55 = .ok (.goto 4, 3) := by decide +kernel
theorem dX6_bestRule_58 : decode cX6_bestRule 58 = .ok (.iconst 0, 1) := by decide +kernel
theorem dX6_bestRule_59 : decode cX6_bestRule 59 = .ok (.istore 6, 2) := by decide +kernel
theorem dX6_bestRule_61 : decode cX6_bestRule 61 = .ok (.iload 6, 2) := by decide +kernel
theorem dX6_bestRule_63 : decode cX6_bestRule 63 = .ok (.ifCond .eq 7, 3) := by decide +kernel
theorem dX6_bestRule_66 : decode cX6_bestRule 66 = .ok (.iload_n 3, 1) := by decide +kernel
theorem dX6_bestRule_67 : decode cX6_bestRule 67 = .ok (.goto 4, 3) := by decide +kernel
theorem dX6_bestRule_70 : decode cX6_bestRule 70 = .ok (.iload_n 1, 1) := by decide +kernel
theorem dX6_bestRule_71 : decode cX6_bestRule 71 = .ok (.istore_n 1, 1) := by decide +kernel
theorem dX6_bestRule_72 : decode cX6_bestRule 72 = .ok (.iload 6, 2) := by decide +kernel
theorem dX6_bestRule_74 : decode cX6_bestRule 74 = .ok (.ifCond .eq 8, 3) := by decide +kernel
theorem dX6_bestRule_77 : decode cX6_bestRule 77 = .ok (.iload 5, 2) := by decide +kernel
theorem dX6_bestRule_79 : decode cX6_bestRule 79 = .ok (.goto 4, 3) := by decide +kernel
theorem dX6_bestRule_82 : decode cX6_bestRule 82 = .ok (.iload_n 2, 1) := by decide +kernel
theorem dX6_bestRule_83 : decode cX6_bestRule 83 = .ok (.istore_n 2, 1) := by decide +kernel
theorem dX6_bestRule_84 : decode cX6_bestRule 84 = .ok (.iinc 3 1, 3) := by decide +kernel
theorem dX6_bestRule_87 : decode cX6_bestRule 87 = .ok (.goto (-72), 3) := by decide +kernel
theorem dX6_bestRule_90 : decode cX6_bestRule 90 = .ok (.iload_n 1, 1) := by decide +kernel
theorem dX6_bestRule_91 : decode cX6_bestRule 91 = .ok (.ireturn, 1) := by decide +kernel
set_option maxRecDepth 20000 in
theorem ggX6_sustainable_X6_lays : GoodIn wsX6_sustainable wsX6_lays := goodIn_r _ [7, 8, 2, 82, 83, 84, 85, 86, 87, 88, 89, 90, 91, 92, 93, 94] (by decide +kernel) (by decide +kernel)
set_option maxRecDepth 20000 in
theorem gX6_sustainable_X6_lays : GoodIn wsX6_sustainable (wsV RX6 167 RX6 yX6_lays wsX6_lays) := goodIn_app (goodIn_of _ (by decide +kernel)) ggX6_sustainable_X6_lays
set_option maxRecDepth 20000 in
theorem ggX6_sustainable_X6_userAt : GoodIn wsX6_sustainable wsX6_userAt := goodIn_r _ [11] (by decide +kernel) (by decide +kernel)
set_option maxRecDepth 20000 in
theorem gX6_sustainable_X6_userAt : GoodIn wsX6_sustainable (va_wsS RX6 37 yX6_userAt wsX6_userAt) := goodIn_app (goodIn_of _ (by decide +kernel)) ggX6_sustainable_X6_userAt
set_option maxRecDepth 20000 in
theorem ggX6_sustainable_X6_ofUser : GoodIn wsX6_sustainable wsX6_ofUser := goodIn_r _ [15, 2, 9, 10, 6, 11, 82, 83, 84, 85, 86, 87, 88, 89, 90, 91, 92, 93, 94] (by decide +kernel) (by decide +kernel)
set_option maxRecDepth 20000 in
theorem gX6_sustainable_X6_ofUser : GoodIn wsX6_sustainable (wsV RX6 67 RX6 yX6_ofUser wsX6_ofUser) := goodIn_app (goodIn_of _ (by decide +kernel)) ggX6_sustainable_X6_ofUser
set_option maxRecDepth 20000 in
theorem ggX6_sustainable_X6_shortDays : GoodIn wsX6_sustainable wsX6_shortDays := goodIn_r _ [19, 20, 2, 21, 22, 23, 6, 24, 25, 26, 27, 9, 10, 11, 28, 29, 30, 31, 32, 33, 34, 35, 36, 37, 38, 39, 40, 41, 42, 43, 44, 45, 46, 47, 48, 49, 50, 51, 52, 53, 54, 55, 56, 57, 12, 13, 14, 15, 58, 59, 60, 61, 62, 63, 64, 65, 66, 67, 68, 69, 70, 71, 72, 73, 74, 75, 76, 77, 82, 83, 84, 85, 86, 87, 88, 89, 90, 91, 92, 93, 94] (by decide +kernel) (by decide +kernel)
set_option maxRecDepth 20000 in
theorem gX6_sustainable_X6_shortDays : GoodIn wsX6_sustainable (wsV RX6 161 RX6 yX6_shortDays wsX6_shortDays) := goodIn_app (goodIn_of _ (by decide +kernel)) ggX6_sustainable_X6_shortDays
set_option maxRecDepth 20000 in
theorem ggX6_sustainable_X6_takesBack : GoodIn wsX6_sustainable wsX6_takesBack := goodIn_r _ [81, 2, 8, 82, 83, 84, 85, 86, 87, 88, 89, 90, 91, 92, 93, 94] (by decide +kernel) (by decide +kernel)
set_option maxRecDepth 20000 in
theorem gX6_sustainable_X6_takesBack : GoodIn wsX6_sustainable (wsV RX6 164 RX6 yX6_takesBack wsX6_takesBack) := goodIn_app (goodIn_of _ (by decide +kernel)) ggX6_sustainable_X6_takesBack
theorem dX6_sustainable_0 : decode cX6_sustainable 0 = .ok (.aload_n 0, 1) := by decide +kernel
theorem dX6_sustainable_1 : decode cX6_sustainable 1 = .ok (.iconst 0, 1) := by decide +kernel
theorem dX6_sustainable_2 : decode cX6_sustainable 2 = .ok (.putfield 26, 3) := by decide +kernel
theorem dX6_sustainable_5 : decode cX6_sustainable 5 = .ok (.aload_n 0, 1) := by decide +kernel
theorem dX6_sustainable_6 : decode cX6_sustainable 6 = .ok (.invokevirtual 167, 3) := by decide +kernel
theorem dX6_sustainable_9 : decode cX6_sustainable 9 = .ok (.sipush 300, 3) := by decide +kernel
theorem dX6_sustainable_12 : decode cX6_sustainable 12 = .ok (.istore_n 1, 1) := by decide +kernel
theorem dX6_sustainable_13 : decode cX6_sustainable 13 = .ok (.iload_n 1, 1) := by decide +kernel
theorem dX6_sustainable_14 : decode cX6_sustainable 14 = .ok (.ifCond .le 64, 3) := by decide +kernel
theorem dX6_sustainable_17 : decode cX6_sustainable 17 = .ok (.iconst 0, 1) := by decide +kernel
theorem dX6_sustainable_18 : decode cX6_sustainable 18 = .ok (.istore_n 2, 1) := by decide +kernel
theorem dX6_sustainable_19 : decode cX6_sustainable 19 = .ok (.iload_n 2, 1) := by decide +kernel
theorem dX6_sustainable_20 : decode cX6_sustainable 20 = .ok (.aload_n 0, 1) := by decide +kernel
theorem dX6_sustainable_21 : decode cX6_sustainable 21 = .ok (.getfield 7, 3) := by decide +kernel
theorem dX6_sustainable_24 : decode cX6_sustainable 24 = .ok (.bipush 7, 2) := by decide +kernel
theorem dX6_sustainable_26 : decode cX6_sustainable 26 = .ok (.iaload, 1) := by decide +kernel
theorem dX6_sustainable_27 : decode cX6_sustainable 27 = .ok (.if_icmp .ge 30, 3) := by decide +kernel
theorem dX6_sustainable_30 : decode cX6_sustainable 30 = .ok (.aload_n 0, 1) := by decide +kernel
theorem dX6_sustainable_31 : decode cX6_sustainable 31 = .ok (.getfield 7, 3) := by decide +kernel
theorem dX6_sustainable_34 : decode cX6_sustainable 34 = .ok (.iload_n 2, 1) := by decide +kernel
theorem dX6_sustainable_35 : decode cX6_sustainable 35 = .ok (.iconst 0, 1) := by decide +kernel
theorem dX6_sustainable_36 : decode cX6_sustainable 36 = .ok (.invokestatic 37, 3) := by decide +kernel
theorem dX6_sustainable_39 : decode cX6_sustainable 39 = .ok (.aload_n 0, 1) := by decide +kernel
theorem dX6_sustainable_40 : decode cX6_sustainable 40 = .ok (.iload_n 2, 1) := by decide +kernel
theorem dX6_sustainable_41 : decode cX6_sustainable 41 = .ok (.iconst 0, 1) := by decide +kernel
theorem dX6_sustainable_42 : decode cX6_sustainable 42 = .ok (.invokevirtual 67, 3) := by decide +kernel
theorem dX6_sustainable_45 : decode cX6_sustainable 45 = .ok (.iload_n 1, 1) := by decide +kernel
theorem dX6_sustainable_46 : decode cX6_sustainable 46 = .ok (.imul, 1) := by decide +kernel
theorem dX6_sustainable_47 : decode cX6_sustainable 47 = .ok (.bipush 100, 2) := by decide +kernel
theorem dX6_sustainable_49 : decode cX6_sustainable 49 = .ok (.idiv, 1) := by decide +kernel
theorem dX6_sustainable_50 : decode cX6_sustainable 50 = .ok (.iastore, 1) := by decide +kernel
theorem dX6_sustainable_51 : decode cX6_sustainable 51 = .ok (.iinc 2 1, 3) := by decide +kernel
theorem dX6_sustainable_54 : decode cX6_sustainable 54 = .ok (.goto (-35), 3) := by decide +kernel
theorem dX6_sustainable_57 : decode cX6_sustainable 57 = .ok (.aload_n 0, 1) := by decide +kernel
theorem dX6_sustainable_58 : decode cX6_sustainable 58 = .ok (.invokevirtual 161, 3) := by decide +kernel
theorem dX6_sustainable_61 : decode cX6_sustainable 61 = .ok (.istore_n 2, 1) := by decide +kernel
theorem dX6_sustainable_62 : decode cX6_sustainable 62 = .ok (.aload_n 0, 1) := by decide +kernel
theorem dX6_sustainable_63 : decode cX6_sustainable 63 = .ok (.invokevirtual 164, 3) := by decide +kernel
theorem dX6_sustainable_66 : decode cX6_sustainable 66 = .ok (.iload_n 2, 1) := by decide +kernel
theorem dX6_sustainable_67 : decode cX6_sustainable 67 = .ok (.ifCond .ne 5, 3) := by decide +kernel
theorem dX6_sustainable_70 : decode cX6_sustainable 70 = .ok (.iload_n 1, 1) := by decide +kernel
theorem dX6_sustainable_71 : decode cX6_sustainable 71 = .ok (.ireturn, 1) := by decide +kernel
theorem dX6_sustainable_72 : decode cX6_sustainable 72 = .ok (.iinc 1 (-5), 3) := by decide +kernel
theorem dX6_sustainable_75 : decode cX6_sustainable 75 = .ok (.goto (-62), 3) := by decide +kernel
theorem dX6_sustainable_78 : decode cX6_sustainable 78 = .ok (.iconst (-1), 1) := by decide +kernel
theorem dX6_sustainable_79 : decode cX6_sustainable 79 = .ok (.ireturn, 1) := by decide +kernel
set_option maxRecDepth 20000 in
theorem ggX6_gutterLoss_X6_isRoof : GoodIn wsX6_gutterLoss wsX6_isRoof := goodIn_r _ [6, 7, 8, 9, 5, 10, 93, 94, 95, 96, 97, 98, 99, 100, 101, 102, 103, 104, 105] (by decide +kernel) (by decide +kernel)
set_option maxRecDepth 20000 in
theorem gX6_gutterLoss_X6_isRoof : GoodIn wsX6_gutterLoss (wsV RX6 78 RX6 yX6_isRoof wsX6_isRoof) := goodIn_app (goodIn_of _ (by decide +kernel)) ggX6_gutterLoss_X6_isRoof
set_option maxRecDepth 20000 in
theorem ggX6_gutterLoss_X6_goes : GoodIn wsX6_gutterLoss wsX6_goes := goodIn_r _ [14, 15, 93, 94, 95, 96, 97, 98, 99, 100, 101, 102, 103, 104, 105] (by decide +kernel) (by decide +kernel)
set_option maxRecDepth 20000 in
theorem gX6_gutterLoss_X6_goes : GoodIn wsX6_gutterLoss (wsV RX6 52 RX6 yX6_goes wsX6_goes) := goodIn_app (goodIn_of _ (by decide +kernel)) ggX6_gutterLoss_X6_goes
set_option maxRecDepth 20000 in
theorem ggX6_gutterLoss_X6_lays : GoodIn wsX6_gutterLoss wsX6_lays := goodIn_r _ [19, 20, 7, 93, 94, 95, 96, 97, 98, 99, 100, 101, 102, 103, 104, 105] (by decide +kernel) (by decide +kernel)
set_option maxRecDepth 20000 in
theorem gX6_gutterLoss_X6_lays : GoodIn wsX6_gutterLoss (wsV RX6 167 RX6 yX6_lays wsX6_lays) := goodIn_app (goodIn_of _ (by decide +kernel)) ggX6_gutterLoss_X6_lays
set_option maxRecDepth 20000 in
theorem ggX6_gutterLoss_X6_shortDays : GoodIn wsX6_gutterLoss wsX6_shortDays := goodIn_r _ [24, 1, 7, 25, 26, 27, 5, 28, 29, 30, 31, 32, 33, 34, 35, 36, 37, 38, 39, 40, 41, 42, 43, 44, 45, 46, 47, 48, 49, 50, 51, 52, 53, 54, 55, 56, 57, 58, 59, 60, 61, 62, 63, 64, 65, 66, 67, 68, 69, 70, 71, 72, 73, 74, 75, 76, 77, 78, 79, 80, 81, 82, 83, 84, 85, 86, 87, 88, 93, 94, 95, 96, 97, 98, 99, 100, 101, 102, 103, 104, 105] (by decide +kernel) (by decide +kernel)
set_option maxRecDepth 20000 in
theorem gX6_gutterLoss_X6_shortDays : GoodIn wsX6_gutterLoss (wsV RX6 161 RX6 yX6_shortDays wsX6_shortDays) := goodIn_app (goodIn_of _ (by decide +kernel)) ggX6_gutterLoss_X6_shortDays
set_option maxRecDepth 20000 in
theorem ggX6_gutterLoss_X6_takesBack : GoodIn wsX6_gutterLoss wsX6_takesBack := goodIn_r _ [92, 7, 20, 93, 94, 95, 96, 97, 98, 99, 100, 101, 102, 103, 104, 105] (by decide +kernel) (by decide +kernel)
set_option maxRecDepth 20000 in
theorem gX6_gutterLoss_X6_takesBack : GoodIn wsX6_gutterLoss (wsV RX6 164 RX6 yX6_takesBack wsX6_takesBack) := goodIn_app (goodIn_of _ (by decide +kernel)) ggX6_gutterLoss_X6_takesBack
theorem dX6_gutterLoss_0 : decode cX6_gutterLoss 0 = .ok (.aload_n 0, 1) := by decide +kernel
theorem dX6_gutterLoss_1 : decode cX6_gutterLoss 1 = .ok (.aload_n 0, 1) := by decide +kernel
theorem dX6_gutterLoss_2 : decode cX6_gutterLoss 2 = .ok (.iload_n 1, 1) := by decide +kernel
theorem dX6_gutterLoss_3 : decode cX6_gutterLoss 3 = .ok (.invokevirtual 78, 3) := by decide +kernel
theorem dX6_gutterLoss_6 : decode cX6_gutterLoss 6 = .ok (.iconst 1, 1) := by decide +kernel
theorem dX6_gutterLoss_7 : decode cX6_gutterLoss 7 = .ok (.invokevirtual 52, 3) := by decide +kernel
theorem dX6_gutterLoss_10 : decode cX6_gutterLoss 10 = .ok (.ifCond .ne 5, 3) := by decide +kernel
theorem dX6_gutterLoss_13 : decode cX6_gutterLoss 13 = .ok (.lconst 0, 1) := by decide +kernel
theorem dX6_gutterLoss_14 : decode cX6_gutterLoss 14 = .ok (.lreturn, 1) := by decide +kernel
theorem dX6_gutterLoss_15 : decode cX6_gutterLoss 15 = .ok (.aload_n 0, 1) := by decide +kernel
theorem dX6_gutterLoss_16 : decode cX6_gutterLoss 16 = .ok (.invokevirtual 167, 3) := by decide +kernel
theorem dX6_gutterLoss_19 : decode cX6_gutterLoss 19 = .ok (.aload_n 0, 1) := by decide +kernel
theorem dX6_gutterLoss_20 : decode cX6_gutterLoss 20 = .ok (.invokevirtual 161, 3) := by decide +kernel
theorem dX6_gutterLoss_23 : decode cX6_gutterLoss 23 = .ok (.istore_n 2, 1) := by decide +kernel
theorem dX6_gutterLoss_24 : decode cX6_gutterLoss 24 = .ok (.aload_n 0, 1) := by decide +kernel
theorem dX6_gutterLoss_25 : decode cX6_gutterLoss 25 = .ok (.invokevirtual 164, 3) := by decide +kernel
theorem dX6_gutterLoss_28 : decode cX6_gutterLoss 28 = .ok (.aload_n 0, 1) := by decide +kernel
theorem dX6_gutterLoss_29 : decode cX6_gutterLoss 29 = .ok (.getfield 19, 3) := by decide +kernel
theorem dX6_gutterLoss_32 : decode cX6_gutterLoss 32 = .ok (.iload_n 1, 1) := by decide +kernel
theorem dX6_gutterLoss_33 : decode cX6_gutterLoss 33 = .ok (.laload, 1) := by decide +kernel
theorem dX6_gutterLoss_34 : decode cX6_gutterLoss 34 = .ok (.lreturn, 1) := by decide +kernel
set_option maxRecDepth 20000 in
theorem ggX6_append_X6_in : GoodIn wsX6_append wsX6_in := goodIn_r _ [7] (by decide +kernel) (by decide +kernel)
set_option maxRecDepth 20000 in
theorem gX6_append_X6_in : GoodIn wsX6_append (va_wsS RX6 40 yX6_in wsX6_in) := goodIn_app (goodIn_of _ (by decide +kernel)) ggX6_append_X6_in
set_option maxRecDepth 20000 in
theorem ggX6_append_X6_goes : GoodIn wsX6_append wsX6_goes := goodIn_r _ [11, 12, 13, 14, 15, 16, 17, 18, 19, 20, 21, 22, 23, 24, 25] (by decide +kernel) (by decide +kernel)
set_option maxRecDepth 20000 in
theorem gX6_append_X6_goes : GoodIn wsX6_append (wsV RX6 52 RX6 yX6_goes wsX6_goes) := goodIn_app (goodIn_of _ (by decide +kernel)) ggX6_append_X6_goes
theorem dX6_append_0 : decode cX6_append 0 = .ok (.aload_n 0, 1) := by decide +kernel
theorem dX6_append_1 : decode cX6_append 1 = .ok (.iload_n 1, 1) := by decide +kernel
theorem dX6_append_2 : decode cX6_append 2 = .ok (.i2l, 1) := by decide +kernel
theorem dX6_append_3 : decode cX6_append 3 = .ok (.lconst 0, 1) := by decide +kernel
theorem dX6_append_4 : decode cX6_append 4 = .ok (.ldc2_w 177, 3) := by decide +kernel
theorem dX6_append_7 : decode cX6_append 7 = .ok (.invokestatic 40, 3) := by decide +kernel
theorem dX6_append_10 : decode cX6_append 10 = .ok (.aload_n 0, 1) := by decide +kernel
theorem dX6_append_11 : decode cX6_append 11 = .ok (.getfield 179, 3) := by decide +kernel
theorem dX6_append_14 : decode cX6_append 14 = .ok (.bipush 120, 2) := by decide +kernel
theorem dX6_append_16 : decode cX6_append 16 = .ok (.if_icmp .ge 7, 3) := by decide +kernel
theorem dX6_append_19 : decode cX6_append 19 = .ok (.iconst 1, 1) := by decide +kernel
theorem dX6_append_20 : decode cX6_append 20 = .ok (.goto 4, 3) := by decide +kernel
theorem dX6_append_23 : decode cX6_append 23 = .ok (.iconst 0, 1) := by decide +kernel
theorem dX6_append_24 : decode cX6_append 24 = .ok (.invokevirtual 52, 3) := by decide +kernel
theorem dX6_append_27 : decode cX6_append 27 = .ok (.ifCond .ne 5, 3) := by decide +kernel
theorem dX6_append_30 : decode cX6_append 30 = .ok (.iconst 0, 1) := by decide +kernel
theorem dX6_append_31 : decode cX6_append 31 = .ok (.ireturn, 1) := by decide +kernel
theorem dX6_append_32 : decode cX6_append 32 = .ok (.aload_n 0, 1) := by decide +kernel
theorem dX6_append_33 : decode cX6_append 33 = .ok (.getfield 23, 3) := by decide +kernel
theorem dX6_append_36 : decode cX6_append 36 = .ok (.aload_n 0, 1) := by decide +kernel
theorem dX6_append_37 : decode cX6_append 37 = .ok (.getfield 179, 3) := by decide +kernel
theorem dX6_append_40 : decode cX6_append 40 = .ok (.iload_n 1, 1) := by decide +kernel
theorem dX6_append_41 : decode cX6_append 41 = .ok (.iastore, 1) := by decide +kernel
theorem dX6_append_42 : decode cX6_append 42 = .ok (.aload_n 0, 1) := by decide +kernel
theorem dX6_append_43 : decode cX6_append 43 = .ok (.dup, 1) := by decide +kernel
theorem dX6_append_44 : decode cX6_append 44 = .ok (.getfield 179, 3) := by decide +kernel
theorem dX6_append_47 : decode cX6_append 47 = .ok (.iconst 1, 1) := by decide +kernel
theorem dX6_append_48 : decode cX6_append 48 = .ok (.iadd, 1) := by decide +kernel
theorem dX6_append_49 : decode cX6_append 49 = .ok (.putfield 179, 3) := by decide +kernel
theorem dX6_append_52 : decode cX6_append 52 = .ok (.aload_n 0, 1) := by decide +kernel
theorem dX6_append_53 : decode cX6_append 53 = .ok (.getfield 179, 3) := by decide +kernel
theorem dX6_append_56 : decode cX6_append 56 = .ok (.ireturn, 1) := by decide +kernel
theorem dX6_clearText_0 : decode cX6_clearText 0 = .ok (.aload_n 0, 1) := by decide +kernel
theorem dX6_clearText_1 : decode cX6_clearText 1 = .ok (.iconst 0, 1) := by decide +kernel
theorem dX6_clearText_2 : decode cX6_clearText 2 = .ok (.putfield 26, 3) := by decide +kernel
theorem dX6_clearText_5 : decode cX6_clearText 5 = .ok (.aload_n 0, 1) := by decide +kernel
theorem dX6_clearText_6 : decode cX6_clearText 6 = .ok (.getfield 179, 3) := by decide +kernel
theorem dX6_clearText_9 : decode cX6_clearText 9 = .ok (.istore_n 1, 1) := by decide +kernel
theorem dX6_clearText_10 : decode cX6_clearText 10 = .ok (.aload_n 0, 1) := by decide +kernel
theorem dX6_clearText_11 : decode cX6_clearText 11 = .ok (.iconst 0, 1) := by decide +kernel
theorem dX6_clearText_12 : decode cX6_clearText 12 = .ok (.putfield 179, 3) := by decide +kernel
theorem dX6_clearText_15 : decode cX6_clearText 15 = .ok (.iload_n 1, 1) := by decide +kernel
theorem dX6_clearText_16 : decode cX6_clearText 16 = .ok (.ireturn, 1) := by decide +kernel
set_option maxRecDepth 20000 in
theorem ggX6_isFigure_X6_in : GoodIn wsX6_isFigure wsX6_in := goodIn_r _ [9] (by decide +kernel) (by decide +kernel)
set_option maxRecDepth 20000 in
theorem gX6_isFigure_X6_in : GoodIn wsX6_isFigure (va_wsS RX6 40 yX6_in wsX6_in) := goodIn_app (goodIn_of _ (by decide +kernel)) ggX6_isFigure_X6_in
theorem dX6_isFigure_0 : decode cX6_isFigure 0 = .ok (.aload_n 0, 1) := by decide +kernel
theorem dX6_isFigure_1 : decode cX6_isFigure 1 = .ok (.getfield 182, 3) := by decide +kernel
theorem dX6_isFigure_4 : decode cX6_isFigure 4 = .ok (.aload_n 0, 1) := by decide +kernel
theorem dX6_isFigure_5 : decode cX6_isFigure 5 = .ok (.getfield 179, 3) := by decide +kernel
theorem dX6_isFigure_8 : decode cX6_isFigure 8 = .ok (.if_icmp .ge 29, 3) := by decide +kernel
theorem dX6_isFigure_11 : decode cX6_isFigure 11 = .ok (.aload_n 0, 1) := by decide +kernel
theorem dX6_isFigure_12 : decode cX6_isFigure 12 = .ok (.getfield 23, 3) := by decide +kernel
theorem dX6_isFigure_15 : decode cX6_isFigure 15 = .ok (.aload_n 0, 1) := by decide +kernel
theorem dX6_isFigure_16 : decode cX6_isFigure 16 = .ok (.getfield 182, 3) := by decide +kernel
theorem dX6_isFigure_19 : decode cX6_isFigure 19 = .ok (.iaload, 1) := by decide +kernel
theorem dX6_isFigure_20 : decode cX6_isFigure 20 = .ok (.i2l, 1) := by decide +kernel
theorem dX6_isFigure_21 : decode cX6_isFigure 21 = .ok (.ldc2_w 185, 3) := by decide +kernel
theorem dX6_isFigure_24 : decode cX6_isFigure 24 = .ok (.ldc2_w 187, 3) := by decide +kernel
theorem dX6_isFigure_27 : decode cX6_isFigure 27 = .ok (.invokestatic 40, 3) := by decide +kernel
theorem dX6_isFigure_30 : decode cX6_isFigure 30 = .ok (.ifCond .eq 7, 3) := by decide +kernel
theorem dX6_isFigure_33 : decode cX6_isFigure 33 = .ok (.iconst 1, 1) := by decide +kernel
theorem dX6_isFigure_34 : decode cX6_isFigure 34 = .ok (.goto 4, 3) := by decide +kernel
theorem dX6_isFigure_37 : decode cX6_isFigure 37 = .ok (.iconst 0, 1) := by decide +kernel
theorem dX6_isFigure_38 : decode cX6_isFigure 38 = .ok (.ireturn, 1) := by decide +kernel
theorem dX6_passesByte_0 : decode cX6_passesByte 0 = .ok (.aload_n 0, 1) := by decide +kernel
theorem dX6_passesByte_1 : decode cX6_passesByte 1 = .ok (.getfield 182, 3) := by decide +kernel
theorem dX6_passesByte_4 : decode cX6_passesByte 4 = .ok (.aload_n 0, 1) := by decide +kernel
theorem dX6_passesByte_5 : decode cX6_passesByte 5 = .ok (.getfield 179, 3) := by decide +kernel
theorem dX6_passesByte_8 : decode cX6_passesByte 8 = .ok (.if_icmp .ge 20, 3) := by decide +kernel
theorem dX6_passesByte_11 : decode cX6_passesByte 11 = .ok (.aload_n 0, 1) := by decide +kernel
theorem dX6_passesByte_12 : decode cX6_passesByte 12 = .ok (.getfield 23, 3) := by decide +kernel
theorem dX6_passesByte_15 : decode cX6_passesByte 15 = .ok (.aload_n 0, 1) := by decide +kernel
theorem dX6_passesByte_16 : decode cX6_passesByte 16 = .ok (.getfield 182, 3) := by decide +kernel
theorem dX6_passesByte_19 : decode cX6_passesByte 19 = .ok (.iaload, 1) := by decide +kernel
theorem dX6_passesByte_20 : decode cX6_passesByte 20 = .ok (.iload_n 1, 1) := by decide +kernel
theorem dX6_passesByte_21 : decode cX6_passesByte 21 = .ok (.if_icmp .ne 7, 3) := by decide +kernel
theorem dX6_passesByte_24 : decode cX6_passesByte 24 = .ok (.iconst 1, 1) := by decide +kernel
theorem dX6_passesByte_25 : decode cX6_passesByte 25 = .ok (.goto 4, 3) := by decide +kernel
theorem dX6_passesByte_28 : decode cX6_passesByte 28 = .ok (.iconst 0, 1) := by decide +kernel
theorem dX6_passesByte_29 : decode cX6_passesByte 29 = .ok (.istore_n 2, 1) := by decide +kernel
theorem dX6_passesByte_30 : decode cX6_passesByte 30 = .ok (.aload_n 0, 1) := by decide +kernel
theorem dX6_passesByte_31 : decode cX6_passesByte 31 = .ok (.dup, 1) := by decide +kernel
theorem dX6_passesByte_32 : decode cX6_passesByte 32 = .ok (.getfield 182, 3) := by decide +kernel
theorem dX6_passesByte_35 : decode cX6_passesByte 35 = .ok (.iload_n 2, 1) := by decide +kernel
theorem dX6_passesByte_36 : decode cX6_passesByte 36 = .ok (.ifCond .eq 7, 3) := by decide +kernel
theorem dX6_passesByte_39 : decode cX6_passesByte 39 = .ok (.iconst 1, 1) := by decide +kernel
theorem dX6_passesByte_40 : decode cX6_passesByte 40 = .ok (.goto 4, 3) := by decide +kernel
theorem dX6_passesByte_43 : decode cX6_passesByte 43 = .ok (.iconst 0, 1) := by decide +kernel
theorem dX6_passesByte_44 : decode cX6_passesByte 44 = .ok (.iadd, 1) := by decide +kernel
theorem dX6_passesByte_45 : decode cX6_passesByte 45 = .ok (.putfield 182, 3) := by decide +kernel
theorem dX6_passesByte_48 : decode cX6_passesByte 48 = .ok (.iload_n 2, 1) := by decide +kernel
theorem dX6_passesByte_49 : decode cX6_passesByte 49 = .ok (.ireturn, 1) := by decide +kernel
set_option maxRecDepth 20000 in
theorem ggX6_reads_X6_isFigure : GoodIn wsX6_reads wsX6_isFigure := goodIn_r _ [8, 1, 9, 3, 10, 11, 12, 13, 7, 14, 15, 16, 17, 18, 19, 20, 21, 22, 23, 24, 25, 26, 27] (by decide +kernel) (by decide +kernel)
set_option maxRecDepth 20000 in
theorem gX6_reads_X6_isFigure : GoodIn wsX6_reads (wsV RX6 192 RX6 yX6_isFigure wsX6_isFigure) := goodIn_app (goodIn_of _ (by decide +kernel)) ggX6_reads_X6_isFigure
set_option maxRecDepth 20000 in
theorem ggX6_reads_X6_in : GoodIn wsX6_reads wsX6_in := goodIn_r _ [14] (by decide +kernel) (by decide +kernel)
set_option maxRecDepth 20000 in
theorem gX6_reads_X6_in : GoodIn wsX6_reads (va_wsS RX6 40 yX6_in wsX6_in) := goodIn_app (goodIn_of _ (by decide +kernel)) ggX6_reads_X6_in
theorem dX6_reads_0 : decode cX6_reads 0 = .ok (.aload_n 0, 1) := by decide +kernel
theorem dX6_reads_1 : decode cX6_reads 1 = .ok (.getfield 182, 3) := by decide +kernel
theorem dX6_reads_4 : decode cX6_reads 4 = .ok (.istore 4, 2) := by decide +kernel
theorem dX6_reads_6 : decode cX6_reads 6 = .ok (.aload_n 0, 1) := by decide +kernel
theorem dX6_reads_7 : decode cX6_reads 7 = .ok (.iconst 0, 1) := by decide +kernel
theorem dX6_reads_8 : decode cX6_reads 8 = .ok (.putfield 189, 3) := by decide +kernel
theorem dX6_reads_11 : decode cX6_reads 11 = .ok (.aload_n 0, 1) := by decide +kernel
theorem dX6_reads_12 : decode cX6_reads 12 = .ok (.invokevirtual 192, 3) := by decide +kernel
theorem dX6_reads_15 : decode cX6_reads 15 = .ok (.ifCond .eq 51, 3) := by decide +kernel
theorem dX6_reads_18 : decode cX6_reads 18 = .ok (.aload_n 0, 1) := by decide +kernel
theorem dX6_reads_19 : decode cX6_reads 19 = .ok (.getfield 182, 3) := by decide +kernel
theorem dX6_reads_22 : decode cX6_reads 22 = .ok (.iload 4, 2) := by decide +kernel
theorem dX6_reads_24 : decode cX6_reads 24 = .ok (.iload_n 1, 1) := by decide +kernel
theorem dX6_reads_25 : decode cX6_reads 25 = .ok (.iadd, 1) := by decide +kernel
theorem dX6_reads_26 : decode cX6_reads 26 = .ok (.if_icmp .ge 40, 3) := by decide +kernel
theorem dX6_reads_29 : decode cX6_reads 29 = .ok (.aload_n 0, 1) := by decide +kernel
theorem dX6_reads_30 : decode cX6_reads 30 = .ok (.bipush 10, 2) := by decide +kernel
theorem dX6_reads_32 : decode cX6_reads 32 = .ok (.aload_n 0, 1) := by decide +kernel
theorem dX6_reads_33 : decode cX6_reads 33 = .ok (.getfield 189, 3) := by decide +kernel
theorem dX6_reads_36 : decode cX6_reads 36 = .ok (.imul, 1) := by decide +kernel
theorem dX6_reads_37 : decode cX6_reads 37 = .ok (.aload_n 0, 1) := by decide +kernel
theorem dX6_reads_38 : decode cX6_reads 38 = .ok (.getfield 23, 3) := by decide +kernel
theorem dX6_reads_41 : decode cX6_reads 41 = .ok (.aload_n 0, 1) := by decide +kernel
theorem dX6_reads_42 : decode cX6_reads 42 = .ok (.getfield 182, 3) := by decide +kernel
theorem dX6_reads_45 : decode cX6_reads 45 = .ok (.iaload, 1) := by decide +kernel
theorem dX6_reads_46 : decode cX6_reads 46 = .ok (.iadd, 1) := by decide +kernel
theorem dX6_reads_47 : decode cX6_reads 47 = .ok (.bipush 48, 2) := by decide +kernel
theorem dX6_reads_49 : decode cX6_reads 49 = .ok (.isub, 1) := by decide +kernel
theorem dX6_reads_50 : decode cX6_reads 50 = .ok (.putfield 189, 3) := by decide +kernel
theorem dX6_reads_53 : decode cX6_reads 53 = .ok (.aload_n 0, 1) := by decide +kernel
theorem dX6_reads_54 : decode cX6_reads 54 = .ok (.dup, 1) := by decide +kernel
theorem dX6_reads_55 : decode cX6_reads 55 = .ok (.getfield 182, 3) := by decide +kernel
theorem dX6_reads_58 : decode cX6_reads 58 = .ok (.iconst 1, 1) := by decide +kernel
theorem dX6_reads_59 : decode cX6_reads 59 = .ok (.iadd, 1) := by decide +kernel
theorem dX6_reads_60 : decode cX6_reads 60 = .ok (.putfield 182, 3) := by decide +kernel
theorem dX6_reads_63 : decode cX6_reads 63 = .ok (.goto (-52), 3) := by decide +kernel
theorem dX6_reads_66 : decode cX6_reads 66 = .ok (.aload_n 0, 1) := by decide +kernel
theorem dX6_reads_67 : decode cX6_reads 67 = .ok (.getfield 182, 3) := by decide +kernel
theorem dX6_reads_70 : decode cX6_reads 70 = .ok (.iload 4, 2) := by decide +kernel
theorem dX6_reads_72 : decode cX6_reads 72 = .ok (.if_icmp .eq 10, 3) := by decide +kernel
theorem dX6_reads_75 : decode cX6_reads 75 = .ok (.aload_n 0, 1) := by decide +kernel
theorem dX6_reads_76 : decode cX6_reads 76 = .ok (.invokevirtual 192, 3) := by decide +kernel
theorem dX6_reads_79 : decode cX6_reads 79 = .ok (.ifCond .eq 5, 3) := by decide +kernel
theorem dX6_reads_82 : decode cX6_reads 82 = .ok (.iconst 0, 1) := by decide +kernel
theorem dX6_reads_83 : decode cX6_reads 83 = .ok (.ireturn, 1) := by decide +kernel
theorem dX6_reads_84 : decode cX6_reads 84 = .ok (.aload_n 0, 1) := by decide +kernel
theorem dX6_reads_85 : decode cX6_reads 85 = .ok (.getfield 189, 3) := by decide +kernel
theorem dX6_reads_88 : decode cX6_reads 88 = .ok (.i2l, 1) := by decide +kernel
theorem dX6_reads_89 : decode cX6_reads 89 = .ok (.iload_n 2, 1) := by decide +kernel
theorem dX6_reads_90 : decode cX6_reads 90 = .ok (.i2l, 1) := by decide +kernel
theorem dX6_reads_91 : decode cX6_reads 91 = .ok (.iload_n 3, 1) := by decide +kernel
theorem dX6_reads_92 : decode cX6_reads 92 = .ok (.i2l, 1) := by decide +kernel
theorem dX6_reads_93 : decode cX6_reads 93 = .ok (.invokestatic 40, 3) := by decide +kernel
theorem dX6_reads_96 : decode cX6_reads 96 = .ok (.istore 5, 2) := by decide +kernel
theorem dX6_reads_98 : decode cX6_reads 98 = .ok (.aload_n 0, 1) := by decide +kernel
theorem dX6_reads_99 : decode cX6_reads 99 = .ok (.iload 5, 2) := by decide +kernel
theorem dX6_reads_101 : decode cX6_reads 101 = .ok (.ifCond .eq 10, 3) := by decide +kernel
theorem dX6_reads_104 : decode cX6_reads 104 = .ok (.aload_n 0, 1) := by decide +kernel
theorem dX6_reads_105 : decode cX6_reads 105 = .ok (.getfield 182, 3) := by decide +kernel
theorem dX6_reads_108 : decode cX6_reads 108 = .ok (.goto 5, 3) := by decide +kernel
theorem dX6_reads_111 : decode cX6_reads 111 = .ok (.iload 4, 2) := by decide +kernel
theorem dX6_reads_113 : decode cX6_reads 113 = .ok (.putfield 182, 3) := by decide +kernel
theorem dX6_reads_116 : decode cX6_reads 116 = .ok (.iload 5, 2) := by decide +kernel
theorem dX6_reads_118 : decode cX6_reads 118 = .ok (.ireturn, 1) := by decide +kernel
set_option maxRecDepth 20000 in
theorem ggX6_readsItem_X6_reads : GoodIn wsX6_readsItem wsX6_reads := goodIn_r _ [10, 2, 1, 4, 11, 12, 13, 9, 14, 3, 15, 16, 17, 18, 19, 28, 29, 30, 31, 32, 33, 34, 35, 36, 37, 38, 39, 40] (by decide +kernel) (by decide +kernel)
set_option maxRecDepth 20000 in
theorem gX6_readsItem_X6_reads : GoodIn wsX6_readsItem (wsV RX6 195 RX6 yX6_reads wsX6_reads) := goodIn_app (goodIn_of _ (by decide +kernel)) ggX6_readsItem_X6_reads
set_option maxRecDepth 20000 in
theorem ggX6_readsItem_X6_passesByte : GoodIn wsX6_readsItem wsX6_passesByte := goodIn_r _ [23, 2, 3, 4, 28, 29, 30, 31, 32, 33, 34, 35, 36, 37, 38, 39, 40] (by decide +kernel) (by decide +kernel)
set_option maxRecDepth 20000 in
theorem gX6_readsItem_X6_passesByte : GoodIn wsX6_readsItem (wsV RX6 199 RX6 yX6_passesByte wsX6_passesByte) := goodIn_app (goodIn_of _ (by decide +kernel)) ggX6_readsItem_X6_passesByte
set_option maxRecDepth 20000 in
theorem ggX6_readsItem_X6_rains : GoodIn wsX6_readsItem wsX6_rains := goodIn_r _ [27, 5, 28, 29, 30, 31, 32, 33, 34, 35, 36, 37, 38, 39, 40] (by decide +kernel) (by decide +kernel)
set_option maxRecDepth 20000 in
theorem gX6_readsItem_X6_rains : GoodIn wsX6_readsItem (wsV RX6 88 RX6 yX6_rains wsX6_rains) := goodIn_app (goodIn_of _ (by decide +kernel)) ggX6_readsItem_X6_rains
theorem dX6_readsItem_0 : decode cX6_readsItem 0 = .ok (.aload_n 0, 1) := by decide +kernel
theorem dX6_readsItem_1 : decode cX6_readsItem 1 = .ok (.iconst 3, 1) := by decide +kernel
theorem dX6_readsItem_2 : decode cX6_readsItem 2 = .ok (.iconst 0, 1) := by decide +kernel
theorem dX6_readsItem_3 : decode cX6_readsItem 3 = .ok (.sipush 200, 3) := by decide +kernel
theorem dX6_readsItem_6 : decode cX6_readsItem 6 = .ok (.invokevirtual 195, 3) := by decide +kernel
theorem dX6_readsItem_9 : decode cX6_readsItem 9 = .ok (.ifCond .ne 5, 3) := by decide +kernel
theorem dX6_readsItem_12 : decode cX6_readsItem 12 = .ok (.iconst 0, 1) := by decide +kernel
theorem dX6_readsItem_13 : decode cX6_readsItem 13 = .ok (.ireturn, 1) := by decide +kernel
theorem dX6_readsItem_14 : decode cX6_readsItem 14 = .ok (.aload_n 0, 1) := by decide +kernel
theorem dX6_readsItem_15 : decode cX6_readsItem 15 = .ok (.getfield 189, 3) := by decide +kernel
theorem dX6_readsItem_18 : decode cX6_readsItem 18 = .ok (.istore_n 1, 1) := by decide +kernel
theorem dX6_readsItem_19 : decode cX6_readsItem 19 = .ok (.iconst 1, 1) := by decide +kernel
theorem dX6_readsItem_20 : decode cX6_readsItem 20 = .ok (.istore_n 2, 1) := by decide +kernel
theorem dX6_readsItem_21 : decode cX6_readsItem 21 = .ok (.aload_n 0, 1) := by decide +kernel
theorem dX6_readsItem_22 : decode cX6_readsItem 22 = .ok (.bipush 120, 2) := by decide +kernel
theorem dX6_readsItem_24 : decode cX6_readsItem 24 = .ok (.invokevirtual 199, 3) := by decide +kernel
theorem dX6_readsItem_27 : decode cX6_readsItem 27 = .ok (.ifCond .eq 21, 3) := by decide +kernel
theorem dX6_readsItem_30 : decode cX6_readsItem 30 = .ok (.aload_n 0, 1) := by decide +kernel
theorem dX6_readsItem_31 : decode cX6_readsItem 31 = .ok (.iconst 2, 1) := by decide +kernel
theorem dX6_readsItem_32 : decode cX6_readsItem 32 = .ok (.iconst 1, 1) := by decide +kernel
theorem dX6_readsItem_33 : decode cX6_readsItem 33 = .ok (.bipush 99, 2) := by decide +kernel
theorem dX6_readsItem_35 : decode cX6_readsItem 35 = .ok (.invokevirtual 195, 3) := by decide +kernel
theorem dX6_readsItem_38 : decode cX6_readsItem 38 = .ok (.ifCond .ne 5, 3) := by decide +kernel
theorem dX6_readsItem_41 : decode cX6_readsItem 41 = .ok (.iconst 0, 1) := by decide +kernel
theorem dX6_readsItem_42 : decode cX6_readsItem 42 = .ok (.ireturn, 1) := by decide +kernel
theorem dX6_readsItem_43 : decode cX6_readsItem 43 = .ok (.aload_n 0, 1) := by decide +kernel
theorem dX6_readsItem_44 : decode cX6_readsItem 44 = .ok (.getfield 189, 3) := by decide +kernel
theorem dX6_readsItem_47 : decode cX6_readsItem 47 = .ok (.istore_n 2, 1) := by decide +kernel
theorem dX6_readsItem_48 : decode cX6_readsItem 48 = .ok (.aload_n 0, 1) := by decide +kernel
theorem dX6_readsItem_49 : decode cX6_readsItem 49 = .ok (.getfield 182, 3) := by decide +kernel
theorem dX6_readsItem_52 : decode cX6_readsItem 52 = .ok (.aload_n 0, 1) := by decide +kernel
theorem dX6_readsItem_53 : decode cX6_readsItem 53 = .ok (.getfield 179, 3) := by decide +kernel
theorem dX6_readsItem_56 : decode cX6_readsItem 56 = .ok (.if_icmp .ge 35, 3) := by decide +kernel
theorem dX6_readsItem_59 : decode cX6_readsItem 59 = .ok (.aload_n 0, 1) := by decide +kernel
theorem dX6_readsItem_60 : decode cX6_readsItem 60 = .ok (.getfield 23, 3) := by decide +kernel
theorem dX6_readsItem_63 : decode cX6_readsItem 63 = .ok (.aload_n 0, 1) := by decide +kernel
theorem dX6_readsItem_64 : decode cX6_readsItem 64 = .ok (.getfield 182, 3) := by decide +kernel
theorem dX6_readsItem_67 : decode cX6_readsItem 67 = .ok (.iaload, 1) := by decide +kernel
theorem dX6_readsItem_68 : decode cX6_readsItem 68 = .ok (.bipush 59, 2) := by decide +kernel
theorem dX6_readsItem_70 : decode cX6_readsItem 70 = .ok (.if_icmp .ne 21, 3) := by decide +kernel
theorem dX6_readsItem_73 : decode cX6_readsItem 73 = .ok (.aload_n 0, 1) := by decide +kernel
theorem dX6_readsItem_74 : decode cX6_readsItem 74 = .ok (.getfield 7, 3) := by decide +kernel
theorem dX6_readsItem_77 : decode cX6_readsItem 77 = .ok (.bipush 8, 2) := by decide +kernel
theorem dX6_readsItem_79 : decode cX6_readsItem 79 = .ok (.iaload, 1) := by decide +kernel
theorem dX6_readsItem_80 : decode cX6_readsItem 80 = .ok (.iload_n 2, 1) := by decide +kernel
theorem dX6_readsItem_81 : decode cX6_readsItem 81 = .ok (.iadd, 1) := by decide +kernel
theorem dX6_readsItem_82 : decode cX6_readsItem 82 = .ok (.bipush 100, 2) := by decide +kernel
theorem dX6_readsItem_84 : decode cX6_readsItem 84 = .ok (.if_icmp .gt 7, 3) := by decide +kernel
theorem dX6_readsItem_87 : decode cX6_readsItem 87 = .ok (.iconst 1, 1) := by decide +kernel
theorem dX6_readsItem_88 : decode cX6_readsItem 88 = .ok (.goto 4, 3) := by decide +kernel
theorem dX6_readsItem_91 : decode cX6_readsItem 91 = .ok (.iconst 0, 1) := by decide +kernel
theorem dX6_readsItem_92 : decode cX6_readsItem 92 = .ok (.istore_n 3, 1) := by decide +kernel
theorem dX6_readsItem_93 : decode cX6_readsItem 93 = .ok (.iload_n 3, 1) := by decide +kernel
theorem dX6_readsItem_94 : decode cX6_readsItem 94 = .ok (.ifCond .eq 19, 3) := by decide +kernel
theorem dX6_readsItem_97 : decode cX6_readsItem 97 = .ok (.aload_n 0, 1) := by decide +kernel
theorem dX6_readsItem_98 : decode cX6_readsItem 98 = .ok (.dup, 1) := by decide +kernel
theorem dX6_readsItem_99 : decode cX6_readsItem 99 = .ok (.getfield 182, 3) := by decide +kernel
theorem dX6_readsItem_102 : decode cX6_readsItem 102 = .ok (.iconst 1, 1) := by decide +kernel
theorem dX6_readsItem_103 : decode cX6_readsItem 103 = .ok (.iadd, 1) := by decide +kernel
theorem dX6_readsItem_104 : decode cX6_readsItem 104 = .ok (.putfield 182, 3) := by decide +kernel
theorem dX6_readsItem_107 : decode cX6_readsItem 107 = .ok (.aload_n 0, 1) := by decide +kernel
theorem dX6_readsItem_108 : decode cX6_readsItem 108 = .ok (.iload_n 1, 1) := by decide +kernel
theorem dX6_readsItem_109 : decode cX6_readsItem 109 = .ok (.iload_n 2, 1) := by decide +kernel
theorem dX6_readsItem_110 : decode cX6_readsItem 110 = .ok (.invokevirtual 88, 3) := by decide +kernel
theorem dX6_readsItem_113 : decode cX6_readsItem 113 = .ok (.iload_n 3, 1) := by decide +kernel
theorem dX6_readsItem_114 : decode cX6_readsItem 114 = .ok (.ireturn, 1) := by decide +kernel
set_option maxRecDepth 20000 in
theorem ggX6_parse_X6_lays : GoodIn wsX6_parse wsX6_lays := goodIn_r _ [10, 5, 4, 48, 49, 50, 51, 52, 53, 54, 55, 56, 57, 58, 59, 60] (by decide +kernel) (by decide +kernel)
set_option maxRecDepth 20000 in
theorem gX6_parse_X6_lays : GoodIn wsX6_parse (wsV RX6 167 RX6 yX6_lays wsX6_lays) := goodIn_app (goodIn_of _ (by decide +kernel)) ggX6_parse_X6_lays
set_option maxRecDepth 20000 in
theorem ggX6_parse_X6_readsItem : GoodIn wsX6_parse wsX6_readsItem := goodIn_r _ [14, 15, 2, 3, 16, 4, 17, 18, 19, 9, 20, 21, 22, 23, 24, 25, 26, 27, 28, 29, 30, 31, 32, 33, 34, 35, 36, 37, 48, 49, 50, 51, 52, 53, 54, 55, 56, 57, 58, 59, 60] (by decide +kernel) (by decide +kernel)
set_option maxRecDepth 20000 in
theorem gX6_parse_X6_readsItem : GoodIn wsX6_parse (wsV RX6 202 RX6 yX6_readsItem wsX6_readsItem) := goodIn_app (goodIn_of _ (by decide +kernel)) ggX6_parse_X6_readsItem
set_option maxRecDepth 20000 in
theorem ggX6_parse_X6_takesBack : GoodIn wsX6_parse wsX6_takesBack := goodIn_r _ [41, 4, 5, 48, 49, 50, 51, 52, 53, 54, 55, 56, 57, 58, 59, 60] (by decide +kernel) (by decide +kernel)
set_option maxRecDepth 20000 in
theorem gX6_parse_X6_takesBack : GoodIn wsX6_parse (wsV RX6 164 RX6 yX6_takesBack wsX6_takesBack) := goodIn_app (goodIn_of _ (by decide +kernel)) ggX6_parse_X6_takesBack
set_option maxRecDepth 20000 in
theorem ggX6_parse_X6_save : GoodIn wsX6_parse wsX6_save := goodIn_r _ [45, 46, 47, 4, 48, 49, 50, 51, 52, 53, 54, 55, 56, 57, 58, 59, 60] (by decide +kernel) (by decide +kernel)
set_option maxRecDepth 20000 in
theorem gX6_parse_X6_save : GoodIn wsX6_parse (wsV RX6 56 RX6 yX6_save wsX6_save) := goodIn_app (goodIn_of _ (by decide +kernel)) ggX6_parse_X6_save
theorem dX6_parse_0 : decode cX6_parse 0 = .ok (.aload_n 0, 1) := by decide +kernel
theorem dX6_parse_1 : decode cX6_parse 1 = .ok (.iconst 0, 1) := by decide +kernel
theorem dX6_parse_2 : decode cX6_parse 2 = .ok (.putfield 26, 3) := by decide +kernel
theorem dX6_parse_5 : decode cX6_parse 5 = .ok (.aload_n 0, 1) := by decide +kernel
theorem dX6_parse_6 : decode cX6_parse 6 = .ok (.invokevirtual 167, 3) := by decide +kernel
theorem dX6_parse_9 : decode cX6_parse 9 = .ok (.aload_n 0, 1) := by decide +kernel
theorem dX6_parse_10 : decode cX6_parse 10 = .ok (.iconst 0, 1) := by decide +kernel
theorem dX6_parse_11 : decode cX6_parse 11 = .ok (.putfield 182, 3) := by decide +kernel
theorem dX6_parse_14 : decode cX6_parse 14 = .ok (.aload_n 0, 1) := by decide +kernel
theorem dX6_parse_15 : decode cX6_parse 15 = .ok (.getfield 182, 3) := by decide +kernel
theorem dX6_parse_18 : decode cX6_parse 18 = .ok (.aload_n 0, 1) := by decide +kernel
theorem dX6_parse_19 : decode cX6_parse 19 = .ok (.getfield 179, 3) := by decide +kernel
theorem dX6_parse_22 : decode cX6_parse 22 = .ok (.if_icmp .ge 22, 3) := by decide +kernel
theorem dX6_parse_25 : decode cX6_parse 25 = .ok (.aload_n 0, 1) := by decide +kernel
theorem dX6_parse_26 : decode cX6_parse 26 = .ok (.invokevirtual 202, 3) := by decide +kernel
theorem dX6_parse_29 : decode cX6_parse 29 = .ok (.ifCond .ne (-15), 3) := by decide +kernel
theorem dX6_parse_32 : decode cX6_parse 32 = .ok (.aload_n 0, 1) := by decide +kernel
theorem dX6_parse_33 : decode cX6_parse 33 = .ok (.invokevirtual 164, 3) := by decide +kernel
theorem dX6_parse_36 : decode cX6_parse 36 = .ok (.bipush (-10), 2) := by decide +kernel
theorem dX6_parse_38 : decode cX6_parse 38 = .ok (.aload_n 0, 1) := by decide +kernel
theorem dX6_parse_39 : decode cX6_parse 39 = .ok (.getfield 182, 3) := by decide +kernel
theorem dX6_parse_42 : decode cX6_parse 42 = .ok (.isub, 1) := by decide +kernel
theorem dX6_parse_43 : decode cX6_parse 43 = .ok (.ireturn, 1) := by decide +kernel
theorem dX6_parse_44 : decode cX6_parse 44 = .ok (.iconst 0, 1) := by decide +kernel
theorem dX6_parse_45 : decode cX6_parse 45 = .ok (.istore_n 1, 1) := by decide +kernel
theorem dX6_parse_46 : decode cX6_parse 46 = .ok (.iload_n 1, 1) := by decide +kernel
theorem dX6_parse_47 : decode cX6_parse 47 = .ok (.sipush 1163, 3) := by decide +kernel
theorem dX6_parse_50 : decode cX6_parse 50 = .ok (.if_icmp .ge 35, 3) := by decide +kernel
theorem dX6_parse_53 : decode cX6_parse 53 = .ok (.aload_n 0, 1) := by decide +kernel
theorem dX6_parse_54 : decode cX6_parse 54 = .ok (.getfield 7, 3) := by decide +kernel
theorem dX6_parse_57 : decode cX6_parse 57 = .ok (.iload_n 1, 1) := by decide +kernel
theorem dX6_parse_58 : decode cX6_parse 58 = .ok (.iaload, 1) := by decide +kernel
theorem dX6_parse_59 : decode cX6_parse 59 = .ok (.istore_n 2, 1) := by decide +kernel
theorem dX6_parse_60 : decode cX6_parse 60 = .ok (.aload_n 0, 1) := by decide +kernel
theorem dX6_parse_61 : decode cX6_parse 61 = .ok (.getfield 7, 3) := by decide +kernel
theorem dX6_parse_64 : decode cX6_parse 64 = .ok (.iload_n 1, 1) := by decide +kernel
theorem dX6_parse_65 : decode cX6_parse 65 = .ok (.aload_n 0, 1) := by decide +kernel
theorem dX6_parse_66 : decode cX6_parse 66 = .ok (.getfield 16, 3) := by decide +kernel
theorem dX6_parse_69 : decode cX6_parse 69 = .ok (.iload_n 1, 1) := by decide +kernel
theorem dX6_parse_70 : decode cX6_parse 70 = .ok (.iaload, 1) := by decide +kernel
theorem dX6_parse_71 : decode cX6_parse 71 = .ok (.iastore, 1) := by decide +kernel
theorem dX6_parse_72 : decode cX6_parse 72 = .ok (.aload_n 0, 1) := by decide +kernel
theorem dX6_parse_73 : decode cX6_parse 73 = .ok (.getfield 16, 3) := by decide +kernel
theorem dX6_parse_76 : decode cX6_parse 76 = .ok (.iload_n 1, 1) := by decide +kernel
theorem dX6_parse_77 : decode cX6_parse 77 = .ok (.iload_n 2, 1) := by decide +kernel
theorem dX6_parse_78 : decode cX6_parse 78 = .ok (.iastore, 1) := by decide +kernel
theorem dX6_parse_79 : decode cX6_parse 79 = .ok (.iinc 1 1, 3) := by decide +kernel
theorem dX6_parse_82 : decode cX6_parse 82 = .ok (.goto (-36), 3) := by decide +kernel
theorem dX6_parse_85 : decode cX6_parse 85 = .ok (.aload_n 0, 1) := by decide +kernel
theorem dX6_parse_86 : decode cX6_parse 86 = .ok (.invokevirtual 56, 3) := by decide +kernel
theorem dX6_parse_89 : decode cX6_parse 89 = .ok (.aload_n 0, 1) := by decide +kernel
theorem dX6_parse_90 : decode cX6_parse 90 = .ok (.invokevirtual 164, 3) := by decide +kernel
theorem dX6_parse_93 : decode cX6_parse 93 = .ok (.aload_n 0, 1) := by decide +kernel
theorem dX6_parse_94 : decode cX6_parse 94 = .ok (.getfield 7, 3) := by decide +kernel
theorem dX6_parse_97 : decode cX6_parse 97 = .ok (.bipush 8, 2) := by decide +kernel
theorem dX6_parse_99 : decode cX6_parse 99 = .ok (.iaload, 1) := by decide +kernel
theorem dX6_parse_100 : decode cX6_parse 100 = .ok (.ireturn, 1) := by decide +kernel
set_option maxRecDepth 20000 in
theorem ggX6_undo_X6_goes : GoodIn wsX6_undo wsX6_goes := goodIn_r _ [8, 9, 10, 11, 12, 13, 14, 15, 16, 17, 18, 19, 20, 21, 22] (by decide +kernel) (by decide +kernel)
set_option maxRecDepth 20000 in
theorem gX6_undo_X6_goes : GoodIn wsX6_undo (wsV RX6 52 RX6 yX6_goes wsX6_goes) := goodIn_app (goodIn_of _ (by decide +kernel)) ggX6_undo_X6_goes
theorem dX6_undo_0 : decode cX6_undo 0 = .ok (.aload_n 0, 1) := by decide +kernel
theorem dX6_undo_1 : decode cX6_undo 1 = .ok (.aload_n 0, 1) := by decide +kernel
theorem dX6_undo_2 : decode cX6_undo 2 = .ok (.getfield 30, 3) := by decide +kernel
theorem dX6_undo_5 : decode cX6_undo 5 = .ok (.ifCond .le 7, 3) := by decide +kernel
theorem dX6_undo_8 : decode cX6_undo 8 = .ok (.iconst 1, 1) := by decide +kernel
theorem dX6_undo_9 : decode cX6_undo 9 = .ok (.goto 4, 3) := by decide +kernel
theorem dX6_undo_12 : decode cX6_undo 12 = .ok (.iconst 0, 1) := by decide +kernel
theorem dX6_undo_13 : decode cX6_undo 13 = .ok (.iconst 1, 1) := by decide +kernel
theorem dX6_undo_14 : decode cX6_undo 14 = .ok (.invokevirtual 52, 3) := by decide +kernel
theorem dX6_undo_17 : decode cX6_undo 17 = .ok (.ifCond .ne 5, 3) := by decide +kernel
theorem dX6_undo_20 : decode cX6_undo 20 = .ok (.iconst 0, 1) := by decide +kernel
theorem dX6_undo_21 : decode cX6_undo 21 = .ok (.ireturn, 1) := by decide +kernel
theorem dX6_undo_22 : decode cX6_undo 22 = .ok (.aload_n 0, 1) := by decide +kernel
theorem dX6_undo_23 : decode cX6_undo 23 = .ok (.dup, 1) := by decide +kernel
theorem dX6_undo_24 : decode cX6_undo 24 = .ok (.getfield 30, 3) := by decide +kernel
theorem dX6_undo_27 : decode cX6_undo 27 = .ok (.iconst 1, 1) := by decide +kernel
theorem dX6_undo_28 : decode cX6_undo 28 = .ok (.isub, 1) := by decide +kernel
theorem dX6_undo_29 : decode cX6_undo 29 = .ok (.putfield 30, 3) := by decide +kernel
theorem dX6_undo_32 : decode cX6_undo 32 = .ok (.iconst 0, 1) := by decide +kernel
theorem dX6_undo_33 : decode cX6_undo 33 = .ok (.istore_n 1, 1) := by decide +kernel
theorem dX6_undo_34 : decode cX6_undo 34 = .ok (.iload_n 1, 1) := by decide +kernel
theorem dX6_undo_35 : decode cX6_undo 35 = .ok (.sipush 1163, 3) := by decide +kernel
theorem dX6_undo_38 : decode cX6_undo 38 = .ok (.if_icmp .ge 30, 3) := by decide +kernel
theorem dX6_undo_41 : decode cX6_undo 41 = .ok (.aload_n 0, 1) := by decide +kernel
theorem dX6_undo_42 : decode cX6_undo 42 = .ok (.getfield 7, 3) := by decide +kernel
theorem dX6_undo_45 : decode cX6_undo 45 = .ok (.iload_n 1, 1) := by decide +kernel
theorem dX6_undo_46 : decode cX6_undo 46 = .ok (.aload_n 0, 1) := by decide +kernel
theorem dX6_undo_47 : decode cX6_undo 47 = .ok (.getfield 13, 3) := by decide +kernel
theorem dX6_undo_50 : decode cX6_undo 50 = .ok (.sipush 1163, 3) := by decide +kernel
theorem dX6_undo_53 : decode cX6_undo 53 = .ok (.aload_n 0, 1) := by decide +kernel
theorem dX6_undo_54 : decode cX6_undo 54 = .ok (.getfield 30, 3) := by decide +kernel
theorem dX6_undo_57 : decode cX6_undo 57 = .ok (.imul, 1) := by decide +kernel
theorem dX6_undo_58 : decode cX6_undo 58 = .ok (.iload_n 1, 1) := by decide +kernel
theorem dX6_undo_59 : decode cX6_undo 59 = .ok (.iadd, 1) := by decide +kernel
theorem dX6_undo_60 : decode cX6_undo 60 = .ok (.iaload, 1) := by decide +kernel
theorem dX6_undo_61 : decode cX6_undo 61 = .ok (.iastore, 1) := by decide +kernel
theorem dX6_undo_62 : decode cX6_undo 62 = .ok (.iinc 1 1, 3) := by decide +kernel
theorem dX6_undo_65 : decode cX6_undo 65 = .ok (.goto (-31), 3) := by decide +kernel
theorem dX6_undo_68 : decode cX6_undo 68 = .ok (.aload_n 0, 1) := by decide +kernel
theorem dX6_undo_69 : decode cX6_undo 69 = .ok (.getfield 30, 3) := by decide +kernel
theorem dX6_undo_72 : decode cX6_undo 72 = .ok (.ireturn, 1) := by decide +kernel
theorem dX6_sums_0 : decode cX6_sums 0 = .ok (.ldc2_w 205, 3) := by decide +kernel
theorem dX6_sums_3 : decode cX6_sums 3 = .ok (.lload_n 0, 1) := by decide +kernel
theorem dX6_sums_4 : decode cX6_sums 4 = .ok (.lmul, 1) := by decide +kernel
theorem dX6_sums_5 : decode cX6_sums 5 = .ok (.lload_n 2, 1) := by decide +kernel
theorem dX6_sums_6 : decode cX6_sums 6 = .ok (.ladd, 1) := by decide +kernel
theorem dX6_sums_7 : decode cX6_sums 7 = .ok (.lreturn, 1) := by decide +kernel
set_option maxRecDepth 20000 in
theorem ggX6_withPlaces_X6_sums : GoodIn wsX6_withPlaces wsX6_sums := goodIn_r _ [5, 6] (by decide +kernel) (by decide +kernel)
set_option maxRecDepth 20000 in
theorem gX6_withPlaces_X6_sums : GoodIn wsX6_withPlaces (va_wsS RX6 207 yX6_sums wsX6_sums) := goodIn_app (goodIn_of _ (by decide +kernel)) ggX6_withPlaces_X6_sums
theorem dX6_withPlaces_0 : decode cX6_withPlaces 0 = .ok (.lload_n 1, 1) := by decide +kernel
theorem dX6_withPlaces_1 : decode cX6_withPlaces 1 = .ok (.lstore 5, 2) := by decide +kernel
theorem dX6_withPlaces_3 : decode cX6_withPlaces 3 = .ok (.iload_n 3, 1) := by decide +kernel
theorem dX6_withPlaces_4 : decode cX6_withPlaces 4 = .ok (.istore 7, 2) := by decide +kernel
theorem dX6_withPlaces_6 : decode cX6_withPlaces 6 = .ok (.iload 7, 2) := by decide +kernel
theorem dX6_withPlaces_8 : decode cX6_withPlaces 8 = .ok (.iload_n 3, 1) := by decide +kernel
theorem dX6_withPlaces_9 : decode cX6_withPlaces 9 = .ok (.iload 4, 2) := by decide +kernel
theorem dX6_withPlaces_11 : decode cX6_withPlaces 11 = .ok (.iadd, 1) := by decide +kernel
theorem dX6_withPlaces_12 : decode cX6_withPlaces 12 = .ok (.if_icmp .ge 24, 3) := by decide +kernel
theorem dX6_withPlaces_15 : decode cX6_withPlaces 15 = .ok (.lload 5, 2) := by decide +kernel
theorem dX6_withPlaces_17 : decode cX6_withPlaces 17 = .ok (.aload_n 0, 1) := by decide +kernel
theorem dX6_withPlaces_18 : decode cX6_withPlaces 18 = .ok (.getfield 7, 3) := by decide +kernel
theorem dX6_withPlaces_21 : decode cX6_withPlaces 21 = .ok (.iload 7, 2) := by decide +kernel
theorem dX6_withPlaces_23 : decode cX6_withPlaces 23 = .ok (.iaload, 1) := by decide +kernel
theorem dX6_withPlaces_24 : decode cX6_withPlaces 24 = .ok (.i2l, 1) := by decide +kernel
theorem dX6_withPlaces_25 : decode cX6_withPlaces 25 = .ok (.invokestatic 207, 3) := by decide +kernel
theorem dX6_withPlaces_28 : decode cX6_withPlaces 28 = .ok (.lstore 5, 2) := by decide +kernel
theorem dX6_withPlaces_30 : decode cX6_withPlaces 30 = .ok (.iinc 7 1, 3) := by decide +kernel
theorem dX6_withPlaces_33 : decode cX6_withPlaces 33 = .ok (.goto (-27), 3) := by decide +kernel
theorem dX6_withPlaces_36 : decode cX6_withPlaces 36 = .ok (.lload 5, 2) := by decide +kernel
theorem dX6_withPlaces_38 : decode cX6_withPlaces 38 = .ok (.lreturn, 1) := by decide +kernel
set_option maxRecDepth 20000 in
theorem ggX6_digest_X6_sums : GoodIn wsX6_digest wsX6_sums := goodIn_r _ [9, 10] (by decide +kernel) (by decide +kernel)
set_option maxRecDepth 20000 in
theorem gX6_digest_X6_sums : GoodIn wsX6_digest (va_wsS RX6 207 yX6_sums wsX6_sums) := goodIn_app (goodIn_of _ (by decide +kernel)) ggX6_digest_X6_sums
set_option maxRecDepth 20000 in
theorem ggX6_digest_X6_withPlaces : GoodIn wsX6_digest wsX6_withPlaces := goodIn_r _ [14, 4, 6, 7, 8, 9, 10, 19, 20, 21, 22, 23, 24, 25, 26, 27, 28, 29, 30, 31] (by decide +kernel) (by decide +kernel)
set_option maxRecDepth 20000 in
theorem gX6_digest_X6_withPlaces : GoodIn wsX6_digest (wsV RX6 213 RX6 yX6_withPlaces wsX6_withPlaces) := goodIn_app (goodIn_of _ (by decide +kernel)) ggX6_digest_X6_withPlaces
set_option maxRecDepth 20000 in
theorem ggX6_digest_X6_sumOf : GoodIn wsX6_digest wsX6_sumOf := goodIn_r _ [18, 4, 19, 20, 21, 22, 23, 24, 25, 26, 27, 28, 29, 30, 31] (by decide +kernel) (by decide +kernel)
set_option maxRecDepth 20000 in
theorem gX6_digest_X6_sumOf : GoodIn wsX6_digest (wsV RX6 154 RX6 yX6_sumOf wsX6_sumOf) := goodIn_app (goodIn_of _ (by decide +kernel)) ggX6_digest_X6_sumOf
theorem dX6_digest_0 : decode cX6_digest 0 = .ok (.aload_n 0, 1) := by decide +kernel
theorem dX6_digest_1 : decode cX6_digest 1 = .ok (.iconst 0, 1) := by decide +kernel
theorem dX6_digest_2 : decode cX6_digest 2 = .ok (.putfield 26, 3) := by decide +kernel
theorem dX6_digest_5 : decode cX6_digest 5 = .ok (.aload_n 0, 1) := by decide +kernel
theorem dX6_digest_6 : decode cX6_digest 6 = .ok (.ldc2_w 211, 3) := by decide +kernel
theorem dX6_digest_9 : decode cX6_digest 9 = .ok (.aload_n 0, 1) := by decide +kernel
theorem dX6_digest_10 : decode cX6_digest 10 = .ok (.getfield 179, 3) := by decide +kernel
theorem dX6_digest_13 : decode cX6_digest 13 = .ok (.i2l, 1) := by decide +kernel
theorem dX6_digest_14 : decode cX6_digest 14 = .ok (.invokestatic 207, 3) := by decide +kernel
theorem dX6_digest_17 : decode cX6_digest 17 = .ok (.iconst 0, 1) := by decide +kernel
theorem dX6_digest_18 : decode cX6_digest 18 = .ok (.bipush 12, 2) := by decide +kernel
theorem dX6_digest_20 : decode cX6_digest 20 = .ok (.invokevirtual 213, 3) := by decide +kernel
theorem dX6_digest_23 : decode cX6_digest 23 = .ok (.lstore_n 1, 1) := by decide +kernel
theorem dX6_digest_24 : decode cX6_digest 24 = .ok (.aload_n 0, 1) := by decide +kernel
theorem dX6_digest_25 : decode cX6_digest 25 = .ok (.lload_n 1, 1) := by decide +kernel
theorem dX6_digest_26 : decode cX6_digest 26 = .ok (.bipush 13, 2) := by decide +kernel
theorem dX6_digest_28 : decode cX6_digest 28 = .ok (.iconst 5, 1) := by decide +kernel
theorem dX6_digest_29 : decode cX6_digest 29 = .ok (.aload_n 0, 1) := by decide +kernel
theorem dX6_digest_30 : decode cX6_digest 30 = .ok (.getfield 7, 3) := by decide +kernel
theorem dX6_digest_33 : decode cX6_digest 33 = .ok (.bipush 6, 2) := by decide +kernel
theorem dX6_digest_35 : decode cX6_digest 35 = .ok (.iaload, 1) := by decide +kernel
theorem dX6_digest_36 : decode cX6_digest 36 = .ok (.imul, 1) := by decide +kernel
theorem dX6_digest_37 : decode cX6_digest 37 = .ok (.invokevirtual 213, 3) := by decide +kernel
theorem dX6_digest_40 : decode cX6_digest 40 = .ok (.lstore_n 1, 1) := by decide +kernel
theorem dX6_digest_41 : decode cX6_digest 41 = .ok (.aload_n 0, 1) := by decide +kernel
theorem dX6_digest_42 : decode cX6_digest 42 = .ok (.lload_n 1, 1) := by decide +kernel
theorem dX6_digest_43 : decode cX6_digest 43 = .ok (.bipush 43, 2) := by decide +kernel
theorem dX6_digest_45 : decode cX6_digest 45 = .ok (.iconst 4, 1) := by decide +kernel
theorem dX6_digest_46 : decode cX6_digest 46 = .ok (.aload_n 0, 1) := by decide +kernel
theorem dX6_digest_47 : decode cX6_digest 47 = .ok (.getfield 7, 3) := by decide +kernel
theorem dX6_digest_50 : decode cX6_digest 50 = .ok (.bipush 7, 2) := by decide +kernel
theorem dX6_digest_52 : decode cX6_digest 52 = .ok (.iaload, 1) := by decide +kernel
theorem dX6_digest_53 : decode cX6_digest 53 = .ok (.imul, 1) := by decide +kernel
theorem dX6_digest_54 : decode cX6_digest 54 = .ok (.invokevirtual 213, 3) := by decide +kernel
theorem dX6_digest_57 : decode cX6_digest 57 = .ok (.lstore_n 1, 1) := by decide +kernel
theorem dX6_digest_58 : decode cX6_digest 58 = .ok (.aload_n 0, 1) := by decide +kernel
theorem dX6_digest_59 : decode cX6_digest 59 = .ok (.lload_n 1, 1) := by decide +kernel
theorem dX6_digest_60 : decode cX6_digest 60 = .ok (.bipush 63, 2) := by decide +kernel
theorem dX6_digest_62 : decode cX6_digest 62 = .ok (.aload_n 0, 1) := by decide +kernel
theorem dX6_digest_63 : decode cX6_digest 63 = .ok (.getfield 7, 3) := by decide +kernel
theorem dX6_digest_66 : decode cX6_digest 66 = .ok (.bipush 8, 2) := by decide +kernel
theorem dX6_digest_68 : decode cX6_digest 68 = .ok (.iaload, 1) := by decide +kernel
theorem dX6_digest_69 : decode cX6_digest 69 = .ok (.invokevirtual 213, 3) := by decide +kernel
theorem dX6_digest_72 : decode cX6_digest 72 = .ok (.lstore_n 1, 1) := by decide +kernel
theorem dX6_digest_73 : decode cX6_digest 73 = .ok (.aload_n 0, 1) := by decide +kernel
theorem dX6_digest_74 : decode cX6_digest 74 = .ok (.lload_n 1, 1) := by decide +kernel
theorem dX6_digest_75 : decode cX6_digest 75 = .ok (.sipush 163, 3) := by decide +kernel
theorem dX6_digest_78 : decode cX6_digest 78 = .ok (.bipush 10, 2) := by decide +kernel
theorem dX6_digest_80 : decode cX6_digest 80 = .ok (.aload_n 0, 1) := by decide +kernel
theorem dX6_digest_81 : decode cX6_digest 81 = .ok (.getfield 7, 3) := by decide +kernel
theorem dX6_digest_84 : decode cX6_digest 84 = .ok (.bipush 9, 2) := by decide +kernel
theorem dX6_digest_86 : decode cX6_digest 86 = .ok (.iaload, 1) := by decide +kernel
theorem dX6_digest_87 : decode cX6_digest 87 = .ok (.imul, 1) := by decide +kernel
theorem dX6_digest_88 : decode cX6_digest 88 = .ok (.invokevirtual 213, 3) := by decide +kernel
theorem dX6_digest_91 : decode cX6_digest 91 = .ok (.lstore_n 1, 1) := by decide +kernel
theorem dX6_digest_92 : decode cX6_digest 92 = .ok (.iconst 1, 1) := by decide +kernel
theorem dX6_digest_93 : decode cX6_digest 93 = .ok (.istore_n 3, 1) := by decide +kernel
theorem dX6_digest_94 : decode cX6_digest 94 = .ok (.iload_n 3, 1) := by decide +kernel
theorem dX6_digest_95 : decode cX6_digest 95 = .ok (.bipush 10, 2) := by decide +kernel
theorem dX6_digest_97 : decode cX6_digest 97 = .ok (.if_icmp .ge 19, 3) := by decide +kernel
theorem dX6_digest_100 : decode cX6_digest 100 = .ok (.lload_n 1, 1) := by decide +kernel
theorem dX6_digest_101 : decode cX6_digest 101 = .ok (.aload_n 0, 1) := by decide +kernel
theorem dX6_digest_102 : decode cX6_digest 102 = .ok (.iload_n 3, 1) := by decide +kernel
theorem dX6_digest_103 : decode cX6_digest 103 = .ok (.invokevirtual 154, 3) := by decide +kernel
theorem dX6_digest_106 : decode cX6_digest 106 = .ok (.invokestatic 207, 3) := by decide +kernel
theorem dX6_digest_109 : decode cX6_digest 109 = .ok (.lstore_n 1, 1) := by decide +kernel
theorem dX6_digest_110 : decode cX6_digest 110 = .ok (.iinc 3 1, 3) := by decide +kernel
theorem dX6_digest_113 : decode cX6_digest 113 = .ok (.goto (-19), 3) := by decide +kernel
theorem dX6_digest_116 : decode cX6_digest 116 = .ok (.lload_n 1, 1) := by decide +kernel
theorem dX6_digest_117 : decode cX6_digest 117 = .ok (.aload_n 0, 1) := by decide +kernel
theorem dX6_digest_118 : decode cX6_digest 118 = .ok (.getfield 30, 3) := by decide +kernel
theorem dX6_digest_121 : decode cX6_digest 121 = .ok (.i2l, 1) := by decide +kernel
theorem dX6_digest_122 : decode cX6_digest 122 = .ok (.invokestatic 207, 3) := by decide +kernel
theorem dX6_digest_125 : decode cX6_digest 125 = .ok (.lreturn, 1) := by decide +kernel
