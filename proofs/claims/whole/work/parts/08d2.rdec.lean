theorem dX12_proofOnTape_54 : decode cX12_proofOnTape 54 = .ok (.iconst 0, 1) := by decide +kernel
theorem dX12_proofOnTape_55 : decode cX12_proofOnTape 55 = .ok (.ireturn, 1) := by decide +kernel
theorem dX12_partOnTape_0 : decode cX12_partOnTape 0 = .ok (.iconst 0, 1) := by decide +kernel
theorem dX12_partOnTape_1 : decode cX12_partOnTape 1 = .ok (.istore_n 3, 1) := by decide +kernel
theorem dX12_partOnTape_2 : decode cX12_partOnTape 2 = .ok (.iload_n 3, 1) := by decide +kernel
theorem dX12_partOnTape_3 : decode cX12_partOnTape 3 = .ok (.iload_n 2, 1) := by decide +kernel
theorem dX12_partOnTape_4 : decode cX12_partOnTape 4 = .ok (.if_icmp .ge 21, 3) := by decide +kernel
theorem dX12_partOnTape_7 : decode cX12_partOnTape 7 = .ok (.aload_n 0, 1) := by decide +kernel
theorem dX12_partOnTape_8 : decode cX12_partOnTape 8 = .ok (.aload_n 0, 1) := by decide +kernel
theorem dX12_partOnTape_9 : decode cX12_partOnTape 9 = .ok (.getfield 130, 3) := by decide +kernel
theorem dX12_partOnTape_12 : decode cX12_partOnTape 12 = .ok (.iload_n 1, 1) := by decide +kernel
theorem dX12_partOnTape_13 : decode cX12_partOnTape 13 = .ok (.iload_n 3, 1) := by decide +kernel
theorem dX12_partOnTape_14 : decode cX12_partOnTape 14 = .ok (.iadd, 1) := by decide +kernel
theorem dX12_partOnTape_15 : decode cX12_partOnTape 15 = .ok (.iaload, 1) := by decide +kernel
theorem dX12_partOnTape_16 : decode cX12_partOnTape 16 = .ok (.invokevirtual 124, 3) := by decide +kernel
theorem dX12_partOnTape_19 : decode cX12_partOnTape 19 = .ok (.iinc 3 1, 3) := by decide +kernel
theorem dX12_partOnTape_22 : decode cX12_partOnTape 22 = .ok (.goto (-20), 3) := by decide +kernel
theorem dX12_partOnTape_25 : decode cX12_partOnTape 25 = .ok (.aload_n 0, 1) := by decide +kernel
theorem dX12_partOnTape_26 : decode cX12_partOnTape 26 = .ok (.invokevirtual 127, 3) := by decide +kernel
theorem dX12_partOnTape_29 : decode cX12_partOnTape 29 = .ok (.return_, 1) := by decide +kernel
theorem dX12_seal_0 : decode cX12_seal 0 = .ok (.iload_n 1, 1) := by decide +kernel
theorem dX12_seal_1 : decode cX12_seal 1 = .ok (.ifCond .lt 25, 3) := by decide +kernel
theorem dX12_seal_4 : decode cX12_seal 4 = .ok (.iload_n 2, 1) := by decide +kernel
theorem dX12_seal_5 : decode cX12_seal 5 = .ok (.aload_n 0, 1) := by decide +kernel
theorem dX12_seal_6 : decode cX12_seal 6 = .ok (.getfield 133, 3) := by decide +kernel
theorem dX12_seal_9 : decode cX12_seal 9 = .ok (.if_icmp .gt 17, 3) := by decide +kernel
theorem dX12_seal_12 : decode cX12_seal 12 = .ok (.iload_n 2, 1) := by decide +kernel
theorem dX12_seal_13 : decode cX12_seal 13 = .ok (.bipush 101, 2) := by decide +kernel
theorem dX12_seal_15 : decode cX12_seal 15 = .ok (.if_icmp .lt 11, 3) := by decide +kernel
theorem dX12_seal_18 : decode cX12_seal 18 = .ok (.iload_n 1, 1) := by decide +kernel
theorem dX12_seal_19 : decode cX12_seal 19 = .ok (.iload_n 2, 1) := by decide +kernel
theorem dX12_seal_20 : decode cX12_seal 20 = .ok (.bipush 101, 2) := by decide +kernel
theorem dX12_seal_22 : decode cX12_seal 22 = .ok (.isub, 1) := by decide +kernel
theorem dX12_seal_23 : decode cX12_seal 23 = .ok (.if_icmp .le 5, 3) := by decide +kernel
theorem dX12_seal_26 : decode cX12_seal 26 = .ok (.iconst (-1), 1) := by decide +kernel
theorem dX12_seal_27 : decode cX12_seal 27 = .ok (.ireturn, 1) := by decide +kernel
theorem dX12_seal_28 : decode cX12_seal 28 = .ok (.aload_n 0, 1) := by decide +kernel
theorem dX12_seal_29 : decode cX12_seal 29 = .ok (.getfield 130, 3) := by decide +kernel
theorem dX12_seal_32 : decode cX12_seal 32 = .ok (.iload_n 1, 1) := by decide +kernel
theorem dX12_seal_33 : decode cX12_seal 33 = .ok (.bipush 100, 2) := by decide +kernel
theorem dX12_seal_35 : decode cX12_seal 35 = .ok (.iadd, 1) := by decide +kernel
theorem dX12_seal_36 : decode cX12_seal 36 = .ok (.iaload, 1) := by decide +kernel
theorem dX12_seal_37 : decode cX12_seal 37 = .ok (.istore 4, 2) := by decide +kernel
theorem dX12_seal_39 : decode cX12_seal 39 = .ok (.iload_n 1, 1) := by decide +kernel
theorem dX12_seal_40 : decode cX12_seal 40 = .ok (.bipush 101, 2) := by decide +kernel
theorem dX12_seal_42 : decode cX12_seal 42 = .ok (.iadd, 1) := by decide +kernel
theorem dX12_seal_43 : decode cX12_seal 43 = .ok (.istore 5, 2) := by decide +kernel
theorem dX12_seal_45 : decode cX12_seal 45 = .ok (.aload_n 0, 1) := by decide +kernel
theorem dX12_seal_46 : decode cX12_seal 46 = .ok (.invokevirtual 112, 3) := by decide +kernel
theorem dX12_seal_49 : decode cX12_seal 49 = .ok (.iconst 0, 1) := by decide +kernel
theorem dX12_seal_50 : decode cX12_seal 50 = .ok (.istore 6, 2) := by decide +kernel
theorem dX12_seal_52 : decode cX12_seal 52 = .ok (.iload 6, 2) := by decide +kernel
theorem dX12_seal_54 : decode cX12_seal 54 = .ok (.iload 4, 2) := by decide +kernel
theorem dX12_seal_56 : decode cX12_seal 56 = .ok (.if_icmp .ge 47, 3) := by decide +kernel
theorem dX12_seal_59 : decode cX12_seal 59 = .ok (.iload 4, 2) := by decide +kernel
theorem dX12_seal_61 : decode cX12_seal 61 = .ok (.iconst 2, 1) := by decide +kernel
theorem dX12_seal_62 : decode cX12_seal 62 = .ok (.if_icmp .gt 41, 3) := by decide +kernel
theorem dX12_seal_65 : decode cX12_seal 65 = .ok (.aload_n 0, 1) := by decide +kernel
theorem dX12_seal_66 : decode cX12_seal 66 = .ok (.iload 5, 2) := by decide +kernel
theorem dX12_seal_68 : decode cX12_seal 68 = .ok (.iload_n 2, 1) := by decide +kernel
theorem dX12_seal_69 : decode cX12_seal 69 = .ok (.invokevirtual 143, 3) := by decide +kernel
theorem dX12_seal_72 : decode cX12_seal 72 = .ok (.istore 7, 2) := by decide +kernel
theorem dX12_seal_74 : decode cX12_seal 74 = .ok (.iload 7, 2) := by decide +kernel
theorem dX12_seal_76 : decode cX12_seal 76 = .ok (.ifCond .ne 6, 3) := by decide +kernel
theorem dX12_seal_79 : decode cX12_seal 79 = .ok (.goto 24, 3) := by decide +kernel
theorem dX12_seal_82 : decode cX12_seal 82 = .ok (.aload_n 0, 1) := by decide +kernel
theorem dX12_seal_83 : decode cX12_seal 83 = .ok (.iload 5, 2) := by decide +kernel
theorem dX12_seal_85 : decode cX12_seal 85 = .ok (.iload 7, 2) := by decide +kernel
theorem dX12_seal_87 : decode cX12_seal 87 = .ok (.invokevirtual 146, 3) := by decide +kernel
theorem dX12_seal_90 : decode cX12_seal 90 = .ok (.iload 5, 2) := by decide +kernel
theorem dX12_seal_92 : decode cX12_seal 92 = .ok (.iload 7, 2) := by decide +kernel
theorem dX12_seal_94 : decode cX12_seal 94 = .ok (.iadd, 1) := by decide +kernel
theorem dX12_seal_95 : decode cX12_seal 95 = .ok (.istore 5, 2) := by decide +kernel
theorem dX12_seal_97 : decode cX12_seal 97 = .ok (.iinc 6 1, 3) := by decide +kernel
theorem dX12_seal_100 : decode cX12_seal 100 = .ok (.goto (-48), 3) := by decide +kernel
theorem dX12_seal_103 : decode cX12_seal 103 = .ok (.iload 4, 2) := by decide +kernel
theorem dX12_seal_105 : decode cX12_seal 105 = .ok (.iconst 2, 1) := by decide +kernel
theorem dX12_seal_106 : decode cX12_seal 106 = .ok (.if_icmp .gt 12, 3) := by decide +kernel
theorem dX12_seal_109 : decode cX12_seal 109 = .ok (.aload_n 0, 1) := by decide +kernel
theorem dX12_seal_110 : decode cX12_seal 110 = .ok (.getfield 78, 3) := by decide +kernel
theorem dX12_seal_113 : decode cX12_seal 113 = .ok (.iload 4, 2) := by decide +kernel
theorem dX12_seal_115 : decode cX12_seal 115 = .ok (.if_icmp .ge 23, 3) := by decide +kernel
theorem dX12_seal_118 : decode cX12_seal 118 = .ok (.aload_n 0, 1) := by decide +kernel
theorem dX12_seal_119 : decode cX12_seal 119 = .ok (.invokevirtual 112, 3) := by decide +kernel
theorem dX12_seal_122 : decode cX12_seal 122 = .ok (.iload_n 1, 1) := by decide +kernel
theorem dX12_seal_123 : decode cX12_seal 123 = .ok (.bipush 101, 2) := by decide +kernel
theorem dX12_seal_125 : decode cX12_seal 125 = .ok (.iadd, 1) := by decide +kernel
theorem dX12_seal_126 : decode cX12_seal 126 = .ok (.istore 5, 2) := by decide +kernel
theorem dX12_seal_128 : decode cX12_seal 128 = .ok (.aload_n 0, 1) := by decide +kernel
theorem dX12_seal_129 : decode cX12_seal 129 = .ok (.getfield 130, 3) := by decide +kernel
theorem dX12_seal_132 : decode cX12_seal 132 = .ok (.iload_n 1, 1) := by decide +kernel
theorem dX12_seal_133 : decode cX12_seal 133 = .ok (.bipush 100, 2) := by decide +kernel
theorem dX12_seal_135 : decode cX12_seal 135 = .ok (.iadd, 1) := by decide +kernel
theorem dX12_seal_136 : decode cX12_seal 136 = .ok (.iconst 0, 1) := by decide +kernel
theorem dX12_seal_137 : decode cX12_seal 137 = .ok (.iastore, 1) := by decide +kernel
theorem dX12_seal_138 : decode cX12_seal 138 = .ok (.iload_n 2, 1) := by decide +kernel
theorem dX12_seal_139 : decode cX12_seal 139 = .ok (.iload 5, 2) := by decide +kernel
theorem dX12_seal_141 : decode cX12_seal 141 = .ok (.isub, 1) := by decide +kernel
theorem dX12_seal_142 : decode cX12_seal 142 = .ok (.bipush 7, 2) := by decide +kernel
theorem dX12_seal_144 : decode cX12_seal 144 = .ok (.idiv, 1) := by decide +kernel
theorem dX12_seal_145 : decode cX12_seal 145 = .ok (.bipush 64, 2) := by decide +kernel
theorem dX12_seal_147 : decode cX12_seal 147 = .ok (.if_icmp .ge 13, 3) := by decide +kernel
theorem dX12_seal_150 : decode cX12_seal 150 = .ok (.iload_n 2, 1) := by decide +kernel
theorem dX12_seal_151 : decode cX12_seal 151 = .ok (.iload 5, 2) := by decide +kernel
theorem dX12_seal_153 : decode cX12_seal 153 = .ok (.isub, 1) := by decide +kernel
theorem dX12_seal_154 : decode cX12_seal 154 = .ok (.bipush 7, 2) := by decide +kernel
theorem dX12_seal_156 : decode cX12_seal 156 = .ok (.idiv, 1) := by decide +kernel
theorem dX12_seal_157 : decode cX12_seal 157 = .ok (.goto 5, 3) := by decide +kernel
theorem dX12_seal_160 : decode cX12_seal 160 = .ok (.bipush 64, 2) := by decide +kernel
theorem dX12_seal_162 : decode cX12_seal 162 = .ok (.istore 6, 2) := by decide +kernel
theorem dX12_seal_164 : decode cX12_seal 164 = .ok (.iconst 0, 1) := by decide +kernel
theorem dX12_seal_165 : decode cX12_seal 165 = .ok (.istore 7, 2) := by decide +kernel
theorem dX12_seal_167 : decode cX12_seal 167 = .ok (.iload 7, 2) := by decide +kernel
theorem dX12_seal_169 : decode cX12_seal 169 = .ok (.iload 6, 2) := by decide +kernel
theorem dX12_seal_171 : decode cX12_seal 171 = .ok (.if_icmp .ge 23, 3) := by decide +kernel
theorem dX12_seal_174 : decode cX12_seal 174 = .ok (.aload_n 0, 1) := by decide +kernel
theorem dX12_seal_175 : decode cX12_seal 175 = .ok (.iload 5, 2) := by decide +kernel
theorem dX12_seal_177 : decode cX12_seal 177 = .ok (.bipush 7, 2) := by decide +kernel
theorem dX12_seal_179 : decode cX12_seal 179 = .ok (.iload 7, 2) := by decide +kernel
theorem dX12_seal_181 : decode cX12_seal 181 = .ok (.imul, 1) := by decide +kernel
theorem dX12_seal_182 : decode cX12_seal 182 = .ok (.iadd, 1) := by decide +kernel
theorem dX12_seal_183 : decode cX12_seal 183 = .ok (.bipush 7, 2) := by decide +kernel
theorem dX12_seal_185 : decode cX12_seal 185 = .ok (.invokevirtual 146, 3) := by decide +kernel
theorem dX12_seal_188 : decode cX12_seal 188 = .ok (.iinc 7 1, 3) := by decide +kernel
theorem dX12_seal_191 : decode cX12_seal 191 = .ok (.goto (-24), 3) := by decide +kernel
theorem dX12_seal_194 : decode cX12_seal 194 = .ok (.aload_n 0, 1) := by decide +kernel
theorem dX12_seal_195 : decode cX12_seal 195 = .ok (.invokevirtual 150, 3) := by decide +kernel
theorem dX12_seal_198 : decode cX12_seal 198 = .ok (.iconst 0, 1) := by decide +kernel
theorem dX12_seal_199 : decode cX12_seal 199 = .ok (.istore 7, 2) := by decide +kernel
theorem dX12_seal_201 : decode cX12_seal 201 = .ok (.iload 7, 2) := by decide +kernel
theorem dX12_seal_203 : decode cX12_seal 203 = .ok (.bipush 32, 2) := by decide +kernel
theorem dX12_seal_205 : decode cX12_seal 205 = .ok (.if_icmp .ge 27, 3) := by decide +kernel
theorem dX12_seal_208 : decode cX12_seal 208 = .ok (.aload_n 0, 1) := by decide +kernel
theorem dX12_seal_209 : decode cX12_seal 209 = .ok (.getfield 130, 3) := by decide +kernel
theorem dX12_seal_212 : decode cX12_seal 212 = .ok (.iload_n 1, 1) := by decide +kernel
theorem dX12_seal_213 : decode cX12_seal 213 = .ok (.bipush 67, 2) := by decide +kernel
theorem dX12_seal_215 : decode cX12_seal 215 = .ok (.iadd, 1) := by decide +kernel
theorem dX12_seal_216 : decode cX12_seal 216 = .ok (.iload 7, 2) := by decide +kernel
theorem dX12_seal_218 : decode cX12_seal 218 = .ok (.iadd, 1) := by decide +kernel
theorem dX12_seal_219 : decode cX12_seal 219 = .ok (.aload_n 0, 1) := by decide +kernel
theorem dX12_seal_220 : decode cX12_seal 220 = .ok (.iload 7, 2) := by decide +kernel
theorem dX12_seal_222 : decode cX12_seal 222 = .ok (.invokevirtual 152, 3) := by decide +kernel
theorem dX12_seal_225 : decode cX12_seal 225 = .ok (.iastore, 1) := by decide +kernel
theorem dX12_seal_226 : decode cX12_seal 226 = .ok (.iinc 7 1, 3) := by decide +kernel
theorem dX12_seal_229 : decode cX12_seal 229 = .ok (.goto (-28), 3) := by decide +kernel
theorem dX12_seal_232 : decode cX12_seal 232 = .ok (.aload_n 0, 1) := by decide +kernel
theorem dX12_seal_233 : decode cX12_seal 233 = .ok (.getfield 130, 3) := by decide +kernel
theorem dX12_seal_236 : decode cX12_seal 236 = .ok (.iload_n 1, 1) := by decide +kernel
theorem dX12_seal_237 : decode cX12_seal 237 = .ok (.bipush 99, 2) := by decide +kernel
theorem dX12_seal_239 : decode cX12_seal 239 = .ok (.iadd, 1) := by decide +kernel
theorem dX12_seal_240 : decode cX12_seal 240 = .ok (.iload 6, 2) := by decide +kernel
theorem dX12_seal_242 : decode cX12_seal 242 = .ok (.iastore, 1) := by decide +kernel
theorem dX12_seal_243 : decode cX12_seal 243 = .ok (.aload_n 0, 1) := by decide +kernel
theorem dX12_seal_244 : decode cX12_seal 244 = .ok (.iload_n 3, 1) := by decide +kernel
theorem dX12_seal_245 : decode cX12_seal 245 = .ok (.invokevirtual 155, 3) := by decide +kernel
theorem dX12_seal_248 : decode cX12_seal 248 = .ok (.ifCond .eq 80, 3) := by decide +kernel
theorem dX12_seal_251 : decode cX12_seal 251 = .ok (.iconst 0, 1) := by decide +kernel
theorem dX12_seal_252 : decode cX12_seal 252 = .ok (.istore 7, 2) := by decide +kernel
theorem dX12_seal_254 : decode cX12_seal 254 = .ok (.iload 7, 2) := by decide +kernel
theorem dX12_seal_256 : decode cX12_seal 256 = .ok (.bipush 32, 2) := by decide +kernel
theorem dX12_seal_258 : decode cX12_seal 258 = .ok (.if_icmp .ge 27, 3) := by decide +kernel
theorem dX12_seal_261 : decode cX12_seal 261 = .ok (.aload_n 0, 1) := by decide +kernel
theorem dX12_seal_262 : decode cX12_seal 262 = .ok (.getfield 130, 3) := by decide +kernel
theorem dX12_seal_265 : decode cX12_seal 265 = .ok (.iload_n 1, 1) := by decide +kernel
theorem dX12_seal_266 : decode cX12_seal 266 = .ok (.iconst 3, 1) := by decide +kernel
theorem dX12_seal_267 : decode cX12_seal 267 = .ok (.iadd, 1) := by decide +kernel
theorem dX12_seal_268 : decode cX12_seal 268 = .ok (.iload 7, 2) := by decide +kernel
theorem dX12_seal_270 : decode cX12_seal 270 = .ok (.iadd, 1) := by decide +kernel
theorem dX12_seal_271 : decode cX12_seal 271 = .ok (.aload_n 0, 1) := by decide +kernel
theorem dX12_seal_272 : decode cX12_seal 272 = .ok (.iload_n 3, 1) := by decide +kernel
theorem dX12_seal_273 : decode cX12_seal 273 = .ok (.iload 7, 2) := by decide +kernel
theorem dX12_seal_275 : decode cX12_seal 275 = .ok (.invokevirtual 158, 3) := by decide +kernel
theorem dX12_seal_278 : decode cX12_seal 278 = .ok (.iastore, 1) := by decide +kernel
theorem dX12_seal_279 : decode cX12_seal 279 = .ok (.iinc 7 1, 3) := by decide +kernel
theorem dX12_seal_282 : decode cX12_seal 282 = .ok (.goto (-28), 3) := by decide +kernel
theorem dX12_seal_285 : decode cX12_seal 285 = .ok (.aload_n 0, 1) := by decide +kernel
theorem dX12_seal_286 : decode cX12_seal 286 = .ok (.iload_n 3, 1) := by decide +kernel
theorem dX12_seal_287 : decode cX12_seal 287 = .ok (.invokevirtual 161, 3) := by decide +kernel
theorem dX12_seal_290 : decode cX12_seal 290 = .ok (.aload_n 0, 1) := by decide +kernel
theorem dX12_seal_291 : decode cX12_seal 291 = .ok (.invokevirtual 164, 3) := by decide +kernel
theorem dX12_seal_294 : decode cX12_seal 294 = .ok (.iconst 0, 1) := by decide +kernel
theorem dX12_seal_295 : decode cX12_seal 295 = .ok (.istore 7, 2) := by decide +kernel
theorem dX12_seal_297 : decode cX12_seal 297 = .ok (.iload 7, 2) := by decide +kernel
theorem dX12_seal_299 : decode cX12_seal 299 = .ok (.bipush 32, 2) := by decide +kernel
theorem dX12_seal_301 : decode cX12_seal 301 = .ok (.if_icmp .ge 27, 3) := by decide +kernel
theorem dX12_seal_304 : decode cX12_seal 304 = .ok (.aload_n 0, 1) := by decide +kernel
theorem dX12_seal_305 : decode cX12_seal 305 = .ok (.getfield 130, 3) := by decide +kernel
theorem dX12_seal_308 : decode cX12_seal 308 = .ok (.iload_n 1, 1) := by decide +kernel
theorem dX12_seal_309 : decode cX12_seal 309 = .ok (.bipush 35, 2) := by decide +kernel
theorem dX12_seal_311 : decode cX12_seal 311 = .ok (.iadd, 1) := by decide +kernel
theorem dX12_seal_312 : decode cX12_seal 312 = .ok (.iload 7, 2) := by decide +kernel
theorem dX12_seal_314 : decode cX12_seal 314 = .ok (.iadd, 1) := by decide +kernel
theorem dX12_seal_315 : decode cX12_seal 315 = .ok (.aload_n 0, 1) := by decide +kernel
theorem dX12_seal_316 : decode cX12_seal 316 = .ok (.iload 7, 2) := by decide +kernel
theorem dX12_seal_318 : decode cX12_seal 318 = .ok (.invokevirtual 152, 3) := by decide +kernel
theorem dX12_seal_321 : decode cX12_seal 321 = .ok (.iastore, 1) := by decide +kernel
theorem dX12_seal_322 : decode cX12_seal 322 = .ok (.iinc 7 1, 3) := by decide +kernel
theorem dX12_seal_325 : decode cX12_seal 325 = .ok (.goto (-28), 3) := by decide +kernel
theorem dX12_seal_328 : decode cX12_seal 328 = .ok (.iload 6, 2) := by decide +kernel
theorem dX12_seal_330 : decode cX12_seal 330 = .ok (.ireturn, 1) := by decide +kernel
theorem dX12_stamp_0 : decode cX12_stamp 0 = .ok (.iload_n 1, 1) := by decide +kernel
theorem dX12_stamp_1 : decode cX12_stamp 1 = .ok (.ifCond .lt 14, 3) := by decide +kernel
theorem dX12_stamp_4 : decode cX12_stamp 4 = .ok (.iload_n 1, 1) := by decide +kernel
theorem dX12_stamp_5 : decode cX12_stamp 5 = .ok (.aload_n 0, 1) := by decide +kernel
theorem dX12_stamp_6 : decode cX12_stamp 6 = .ok (.getfield 133, 3) := by decide +kernel
theorem dX12_stamp_9 : decode cX12_stamp 9 = .ok (.bipush 32, 2) := by decide +kernel
theorem dX12_stamp_11 : decode cX12_stamp 11 = .ok (.isub, 1) := by decide +kernel
theorem dX12_stamp_12 : decode cX12_stamp 12 = .ok (.if_icmp .le 5, 3) := by decide +kernel
theorem dX12_stamp_15 : decode cX12_stamp 15 = .ok (.iconst 0, 1) := by decide +kernel
theorem dX12_stamp_16 : decode cX12_stamp 16 = .ok (.ireturn, 1) := by decide +kernel
theorem dX12_stamp_17 : decode cX12_stamp 17 = .ok (.aload_n 0, 1) := by decide +kernel
theorem dX12_stamp_18 : decode cX12_stamp 18 = .ok (.iconst 0, 1) := by decide +kernel
theorem dX12_stamp_19 : decode cX12_stamp 19 = .ok (.putfield 25, 3) := by decide +kernel
theorem dX12_stamp_22 : decode cX12_stamp 22 = .ok (.iload_n 2, 1) := by decide +kernel
theorem dX12_stamp_23 : decode cX12_stamp 23 = .ok (.iconst (-1), 1) := by decide +kernel
theorem dX12_stamp_24 : decode cX12_stamp 24 = .ok (.if_icmp .ne 52, 3) := by decide +kernel
theorem dX12_stamp_27 : decode cX12_stamp 27 = .ok (.iload_n 3, 1) := by decide +kernel
theorem dX12_stamp_28 : decode cX12_stamp 28 = .ok (.ifCond .lt 14, 3) := by decide +kernel
theorem dX12_stamp_31 : decode cX12_stamp 31 = .ok (.iload_n 3, 1) := by decide +kernel
theorem dX12_stamp_32 : decode cX12_stamp 32 = .ok (.aload_n 0, 1) := by decide +kernel
theorem dX12_stamp_33 : decode cX12_stamp 33 = .ok (.getfield 133, 3) := by decide +kernel
theorem dX12_stamp_36 : decode cX12_stamp 36 = .ok (.bipush 101, 2) := by decide +kernel
theorem dX12_stamp_38 : decode cX12_stamp 38 = .ok (.isub, 1) := by decide +kernel
theorem dX12_stamp_39 : decode cX12_stamp 39 = .ok (.if_icmp .le 5, 3) := by decide +kernel
theorem dX12_stamp_42 : decode cX12_stamp 42 = .ok (.iconst 0, 1) := by decide +kernel
theorem dX12_stamp_43 : decode cX12_stamp 43 = .ok (.ireturn, 1) := by decide +kernel
theorem dX12_stamp_44 : decode cX12_stamp 44 = .ok (.iconst 0, 1) := by decide +kernel
theorem dX12_stamp_45 : decode cX12_stamp 45 = .ok (.istore 4, 2) := by decide +kernel
theorem dX12_stamp_47 : decode cX12_stamp 47 = .ok (.iload 4, 2) := by decide +kernel
theorem dX12_stamp_49 : decode cX12_stamp 49 = .ok (.bipush 101, 2) := by decide +kernel
theorem dX12_stamp_51 : decode cX12_stamp 51 = .ok (.if_icmp .ge 22, 3) := by decide +kernel
theorem dX12_stamp_54 : decode cX12_stamp 54 = .ok (.aload_n 0, 1) := by decide +kernel
theorem dX12_stamp_55 : decode cX12_stamp 55 = .ok (.aload_n 0, 1) := by decide +kernel
theorem dX12_stamp_56 : decode cX12_stamp 56 = .ok (.getfield 130, 3) := by decide +kernel
theorem dX12_stamp_59 : decode cX12_stamp 59 = .ok (.iload_n 3, 1) := by decide +kernel
theorem dX12_stamp_60 : decode cX12_stamp 60 = .ok (.iload 4, 2) := by decide +kernel
theorem dX12_stamp_62 : decode cX12_stamp 62 = .ok (.iadd, 1) := by decide +kernel
theorem dX12_stamp_63 : decode cX12_stamp 63 = .ok (.iaload, 1) := by decide +kernel
theorem dX12_stamp_64 : decode cX12_stamp 64 = .ok (.invokevirtual 29, 3) := by decide +kernel
theorem dX12_stamp_67 : decode cX12_stamp 67 = .ok (.iinc 4 1, 3) := by decide +kernel
theorem dX12_stamp_70 : decode cX12_stamp 70 = .ok (.goto (-23), 3) := by decide +kernel
theorem dX12_stamp_73 : decode cX12_stamp 73 = .ok (.goto 98, 3) := by decide +kernel
theorem dX12_stamp_76 : decode cX12_stamp 76 = .ok (.aload_n 0, 1) := by decide +kernel
theorem dX12_stamp_77 : decode cX12_stamp 77 = .ok (.iload_n 2, 1) := by decide +kernel
theorem dX12_stamp_78 : decode cX12_stamp 78 = .ok (.invokevirtual 167, 3) := by decide +kernel
theorem dX12_stamp_81 : decode cX12_stamp 81 = .ok (.ifCond .ne 5, 3) := by decide +kernel
theorem dX12_stamp_84 : decode cX12_stamp 84 = .ok (.iconst 0, 1) := by decide +kernel
theorem dX12_stamp_85 : decode cX12_stamp 85 = .ok (.ireturn, 1) := by decide +kernel
theorem dX12_stamp_86 : decode cX12_stamp 86 = .ok (.aload_n 0, 1) := by decide +kernel
theorem dX12_stamp_87 : decode cX12_stamp 87 = .ok (.iload_n 2, 1) := by decide +kernel
theorem dX12_stamp_88 : decode cX12_stamp 88 = .ok (.iconst 0, 1) := by decide +kernel
theorem dX12_stamp_89 : decode cX12_stamp 89 = .ok (.invokevirtual 170, 3) := by decide +kernel
theorem dX12_stamp_92 : decode cX12_stamp 92 = .ok (.istore 4, 2) := by decide +kernel
theorem dX12_stamp_94 : decode cX12_stamp 94 = .ok (.iload 4, 2) := by decide +kernel
theorem dX12_stamp_96 : decode cX12_stamp 96 = .ok (.iconst 1, 1) := by decide +kernel
theorem dX12_stamp_97 : decode cX12_stamp 97 = .ok (.if_icmp .ne 8, 3) := by decide +kernel
theorem dX12_stamp_100 : decode cX12_stamp 100 = .ok (.bipush 6, 2) := by decide +kernel
theorem dX12_stamp_102 : decode cX12_stamp 102 = .ok (.goto 4, 3) := by decide +kernel
theorem dX12_stamp_105 : decode cX12_stamp 105 = .ok (.iconst 1, 1) := by decide +kernel
theorem dX12_stamp_106 : decode cX12_stamp 106 = .ok (.istore 5, 2) := by decide +kernel
theorem dX12_stamp_108 : decode cX12_stamp 108 = .ok (.iload 4, 2) := by decide +kernel
theorem dX12_stamp_110 : decode cX12_stamp 110 = .ok (.iconst 1, 1) := by decide +kernel
theorem dX12_stamp_111 : decode cX12_stamp 111 = .ok (.if_icmp .eq 9, 3) := by decide +kernel
theorem dX12_stamp_114 : decode cX12_stamp 114 = .ok (.iload 4, 2) := by decide +kernel
theorem dX12_stamp_116 : decode cX12_stamp 116 = .ok (.iconst 4, 1) := by decide +kernel
theorem dX12_stamp_117 : decode cX12_stamp 117 = .ok (.if_icmp .ne 22, 3) := by decide +kernel
theorem dX12_stamp_120 : decode cX12_stamp 120 = .ok (.aload_n 0, 1) := by decide +kernel
theorem dX12_stamp_121 : decode cX12_stamp 121 = .ok (.getfield 173, 3) := by decide +kernel
theorem dX12_stamp_124 : decode cX12_stamp 124 = .ok (.aload_n 0, 1) := by decide +kernel
theorem dX12_stamp_125 : decode cX12_stamp 125 = .ok (.getfield 176, 3) := by decide +kernel
theorem dX12_stamp_128 : decode cX12_stamp 128 = .ok (.iload_n 2, 1) := by decide +kernel
theorem dX12_stamp_129 : decode cX12_stamp 129 = .ok (.iaload, 1) := by decide +kernel
theorem dX12_stamp_130 : decode cX12_stamp 130 = .ok (.iaload, 1) := by decide +kernel
theorem dX12_stamp_131 : decode cX12_stamp 131 = .ok (.iload 5, 2) := by decide +kernel
theorem dX12_stamp_133 : decode cX12_stamp 133 = .ok (.bipush 101, 2) := by decide +kernel
theorem dX12_stamp_135 : decode cX12_stamp 135 = .ok (.iadd, 1) := by decide +kernel
theorem dX12_stamp_136 : decode cX12_stamp 136 = .ok (.if_icmp .ge 5, 3) := by decide +kernel
theorem dX12_stamp_139 : decode cX12_stamp 139 = .ok (.iconst 0, 1) := by decide +kernel
theorem dX12_stamp_140 : decode cX12_stamp 140 = .ok (.ireturn, 1) := by decide +kernel
theorem dX12_stamp_141 : decode cX12_stamp 141 = .ok (.iconst 0, 1) := by decide +kernel
theorem dX12_stamp_142 : decode cX12_stamp 142 = .ok (.istore 6, 2) := by decide +kernel
theorem dX12_stamp_144 : decode cX12_stamp 144 = .ok (.iload 6, 2) := by decide +kernel
theorem dX12_stamp_146 : decode cX12_stamp 146 = .ok (.bipush 101, 2) := by decide +kernel
theorem dX12_stamp_148 : decode cX12_stamp 148 = .ok (.if_icmp .ge 23, 3) := by decide +kernel
theorem dX12_stamp_151 : decode cX12_stamp 151 = .ok (.aload_n 0, 1) := by decide +kernel
theorem dX12_stamp_152 : decode cX12_stamp 152 = .ok (.aload_n 0, 1) := by decide +kernel
theorem dX12_stamp_153 : decode cX12_stamp 153 = .ok (.iload_n 2, 1) := by decide +kernel
theorem dX12_stamp_154 : decode cX12_stamp 154 = .ok (.iload 5, 2) := by decide +kernel
theorem dX12_stamp_156 : decode cX12_stamp 156 = .ok (.iload 6, 2) := by decide +kernel
theorem dX12_stamp_158 : decode cX12_stamp 158 = .ok (.iadd, 1) := by decide +kernel
theorem dX12_stamp_159 : decode cX12_stamp 159 = .ok (.invokevirtual 170, 3) := by decide +kernel
theorem dX12_stamp_162 : decode cX12_stamp 162 = .ok (.invokevirtual 29, 3) := by decide +kernel
theorem dX12_stamp_165 : decode cX12_stamp 165 = .ok (.iinc 6 1, 3) := by decide +kernel
theorem dX12_stamp_168 : decode cX12_stamp 168 = .ok (.goto (-24), 3) := by decide +kernel
theorem dX12_stamp_171 : decode cX12_stamp 171 = .ok (.aload_n 0, 1) := by decide +kernel
theorem dX12_stamp_172 : decode cX12_stamp 172 = .ok (.invokevirtual 70, 3) := by decide +kernel
theorem dX12_stamp_175 : decode cX12_stamp 175 = .ok (.iconst 0, 1) := by decide +kernel
theorem dX12_stamp_176 : decode cX12_stamp 176 = .ok (.istore 4, 2) := by decide +kernel
theorem dX12_stamp_178 : decode cX12_stamp 178 = .ok (.iload 4, 2) := by decide +kernel
theorem dX12_stamp_180 : decode cX12_stamp 180 = .ok (.bipush 32, 2) := by decide +kernel
theorem dX12_stamp_182 : decode cX12_stamp 182 = .ok (.if_icmp .ge 35, 3) := by decide +kernel
theorem dX12_stamp_185 : decode cX12_stamp 185 = .ok (.aload_n 0, 1) := by decide +kernel
theorem dX12_stamp_186 : decode cX12_stamp 186 = .ok (.getfield 130, 3) := by decide +kernel
theorem dX12_stamp_189 : decode cX12_stamp 189 = .ok (.iload_n 1, 1) := by decide +kernel
theorem dX12_stamp_190 : decode cX12_stamp 190 = .ok (.iload 4, 2) := by decide +kernel
theorem dX12_stamp_192 : decode cX12_stamp 192 = .ok (.iadd, 1) := by decide +kernel
theorem dX12_stamp_193 : decode cX12_stamp 193 = .ok (.aload_n 0, 1) := by decide +kernel
theorem dX12_stamp_194 : decode cX12_stamp 194 = .ok (.iload 4, 2) := by decide +kernel
theorem dX12_stamp_196 : decode cX12_stamp 196 = .ok (.bipush 8, 2) := by decide +kernel
theorem dX12_stamp_198 : decode cX12_stamp 198 = .ok (.idiv, 1) := by decide +kernel
theorem dX12_stamp_199 : decode cX12_stamp 199 = .ok (.invokevirtual 74, 3) := by decide +kernel
theorem dX12_stamp_202 : decode cX12_stamp 202 = .ok (.iload 4, 2) := by decide +kernel
theorem dX12_stamp_204 : decode cX12_stamp 204 = .ok (.bipush 8, 2) := by decide +kernel
theorem dX12_stamp_206 : decode cX12_stamp 206 = .ok (.irem, 1) := by decide +kernel
theorem dX12_stamp_207 : decode cX12_stamp 207 = .ok (.invokestatic 49, 3) := by decide +kernel
theorem dX12_stamp_210 : decode cX12_stamp 210 = .ok (.iastore, 1) := by decide +kernel
theorem dX12_stamp_211 : decode cX12_stamp 211 = .ok (.iinc 4 1, 3) := by decide +kernel
theorem dX12_stamp_214 : decode cX12_stamp 214 = .ok (.goto (-36), 3) := by decide +kernel
theorem dX12_stamp_217 : decode cX12_stamp 217 = .ok (.iconst 1, 1) := by decide +kernel
theorem dX12_stamp_218 : decode cX12_stamp 218 = .ok (.ireturn, 1) := by decide +kernel
theorem dX12_hash_0 : decode cX12_hash 0 = .ok (.iload_n 1, 1) := by decide +kernel
theorem dX12_hash_1 : decode cX12_hash 1 = .ok (.ifCond .lt 20, 3) := by decide +kernel
theorem dX12_hash_4 : decode cX12_hash 4 = .ok (.iload_n 1, 1) := by decide +kernel
theorem dX12_hash_5 : decode cX12_hash 5 = .ok (.aload_n 0, 1) := by decide +kernel
theorem dX12_hash_6 : decode cX12_hash 6 = .ok (.getfield 133, 3) := by decide +kernel
theorem dX12_hash_9 : decode cX12_hash 9 = .ok (.if_icmp .gt 12, 3) := by decide +kernel
theorem dX12_hash_12 : decode cX12_hash 12 = .ok (.iload_n 2, 1) := by decide +kernel
theorem dX12_hash_13 : decode cX12_hash 13 = .ok (.ifCond .lt 8, 3) := by decide +kernel
theorem dX12_hash_16 : decode cX12_hash 16 = .ok (.iload_n 2, 1) := by decide +kernel
theorem dX12_hash_17 : decode cX12_hash 17 = .ok (.iconst 3, 1) := by decide +kernel
theorem dX12_hash_18 : decode cX12_hash 18 = .ok (.if_icmp .le 5, 3) := by decide +kernel
theorem dX12_hash_21 : decode cX12_hash 21 = .ok (.lconst 0, 1) := by decide +kernel
theorem dX12_hash_22 : decode cX12_hash 22 = .ok (.lreturn, 1) := by decide +kernel
theorem dX12_hash_23 : decode cX12_hash 23 = .ok (.aload_n 0, 1) := by decide +kernel
theorem dX12_hash_24 : decode cX12_hash 24 = .ok (.iconst 0, 1) := by decide +kernel
theorem dX12_hash_25 : decode cX12_hash 25 = .ok (.putfield 25, 3) := by decide +kernel
theorem dX12_hash_28 : decode cX12_hash 28 = .ok (.iconst 0, 1) := by decide +kernel
theorem dX12_hash_29 : decode cX12_hash 29 = .ok (.istore_n 3, 1) := by decide +kernel
theorem dX12_hash_30 : decode cX12_hash 30 = .ok (.iload_n 3, 1) := by decide +kernel
theorem dX12_hash_31 : decode cX12_hash 31 = .ok (.iload_n 1, 1) := by decide +kernel
theorem dX12_hash_32 : decode cX12_hash 32 = .ok (.if_icmp .ge 19, 3) := by decide +kernel
theorem dX12_hash_35 : decode cX12_hash 35 = .ok (.aload_n 0, 1) := by decide +kernel
theorem dX12_hash_36 : decode cX12_hash 36 = .ok (.aload_n 0, 1) := by decide +kernel
theorem dX12_hash_37 : decode cX12_hash 37 = .ok (.getfield 130, 3) := by decide +kernel
theorem dX12_hash_40 : decode cX12_hash 40 = .ok (.iload_n 3, 1) := by decide +kernel
theorem dX12_hash_41 : decode cX12_hash 41 = .ok (.iaload, 1) := by decide +kernel
theorem dX12_hash_42 : decode cX12_hash 42 = .ok (.invokevirtual 29, 3) := by decide +kernel
theorem dX12_hash_45 : decode cX12_hash 45 = .ok (.iinc 3 1, 3) := by decide +kernel
theorem dX12_hash_48 : decode cX12_hash 48 = .ok (.goto (-18), 3) := by decide +kernel
theorem dX12_hash_51 : decode cX12_hash 51 = .ok (.aload_n 0, 1) := by decide +kernel
theorem dX12_hash_52 : decode cX12_hash 52 = .ok (.invokevirtual 70, 3) := by decide +kernel
theorem dX12_hash_55 : decode cX12_hash 55 = .ok (.aload_n 0, 1) := by decide +kernel
theorem dX12_hash_56 : decode cX12_hash 56 = .ok (.iload_n 2, 1) := by decide +kernel
theorem dX12_hash_57 : decode cX12_hash 57 = .ok (.invokevirtual 74, 3) := by decide +kernel
theorem dX12_hash_60 : decode cX12_hash 60 = .ok (.lreturn, 1) := by decide +kernel
theorem dX12_proof_0 : decode cX12_proof 0 = .ok (.iload_n 1, 1) := by decide +kernel
theorem dX12_proof_1 : decode cX12_proof 1 = .ok (.ifCond .lt 27, 3) := by decide +kernel
theorem dX12_proof_4 : decode cX12_proof 4 = .ok (.iload_n 1, 1) := by decide +kernel
theorem dX12_proof_5 : decode cX12_proof 5 = .ok (.iconst 1, 1) := by decide +kernel
theorem dX12_proof_6 : decode cX12_proof 6 = .ok (.if_icmp .gt 22, 3) := by decide +kernel
theorem dX12_proof_9 : decode cX12_proof 9 = .ok (.iload_n 2, 1) := by decide +kernel
theorem dX12_proof_10 : decode cX12_proof 10 = .ok (.bipush 102, 2) := by decide +kernel
theorem dX12_proof_12 : decode cX12_proof 12 = .ok (.if_icmp .lt 16, 3) := by decide +kernel
theorem dX12_proof_15 : decode cX12_proof 15 = .ok (.iload_n 3, 1) := by decide +kernel
theorem dX12_proof_16 : decode cX12_proof 16 = .ok (.iload_n 2, 1) := by decide +kernel
theorem dX12_proof_17 : decode cX12_proof 17 = .ok (.if_icmp .lt 11, 3) := by decide +kernel
theorem dX12_proof_20 : decode cX12_proof 20 = .ok (.iload_n 3, 1) := by decide +kernel
theorem dX12_proof_21 : decode cX12_proof 21 = .ok (.aload_n 0, 1) := by decide +kernel
theorem dX12_proof_22 : decode cX12_proof 22 = .ok (.getfield 133, 3) := by decide +kernel
theorem dX12_proof_25 : decode cX12_proof 25 = .ok (.if_icmp .le 5, 3) := by decide +kernel
theorem dX12_proof_28 : decode cX12_proof 28 = .ok (.iconst 0, 1) := by decide +kernel
theorem dX12_proof_29 : decode cX12_proof 29 = .ok (.ireturn, 1) := by decide +kernel
theorem dX12_proof_30 : decode cX12_proof 30 = .ok (.aload_n 0, 1) := by decide +kernel
theorem dX12_proof_31 : decode cX12_proof 31 = .ok (.iconst 0, 1) := by decide +kernel
theorem dX12_proof_32 : decode cX12_proof 32 = .ok (.putfield 25, 3) := by decide +kernel
theorem dX12_proof_35 : decode cX12_proof 35 = .ok (.aload_n 0, 1) := by decide +kernel
theorem dX12_proof_36 : decode cX12_proof 36 = .ok (.iconst 0, 1) := by decide +kernel
theorem dX12_proof_37 : decode cX12_proof 37 = .ok (.invokevirtual 29, 3) := by decide +kernel
theorem dX12_proof_40 : decode cX12_proof 40 = .ok (.bipush 101, 2) := by decide +kernel
theorem dX12_proof_42 : decode cX12_proof 42 = .ok (.istore 4, 2) := by decide +kernel
theorem dX12_proof_44 : decode cX12_proof 44 = .ok (.iload 4, 2) := by decide +kernel
theorem dX12_proof_46 : decode cX12_proof 46 = .ok (.iload_n 2, 1) := by decide +kernel
theorem dX12_proof_47 : decode cX12_proof 47 = .ok (.if_icmp .ge 20, 3) := by decide +kernel
theorem dX12_proof_50 : decode cX12_proof 50 = .ok (.aload_n 0, 1) := by decide +kernel
theorem dX12_proof_51 : decode cX12_proof 51 = .ok (.aload_n 0, 1) := by decide +kernel
theorem dX12_proof_52 : decode cX12_proof 52 = .ok (.getfield 130, 3) := by decide +kernel
theorem dX12_proof_55 : decode cX12_proof 55 = .ok (.iload 4, 2) := by decide +kernel
theorem dX12_proof_57 : decode cX12_proof 57 = .ok (.iaload, 1) := by decide +kernel
theorem dX12_proof_58 : decode cX12_proof 58 = .ok (.invokevirtual 29, 3) := by decide +kernel
theorem dX12_proof_61 : decode cX12_proof 61 = .ok (.iinc 4 1, 3) := by decide +kernel
theorem dX12_proof_64 : decode cX12_proof 64 = .ok (.goto (-20), 3) := by decide +kernel
theorem dX12_proof_67 : decode cX12_proof 67 = .ok (.aload_n 0, 1) := by decide +kernel
theorem dX12_proof_68 : decode cX12_proof 68 = .ok (.iconst 0, 1) := by decide +kernel
theorem dX12_proof_69 : decode cX12_proof 69 = .ok (.invokevirtual 94, 3) := by decide +kernel
theorem dX12_proof_72 : decode cX12_proof 72 = .ok (.iload_n 2, 1) := by decide +kernel
theorem dX12_proof_73 : decode cX12_proof 73 = .ok (.istore 4, 2) := by decide +kernel
theorem dX12_proof_75 : decode cX12_proof 75 = .ok (.iload 4, 2) := by decide +kernel
theorem dX12_proof_77 : decode cX12_proof 77 = .ok (.iload_n 3, 1) := by decide +kernel
theorem dX12_proof_78 : decode cX12_proof 78 = .ok (.if_icmp .ge 178, 3) := by decide +kernel
theorem dX12_proof_81 : decode cX12_proof 81 = .ok (.aload_n 0, 1) := by decide +kernel
theorem dX12_proof_82 : decode cX12_proof 82 = .ok (.getfield 130, 3) := by decide +kernel
theorem dX12_proof_85 : decode cX12_proof 85 = .ok (.iload 4, 2) := by decide +kernel
theorem dX12_proof_87 : decode cX12_proof 87 = .ok (.iaload, 1) := by decide +kernel
theorem dX12_proof_88 : decode cX12_proof 88 = .ok (.istore 5, 2) := by decide +kernel
theorem dX12_proof_90 : decode cX12_proof 90 = .ok (.iload 5, 2) := by decide +kernel
theorem dX12_proof_92 : decode cX12_proof 92 = .ok (.iconst 2, 1) := by decide +kernel
theorem dX12_proof_93 : decode cX12_proof 93 = .ok (.if_icmp .gt 17, 3) := by decide +kernel
theorem dX12_proof_96 : decode cX12_proof 96 = .ok (.iload 5, 2) := by decide +kernel
theorem dX12_proof_98 : decode cX12_proof 98 = .ok (.ifCond .le 14, 3) := by decide +kernel
theorem dX12_proof_101 : decode cX12_proof 101 = .ok (.iload 4, 2) := by decide +kernel
theorem dX12_proof_103 : decode cX12_proof 103 = .ok (.bipush 33, 2) := by decide +kernel
theorem dX12_proof_105 : decode cX12_proof 105 = .ok (.iadd, 1) := by decide +kernel
theorem dX12_proof_106 : decode cX12_proof 106 = .ok (.iload_n 3, 1) := by decide +kernel
theorem dX12_proof_107 : decode cX12_proof 107 = .ok (.if_icmp .le 5, 3) := by decide +kernel
theorem dX12_proof_110 : decode cX12_proof 110 = .ok (.iconst 0, 1) := by decide +kernel
theorem dX12_proof_111 : decode cX12_proof 111 = .ok (.ireturn, 1) := by decide +kernel
theorem dX12_proof_112 : decode cX12_proof 112 = .ok (.aload_n 0, 1) := by decide +kernel
theorem dX12_proof_113 : decode cX12_proof 113 = .ok (.iconst 0, 1) := by decide +kernel
theorem dX12_proof_114 : decode cX12_proof 114 = .ok (.putfield 25, 3) := by decide +kernel
theorem dX12_proof_117 : decode cX12_proof 117 = .ok (.aload_n 0, 1) := by decide +kernel
theorem dX12_proof_118 : decode cX12_proof 118 = .ok (.iconst 1, 1) := by decide +kernel
theorem dX12_proof_119 : decode cX12_proof 119 = .ok (.invokevirtual 29, 3) := by decide +kernel
theorem dX12_proof_122 : decode cX12_proof 122 = .ok (.iconst 0, 1) := by decide +kernel
theorem dX12_proof_123 : decode cX12_proof 123 = .ok (.istore 6, 2) := by decide +kernel
theorem dX12_proof_125 : decode cX12_proof 125 = .ok (.iload 5, 2) := by decide +kernel
theorem dX12_proof_127 : decode cX12_proof 127 = .ok (.iconst 1, 1) := by decide +kernel
theorem dX12_proof_128 : decode cX12_proof 128 = .ok (.if_icmp .ne 32, 3) := by decide +kernel
theorem dX12_proof_131 : decode cX12_proof 131 = .ok (.iload 6, 2) := by decide +kernel
theorem dX12_proof_133 : decode cX12_proof 133 = .ok (.bipush 32, 2) := by decide +kernel
theorem dX12_proof_135 : decode cX12_proof 135 = .ok (.if_icmp .ge 25, 3) := by decide +kernel
theorem dX12_proof_138 : decode cX12_proof 138 = .ok (.aload_n 0, 1) := by decide +kernel
theorem dX12_proof_139 : decode cX12_proof 139 = .ok (.aload_n 0, 1) := by decide +kernel
theorem dX12_proof_140 : decode cX12_proof 140 = .ok (.getfield 130, 3) := by decide +kernel
theorem dX12_proof_143 : decode cX12_proof 143 = .ok (.iload 4, 2) := by decide +kernel
theorem dX12_proof_145 : decode cX12_proof 145 = .ok (.iconst 1, 1) := by decide +kernel
theorem dX12_proof_146 : decode cX12_proof 146 = .ok (.iadd, 1) := by decide +kernel
theorem dX12_proof_147 : decode cX12_proof 147 = .ok (.iload 6, 2) := by decide +kernel
theorem dX12_proof_149 : decode cX12_proof 149 = .ok (.iadd, 1) := by decide +kernel
theorem dX12_proof_150 : decode cX12_proof 150 = .ok (.iaload, 1) := by decide +kernel
theorem dX12_proof_151 : decode cX12_proof 151 = .ok (.invokevirtual 29, 3) := by decide +kernel
theorem dX12_proof_154 : decode cX12_proof 154 = .ok (.iinc 6 1, 3) := by decide +kernel
theorem dX12_proof_157 : decode cX12_proof 157 = .ok (.goto (-32), 3) := by decide +kernel
theorem dX12_proof_160 : decode cX12_proof 160 = .ok (.iconst 0, 1) := by decide +kernel
theorem dX12_proof_161 : decode cX12_proof 161 = .ok (.istore 6, 2) := by decide +kernel
theorem dX12_proof_163 : decode cX12_proof 163 = .ok (.iload 6, 2) := by decide +kernel
theorem dX12_proof_165 : decode cX12_proof 165 = .ok (.bipush 32, 2) := by decide +kernel
theorem dX12_proof_167 : decode cX12_proof 167 = .ok (.if_icmp .ge 19, 3) := by decide +kernel
theorem dX12_proof_170 : decode cX12_proof 170 = .ok (.aload_n 0, 1) := by decide +kernel
theorem dX12_proof_171 : decode cX12_proof 171 = .ok (.aload_n 0, 1) := by decide +kernel
theorem dX12_proof_172 : decode cX12_proof 172 = .ok (.iload 6, 2) := by decide +kernel
theorem dX12_proof_174 : decode cX12_proof 174 = .ok (.invokevirtual 152, 3) := by decide +kernel
theorem dX12_proof_177 : decode cX12_proof 177 = .ok (.invokevirtual 29, 3) := by decide +kernel
theorem dX12_proof_180 : decode cX12_proof 180 = .ok (.iinc 6 1, 3) := by decide +kernel
theorem dX12_proof_183 : decode cX12_proof 183 = .ok (.goto (-20), 3) := by decide +kernel
theorem dX12_proof_186 : decode cX12_proof 186 = .ok (.iconst 0, 1) := by decide +kernel
theorem dX12_proof_187 : decode cX12_proof 187 = .ok (.istore 6, 2) := by decide +kernel
theorem dX12_proof_189 : decode cX12_proof 189 = .ok (.iload 5, 2) := by decide +kernel
theorem dX12_proof_191 : decode cX12_proof 191 = .ok (.iconst 2, 1) := by decide +kernel
theorem dX12_proof_192 : decode cX12_proof 192 = .ok (.if_icmp .ne 32, 3) := by decide +kernel
theorem dX12_proof_195 : decode cX12_proof 195 = .ok (.iload 6, 2) := by decide +kernel
theorem dX12_proof_197 : decode cX12_proof 197 = .ok (.bipush 32, 2) := by decide +kernel
theorem dX12_proof_199 : decode cX12_proof 199 = .ok (.if_icmp .ge 25, 3) := by decide +kernel
theorem dX12_proof_202 : decode cX12_proof 202 = .ok (.aload_n 0, 1) := by decide +kernel
theorem dX12_proof_203 : decode cX12_proof 203 = .ok (.aload_n 0, 1) := by decide +kernel
theorem dX12_proof_204 : decode cX12_proof 204 = .ok (.getfield 130, 3) := by decide +kernel
theorem dX12_proof_207 : decode cX12_proof 207 = .ok (.iload 4, 2) := by decide +kernel
theorem dX12_proof_209 : decode cX12_proof 209 = .ok (.iconst 1, 1) := by decide +kernel
theorem dX12_proof_210 : decode cX12_proof 210 = .ok (.iadd, 1) := by decide +kernel
theorem dX12_proof_211 : decode cX12_proof 211 = .ok (.iload 6, 2) := by decide +kernel
theorem dX12_proof_213 : decode cX12_proof 213 = .ok (.iadd, 1) := by decide +kernel
theorem dX12_proof_214 : decode cX12_proof 214 = .ok (.iaload, 1) := by decide +kernel
theorem dX12_proof_215 : decode cX12_proof 215 = .ok (.invokevirtual 29, 3) := by decide +kernel
theorem dX12_proof_218 : decode cX12_proof 218 = .ok (.iinc 6 1, 3) := by decide +kernel
theorem dX12_proof_221 : decode cX12_proof 221 = .ok (.goto (-32), 3) := by decide +kernel
theorem dX12_proof_224 : decode cX12_proof 224 = .ok (.iload 5, 2) := by decide +kernel
theorem dX12_proof_226 : decode cX12_proof 226 = .ok (.ifCond .le 8, 3) := by decide +kernel
theorem dX12_proof_229 : decode cX12_proof 229 = .ok (.aload_n 0, 1) := by decide +kernel
theorem dX12_proof_230 : decode cX12_proof 230 = .ok (.iconst 0, 1) := by decide +kernel
theorem dX12_proof_231 : decode cX12_proof 231 = .ok (.invokevirtual 94, 3) := by decide +kernel
theorem dX12_proof_234 : decode cX12_proof 234 = .ok (.iload 5, 2) := by decide +kernel
theorem dX12_proof_236 : decode cX12_proof 236 = .ok (.ifCond .le 11, 3) := by decide +kernel
theorem dX12_proof_239 : decode cX12_proof 239 = .ok (.iload 4, 2) := by decide +kernel
theorem dX12_proof_241 : decode cX12_proof 241 = .ok (.bipush 33, 2) := by decide +kernel
theorem dX12_proof_243 : decode cX12_proof 243 = .ok (.iadd, 1) := by decide +kernel
theorem dX12_proof_244 : decode cX12_proof 244 = .ok (.goto 7, 3) := by decide +kernel
theorem dX12_proof_247 : decode cX12_proof 247 = .ok (.iload 4, 2) := by decide +kernel
theorem dX12_proof_249 : decode cX12_proof 249 = .ok (.iconst 1, 1) := by decide +kernel
theorem dX12_proof_250 : decode cX12_proof 250 = .ok (.iadd, 1) := by decide +kernel
theorem dX12_proof_251 : decode cX12_proof 251 = .ok (.istore 4, 2) := by decide +kernel
theorem dX12_proof_253 : decode cX12_proof 253 = .ok (.goto (-178), 3) := by decide +kernel
theorem dX12_proof_256 : decode cX12_proof 256 = .ok (.iconst 1, 1) := by decide +kernel
theorem dX12_proof_257 : decode cX12_proof 257 = .ok (.istore 5, 2) := by decide +kernel
theorem dX12_proof_259 : decode cX12_proof 259 = .ok (.iconst 0, 1) := by decide +kernel
theorem dX12_proof_260 : decode cX12_proof 260 = .ok (.istore 6, 2) := by decide +kernel
theorem dX12_proof_262 : decode cX12_proof 262 = .ok (.iload 6, 2) := by decide +kernel
theorem dX12_proof_264 : decode cX12_proof 264 = .ok (.bipush 32, 2) := by decide +kernel
theorem dX12_proof_266 : decode cX12_proof 266 = .ok (.if_icmp .ge 49, 3) := by decide +kernel
theorem dX12_proof_269 : decode cX12_proof 269 = .ok (.iload 5, 2) := by decide +kernel
theorem dX12_proof_271 : decode cX12_proof 271 = .ok (.ifCond .eq 35, 3) := by decide +kernel
theorem dX12_proof_274 : decode cX12_proof 274 = .ok (.aload_n 0, 1) := by decide +kernel
theorem dX12_proof_275 : decode cX12_proof 275 = .ok (.iload 6, 2) := by decide +kernel
theorem dX12_proof_277 : decode cX12_proof 277 = .ok (.invokevirtual 152, 3) := by decide +kernel
theorem dX12_proof_280 : decode cX12_proof 280 = .ok (.aload_n 0, 1) := by decide +kernel
theorem dX12_proof_281 : decode cX12_proof 281 = .ok (.getfield 130, 3) := by decide +kernel
theorem dX12_proof_284 : decode cX12_proof 284 = .ok (.iload_n 1, 1) := by decide +kernel
theorem dX12_proof_285 : decode cX12_proof 285 = .ok (.ifCond .ne 8, 3) := by decide +kernel
theorem dX12_proof_288 : decode cX12_proof 288 = .ok (.bipush 67, 2) := by decide +kernel
theorem dX12_proof_290 : decode cX12_proof 290 = .ok (.goto 5, 3) := by decide +kernel
theorem dX12_proof_293 : decode cX12_proof 293 = .ok (.bipush 35, 2) := by decide +kernel
theorem dX12_proof_295 : decode cX12_proof 295 = .ok (.iload 6, 2) := by decide +kernel
theorem dX12_proof_297 : decode cX12_proof 297 = .ok (.iadd, 1) := by decide +kernel
theorem dX12_proof_298 : decode cX12_proof 298 = .ok (.iaload, 1) := by decide +kernel
theorem dX12_proof_299 : decode cX12_proof 299 = .ok (.if_icmp .ne 7, 3) := by decide +kernel
theorem dX12_proof_302 : decode cX12_proof 302 = .ok (.iconst 1, 1) := by decide +kernel
theorem dX12_proof_303 : decode cX12_proof 303 = .ok (.goto 4, 3) := by decide +kernel
theorem dX12_proof_306 : decode cX12_proof 306 = .ok (.iconst 0, 1) := by decide +kernel
theorem dX12_proof_307 : decode cX12_proof 307 = .ok (.istore 5, 2) := by decide +kernel
theorem dX12_proof_309 : decode cX12_proof 309 = .ok (.iinc 6 1, 3) := by decide +kernel
theorem dX12_proof_312 : decode cX12_proof 312 = .ok (.goto (-50), 3) := by decide +kernel
theorem dX12_proof_315 : decode cX12_proof 315 = .ok (.iload 5, 2) := by decide +kernel
theorem dX12_proof_317 : decode cX12_proof 317 = .ok (.ireturn, 1) := by decide +kernel
theorem dX12_flyByte_0 : decode cX12_flyByte 0 = .ok (.aload_n 0, 1) := by decide +kernel
theorem dX12_flyByte_1 : decode cX12_flyByte 1 = .ok (.getfield 179, 3) := by decide +kernel
theorem dX12_flyByte_4 : decode cX12_flyByte 4 = .ok (.bipush 125, 2) := by decide +kernel
theorem dX12_flyByte_6 : decode cX12_flyByte 6 = .ok (.aload_n 0, 1) := by decide +kernel
theorem dX12_flyByte_7 : decode cX12_flyByte 7 = .ok (.getfield 176, 3) := by decide +kernel
theorem dX12_flyByte_10 : decode cX12_flyByte 10 = .ok (.iload_n 1, 1) := by decide +kernel
theorem dX12_flyByte_11 : decode cX12_flyByte 11 = .ok (.iaload, 1) := by decide +kernel
theorem dX12_flyByte_12 : decode cX12_flyByte 12 = .ok (.imul, 1) := by decide +kernel
theorem dX12_flyByte_13 : decode cX12_flyByte 13 = .ok (.iload_n 2, 1) := by decide +kernel
theorem dX12_flyByte_14 : decode cX12_flyByte 14 = .ok (.bipush 8, 2) := by decide +kernel
theorem dX12_flyByte_16 : decode cX12_flyByte 16 = .ok (.idiv, 1) := by decide +kernel
theorem dX12_flyByte_17 : decode cX12_flyByte 17 = .ok (.iadd, 1) := by decide +kernel
theorem dX12_flyByte_18 : decode cX12_flyByte 18 = .ok (.laload, 1) := by decide +kernel
theorem dX12_flyByte_19 : decode cX12_flyByte 19 = .ok (.iload_n 2, 1) := by decide +kernel
theorem dX12_flyByte_20 : decode cX12_flyByte 20 = .ok (.bipush 8, 2) := by decide +kernel
theorem dX12_flyByte_22 : decode cX12_flyByte 22 = .ok (.irem, 1) := by decide +kernel
theorem dX12_flyByte_23 : decode cX12_flyByte 23 = .ok (.invokestatic 49, 3) := by decide +kernel
theorem dX12_flyByte_26 : decode cX12_flyByte 26 = .ok (.ireturn, 1) := by decide +kernel
theorem dX12_isFlying_0 : decode cX12_isFlying 0 = .ok (.iload_n 1, 1) := by decide +kernel
theorem dX12_isFlying_1 : decode cX12_isFlying 1 = .ok (.ifCond .lt 15, 3) := by decide +kernel
theorem dX12_isFlying_4 : decode cX12_isFlying 4 = .ok (.iload_n 1, 1) := by decide +kernel
theorem dX12_isFlying_5 : decode cX12_isFlying 5 = .ok (.aload_n 0, 1) := by decide +kernel
theorem dX12_isFlying_6 : decode cX12_isFlying 6 = .ok (.getfield 182, 3) := by decide +kernel
theorem dX12_isFlying_9 : decode cX12_isFlying 9 = .ok (.if_icmp .ge 7, 3) := by decide +kernel
theorem dX12_isFlying_12 : decode cX12_isFlying 12 = .ok (.iconst 1, 1) := by decide +kernel
theorem dX12_isFlying_13 : decode cX12_isFlying 13 = .ok (.goto 4, 3) := by decide +kernel
theorem dX12_isFlying_16 : decode cX12_isFlying 16 = .ok (.iconst 0, 1) := by decide +kernel
theorem dX12_isFlying_17 : decode cX12_isFlying 17 = .ok (.ireturn, 1) := by decide +kernel
theorem dX12_fly_0 : decode cX12_fly 0 = .ok (.aload_n 0, 1) := by decide +kernel
theorem dX12_fly_1 : decode cX12_fly 1 = .ok (.aload_n 0, 1) := by decide +kernel
theorem dX12_fly_2 : decode cX12_fly 2 = .ok (.getfield 185, 3) := by decide +kernel
theorem dX12_fly_5 : decode cX12_fly 5 = .ok (.iconst 1, 1) := by decide +kernel
theorem dX12_fly_6 : decode cX12_fly 6 = .ok (.iadd, 1) := by decide +kernel
theorem dX12_fly_7 : decode cX12_fly 7 = .ok (.putfield 185, 3) := by decide +kernel
theorem dX12_fly_10 : decode cX12_fly 10 = .ok (.aload_n 0, 1) := by decide +kernel
theorem dX12_fly_11 : decode cX12_fly 11 = .ok (.getfield 182, 3) := by decide +kernel
theorem dX12_fly_14 : decode cX12_fly 14 = .ok (.sipush 1000, 3) := by decide +kernel
theorem dX12_fly_17 : decode cX12_fly 17 = .ok (.if_icmp .ne 15, 3) := by decide +kernel
theorem dX12_fly_20 : decode cX12_fly 20 = .ok (.aload_n 0, 1) := by decide +kernel
theorem dX12_fly_21 : decode cX12_fly 21 = .ok (.aload_n 0, 1) := by decide +kernel
theorem dX12_fly_22 : decode cX12_fly 22 = .ok (.getfield 188, 3) := by decide +kernel
theorem dX12_fly_25 : decode cX12_fly 25 = .ok (.iconst 1, 1) := by decide +kernel
theorem dX12_fly_26 : decode cX12_fly 26 = .ok (.iadd, 1) := by decide +kernel
theorem dX12_fly_27 : decode cX12_fly 27 = .ok (.putfield 188, 3) := by decide +kernel
theorem dX12_fly_30 : decode cX12_fly 30 = .ok (.iconst 0, 1) := by decide +kernel
theorem dX12_fly_31 : decode cX12_fly 31 = .ok (.ireturn, 1) := by decide +kernel
theorem dX12_fly_32 : decode cX12_fly 32 = .ok (.aload_n 0, 1) := by decide +kernel
theorem dX12_fly_33 : decode cX12_fly 33 = .ok (.invokevirtual 191, 3) := by decide +kernel
theorem dX12_fly_36 : decode cX12_fly 36 = .ok (.istore_n 3, 1) := by decide +kernel
theorem dX12_fly_37 : decode cX12_fly 37 = .ok (.aload_n 0, 1) := by decide +kernel
theorem dX12_fly_38 : decode cX12_fly 38 = .ok (.getfield 195, 3) := by decide +kernel
theorem dX12_fly_41 : decode cX12_fly 41 = .ok (.iload_n 3, 1) := by decide +kernel
theorem dX12_fly_42 : decode cX12_fly 42 = .ok (.iload_n 1, 1) := by decide +kernel
theorem dX12_fly_43 : decode cX12_fly 43 = .ok (.iastore, 1) := by decide +kernel
theorem dX12_fly_44 : decode cX12_fly 44 = .ok (.aload_n 0, 1) := by decide +kernel
theorem dX12_fly_45 : decode cX12_fly 45 = .ok (.getfield 198, 3) := by decide +kernel
theorem dX12_fly_48 : decode cX12_fly 48 = .ok (.iload_n 3, 1) := by decide +kernel
theorem dX12_fly_49 : decode cX12_fly 49 = .ok (.iload_n 2, 1) := by decide +kernel
theorem dX12_fly_50 : decode cX12_fly 50 = .ok (.iastore, 1) := by decide +kernel
theorem dX12_fly_51 : decode cX12_fly 51 = .ok (.aload_n 0, 1) := by decide +kernel
theorem dX12_fly_52 : decode cX12_fly 52 = .ok (.getfield 173, 3) := by decide +kernel
theorem dX12_fly_55 : decode cX12_fly 55 = .ok (.iload_n 3, 1) := by decide +kernel
theorem dX12_fly_56 : decode cX12_fly 56 = .ok (.aload_n 0, 1) := by decide +kernel
theorem dX12_fly_57 : decode cX12_fly 57 = .ok (.getfield 201, 3) := by decide +kernel
theorem dX12_fly_60 : decode cX12_fly 60 = .ok (.iastore, 1) := by decide +kernel
theorem dX12_fly_61 : decode cX12_fly 61 = .ok (.iconst 0, 1) := by decide +kernel
theorem dX12_fly_62 : decode cX12_fly 62 = .ok (.istore 4, 2) := by decide +kernel
theorem dX12_fly_64 : decode cX12_fly 64 = .ok (.bipush 8, 2) := by decide +kernel
theorem dX12_fly_66 : decode cX12_fly 66 = .ok (.iload 4, 2) := by decide +kernel
theorem dX12_fly_68 : decode cX12_fly 68 = .ok (.imul, 1) := by decide +kernel
theorem dX12_fly_69 : decode cX12_fly 69 = .ok (.aload_n 0, 1) := by decide +kernel
theorem dX12_fly_70 : decode cX12_fly 70 = .ok (.getfield 201, 3) := by decide +kernel
theorem dX12_fly_73 : decode cX12_fly 73 = .ok (.if_icmp .ge 83, 3) := by decide +kernel
theorem dX12_fly_76 : decode cX12_fly 76 = .ok (.lconst 0, 1) := by decide +kernel
theorem dX12_fly_77 : decode cX12_fly 77 = .ok (.lstore 5, 2) := by decide +kernel
theorem dX12_fly_79 : decode cX12_fly 79 = .ok (.iconst 0, 1) := by decide +kernel
theorem dX12_fly_80 : decode cX12_fly 80 = .ok (.istore 7, 2) := by decide +kernel
theorem dX12_fly_82 : decode cX12_fly 82 = .ok (.iload 7, 2) := by decide +kernel
theorem dX12_fly_84 : decode cX12_fly 84 = .ok (.bipush 8, 2) := by decide +kernel
theorem dX12_fly_86 : decode cX12_fly 86 = .ok (.if_icmp .ge 50, 3) := by decide +kernel
theorem dX12_fly_89 : decode cX12_fly 89 = .ok (.lload 5, 2) := by decide +kernel
theorem dX12_fly_91 : decode cX12_fly 91 = .ok (.bipush 8, 2) := by decide +kernel
theorem dX12_fly_93 : decode cX12_fly 93 = .ok (.lshl, 1) := by decide +kernel
theorem dX12_fly_94 : decode cX12_fly 94 = .ok (.bipush 8, 2) := by decide +kernel
theorem dX12_fly_96 : decode cX12_fly 96 = .ok (.iload 4, 2) := by decide +kernel
theorem dX12_fly_98 : decode cX12_fly 98 = .ok (.imul, 1) := by decide +kernel
theorem dX12_fly_99 : decode cX12_fly 99 = .ok (.iload 7, 2) := by decide +kernel
theorem dX12_fly_101 : decode cX12_fly 101 = .ok (.iadd, 1) := by decide +kernel
theorem dX12_fly_102 : decode cX12_fly 102 = .ok (.aload_n 0, 1) := by decide +kernel
theorem dX12_fly_103 : decode cX12_fly 103 = .ok (.getfield 201, 3) := by decide +kernel
theorem dX12_fly_106 : decode cX12_fly 106 = .ok (.if_icmp .ge 19, 3) := by decide +kernel
theorem dX12_fly_109 : decode cX12_fly 109 = .ok (.aload_n 0, 1) := by decide +kernel
theorem dX12_fly_110 : decode cX12_fly 110 = .ok (.getfield 204, 3) := by decide +kernel
theorem dX12_fly_113 : decode cX12_fly 113 = .ok (.bipush 8, 2) := by decide +kernel
theorem dX12_fly_115 : decode cX12_fly 115 = .ok (.iload 4, 2) := by decide +kernel
theorem dX12_fly_117 : decode cX12_fly 117 = .ok (.imul, 1) := by decide +kernel
theorem dX12_fly_118 : decode cX12_fly 118 = .ok (.iload 7, 2) := by decide +kernel
theorem dX12_fly_120 : decode cX12_fly 120 = .ok (.iadd, 1) := by decide +kernel
theorem dX12_fly_121 : decode cX12_fly 121 = .ok (.iaload, 1) := by decide +kernel
theorem dX12_fly_122 : decode cX12_fly 122 = .ok (.goto 4, 3) := by decide +kernel
theorem dX12_fly_125 : decode cX12_fly 125 = .ok (.iconst 0, 1) := by decide +kernel
theorem dX12_fly_126 : decode cX12_fly 126 = .ok (.i2l, 1) := by decide +kernel
theorem dX12_fly_127 : decode cX12_fly 127 = .ok (.lor, 1) := by decide +kernel
theorem dX12_fly_128 : decode cX12_fly 128 = .ok (.lstore 5, 2) := by decide +kernel
theorem dX12_fly_130 : decode cX12_fly 130 = .ok (.iinc 7 1, 3) := by decide +kernel
theorem dX12_fly_133 : decode cX12_fly 133 = .ok (.goto (-51), 3) := by decide +kernel
theorem dX12_fly_136 : decode cX12_fly 136 = .ok (.aload_n 0, 1) := by decide +kernel
theorem dX12_fly_137 : decode cX12_fly 137 = .ok (.getfield 179, 3) := by decide +kernel
theorem dX12_fly_140 : decode cX12_fly 140 = .ok (.bipush 125, 2) := by decide +kernel
theorem dX12_fly_142 : decode cX12_fly 142 = .ok (.iload_n 3, 1) := by decide +kernel
theorem dX12_fly_143 : decode cX12_fly 143 = .ok (.imul, 1) := by decide +kernel
theorem dX12_fly_144 : decode cX12_fly 144 = .ok (.iload 4, 2) := by decide +kernel
theorem dX12_fly_146 : decode cX12_fly 146 = .ok (.iadd, 1) := by decide +kernel
theorem dX12_fly_147 : decode cX12_fly 147 = .ok (.lload 5, 2) := by decide +kernel
theorem dX12_fly_149 : decode cX12_fly 149 = .ok (.lastore, 1) := by decide +kernel
theorem dX12_fly_150 : decode cX12_fly 150 = .ok (.iinc 4 1, 3) := by decide +kernel
theorem dX12_fly_153 : decode cX12_fly 153 = .ok (.goto (-89), 3) := by decide +kernel
theorem dX12_fly_156 : decode cX12_fly 156 = .ok (.iconst 1, 1) := by decide +kernel
theorem dX12_fly_157 : decode cX12_fly 157 = .ok (.ireturn, 1) := by decide +kernel
theorem dX12_takeSlot_0 : decode cX12_takeSlot 0 = .ok (.aload_n 0, 1) := by decide +kernel
theorem dX12_takeSlot_1 : decode cX12_takeSlot 1 = .ok (.aload_n 0, 1) := by decide +kernel
theorem dX12_takeSlot_2 : decode cX12_takeSlot 2 = .ok (.getfield 207, 3) := by decide +kernel
theorem dX12_takeSlot_5 : decode cX12_takeSlot 5 = .ok (.iconst 1, 1) := by decide +kernel
theorem dX12_takeSlot_6 : decode cX12_takeSlot 6 = .ok (.isub, 1) := by decide +kernel
theorem dX12_takeSlot_7 : decode cX12_takeSlot 7 = .ok (.putfield 207, 3) := by decide +kernel
theorem dX12_takeSlot_10 : decode cX12_takeSlot 10 = .ok (.aload_n 0, 1) := by decide +kernel
theorem dX12_takeSlot_11 : decode cX12_takeSlot 11 = .ok (.getfield 210, 3) := by decide +kernel
theorem dX12_takeSlot_14 : decode cX12_takeSlot 14 = .ok (.aload_n 0, 1) := by decide +kernel
theorem dX12_takeSlot_15 : decode cX12_takeSlot 15 = .ok (.getfield 207, 3) := by decide +kernel
theorem dX12_takeSlot_18 : decode cX12_takeSlot 18 = .ok (.iaload, 1) := by decide +kernel
theorem dX12_takeSlot_19 : decode cX12_takeSlot 19 = .ok (.istore_n 1, 1) := by decide +kernel
theorem dX12_takeSlot_20 : decode cX12_takeSlot 20 = .ok (.aload_n 0, 1) := by decide +kernel
theorem dX12_takeSlot_21 : decode cX12_takeSlot 21 = .ok (.getfield 176, 3) := by decide +kernel
theorem dX12_takeSlot_24 : decode cX12_takeSlot 24 = .ok (.aload_n 0, 1) := by decide +kernel
theorem dX12_takeSlot_25 : decode cX12_takeSlot 25 = .ok (.getfield 182, 3) := by decide +kernel
theorem dX12_takeSlot_28 : decode cX12_takeSlot 28 = .ok (.iload_n 1, 1) := by decide +kernel
theorem dX12_takeSlot_29 : decode cX12_takeSlot 29 = .ok (.iastore, 1) := by decide +kernel
theorem dX12_takeSlot_30 : decode cX12_takeSlot 30 = .ok (.aload_n 0, 1) := by decide +kernel
theorem dX12_takeSlot_31 : decode cX12_takeSlot 31 = .ok (.aload_n 0, 1) := by decide +kernel
theorem dX12_takeSlot_32 : decode cX12_takeSlot 32 = .ok (.getfield 182, 3) := by decide +kernel
theorem dX12_takeSlot_35 : decode cX12_takeSlot 35 = .ok (.iconst 1, 1) := by decide +kernel
theorem dX12_takeSlot_36 : decode cX12_takeSlot 36 = .ok (.iadd, 1) := by decide +kernel
theorem dX12_takeSlot_37 : decode cX12_takeSlot 37 = .ok (.putfield 182, 3) := by decide +kernel
theorem dX12_takeSlot_40 : decode cX12_takeSlot 40 = .ok (.aload_n 0, 1) := by decide +kernel
theorem dX12_takeSlot_41 : decode cX12_takeSlot 41 = .ok (.getfield 213, 3) := by decide +kernel
theorem dX12_takeSlot_44 : decode cX12_takeSlot 44 = .ok (.iload_n 1, 1) := by decide +kernel
theorem dX12_takeSlot_45 : decode cX12_takeSlot 45 = .ok (.aload_n 0, 1) := by decide +kernel
theorem dX12_takeSlot_46 : decode cX12_takeSlot 46 = .ok (.getfield 216, 3) := by decide +kernel
theorem dX12_takeSlot_49 : decode cX12_takeSlot 49 = .ok (.iastore, 1) := by decide +kernel
theorem dX12_takeSlot_50 : decode cX12_takeSlot 50 = .ok (.iload_n 1, 1) := by decide +kernel
theorem dX12_takeSlot_51 : decode cX12_takeSlot 51 = .ok (.ireturn, 1) := by decide +kernel
theorem dX12_flyAll_0 : decode cX12_flyAll 0 = .ok (.iconst 0, 1) := by decide +kernel
theorem dX12_flyAll_1 : decode cX12_flyAll 1 = .ok (.istore_n 2, 1) := by decide +kernel
theorem dX12_flyAll_2 : decode cX12_flyAll 2 = .ok (.iload_n 2, 1) := by decide +kernel
theorem dX12_flyAll_3 : decode cX12_flyAll 3 = .ok (.aload_n 0, 1) := by decide +kernel
theorem dX12_flyAll_4 : decode cX12_flyAll 4 = .ok (.getfield 219, 3) := by decide +kernel
theorem dX12_flyAll_7 : decode cX12_flyAll 7 = .ok (.if_icmp .ge 21, 3) := by decide +kernel
theorem dX12_flyAll_10 : decode cX12_flyAll 10 = .ok (.iload_n 2, 1) := by decide +kernel
theorem dX12_flyAll_11 : decode cX12_flyAll 11 = .ok (.iload_n 1, 1) := by decide +kernel
theorem dX12_flyAll_12 : decode cX12_flyAll 12 = .ok (.if_icmp .eq 10, 3) := by decide +kernel
theorem dX12_flyAll_15 : decode cX12_flyAll 15 = .ok (.aload_n 0, 1) := by decide +kernel
theorem dX12_flyAll_16 : decode cX12_flyAll 16 = .ok (.iload_n 1, 1) := by decide +kernel
theorem dX12_flyAll_17 : decode cX12_flyAll 17 = .ok (.iload_n 2, 1) := by decide +kernel
theorem dX12_flyAll_18 : decode cX12_flyAll 18 = .ok (.invokevirtual 222, 3) := by decide +kernel
theorem dX12_flyAll_21 : decode cX12_flyAll 21 = .ok (.pop, 1) := by decide +kernel
theorem dX12_flyAll_22 : decode cX12_flyAll 22 = .ok (.iinc 2 1, 3) := by decide +kernel
theorem dX12_flyAll_25 : decode cX12_flyAll 25 = .ok (.goto (-23), 3) := by decide +kernel
theorem dX12_flyAll_28 : decode cX12_flyAll 28 = .ok (.return_, 1) := by decide +kernel
theorem dX12_sendOn_0 : decode cX12_sendOn 0 = .ok (.iconst 0, 1) := by decide +kernel
theorem dX12_sendOn_1 : decode cX12_sendOn 1 = .ok (.istore 4, 2) := by decide +kernel
theorem dX12_sendOn_3 : decode cX12_sendOn 3 = .ok (.iload 4, 2) := by decide +kernel
theorem dX12_sendOn_5 : decode cX12_sendOn 5 = .ok (.aload_n 0, 1) := by decide +kernel
theorem dX12_sendOn_6 : decode cX12_sendOn 6 = .ok (.getfield 219, 3) := by decide +kernel
theorem dX12_sendOn_9 : decode cX12_sendOn 9 = .ok (.if_icmp .ge 35, 3) := by decide +kernel
theorem dX12_sendOn_12 : decode cX12_sendOn 12 = .ok (.iload 4, 2) := by decide +kernel
theorem dX12_sendOn_14 : decode cX12_sendOn 14 = .ok (.iload_n 1, 1) := by decide +kernel
theorem dX12_sendOn_15 : decode cX12_sendOn 15 = .ok (.if_icmp .eq 23, 3) := by decide +kernel
theorem dX12_sendOn_18 : decode cX12_sendOn 18 = .ok (.iload 4, 2) := by decide +kernel
theorem dX12_sendOn_20 : decode cX12_sendOn 20 = .ok (.iload_n 2, 1) := by decide +kernel
theorem dX12_sendOn_21 : decode cX12_sendOn 21 = .ok (.if_icmp .eq 17, 3) := by decide +kernel
theorem dX12_sendOn_24 : decode cX12_sendOn 24 = .ok (.iload 4, 2) := by decide +kernel
theorem dX12_sendOn_26 : decode cX12_sendOn 26 = .ok (.iload_n 3, 1) := by decide +kernel
theorem dX12_sendOn_27 : decode cX12_sendOn 27 = .ok (.if_icmp .eq 11, 3) := by decide +kernel
theorem dX12_sendOn_30 : decode cX12_sendOn 30 = .ok (.aload_n 0, 1) := by decide +kernel
theorem dX12_sendOn_31 : decode cX12_sendOn 31 = .ok (.iload_n 1, 1) := by decide +kernel
theorem dX12_sendOn_32 : decode cX12_sendOn 32 = .ok (.iload 4, 2) := by decide +kernel
theorem dX12_sendOn_34 : decode cX12_sendOn 34 = .ok (.invokevirtual 222, 3) := by decide +kernel
theorem dX12_sendOn_37 : decode cX12_sendOn 37 = .ok (.pop, 1) := by decide +kernel
theorem dX12_sendOn_38 : decode cX12_sendOn 38 = .ok (.iinc 4 1, 3) := by decide +kernel
theorem dX12_sendOn_41 : decode cX12_sendOn 41 = .ok (.goto (-38), 3) := by decide +kernel
theorem dX12_sendOn_44 : decode cX12_sendOn 44 = .ok (.return_, 1) := by decide +kernel
theorem dX12_load_0 : decode cX12_load 0 = .ok (.aload_n 0, 1) := by decide +kernel
theorem dX12_load_1 : decode cX12_load 1 = .ok (.aload_n 0, 1) := by decide +kernel
theorem dX12_load_2 : decode cX12_load 2 = .ok (.getfield 173, 3) := by decide +kernel
theorem dX12_load_5 : decode cX12_load 5 = .ok (.aload_n 0, 1) := by decide +kernel
theorem dX12_load_6 : decode cX12_load 6 = .ok (.getfield 176, 3) := by decide +kernel
theorem dX12_load_9 : decode cX12_load 9 = .ok (.iload_n 1, 1) := by decide +kernel
theorem dX12_load_10 : decode cX12_load 10 = .ok (.iaload, 1) := by decide +kernel
theorem dX12_load_11 : decode cX12_load 11 = .ok (.iaload, 1) := by decide +kernel
theorem dX12_load_12 : decode cX12_load 12 = .ok (.putfield 201, 3) := by decide +kernel
theorem dX12_load_15 : decode cX12_load 15 = .ok (.iconst 0, 1) := by decide +kernel
theorem dX12_load_16 : decode cX12_load 16 = .ok (.istore_n 2, 1) := by decide +kernel
theorem dX12_load_17 : decode cX12_load 17 = .ok (.iload_n 2, 1) := by decide +kernel
theorem dX12_load_18 : decode cX12_load 18 = .ok (.aload_n 0, 1) := by decide +kernel
theorem dX12_load_19 : decode cX12_load 19 = .ok (.getfield 201, 3) := by decide +kernel
theorem dX12_load_22 : decode cX12_load 22 = .ok (.if_icmp .ge 21, 3) := by decide +kernel
theorem dX12_load_25 : decode cX12_load 25 = .ok (.aload_n 0, 1) := by decide +kernel
theorem dX12_load_26 : decode cX12_load 26 = .ok (.getfield 204, 3) := by decide +kernel
theorem dX12_load_29 : decode cX12_load 29 = .ok (.iload_n 2, 1) := by decide +kernel
theorem dX12_load_30 : decode cX12_load 30 = .ok (.aload_n 0, 1) := by decide +kernel
theorem dX12_load_31 : decode cX12_load 31 = .ok (.iload_n 1, 1) := by decide +kernel
theorem dX12_load_32 : decode cX12_load 32 = .ok (.iload_n 2, 1) := by decide +kernel
theorem dX12_load_33 : decode cX12_load 33 = .ok (.invokevirtual 170, 3) := by decide +kernel
theorem dX12_load_36 : decode cX12_load 36 = .ok (.iastore, 1) := by decide +kernel
theorem dX12_load_37 : decode cX12_load 37 = .ok (.iinc 2 1, 3) := by decide +kernel
theorem dX12_load_40 : decode cX12_load 40 = .ok (.goto (-23), 3) := by decide +kernel
theorem dX12_load_43 : decode cX12_load 43 = .ok (.return_, 1) := by decide +kernel
theorem dX12_write_0 : decode cX12_write 0 = .ok (.aload_n 0, 1) := by decide +kernel
theorem dX12_write_1 : decode cX12_write 1 = .ok (.getfield 204, 3) := by decide +kernel
theorem dX12_write_4 : decode cX12_write 4 = .ok (.aload_n 0, 1) := by decide +kernel
theorem dX12_write_5 : decode cX12_write 5 = .ok (.getfield 201, 3) := by decide +kernel
theorem dX12_write_8 : decode cX12_write 8 = .ok (.iload_n 1, 1) := by decide +kernel
theorem dX12_write_9 : decode cX12_write 9 = .ok (.sipush 255, 3) := by decide +kernel
theorem dX12_write_12 : decode cX12_write 12 = .ok (.iand, 1) := by decide +kernel
theorem dX12_write_13 : decode cX12_write 13 = .ok (.iastore, 1) := by decide +kernel
theorem dX12_write_14 : decode cX12_write 14 = .ok (.aload_n 0, 1) := by decide +kernel
theorem dX12_write_15 : decode cX12_write 15 = .ok (.aload_n 0, 1) := by decide +kernel
theorem dX12_write_16 : decode cX12_write 16 = .ok (.getfield 201, 3) := by decide +kernel
theorem dX12_write_19 : decode cX12_write 19 = .ok (.iconst 1, 1) := by decide +kernel
theorem dX12_write_20 : decode cX12_write 20 = .ok (.iadd, 1) := by decide +kernel
theorem dX12_write_21 : decode cX12_write 21 = .ok (.putfield 201, 3) := by decide +kernel
theorem dX12_write_24 : decode cX12_write 24 = .ok (.return_, 1) := by decide +kernel
theorem dX12_writeTwo_0 : decode cX12_writeTwo 0 = .ok (.aload_n 0, 1) := by decide +kernel
theorem dX12_writeTwo_1 : decode cX12_writeTwo 1 = .ok (.iload_n 1, 1) := by decide +kernel
theorem dX12_writeTwo_2 : decode cX12_writeTwo 2 = .ok (.bipush 8, 2) := by decide +kernel
theorem dX12_writeTwo_4 : decode cX12_writeTwo 4 = .ok (.ishr, 1) := by decide +kernel
theorem dX12_writeTwo_5 : decode cX12_writeTwo 5 = .ok (.invokevirtual 226, 3) := by decide +kernel
theorem dX12_writeTwo_8 : decode cX12_writeTwo 8 = .ok (.aload_n 0, 1) := by decide +kernel
theorem dX12_writeTwo_9 : decode cX12_writeTwo 9 = .ok (.iload_n 1, 1) := by decide +kernel
theorem dX12_writeTwo_10 : decode cX12_writeTwo 10 = .ok (.invokevirtual 226, 3) := by decide +kernel
theorem dX12_writeTwo_13 : decode cX12_writeTwo 13 = .ok (.return_, 1) := by decide +kernel
theorem dX12_writeBlock_0 : decode cX12_writeBlock 0 = .ok (.iconst 0, 1) := by decide +kernel
theorem dX12_writeBlock_1 : decode cX12_writeBlock 1 = .ok (.istore_n 2, 1) := by decide +kernel
theorem dX12_writeBlock_2 : decode cX12_writeBlock 2 = .ok (.iload_n 2, 1) := by decide +kernel
theorem dX12_writeBlock_3 : decode cX12_writeBlock 3 = .ok (.aload_n 0, 1) := by decide +kernel
theorem dX12_writeBlock_4 : decode cX12_writeBlock 4 = .ok (.getfield 57, 3) := by decide +kernel
theorem dX12_writeBlock_7 : decode cX12_writeBlock 7 = .ok (.iload_n 1, 1) := by decide +kernel
theorem dX12_writeBlock_8 : decode cX12_writeBlock 8 = .ok (.iaload, 1) := by decide +kernel
theorem dX12_writeBlock_9 : decode cX12_writeBlock 9 = .ok (.if_icmp .ge 19, 3) := by decide +kernel
theorem dX12_writeBlock_12 : decode cX12_writeBlock 12 = .ok (.aload_n 0, 1) := by decide +kernel
theorem dX12_writeBlock_13 : decode cX12_writeBlock 13 = .ok (.aload_n 0, 1) := by decide +kernel
theorem dX12_writeBlock_14 : decode cX12_writeBlock 14 = .ok (.iload_n 1, 1) := by decide +kernel
theorem dX12_writeBlock_15 : decode cX12_writeBlock 15 = .ok (.iload_n 2, 1) := by decide +kernel
theorem dX12_writeBlock_16 : decode cX12_writeBlock 16 = .ok (.invokevirtual 67, 3) := by decide +kernel
theorem dX12_writeBlock_19 : decode cX12_writeBlock 19 = .ok (.invokevirtual 226, 3) := by decide +kernel
theorem dX12_writeBlock_22 : decode cX12_writeBlock 22 = .ok (.iinc 2 1, 3) := by decide +kernel
theorem dX12_writeBlock_25 : decode cX12_writeBlock 25 = .ok (.goto (-23), 3) := by decide +kernel
theorem dX12_writeBlock_28 : decode cX12_writeBlock 28 = .ok (.return_, 1) := by decide +kernel
theorem dX12_writeHead_0 : decode cX12_writeHead 0 = .ok (.aload_n 0, 1) := by decide +kernel
theorem dX12_writeHead_1 : decode cX12_writeHead 1 = .ok (.iconst 0, 1) := by decide +kernel
theorem dX12_writeHead_2 : decode cX12_writeHead 2 = .ok (.putfield 201, 3) := by decide +kernel
theorem dX12_writeHead_5 : decode cX12_writeHead 5 = .ok (.aload_n 0, 1) := by decide +kernel
theorem dX12_writeHead_6 : decode cX12_writeHead 6 = .ok (.iload_n 1, 1) := by decide +kernel
theorem dX12_writeHead_7 : decode cX12_writeHead 7 = .ok (.invokevirtual 226, 3) := by decide +kernel
theorem dX12_writeHead_10 : decode cX12_writeHead 10 = .ok (.aload_n 0, 1) := by decide +kernel
theorem dX12_writeHead_11 : decode cX12_writeHead 11 = .ok (.iload_n 2, 1) := by decide +kernel
theorem dX12_writeHead_12 : decode cX12_writeHead 12 = .ok (.invokevirtual 226, 3) := by decide +kernel
theorem dX12_writeHead_15 : decode cX12_writeHead 15 = .ok (.aload_n 0, 1) := by decide +kernel
theorem dX12_writeHead_16 : decode cX12_writeHead 16 = .ok (.iload_n 3, 1) := by decide +kernel
theorem dX12_writeHead_17 : decode cX12_writeHead 17 = .ok (.invokevirtual 229, 3) := by decide +kernel
theorem dX12_writeHead_20 : decode cX12_writeHead 20 = .ok (.aload_n 0, 1) := by decide +kernel
theorem dX12_writeHead_21 : decode cX12_writeHead 21 = .ok (.iload 4, 2) := by decide +kernel
theorem dX12_writeHead_23 : decode cX12_writeHead 23 = .ok (.invokevirtual 226, 3) := by decide +kernel
theorem dX12_writeHead_26 : decode cX12_writeHead 26 = .ok (.return_, 1) := by decide +kernel
theorem dX12_isPaymentAt_0 : decode cX12_isPaymentAt 0 = .ok (.iload_n 1, 1) := by decide +kernel
theorem dX12_isPaymentAt_1 : decode cX12_isPaymentAt 1 = .ok (.bipush 7, 2) := by decide +kernel
theorem dX12_isPaymentAt_3 : decode cX12_isPaymentAt 3 = .ok (.iadd, 1) := by decide +kernel
theorem dX12_isPaymentAt_4 : decode cX12_isPaymentAt 4 = .ok (.aload_n 0, 1) := by decide +kernel
theorem dX12_isPaymentAt_5 : decode cX12_isPaymentAt 5 = .ok (.getfield 201, 3) := by decide +kernel
theorem dX12_isPaymentAt_8 : decode cX12_isPaymentAt 8 = .ok (.if_icmp .le 5, 3) := by decide +kernel
theorem dX12_isPaymentAt_11 : decode cX12_isPaymentAt 11 = .ok (.iconst 0, 1) := by decide +kernel
theorem dX12_isPaymentAt_12 : decode cX12_isPaymentAt 12 = .ok (.ireturn, 1) := by decide +kernel
theorem dX12_isPaymentAt_13 : decode cX12_isPaymentAt 13 = .ok (.aload_n 0, 1) := by decide +kernel
theorem dX12_isPaymentAt_14 : decode cX12_isPaymentAt 14 = .ok (.getfield 204, 3) := by decide +kernel
theorem dX12_isPaymentAt_17 : decode cX12_isPaymentAt 17 = .ok (.iload_n 1, 1) := by decide +kernel
theorem dX12_isPaymentAt_18 : decode cX12_isPaymentAt 18 = .ok (.iconst 2, 1) := by decide +kernel
theorem dX12_isPaymentAt_19 : decode cX12_isPaymentAt 19 = .ok (.iadd, 1) := by decide +kernel
theorem dX12_isPaymentAt_20 : decode cX12_isPaymentAt 20 = .ok (.iaload, 1) := by decide +kernel
theorem dX12_isPaymentAt_21 : decode cX12_isPaymentAt 21 = .ok (.bipush 8, 2) := by decide +kernel
theorem dX12_isPaymentAt_23 : decode cX12_isPaymentAt 23 = .ok (.ishl, 1) := by decide +kernel
theorem dX12_isPaymentAt_24 : decode cX12_isPaymentAt 24 = .ok (.aload_n 0, 1) := by decide +kernel
theorem dX12_isPaymentAt_25 : decode cX12_isPaymentAt 25 = .ok (.getfield 204, 3) := by decide +kernel
theorem dX12_isPaymentAt_28 : decode cX12_isPaymentAt 28 = .ok (.iload_n 1, 1) := by decide +kernel
theorem dX12_isPaymentAt_29 : decode cX12_isPaymentAt 29 = .ok (.iconst 3, 1) := by decide +kernel
theorem dX12_isPaymentAt_30 : decode cX12_isPaymentAt 30 = .ok (.iadd, 1) := by decide +kernel
theorem dX12_isPaymentAt_31 : decode cX12_isPaymentAt 31 = .ok (.iaload, 1) := by decide +kernel
theorem dX12_isPaymentAt_32 : decode cX12_isPaymentAt 32 = .ok (.ior, 1) := by decide +kernel
theorem dX12_isPaymentAt_33 : decode cX12_isPaymentAt 33 = .ok (.istore_n 2, 1) := by decide +kernel
theorem dX12_isPaymentAt_34 : decode cX12_isPaymentAt 34 = .ok (.aload_n 0, 1) := by decide +kernel
theorem dX12_isPaymentAt_35 : decode cX12_isPaymentAt 35 = .ok (.getfield 204, 3) := by decide +kernel
theorem dX12_isPaymentAt_38 : decode cX12_isPaymentAt 38 = .ok (.iload_n 1, 1) := by decide +kernel
theorem dX12_isPaymentAt_39 : decode cX12_isPaymentAt 39 = .ok (.iaload, 1) := by decide +kernel
theorem dX12_isPaymentAt_40 : decode cX12_isPaymentAt 40 = .ok (.bipush 16, 2) := by decide +kernel
theorem dX12_isPaymentAt_42 : decode cX12_isPaymentAt 42 = .ok (.if_icmp .ge 74, 3) := by decide +kernel
theorem dX12_isPaymentAt_45 : decode cX12_isPaymentAt 45 = .ok (.aload_n 0, 1) := by decide +kernel
theorem dX12_isPaymentAt_46 : decode cX12_isPaymentAt 46 = .ok (.getfield 204, 3) := by decide +kernel
theorem dX12_isPaymentAt_49 : decode cX12_isPaymentAt 49 = .ok (.iload_n 1, 1) := by decide +kernel
theorem dX12_isPaymentAt_50 : decode cX12_isPaymentAt 50 = .ok (.iconst 1, 1) := by decide +kernel
theorem dX12_isPaymentAt_51 : decode cX12_isPaymentAt 51 = .ok (.iadd, 1) := by decide +kernel
theorem dX12_isPaymentAt_52 : decode cX12_isPaymentAt 52 = .ok (.iaload, 1) := by decide +kernel
theorem dX12_isPaymentAt_53 : decode cX12_isPaymentAt 53 = .ok (.bipush 16, 2) := by decide +kernel
theorem dX12_isPaymentAt_55 : decode cX12_isPaymentAt 55 = .ok (.if_icmp .ge 61, 3) := by decide +kernel
theorem dX12_isPaymentAt_58 : decode cX12_isPaymentAt 58 = .ok (.aload_n 0, 1) := by decide +kernel
theorem dX12_isPaymentAt_59 : decode cX12_isPaymentAt 59 = .ok (.getfield 204, 3) := by decide +kernel
theorem dX12_isPaymentAt_62 : decode cX12_isPaymentAt 62 = .ok (.iload_n 1, 1) := by decide +kernel
theorem dX12_isPaymentAt_63 : decode cX12_isPaymentAt 63 = .ok (.iaload, 1) := by decide +kernel
theorem dX12_isPaymentAt_64 : decode cX12_isPaymentAt 64 = .ok (.aload_n 0, 1) := by decide +kernel
theorem dX12_isPaymentAt_65 : decode cX12_isPaymentAt 65 = .ok (.getfield 204, 3) := by decide +kernel
theorem dX12_isPaymentAt_68 : decode cX12_isPaymentAt 68 = .ok (.iload_n 1, 1) := by decide +kernel
theorem dX12_isPaymentAt_69 : decode cX12_isPaymentAt 69 = .ok (.iconst 1, 1) := by decide +kernel
theorem dX12_isPaymentAt_70 : decode cX12_isPaymentAt 70 = .ok (.iadd, 1) := by decide +kernel
theorem dX12_isPaymentAt_71 : decode cX12_isPaymentAt 71 = .ok (.iaload, 1) := by decide +kernel
theorem dX12_isPaymentAt_72 : decode cX12_isPaymentAt 72 = .ok (.if_icmp .eq 44, 3) := by decide +kernel
theorem dX12_isPaymentAt_75 : decode cX12_isPaymentAt 75 = .ok (.iload_n 2, 1) := by decide +kernel
theorem dX12_isPaymentAt_76 : decode cX12_isPaymentAt 76 = .ok (.ifCond .le 40, 3) := by decide +kernel
theorem dX12_isPaymentAt_79 : decode cX12_isPaymentAt 79 = .ok (.iload_n 2, 1) := by decide +kernel
theorem dX12_isPaymentAt_80 : decode cX12_isPaymentAt 80 = .ok (.sipush 1000, 3) := by decide +kernel
theorem dX12_isPaymentAt_83 : decode cX12_isPaymentAt 83 = .ok (.if_icmp .gt 33, 3) := by decide +kernel
theorem dX12_isPaymentAt_86 : decode cX12_isPaymentAt 86 = .ok (.aload_n 0, 1) := by decide +kernel
theorem dX12_isPaymentAt_87 : decode cX12_isPaymentAt 87 = .ok (.getfield 204, 3) := by decide +kernel
theorem dX12_isPaymentAt_90 : decode cX12_isPaymentAt 90 = .ok (.iload_n 1, 1) := by decide +kernel
theorem dX12_isPaymentAt_91 : decode cX12_isPaymentAt 91 = .ok (.bipush 6, 2) := by decide +kernel
theorem dX12_isPaymentAt_93 : decode cX12_isPaymentAt 93 = .ok (.iadd, 1) := by decide +kernel
theorem dX12_isPaymentAt_94 : decode cX12_isPaymentAt 94 = .ok (.iaload, 1) := by decide +kernel
theorem dX12_isPaymentAt_95 : decode cX12_isPaymentAt 95 = .ok (.ifCond .le 21, 3) := by decide +kernel
theorem dX12_isPaymentAt_98 : decode cX12_isPaymentAt 98 = .ok (.aload_n 0, 1) := by decide +kernel
theorem dX12_isPaymentAt_99 : decode cX12_isPaymentAt 99 = .ok (.getfield 204, 3) := by decide +kernel
theorem dX12_isPaymentAt_102 : decode cX12_isPaymentAt 102 = .ok (.iload_n 1, 1) := by decide +kernel
theorem dX12_isPaymentAt_103 : decode cX12_isPaymentAt 103 = .ok (.bipush 6, 2) := by decide +kernel
theorem dX12_isPaymentAt_105 : decode cX12_isPaymentAt 105 = .ok (.iadd, 1) := by decide +kernel
theorem dX12_isPaymentAt_106 : decode cX12_isPaymentAt 106 = .ok (.iaload, 1) := by decide +kernel
theorem dX12_isPaymentAt_107 : decode cX12_isPaymentAt 107 = .ok (.bipush 10, 2) := by decide +kernel
theorem dX12_isPaymentAt_109 : decode cX12_isPaymentAt 109 = .ok (.if_icmp .ge 7, 3) := by decide +kernel
theorem dX12_isPaymentAt_112 : decode cX12_isPaymentAt 112 = .ok (.iconst 1, 1) := by decide +kernel
theorem dX12_isPaymentAt_113 : decode cX12_isPaymentAt 113 = .ok (.goto 4, 3) := by decide +kernel
theorem dX12_isPaymentAt_116 : decode cX12_isPaymentAt 116 = .ok (.iconst 0, 1) := by decide +kernel
theorem dX12_isPaymentAt_117 : decode cX12_isPaymentAt 117 = .ok (.ireturn, 1) := by decide +kernel
theorem dX12_heightAt_0 : decode cX12_heightAt 0 = .ok (.iload_n 1, 1) := by decide +kernel
theorem dX12_heightAt_1 : decode cX12_heightAt 1 = .ok (.iconst 2, 1) := by decide +kernel
theorem dX12_heightAt_2 : decode cX12_heightAt 2 = .ok (.iadd, 1) := by decide +kernel
theorem dX12_heightAt_3 : decode cX12_heightAt 3 = .ok (.aload_n 0, 1) := by decide +kernel
theorem dX12_heightAt_4 : decode cX12_heightAt 4 = .ok (.getfield 201, 3) := by decide +kernel
theorem dX12_heightAt_7 : decode cX12_heightAt 7 = .ok (.if_icmp .gt 24, 3) := by decide +kernel
theorem dX12_heightAt_10 : decode cX12_heightAt 10 = .ok (.aload_n 0, 1) := by decide +kernel
theorem dX12_heightAt_11 : decode cX12_heightAt 11 = .ok (.getfield 204, 3) := by decide +kernel
theorem dX12_heightAt_14 : decode cX12_heightAt 14 = .ok (.iload_n 1, 1) := by decide +kernel
theorem dX12_heightAt_15 : decode cX12_heightAt 15 = .ok (.iaload, 1) := by decide +kernel
theorem dX12_heightAt_16 : decode cX12_heightAt 16 = .ok (.bipush 8, 2) := by decide +kernel
theorem dX12_heightAt_18 : decode cX12_heightAt 18 = .ok (.ishl, 1) := by decide +kernel
theorem dX12_heightAt_19 : decode cX12_heightAt 19 = .ok (.aload_n 0, 1) := by decide +kernel
theorem dX12_heightAt_20 : decode cX12_heightAt 20 = .ok (.getfield 204, 3) := by decide +kernel
theorem dX12_heightAt_23 : decode cX12_heightAt 23 = .ok (.iload_n 1, 1) := by decide +kernel
theorem dX12_heightAt_24 : decode cX12_heightAt 24 = .ok (.iconst 1, 1) := by decide +kernel
theorem dX12_heightAt_25 : decode cX12_heightAt 25 = .ok (.iadd, 1) := by decide +kernel
theorem dX12_heightAt_26 : decode cX12_heightAt 26 = .ok (.iaload, 1) := by decide +kernel
theorem dX12_heightAt_27 : decode cX12_heightAt 27 = .ok (.ior, 1) := by decide +kernel
theorem dX12_heightAt_28 : decode cX12_heightAt 28 = .ok (.goto 4, 3) := by decide +kernel
theorem dX12_heightAt_31 : decode cX12_heightAt 31 = .ok (.iconst 0, 1) := by decide +kernel
theorem dX12_heightAt_32 : decode cX12_heightAt 32 = .ok (.istore_n 2, 1) := by decide +kernel
theorem dX12_heightAt_33 : decode cX12_heightAt 33 = .ok (.iload_n 2, 1) := by decide +kernel
theorem dX12_heightAt_34 : decode cX12_heightAt 34 = .ok (.bipush 41, 2) := by decide +kernel
theorem dX12_heightAt_36 : decode cX12_heightAt 36 = .ok (.if_icmp .gt 7, 3) := by decide +kernel
theorem dX12_heightAt_39 : decode cX12_heightAt 39 = .ok (.iload_n 2, 1) := by decide +kernel
theorem dX12_heightAt_40 : decode cX12_heightAt 40 = .ok (.goto 4, 3) := by decide +kernel
theorem dX12_heightAt_43 : decode cX12_heightAt 43 = .ok (.iconst 0, 1) := by decide +kernel
theorem dX12_heightAt_44 : decode cX12_heightAt 44 = .ok (.ireturn, 1) := by decide +kernel
theorem dX12_endAt_0 : decode cX12_endAt 0 = .ok (.iload_n 1, 1) := by decide +kernel
theorem dX12_endAt_1 : decode cX12_endAt 1 = .ok (.aload_n 0, 1) := by decide +kernel
theorem dX12_endAt_2 : decode cX12_endAt 2 = .ok (.getfield 201, 3) := by decide +kernel
theorem dX12_endAt_5 : decode cX12_endAt 5 = .ok (.if_icmp .ge 13, 3) := by decide +kernel
theorem dX12_endAt_8 : decode cX12_endAt 8 = .ok (.aload_n 0, 1) := by decide +kernel
theorem dX12_endAt_9 : decode cX12_endAt 9 = .ok (.getfield 204, 3) := by decide +kernel
theorem dX12_endAt_12 : decode cX12_endAt 12 = .ok (.iload_n 1, 1) := by decide +kernel
theorem dX12_endAt_13 : decode cX12_endAt 13 = .ok (.iaload, 1) := by decide +kernel
theorem dX12_endAt_14 : decode cX12_endAt 14 = .ok (.iconst 1, 1) := by decide +kernel
theorem dX12_endAt_15 : decode cX12_endAt 15 = .ok (.if_icmp .le 5, 3) := by decide +kernel
theorem dX12_endAt_18 : decode cX12_endAt 18 = .ok (.iconst 0, 1) := by decide +kernel
theorem dX12_endAt_19 : decode cX12_endAt 19 = .ok (.ireturn, 1) := by decide +kernel
theorem dX12_endAt_20 : decode cX12_endAt 20 = .ok (.aload_n 0, 1) := by decide +kernel
theorem dX12_endAt_21 : decode cX12_endAt 21 = .ok (.getfield 204, 3) := by decide +kernel
theorem dX12_endAt_24 : decode cX12_endAt 24 = .ok (.iload_n 1, 1) := by decide +kernel
theorem dX12_endAt_25 : decode cX12_endAt 25 = .ok (.iaload, 1) := by decide +kernel
theorem dX12_endAt_26 : decode cX12_endAt 26 = .ok (.iconst 1, 1) := by decide +kernel
theorem dX12_endAt_27 : decode cX12_endAt 27 = .ok (.if_icmp .ne 8, 3) := by decide +kernel
theorem dX12_endAt_30 : decode cX12_endAt 30 = .ok (.bipush 33, 2) := by decide +kernel
theorem dX12_endAt_32 : decode cX12_endAt 32 = .ok (.goto 4, 3) := by decide +kernel
theorem dX12_endAt_35 : decode cX12_endAt 35 = .ok (.iconst 1, 1) := by decide +kernel
theorem dX12_endAt_36 : decode cX12_endAt 36 = .ok (.istore_n 2, 1) := by decide +kernel
theorem dX12_endAt_37 : decode cX12_endAt 37 = .ok (.iload_n 1, 1) := by decide +kernel
theorem dX12_endAt_38 : decode cX12_endAt 38 = .ok (.iload_n 2, 1) := by decide +kernel
theorem dX12_endAt_39 : decode cX12_endAt 39 = .ok (.iadd, 1) := by decide +kernel
theorem dX12_endAt_40 : decode cX12_endAt 40 = .ok (.aload_n 0, 1) := by decide +kernel
theorem dX12_endAt_41 : decode cX12_endAt 41 = .ok (.getfield 201, 3) := by decide +kernel
theorem dX12_endAt_44 : decode cX12_endAt 44 = .ok (.if_icmp .le 7, 3) := by decide +kernel
theorem dX12_endAt_47 : decode cX12_endAt 47 = .ok (.iconst 0, 1) := by decide +kernel
theorem dX12_endAt_48 : decode cX12_endAt 48 = .ok (.goto 4, 3) := by decide +kernel
theorem dX12_endAt_51 : decode cX12_endAt 51 = .ok (.iload_n 2, 1) := by decide +kernel
theorem dX12_endAt_52 : decode cX12_endAt 52 = .ok (.ireturn, 1) := by decide +kernel
theorem dX12_isLess_0 : decode cX12_isLess 0 = .ok (.iconst 0, 1) := by decide +kernel
theorem dX12_isLess_1 : decode cX12_isLess 1 = .ok (.istore_n 3, 1) := by decide +kernel
theorem dX12_isLess_2 : decode cX12_isLess 2 = .ok (.iload_n 3, 1) := by decide +kernel
theorem dX12_isLess_3 : decode cX12_isLess 3 = .ok (.bipush 31, 2) := by decide +kernel
theorem dX12_isLess_5 : decode cX12_isLess 5 = .ok (.if_icmp .ge 28, 3) := by decide +kernel
theorem dX12_isLess_8 : decode cX12_isLess 8 = .ok (.aload_n 0, 1) := by decide +kernel
theorem dX12_isLess_9 : decode cX12_isLess 9 = .ok (.getfield 204, 3) := by decide +kernel
theorem dX12_isLess_12 : decode cX12_isLess 12 = .ok (.iload_n 1, 1) := by decide +kernel
theorem dX12_isLess_13 : decode cX12_isLess 13 = .ok (.iload_n 3, 1) := by decide +kernel
theorem dX12_isLess_14 : decode cX12_isLess 14 = .ok (.iadd, 1) := by decide +kernel
theorem dX12_isLess_15 : decode cX12_isLess 15 = .ok (.iaload, 1) := by decide +kernel
theorem dX12_isLess_16 : decode cX12_isLess 16 = .ok (.aload_n 0, 1) := by decide +kernel
theorem dX12_isLess_17 : decode cX12_isLess 17 = .ok (.getfield 204, 3) := by decide +kernel
theorem dX12_isLess_20 : decode cX12_isLess 20 = .ok (.iload_n 2, 1) := by decide +kernel
theorem dX12_isLess_21 : decode cX12_isLess 21 = .ok (.iload_n 3, 1) := by decide +kernel
theorem dX12_isLess_22 : decode cX12_isLess 22 = .ok (.iadd, 1) := by decide +kernel
theorem dX12_isLess_23 : decode cX12_isLess 23 = .ok (.iaload, 1) := by decide +kernel
theorem dX12_isLess_24 : decode cX12_isLess 24 = .ok (.if_icmp .ne 9, 3) := by decide +kernel
theorem dX12_isLess_27 : decode cX12_isLess 27 = .ok (.iinc 3 1, 3) := by decide +kernel
theorem dX12_isLess_30 : decode cX12_isLess 30 = .ok (.goto (-28), 3) := by decide +kernel
theorem dX12_isLess_33 : decode cX12_isLess 33 = .ok (.aload_n 0, 1) := by decide +kernel
theorem dX12_isLess_34 : decode cX12_isLess 34 = .ok (.getfield 204, 3) := by decide +kernel
theorem dX12_isLess_37 : decode cX12_isLess 37 = .ok (.iload_n 1, 1) := by decide +kernel
theorem dX12_isLess_38 : decode cX12_isLess 38 = .ok (.iload_n 3, 1) := by decide +kernel
theorem dX12_isLess_39 : decode cX12_isLess 39 = .ok (.iadd, 1) := by decide +kernel
theorem dX12_isLess_40 : decode cX12_isLess 40 = .ok (.iaload, 1) := by decide +kernel
theorem dX12_isLess_41 : decode cX12_isLess 41 = .ok (.aload_n 0, 1) := by decide +kernel
theorem dX12_isLess_42 : decode cX12_isLess 42 = .ok (.getfield 204, 3) := by decide +kernel
theorem dX12_isLess_45 : decode cX12_isLess 45 = .ok (.iload_n 2, 1) := by decide +kernel
theorem dX12_isLess_46 : decode cX12_isLess 46 = .ok (.iload_n 3, 1) := by decide +kernel
theorem dX12_isLess_47 : decode cX12_isLess 47 = .ok (.iadd, 1) := by decide +kernel
theorem dX12_isLess_48 : decode cX12_isLess 48 = .ok (.iaload, 1) := by decide +kernel
theorem dX12_isLess_49 : decode cX12_isLess 49 = .ok (.if_icmp .ge 7, 3) := by decide +kernel
theorem dX12_isLess_52 : decode cX12_isLess 52 = .ok (.iconst 1, 1) := by decide +kernel
theorem dX12_isLess_53 : decode cX12_isLess 53 = .ok (.goto 4, 3) := by decide +kernel
theorem dX12_isLess_56 : decode cX12_isLess 56 = .ok (.iconst 0, 1) := by decide +kernel
theorem dX12_isLess_57 : decode cX12_isLess 57 = .ok (.ireturn, 1) := by decide +kernel
theorem dX12_evidenceAt_0 : decode cX12_evidenceAt 0 = .ok (.iload_n 1, 1) := by decide +kernel
theorem dX12_evidenceAt_1 : decode cX12_evidenceAt 1 = .ok (.iconst 5, 1) := by decide +kernel
theorem dX12_evidenceAt_2 : decode cX12_evidenceAt 2 = .ok (.iadd, 1) := by decide +kernel
theorem dX12_evidenceAt_3 : decode cX12_evidenceAt 3 = .ok (.aload_n 0, 1) := by decide +kernel
theorem dX12_evidenceAt_4 : decode cX12_evidenceAt 4 = .ok (.getfield 201, 3) := by decide +kernel
theorem dX12_evidenceAt_7 : decode cX12_evidenceAt 7 = .ok (.if_icmp .gt 63, 3) := by decide +kernel
theorem dX12_evidenceAt_10 : decode cX12_evidenceAt 10 = .ok (.aload_n 0, 1) := by decide +kernel
theorem dX12_evidenceAt_11 : decode cX12_evidenceAt 11 = .ok (.getfield 204, 3) := by decide +kernel
theorem dX12_evidenceAt_14 : decode cX12_evidenceAt 14 = .ok (.iload_n 1, 1) := by decide +kernel
theorem dX12_evidenceAt_15 : decode cX12_evidenceAt 15 = .ok (.iaload, 1) := by decide +kernel
theorem dX12_evidenceAt_16 : decode cX12_evidenceAt 16 = .ok (.aload_n 0, 1) := by decide +kernel
theorem dX12_evidenceAt_17 : decode cX12_evidenceAt 17 = .ok (.getfield 219, 3) := by decide +kernel
theorem dX12_evidenceAt_20 : decode cX12_evidenceAt 20 = .ok (.if_icmp .ge 50, 3) := by decide +kernel
theorem dX12_evidenceAt_23 : decode cX12_evidenceAt 23 = .ok (.aload_n 0, 1) := by decide +kernel
theorem dX12_evidenceAt_24 : decode cX12_evidenceAt 24 = .ok (.getfield 204, 3) := by decide +kernel
theorem dX12_evidenceAt_27 : decode cX12_evidenceAt 27 = .ok (.iload_n 1, 1) := by decide +kernel
theorem dX12_evidenceAt_28 : decode cX12_evidenceAt 28 = .ok (.iconst 1, 1) := by decide +kernel
theorem dX12_evidenceAt_29 : decode cX12_evidenceAt 29 = .ok (.iadd, 1) := by decide +kernel
theorem dX12_evidenceAt_30 : decode cX12_evidenceAt 30 = .ok (.iaload, 1) := by decide +kernel
theorem dX12_evidenceAt_31 : decode cX12_evidenceAt 31 = .ok (.iconst 1, 1) := by decide +kernel
theorem dX12_evidenceAt_32 : decode cX12_evidenceAt 32 = .ok (.if_icmp .lt 38, 3) := by decide +kernel
theorem dX12_evidenceAt_35 : decode cX12_evidenceAt 35 = .ok (.aload_n 0, 1) := by decide +kernel
theorem dX12_evidenceAt_36 : decode cX12_evidenceAt 36 = .ok (.getfield 204, 3) := by decide +kernel
theorem dX12_evidenceAt_39 : decode cX12_evidenceAt 39 = .ok (.iload_n 1, 1) := by decide +kernel
theorem dX12_evidenceAt_40 : decode cX12_evidenceAt 40 = .ok (.iconst 1, 1) := by decide +kernel
theorem dX12_evidenceAt_41 : decode cX12_evidenceAt 41 = .ok (.iadd, 1) := by decide +kernel
theorem dX12_evidenceAt_42 : decode cX12_evidenceAt 42 = .ok (.iaload, 1) := by decide +kernel
theorem dX12_evidenceAt_43 : decode cX12_evidenceAt 43 = .ok (.iconst 3, 1) := by decide +kernel
theorem dX12_evidenceAt_44 : decode cX12_evidenceAt 44 = .ok (.if_icmp .gt 26, 3) := by decide +kernel
theorem dX12_evidenceAt_47 : decode cX12_evidenceAt 47 = .ok (.aload_n 0, 1) := by decide +kernel
theorem dX12_evidenceAt_48 : decode cX12_evidenceAt 48 = .ok (.iload_n 1, 1) := by decide +kernel
theorem dX12_evidenceAt_49 : decode cX12_evidenceAt 49 = .ok (.iconst 2, 1) := by decide +kernel
theorem dX12_evidenceAt_50 : decode cX12_evidenceAt 50 = .ok (.iadd, 1) := by decide +kernel
theorem dX12_evidenceAt_51 : decode cX12_evidenceAt 51 = .ok (.invokevirtual 232, 3) := by decide +kernel
theorem dX12_evidenceAt_54 : decode cX12_evidenceAt 54 = .ok (.ifCond .eq 16, 3) := by decide +kernel
theorem dX12_evidenceAt_57 : decode cX12_evidenceAt 57 = .ok (.aload_n 0, 1) := by decide +kernel
theorem dX12_evidenceAt_58 : decode cX12_evidenceAt 58 = .ok (.getfield 204, 3) := by decide +kernel
theorem dX12_evidenceAt_61 : decode cX12_evidenceAt 61 = .ok (.iload_n 1, 1) := by decide +kernel
theorem dX12_evidenceAt_62 : decode cX12_evidenceAt 62 = .ok (.iconst 4, 1) := by decide +kernel
theorem dX12_evidenceAt_63 : decode cX12_evidenceAt 63 = .ok (.iadd, 1) := by decide +kernel
theorem dX12_evidenceAt_64 : decode cX12_evidenceAt 64 = .ok (.iaload, 1) := by decide +kernel
theorem dX12_evidenceAt_65 : decode cX12_evidenceAt 65 = .ok (.bipush 15, 2) := by decide +kernel
theorem dX12_evidenceAt_67 : decode cX12_evidenceAt 67 = .ok (.if_icmp .le 5, 3) := by decide +kernel
theorem dX12_evidenceAt_70 : decode cX12_evidenceAt 70 = .ok (.iconst 0, 1) := by decide +kernel
theorem dX12_evidenceAt_71 : decode cX12_evidenceAt 71 = .ok (.ireturn, 1) := by decide +kernel
theorem dX12_evidenceAt_72 : decode cX12_evidenceAt 72 = .ok (.aload_n 0, 1) := by decide +kernel
theorem dX12_evidenceAt_73 : decode cX12_evidenceAt 73 = .ok (.iload_n 1, 1) := by decide +kernel
theorem dX12_evidenceAt_74 : decode cX12_evidenceAt 74 = .ok (.iconst 5, 1) := by decide +kernel
theorem dX12_evidenceAt_75 : decode cX12_evidenceAt 75 = .ok (.iadd, 1) := by decide +kernel
theorem dX12_evidenceAt_76 : decode cX12_evidenceAt 76 = .ok (.invokevirtual 235, 3) := by decide +kernel
theorem dX12_evidenceAt_79 : decode cX12_evidenceAt 79 = .ok (.istore_n 2, 1) := by decide +kernel
theorem dX12_evidenceAt_80 : decode cX12_evidenceAt 80 = .ok (.iload_n 2, 1) := by decide +kernel
theorem dX12_evidenceAt_81 : decode cX12_evidenceAt 81 = .ok (.ifCond .le 15, 3) := by decide +kernel
theorem dX12_evidenceAt_84 : decode cX12_evidenceAt 84 = .ok (.aload_n 0, 1) := by decide +kernel
theorem dX12_evidenceAt_85 : decode cX12_evidenceAt 85 = .ok (.iload_n 1, 1) := by decide +kernel
theorem dX12_evidenceAt_86 : decode cX12_evidenceAt 86 = .ok (.iconst 5, 1) := by decide +kernel
theorem dX12_evidenceAt_87 : decode cX12_evidenceAt 87 = .ok (.iadd, 1) := by decide +kernel
theorem dX12_evidenceAt_88 : decode cX12_evidenceAt 88 = .ok (.iload_n 2, 1) := by decide +kernel
theorem dX12_evidenceAt_89 : decode cX12_evidenceAt 89 = .ok (.iadd, 1) := by decide +kernel
theorem dX12_evidenceAt_90 : decode cX12_evidenceAt 90 = .ok (.invokevirtual 235, 3) := by decide +kernel
theorem dX12_evidenceAt_93 : decode cX12_evidenceAt 93 = .ok (.goto 4, 3) := by decide +kernel
theorem dX12_evidenceAt_96 : decode cX12_evidenceAt 96 = .ok (.iconst 0, 1) := by decide +kernel
theorem dX12_evidenceAt_97 : decode cX12_evidenceAt 97 = .ok (.istore_n 3, 1) := by decide +kernel
theorem dX12_evidenceAt_98 : decode cX12_evidenceAt 98 = .ok (.iload_n 3, 1) := by decide +kernel
theorem dX12_evidenceAt_99 : decode cX12_evidenceAt 99 = .ok (.bipush 33, 2) := by decide +kernel
theorem dX12_evidenceAt_101 : decode cX12_evidenceAt 101 = .ok (.if_icmp .ge 5, 3) := by decide +kernel
theorem dX12_evidenceAt_104 : decode cX12_evidenceAt 104 = .ok (.iconst 0, 1) := by decide +kernel
theorem dX12_evidenceAt_105 : decode cX12_evidenceAt 105 = .ok (.ireturn, 1) := by decide +kernel
theorem dX12_evidenceAt_106 : decode cX12_evidenceAt 106 = .ok (.iload_n 2, 1) := by decide +kernel
theorem dX12_evidenceAt_107 : decode cX12_evidenceAt 107 = .ok (.iconst 1, 1) := by decide +kernel
theorem dX12_evidenceAt_108 : decode cX12_evidenceAt 108 = .ok (.if_icmp .ne 23, 3) := by decide +kernel
theorem dX12_evidenceAt_111 : decode cX12_evidenceAt 111 = .ok (.aload_n 0, 1) := by decide +kernel
theorem dX12_evidenceAt_112 : decode cX12_evidenceAt 112 = .ok (.getfield 204, 3) := by decide +kernel
theorem dX12_evidenceAt_115 : decode cX12_evidenceAt 115 = .ok (.iload_n 1, 1) := by decide +kernel
theorem dX12_evidenceAt_116 : decode cX12_evidenceAt 116 = .ok (.iconst 1, 1) := by decide +kernel
theorem dX12_evidenceAt_117 : decode cX12_evidenceAt 117 = .ok (.iadd, 1) := by decide +kernel
theorem dX12_evidenceAt_118 : decode cX12_evidenceAt 118 = .ok (.iaload, 1) := by decide +kernel
theorem dX12_evidenceAt_119 : decode cX12_evidenceAt 119 = .ok (.iconst 1, 1) := by decide +kernel
theorem dX12_evidenceAt_120 : decode cX12_evidenceAt 120 = .ok (.if_icmp .eq 7, 3) := by decide +kernel
theorem dX12_evidenceAt_123 : decode cX12_evidenceAt 123 = .ok (.iconst 1, 1) := by decide +kernel
theorem dX12_evidenceAt_124 : decode cX12_evidenceAt 124 = .ok (.goto 19, 3) := by decide +kernel
theorem dX12_evidenceAt_127 : decode cX12_evidenceAt 127 = .ok (.iconst 0, 1) := by decide +kernel
theorem dX12_evidenceAt_128 : decode cX12_evidenceAt 128 = .ok (.goto 15, 3) := by decide +kernel
theorem dX12_evidenceAt_131 : decode cX12_evidenceAt 131 = .ok (.aload_n 0, 1) := by decide +kernel
theorem dX12_evidenceAt_132 : decode cX12_evidenceAt 132 = .ok (.iload_n 1, 1) := by decide +kernel
theorem dX12_evidenceAt_133 : decode cX12_evidenceAt 133 = .ok (.bipush 6, 2) := by decide +kernel
theorem dX12_evidenceAt_135 : decode cX12_evidenceAt 135 = .ok (.iadd, 1) := by decide +kernel
theorem dX12_evidenceAt_136 : decode cX12_evidenceAt 136 = .ok (.iload_n 1, 1) := by decide +kernel
theorem dX12_evidenceAt_137 : decode cX12_evidenceAt 137 = .ok (.bipush 39, 2) := by decide +kernel
theorem dX12_evidenceAt_139 : decode cX12_evidenceAt 139 = .ok (.iadd, 1) := by decide +kernel
theorem dX12_evidenceAt_140 : decode cX12_evidenceAt 140 = .ok (.invokevirtual 238, 3) := by decide +kernel
theorem dX12_evidenceAt_143 : decode cX12_evidenceAt 143 = .ok (.istore 4, 2) := by decide +kernel
theorem dX12_evidenceAt_145 : decode cX12_evidenceAt 145 = .ok (.iload 4, 2) := by decide +kernel
theorem dX12_evidenceAt_147 : decode cX12_evidenceAt 147 = .ok (.ifCond .eq 11, 3) := by decide +kernel
theorem dX12_evidenceAt_150 : decode cX12_evidenceAt 150 = .ok (.iconst 5, 1) := by decide +kernel
theorem dX12_evidenceAt_151 : decode cX12_evidenceAt 151 = .ok (.iload_n 2, 1) := by decide +kernel
theorem dX12_evidenceAt_152 : decode cX12_evidenceAt 152 = .ok (.iadd, 1) := by decide +kernel
theorem dX12_evidenceAt_153 : decode cX12_evidenceAt 153 = .ok (.iload_n 3, 1) := by decide +kernel
theorem dX12_evidenceAt_154 : decode cX12_evidenceAt 154 = .ok (.iadd, 1) := by decide +kernel
theorem dX12_evidenceAt_155 : decode cX12_evidenceAt 155 = .ok (.goto 4, 3) := by decide +kernel
theorem dX12_evidenceAt_158 : decode cX12_evidenceAt 158 = .ok (.iconst 0, 1) := by decide +kernel
theorem dX12_evidenceAt_159 : decode cX12_evidenceAt 159 = .ok (.ireturn, 1) := by decide +kernel
theorem dX12_part_0 : decode cX12_part 0 = .ok (.iconst 0, 1) := by decide +kernel
theorem dX12_part_1 : decode cX12_part 1 = .ok (.istore_n 3, 1) := by decide +kernel
theorem dX12_part_2 : decode cX12_part 2 = .ok (.iload_n 3, 1) := by decide +kernel
theorem dX12_part_3 : decode cX12_part 3 = .ok (.iload_n 2, 1) := by decide +kernel
theorem dX12_part_4 : decode cX12_part 4 = .ok (.if_icmp .ge 21, 3) := by decide +kernel
theorem dX12_part_7 : decode cX12_part 7 = .ok (.aload_n 0, 1) := by decide +kernel
theorem dX12_part_8 : decode cX12_part 8 = .ok (.aload_n 0, 1) := by decide +kernel
theorem dX12_part_9 : decode cX12_part 9 = .ok (.getfield 204, 3) := by decide +kernel
theorem dX12_part_12 : decode cX12_part 12 = .ok (.iload_n 1, 1) := by decide +kernel
theorem dX12_part_13 : decode cX12_part 13 = .ok (.iload_n 3, 1) := by decide +kernel
theorem dX12_part_14 : decode cX12_part 14 = .ok (.iadd, 1) := by decide +kernel
theorem dX12_part_15 : decode cX12_part 15 = .ok (.iaload, 1) := by decide +kernel
theorem dX12_part_16 : decode cX12_part 16 = .ok (.invokevirtual 124, 3) := by decide +kernel
theorem dX12_part_19 : decode cX12_part 19 = .ok (.iinc 3 1, 3) := by decide +kernel
theorem dX12_part_22 : decode cX12_part 22 = .ok (.goto (-20), 3) := by decide +kernel
theorem dX12_part_25 : decode cX12_part 25 = .ok (.aload_n 0, 1) := by decide +kernel
theorem dX12_part_26 : decode cX12_part 26 = .ok (.invokevirtual 127, 3) := by decide +kernel
theorem dX12_part_29 : decode cX12_part 29 = .ok (.return_, 1) := by decide +kernel
theorem dX12_readBlock_0 : decode cX12_readBlock 0 = .ok (.aload_n 0, 1) := by decide +kernel
theorem dX12_readBlock_1 : decode cX12_readBlock 1 = .ok (.getfield 201, 3) := by decide +kernel
theorem dX12_readBlock_4 : decode cX12_readBlock 4 = .ok (.iload_n 1, 1) := by decide +kernel
theorem dX12_readBlock_5 : decode cX12_readBlock 5 = .ok (.bipush 101, 2) := by decide +kernel
theorem dX12_readBlock_7 : decode cX12_readBlock 7 = .ok (.iadd, 1) := by decide +kernel
theorem dX12_readBlock_8 : decode cX12_readBlock 8 = .ok (.if_icmp .lt 53, 3) := by decide +kernel
theorem dX12_readBlock_11 : decode cX12_readBlock 11 = .ok (.aload_n 0, 1) := by decide +kernel
theorem dX12_readBlock_12 : decode cX12_readBlock 12 = .ok (.iload_n 1, 1) := by decide +kernel
theorem dX12_readBlock_13 : decode cX12_readBlock 13 = .ok (.invokevirtual 232, 3) := by decide +kernel
theorem dX12_readBlock_16 : decode cX12_readBlock 16 = .ok (.ifCond .eq 45, 3) := by decide +kernel
theorem dX12_readBlock_19 : decode cX12_readBlock 19 = .ok (.aload_n 0, 1) := by decide +kernel
theorem dX12_readBlock_20 : decode cX12_readBlock 20 = .ok (.getfield 204, 3) := by decide +kernel
theorem dX12_readBlock_23 : decode cX12_readBlock 23 = .ok (.iload_n 1, 1) := by decide +kernel
theorem dX12_readBlock_24 : decode cX12_readBlock 24 = .ok (.iconst 2, 1) := by decide +kernel
theorem dX12_readBlock_25 : decode cX12_readBlock 25 = .ok (.iadd, 1) := by decide +kernel
theorem dX12_readBlock_26 : decode cX12_readBlock 26 = .ok (.iaload, 1) := by decide +kernel
theorem dX12_readBlock_27 : decode cX12_readBlock 27 = .ok (.aload_n 0, 1) := by decide +kernel
theorem dX12_readBlock_28 : decode cX12_readBlock 28 = .ok (.getfield 219, 3) := by decide +kernel
theorem dX12_readBlock_31 : decode cX12_readBlock 31 = .ok (.if_icmp .ge 30, 3) := by decide +kernel
theorem dX12_readBlock_34 : decode cX12_readBlock 34 = .ok (.aload_n 0, 1) := by decide +kernel
theorem dX12_readBlock_35 : decode cX12_readBlock 35 = .ok (.getfield 204, 3) := by decide +kernel
theorem dX12_readBlock_38 : decode cX12_readBlock 38 = .ok (.iload_n 1, 1) := by decide +kernel
theorem dX12_readBlock_39 : decode cX12_readBlock 39 = .ok (.bipush 99, 2) := by decide +kernel
theorem dX12_readBlock_41 : decode cX12_readBlock 41 = .ok (.iadd, 1) := by decide +kernel
theorem dX12_readBlock_42 : decode cX12_readBlock 42 = .ok (.iaload, 1) := by decide +kernel
theorem dX12_readBlock_43 : decode cX12_readBlock 43 = .ok (.bipush 64, 2) := by decide +kernel
theorem dX12_readBlock_45 : decode cX12_readBlock 45 = .ok (.if_icmp .gt 16, 3) := by decide +kernel
theorem dX12_readBlock_48 : decode cX12_readBlock 48 = .ok (.aload_n 0, 1) := by decide +kernel
theorem dX12_readBlock_49 : decode cX12_readBlock 49 = .ok (.getfield 204, 3) := by decide +kernel
theorem dX12_readBlock_52 : decode cX12_readBlock 52 = .ok (.iload_n 1, 1) := by decide +kernel
theorem dX12_readBlock_53 : decode cX12_readBlock 53 = .ok (.bipush 100, 2) := by decide +kernel
theorem dX12_readBlock_55 : decode cX12_readBlock 55 = .ok (.iadd, 1) := by decide +kernel
theorem dX12_readBlock_56 : decode cX12_readBlock 56 = .ok (.iaload, 1) := by decide +kernel
theorem dX12_readBlock_57 : decode cX12_readBlock 57 = .ok (.iconst 2, 1) := by decide +kernel
theorem dX12_readBlock_58 : decode cX12_readBlock 58 = .ok (.if_icmp .le 5, 3) := by decide +kernel
theorem dX12_readBlock_61 : decode cX12_readBlock 61 = .ok (.iconst 0, 1) := by decide +kernel
theorem dX12_readBlock_62 : decode cX12_readBlock 62 = .ok (.ireturn, 1) := by decide +kernel
theorem dX12_readBlock_63 : decode cX12_readBlock 63 = .ok (.iload_n 1, 1) := by decide +kernel
theorem dX12_readBlock_64 : decode cX12_readBlock 64 = .ok (.bipush 101, 2) := by decide +kernel
theorem dX12_readBlock_66 : decode cX12_readBlock 66 = .ok (.iadd, 1) := by decide +kernel
theorem dX12_readBlock_67 : decode cX12_readBlock 67 = .ok (.istore_n 2, 1) := by decide +kernel
theorem dX12_readBlock_68 : decode cX12_readBlock 68 = .ok (.aload_n 0, 1) := by decide +kernel
theorem dX12_readBlock_69 : decode cX12_readBlock 69 = .ok (.invokevirtual 112, 3) := by decide +kernel
theorem dX12_readBlock_72 : decode cX12_readBlock 72 = .ok (.iconst 0, 1) := by decide +kernel
theorem dX12_readBlock_73 : decode cX12_readBlock 73 = .ok (.istore_n 3, 1) := by decide +kernel
theorem dX12_readBlock_74 : decode cX12_readBlock 74 = .ok (.iload_n 3, 1) := by decide +kernel
theorem dX12_readBlock_75 : decode cX12_readBlock 75 = .ok (.aload_n 0, 1) := by decide +kernel
theorem dX12_readBlock_76 : decode cX12_readBlock 76 = .ok (.getfield 204, 3) := by decide +kernel
theorem dX12_readBlock_79 : decode cX12_readBlock 79 = .ok (.iload_n 1, 1) := by decide +kernel
theorem dX12_readBlock_80 : decode cX12_readBlock 80 = .ok (.bipush 100, 2) := by decide +kernel
theorem dX12_readBlock_82 : decode cX12_readBlock 82 = .ok (.iadd, 1) := by decide +kernel
theorem dX12_readBlock_83 : decode cX12_readBlock 83 = .ok (.iaload, 1) := by decide +kernel
theorem dX12_readBlock_84 : decode cX12_readBlock 84 = .ok (.if_icmp .ge 35, 3) := by decide +kernel
theorem dX12_readBlock_87 : decode cX12_readBlock 87 = .ok (.aload_n 0, 1) := by decide +kernel
theorem dX12_readBlock_88 : decode cX12_readBlock 88 = .ok (.iload_n 2, 1) := by decide +kernel
theorem dX12_readBlock_89 : decode cX12_readBlock 89 = .ok (.invokevirtual 241, 3) := by decide +kernel
theorem dX12_readBlock_92 : decode cX12_readBlock 92 = .ok (.istore 4, 2) := by decide +kernel
theorem dX12_readBlock_94 : decode cX12_readBlock 94 = .ok (.iload 4, 2) := by decide +kernel
theorem dX12_readBlock_96 : decode cX12_readBlock 96 = .ok (.ifCond .ne 5, 3) := by decide +kernel
theorem dX12_readBlock_99 : decode cX12_readBlock 99 = .ok (.iconst 0, 1) := by decide +kernel
theorem dX12_readBlock_100 : decode cX12_readBlock 100 = .ok (.ireturn, 1) := by decide +kernel
theorem dX12_readBlock_101 : decode cX12_readBlock 101 = .ok (.aload_n 0, 1) := by decide +kernel
theorem dX12_readBlock_102 : decode cX12_readBlock 102 = .ok (.iload_n 2, 1) := by decide +kernel
theorem dX12_readBlock_103 : decode cX12_readBlock 103 = .ok (.iload 4, 2) := by decide +kernel
theorem dX12_readBlock_105 : decode cX12_readBlock 105 = .ok (.invokevirtual 244, 3) := by decide +kernel
theorem dX12_readBlock_108 : decode cX12_readBlock 108 = .ok (.iload_n 2, 1) := by decide +kernel
theorem dX12_readBlock_109 : decode cX12_readBlock 109 = .ok (.iload 4, 2) := by decide +kernel
theorem dX12_readBlock_111 : decode cX12_readBlock 111 = .ok (.iadd, 1) := by decide +kernel
theorem dX12_readBlock_112 : decode cX12_readBlock 112 = .ok (.istore_n 2, 1) := by decide +kernel
theorem dX12_readBlock_113 : decode cX12_readBlock 113 = .ok (.iinc 3 1, 3) := by decide +kernel
theorem dX12_readBlock_116 : decode cX12_readBlock 116 = .ok (.goto (-42), 3) := by decide +kernel
theorem dX12_readBlock_119 : decode cX12_readBlock 119 = .ok (.iconst 0, 1) := by decide +kernel
theorem dX12_readBlock_120 : decode cX12_readBlock 120 = .ok (.istore_n 3, 1) := by decide +kernel
theorem dX12_readBlock_121 : decode cX12_readBlock 121 = .ok (.iload_n 3, 1) := by decide +kernel
theorem dX12_readBlock_122 : decode cX12_readBlock 122 = .ok (.aload_n 0, 1) := by decide +kernel
theorem dX12_readBlock_123 : decode cX12_readBlock 123 = .ok (.getfield 204, 3) := by decide +kernel
theorem dX12_readBlock_126 : decode cX12_readBlock 126 = .ok (.iload_n 1, 1) := by decide +kernel
theorem dX12_readBlock_127 : decode cX12_readBlock 127 = .ok (.bipush 99, 2) := by decide +kernel
theorem dX12_readBlock_129 : decode cX12_readBlock 129 = .ok (.iadd, 1) := by decide +kernel
theorem dX12_readBlock_130 : decode cX12_readBlock 130 = .ok (.iaload, 1) := by decide +kernel
theorem dX12_readBlock_131 : decode cX12_readBlock 131 = .ok (.if_icmp .ge 31, 3) := by decide +kernel
theorem dX12_readBlock_134 : decode cX12_readBlock 134 = .ok (.aload_n 0, 1) := by decide +kernel
theorem dX12_readBlock_135 : decode cX12_readBlock 135 = .ok (.iload_n 2, 1) := by decide +kernel
theorem dX12_readBlock_136 : decode cX12_readBlock 136 = .ok (.invokevirtual 247, 3) := by decide +kernel
theorem dX12_readBlock_139 : decode cX12_readBlock 139 = .ok (.ifCond .ne 5, 3) := by decide +kernel
theorem dX12_readBlock_142 : decode cX12_readBlock 142 = .ok (.iconst 0, 1) := by decide +kernel
theorem dX12_readBlock_143 : decode cX12_readBlock 143 = .ok (.ireturn, 1) := by decide +kernel
theorem dX12_readBlock_144 : decode cX12_readBlock 144 = .ok (.aload_n 0, 1) := by decide +kernel
theorem dX12_readBlock_145 : decode cX12_readBlock 145 = .ok (.iload_n 2, 1) := by decide +kernel
theorem dX12_readBlock_146 : decode cX12_readBlock 146 = .ok (.bipush 7, 2) := by decide +kernel
theorem dX12_readBlock_148 : decode cX12_readBlock 148 = .ok (.invokevirtual 244, 3) := by decide +kernel
theorem dX12_readBlock_151 : decode cX12_readBlock 151 = .ok (.iload_n 2, 1) := by decide +kernel
theorem dX12_readBlock_152 : decode cX12_readBlock 152 = .ok (.bipush 7, 2) := by decide +kernel
theorem dX12_readBlock_154 : decode cX12_readBlock 154 = .ok (.iadd, 1) := by decide +kernel
theorem dX12_readBlock_155 : decode cX12_readBlock 155 = .ok (.istore_n 2, 1) := by decide +kernel
theorem dX12_readBlock_156 : decode cX12_readBlock 156 = .ok (.iinc 3 1, 3) := by decide +kernel
theorem dX12_readBlock_159 : decode cX12_readBlock 159 = .ok (.goto (-38), 3) := by decide +kernel
theorem dX12_readBlock_162 : decode cX12_readBlock 162 = .ok (.iload_n 2, 1) := by decide +kernel
theorem dX12_readBlock_163 : decode cX12_readBlock 163 = .ok (.aload_n 0, 1) := by decide +kernel
theorem dX12_readBlock_164 : decode cX12_readBlock 164 = .ok (.getfield 201, 3) := by decide +kernel
theorem dX12_readBlock_167 : decode cX12_readBlock 167 = .ok (.if_icmp .eq 5, 3) := by decide +kernel
theorem dX12_readBlock_170 : decode cX12_readBlock 170 = .ok (.iconst 0, 1) := by decide +kernel
theorem dX12_readBlock_171 : decode cX12_readBlock 171 = .ok (.ireturn, 1) := by decide +kernel
theorem dX12_readBlock_172 : decode cX12_readBlock 172 = .ok (.aload_n 0, 1) := by decide +kernel
theorem dX12_readBlock_173 : decode cX12_readBlock 173 = .ok (.invokevirtual 150, 3) := by decide +kernel
theorem dX12_readBlock_176 : decode cX12_readBlock 176 = .ok (.iconst 0, 1) := by decide +kernel
theorem dX12_readBlock_177 : decode cX12_readBlock 177 = .ok (.istore_n 3, 1) := by decide +kernel
theorem dX12_readBlock_178 : decode cX12_readBlock 178 = .ok (.iload_n 3, 1) := by decide +kernel
theorem dX12_readBlock_179 : decode cX12_readBlock 179 = .ok (.bipush 32, 2) := by decide +kernel
theorem dX12_readBlock_181 : decode cX12_readBlock 181 = .ok (.if_icmp .ge 30, 3) := by decide +kernel
theorem dX12_readBlock_184 : decode cX12_readBlock 184 = .ok (.aload_n 0, 1) := by decide +kernel
theorem dX12_readBlock_185 : decode cX12_readBlock 185 = .ok (.getfield 204, 3) := by decide +kernel
theorem dX12_readBlock_188 : decode cX12_readBlock 188 = .ok (.iload_n 1, 1) := by decide +kernel
theorem dX12_readBlock_189 : decode cX12_readBlock 189 = .ok (.bipush 67, 2) := by decide +kernel
theorem dX12_readBlock_191 : decode cX12_readBlock 191 = .ok (.iadd, 1) := by decide +kernel
theorem dX12_readBlock_192 : decode cX12_readBlock 192 = .ok (.iload_n 3, 1) := by decide +kernel
theorem dX12_readBlock_193 : decode cX12_readBlock 193 = .ok (.iadd, 1) := by decide +kernel
theorem dX12_readBlock_194 : decode cX12_readBlock 194 = .ok (.iaload, 1) := by decide +kernel
theorem dX12_readBlock_195 : decode cX12_readBlock 195 = .ok (.aload_n 0, 1) := by decide +kernel
theorem dX12_readBlock_196 : decode cX12_readBlock 196 = .ok (.iload_n 3, 1) := by decide +kernel
theorem dX12_readBlock_197 : decode cX12_readBlock 197 = .ok (.invokevirtual 152, 3) := by decide +kernel
theorem dX12_readBlock_200 : decode cX12_readBlock 200 = .ok (.if_icmp .eq 5, 3) := by decide +kernel
theorem dX12_readBlock_203 : decode cX12_readBlock 203 = .ok (.iconst 0, 1) := by decide +kernel
theorem dX12_readBlock_204 : decode cX12_readBlock 204 = .ok (.ireturn, 1) := by decide +kernel
theorem dX12_readBlock_205 : decode cX12_readBlock 205 = .ok (.iinc 3 1, 3) := by decide +kernel
theorem dX12_readBlock_208 : decode cX12_readBlock 208 = .ok (.goto (-30), 3) := by decide +kernel
theorem dX12_readBlock_211 : decode cX12_readBlock 211 = .ok (.aload_n 0, 1) := by decide +kernel
theorem dX12_readBlock_212 : decode cX12_readBlock 212 = .ok (.getfield 57, 3) := by decide +kernel
theorem dX12_readBlock_215 : decode cX12_readBlock 215 = .ok (.sipush 1352, 3) := by decide +kernel
theorem dX12_readBlock_218 : decode cX12_readBlock 218 = .ok (.aload_n 0, 1) := by decide +kernel
theorem dX12_readBlock_219 : decode cX12_readBlock 219 = .ok (.getfield 201, 3) := by decide +kernel
theorem dX12_readBlock_222 : decode cX12_readBlock 222 = .ok (.iload_n 1, 1) := by decide +kernel
theorem dX12_readBlock_223 : decode cX12_readBlock 223 = .ok (.isub, 1) := by decide +kernel
theorem dX12_readBlock_224 : decode cX12_readBlock 224 = .ok (.iastore, 1) := by decide +kernel
theorem dX12_readBlock_225 : decode cX12_readBlock 225 = .ok (.iconst 0, 1) := by decide +kernel
theorem dX12_readBlock_226 : decode cX12_readBlock 226 = .ok (.istore_n 3, 1) := by decide +kernel
theorem dX12_readBlock_227 : decode cX12_readBlock 227 = .ok (.iload_n 3, 1) := by decide +kernel
theorem dX12_readBlock_228 : decode cX12_readBlock 228 = .ok (.aload_n 0, 1) := by decide +kernel
theorem dX12_readBlock_229 : decode cX12_readBlock 229 = .ok (.getfield 57, 3) := by decide +kernel
theorem dX12_readBlock_232 : decode cX12_readBlock 232 = .ok (.sipush 1352, 3) := by decide +kernel
theorem dX12_readBlock_235 : decode cX12_readBlock 235 = .ok (.iaload, 1) := by decide +kernel
theorem dX12_readBlock_236 : decode cX12_readBlock 236 = .ok (.if_icmp .ge 25, 3) := by decide +kernel
theorem dX12_readBlock_239 : decode cX12_readBlock 239 = .ok (.aload_n 0, 1) := by decide +kernel
theorem dX12_readBlock_240 : decode cX12_readBlock 240 = .ok (.sipush 1352, 3) := by decide +kernel
theorem dX12_readBlock_243 : decode cX12_readBlock 243 = .ok (.iload_n 3, 1) := by decide +kernel
theorem dX12_readBlock_244 : decode cX12_readBlock 244 = .ok (.aload_n 0, 1) := by decide +kernel
theorem dX12_readBlock_245 : decode cX12_readBlock 245 = .ok (.getfield 204, 3) := by decide +kernel
theorem dX12_readBlock_248 : decode cX12_readBlock 248 = .ok (.iload_n 1, 1) := by decide +kernel
theorem dX12_readBlock_249 : decode cX12_readBlock 249 = .ok (.iload_n 3, 1) := by decide +kernel
theorem dX12_readBlock_250 : decode cX12_readBlock 250 = .ok (.iadd, 1) := by decide +kernel
theorem dX12_readBlock_251 : decode cX12_readBlock 251 = .ok (.iaload, 1) := by decide +kernel
theorem dX12_readBlock_252 : decode cX12_readBlock 252 = .ok (.invokevirtual 250, 3) := by decide +kernel
theorem dX12_readBlock_255 : decode cX12_readBlock 255 = .ok (.iinc 3 1, 3) := by decide +kernel
theorem dX12_readBlock_258 : decode cX12_readBlock 258 = .ok (.goto (-31), 3) := by decide +kernel
theorem dX12_readBlock_261 : decode cX12_readBlock 261 = .ok (.aload_n 0, 1) := by decide +kernel
theorem dX12_readBlock_262 : decode cX12_readBlock 262 = .ok (.sipush 1352, 3) := by decide +kernel
theorem dX12_readBlock_265 : decode cX12_readBlock 265 = .ok (.invokevirtual 254, 3) := by decide +kernel
theorem dX12_readBlock_268 : decode cX12_readBlock 268 = .ok (.iconst 1, 1) := by decide +kernel
theorem dX12_readBlock_269 : decode cX12_readBlock 269 = .ok (.ireturn, 1) := by decide +kernel
theorem dX12_readVote_0 : decode cX12_readVote 0 = .ok (.aload_n 0, 1) := by decide +kernel
theorem dX12_readVote_1 : decode cX12_readVote 1 = .ok (.aload_n 0, 1) := by decide +kernel
theorem dX12_readVote_2 : decode cX12_readVote 2 = .ok (.iconst 2, 1) := by decide +kernel
theorem dX12_readVote_3 : decode cX12_readVote 3 = .ok (.invokevirtual 232, 3) := by decide +kernel
theorem dX12_readVote_6 : decode cX12_readVote 6 = .ok (.putfield 257, 3) := by decide +kernel
theorem dX12_readVote_9 : decode cX12_readVote 9 = .ok (.aload_n 0, 1) := by decide +kernel
theorem dX12_readVote_10 : decode cX12_readVote 10 = .ok (.getfield 201, 3) := by decide +kernel
theorem dX12_readVote_13 : decode cX12_readVote 13 = .ok (.bipush 6, 2) := by decide +kernel
theorem dX12_readVote_15 : decode cX12_readVote 15 = .ok (.if_icmp .lt 56, 3) := by decide +kernel
theorem dX12_readVote_18 : decode cX12_readVote 18 = .ok (.aload_n 0, 1) := by decide +kernel
theorem dX12_readVote_19 : decode cX12_readVote 19 = .ok (.getfield 204, 3) := by decide +kernel
theorem dX12_readVote_22 : decode cX12_readVote 22 = .ok (.iconst 1, 1) := by decide +kernel
theorem dX12_readVote_23 : decode cX12_readVote 23 = .ok (.iaload, 1) := by decide +kernel
theorem dX12_readVote_24 : decode cX12_readVote 24 = .ok (.aload_n 0, 1) := by decide +kernel
theorem dX12_readVote_25 : decode cX12_readVote 25 = .ok (.getfield 219, 3) := by decide +kernel
theorem dX12_readVote_28 : decode cX12_readVote 28 = .ok (.if_icmp .ge 43, 3) := by decide +kernel
theorem dX12_readVote_31 : decode cX12_readVote 31 = .ok (.aload_n 0, 1) := by decide +kernel
theorem dX12_readVote_32 : decode cX12_readVote 32 = .ok (.getfield 257, 3) := by decide +kernel
theorem dX12_readVote_35 : decode cX12_readVote 35 = .ok (.ifCond .eq 36, 3) := by decide +kernel
theorem dX12_readVote_38 : decode cX12_readVote 38 = .ok (.aload_n 0, 1) := by decide +kernel
theorem dX12_readVote_39 : decode cX12_readVote 39 = .ok (.getfield 204, 3) := by decide +kernel
theorem dX12_readVote_42 : decode cX12_readVote 42 = .ok (.iconst 4, 1) := by decide +kernel
theorem dX12_readVote_43 : decode cX12_readVote 43 = .ok (.iaload, 1) := by decide +kernel
theorem dX12_readVote_44 : decode cX12_readVote 44 = .ok (.bipush 15, 2) := by decide +kernel
theorem dX12_readVote_46 : decode cX12_readVote 46 = .ok (.if_icmp .gt 25, 3) := by decide +kernel
theorem dX12_readVote_49 : decode cX12_readVote 49 = .ok (.aload_n 0, 1) := by decide +kernel
theorem dX12_readVote_50 : decode cX12_readVote 50 = .ok (.iconst 5, 1) := by decide +kernel
theorem dX12_readVote_51 : decode cX12_readVote 51 = .ok (.invokevirtual 235, 3) := by decide +kernel
theorem dX12_readVote_54 : decode cX12_readVote 54 = .ok (.ifCond .eq 17, 3) := by decide +kernel
theorem dX12_readVote_57 : decode cX12_readVote 57 = .ok (.aload_n 0, 1) := by decide +kernel
theorem dX12_readVote_58 : decode cX12_readVote 58 = .ok (.getfield 201, 3) := by decide +kernel
theorem dX12_readVote_61 : decode cX12_readVote 61 = .ok (.iconst 5, 1) := by decide +kernel
theorem dX12_readVote_62 : decode cX12_readVote 62 = .ok (.aload_n 0, 1) := by decide +kernel
theorem dX12_readVote_63 : decode cX12_readVote 63 = .ok (.iconst 5, 1) := by decide +kernel
theorem dX12_readVote_64 : decode cX12_readVote 64 = .ok (.invokevirtual 235, 3) := by decide +kernel
theorem dX12_readVote_67 : decode cX12_readVote 67 = .ok (.iadd, 1) := by decide +kernel
theorem dX12_readVote_68 : decode cX12_readVote 68 = .ok (.if_icmp .eq 5, 3) := by decide +kernel
theorem dX12_readVote_71 : decode cX12_readVote 71 = .ok (.iconst 0, 1) := by decide +kernel
theorem dX12_readVote_72 : decode cX12_readVote 72 = .ok (.ireturn, 1) := by decide +kernel
theorem dX12_readVote_73 : decode cX12_readVote 73 = .ok (.aload_n 0, 1) := by decide +kernel
theorem dX12_readVote_74 : decode cX12_readVote 74 = .ok (.aload_n 0, 1) := by decide +kernel
theorem dX12_readVote_75 : decode cX12_readVote 75 = .ok (.getfield 204, 3) := by decide +kernel
theorem dX12_readVote_78 : decode cX12_readVote 78 = .ok (.iconst 1, 1) := by decide +kernel
theorem dX12_readVote_79 : decode cX12_readVote 79 = .ok (.iaload, 1) := by decide +kernel
theorem dX12_readVote_80 : decode cX12_readVote 80 = .ok (.putfield 260, 3) := by decide +kernel
theorem dX12_readVote_83 : decode cX12_readVote 83 = .ok (.aload_n 0, 1) := by decide +kernel
theorem dX12_readVote_84 : decode cX12_readVote 84 = .ok (.aload_n 0, 1) := by decide +kernel
theorem dX12_readVote_85 : decode cX12_readVote 85 = .ok (.getfield 204, 3) := by decide +kernel
theorem dX12_readVote_88 : decode cX12_readVote 88 = .ok (.iconst 4, 1) := by decide +kernel
theorem dX12_readVote_89 : decode cX12_readVote 89 = .ok (.iaload, 1) := by decide +kernel
theorem dX12_readVote_90 : decode cX12_readVote 90 = .ok (.putfield 263, 3) := by decide +kernel
theorem dX12_readVote_93 : decode cX12_readVote 93 = .ok (.aload_n 0, 1) := by decide +kernel
theorem dX12_readVote_94 : decode cX12_readVote 94 = .ok (.aload_n 0, 1) := by decide +kernel
theorem dX12_readVote_95 : decode cX12_readVote 95 = .ok (.getfield 204, 3) := by decide +kernel
theorem dX12_readVote_98 : decode cX12_readVote 98 = .ok (.iconst 5, 1) := by decide +kernel
theorem dX12_readVote_99 : decode cX12_readVote 99 = .ok (.iaload, 1) := by decide +kernel
theorem dX12_readVote_100 : decode cX12_readVote 100 = .ok (.iconst 1, 1) := by decide +kernel
theorem dX12_readVote_101 : decode cX12_readVote 101 = .ok (.if_icmp .ne 7, 3) := by decide +kernel
theorem dX12_readVote_104 : decode cX12_readVote 104 = .ok (.iconst 1, 1) := by decide +kernel
theorem dX12_readVote_105 : decode cX12_readVote 105 = .ok (.goto 4, 3) := by decide +kernel
theorem dX12_readVote_108 : decode cX12_readVote 108 = .ok (.iconst 0, 1) := by decide +kernel
theorem dX12_readVote_109 : decode cX12_readVote 109 = .ok (.putfield 266, 3) := by decide +kernel
theorem dX12_readVote_112 : decode cX12_readVote 112 = .ok (.iconst 0, 1) := by decide +kernel
theorem dX12_readVote_113 : decode cX12_readVote 113 = .ok (.istore_n 1, 1) := by decide +kernel
theorem dX12_readVote_114 : decode cX12_readVote 114 = .ok (.iload_n 1, 1) := by decide +kernel
theorem dX12_readVote_115 : decode cX12_readVote 115 = .ok (.iconst 4, 1) := by decide +kernel
theorem dX12_readVote_116 : decode cX12_readVote 116 = .ok (.if_icmp .ge 63, 3) := by decide +kernel
theorem dX12_readVote_119 : decode cX12_readVote 119 = .ok (.lconst 0, 1) := by decide +kernel
theorem dX12_readVote_120 : decode cX12_readVote 120 = .ok (.lstore_n 2, 1) := by decide +kernel
theorem dX12_readVote_121 : decode cX12_readVote 121 = .ok (.iconst 0, 1) := by decide +kernel
theorem dX12_readVote_122 : decode cX12_readVote 122 = .ok (.istore 4, 2) := by decide +kernel
theorem dX12_readVote_124 : decode cX12_readVote 124 = .ok (.aload_n 0, 1) := by decide +kernel
theorem dX12_readVote_125 : decode cX12_readVote 125 = .ok (.getfield 266, 3) := by decide +kernel
theorem dX12_readVote_128 : decode cX12_readVote 128 = .ok (.ifCond .eq 38, 3) := by decide +kernel
theorem dX12_readVote_131 : decode cX12_readVote 131 = .ok (.iload 4, 2) := by decide +kernel
theorem dX12_readVote_133 : decode cX12_readVote 133 = .ok (.bipush 8, 2) := by decide +kernel
theorem dX12_readVote_135 : decode cX12_readVote 135 = .ok (.if_icmp .ge 31, 3) := by decide +kernel
theorem dX12_readVote_138 : decode cX12_readVote 138 = .ok (.lload_n 2, 1) := by decide +kernel
theorem dX12_readVote_139 : decode cX12_readVote 139 = .ok (.bipush 8, 2) := by decide +kernel
theorem dX12_readVote_141 : decode cX12_readVote 141 = .ok (.lshl, 1) := by decide +kernel
theorem dX12_readVote_142 : decode cX12_readVote 142 = .ok (.aload_n 0, 1) := by decide +kernel
theorem dX12_readVote_143 : decode cX12_readVote 143 = .ok (.getfield 204, 3) := by decide +kernel
theorem dX12_readVote_146 : decode cX12_readVote 146 = .ok (.bipush 6, 2) := by decide +kernel
theorem dX12_readVote_148 : decode cX12_readVote 148 = .ok (.bipush 8, 2) := by decide +kernel
theorem dX12_readVote_150 : decode cX12_readVote 150 = .ok (.iload_n 1, 1) := by decide +kernel
theorem dX12_readVote_151 : decode cX12_readVote 151 = .ok (.imul, 1) := by decide +kernel
theorem dX12_readVote_152 : decode cX12_readVote 152 = .ok (.iadd, 1) := by decide +kernel
theorem dX12_readVote_153 : decode cX12_readVote 153 = .ok (.iload 4, 2) := by decide +kernel
theorem dX12_readVote_155 : decode cX12_readVote 155 = .ok (.iadd, 1) := by decide +kernel
theorem dX12_readVote_156 : decode cX12_readVote 156 = .ok (.iaload, 1) := by decide +kernel
theorem dX12_readVote_157 : decode cX12_readVote 157 = .ok (.i2l, 1) := by decide +kernel
theorem dX12_readVote_158 : decode cX12_readVote 158 = .ok (.lor, 1) := by decide +kernel
theorem dX12_readVote_159 : decode cX12_readVote 159 = .ok (.lstore_n 2, 1) := by decide +kernel
theorem dX12_readVote_160 : decode cX12_readVote 160 = .ok (.iinc 4 1, 3) := by decide +kernel
theorem dX12_readVote_163 : decode cX12_readVote 163 = .ok (.goto (-39), 3) := by decide +kernel
theorem dX12_readVote_166 : decode cX12_readVote 166 = .ok (.aload_n 0, 1) := by decide +kernel
theorem dX12_readVote_167 : decode cX12_readVote 167 = .ok (.getfield 270, 3) := by decide +kernel
theorem dX12_readVote_170 : decode cX12_readVote 170 = .ok (.iload_n 1, 1) := by decide +kernel
theorem dX12_readVote_171 : decode cX12_readVote 171 = .ok (.lload_n 2, 1) := by decide +kernel
theorem dX12_readVote_172 : decode cX12_readVote 172 = .ok (.lastore, 1) := by decide +kernel
theorem dX12_readVote_173 : decode cX12_readVote 173 = .ok (.iinc 1 1, 3) := by decide +kernel
theorem dX12_readVote_176 : decode cX12_readVote 176 = .ok (.goto (-62), 3) := by decide +kernel
theorem dX12_readVote_179 : decode cX12_readVote 179 = .ok (.iconst 1, 1) := by decide +kernel
theorem dX12_readVote_180 : decode cX12_readVote 180 = .ok (.ireturn, 1) := by decide +kernel
theorem dX12_readProposal_0 : decode cX12_readProposal 0 = .ok (.aload_n 0, 1) := by decide +kernel
theorem dX12_readProposal_1 : decode cX12_readProposal 1 = .ok (.aload_n 0, 1) := by decide +kernel
theorem dX12_readProposal_2 : decode cX12_readProposal 2 = .ok (.iconst 2, 1) := by decide +kernel
theorem dX12_readProposal_3 : decode cX12_readProposal 3 = .ok (.invokevirtual 232, 3) := by decide +kernel
theorem dX12_readProposal_6 : decode cX12_readProposal 6 = .ok (.putfield 257, 3) := by decide +kernel
theorem dX12_readProposal_9 : decode cX12_readProposal 9 = .ok (.aload_n 0, 1) := by decide +kernel
theorem dX12_readProposal_10 : decode cX12_readProposal 10 = .ok (.getfield 201, 3) := by decide +kernel
theorem dX12_readProposal_13 : decode cX12_readProposal 13 = .ok (.bipush 6, 2) := by decide +kernel
theorem dX12_readProposal_15 : decode cX12_readProposal 15 = .ok (.if_icmp .lt 57, 3) := by decide +kernel
theorem dX12_readProposal_18 : decode cX12_readProposal 18 = .ok (.aload_n 0, 1) := by decide +kernel
theorem dX12_readProposal_19 : decode cX12_readProposal 19 = .ok (.getfield 204, 3) := by decide +kernel
theorem dX12_readProposal_22 : decode cX12_readProposal 22 = .ok (.iconst 1, 1) := by decide +kernel
theorem dX12_readProposal_23 : decode cX12_readProposal 23 = .ok (.iaload, 1) := by decide +kernel
theorem dX12_readProposal_24 : decode cX12_readProposal 24 = .ok (.aload_n 0, 1) := by decide +kernel
theorem dX12_readProposal_25 : decode cX12_readProposal 25 = .ok (.getfield 219, 3) := by decide +kernel
theorem dX12_readProposal_28 : decode cX12_readProposal 28 = .ok (.if_icmp .ge 44, 3) := by decide +kernel
theorem dX12_readProposal_31 : decode cX12_readProposal 31 = .ok (.aload_n 0, 1) := by decide +kernel
theorem dX12_readProposal_32 : decode cX12_readProposal 32 = .ok (.getfield 257, 3) := by decide +kernel
theorem dX12_readProposal_35 : decode cX12_readProposal 35 = .ok (.ifCond .eq 37, 3) := by decide +kernel
theorem dX12_readProposal_38 : decode cX12_readProposal 38 = .ok (.aload_n 0, 1) := by decide +kernel
theorem dX12_readProposal_39 : decode cX12_readProposal 39 = .ok (.getfield 204, 3) := by decide +kernel
theorem dX12_readProposal_42 : decode cX12_readProposal 42 = .ok (.iconst 4, 1) := by decide +kernel
theorem dX12_readProposal_43 : decode cX12_readProposal 43 = .ok (.iaload, 1) := by decide +kernel
theorem dX12_readProposal_44 : decode cX12_readProposal 44 = .ok (.bipush 15, 2) := by decide +kernel
theorem dX12_readProposal_46 : decode cX12_readProposal 46 = .ok (.if_icmp .gt 26, 3) := by decide +kernel
theorem dX12_readProposal_49 : decode cX12_readProposal 49 = .ok (.aload_n 0, 1) := by decide +kernel
theorem dX12_readProposal_50 : decode cX12_readProposal 50 = .ok (.getfield 204, 3) := by decide +kernel
theorem dX12_readProposal_53 : decode cX12_readProposal 53 = .ok (.iconst 5, 1) := by decide +kernel
theorem dX12_readProposal_54 : decode cX12_readProposal 54 = .ok (.iaload, 1) := by decide +kernel
theorem dX12_readProposal_55 : decode cX12_readProposal 55 = .ok (.bipush 15, 2) := by decide +kernel
theorem dX12_readProposal_57 : decode cX12_readProposal 57 = .ok (.if_icmp .le 17, 3) := by decide +kernel
theorem dX12_readProposal_60 : decode cX12_readProposal 60 = .ok (.aload_n 0, 1) := by decide +kernel
theorem dX12_readProposal_61 : decode cX12_readProposal 61 = .ok (.getfield 204, 3) := by decide +kernel
theorem dX12_readProposal_64 : decode cX12_readProposal 64 = .ok (.iconst 5, 1) := by decide +kernel
theorem dX12_readProposal_65 : decode cX12_readProposal 65 = .ok (.iaload, 1) := by decide +kernel
theorem dX12_readProposal_66 : decode cX12_readProposal 66 = .ok (.sipush 255, 3) := by decide +kernel
theorem dX12_readProposal_69 : decode cX12_readProposal 69 = .ok (.if_icmp .eq 5, 3) := by decide +kernel
theorem dX12_readProposal_72 : decode cX12_readProposal 72 = .ok (.iconst 0, 1) := by decide +kernel
theorem dX12_readProposal_73 : decode cX12_readProposal 73 = .ok (.ireturn, 1) := by decide +kernel
theorem dX12_readProposal_74 : decode cX12_readProposal 74 = .ok (.aload_n 0, 1) := by decide +kernel
theorem dX12_readProposal_75 : decode cX12_readProposal 75 = .ok (.aload_n 0, 1) := by decide +kernel
theorem dX12_readProposal_76 : decode cX12_readProposal 76 = .ok (.getfield 204, 3) := by decide +kernel
theorem dX12_readProposal_79 : decode cX12_readProposal 79 = .ok (.iconst 1, 1) := by decide +kernel
theorem dX12_readProposal_80 : decode cX12_readProposal 80 = .ok (.iaload, 1) := by decide +kernel
theorem dX12_readProposal_81 : decode cX12_readProposal 81 = .ok (.putfield 260, 3) := by decide +kernel
theorem dX12_readProposal_84 : decode cX12_readProposal 84 = .ok (.aload_n 0, 1) := by decide +kernel
theorem dX12_readProposal_85 : decode cX12_readProposal 85 = .ok (.aload_n 0, 1) := by decide +kernel
theorem dX12_readProposal_86 : decode cX12_readProposal 86 = .ok (.getfield 204, 3) := by decide +kernel
theorem dX12_readProposal_89 : decode cX12_readProposal 89 = .ok (.iconst 4, 1) := by decide +kernel
theorem dX12_readProposal_90 : decode cX12_readProposal 90 = .ok (.iaload, 1) := by decide +kernel
theorem dX12_readProposal_91 : decode cX12_readProposal 91 = .ok (.putfield 263, 3) := by decide +kernel
theorem dX12_readProposal_94 : decode cX12_readProposal 94 = .ok (.aload_n 0, 1) := by decide +kernel
theorem dX12_readProposal_95 : decode cX12_readProposal 95 = .ok (.aload_n 0, 1) := by decide +kernel
theorem dX12_readProposal_96 : decode cX12_readProposal 96 = .ok (.getfield 204, 3) := by decide +kernel
theorem dX12_readProposal_99 : decode cX12_readProposal 99 = .ok (.iconst 5, 1) := by decide +kernel
theorem dX12_readProposal_100 : decode cX12_readProposal 100 = .ok (.iaload, 1) := by decide +kernel
theorem dX12_readProposal_101 : decode cX12_readProposal 101 = .ok (.sipush 255, 3) := by decide +kernel
theorem dX12_readProposal_104 : decode cX12_readProposal 104 = .ok (.if_icmp .ne 7, 3) := by decide +kernel
theorem dX12_readProposal_107 : decode cX12_readProposal 107 = .ok (.iconst (-1), 1) := by decide +kernel
theorem dX12_readProposal_108 : decode cX12_readProposal 108 = .ok (.goto 9, 3) := by decide +kernel
theorem dX12_readProposal_111 : decode cX12_readProposal 111 = .ok (.aload_n 0, 1) := by decide +kernel
theorem dX12_readProposal_112 : decode cX12_readProposal 112 = .ok (.getfield 204, 3) := by decide +kernel
theorem dX12_readProposal_115 : decode cX12_readProposal 115 = .ok (.iconst 5, 1) := by decide +kernel
theorem dX12_readProposal_116 : decode cX12_readProposal 116 = .ok (.iaload, 1) := by decide +kernel
theorem dX12_readProposal_117 : decode cX12_readProposal 117 = .ok (.putfield 273, 3) := by decide +kernel
theorem dX12_readProposal_120 : decode cX12_readProposal 120 = .ok (.aload_n 0, 1) := by decide +kernel
theorem dX12_readProposal_121 : decode cX12_readProposal 121 = .ok (.bipush 6, 2) := by decide +kernel
theorem dX12_readProposal_123 : decode cX12_readProposal 123 = .ok (.invokevirtual 276, 3) := by decide +kernel
theorem dX12_readProposal_126 : decode cX12_readProposal 126 = .ok (.ifCond .eq 21, 3) := by decide +kernel
theorem dX12_readProposal_129 : decode cX12_readProposal 129 = .ok (.aload_n 0, 1) := by decide +kernel
theorem dX12_readProposal_130 : decode cX12_readProposal 130 = .ok (.sipush 1352, 3) := by decide +kernel
theorem dX12_readProposal_133 : decode cX12_readProposal 133 = .ok (.invokevirtual 279, 3) := by decide +kernel
theorem dX12_readProposal_136 : decode cX12_readProposal 136 = .ok (.aload_n 0, 1) := by decide +kernel
theorem dX12_readProposal_137 : decode cX12_readProposal 137 = .ok (.getfield 257, 3) := by decide +kernel
theorem dX12_readProposal_140 : decode cX12_readProposal 140 = .ok (.if_icmp .ne 7, 3) := by decide +kernel
theorem dX12_readProposal_143 : decode cX12_readProposal 143 = .ok (.iconst 1, 1) := by decide +kernel
theorem dX12_readProposal_144 : decode cX12_readProposal 144 = .ok (.goto 4, 3) := by decide +kernel
theorem dX12_readProposal_147 : decode cX12_readProposal 147 = .ok (.iconst 0, 1) := by decide +kernel
theorem dX12_readProposal_148 : decode cX12_readProposal 148 = .ok (.ireturn, 1) := by decide +kernel
theorem dX12_readSnapshot_0 : decode cX12_readSnapshot 0 = .ok (.aload_n 0, 1) := by decide +kernel
theorem dX12_readSnapshot_1 : decode cX12_readSnapshot 1 = .ok (.aload_n 0, 1) := by decide +kernel
theorem dX12_readSnapshot_2 : decode cX12_readSnapshot 2 = .ok (.iconst 1, 1) := by decide +kernel
theorem dX12_readSnapshot_3 : decode cX12_readSnapshot 3 = .ok (.invokevirtual 232, 3) := by decide +kernel
theorem dX12_readSnapshot_6 : decode cX12_readSnapshot 6 = .ok (.putfield 257, 3) := by decide +kernel
theorem dX12_readSnapshot_9 : decode cX12_readSnapshot 9 = .ok (.aload_n 0, 1) := by decide +kernel
theorem dX12_readSnapshot_10 : decode cX12_readSnapshot 10 = .ok (.getfield 201, 3) := by decide +kernel
theorem dX12_readSnapshot_13 : decode cX12_readSnapshot 13 = .ok (.bipush 115, 2) := by decide +kernel
theorem dX12_readSnapshot_15 : decode cX12_readSnapshot 15 = .ok (.if_icmp .ne 11, 3) := by decide +kernel
theorem dX12_readSnapshot_18 : decode cX12_readSnapshot 18 = .ok (.aload_n 0, 1) := by decide +kernel
theorem dX12_readSnapshot_19 : decode cX12_readSnapshot 19 = .ok (.getfield 257, 3) := by decide +kernel
theorem dX12_readSnapshot_22 : decode cX12_readSnapshot 22 = .ok (.iconst 2, 1) := by decide +kernel
theorem dX12_readSnapshot_23 : decode cX12_readSnapshot 23 = .ok (.if_icmp .ge 5, 3) := by decide +kernel
theorem dX12_readSnapshot_26 : decode cX12_readSnapshot 26 = .ok (.iconst 0, 1) := by decide +kernel
theorem dX12_readSnapshot_27 : decode cX12_readSnapshot 27 = .ok (.ireturn, 1) := by decide +kernel
theorem dX12_readSnapshot_28 : decode cX12_readSnapshot 28 = .ok (.iconst 1, 1) := by decide +kernel
theorem dX12_readSnapshot_29 : decode cX12_readSnapshot 29 = .ok (.istore_n 1, 1) := by decide +kernel
theorem dX12_readSnapshot_30 : decode cX12_readSnapshot 30 = .ok (.iconst 0, 1) := by decide +kernel
theorem dX12_readSnapshot_31 : decode cX12_readSnapshot 31 = .ok (.istore_n 2, 1) := by decide +kernel
theorem dX12_readSnapshot_32 : decode cX12_readSnapshot 32 = .ok (.iload_n 2, 1) := by decide +kernel
theorem dX12_readSnapshot_33 : decode cX12_readSnapshot 33 = .ok (.bipush 16, 2) := by decide +kernel
theorem dX12_readSnapshot_35 : decode cX12_readSnapshot 35 = .ok (.if_icmp .ge 66, 3) := by decide +kernel
theorem dX12_readSnapshot_38 : decode cX12_readSnapshot 38 = .ok (.iload_n 1, 1) := by decide +kernel
theorem dX12_readSnapshot_39 : decode cX12_readSnapshot 39 = .ok (.ifCond .eq 54, 3) := by decide +kernel
theorem dX12_readSnapshot_42 : decode cX12_readSnapshot 42 = .ok (.aload_n 0, 1) := by decide +kernel
theorem dX12_readSnapshot_43 : decode cX12_readSnapshot 43 = .ok (.getfield 204, 3) := by decide +kernel
theorem dX12_readSnapshot_46 : decode cX12_readSnapshot 46 = .ok (.bipush 35, 2) := by decide +kernel
theorem dX12_readSnapshot_48 : decode cX12_readSnapshot 48 = .ok (.iconst 5, 1) := by decide +kernel
theorem dX12_readSnapshot_49 : decode cX12_readSnapshot 49 = .ok (.iload_n 2, 1) := by decide +kernel
theorem dX12_readSnapshot_50 : decode cX12_readSnapshot 50 = .ok (.imul, 1) := by decide +kernel
theorem dX12_readSnapshot_51 : decode cX12_readSnapshot 51 = .ok (.iadd, 1) := by decide +kernel
theorem dX12_readSnapshot_52 : decode cX12_readSnapshot 52 = .ok (.iaload, 1) := by decide +kernel
theorem dX12_readSnapshot_53 : decode cX12_readSnapshot 53 = .ok (.bipush 8, 2) := by decide +kernel
theorem dX12_readSnapshot_55 : decode cX12_readSnapshot 55 = .ok (.ishl, 1) := by decide +kernel
theorem dX12_readSnapshot_56 : decode cX12_readSnapshot 56 = .ok (.aload_n 0, 1) := by decide +kernel
theorem dX12_readSnapshot_57 : decode cX12_readSnapshot 57 = .ok (.getfield 204, 3) := by decide +kernel
theorem dX12_readSnapshot_60 : decode cX12_readSnapshot 60 = .ok (.bipush 36, 2) := by decide +kernel
theorem dX12_readSnapshot_62 : decode cX12_readSnapshot 62 = .ok (.iconst 5, 1) := by decide +kernel
theorem dX12_readSnapshot_63 : decode cX12_readSnapshot 63 = .ok (.iload_n 2, 1) := by decide +kernel
theorem dX12_readSnapshot_64 : decode cX12_readSnapshot 64 = .ok (.imul, 1) := by decide +kernel
theorem dX12_readSnapshot_65 : decode cX12_readSnapshot 65 = .ok (.iadd, 1) := by decide +kernel
theorem dX12_readSnapshot_66 : decode cX12_readSnapshot 66 = .ok (.iaload, 1) := by decide +kernel
theorem dX12_readSnapshot_67 : decode cX12_readSnapshot 67 = .ok (.ior, 1) := by decide +kernel
theorem dX12_readSnapshot_68 : decode cX12_readSnapshot 68 = .ok (.sipush 16000, 3) := by decide +kernel
theorem dX12_readSnapshot_71 : decode cX12_readSnapshot 71 = .ok (.if_icmp .gt 22, 3) := by decide +kernel
theorem dX12_readSnapshot_74 : decode cX12_readSnapshot 74 = .ok (.aload_n 0, 1) := by decide +kernel
theorem dX12_readSnapshot_75 : decode cX12_readSnapshot 75 = .ok (.getfield 204, 3) := by decide +kernel
theorem dX12_readSnapshot_78 : decode cX12_readSnapshot 78 = .ok (.bipush 39, 2) := by decide +kernel
