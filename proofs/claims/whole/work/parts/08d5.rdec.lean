theorem dX12_isSameSnap_6 : decode cX12_isSameSnap 6 = .ok (.aload_n 0, 1) := by decide +kernel
theorem dX12_isSameSnap_7 : decode cX12_isSameSnap 7 = .ok (.getfield 348, 3) := by decide +kernel
theorem dX12_isSameSnap_10 : decode cX12_isSameSnap 10 = .ok (.iload_n 2, 1) := by decide +kernel
theorem dX12_isSameSnap_11 : decode cX12_isSameSnap 11 = .ok (.iaload, 1) := by decide +kernel
theorem dX12_isSameSnap_12 : decode cX12_isSameSnap 12 = .ok (.if_icmp .ne 7, 3) := by decide +kernel
theorem dX12_isSameSnap_15 : decode cX12_isSameSnap 15 = .ok (.iconst 1, 1) := by decide +kernel
theorem dX12_isSameSnap_16 : decode cX12_isSameSnap 16 = .ok (.goto 4, 3) := by decide +kernel
theorem dX12_isSameSnap_19 : decode cX12_isSameSnap 19 = .ok (.iconst 0, 1) := by decide +kernel
theorem dX12_isSameSnap_20 : decode cX12_isSameSnap 20 = .ok (.istore_n 3, 1) := by decide +kernel
theorem dX12_isSameSnap_21 : decode cX12_isSameSnap 21 = .ok (.iconst 0, 1) := by decide +kernel
theorem dX12_isSameSnap_22 : decode cX12_isSameSnap 22 = .ok (.istore 4, 2) := by decide +kernel
theorem dX12_isSameSnap_24 : decode cX12_isSameSnap 24 = .ok (.iload 4, 2) := by decide +kernel
theorem dX12_isSameSnap_26 : decode cX12_isSameSnap 26 = .ok (.bipush 115, 2) := by decide +kernel
theorem dX12_isSameSnap_28 : decode cX12_isSameSnap 28 = .ok (.if_icmp .ge 46, 3) := by decide +kernel
theorem dX12_isSameSnap_31 : decode cX12_isSameSnap 31 = .ok (.iload_n 3, 1) := by decide +kernel
theorem dX12_isSameSnap_32 : decode cX12_isSameSnap 32 = .ok (.ifCond .eq 42, 3) := by decide +kernel
theorem dX12_isSameSnap_35 : decode cX12_isSameSnap 35 = .ok (.aload_n 0, 1) := by decide +kernel
theorem dX12_isSameSnap_36 : decode cX12_isSameSnap 36 = .ok (.getfield 351, 3) := by decide +kernel
theorem dX12_isSameSnap_39 : decode cX12_isSameSnap 39 = .ok (.bipush 115, 2) := by decide +kernel
theorem dX12_isSameSnap_41 : decode cX12_isSameSnap 41 = .ok (.iload_n 1, 1) := by decide +kernel
theorem dX12_isSameSnap_42 : decode cX12_isSameSnap 42 = .ok (.imul, 1) := by decide +kernel
theorem dX12_isSameSnap_43 : decode cX12_isSameSnap 43 = .ok (.iload 4, 2) := by decide +kernel
theorem dX12_isSameSnap_45 : decode cX12_isSameSnap 45 = .ok (.iadd, 1) := by decide +kernel
theorem dX12_isSameSnap_46 : decode cX12_isSameSnap 46 = .ok (.iaload, 1) := by decide +kernel
theorem dX12_isSameSnap_47 : decode cX12_isSameSnap 47 = .ok (.aload_n 0, 1) := by decide +kernel
theorem dX12_isSameSnap_48 : decode cX12_isSameSnap 48 = .ok (.getfield 351, 3) := by decide +kernel
theorem dX12_isSameSnap_51 : decode cX12_isSameSnap 51 = .ok (.bipush 115, 2) := by decide +kernel
theorem dX12_isSameSnap_53 : decode cX12_isSameSnap 53 = .ok (.iload_n 2, 1) := by decide +kernel
theorem dX12_isSameSnap_54 : decode cX12_isSameSnap 54 = .ok (.imul, 1) := by decide +kernel
theorem dX12_isSameSnap_55 : decode cX12_isSameSnap 55 = .ok (.iload 4, 2) := by decide +kernel
theorem dX12_isSameSnap_57 : decode cX12_isSameSnap 57 = .ok (.iadd, 1) := by decide +kernel
theorem dX12_isSameSnap_58 : decode cX12_isSameSnap 58 = .ok (.iaload, 1) := by decide +kernel
theorem dX12_isSameSnap_59 : decode cX12_isSameSnap 59 = .ok (.if_icmp .ne 7, 3) := by decide +kernel
theorem dX12_isSameSnap_62 : decode cX12_isSameSnap 62 = .ok (.iconst 1, 1) := by decide +kernel
theorem dX12_isSameSnap_63 : decode cX12_isSameSnap 63 = .ok (.goto 4, 3) := by decide +kernel
theorem dX12_isSameSnap_66 : decode cX12_isSameSnap 66 = .ok (.iconst 0, 1) := by decide +kernel
theorem dX12_isSameSnap_67 : decode cX12_isSameSnap 67 = .ok (.istore_n 3, 1) := by decide +kernel
theorem dX12_isSameSnap_68 : decode cX12_isSameSnap 68 = .ok (.iinc 4 1, 3) := by decide +kernel
theorem dX12_isSameSnap_71 : decode cX12_isSameSnap 71 = .ok (.goto (-47), 3) := by decide +kernel
theorem dX12_isSameSnap_74 : decode cX12_isSameSnap 74 = .ok (.iload_n 3, 1) := by decide +kernel
theorem dX12_isSameSnap_75 : decode cX12_isSameSnap 75 = .ok (.ireturn, 1) := by decide +kernel
theorem dX12_take_0 : decode cX12_take 0 = .ok (.aload_n 0, 1) := by decide +kernel
theorem dX12_take_1 : decode cX12_take 1 = .ok (.iload_n 1, 1) := by decide +kernel
theorem dX12_take_2 : decode cX12_take 2 = .ok (.iload_n 2, 1) := by decide +kernel
theorem dX12_take_3 : decode cX12_take 3 = .ok (.invokevirtual 588, 3) := by decide +kernel
theorem dX12_take_6 : decode cX12_take 6 = .ok (.ifCond .ne 4, 3) := by decide +kernel
theorem dX12_take_9 : decode cX12_take 9 = .ok (.return_, 1) := by decide +kernel
theorem dX12_take_10 : decode cX12_take 10 = .ok (.aload_n 0, 1) := by decide +kernel
theorem dX12_take_11 : decode cX12_take 11 = .ok (.getfield 415, 3) := by decide +kernel
theorem dX12_take_14 : decode cX12_take 14 = .ok (.iload_n 1, 1) := by decide +kernel
theorem dX12_take_15 : decode cX12_take 15 = .ok (.aload_n 0, 1) := by decide +kernel
theorem dX12_take_16 : decode cX12_take 16 = .ok (.getfield 348, 3) := by decide +kernel
theorem dX12_take_19 : decode cX12_take 19 = .ok (.iload_n 2, 1) := by decide +kernel
theorem dX12_take_20 : decode cX12_take 20 = .ok (.iaload, 1) := by decide +kernel
theorem dX12_take_21 : decode cX12_take 21 = .ok (.iastore, 1) := by decide +kernel
theorem dX12_take_22 : decode cX12_take 22 = .ok (.iconst 0, 1) := by decide +kernel
theorem dX12_take_23 : decode cX12_take 23 = .ok (.istore_n 3, 1) := by decide +kernel
theorem dX12_take_24 : decode cX12_take 24 = .ok (.iload_n 3, 1) := by decide +kernel
theorem dX12_take_25 : decode cX12_take 25 = .ok (.iconst 4, 1) := by decide +kernel
theorem dX12_take_26 : decode cX12_take 26 = .ok (.if_icmp .ge 68, 3) := by decide +kernel
theorem dX12_take_29 : decode cX12_take 29 = .ok (.lconst 0, 1) := by decide +kernel
theorem dX12_take_30 : decode cX12_take 30 = .ok (.lstore 4, 2) := by decide +kernel
theorem dX12_take_32 : decode cX12_take 32 = .ok (.iconst 0, 1) := by decide +kernel
theorem dX12_take_33 : decode cX12_take 33 = .ok (.istore 6, 2) := by decide +kernel
theorem dX12_take_35 : decode cX12_take 35 = .ok (.iload 6, 2) := by decide +kernel
theorem dX12_take_37 : decode cX12_take 37 = .ok (.bipush 8, 2) := by decide +kernel
theorem dX12_take_39 : decode cX12_take 39 = .ok (.if_icmp .ge 37, 3) := by decide +kernel
theorem dX12_take_42 : decode cX12_take 42 = .ok (.lload 4, 2) := by decide +kernel
theorem dX12_take_44 : decode cX12_take 44 = .ok (.bipush 8, 2) := by decide +kernel
theorem dX12_take_46 : decode cX12_take 46 = .ok (.lshl, 1) := by decide +kernel
theorem dX12_take_47 : decode cX12_take 47 = .ok (.aload_n 0, 1) := by decide +kernel
theorem dX12_take_48 : decode cX12_take 48 = .ok (.getfield 351, 3) := by decide +kernel
theorem dX12_take_51 : decode cX12_take 51 = .ok (.bipush 115, 2) := by decide +kernel
theorem dX12_take_53 : decode cX12_take 53 = .ok (.iload_n 2, 1) := by decide +kernel
theorem dX12_take_54 : decode cX12_take 54 = .ok (.imul, 1) := by decide +kernel
theorem dX12_take_55 : decode cX12_take 55 = .ok (.iconst 3, 1) := by decide +kernel
theorem dX12_take_56 : decode cX12_take 56 = .ok (.iadd, 1) := by decide +kernel
theorem dX12_take_57 : decode cX12_take 57 = .ok (.bipush 8, 2) := by decide +kernel
theorem dX12_take_59 : decode cX12_take 59 = .ok (.iload_n 3, 1) := by decide +kernel
theorem dX12_take_60 : decode cX12_take 60 = .ok (.imul, 1) := by decide +kernel
theorem dX12_take_61 : decode cX12_take 61 = .ok (.iadd, 1) := by decide +kernel
theorem dX12_take_62 : decode cX12_take 62 = .ok (.iload 6, 2) := by decide +kernel
theorem dX12_take_64 : decode cX12_take 64 = .ok (.iadd, 1) := by decide +kernel
theorem dX12_take_65 : decode cX12_take 65 = .ok (.iaload, 1) := by decide +kernel
theorem dX12_take_66 : decode cX12_take 66 = .ok (.i2l, 1) := by decide +kernel
theorem dX12_take_67 : decode cX12_take 67 = .ok (.lor, 1) := by decide +kernel
theorem dX12_take_68 : decode cX12_take 68 = .ok (.lstore 4, 2) := by decide +kernel
theorem dX12_take_70 : decode cX12_take 70 = .ok (.iinc 6 1, 3) := by decide +kernel
theorem dX12_take_73 : decode cX12_take 73 = .ok (.goto (-38), 3) := by decide +kernel
theorem dX12_take_76 : decode cX12_take 76 = .ok (.aload_n 0, 1) := by decide +kernel
theorem dX12_take_77 : decode cX12_take 77 = .ok (.getfield 418, 3) := by decide +kernel
theorem dX12_take_80 : decode cX12_take 80 = .ok (.iconst 4, 1) := by decide +kernel
theorem dX12_take_81 : decode cX12_take 81 = .ok (.iload_n 1, 1) := by decide +kernel
theorem dX12_take_82 : decode cX12_take 82 = .ok (.imul, 1) := by decide +kernel
theorem dX12_take_83 : decode cX12_take 83 = .ok (.iload_n 3, 1) := by decide +kernel
theorem dX12_take_84 : decode cX12_take 84 = .ok (.iadd, 1) := by decide +kernel
theorem dX12_take_85 : decode cX12_take 85 = .ok (.lload 4, 2) := by decide +kernel
theorem dX12_take_87 : decode cX12_take 87 = .ok (.lastore, 1) := by decide +kernel
theorem dX12_take_88 : decode cX12_take 88 = .ok (.iinc 3 1, 3) := by decide +kernel
theorem dX12_take_91 : decode cX12_take 91 = .ok (.goto (-67), 3) := by decide +kernel
theorem dX12_take_94 : decode cX12_take 94 = .ok (.iconst 0, 1) := by decide +kernel
theorem dX12_take_95 : decode cX12_take 95 = .ok (.istore_n 3, 1) := by decide +kernel
theorem dX12_take_96 : decode cX12_take 96 = .ok (.iload_n 3, 1) := by decide +kernel
theorem dX12_take_97 : decode cX12_take 97 = .ok (.bipush 16, 2) := by decide +kernel
theorem dX12_take_99 : decode cX12_take 99 = .ok (.if_icmp .ge 115, 3) := by decide +kernel
theorem dX12_take_102 : decode cX12_take 102 = .ok (.bipush 115, 2) := by decide +kernel
theorem dX12_take_104 : decode cX12_take 104 = .ok (.iload_n 2, 1) := by decide +kernel
theorem dX12_take_105 : decode cX12_take 105 = .ok (.imul, 1) := by decide +kernel
theorem dX12_take_106 : decode cX12_take 106 = .ok (.bipush 35, 2) := by decide +kernel
theorem dX12_take_108 : decode cX12_take 108 = .ok (.iadd, 1) := by decide +kernel
theorem dX12_take_109 : decode cX12_take 109 = .ok (.iconst 5, 1) := by decide +kernel
theorem dX12_take_110 : decode cX12_take 110 = .ok (.iload_n 3, 1) := by decide +kernel
theorem dX12_take_111 : decode cX12_take 111 = .ok (.imul, 1) := by decide +kernel
theorem dX12_take_112 : decode cX12_take 112 = .ok (.iadd, 1) := by decide +kernel
theorem dX12_take_113 : decode cX12_take 113 = .ok (.istore 4, 2) := by decide +kernel
theorem dX12_take_115 : decode cX12_take 115 = .ok (.aload_n 0, 1) := by decide +kernel
theorem dX12_take_116 : decode cX12_take 116 = .ok (.getfield 421, 3) := by decide +kernel
theorem dX12_take_119 : decode cX12_take 119 = .ok (.bipush 16, 2) := by decide +kernel
theorem dX12_take_121 : decode cX12_take 121 = .ok (.iload_n 1, 1) := by decide +kernel
theorem dX12_take_122 : decode cX12_take 122 = .ok (.imul, 1) := by decide +kernel
theorem dX12_take_123 : decode cX12_take 123 = .ok (.iload_n 3, 1) := by decide +kernel
theorem dX12_take_124 : decode cX12_take 124 = .ok (.iadd, 1) := by decide +kernel
theorem dX12_take_125 : decode cX12_take 125 = .ok (.aload_n 0, 1) := by decide +kernel
theorem dX12_take_126 : decode cX12_take 126 = .ok (.getfield 351, 3) := by decide +kernel
theorem dX12_take_129 : decode cX12_take 129 = .ok (.iload 4, 2) := by decide +kernel
theorem dX12_take_131 : decode cX12_take 131 = .ok (.iaload, 1) := by decide +kernel
theorem dX12_take_132 : decode cX12_take 132 = .ok (.bipush 8, 2) := by decide +kernel
theorem dX12_take_134 : decode cX12_take 134 = .ok (.ishl, 1) := by decide +kernel
theorem dX12_take_135 : decode cX12_take 135 = .ok (.aload_n 0, 1) := by decide +kernel
theorem dX12_take_136 : decode cX12_take 136 = .ok (.getfield 351, 3) := by decide +kernel
theorem dX12_take_139 : decode cX12_take 139 = .ok (.iload 4, 2) := by decide +kernel
theorem dX12_take_141 : decode cX12_take 141 = .ok (.iconst 1, 1) := by decide +kernel
theorem dX12_take_142 : decode cX12_take 142 = .ok (.iadd, 1) := by decide +kernel
theorem dX12_take_143 : decode cX12_take 143 = .ok (.iaload, 1) := by decide +kernel
theorem dX12_take_144 : decode cX12_take 144 = .ok (.ior, 1) := by decide +kernel
theorem dX12_take_145 : decode cX12_take 145 = .ok (.iastore, 1) := by decide +kernel
theorem dX12_take_146 : decode cX12_take 146 = .ok (.aload_n 0, 1) := by decide +kernel
theorem dX12_take_147 : decode cX12_take 147 = .ok (.getfield 424, 3) := by decide +kernel
theorem dX12_take_150 : decode cX12_take 150 = .ok (.bipush 16, 2) := by decide +kernel
theorem dX12_take_152 : decode cX12_take 152 = .ok (.iload_n 1, 1) := by decide +kernel
theorem dX12_take_153 : decode cX12_take 153 = .ok (.imul, 1) := by decide +kernel
theorem dX12_take_154 : decode cX12_take 154 = .ok (.iload_n 3, 1) := by decide +kernel
theorem dX12_take_155 : decode cX12_take 155 = .ok (.iadd, 1) := by decide +kernel
theorem dX12_take_156 : decode cX12_take 156 = .ok (.aload_n 0, 1) := by decide +kernel
theorem dX12_take_157 : decode cX12_take 157 = .ok (.getfield 351, 3) := by decide +kernel
theorem dX12_take_160 : decode cX12_take 160 = .ok (.iload 4, 2) := by decide +kernel
theorem dX12_take_162 : decode cX12_take 162 = .ok (.iconst 2, 1) := by decide +kernel
theorem dX12_take_163 : decode cX12_take 163 = .ok (.iadd, 1) := by decide +kernel
theorem dX12_take_164 : decode cX12_take 164 = .ok (.iaload, 1) := by decide +kernel
theorem dX12_take_165 : decode cX12_take 165 = .ok (.bipush 8, 2) := by decide +kernel
theorem dX12_take_167 : decode cX12_take 167 = .ok (.ishl, 1) := by decide +kernel
theorem dX12_take_168 : decode cX12_take 168 = .ok (.aload_n 0, 1) := by decide +kernel
theorem dX12_take_169 : decode cX12_take 169 = .ok (.getfield 351, 3) := by decide +kernel
theorem dX12_take_172 : decode cX12_take 172 = .ok (.iload 4, 2) := by decide +kernel
theorem dX12_take_174 : decode cX12_take 174 = .ok (.iconst 3, 1) := by decide +kernel
theorem dX12_take_175 : decode cX12_take 175 = .ok (.iadd, 1) := by decide +kernel
theorem dX12_take_176 : decode cX12_take 176 = .ok (.iaload, 1) := by decide +kernel
theorem dX12_take_177 : decode cX12_take 177 = .ok (.ior, 1) := by decide +kernel
theorem dX12_take_178 : decode cX12_take 178 = .ok (.iastore, 1) := by decide +kernel
theorem dX12_take_179 : decode cX12_take 179 = .ok (.aload_n 0, 1) := by decide +kernel
theorem dX12_take_180 : decode cX12_take 180 = .ok (.getfield 427, 3) := by decide +kernel
theorem dX12_take_183 : decode cX12_take 183 = .ok (.bipush 16, 2) := by decide +kernel
theorem dX12_take_185 : decode cX12_take 185 = .ok (.iload_n 1, 1) := by decide +kernel
theorem dX12_take_186 : decode cX12_take 186 = .ok (.imul, 1) := by decide +kernel
theorem dX12_take_187 : decode cX12_take 187 = .ok (.iload_n 3, 1) := by decide +kernel
theorem dX12_take_188 : decode cX12_take 188 = .ok (.iadd, 1) := by decide +kernel
theorem dX12_take_189 : decode cX12_take 189 = .ok (.aload_n 0, 1) := by decide +kernel
theorem dX12_take_190 : decode cX12_take 190 = .ok (.getfield 351, 3) := by decide +kernel
theorem dX12_take_193 : decode cX12_take 193 = .ok (.iload 4, 2) := by decide +kernel
theorem dX12_take_195 : decode cX12_take 195 = .ok (.iconst 4, 1) := by decide +kernel
theorem dX12_take_196 : decode cX12_take 196 = .ok (.iadd, 1) := by decide +kernel
theorem dX12_take_197 : decode cX12_take 197 = .ok (.iaload, 1) := by decide +kernel
theorem dX12_take_198 : decode cX12_take 198 = .ok (.iconst 1, 1) := by decide +kernel
theorem dX12_take_199 : decode cX12_take 199 = .ok (.if_icmp .ne 7, 3) := by decide +kernel
theorem dX12_take_202 : decode cX12_take 202 = .ok (.iconst 1, 1) := by decide +kernel
theorem dX12_take_203 : decode cX12_take 203 = .ok (.goto 4, 3) := by decide +kernel
theorem dX12_take_206 : decode cX12_take 206 = .ok (.iconst 0, 1) := by decide +kernel
theorem dX12_take_207 : decode cX12_take 207 = .ok (.bastore, 1) := by decide +kernel
theorem dX12_take_208 : decode cX12_take 208 = .ok (.iinc 3 1, 3) := by decide +kernel
theorem dX12_take_211 : decode cX12_take 211 = .ok (.goto (-115), 3) := by decide +kernel
theorem dX12_take_214 : decode cX12_take 214 = .ok (.aload_n 0, 1) := by decide +kernel
theorem dX12_take_215 : decode cX12_take 215 = .ok (.iload_n 1, 1) := by decide +kernel
theorem dX12_take_216 : decode cX12_take 216 = .ok (.aload_n 0, 1) := by decide +kernel
theorem dX12_take_217 : decode cX12_take 217 = .ok (.getfield 348, 3) := by decide +kernel
theorem dX12_take_220 : decode cX12_take 220 = .ok (.iload_n 2, 1) := by decide +kernel
theorem dX12_take_221 : decode cX12_take 221 = .ok (.iaload, 1) := by decide +kernel
theorem dX12_take_222 : decode cX12_take 222 = .ok (.invokevirtual 591, 3) := by decide +kernel
theorem dX12_take_225 : decode cX12_take 225 = .ok (.return_, 1) := by decide +kernel
theorem dX12_rise_0 : decode cX12_rise 0 = .ok (.aload_n 0, 1) := by decide +kernel
theorem dX12_rise_1 : decode cX12_rise 1 = .ok (.iload_n 1, 1) := by decide +kernel
theorem dX12_rise_2 : decode cX12_rise 2 = .ok (.aload_n 0, 1) := by decide +kernel
theorem dX12_rise_3 : decode cX12_rise 3 = .ok (.getfield 309, 3) := by decide +kernel
theorem dX12_rise_6 : decode cX12_rise 6 = .ok (.iload_n 1, 1) := by decide +kernel
theorem dX12_rise_7 : decode cX12_rise 7 = .ok (.iaload, 1) := by decide +kernel
theorem dX12_rise_8 : decode cX12_rise 8 = .ok (.invokevirtual 474, 3) := by decide +kernel
theorem dX12_rise_11 : decode cX12_rise 11 = .ok (.iload_n 2, 1) := by decide +kernel
theorem dX12_rise_12 : decode cX12_rise 12 = .ok (.aload_n 0, 1) := by decide +kernel
theorem dX12_rise_13 : decode cX12_rise 13 = .ok (.getfield 309, 3) := by decide +kernel
theorem dX12_rise_16 : decode cX12_rise 16 = .ok (.iload_n 1, 1) := by decide +kernel
theorem dX12_rise_17 : decode cX12_rise 17 = .ok (.iaload, 1) := by decide +kernel
theorem dX12_rise_18 : decode cX12_rise 18 = .ok (.iconst 1, 1) := by decide +kernel
theorem dX12_rise_19 : decode cX12_rise 19 = .ok (.iadd, 1) := by decide +kernel
theorem dX12_rise_20 : decode cX12_rise 20 = .ok (.if_icmp .le 16, 3) := by decide +kernel
theorem dX12_rise_23 : decode cX12_rise 23 = .ok (.aload_n 0, 1) := by decide +kernel
theorem dX12_rise_24 : decode cX12_rise 24 = .ok (.iload_n 1, 1) := by decide +kernel
theorem dX12_rise_25 : decode cX12_rise 25 = .ok (.aload_n 0, 1) := by decide +kernel
theorem dX12_rise_26 : decode cX12_rise 26 = .ok (.getfield 309, 3) := by decide +kernel
theorem dX12_rise_29 : decode cX12_rise 29 = .ok (.iload_n 1, 1) := by decide +kernel
theorem dX12_rise_30 : decode cX12_rise 30 = .ok (.iaload, 1) := by decide +kernel
theorem dX12_rise_31 : decode cX12_rise 31 = .ok (.iconst 1, 1) := by decide +kernel
theorem dX12_rise_32 : decode cX12_rise 32 = .ok (.iadd, 1) := by decide +kernel
theorem dX12_rise_33 : decode cX12_rise 33 = .ok (.invokevirtual 474, 3) := by decide +kernel
theorem dX12_rise_36 : decode cX12_rise 36 = .ok (.aload_n 0, 1) := by decide +kernel
theorem dX12_rise_37 : decode cX12_rise 37 = .ok (.iload_n 1, 1) := by decide +kernel
theorem dX12_rise_38 : decode cX12_rise 38 = .ok (.invokevirtual 477, 3) := by decide +kernel
theorem dX12_rise_41 : decode cX12_rise 41 = .ok (.aload_n 0, 1) := by decide +kernel
theorem dX12_rise_42 : decode cX12_rise 42 = .ok (.getfield 309, 3) := by decide +kernel
theorem dX12_rise_45 : decode cX12_rise 45 = .ok (.iload_n 1, 1) := by decide +kernel
theorem dX12_rise_46 : decode cX12_rise 46 = .ok (.iload_n 2, 1) := by decide +kernel
theorem dX12_rise_47 : decode cX12_rise 47 = .ok (.iastore, 1) := by decide +kernel
theorem dX12_rise_48 : decode cX12_rise 48 = .ok (.aload_n 0, 1) := by decide +kernel
theorem dX12_rise_49 : decode cX12_rise 49 = .ok (.getfield 372, 3) := by decide +kernel
theorem dX12_rise_52 : decode cX12_rise 52 = .ok (.iload_n 1, 1) := by decide +kernel
theorem dX12_rise_53 : decode cX12_rise 53 = .ok (.iconst 0, 1) := by decide +kernel
theorem dX12_rise_54 : decode cX12_rise 54 = .ok (.iastore, 1) := by decide +kernel
theorem dX12_rise_55 : decode cX12_rise 55 = .ok (.aload_n 0, 1) := by decide +kernel
theorem dX12_rise_56 : decode cX12_rise 56 = .ok (.getfield 409, 3) := by decide +kernel
theorem dX12_rise_59 : decode cX12_rise 59 = .ok (.iload_n 1, 1) := by decide +kernel
theorem dX12_rise_60 : decode cX12_rise 60 = .ok (.iconst 0, 1) := by decide +kernel
theorem dX12_rise_61 : decode cX12_rise 61 = .ok (.iastore, 1) := by decide +kernel
theorem dX12_rise_62 : decode cX12_rise 62 = .ok (.aload_n 0, 1) := by decide +kernel
theorem dX12_rise_63 : decode cX12_rise 63 = .ok (.iload_n 1, 1) := by decide +kernel
theorem dX12_rise_64 : decode cX12_rise 64 = .ok (.invokevirtual 451, 3) := by decide +kernel
theorem dX12_rise_67 : decode cX12_rise 67 = .ok (.aload_n 0, 1) := by decide +kernel
theorem dX12_rise_68 : decode cX12_rise 68 = .ok (.iload_n 1, 1) := by decide +kernel
theorem dX12_rise_69 : decode cX12_rise 69 = .ok (.invokevirtual 454, 3) := by decide +kernel
theorem dX12_rise_72 : decode cX12_rise 72 = .ok (.aload_n 0, 1) := by decide +kernel
theorem dX12_rise_73 : decode cX12_rise 73 = .ok (.getfield 312, 3) := by decide +kernel
theorem dX12_rise_76 : decode cX12_rise 76 = .ok (.iload_n 1, 1) := by decide +kernel
theorem dX12_rise_77 : decode cX12_rise 77 = .ok (.iconst 0, 1) := by decide +kernel
theorem dX12_rise_78 : decode cX12_rise 78 = .ok (.iastore, 1) := by decide +kernel
theorem dX12_rise_79 : decode cX12_rise 79 = .ok (.aload_n 0, 1) := by decide +kernel
theorem dX12_rise_80 : decode cX12_rise 80 = .ok (.getfield 315, 3) := by decide +kernel
theorem dX12_rise_83 : decode cX12_rise 83 = .ok (.iload_n 1, 1) := by decide +kernel
theorem dX12_rise_84 : decode cX12_rise 84 = .ok (.iconst 0, 1) := by decide +kernel
theorem dX12_rise_85 : decode cX12_rise 85 = .ok (.iastore, 1) := by decide +kernel
theorem dX12_rise_86 : decode cX12_rise 86 = .ok (.aload_n 0, 1) := by decide +kernel
theorem dX12_rise_87 : decode cX12_rise 87 = .ok (.iload_n 1, 1) := by decide +kernel
theorem dX12_rise_88 : decode cX12_rise 88 = .ok (.invokevirtual 569, 3) := by decide +kernel
theorem dX12_rise_91 : decode cX12_rise 91 = .ok (.iload_n 2, 1) := by decide +kernel
theorem dX12_rise_92 : decode cX12_rise 92 = .ok (.bipush 40, 2) := by decide +kernel
theorem dX12_rise_94 : decode cX12_rise 94 = .ok (.if_icmp .gt 9, 3) := by decide +kernel
theorem dX12_rise_97 : decode cX12_rise 97 = .ok (.aload_n 0, 1) := by decide +kernel
theorem dX12_rise_98 : decode cX12_rise 98 = .ok (.iload_n 1, 1) := by decide +kernel
theorem dX12_rise_99 : decode cX12_rise 99 = .ok (.iconst 0, 1) := by decide +kernel
theorem dX12_rise_100 : decode cX12_rise 100 = .ok (.invokevirtual 457, 3) := by decide +kernel
theorem dX12_rise_103 : decode cX12_rise 103 = .ok (.return_, 1) := by decide +kernel
theorem dX12_decision_0 : decode cX12_decision 0 = .ok (.iconst 0, 1) := by decide +kernel
theorem dX12_decision_1 : decode cX12_decision 1 = .ok (.istore_n 2, 1) := by decide +kernel
theorem dX12_decision_2 : decode cX12_decision 2 = .ok (.iload_n 2, 1) := by decide +kernel
theorem dX12_decision_3 : decode cX12_decision 3 = .ok (.aload_n 0, 1) := by decide +kernel
theorem dX12_decision_4 : decode cX12_decision 4 = .ok (.getfield 219, 3) := by decide +kernel
theorem dX12_decision_7 : decode cX12_decision 7 = .ok (.if_icmp .ge 91, 3) := by decide +kernel
theorem dX12_decision_10 : decode cX12_decision 10 = .ok (.sipush 416, 3) := by decide +kernel
theorem dX12_decision_13 : decode cX12_decision 13 = .ok (.bipush 13, 2) := by decide +kernel
theorem dX12_decision_15 : decode cX12_decision 15 = .ok (.iload_n 1, 1) := by decide +kernel
theorem dX12_decision_16 : decode cX12_decision 16 = .ok (.imul, 1) := by decide +kernel
theorem dX12_decision_17 : decode cX12_decision 17 = .ok (.iadd, 1) := by decide +kernel
theorem dX12_decision_18 : decode cX12_decision 18 = .ok (.iload_n 2, 1) := by decide +kernel
theorem dX12_decision_19 : decode cX12_decision 19 = .ok (.iadd, 1) := by decide +kernel
theorem dX12_decision_20 : decode cX12_decision 20 = .ok (.istore_n 3, 1) := by decide +kernel
theorem dX12_decision_21 : decode cX12_decision 21 = .ok (.iconst 0, 1) := by decide +kernel
theorem dX12_decision_22 : decode cX12_decision 22 = .ok (.istore 4, 2) := by decide +kernel
theorem dX12_decision_24 : decode cX12_decision 24 = .ok (.iconst 0, 1) := by decide +kernel
theorem dX12_decision_25 : decode cX12_decision 25 = .ok (.istore 5, 2) := by decide +kernel
theorem dX12_decision_27 : decode cX12_decision 27 = .ok (.iload 5, 2) := by decide +kernel
theorem dX12_decision_29 : decode cX12_decision 29 = .ok (.aload_n 0, 1) := by decide +kernel
theorem dX12_decision_30 : decode cX12_decision 30 = .ok (.getfield 219, 3) := by decide +kernel
theorem dX12_decision_33 : decode cX12_decision 33 = .ok (.if_icmp .ge 39, 3) := by decide +kernel
theorem dX12_decision_36 : decode cX12_decision 36 = .ok (.aload_n 0, 1) := by decide +kernel
theorem dX12_decision_37 : decode cX12_decision 37 = .ok (.iload_n 3, 1) := by decide +kernel
theorem dX12_decision_38 : decode cX12_decision 38 = .ok (.sipush 416, 3) := by decide +kernel
theorem dX12_decision_41 : decode cX12_decision 41 = .ok (.bipush 13, 2) := by decide +kernel
theorem dX12_decision_43 : decode cX12_decision 43 = .ok (.iload_n 1, 1) := by decide +kernel
theorem dX12_decision_44 : decode cX12_decision 44 = .ok (.imul, 1) := by decide +kernel
theorem dX12_decision_45 : decode cX12_decision 45 = .ok (.iadd, 1) := by decide +kernel
theorem dX12_decision_46 : decode cX12_decision 46 = .ok (.iload 5, 2) := by decide +kernel
theorem dX12_decision_48 : decode cX12_decision 48 = .ok (.iadd, 1) := by decide +kernel
theorem dX12_decision_49 : decode cX12_decision 49 = .ok (.invokevirtual 594, 3) := by decide +kernel
theorem dX12_decision_52 : decode cX12_decision 52 = .ok (.ifCond .eq 10, 3) := by decide +kernel
theorem dX12_decision_55 : decode cX12_decision 55 = .ok (.iload 4, 2) := by decide +kernel
theorem dX12_decision_57 : decode cX12_decision 57 = .ok (.iconst 1, 1) := by decide +kernel
theorem dX12_decision_58 : decode cX12_decision 58 = .ok (.iadd, 1) := by decide +kernel
theorem dX12_decision_59 : decode cX12_decision 59 = .ok (.goto 5, 3) := by decide +kernel
theorem dX12_decision_62 : decode cX12_decision 62 = .ok (.iload 4, 2) := by decide +kernel
theorem dX12_decision_64 : decode cX12_decision 64 = .ok (.istore 4, 2) := by decide +kernel
theorem dX12_decision_66 : decode cX12_decision 66 = .ok (.iinc 5 1, 3) := by decide +kernel
theorem dX12_decision_69 : decode cX12_decision 69 = .ok (.goto (-42), 3) := by decide +kernel
theorem dX12_decision_72 : decode cX12_decision 72 = .ok (.iload 4, 2) := by decide +kernel
theorem dX12_decision_74 : decode cX12_decision 74 = .ok (.aload_n 0, 1) := by decide +kernel
theorem dX12_decision_75 : decode cX12_decision 75 = .ok (.getfield 442, 3) := by decide +kernel
theorem dX12_decision_78 : decode cX12_decision 78 = .ok (.if_icmp .le 14, 3) := by decide +kernel
theorem dX12_decision_81 : decode cX12_decision 81 = .ok (.aload_n 0, 1) := by decide +kernel
theorem dX12_decision_82 : decode cX12_decision 82 = .ok (.iload_n 1, 1) := by decide +kernel
theorem dX12_decision_83 : decode cX12_decision 83 = .ok (.iload_n 3, 1) := by decide +kernel
theorem dX12_decision_84 : decode cX12_decision 84 = .ok (.invokevirtual 597, 3) := by decide +kernel
theorem dX12_decision_87 : decode cX12_decision 87 = .ok (.ifCond .eq 5, 3) := by decide +kernel
theorem dX12_decision_90 : decode cX12_decision 90 = .ok (.iload_n 3, 1) := by decide +kernel
theorem dX12_decision_91 : decode cX12_decision 91 = .ok (.ireturn, 1) := by decide +kernel
theorem dX12_decision_92 : decode cX12_decision 92 = .ok (.iinc 2 1, 3) := by decide +kernel
theorem dX12_decision_95 : decode cX12_decision 95 = .ok (.goto (-93), 3) := by decide +kernel
theorem dX12_decision_98 : decode cX12_decision 98 = .ok (.iconst 0, 1) := by decide +kernel
theorem dX12_decision_99 : decode cX12_decision 99 = .ok (.istore_n 2, 1) := by decide +kernel
theorem dX12_decision_100 : decode cX12_decision 100 = .ok (.iload_n 2, 1) := by decide +kernel
theorem dX12_decision_101 : decode cX12_decision 101 = .ok (.bipush 16, 2) := by decide +kernel
theorem dX12_decision_103 : decode cX12_decision 103 = .ok (.if_icmp .ge 58, 3) := by decide +kernel
theorem dX12_decision_106 : decode cX12_decision 106 = .ok (.iconst 0, 1) := by decide +kernel
theorem dX12_decision_107 : decode cX12_decision 107 = .ok (.iload_n 1, 1) := by decide +kernel
theorem dX12_decision_108 : decode cX12_decision 108 = .ok (.aload_n 0, 1) := by decide +kernel
theorem dX12_decision_109 : decode cX12_decision 109 = .ok (.getfield 309, 3) := by decide +kernel
theorem dX12_decision_112 : decode cX12_decision 112 = .ok (.iload_n 1, 1) := by decide +kernel
theorem dX12_decision_113 : decode cX12_decision 113 = .ok (.iaload, 1) := by decide +kernel
theorem dX12_decision_114 : decode cX12_decision 114 = .ok (.iload_n 2, 1) := by decide +kernel
theorem dX12_decision_115 : decode cX12_decision 115 = .ok (.invokestatic 466, 3) := by decide +kernel
theorem dX12_decision_118 : decode cX12_decision 118 = .ok (.iadd, 1) := by decide +kernel
theorem dX12_decision_119 : decode cX12_decision 119 = .ok (.istore_n 3, 1) := by decide +kernel
theorem dX12_decision_120 : decode cX12_decision 120 = .ok (.aload_n 0, 1) := by decide +kernel
theorem dX12_decision_121 : decode cX12_decision 121 = .ok (.iload_n 3, 1) := by decide +kernel
theorem dX12_decision_122 : decode cX12_decision 122 = .ok (.invokevirtual 63, 3) := by decide +kernel
theorem dX12_decision_125 : decode cX12_decision 125 = .ok (.ifCond .eq 30, 3) := by decide +kernel
theorem dX12_decision_128 : decode cX12_decision 128 = .ok (.aload_n 0, 1) := by decide +kernel
theorem dX12_decision_129 : decode cX12_decision 129 = .ok (.iconst 1, 1) := by decide +kernel
theorem dX12_decision_130 : decode cX12_decision 130 = .ok (.iload_n 1, 1) := by decide +kernel
theorem dX12_decision_131 : decode cX12_decision 131 = .ok (.iload_n 2, 1) := by decide +kernel
theorem dX12_decision_132 : decode cX12_decision 132 = .ok (.iconst 2, 1) := by decide +kernel
theorem dX12_decision_133 : decode cX12_decision 133 = .ok (.iload_n 3, 1) := by decide +kernel
theorem dX12_decision_134 : decode cX12_decision 134 = .ok (.invokevirtual 600, 3) := by decide +kernel
theorem dX12_decision_137 : decode cX12_decision 137 = .ok (.aload_n 0, 1) := by decide +kernel
theorem dX12_decision_138 : decode cX12_decision 138 = .ok (.invokevirtual 603, 3) := by decide +kernel
theorem dX12_decision_141 : decode cX12_decision 141 = .ok (.if_icmp .lt 14, 3) := by decide +kernel
theorem dX12_decision_144 : decode cX12_decision 144 = .ok (.aload_n 0, 1) := by decide +kernel
theorem dX12_decision_145 : decode cX12_decision 145 = .ok (.iload_n 1, 1) := by decide +kernel
theorem dX12_decision_146 : decode cX12_decision 146 = .ok (.iload_n 3, 1) := by decide +kernel
theorem dX12_decision_147 : decode cX12_decision 147 = .ok (.invokevirtual 597, 3) := by decide +kernel
theorem dX12_decision_150 : decode cX12_decision 150 = .ok (.ifCond .eq 5, 3) := by decide +kernel
theorem dX12_decision_153 : decode cX12_decision 153 = .ok (.iload_n 3, 1) := by decide +kernel
theorem dX12_decision_154 : decode cX12_decision 154 = .ok (.ireturn, 1) := by decide +kernel
theorem dX12_decision_155 : decode cX12_decision 155 = .ok (.iinc 2 1, 3) := by decide +kernel
theorem dX12_decision_158 : decode cX12_decision 158 = .ok (.goto (-58), 3) := by decide +kernel
theorem dX12_decision_161 : decode cX12_decision 161 = .ok (.iconst (-1), 1) := by decide +kernel
theorem dX12_decision_162 : decode cX12_decision 162 = .ok (.ireturn, 1) := by decide +kernel
theorem dX12_decide_0 : decode cX12_decide 0 = .ok (.aload_n 0, 1) := by decide +kernel
theorem dX12_decide_1 : decode cX12_decide 1 = .ok (.iload_n 1, 1) := by decide +kernel
theorem dX12_decide_2 : decode cX12_decide 2 = .ok (.iload_n 2, 1) := by decide +kernel
theorem dX12_decide_3 : decode cX12_decide 3 = .ok (.invokevirtual 606, 3) := by decide +kernel
theorem dX12_decide_6 : decode cX12_decide 6 = .ok (.ifCond .ne 4, 3) := by decide +kernel
theorem dX12_decide_9 : decode cX12_decide 9 = .ok (.return_, 1) := by decide +kernel
theorem dX12_decide_10 : decode cX12_decide 10 = .ok (.aload_n 0, 1) := by decide +kernel
theorem dX12_decide_11 : decode cX12_decide 11 = .ok (.iload_n 2, 1) := by decide +kernel
theorem dX12_decide_12 : decode cX12_decide 12 = .ok (.sipush 585, 3) := by decide +kernel
theorem dX12_decide_15 : decode cX12_decide 15 = .ok (.bipush 41, 2) := by decide +kernel
theorem dX12_decide_17 : decode cX12_decide 17 = .ok (.iload_n 1, 1) := by decide +kernel
theorem dX12_decide_18 : decode cX12_decide 18 = .ok (.imul, 1) := by decide +kernel
theorem dX12_decide_19 : decode cX12_decide 19 = .ok (.iadd, 1) := by decide +kernel
theorem dX12_decide_20 : decode cX12_decide 20 = .ok (.aload_n 0, 1) := by decide +kernel
theorem dX12_decide_21 : decode cX12_decide 21 = .ok (.getfield 309, 3) := by decide +kernel
theorem dX12_decide_24 : decode cX12_decide 24 = .ok (.iload_n 1, 1) := by decide +kernel
theorem dX12_decide_25 : decode cX12_decide 25 = .ok (.iaload, 1) := by decide +kernel
theorem dX12_decide_26 : decode cX12_decide 26 = .ok (.iadd, 1) := by decide +kernel
theorem dX12_decide_27 : decode cX12_decide 27 = .ok (.invokevirtual 507, 3) := by decide +kernel
theorem dX12_decide_30 : decode cX12_decide 30 = .ok (.aload_n 0, 1) := by decide +kernel
theorem dX12_decide_31 : decode cX12_decide 31 = .ok (.iload_n 1, 1) := by decide +kernel
theorem dX12_decide_32 : decode cX12_decide 32 = .ok (.sipush 585, 3) := by decide +kernel
theorem dX12_decide_35 : decode cX12_decide 35 = .ok (.bipush 41, 2) := by decide +kernel
theorem dX12_decide_37 : decode cX12_decide 37 = .ok (.iload_n 1, 1) := by decide +kernel
theorem dX12_decide_38 : decode cX12_decide 38 = .ok (.imul, 1) := by decide +kernel
theorem dX12_decide_39 : decode cX12_decide 39 = .ok (.iadd, 1) := by decide +kernel
theorem dX12_decide_40 : decode cX12_decide 40 = .ok (.aload_n 0, 1) := by decide +kernel
theorem dX12_decide_41 : decode cX12_decide 41 = .ok (.getfield 309, 3) := by decide +kernel
theorem dX12_decide_44 : decode cX12_decide 44 = .ok (.iload_n 1, 1) := by decide +kernel
theorem dX12_decide_45 : decode cX12_decide 45 = .ok (.iaload, 1) := by decide +kernel
theorem dX12_decide_46 : decode cX12_decide 46 = .ok (.iadd, 1) := by decide +kernel
theorem dX12_decide_47 : decode cX12_decide 47 = .ok (.invokevirtual 609, 3) := by decide +kernel
theorem dX12_decide_50 : decode cX12_decide 50 = .ok (.aload_n 0, 1) := by decide +kernel
theorem dX12_decide_51 : decode cX12_decide 51 = .ok (.iload_n 1, 1) := by decide +kernel
theorem dX12_decide_52 : decode cX12_decide 52 = .ok (.aload_n 0, 1) := by decide +kernel
theorem dX12_decide_53 : decode cX12_decide 53 = .ok (.getfield 309, 3) := by decide +kernel
theorem dX12_decide_56 : decode cX12_decide 56 = .ok (.iload_n 1, 1) := by decide +kernel
theorem dX12_decide_57 : decode cX12_decide 57 = .ok (.iaload, 1) := by decide +kernel
theorem dX12_decide_58 : decode cX12_decide 58 = .ok (.iconst 1, 1) := by decide +kernel
theorem dX12_decide_59 : decode cX12_decide 59 = .ok (.iadd, 1) := by decide +kernel
theorem dX12_decide_60 : decode cX12_decide 60 = .ok (.invokevirtual 591, 3) := by decide +kernel
theorem dX12_decide_63 : decode cX12_decide 63 = .ok (.return_, 1) := by decide +kernel
theorem dX12_ahead_0 : decode cX12_ahead 0 = .ok (.bipush 15, 2) := by decide +kernel
theorem dX12_ahead_2 : decode cX12_ahead 2 = .ok (.istore_n 2, 1) := by decide +kernel
theorem dX12_ahead_3 : decode cX12_ahead 3 = .ok (.iload_n 2, 1) := by decide +kernel
theorem dX12_ahead_4 : decode cX12_ahead 4 = .ok (.aload_n 0, 1) := by decide +kernel
theorem dX12_ahead_5 : decode cX12_ahead 5 = .ok (.getfield 312, 3) := by decide +kernel
theorem dX12_ahead_8 : decode cX12_ahead 8 = .ok (.iload_n 1, 1) := by decide +kernel
theorem dX12_ahead_9 : decode cX12_ahead 9 = .ok (.iaload, 1) := by decide +kernel
theorem dX12_ahead_10 : decode cX12_ahead 10 = .ok (.if_icmp .le 139, 3) := by decide +kernel
theorem dX12_ahead_13 : decode cX12_ahead 13 = .ok (.iconst 0, 1) := by decide +kernel
theorem dX12_ahead_14 : decode cX12_ahead 14 = .ok (.istore_n 3, 1) := by decide +kernel
theorem dX12_ahead_15 : decode cX12_ahead 15 = .ok (.iconst 0, 1) := by decide +kernel
theorem dX12_ahead_16 : decode cX12_ahead 16 = .ok (.istore 4, 2) := by decide +kernel
theorem dX12_ahead_18 : decode cX12_ahead 18 = .ok (.iload 4, 2) := by decide +kernel
theorem dX12_ahead_20 : decode cX12_ahead 20 = .ok (.aload_n 0, 1) := by decide +kernel
theorem dX12_ahead_21 : decode cX12_ahead 21 = .ok (.getfield 219, 3) := by decide +kernel
theorem dX12_ahead_24 : decode cX12_ahead 24 = .ok (.if_icmp .ge 109, 3) := by decide +kernel
theorem dX12_ahead_27 : decode cX12_ahead 27 = .ok (.aload_n 0, 1) := by decide +kernel
theorem dX12_ahead_28 : decode cX12_ahead 28 = .ok (.getfield 357, 3) := by decide +kernel
theorem dX12_ahead_31 : decode cX12_ahead 31 = .ok (.iconst 0, 1) := by decide +kernel
theorem dX12_ahead_32 : decode cX12_ahead 32 = .ok (.iload_n 1, 1) := by decide +kernel
theorem dX12_ahead_33 : decode cX12_ahead 33 = .ok (.aload_n 0, 1) := by decide +kernel
theorem dX12_ahead_34 : decode cX12_ahead 34 = .ok (.getfield 309, 3) := by decide +kernel
theorem dX12_ahead_37 : decode cX12_ahead 37 = .ok (.iload_n 1, 1) := by decide +kernel
theorem dX12_ahead_38 : decode cX12_ahead 38 = .ok (.iaload, 1) := by decide +kernel
theorem dX12_ahead_39 : decode cX12_ahead 39 = .ok (.iload_n 2, 1) := by decide +kernel
theorem dX12_ahead_40 : decode cX12_ahead 40 = .ok (.iload 4, 2) := by decide +kernel
theorem dX12_ahead_42 : decode cX12_ahead 42 = .ok (.invokestatic 470, 3) := by decide +kernel
theorem dX12_ahead_45 : decode cX12_ahead 45 = .ok (.iaload, 1) := by decide +kernel
theorem dX12_ahead_46 : decode cX12_ahead 46 = .ok (.ifCond .ne 61, 3) := by decide +kernel
theorem dX12_ahead_49 : decode cX12_ahead 49 = .ok (.aload_n 0, 1) := by decide +kernel
theorem dX12_ahead_50 : decode cX12_ahead 50 = .ok (.getfield 357, 3) := by decide +kernel
theorem dX12_ahead_53 : decode cX12_ahead 53 = .ok (.iconst 1, 1) := by decide +kernel
theorem dX12_ahead_54 : decode cX12_ahead 54 = .ok (.iload_n 1, 1) := by decide +kernel
theorem dX12_ahead_55 : decode cX12_ahead 55 = .ok (.aload_n 0, 1) := by decide +kernel
theorem dX12_ahead_56 : decode cX12_ahead 56 = .ok (.getfield 309, 3) := by decide +kernel
theorem dX12_ahead_59 : decode cX12_ahead 59 = .ok (.iload_n 1, 1) := by decide +kernel
theorem dX12_ahead_60 : decode cX12_ahead 60 = .ok (.iaload, 1) := by decide +kernel
theorem dX12_ahead_61 : decode cX12_ahead 61 = .ok (.iload_n 2, 1) := by decide +kernel
theorem dX12_ahead_62 : decode cX12_ahead 62 = .ok (.iload 4, 2) := by decide +kernel
theorem dX12_ahead_64 : decode cX12_ahead 64 = .ok (.invokestatic 470, 3) := by decide +kernel
theorem dX12_ahead_67 : decode cX12_ahead 67 = .ok (.iaload, 1) := by decide +kernel
theorem dX12_ahead_68 : decode cX12_ahead 68 = .ok (.ifCond .ne 39, 3) := by decide +kernel
theorem dX12_ahead_71 : decode cX12_ahead 71 = .ok (.aload_n 0, 1) := by decide +kernel
theorem dX12_ahead_72 : decode cX12_ahead 72 = .ok (.iconst 0, 1) := by decide +kernel
theorem dX12_ahead_73 : decode cX12_ahead 73 = .ok (.iload_n 1, 1) := by decide +kernel
theorem dX12_ahead_74 : decode cX12_ahead 74 = .ok (.aload_n 0, 1) := by decide +kernel
theorem dX12_ahead_75 : decode cX12_ahead 75 = .ok (.getfield 309, 3) := by decide +kernel
theorem dX12_ahead_78 : decode cX12_ahead 78 = .ok (.iload_n 1, 1) := by decide +kernel
theorem dX12_ahead_79 : decode cX12_ahead 79 = .ok (.iaload, 1) := by decide +kernel
theorem dX12_ahead_80 : decode cX12_ahead 80 = .ok (.iload_n 2, 1) := by decide +kernel
theorem dX12_ahead_81 : decode cX12_ahead 81 = .ok (.invokestatic 466, 3) := by decide +kernel
theorem dX12_ahead_84 : decode cX12_ahead 84 = .ok (.iadd, 1) := by decide +kernel
theorem dX12_ahead_85 : decode cX12_ahead 85 = .ok (.invokevirtual 63, 3) := by decide +kernel
theorem dX12_ahead_88 : decode cX12_ahead 88 = .ok (.ifCond .eq 23, 3) := by decide +kernel
theorem dX12_ahead_91 : decode cX12_ahead 91 = .ok (.aload_n 0, 1) := by decide +kernel
theorem dX12_ahead_92 : decode cX12_ahead 92 = .ok (.aload_n 0, 1) := by decide +kernel
theorem dX12_ahead_93 : decode cX12_ahead 93 = .ok (.getfield 309, 3) := by decide +kernel
theorem dX12_ahead_96 : decode cX12_ahead 96 = .ok (.iload_n 1, 1) := by decide +kernel
theorem dX12_ahead_97 : decode cX12_ahead 97 = .ok (.iaload, 1) := by decide +kernel
theorem dX12_ahead_98 : decode cX12_ahead 98 = .ok (.iload_n 2, 1) := by decide +kernel
theorem dX12_ahead_99 : decode cX12_ahead 99 = .ok (.invokevirtual 575, 3) := by decide +kernel
theorem dX12_ahead_102 : decode cX12_ahead 102 = .ok (.iload 4, 2) := by decide +kernel
theorem dX12_ahead_104 : decode cX12_ahead 104 = .ok (.if_icmp .ne 7, 3) := by decide +kernel
theorem dX12_ahead_107 : decode cX12_ahead 107 = .ok (.iconst 1, 1) := by decide +kernel
theorem dX12_ahead_108 : decode cX12_ahead 108 = .ok (.goto 4, 3) := by decide +kernel
theorem dX12_ahead_111 : decode cX12_ahead 111 = .ok (.iconst 0, 1) := by decide +kernel
theorem dX12_ahead_112 : decode cX12_ahead 112 = .ok (.istore 5, 2) := by decide +kernel
theorem dX12_ahead_114 : decode cX12_ahead 114 = .ok (.iload 5, 2) := by decide +kernel
theorem dX12_ahead_116 : decode cX12_ahead 116 = .ok (.ifCond .eq 9, 3) := by decide +kernel
theorem dX12_ahead_119 : decode cX12_ahead 119 = .ok (.iload_n 3, 1) := by decide +kernel
theorem dX12_ahead_120 : decode cX12_ahead 120 = .ok (.iconst 1, 1) := by decide +kernel
theorem dX12_ahead_121 : decode cX12_ahead 121 = .ok (.iadd, 1) := by decide +kernel
theorem dX12_ahead_122 : decode cX12_ahead 122 = .ok (.goto 4, 3) := by decide +kernel
theorem dX12_ahead_125 : decode cX12_ahead 125 = .ok (.iload_n 3, 1) := by decide +kernel
theorem dX12_ahead_126 : decode cX12_ahead 126 = .ok (.istore_n 3, 1) := by decide +kernel
theorem dX12_ahead_127 : decode cX12_ahead 127 = .ok (.iinc 4 1, 3) := by decide +kernel
theorem dX12_ahead_130 : decode cX12_ahead 130 = .ok (.goto (-112), 3) := by decide +kernel
theorem dX12_ahead_133 : decode cX12_ahead 133 = .ok (.iload_n 3, 1) := by decide +kernel
theorem dX12_ahead_134 : decode cX12_ahead 134 = .ok (.aload_n 0, 1) := by decide +kernel
theorem dX12_ahead_135 : decode cX12_ahead 135 = .ok (.getfield 442, 3) := by decide +kernel
theorem dX12_ahead_138 : decode cX12_ahead 138 = .ok (.if_icmp .le 5, 3) := by decide +kernel
theorem dX12_ahead_141 : decode cX12_ahead 141 = .ok (.iload_n 2, 1) := by decide +kernel
theorem dX12_ahead_142 : decode cX12_ahead 142 = .ok (.ireturn, 1) := by decide +kernel
theorem dX12_ahead_143 : decode cX12_ahead 143 = .ok (.iinc 2 (-1), 3) := by decide +kernel
theorem dX12_ahead_146 : decode cX12_ahead 146 = .ok (.goto (-143), 3) := by decide +kernel
theorem dX12_ahead_149 : decode cX12_ahead 149 = .ok (.iconst (-1), 1) := by decide +kernel
theorem dX12_ahead_150 : decode cX12_ahead 150 = .ok (.ireturn, 1) := by decide +kernel
theorem dX12_rule_0 : decode cX12_rule 0 = .ok (.aload_n 0, 1) := by decide +kernel
theorem dX12_rule_1 : decode cX12_rule 1 = .ok (.iload_n 1, 1) := by decide +kernel
theorem dX12_rule_2 : decode cX12_rule 2 = .ok (.invokevirtual 612, 3) := by decide +kernel
theorem dX12_rule_5 : decode cX12_rule 5 = .ok (.istore_n 2, 1) := by decide +kernel
theorem dX12_rule_6 : decode cX12_rule 6 = .ok (.iload_n 2, 1) := by decide +kernel
theorem dX12_rule_7 : decode cX12_rule 7 = .ok (.ifCond .lt 16, 3) := by decide +kernel
theorem dX12_rule_10 : decode cX12_rule 10 = .ok (.aload_n 0, 1) := by decide +kernel
theorem dX12_rule_11 : decode cX12_rule 11 = .ok (.iload_n 1, 1) := by decide +kernel
theorem dX12_rule_12 : decode cX12_rule 12 = .ok (.iload_n 2, 1) := by decide +kernel
theorem dX12_rule_13 : decode cX12_rule 13 = .ok (.invokevirtual 615, 3) := by decide +kernel
theorem dX12_rule_16 : decode cX12_rule 16 = .ok (.aload_n 0, 1) := by decide +kernel
theorem dX12_rule_17 : decode cX12_rule 17 = .ok (.getfield 305, 3) := by decide +kernel
theorem dX12_rule_20 : decode cX12_rule 20 = .ok (.iload_n 1, 1) := by decide +kernel
theorem dX12_rule_21 : decode cX12_rule 21 = .ok (.baload, 1) := by decide +kernel
theorem dX12_rule_22 : decode cX12_rule 22 = .ok (.ireturn, 1) := by decide +kernel
theorem dX12_rule_23 : decode cX12_rule 23 = .ok (.aload_n 0, 1) := by decide +kernel
theorem dX12_rule_24 : decode cX12_rule 24 = .ok (.iload_n 1, 1) := by decide +kernel
theorem dX12_rule_25 : decode cX12_rule 25 = .ok (.invokevirtual 618, 3) := by decide +kernel
theorem dX12_rule_28 : decode cX12_rule 28 = .ok (.istore_n 3, 1) := by decide +kernel
theorem dX12_rule_29 : decode cX12_rule 29 = .ok (.iload_n 3, 1) := by decide +kernel
theorem dX12_rule_30 : decode cX12_rule 30 = .ok (.ifCond .lt 16, 3) := by decide +kernel
theorem dX12_rule_33 : decode cX12_rule 33 = .ok (.aload_n 0, 1) := by decide +kernel
theorem dX12_rule_34 : decode cX12_rule 34 = .ok (.iload_n 1, 1) := by decide +kernel
theorem dX12_rule_35 : decode cX12_rule 35 = .ok (.iload_n 3, 1) := by decide +kernel
theorem dX12_rule_36 : decode cX12_rule 36 = .ok (.invokevirtual 621, 3) := by decide +kernel
theorem dX12_rule_39 : decode cX12_rule 39 = .ok (.aload_n 0, 1) := by decide +kernel
theorem dX12_rule_40 : decode cX12_rule 40 = .ok (.getfield 305, 3) := by decide +kernel
theorem dX12_rule_43 : decode cX12_rule 43 = .ok (.iload_n 1, 1) := by decide +kernel
theorem dX12_rule_44 : decode cX12_rule 44 = .ok (.baload, 1) := by decide +kernel
theorem dX12_rule_45 : decode cX12_rule 45 = .ok (.ireturn, 1) := by decide +kernel
theorem dX12_rule_46 : decode cX12_rule 46 = .ok (.aload_n 0, 1) := by decide +kernel
theorem dX12_rule_47 : decode cX12_rule 47 = .ok (.iload_n 1, 1) := by decide +kernel
theorem dX12_rule_48 : decode cX12_rule 48 = .ok (.invokevirtual 624, 3) := by decide +kernel
theorem dX12_rule_51 : decode cX12_rule 51 = .ok (.istore 4, 2) := by decide +kernel
theorem dX12_rule_53 : decode cX12_rule 53 = .ok (.iload 4, 2) := by decide +kernel
theorem dX12_rule_55 : decode cX12_rule 55 = .ok (.ifCond .lt 17, 3) := by decide +kernel
theorem dX12_rule_58 : decode cX12_rule 58 = .ok (.aload_n 0, 1) := by decide +kernel
theorem dX12_rule_59 : decode cX12_rule 59 = .ok (.iload_n 1, 1) := by decide +kernel
theorem dX12_rule_60 : decode cX12_rule 60 = .ok (.iload 4, 2) := by decide +kernel
theorem dX12_rule_62 : decode cX12_rule 62 = .ok (.invokevirtual 457, 3) := by decide +kernel
theorem dX12_rule_65 : decode cX12_rule 65 = .ok (.aload_n 0, 1) := by decide +kernel
theorem dX12_rule_66 : decode cX12_rule 66 = .ok (.getfield 305, 3) := by decide +kernel
theorem dX12_rule_69 : decode cX12_rule 69 = .ok (.iload_n 1, 1) := by decide +kernel
theorem dX12_rule_70 : decode cX12_rule 70 = .ok (.baload, 1) := by decide +kernel
theorem dX12_rule_71 : decode cX12_rule 71 = .ok (.ireturn, 1) := by decide +kernel
theorem dX12_rule_72 : decode cX12_rule 72 = .ok (.iconst 0, 1) := by decide +kernel
theorem dX12_rule_73 : decode cX12_rule 73 = .ok (.iload_n 1, 1) := by decide +kernel
theorem dX12_rule_74 : decode cX12_rule 74 = .ok (.aload_n 0, 1) := by decide +kernel
theorem dX12_rule_75 : decode cX12_rule 75 = .ok (.getfield 309, 3) := by decide +kernel
theorem dX12_rule_78 : decode cX12_rule 78 = .ok (.iload_n 1, 1) := by decide +kernel
theorem dX12_rule_79 : decode cX12_rule 79 = .ok (.iaload, 1) := by decide +kernel
theorem dX12_rule_80 : decode cX12_rule 80 = .ok (.aload_n 0, 1) := by decide +kernel
theorem dX12_rule_81 : decode cX12_rule 81 = .ok (.getfield 312, 3) := by decide +kernel
theorem dX12_rule_84 : decode cX12_rule 84 = .ok (.iload_n 1, 1) := by decide +kernel
theorem dX12_rule_85 : decode cX12_rule 85 = .ok (.iaload, 1) := by decide +kernel
theorem dX12_rule_86 : decode cX12_rule 86 = .ok (.invokestatic 466, 3) := by decide +kernel
theorem dX12_rule_89 : decode cX12_rule 89 = .ok (.iadd, 1) := by decide +kernel
theorem dX12_rule_90 : decode cX12_rule 90 = .ok (.istore 5, 2) := by decide +kernel
theorem dX12_rule_92 : decode cX12_rule 92 = .ok (.aload_n 0, 1) := by decide +kernel
theorem dX12_rule_93 : decode cX12_rule 93 = .ok (.getfield 315, 3) := by decide +kernel
theorem dX12_rule_96 : decode cX12_rule 96 = .ok (.iload_n 1, 1) := by decide +kernel
theorem dX12_rule_97 : decode cX12_rule 97 = .ok (.iaload, 1) := by decide +kernel
theorem dX12_rule_98 : decode cX12_rule 98 = .ok (.ifCond .ne 38, 3) := by decide +kernel
theorem dX12_rule_101 : decode cX12_rule 101 = .ok (.aload_n 0, 1) := by decide +kernel
theorem dX12_rule_102 : decode cX12_rule 102 = .ok (.iload 5, 2) := by decide +kernel
theorem dX12_rule_104 : decode cX12_rule 104 = .ok (.invokevirtual 63, 3) := by decide +kernel
theorem dX12_rule_107 : decode cX12_rule 107 = .ok (.ifCond .eq 23, 3) := by decide +kernel
theorem dX12_rule_110 : decode cX12_rule 110 = .ok (.aload_n 0, 1) := by decide +kernel
theorem dX12_rule_111 : decode cX12_rule 111 = .ok (.iload_n 1, 1) := by decide +kernel
theorem dX12_rule_112 : decode cX12_rule 112 = .ok (.iload 5, 2) := by decide +kernel
theorem dX12_rule_114 : decode cX12_rule 114 = .ok (.invokevirtual 627, 3) := by decide +kernel
theorem dX12_rule_117 : decode cX12_rule 117 = .ok (.ifCond .eq 13, 3) := by decide +kernel
theorem dX12_rule_120 : decode cX12_rule 120 = .ok (.aload_n 0, 1) := by decide +kernel
theorem dX12_rule_121 : decode cX12_rule 121 = .ok (.iload_n 1, 1) := by decide +kernel
theorem dX12_rule_122 : decode cX12_rule 122 = .ok (.iload 5, 2) := by decide +kernel
theorem dX12_rule_124 : decode cX12_rule 124 = .ok (.invokevirtual 630, 3) := by decide +kernel
theorem dX12_rule_127 : decode cX12_rule 127 = .ok (.goto 8, 3) := by decide +kernel
theorem dX12_rule_130 : decode cX12_rule 130 = .ok (.aload_n 0, 1) := by decide +kernel
theorem dX12_rule_131 : decode cX12_rule 131 = .ok (.iload_n 1, 1) := by decide +kernel
theorem dX12_rule_132 : decode cX12_rule 132 = .ok (.invokevirtual 633, 3) := by decide +kernel
theorem dX12_rule_135 : decode cX12_rule 135 = .ok (.ireturn, 1) := by decide +kernel
theorem dX12_rule_136 : decode cX12_rule 136 = .ok (.aload_n 0, 1) := by decide +kernel
theorem dX12_rule_137 : decode cX12_rule 137 = .ok (.getfield 324, 3) := by decide +kernel
theorem dX12_rule_140 : decode cX12_rule 140 = .ok (.iload_n 1, 1) := by decide +kernel
theorem dX12_rule_141 : decode cX12_rule 141 = .ok (.baload, 1) := by decide +kernel
theorem dX12_rule_142 : decode cX12_rule 142 = .ok (.ifCond .ne 52, 3) := by decide +kernel
theorem dX12_rule_145 : decode cX12_rule 145 = .ok (.aload_n 0, 1) := by decide +kernel
theorem dX12_rule_146 : decode cX12_rule 146 = .ok (.iload 5, 2) := by decide +kernel
theorem dX12_rule_148 : decode cX12_rule 148 = .ok (.invokevirtual 63, 3) := by decide +kernel
theorem dX12_rule_151 : decode cX12_rule 151 = .ok (.ifCond .eq 43, 3) := by decide +kernel
theorem dX12_rule_154 : decode cX12_rule 154 = .ok (.aload_n 0, 1) := by decide +kernel
theorem dX12_rule_155 : decode cX12_rule 155 = .ok (.iconst 0, 1) := by decide +kernel
theorem dX12_rule_156 : decode cX12_rule 156 = .ok (.iload_n 1, 1) := by decide +kernel
theorem dX12_rule_157 : decode cX12_rule 157 = .ok (.aload_n 0, 1) := by decide +kernel
theorem dX12_rule_158 : decode cX12_rule 158 = .ok (.getfield 312, 3) := by decide +kernel
theorem dX12_rule_161 : decode cX12_rule 161 = .ok (.iload_n 1, 1) := by decide +kernel
theorem dX12_rule_162 : decode cX12_rule 162 = .ok (.iaload, 1) := by decide +kernel
theorem dX12_rule_163 : decode cX12_rule 163 = .ok (.iconst 2, 1) := by decide +kernel
theorem dX12_rule_164 : decode cX12_rule 164 = .ok (.iload 5, 2) := by decide +kernel
theorem dX12_rule_166 : decode cX12_rule 166 = .ok (.invokevirtual 600, 3) := by decide +kernel
theorem dX12_rule_169 : decode cX12_rule 169 = .ok (.aload_n 0, 1) := by decide +kernel
theorem dX12_rule_170 : decode cX12_rule 170 = .ok (.invokevirtual 603, 3) := by decide +kernel
theorem dX12_rule_173 : decode cX12_rule 173 = .ok (.if_icmp .lt 21, 3) := by decide +kernel
theorem dX12_rule_176 : decode cX12_rule 176 = .ok (.aload_n 0, 1) := by decide +kernel
theorem dX12_rule_177 : decode cX12_rule 177 = .ok (.iload_n 1, 1) := by decide +kernel
theorem dX12_rule_178 : decode cX12_rule 178 = .ok (.iload 5, 2) := by decide +kernel
theorem dX12_rule_180 : decode cX12_rule 180 = .ok (.invokevirtual 597, 3) := by decide +kernel
theorem dX12_rule_183 : decode cX12_rule 183 = .ok (.ifCond .eq 11, 3) := by decide +kernel
theorem dX12_rule_186 : decode cX12_rule 186 = .ok (.aload_n 0, 1) := by decide +kernel
theorem dX12_rule_187 : decode cX12_rule 187 = .ok (.iload_n 1, 1) := by decide +kernel
theorem dX12_rule_188 : decode cX12_rule 188 = .ok (.iload 5, 2) := by decide +kernel
theorem dX12_rule_190 : decode cX12_rule 190 = .ok (.invokevirtual 636, 3) := by decide +kernel
theorem dX12_rule_193 : decode cX12_rule 193 = .ok (.ireturn, 1) := by decide +kernel
theorem dX12_rule_194 : decode cX12_rule 194 = .ok (.aload_n 0, 1) := by decide +kernel
theorem dX12_rule_195 : decode cX12_rule 195 = .ok (.getfield 315, 3) := by decide +kernel
theorem dX12_rule_198 : decode cX12_rule 198 = .ok (.iload_n 1, 1) := by decide +kernel
theorem dX12_rule_199 : decode cX12_rule 199 = .ok (.iaload, 1) := by decide +kernel
theorem dX12_rule_200 : decode cX12_rule 200 = .ok (.iconst 1, 1) := by decide +kernel
theorem dX12_rule_201 : decode cX12_rule 201 = .ok (.if_icmp .ne 33, 3) := by decide +kernel
theorem dX12_rule_204 : decode cX12_rule 204 = .ok (.aload_n 0, 1) := by decide +kernel
theorem dX12_rule_205 : decode cX12_rule 205 = .ok (.iconst 0, 1) := by decide +kernel
theorem dX12_rule_206 : decode cX12_rule 206 = .ok (.iload_n 1, 1) := by decide +kernel
theorem dX12_rule_207 : decode cX12_rule 207 = .ok (.aload_n 0, 1) := by decide +kernel
theorem dX12_rule_208 : decode cX12_rule 208 = .ok (.getfield 312, 3) := by decide +kernel
theorem dX12_rule_211 : decode cX12_rule 211 = .ok (.iload_n 1, 1) := by decide +kernel
theorem dX12_rule_212 : decode cX12_rule 212 = .ok (.iaload, 1) := by decide +kernel
theorem dX12_rule_213 : decode cX12_rule 213 = .ok (.iconst 1, 1) := by decide +kernel
theorem dX12_rule_214 : decode cX12_rule 214 = .ok (.iconst (-1), 1) := by decide +kernel
theorem dX12_rule_215 : decode cX12_rule 215 = .ok (.invokevirtual 600, 3) := by decide +kernel
theorem dX12_rule_218 : decode cX12_rule 218 = .ok (.aload_n 0, 1) := by decide +kernel
theorem dX12_rule_219 : decode cX12_rule 219 = .ok (.invokevirtual 603, 3) := by decide +kernel
theorem dX12_rule_222 : decode cX12_rule 222 = .ok (.if_icmp .lt 12, 3) := by decide +kernel
theorem dX12_rule_225 : decode cX12_rule 225 = .ok (.aload_n 0, 1) := by decide +kernel
theorem dX12_rule_226 : decode cX12_rule 226 = .ok (.iload_n 1, 1) := by decide +kernel
theorem dX12_rule_227 : decode cX12_rule 227 = .ok (.iconst 3, 1) := by decide +kernel
theorem dX12_rule_228 : decode cX12_rule 228 = .ok (.iconst (-1), 1) := by decide +kernel
theorem dX12_rule_229 : decode cX12_rule 229 = .ok (.iconst 2, 1) := by decide +kernel
theorem dX12_rule_230 : decode cX12_rule 230 = .ok (.invokevirtual 639, 3) := by decide +kernel
theorem dX12_rule_233 : decode cX12_rule 233 = .ok (.ireturn, 1) := by decide +kernel
theorem dX12_rule_234 : decode cX12_rule 234 = .ok (.aload_n 0, 1) := by decide +kernel
theorem dX12_rule_235 : decode cX12_rule 235 = .ok (.getfield 315, 3) := by decide +kernel
theorem dX12_rule_238 : decode cX12_rule 238 = .ok (.iload_n 1, 1) := by decide +kernel
theorem dX12_rule_239 : decode cX12_rule 239 = .ok (.iaload, 1) := by decide +kernel
theorem dX12_rule_240 : decode cX12_rule 240 = .ok (.iconst 1, 1) := by decide +kernel
theorem dX12_rule_241 : decode cX12_rule 241 = .ok (.if_icmp .ne 48, 3) := by decide +kernel
theorem dX12_rule_244 : decode cX12_rule 244 = .ok (.aload_n 0, 1) := by decide +kernel
theorem dX12_rule_245 : decode cX12_rule 245 = .ok (.getfield 327, 3) := by decide +kernel
theorem dX12_rule_248 : decode cX12_rule 248 = .ok (.iload_n 1, 1) := by decide +kernel
theorem dX12_rule_249 : decode cX12_rule 249 = .ok (.baload, 1) := by decide +kernel
theorem dX12_rule_250 : decode cX12_rule 250 = .ok (.ifCond .ne 39, 3) := by decide +kernel
theorem dX12_rule_253 : decode cX12_rule 253 = .ok (.aload_n 0, 1) := by decide +kernel
theorem dX12_rule_254 : decode cX12_rule 254 = .ok (.iconst 0, 1) := by decide +kernel
theorem dX12_rule_255 : decode cX12_rule 255 = .ok (.iload_n 1, 1) := by decide +kernel
theorem dX12_rule_256 : decode cX12_rule 256 = .ok (.aload_n 0, 1) := by decide +kernel
theorem dX12_rule_257 : decode cX12_rule 257 = .ok (.getfield 312, 3) := by decide +kernel
theorem dX12_rule_260 : decode cX12_rule 260 = .ok (.iload_n 1, 1) := by decide +kernel
theorem dX12_rule_261 : decode cX12_rule 261 = .ok (.iaload, 1) := by decide +kernel
theorem dX12_rule_262 : decode cX12_rule 262 = .ok (.iconst 0, 1) := by decide +kernel
theorem dX12_rule_263 : decode cX12_rule 263 = .ok (.iconst (-1), 1) := by decide +kernel
theorem dX12_rule_264 : decode cX12_rule 264 = .ok (.invokevirtual 600, 3) := by decide +kernel
theorem dX12_rule_267 : decode cX12_rule 267 = .ok (.aload_n 0, 1) := by decide +kernel
theorem dX12_rule_268 : decode cX12_rule 268 = .ok (.invokevirtual 603, 3) := by decide +kernel
theorem dX12_rule_271 : decode cX12_rule 271 = .ok (.if_icmp .lt 18, 3) := by decide +kernel
theorem dX12_rule_274 : decode cX12_rule 274 = .ok (.aload_n 0, 1) := by decide +kernel
theorem dX12_rule_275 : decode cX12_rule 275 = .ok (.getfield 327, 3) := by decide +kernel
theorem dX12_rule_278 : decode cX12_rule 278 = .ok (.iload_n 1, 1) := by decide +kernel
theorem dX12_rule_279 : decode cX12_rule 279 = .ok (.iconst 1, 1) := by decide +kernel
theorem dX12_rule_280 : decode cX12_rule 280 = .ok (.bastore, 1) := by decide +kernel
theorem dX12_rule_281 : decode cX12_rule 281 = .ok (.aload_n 0, 1) := by decide +kernel
theorem dX12_rule_282 : decode cX12_rule 282 = .ok (.iload_n 1, 1) := by decide +kernel
theorem dX12_rule_283 : decode cX12_rule 283 = .ok (.iconst 1, 1) := by decide +kernel
theorem dX12_rule_284 : decode cX12_rule 284 = .ok (.invokevirtual 572, 3) := by decide +kernel
theorem dX12_rule_287 : decode cX12_rule 287 = .ok (.iconst 1, 1) := by decide +kernel
theorem dX12_rule_288 : decode cX12_rule 288 = .ok (.ireturn, 1) := by decide +kernel
theorem dX12_rule_289 : decode cX12_rule 289 = .ok (.aload_n 0, 1) := by decide +kernel
theorem dX12_rule_290 : decode cX12_rule 290 = .ok (.iload_n 1, 1) := by decide +kernel
theorem dX12_rule_291 : decode cX12_rule 291 = .ok (.invokevirtual 633, 3) := by decide +kernel
theorem dX12_rule_294 : decode cX12_rule 294 = .ok (.ireturn, 1) := by decide +kernel
theorem dX12_rule8_0 : decode cX12_rule8 0 = .ok (.aload_n 0, 1) := by decide +kernel
theorem dX12_rule8_1 : decode cX12_rule8 1 = .ok (.getfield 330, 3) := by decide +kernel
theorem dX12_rule8_4 : decode cX12_rule8 4 = .ok (.iload_n 1, 1) := by decide +kernel
theorem dX12_rule8_5 : decode cX12_rule8 5 = .ok (.baload, 1) := by decide +kernel
theorem dX12_rule8_6 : decode cX12_rule8 6 = .ok (.ifCond .ne 24, 3) := by decide +kernel
theorem dX12_rule8_9 : decode cX12_rule8 9 = .ok (.aload_n 0, 1) := by decide +kernel
theorem dX12_rule8_10 : decode cX12_rule8 10 = .ok (.iconst 1, 1) := by decide +kernel
theorem dX12_rule8_11 : decode cX12_rule8 11 = .ok (.iload_n 1, 1) := by decide +kernel
theorem dX12_rule8_12 : decode cX12_rule8 12 = .ok (.aload_n 0, 1) := by decide +kernel
theorem dX12_rule8_13 : decode cX12_rule8 13 = .ok (.getfield 312, 3) := by decide +kernel
theorem dX12_rule8_16 : decode cX12_rule8 16 = .ok (.iload_n 1, 1) := by decide +kernel
theorem dX12_rule8_17 : decode cX12_rule8 17 = .ok (.iaload, 1) := by decide +kernel
theorem dX12_rule8_18 : decode cX12_rule8 18 = .ok (.iconst 0, 1) := by decide +kernel
theorem dX12_rule8_19 : decode cX12_rule8 19 = .ok (.iconst (-1), 1) := by decide +kernel
theorem dX12_rule8_20 : decode cX12_rule8 20 = .ok (.invokevirtual 600, 3) := by decide +kernel
theorem dX12_rule8_23 : decode cX12_rule8 23 = .ok (.aload_n 0, 1) := by decide +kernel
theorem dX12_rule8_24 : decode cX12_rule8 24 = .ok (.invokevirtual 603, 3) := by decide +kernel
theorem dX12_rule8_27 : decode cX12_rule8 27 = .ok (.if_icmp .ge 5, 3) := by decide +kernel
theorem dX12_rule8_30 : decode cX12_rule8 30 = .ok (.iconst 0, 1) := by decide +kernel
theorem dX12_rule8_31 : decode cX12_rule8 31 = .ok (.ireturn, 1) := by decide +kernel
theorem dX12_rule8_32 : decode cX12_rule8 32 = .ok (.aload_n 0, 1) := by decide +kernel
theorem dX12_rule8_33 : decode cX12_rule8 33 = .ok (.getfield 330, 3) := by decide +kernel
theorem dX12_rule8_36 : decode cX12_rule8 36 = .ok (.iload_n 1, 1) := by decide +kernel
theorem dX12_rule8_37 : decode cX12_rule8 37 = .ok (.iconst 1, 1) := by decide +kernel
theorem dX12_rule8_38 : decode cX12_rule8 38 = .ok (.bastore, 1) := by decide +kernel
theorem dX12_rule8_39 : decode cX12_rule8 39 = .ok (.aload_n 0, 1) := by decide +kernel
theorem dX12_rule8_40 : decode cX12_rule8 40 = .ok (.iload_n 1, 1) := by decide +kernel
theorem dX12_rule8_41 : decode cX12_rule8 41 = .ok (.iconst 2, 1) := by decide +kernel
theorem dX12_rule8_42 : decode cX12_rule8 42 = .ok (.invokevirtual 572, 3) := by decide +kernel
theorem dX12_rule8_45 : decode cX12_rule8 45 = .ok (.iconst 1, 1) := by decide +kernel
theorem dX12_rule8_46 : decode cX12_rule8 46 = .ok (.ireturn, 1) := by decide +kernel
theorem dX12_rule5_0 : decode cX12_rule5 0 = .ok (.aload_n 0, 1) := by decide +kernel
theorem dX12_rule5_1 : decode cX12_rule5 1 = .ok (.getfield 324, 3) := by decide +kernel
theorem dX12_rule5_4 : decode cX12_rule5 4 = .ok (.iload_n 1, 1) := by decide +kernel
theorem dX12_rule5_5 : decode cX12_rule5 5 = .ok (.iconst 1, 1) := by decide +kernel
theorem dX12_rule5_6 : decode cX12_rule5 6 = .ok (.bastore, 1) := by decide +kernel
theorem dX12_rule5_7 : decode cX12_rule5 7 = .ok (.aload_n 0, 1) := by decide +kernel
theorem dX12_rule5_8 : decode cX12_rule5 8 = .ok (.getfield 315, 3) := by decide +kernel
theorem dX12_rule5_11 : decode cX12_rule5 11 = .ok (.iload_n 1, 1) := by decide +kernel
theorem dX12_rule5_12 : decode cX12_rule5 12 = .ok (.iaload, 1) := by decide +kernel
theorem dX12_rule5_13 : decode cX12_rule5 13 = .ok (.iconst 2, 1) := by decide +kernel
theorem dX12_rule5_14 : decode cX12_rule5 14 = .ok (.if_icmp .ne 69, 3) := by decide +kernel
theorem dX12_rule5_17 : decode cX12_rule5 17 = .ok (.aload_n 0, 1) := by decide +kernel
theorem dX12_rule5_18 : decode cX12_rule5 18 = .ok (.getfield 321, 3) := by decide +kernel
theorem dX12_rule5_21 : decode cX12_rule5 21 = .ok (.iload_n 1, 1) := by decide +kernel
theorem dX12_rule5_22 : decode cX12_rule5 22 = .ok (.iaload, 1) := by decide +kernel
theorem dX12_rule5_23 : decode cX12_rule5 23 = .ok (.aload_n 0, 1) := by decide +kernel
theorem dX12_rule5_24 : decode cX12_rule5 24 = .ok (.getfield 312, 3) := by decide +kernel
theorem dX12_rule5_27 : decode cX12_rule5 27 = .ok (.iload_n 1, 1) := by decide +kernel
theorem dX12_rule5_28 : decode cX12_rule5 28 = .ok (.iaload, 1) := by decide +kernel
theorem dX12_rule5_29 : decode cX12_rule5 29 = .ok (.if_icmp .ne 18, 3) := by decide +kernel
theorem dX12_rule5_32 : decode cX12_rule5 32 = .ok (.aload_n 0, 1) := by decide +kernel
theorem dX12_rule5_33 : decode cX12_rule5 33 = .ok (.iload_n 2, 1) := by decide +kernel
theorem dX12_rule5_34 : decode cX12_rule5 34 = .ok (.sipush 1131, 3) := by decide +kernel
theorem dX12_rule5_37 : decode cX12_rule5 37 = .ok (.iload_n 1, 1) := by decide +kernel
theorem dX12_rule5_38 : decode cX12_rule5 38 = .ok (.iadd, 1) := by decide +kernel
theorem dX12_rule5_39 : decode cX12_rule5 39 = .ok (.invokevirtual 594, 3) := by decide +kernel
theorem dX12_rule5_42 : decode cX12_rule5 42 = .ok (.ifCond .eq 5, 3) := by decide +kernel
theorem dX12_rule5_45 : decode cX12_rule5 45 = .ok (.iconst 1, 1) := by decide +kernel
theorem dX12_rule5_46 : decode cX12_rule5 46 = .ok (.ireturn, 1) := by decide +kernel
theorem dX12_rule5_47 : decode cX12_rule5 47 = .ok (.aload_n 0, 1) := by decide +kernel
theorem dX12_rule5_48 : decode cX12_rule5 48 = .ok (.iload_n 1, 1) := by decide +kernel
theorem dX12_rule5_49 : decode cX12_rule5 49 = .ok (.iconst 5, 1) := by decide +kernel
theorem dX12_rule5_50 : decode cX12_rule5 50 = .ok (.iload_n 2, 1) := by decide +kernel
theorem dX12_rule5_51 : decode cX12_rule5 51 = .ok (.invokevirtual 643, 3) := by decide +kernel
theorem dX12_rule5_54 : decode cX12_rule5 54 = .ok (.ifCond .ne 5, 3) := by decide +kernel
theorem dX12_rule5_57 : decode cX12_rule5 57 = .ok (.iconst 0, 1) := by decide +kernel
theorem dX12_rule5_58 : decode cX12_rule5 58 = .ok (.ireturn, 1) := by decide +kernel
theorem dX12_rule5_59 : decode cX12_rule5 59 = .ok (.aload_n 0, 1) := by decide +kernel
theorem dX12_rule5_60 : decode cX12_rule5 60 = .ok (.iload_n 2, 1) := by decide +kernel
theorem dX12_rule5_61 : decode cX12_rule5 61 = .ok (.sipush 1131, 3) := by decide +kernel
theorem dX12_rule5_64 : decode cX12_rule5 64 = .ok (.iload_n 1, 1) := by decide +kernel
theorem dX12_rule5_65 : decode cX12_rule5 65 = .ok (.iadd, 1) := by decide +kernel
theorem dX12_rule5_66 : decode cX12_rule5 66 = .ok (.invokevirtual 507, 3) := by decide +kernel
theorem dX12_rule5_69 : decode cX12_rule5 69 = .ok (.aload_n 0, 1) := by decide +kernel
theorem dX12_rule5_70 : decode cX12_rule5 70 = .ok (.getfield 321, 3) := by decide +kernel
theorem dX12_rule5_73 : decode cX12_rule5 73 = .ok (.iload_n 1, 1) := by decide +kernel
theorem dX12_rule5_74 : decode cX12_rule5 74 = .ok (.aload_n 0, 1) := by decide +kernel
theorem dX12_rule5_75 : decode cX12_rule5 75 = .ok (.getfield 312, 3) := by decide +kernel
theorem dX12_rule5_78 : decode cX12_rule5 78 = .ok (.iload_n 1, 1) := by decide +kernel
theorem dX12_rule5_79 : decode cX12_rule5 79 = .ok (.iaload, 1) := by decide +kernel
theorem dX12_rule5_80 : decode cX12_rule5 80 = .ok (.iastore, 1) := by decide +kernel
theorem dX12_rule5_81 : decode cX12_rule5 81 = .ok (.iconst 1, 1) := by decide +kernel
theorem dX12_rule5_82 : decode cX12_rule5 82 = .ok (.ireturn, 1) := by decide +kernel
theorem dX12_rule5_83 : decode cX12_rule5 83 = .ok (.aload_n 0, 1) := by decide +kernel
theorem dX12_rule5_84 : decode cX12_rule5 84 = .ok (.getfield 318, 3) := by decide +kernel
theorem dX12_rule5_87 : decode cX12_rule5 87 = .ok (.iload_n 1, 1) := by decide +kernel
theorem dX12_rule5_88 : decode cX12_rule5 88 = .ok (.iaload, 1) := by decide +kernel
theorem dX12_rule5_89 : decode cX12_rule5 89 = .ok (.aload_n 0, 1) := by decide +kernel
theorem dX12_rule5_90 : decode cX12_rule5 90 = .ok (.getfield 312, 3) := by decide +kernel
theorem dX12_rule5_93 : decode cX12_rule5 93 = .ok (.iload_n 1, 1) := by decide +kernel
theorem dX12_rule5_94 : decode cX12_rule5 94 = .ok (.iaload, 1) := by decide +kernel
theorem dX12_rule5_95 : decode cX12_rule5 95 = .ok (.if_icmp .eq 59, 3) := by decide +kernel
theorem dX12_rule5_98 : decode cX12_rule5 98 = .ok (.aload_n 0, 1) := by decide +kernel
theorem dX12_rule5_99 : decode cX12_rule5 99 = .ok (.iload_n 1, 1) := by decide +kernel
theorem dX12_rule5_100 : decode cX12_rule5 100 = .ok (.iconst 4, 1) := by decide +kernel
theorem dX12_rule5_101 : decode cX12_rule5 101 = .ok (.iload_n 2, 1) := by decide +kernel
theorem dX12_rule5_102 : decode cX12_rule5 102 = .ok (.invokevirtual 643, 3) := by decide +kernel
theorem dX12_rule5_105 : decode cX12_rule5 105 = .ok (.ifCond .ne 5, 3) := by decide +kernel
theorem dX12_rule5_108 : decode cX12_rule5 108 = .ok (.iconst 0, 1) := by decide +kernel
theorem dX12_rule5_109 : decode cX12_rule5 109 = .ok (.ireturn, 1) := by decide +kernel
theorem dX12_rule5_110 : decode cX12_rule5 110 = .ok (.aload_n 0, 1) := by decide +kernel
theorem dX12_rule5_111 : decode cX12_rule5 111 = .ok (.iload_n 2, 1) := by decide +kernel
theorem dX12_rule5_112 : decode cX12_rule5 112 = .ok (.sipush 1118, 3) := by decide +kernel
theorem dX12_rule5_115 : decode cX12_rule5 115 = .ok (.iload_n 1, 1) := by decide +kernel
theorem dX12_rule5_116 : decode cX12_rule5 116 = .ok (.iadd, 1) := by decide +kernel
theorem dX12_rule5_117 : decode cX12_rule5 117 = .ok (.invokevirtual 507, 3) := by decide +kernel
theorem dX12_rule5_120 : decode cX12_rule5 120 = .ok (.aload_n 0, 1) := by decide +kernel
theorem dX12_rule5_121 : decode cX12_rule5 121 = .ok (.iload_n 2, 1) := by decide +kernel
theorem dX12_rule5_122 : decode cX12_rule5 122 = .ok (.sipush 1131, 3) := by decide +kernel
theorem dX12_rule5_125 : decode cX12_rule5 125 = .ok (.iload_n 1, 1) := by decide +kernel
theorem dX12_rule5_126 : decode cX12_rule5 126 = .ok (.iadd, 1) := by decide +kernel
theorem dX12_rule5_127 : decode cX12_rule5 127 = .ok (.invokevirtual 507, 3) := by decide +kernel
theorem dX12_rule5_130 : decode cX12_rule5 130 = .ok (.aload_n 0, 1) := by decide +kernel
theorem dX12_rule5_131 : decode cX12_rule5 131 = .ok (.getfield 318, 3) := by decide +kernel
theorem dX12_rule5_134 : decode cX12_rule5 134 = .ok (.iload_n 1, 1) := by decide +kernel
theorem dX12_rule5_135 : decode cX12_rule5 135 = .ok (.aload_n 0, 1) := by decide +kernel
theorem dX12_rule5_136 : decode cX12_rule5 136 = .ok (.getfield 312, 3) := by decide +kernel
theorem dX12_rule5_139 : decode cX12_rule5 139 = .ok (.iload_n 1, 1) := by decide +kernel
theorem dX12_rule5_140 : decode cX12_rule5 140 = .ok (.iaload, 1) := by decide +kernel
theorem dX12_rule5_141 : decode cX12_rule5 141 = .ok (.iastore, 1) := by decide +kernel
theorem dX12_rule5_142 : decode cX12_rule5 142 = .ok (.aload_n 0, 1) := by decide +kernel
theorem dX12_rule5_143 : decode cX12_rule5 143 = .ok (.getfield 321, 3) := by decide +kernel
theorem dX12_rule5_146 : decode cX12_rule5 146 = .ok (.iload_n 1, 1) := by decide +kernel
theorem dX12_rule5_147 : decode cX12_rule5 147 = .ok (.aload_n 0, 1) := by decide +kernel
theorem dX12_rule5_148 : decode cX12_rule5 148 = .ok (.getfield 312, 3) := by decide +kernel
theorem dX12_rule5_151 : decode cX12_rule5 151 = .ok (.iload_n 1, 1) := by decide +kernel
theorem dX12_rule5_152 : decode cX12_rule5 152 = .ok (.iaload, 1) := by decide +kernel
theorem dX12_rule5_153 : decode cX12_rule5 153 = .ok (.iastore, 1) := by decide +kernel
theorem dX12_rule5_154 : decode cX12_rule5 154 = .ok (.aload_n 0, 1) := by decide +kernel
theorem dX12_rule5_155 : decode cX12_rule5 155 = .ok (.iload_n 1, 1) := by decide +kernel
theorem dX12_rule5_156 : decode cX12_rule5 156 = .ok (.iconst 3, 1) := by decide +kernel
theorem dX12_rule5_157 : decode cX12_rule5 157 = .ok (.iload_n 2, 1) := by decide +kernel
theorem dX12_rule5_158 : decode cX12_rule5 158 = .ok (.iconst 2, 1) := by decide +kernel
theorem dX12_rule5_159 : decode cX12_rule5 159 = .ok (.invokevirtual 639, 3) := by decide +kernel
theorem dX12_rule5_162 : decode cX12_rule5 162 = .ok (.ireturn, 1) := by decide +kernel
theorem dX12_mayVote_0 : decode cX12_mayVote 0 = .ok (.aload_n 0, 1) := by decide +kernel
theorem dX12_mayVote_1 : decode cX12_mayVote 1 = .ok (.getfield 354, 3) := by decide +kernel
theorem dX12_mayVote_4 : decode cX12_mayVote 4 = .ok (.iload_n 2, 1) := by decide +kernel
theorem dX12_mayVote_5 : decode cX12_mayVote 5 = .ok (.iconst 0, 1) := by decide +kernel
theorem dX12_mayVote_6 : decode cX12_mayVote 6 = .ok (.isub, 1) := by decide +kernel
theorem dX12_mayVote_7 : decode cX12_mayVote 7 = .ok (.iaload, 1) := by decide +kernel
theorem dX12_mayVote_8 : decode cX12_mayVote 8 = .ok (.istore_n 3, 1) := by decide +kernel
theorem dX12_mayVote_9 : decode cX12_mayVote 9 = .ok (.iload_n 3, 1) := by decide +kernel
theorem dX12_mayVote_10 : decode cX12_mayVote 10 = .ok (.iconst (-1), 1) := by decide +kernel
theorem dX12_mayVote_11 : decode cX12_mayVote 11 = .ok (.if_icmp .eq 29, 3) := by decide +kernel
theorem dX12_mayVote_14 : decode cX12_mayVote 14 = .ok (.iload_n 3, 1) := by decide +kernel
theorem dX12_mayVote_15 : decode cX12_mayVote 15 = .ok (.aload_n 0, 1) := by decide +kernel
theorem dX12_mayVote_16 : decode cX12_mayVote 16 = .ok (.getfield 312, 3) := by decide +kernel
theorem dX12_mayVote_19 : decode cX12_mayVote 19 = .ok (.iload_n 1, 1) := by decide +kernel
theorem dX12_mayVote_20 : decode cX12_mayVote 20 = .ok (.iaload, 1) := by decide +kernel
theorem dX12_mayVote_21 : decode cX12_mayVote 21 = .ok (.if_icmp .ge 23, 3) := by decide +kernel
theorem dX12_mayVote_24 : decode cX12_mayVote 24 = .ok (.aload_n 0, 1) := by decide +kernel
theorem dX12_mayVote_25 : decode cX12_mayVote 25 = .ok (.iconst 0, 1) := by decide +kernel
theorem dX12_mayVote_26 : decode cX12_mayVote 26 = .ok (.iload_n 1, 1) := by decide +kernel
theorem dX12_mayVote_27 : decode cX12_mayVote 27 = .ok (.iload_n 3, 1) := by decide +kernel
theorem dX12_mayVote_28 : decode cX12_mayVote 28 = .ok (.iconst 2, 1) := by decide +kernel
theorem dX12_mayVote_29 : decode cX12_mayVote 29 = .ok (.iload_n 2, 1) := by decide +kernel
theorem dX12_mayVote_30 : decode cX12_mayVote 30 = .ok (.invokevirtual 600, 3) := by decide +kernel
theorem dX12_mayVote_33 : decode cX12_mayVote 33 = .ok (.aload_n 0, 1) := by decide +kernel
theorem dX12_mayVote_34 : decode cX12_mayVote 34 = .ok (.invokevirtual 603, 3) := by decide +kernel
theorem dX12_mayVote_37 : decode cX12_mayVote 37 = .ok (.if_icmp .lt 7, 3) := by decide +kernel
theorem dX12_mayVote_40 : decode cX12_mayVote 40 = .ok (.iconst 1, 1) := by decide +kernel
theorem dX12_mayVote_41 : decode cX12_mayVote 41 = .ok (.goto 4, 3) := by decide +kernel
theorem dX12_mayVote_44 : decode cX12_mayVote 44 = .ok (.iconst 0, 1) := by decide +kernel
theorem dX12_mayVote_45 : decode cX12_mayVote 45 = .ok (.ireturn, 1) := by decide +kernel
theorem dX12_prevote_0 : decode cX12_prevote 0 = .ok (.aload_n 0, 1) := by decide +kernel
theorem dX12_prevote_1 : decode cX12_prevote 1 = .ok (.getfield 354, 3) := by decide +kernel
theorem dX12_prevote_4 : decode cX12_prevote 4 = .ok (.iload_n 2, 1) := by decide +kernel
theorem dX12_prevote_5 : decode cX12_prevote 5 = .ok (.iconst 0, 1) := by decide +kernel
theorem dX12_prevote_6 : decode cX12_prevote 6 = .ok (.isub, 1) := by decide +kernel
theorem dX12_prevote_7 : decode cX12_prevote 7 = .ok (.iaload, 1) := by decide +kernel
theorem dX12_prevote_8 : decode cX12_prevote 8 = .ok (.istore_n 3, 1) := by decide +kernel
theorem dX12_prevote_9 : decode cX12_prevote 9 = .ok (.iload_n 3, 1) := by decide +kernel
theorem dX12_prevote_10 : decode cX12_prevote 10 = .ok (.iconst (-1), 1) := by decide +kernel
theorem dX12_prevote_11 : decode cX12_prevote 11 = .ok (.if_icmp .ne 23, 3) := by decide +kernel
theorem dX12_prevote_14 : decode cX12_prevote 14 = .ok (.aload_n 0, 1) := by decide +kernel
theorem dX12_prevote_15 : decode cX12_prevote 15 = .ok (.sipush 1118, 3) := by decide +kernel
theorem dX12_prevote_18 : decode cX12_prevote 18 = .ok (.iload_n 1, 1) := by decide +kernel
theorem dX12_prevote_19 : decode cX12_prevote 19 = .ok (.iadd, 1) := by decide +kernel
theorem dX12_prevote_20 : decode cX12_prevote 20 = .ok (.invokevirtual 63, 3) := by decide +kernel
theorem dX12_prevote_23 : decode cX12_prevote 23 = .ok (.ifCond .ne 7, 3) := by decide +kernel
theorem dX12_prevote_26 : decode cX12_prevote 26 = .ok (.iconst 1, 1) := by decide +kernel
theorem dX12_prevote_27 : decode cX12_prevote 27 = .ok (.goto 22, 3) := by decide +kernel
theorem dX12_prevote_30 : decode cX12_prevote 30 = .ok (.iconst 0, 1) := by decide +kernel
theorem dX12_prevote_31 : decode cX12_prevote 31 = .ok (.goto 18, 3) := by decide +kernel
theorem dX12_prevote_34 : decode cX12_prevote 34 = .ok (.aload_n 0, 1) := by decide +kernel
theorem dX12_prevote_35 : decode cX12_prevote 35 = .ok (.getfield 318, 3) := by decide +kernel
theorem dX12_prevote_38 : decode cX12_prevote 38 = .ok (.iload_n 1, 1) := by decide +kernel
theorem dX12_prevote_39 : decode cX12_prevote 39 = .ok (.iaload, 1) := by decide +kernel
theorem dX12_prevote_40 : decode cX12_prevote 40 = .ok (.iload_n 3, 1) := by decide +kernel
theorem dX12_prevote_41 : decode cX12_prevote 41 = .ok (.if_icmp .gt 7, 3) := by decide +kernel
theorem dX12_prevote_44 : decode cX12_prevote 44 = .ok (.iconst 1, 1) := by decide +kernel
theorem dX12_prevote_45 : decode cX12_prevote 45 = .ok (.goto 4, 3) := by decide +kernel
theorem dX12_prevote_48 : decode cX12_prevote 48 = .ok (.iconst 0, 1) := by decide +kernel
theorem dX12_prevote_49 : decode cX12_prevote 49 = .ok (.istore 4, 2) := by decide +kernel
theorem dX12_prevote_51 : decode cX12_prevote 51 = .ok (.iload 4, 2) := by decide +kernel
theorem dX12_prevote_53 : decode cX12_prevote 53 = .ok (.ifCond .ne 16, 3) := by decide +kernel
theorem dX12_prevote_56 : decode cX12_prevote 56 = .ok (.aload_n 0, 1) := by decide +kernel
theorem dX12_prevote_57 : decode cX12_prevote 57 = .ok (.iload_n 2, 1) := by decide +kernel
theorem dX12_prevote_58 : decode cX12_prevote 58 = .ok (.sipush 1118, 3) := by decide +kernel
theorem dX12_prevote_61 : decode cX12_prevote 61 = .ok (.iload_n 1, 1) := by decide +kernel
theorem dX12_prevote_62 : decode cX12_prevote 62 = .ok (.iadd, 1) := by decide +kernel
theorem dX12_prevote_63 : decode cX12_prevote 63 = .ok (.invokevirtual 594, 3) := by decide +kernel
theorem dX12_prevote_66 : decode cX12_prevote 66 = .ok (.ifCond .eq 16, 3) := by decide +kernel
theorem dX12_prevote_69 : decode cX12_prevote 69 = .ok (.aload_n 0, 1) := by decide +kernel
theorem dX12_prevote_70 : decode cX12_prevote 70 = .ok (.iload_n 1, 1) := by decide +kernel
theorem dX12_prevote_71 : decode cX12_prevote 71 = .ok (.iload_n 2, 1) := by decide +kernel
theorem dX12_prevote_72 : decode cX12_prevote 72 = .ok (.invokevirtual 597, 3) := by decide +kernel
theorem dX12_prevote_75 : decode cX12_prevote 75 = .ok (.ifCond .eq 7, 3) := by decide +kernel
theorem dX12_prevote_78 : decode cX12_prevote 78 = .ok (.iconst 1, 1) := by decide +kernel
theorem dX12_prevote_79 : decode cX12_prevote 79 = .ok (.goto 4, 3) := by decide +kernel
theorem dX12_prevote_82 : decode cX12_prevote 82 = .ok (.iconst 0, 1) := by decide +kernel
theorem dX12_prevote_83 : decode cX12_prevote 83 = .ok (.istore 5, 2) := by decide +kernel
theorem dX12_prevote_85 : decode cX12_prevote 85 = .ok (.aload_n 0, 1) := by decide +kernel
theorem dX12_prevote_86 : decode cX12_prevote 86 = .ok (.iload_n 1, 1) := by decide +kernel
theorem dX12_prevote_87 : decode cX12_prevote 87 = .ok (.iconst 2, 1) := by decide +kernel
theorem dX12_prevote_88 : decode cX12_prevote 88 = .ok (.iload 5, 2) := by decide +kernel
theorem dX12_prevote_90 : decode cX12_prevote 90 = .ok (.ifCond .eq 7, 3) := by decide +kernel
theorem dX12_prevote_93 : decode cX12_prevote 93 = .ok (.iload_n 2, 1) := by decide +kernel
theorem dX12_prevote_94 : decode cX12_prevote 94 = .ok (.goto 4, 3) := by decide +kernel
theorem dX12_prevote_97 : decode cX12_prevote 97 = .ok (.iconst (-1), 1) := by decide +kernel
theorem dX12_prevote_98 : decode cX12_prevote 98 = .ok (.iconst 1, 1) := by decide +kernel
theorem dX12_prevote_99 : decode cX12_prevote 99 = .ok (.invokevirtual 639, 3) := by decide +kernel
theorem dX12_prevote_102 : decode cX12_prevote 102 = .ok (.ireturn, 1) := by decide +kernel
theorem dX12_rules_0 : decode cX12_rules 0 = .ok (.aload_n 0, 1) := by decide +kernel
theorem dX12_rules_1 : decode cX12_rules 1 = .ok (.getfield 305, 3) := by decide +kernel
theorem dX12_rules_4 : decode cX12_rules 4 = .ok (.iload_n 1, 1) := by decide +kernel
theorem dX12_rules_5 : decode cX12_rules 5 = .ok (.baload, 1) := by decide +kernel
theorem dX12_rules_6 : decode cX12_rules 6 = .ok (.ifCond .eq 18, 3) := by decide +kernel
theorem dX12_rules_9 : decode cX12_rules 9 = .ok (.aload_n 0, 1) := by decide +kernel
theorem dX12_rules_10 : decode cX12_rules 10 = .ok (.getfield 309, 3) := by decide +kernel
theorem dX12_rules_13 : decode cX12_rules 13 = .ok (.iload_n 1, 1) := by decide +kernel
theorem dX12_rules_14 : decode cX12_rules 14 = .ok (.iaload, 1) := by decide +kernel
theorem dX12_rules_15 : decode cX12_rules 15 = .ok (.bipush 40, 2) := by decide +kernel
theorem dX12_rules_17 : decode cX12_rules 17 = .ok (.if_icmp .gt 7, 3) := by decide +kernel
theorem dX12_rules_20 : decode cX12_rules 20 = .ok (.iconst 1, 1) := by decide +kernel
theorem dX12_rules_21 : decode cX12_rules 21 = .ok (.goto 4, 3) := by decide +kernel
theorem dX12_rules_24 : decode cX12_rules 24 = .ok (.iconst 0, 1) := by decide +kernel
theorem dX12_rules_25 : decode cX12_rules 25 = .ok (.istore_n 2, 1) := by decide +kernel
theorem dX12_rules_26 : decode cX12_rules 26 = .ok (.iload_n 2, 1) := by decide +kernel
theorem dX12_rules_27 : decode cX12_rules 27 = .ok (.ifCond .eq 31, 3) := by decide +kernel
theorem dX12_rules_30 : decode cX12_rules 30 = .ok (.aload_n 0, 1) := by decide +kernel
theorem dX12_rules_31 : decode cX12_rules 31 = .ok (.iload_n 1, 1) := by decide +kernel
theorem dX12_rules_32 : decode cX12_rules 32 = .ok (.invokevirtual 646, 3) := by decide +kernel
theorem dX12_rules_35 : decode cX12_rules 35 = .ok (.ifCond .eq 18, 3) := by decide +kernel
theorem dX12_rules_38 : decode cX12_rules 38 = .ok (.aload_n 0, 1) := by decide +kernel
theorem dX12_rules_39 : decode cX12_rules 39 = .ok (.getfield 309, 3) := by decide +kernel
theorem dX12_rules_42 : decode cX12_rules 42 = .ok (.iload_n 1, 1) := by decide +kernel
theorem dX12_rules_43 : decode cX12_rules 43 = .ok (.iaload, 1) := by decide +kernel
theorem dX12_rules_44 : decode cX12_rules 44 = .ok (.bipush 40, 2) := by decide +kernel
theorem dX12_rules_46 : decode cX12_rules 46 = .ok (.if_icmp .gt 7, 3) := by decide +kernel
theorem dX12_rules_49 : decode cX12_rules 49 = .ok (.iconst 1, 1) := by decide +kernel
theorem dX12_rules_50 : decode cX12_rules 50 = .ok (.goto 4, 3) := by decide +kernel
theorem dX12_rules_53 : decode cX12_rules 53 = .ok (.iconst 0, 1) := by decide +kernel
theorem dX12_rules_54 : decode cX12_rules 54 = .ok (.istore_n 2, 1) := by decide +kernel
theorem dX12_rules_55 : decode cX12_rules 55 = .ok (.goto (-29), 3) := by decide +kernel
theorem dX12_rules_58 : decode cX12_rules 58 = .ok (.return_, 1) := by decide +kernel
theorem dX12_come_0 : decode cX12_come 0 = .ok (.aload_n 0, 1) := by decide +kernel
theorem dX12_come_1 : decode cX12_come 1 = .ok (.invokevirtual 649, 3) := by decide +kernel
theorem dX12_come_4 : decode cX12_come 4 = .ok (.ifCond .ne 4, 3) := by decide +kernel
theorem dX12_come_7 : decode cX12_come 7 = .ok (.return_, 1) := by decide +kernel
theorem dX12_come_8 : decode cX12_come 8 = .ok (.aload_n 0, 1) := by decide +kernel
theorem dX12_come_9 : decode cX12_come 9 = .ok (.getfield 282, 3) := by decide +kernel
theorem dX12_come_12 : decode cX12_come 12 = .ok (.ifCond .ne 73, 3) := by decide +kernel
theorem dX12_come_15 : decode cX12_come 15 = .ok (.aload_n 0, 1) := by decide +kernel
theorem dX12_come_16 : decode cX12_come 16 = .ok (.iload_n 1, 1) := by decide +kernel
theorem dX12_come_17 : decode cX12_come 17 = .ok (.aload_n 0, 1) := by decide +kernel
theorem dX12_come_18 : decode cX12_come 18 = .ok (.getfield 204, 3) := by decide +kernel
theorem dX12_come_21 : decode cX12_come 21 = .ok (.iconst 1, 1) := by decide +kernel
theorem dX12_come_22 : decode cX12_come 22 = .ok (.iaload, 1) := by decide +kernel
theorem dX12_come_23 : decode cX12_come 23 = .ok (.aload_n 0, 1) := by decide +kernel
theorem dX12_come_24 : decode cX12_come 24 = .ok (.getfield 204, 3) := by decide +kernel
theorem dX12_come_27 : decode cX12_come 27 = .ok (.iconst 2, 1) := by decide +kernel
theorem dX12_come_28 : decode cX12_come 28 = .ok (.iaload, 1) := by decide +kernel
theorem dX12_come_29 : decode cX12_come 29 = .ok (.aload_n 0, 1) := by decide +kernel
theorem dX12_come_30 : decode cX12_come 30 = .ok (.getfield 204, 3) := by decide +kernel
theorem dX12_come_33 : decode cX12_come 33 = .ok (.iconst 3, 1) := by decide +kernel
theorem dX12_come_34 : decode cX12_come 34 = .ok (.iaload, 1) := by decide +kernel
theorem dX12_come_35 : decode cX12_come 35 = .ok (.bipush 8, 2) := by decide +kernel
theorem dX12_come_37 : decode cX12_come 37 = .ok (.ishl, 1) := by decide +kernel
theorem dX12_come_38 : decode cX12_come 38 = .ok (.aload_n 0, 1) := by decide +kernel
theorem dX12_come_39 : decode cX12_come 39 = .ok (.getfield 204, 3) := by decide +kernel
theorem dX12_come_42 : decode cX12_come 42 = .ok (.iconst 4, 1) := by decide +kernel
theorem dX12_come_43 : decode cX12_come 43 = .ok (.iaload, 1) := by decide +kernel
theorem dX12_come_44 : decode cX12_come 44 = .ok (.ior, 1) := by decide +kernel
theorem dX12_come_45 : decode cX12_come 45 = .ok (.aload_n 0, 1) := by decide +kernel
theorem dX12_come_46 : decode cX12_come 46 = .ok (.getfield 204, 3) := by decide +kernel
theorem dX12_come_49 : decode cX12_come 49 = .ok (.iconst 5, 1) := by decide +kernel
theorem dX12_come_50 : decode cX12_come 50 = .ok (.iaload, 1) := by decide +kernel
theorem dX12_come_51 : decode cX12_come 51 = .ok (.bipush 8, 2) := by decide +kernel
theorem dX12_come_53 : decode cX12_come 53 = .ok (.ishl, 1) := by decide +kernel
theorem dX12_come_54 : decode cX12_come 54 = .ok (.aload_n 0, 1) := by decide +kernel
theorem dX12_come_55 : decode cX12_come 55 = .ok (.getfield 204, 3) := by decide +kernel
theorem dX12_come_58 : decode cX12_come 58 = .ok (.bipush 6, 2) := by decide +kernel
theorem dX12_come_60 : decode cX12_come 60 = .ok (.iaload, 1) := by decide +kernel
theorem dX12_come_61 : decode cX12_come 61 = .ok (.ior, 1) := by decide +kernel
theorem dX12_come_62 : decode cX12_come 62 = .ok (.aload_n 0, 1) := by decide +kernel
theorem dX12_come_63 : decode cX12_come 63 = .ok (.getfield 204, 3) := by decide +kernel
theorem dX12_come_66 : decode cX12_come 66 = .ok (.bipush 7, 2) := by decide +kernel
theorem dX12_come_68 : decode cX12_come 68 = .ok (.iaload, 1) := by decide +kernel
theorem dX12_come_69 : decode cX12_come 69 = .ok (.invokevirtual 652, 3) := by decide +kernel
theorem dX12_come_72 : decode cX12_come 72 = .ok (.ifCond .eq 156, 3) := by decide +kernel
theorem dX12_come_75 : decode cX12_come 75 = .ok (.aload_n 0, 1) := by decide +kernel
theorem dX12_come_76 : decode cX12_come 76 = .ok (.iload_n 1, 1) := by decide +kernel
theorem dX12_come_77 : decode cX12_come 77 = .ok (.iload_n 2, 1) := by decide +kernel
theorem dX12_come_78 : decode cX12_come 78 = .ok (.iconst (-1), 1) := by decide +kernel
theorem dX12_come_79 : decode cX12_come 79 = .ok (.invokevirtual 655, 3) := by decide +kernel
theorem dX12_come_82 : decode cX12_come 82 = .ok (.goto 146, 3) := by decide +kernel
theorem dX12_come_85 : decode cX12_come 85 = .ok (.aload_n 0, 1) := by decide +kernel
theorem dX12_come_86 : decode cX12_come 86 = .ok (.getfield 282, 3) := by decide +kernel
theorem dX12_come_89 : decode cX12_come 89 = .ok (.bipush 6, 2) := by decide +kernel
theorem dX12_come_91 : decode cX12_come 91 = .ok (.if_icmp .ne 24, 3) := by decide +kernel
theorem dX12_come_94 : decode cX12_come 94 = .ok (.aload_n 0, 1) := by decide +kernel
theorem dX12_come_95 : decode cX12_come 95 = .ok (.iload_n 1, 1) := by decide +kernel
theorem dX12_come_96 : decode cX12_come 96 = .ok (.invokevirtual 658, 3) := by decide +kernel
theorem dX12_come_99 : decode cX12_come 99 = .ok (.ifCond .eq 129, 3) := by decide +kernel
theorem dX12_come_102 : decode cX12_come 102 = .ok (.aload_n 0, 1) := by decide +kernel
theorem dX12_come_103 : decode cX12_come 103 = .ok (.iload_n 1, 1) := by decide +kernel
theorem dX12_come_104 : decode cX12_come 104 = .ok (.iload_n 2, 1) := by decide +kernel
theorem dX12_come_105 : decode cX12_come 105 = .ok (.aload_n 0, 1) := by decide +kernel
theorem dX12_come_106 : decode cX12_come 106 = .ok (.getfield 260, 3) := by decide +kernel
theorem dX12_come_109 : decode cX12_come 109 = .ok (.invokevirtual 655, 3) := by decide +kernel
theorem dX12_come_112 : decode cX12_come 112 = .ok (.goto 116, 3) := by decide +kernel
theorem dX12_come_115 : decode cX12_come 115 = .ok (.aload_n 0, 1) := by decide +kernel
theorem dX12_come_116 : decode cX12_come 116 = .ok (.getfield 282, 3) := by decide +kernel
theorem dX12_come_119 : decode cX12_come 119 = .ok (.bipush 7, 2) := by decide +kernel
theorem dX12_come_121 : decode cX12_come 121 = .ok (.if_icmp .ne 29, 3) := by decide +kernel
theorem dX12_come_124 : decode cX12_come 124 = .ok (.aload_n 0, 1) := by decide +kernel
theorem dX12_come_125 : decode cX12_come 125 = .ok (.getfield 257, 3) := by decide +kernel
theorem dX12_come_128 : decode cX12_come 128 = .ok (.aload_n 0, 1) := by decide +kernel
theorem dX12_come_129 : decode cX12_come 129 = .ok (.getfield 309, 3) := by decide +kernel
theorem dX12_come_132 : decode cX12_come 132 = .ok (.iload_n 1, 1) := by decide +kernel
theorem dX12_come_133 : decode cX12_come 133 = .ok (.iaload, 1) := by decide +kernel
theorem dX12_come_134 : decode cX12_come 134 = .ok (.if_icmp .le 94, 3) := by decide +kernel
theorem dX12_come_137 : decode cX12_come 137 = .ok (.aload_n 0, 1) := by decide +kernel
theorem dX12_come_138 : decode cX12_come 138 = .ok (.bipush 13, 2) := by decide +kernel
theorem dX12_come_140 : decode cX12_come 140 = .ok (.iload_n 1, 1) := by decide +kernel
theorem dX12_come_141 : decode cX12_come 141 = .ok (.imul, 1) := by decide +kernel
theorem dX12_come_142 : decode cX12_come 142 = .ok (.iload_n 2, 1) := by decide +kernel
theorem dX12_come_143 : decode cX12_come 143 = .ok (.iadd, 1) := by decide +kernel
theorem dX12_come_144 : decode cX12_come 144 = .ok (.invokevirtual 661, 3) := by decide +kernel
theorem dX12_come_147 : decode cX12_come 147 = .ok (.goto 81, 3) := by decide +kernel
theorem dX12_come_150 : decode cX12_come 150 = .ok (.aload_n 0, 1) := by decide +kernel
theorem dX12_come_151 : decode cX12_come 151 = .ok (.getfield 257, 3) := by decide +kernel
theorem dX12_come_154 : decode cX12_come 154 = .ok (.aload_n 0, 1) := by decide +kernel
theorem dX12_come_155 : decode cX12_come 155 = .ok (.getfield 309, 3) := by decide +kernel
theorem dX12_come_158 : decode cX12_come 158 = .ok (.iload_n 1, 1) := by decide +kernel
theorem dX12_come_159 : decode cX12_come 159 = .ok (.iaload, 1) := by decide +kernel
theorem dX12_come_160 : decode cX12_come 160 = .ok (.if_icmp .ge 32, 3) := by decide +kernel
theorem dX12_come_163 : decode cX12_come 163 = .ok (.aload_n 0, 1) := by decide +kernel
theorem dX12_come_164 : decode cX12_come 164 = .ok (.getfield 282, 3) := by decide +kernel
theorem dX12_come_167 : decode cX12_come 167 = .ok (.iconst 5, 1) := by decide +kernel
theorem dX12_come_168 : decode cX12_come 168 = .ok (.if_icmp .eq 11, 3) := by decide +kernel
theorem dX12_come_171 : decode cX12_come 171 = .ok (.aload_n 0, 1) := by decide +kernel
theorem dX12_come_172 : decode cX12_come 172 = .ok (.getfield 260, 3) := by decide +kernel
theorem dX12_come_175 : decode cX12_come 175 = .ok (.iload_n 2, 1) := by decide +kernel
theorem dX12_come_176 : decode cX12_come 176 = .ok (.if_icmp .ne 52, 3) := by decide +kernel
theorem dX12_come_179 : decode cX12_come 179 = .ok (.aload_n 0, 1) := by decide +kernel
theorem dX12_come_180 : decode cX12_come 180 = .ok (.iload_n 1, 1) := by decide +kernel
theorem dX12_come_181 : decode cX12_come 181 = .ok (.iload_n 2, 1) := by decide +kernel
theorem dX12_come_182 : decode cX12_come 182 = .ok (.aload_n 0, 1) := by decide +kernel
theorem dX12_come_183 : decode cX12_come 183 = .ok (.getfield 257, 3) := by decide +kernel
theorem dX12_come_186 : decode cX12_come 186 = .ok (.invokevirtual 664, 3) := by decide +kernel
theorem dX12_come_189 : decode cX12_come 189 = .ok (.goto 39, 3) := by decide +kernel
theorem dX12_come_192 : decode cX12_come 192 = .ok (.aload_n 0, 1) := by decide +kernel
theorem dX12_come_193 : decode cX12_come 193 = .ok (.getfield 282, 3) := by decide +kernel
theorem dX12_come_196 : decode cX12_come 196 = .ok (.iconst 5, 1) := by decide +kernel
theorem dX12_come_197 : decode cX12_come 197 = .ok (.if_icmp .ne 25, 3) := by decide +kernel
theorem dX12_come_200 : decode cX12_come 200 = .ok (.aload_n 0, 1) := by decide +kernel
theorem dX12_come_201 : decode cX12_come 201 = .ok (.getfield 257, 3) := by decide +kernel
theorem dX12_come_204 : decode cX12_come 204 = .ok (.aload_n 0, 1) := by decide +kernel
theorem dX12_come_205 : decode cX12_come 205 = .ok (.getfield 309, 3) := by decide +kernel
theorem dX12_come_208 : decode cX12_come 208 = .ok (.iload_n 1, 1) := by decide +kernel
theorem dX12_come_209 : decode cX12_come 209 = .ok (.iaload, 1) := by decide +kernel
theorem dX12_come_210 : decode cX12_come 210 = .ok (.if_icmp .ne 18, 3) := by decide +kernel
theorem dX12_come_213 : decode cX12_come 213 = .ok (.aload_n 0, 1) := by decide +kernel
theorem dX12_come_214 : decode cX12_come 214 = .ok (.iload_n 1, 1) := by decide +kernel
theorem dX12_come_215 : decode cX12_come 215 = .ok (.iload_n 2, 1) := by decide +kernel
theorem dX12_come_216 : decode cX12_come 216 = .ok (.invokevirtual 667, 3) := by decide +kernel
theorem dX12_come_219 : decode cX12_come 219 = .ok (.goto 9, 3) := by decide +kernel
theorem dX12_come_222 : decode cX12_come 222 = .ok (.aload_n 0, 1) := by decide +kernel
theorem dX12_come_223 : decode cX12_come 223 = .ok (.iload_n 1, 1) := by decide +kernel
theorem dX12_come_224 : decode cX12_come 224 = .ok (.iload_n 2, 1) := by decide +kernel
theorem dX12_come_225 : decode cX12_come 225 = .ok (.invokevirtual 670, 3) := by decide +kernel
theorem dX12_come_228 : decode cX12_come 228 = .ok (.aload_n 0, 1) := by decide +kernel
theorem dX12_come_229 : decode cX12_come 229 = .ok (.iload_n 1, 1) := by decide +kernel
theorem dX12_come_230 : decode cX12_come 230 = .ok (.invokevirtual 460, 3) := by decide +kernel
theorem dX12_come_233 : decode cX12_come 233 = .ok (.return_, 1) := by decide +kernel
theorem dX12_keepProof_0 : decode cX12_keepProof 0 = .ok (.bipush 13, 2) := by decide +kernel
theorem dX12_keepProof_2 : decode cX12_keepProof 2 = .ok (.iload_n 1, 1) := by decide +kernel
theorem dX12_keepProof_3 : decode cX12_keepProof 3 = .ok (.imul, 1) := by decide +kernel
theorem dX12_keepProof_4 : decode cX12_keepProof 4 = .ok (.aload_n 0, 1) := by decide +kernel
theorem dX12_keepProof_5 : decode cX12_keepProof 5 = .ok (.getfield 204, 3) := by decide +kernel
theorem dX12_keepProof_8 : decode cX12_keepProof 8 = .ok (.iconst 1, 1) := by decide +kernel
theorem dX12_keepProof_9 : decode cX12_keepProof 9 = .ok (.iaload, 1) := by decide +kernel
theorem dX12_keepProof_10 : decode cX12_keepProof 10 = .ok (.iadd, 1) := by decide +kernel
theorem dX12_keepProof_11 : decode cX12_keepProof 11 = .ok (.istore_n 2, 1) := by decide +kernel
theorem dX12_keepProof_12 : decode cX12_keepProof 12 = .ok (.aload_n 0, 1) := by decide +kernel
theorem dX12_keepProof_13 : decode cX12_keepProof 13 = .ok (.getfield 342, 3) := by decide +kernel
theorem dX12_keepProof_16 : decode cX12_keepProof 16 = .ok (.iload_n 2, 1) := by decide +kernel
theorem dX12_keepProof_17 : decode cX12_keepProof 17 = .ok (.iaload, 1) := by decide +kernel
theorem dX12_keepProof_18 : decode cX12_keepProof 18 = .ok (.ifCond .le 5, 3) := by decide +kernel
theorem dX12_keepProof_21 : decode cX12_keepProof 21 = .ok (.iconst 0, 1) := by decide +kernel
theorem dX12_keepProof_22 : decode cX12_keepProof 22 = .ok (.ireturn, 1) := by decide +kernel
theorem dX12_keepProof_23 : decode cX12_keepProof 23 = .ok (.aload_n 0, 1) := by decide +kernel
theorem dX12_keepProof_24 : decode cX12_keepProof 24 = .ok (.getfield 342, 3) := by decide +kernel
theorem dX12_keepProof_27 : decode cX12_keepProof 27 = .ok (.iload_n 2, 1) := by decide +kernel
theorem dX12_keepProof_28 : decode cX12_keepProof 28 = .ok (.aload_n 0, 1) := by decide +kernel
theorem dX12_keepProof_29 : decode cX12_keepProof 29 = .ok (.getfield 201, 3) := by decide +kernel
theorem dX12_keepProof_32 : decode cX12_keepProof 32 = .ok (.iconst 1, 1) := by decide +kernel
theorem dX12_keepProof_33 : decode cX12_keepProof 33 = .ok (.isub, 1) := by decide +kernel
theorem dX12_keepProof_34 : decode cX12_keepProof 34 = .ok (.iastore, 1) := by decide +kernel
theorem dX12_keepProof_35 : decode cX12_keepProof 35 = .ok (.iconst 1, 1) := by decide +kernel
theorem dX12_keepProof_36 : decode cX12_keepProof 36 = .ok (.istore_n 3, 1) := by decide +kernel
theorem dX12_keepProof_37 : decode cX12_keepProof 37 = .ok (.iload_n 3, 1) := by decide +kernel
theorem dX12_keepProof_38 : decode cX12_keepProof 38 = .ok (.aload_n 0, 1) := by decide +kernel
theorem dX12_keepProof_39 : decode cX12_keepProof 39 = .ok (.getfield 201, 3) := by decide +kernel
theorem dX12_keepProof_42 : decode cX12_keepProof 42 = .ok (.if_icmp .ge 28, 3) := by decide +kernel
theorem dX12_keepProof_45 : decode cX12_keepProof 45 = .ok (.aload_n 0, 1) := by decide +kernel
theorem dX12_keepProof_46 : decode cX12_keepProof 46 = .ok (.getfield 345, 3) := by decide +kernel
theorem dX12_keepProof_49 : decode cX12_keepProof 49 = .ok (.bipush 71, 2) := by decide +kernel
theorem dX12_keepProof_51 : decode cX12_keepProof 51 = .ok (.iload_n 2, 1) := by decide +kernel
theorem dX12_keepProof_52 : decode cX12_keepProof 52 = .ok (.imul, 1) := by decide +kernel
theorem dX12_keepProof_53 : decode cX12_keepProof 53 = .ok (.iload_n 3, 1) := by decide +kernel
theorem dX12_keepProof_54 : decode cX12_keepProof 54 = .ok (.iadd, 1) := by decide +kernel
theorem dX12_keepProof_55 : decode cX12_keepProof 55 = .ok (.iconst 1, 1) := by decide +kernel
theorem dX12_keepProof_56 : decode cX12_keepProof 56 = .ok (.isub, 1) := by decide +kernel
theorem dX12_keepProof_57 : decode cX12_keepProof 57 = .ok (.aload_n 0, 1) := by decide +kernel
theorem dX12_keepProof_58 : decode cX12_keepProof 58 = .ok (.getfield 204, 3) := by decide +kernel
theorem dX12_keepProof_61 : decode cX12_keepProof 61 = .ok (.iload_n 3, 1) := by decide +kernel
theorem dX12_keepProof_62 : decode cX12_keepProof 62 = .ok (.iaload, 1) := by decide +kernel
theorem dX12_keepProof_63 : decode cX12_keepProof 63 = .ok (.iastore, 1) := by decide +kernel
theorem dX12_keepProof_64 : decode cX12_keepProof 64 = .ok (.iinc 3 1, 3) := by decide +kernel
theorem dX12_keepProof_67 : decode cX12_keepProof 67 = .ok (.goto (-30), 3) := by decide +kernel
theorem dX12_keepProof_70 : decode cX12_keepProof 70 = .ok (.iconst 1, 1) := by decide +kernel
theorem dX12_keepProof_71 : decode cX12_keepProof 71 = .ok (.ireturn, 1) := by decide +kernel
theorem dX12_keepSnap_0 : decode cX12_keepSnap 0 = .ok (.aload_n 0, 1) := by decide +kernel
theorem dX12_keepSnap_1 : decode cX12_keepSnap 1 = .ok (.getfield 348, 3) := by decide +kernel
theorem dX12_keepSnap_4 : decode cX12_keepSnap 4 = .ok (.iload_n 1, 1) := by decide +kernel
theorem dX12_keepSnap_5 : decode cX12_keepSnap 5 = .ok (.aload_n 0, 1) := by decide +kernel
theorem dX12_keepSnap_6 : decode cX12_keepSnap 6 = .ok (.getfield 257, 3) := by decide +kernel
theorem dX12_keepSnap_9 : decode cX12_keepSnap 9 = .ok (.iastore, 1) := by decide +kernel
theorem dX12_keepSnap_10 : decode cX12_keepSnap 10 = .ok (.iconst 0, 1) := by decide +kernel
theorem dX12_keepSnap_11 : decode cX12_keepSnap 11 = .ok (.istore_n 2, 1) := by decide +kernel
theorem dX12_keepSnap_12 : decode cX12_keepSnap 12 = .ok (.iload_n 2, 1) := by decide +kernel
theorem dX12_keepSnap_13 : decode cX12_keepSnap 13 = .ok (.bipush 115, 2) := by decide +kernel
theorem dX12_keepSnap_15 : decode cX12_keepSnap 15 = .ok (.if_icmp .ge 26, 3) := by decide +kernel
theorem dX12_keepSnap_18 : decode cX12_keepSnap 18 = .ok (.aload_n 0, 1) := by decide +kernel
theorem dX12_keepSnap_19 : decode cX12_keepSnap 19 = .ok (.getfield 351, 3) := by decide +kernel
theorem dX12_keepSnap_22 : decode cX12_keepSnap 22 = .ok (.bipush 115, 2) := by decide +kernel
theorem dX12_keepSnap_24 : decode cX12_keepSnap 24 = .ok (.iload_n 1, 1) := by decide +kernel
theorem dX12_keepSnap_25 : decode cX12_keepSnap 25 = .ok (.imul, 1) := by decide +kernel
theorem dX12_keepSnap_26 : decode cX12_keepSnap 26 = .ok (.iload_n 2, 1) := by decide +kernel
theorem dX12_keepSnap_27 : decode cX12_keepSnap 27 = .ok (.iadd, 1) := by decide +kernel
theorem dX12_keepSnap_28 : decode cX12_keepSnap 28 = .ok (.aload_n 0, 1) := by decide +kernel
theorem dX12_keepSnap_29 : decode cX12_keepSnap 29 = .ok (.getfield 204, 3) := by decide +kernel
theorem dX12_keepSnap_32 : decode cX12_keepSnap 32 = .ok (.iload_n 2, 1) := by decide +kernel
theorem dX12_keepSnap_33 : decode cX12_keepSnap 33 = .ok (.iaload, 1) := by decide +kernel
theorem dX12_keepSnap_34 : decode cX12_keepSnap 34 = .ok (.iastore, 1) := by decide +kernel
theorem dX12_keepSnap_35 : decode cX12_keepSnap 35 = .ok (.iinc 2 1, 3) := by decide +kernel
theorem dX12_keepSnap_38 : decode cX12_keepSnap 38 = .ok (.goto (-26), 3) := by decide +kernel
theorem dX12_keepSnap_41 : decode cX12_keepSnap 41 = .ok (.return_, 1) := by decide +kernel
theorem dX12_answer_0 : decode cX12_answer 0 = .ok (.sipush 585, 3) := by decide +kernel
theorem dX12_answer_3 : decode cX12_answer 3 = .ok (.bipush 41, 2) := by decide +kernel
theorem dX12_answer_5 : decode cX12_answer 5 = .ok (.iload_n 1, 1) := by decide +kernel
theorem dX12_answer_6 : decode cX12_answer 6 = .ok (.imul, 1) := by decide +kernel
theorem dX12_answer_7 : decode cX12_answer 7 = .ok (.iadd, 1) := by decide +kernel
theorem dX12_answer_8 : decode cX12_answer 8 = .ok (.iload_n 3, 1) := by decide +kernel
theorem dX12_answer_9 : decode cX12_answer 9 = .ok (.iadd, 1) := by decide +kernel
theorem dX12_answer_10 : decode cX12_answer 10 = .ok (.istore 4, 2) := by decide +kernel
theorem dX12_answer_12 : decode cX12_answer 12 = .ok (.aload_n 0, 1) := by decide +kernel
theorem dX12_answer_13 : decode cX12_answer 13 = .ok (.iconst 0, 1) := by decide +kernel
theorem dX12_answer_14 : decode cX12_answer 14 = .ok (.putfield 201, 3) := by decide +kernel
theorem dX12_answer_17 : decode cX12_answer 17 = .ok (.iload_n 3, 1) := by decide +kernel
theorem dX12_answer_18 : decode cX12_answer 18 = .ok (.aload_n 0, 1) := by decide +kernel
theorem dX12_answer_19 : decode cX12_answer 19 = .ok (.getfield 309, 3) := by decide +kernel
theorem dX12_answer_22 : decode cX12_answer 22 = .ok (.iload_n 1, 1) := by decide +kernel
theorem dX12_answer_23 : decode cX12_answer 23 = .ok (.iaload, 1) := by decide +kernel
theorem dX12_answer_24 : decode cX12_answer 24 = .ok (.iconst 4, 1) := by decide +kernel
theorem dX12_answer_25 : decode cX12_answer 25 = .ok (.isub, 1) := by decide +kernel
theorem dX12_answer_26 : decode cX12_answer 26 = .ok (.if_icmp .lt 26, 3) := by decide +kernel
theorem dX12_answer_29 : decode cX12_answer 29 = .ok (.aload_n 0, 1) := by decide +kernel
theorem dX12_answer_30 : decode cX12_answer 30 = .ok (.iload 4, 2) := by decide +kernel
theorem dX12_answer_32 : decode cX12_answer 32 = .ok (.invokevirtual 63, 3) := by decide +kernel
theorem dX12_answer_35 : decode cX12_answer 35 = .ok (.ifCond .eq 17, 3) := by decide +kernel
theorem dX12_answer_38 : decode cX12_answer 38 = .ok (.aload_n 0, 1) := by decide +kernel
theorem dX12_answer_39 : decode cX12_answer 39 = .ok (.iconst 4, 1) := by decide +kernel
theorem dX12_answer_40 : decode cX12_answer 40 = .ok (.invokevirtual 226, 3) := by decide +kernel
theorem dX12_answer_43 : decode cX12_answer 43 = .ok (.aload_n 0, 1) := by decide +kernel
theorem dX12_answer_44 : decode cX12_answer 44 = .ok (.iload 4, 2) := by decide +kernel
theorem dX12_answer_46 : decode cX12_answer 46 = .ok (.invokevirtual 524, 3) := by decide +kernel
theorem dX12_answer_49 : decode cX12_answer 49 = .ok (.goto 108, 3) := by decide +kernel
theorem dX12_answer_52 : decode cX12_answer 52 = .ok (.aload_n 0, 1) := by decide +kernel
theorem dX12_answer_53 : decode cX12_answer 53 = .ok (.bipush 7, 2) := by decide +kernel
theorem dX12_answer_55 : decode cX12_answer 55 = .ok (.invokevirtual 226, 3) := by decide +kernel
theorem dX12_answer_58 : decode cX12_answer 58 = .ok (.aload_n 0, 1) := by decide +kernel
theorem dX12_answer_59 : decode cX12_answer 59 = .ok (.aload_n 0, 1) := by decide +kernel
theorem dX12_answer_60 : decode cX12_answer 60 = .ok (.getfield 309, 3) := by decide +kernel
theorem dX12_answer_63 : decode cX12_answer 63 = .ok (.iload_n 1, 1) := by decide +kernel
theorem dX12_answer_64 : decode cX12_answer 64 = .ok (.iaload, 1) := by decide +kernel
theorem dX12_answer_65 : decode cX12_answer 65 = .ok (.invokevirtual 229, 3) := by decide +kernel
theorem dX12_answer_68 : decode cX12_answer 68 = .ok (.iconst 0, 1) := by decide +kernel
theorem dX12_answer_69 : decode cX12_answer 69 = .ok (.istore 5, 2) := by decide +kernel
theorem dX12_answer_71 : decode cX12_answer 71 = .ok (.iload 5, 2) := by decide +kernel
theorem dX12_answer_73 : decode cX12_answer 73 = .ok (.bipush 32, 2) := by decide +kernel
theorem dX12_answer_75 : decode cX12_answer 75 = .ok (.if_icmp .ge 20, 3) := by decide +kernel
theorem dX12_answer_78 : decode cX12_answer 78 = .ok (.aload_n 0, 1) := by decide +kernel
theorem dX12_answer_79 : decode cX12_answer 79 = .ok (.aload_n 0, 1) := by decide +kernel
theorem dX12_answer_80 : decode cX12_answer 80 = .ok (.iload_n 1, 1) := by decide +kernel
theorem dX12_answer_81 : decode cX12_answer 81 = .ok (.iload 5, 2) := by decide +kernel
theorem dX12_answer_83 : decode cX12_answer 83 = .ok (.invokevirtual 158, 3) := by decide +kernel
theorem dX12_answer_86 : decode cX12_answer 86 = .ok (.invokevirtual 226, 3) := by decide +kernel
theorem dX12_answer_89 : decode cX12_answer 89 = .ok (.iinc 5 1, 3) := by decide +kernel
theorem dX12_answer_92 : decode cX12_answer 92 = .ok (.goto (-21), 3) := by decide +kernel
theorem dX12_answer_95 : decode cX12_answer 95 = .ok (.aload_n 0, 1) := by decide +kernel
theorem dX12_answer_96 : decode cX12_answer 96 = .ok (.iload_n 1, 1) := by decide +kernel
theorem dX12_answer_97 : decode cX12_answer 97 = .ok (.invokevirtual 161, 3) := by decide +kernel
theorem dX12_answer_100 : decode cX12_answer 100 = .ok (.iconst 0, 1) := by decide +kernel
theorem dX12_answer_101 : decode cX12_answer 101 = .ok (.istore 5, 2) := by decide +kernel
theorem dX12_answer_103 : decode cX12_answer 103 = .ok (.iload 5, 2) := by decide +kernel
theorem dX12_answer_105 : decode cX12_answer 105 = .ok (.bipush 16, 2) := by decide +kernel
theorem dX12_answer_107 : decode cX12_answer 107 = .ok (.if_icmp .ge 50, 3) := by decide +kernel
theorem dX12_answer_110 : decode cX12_answer 110 = .ok (.aload_n 0, 1) := by decide +kernel
theorem dX12_answer_111 : decode cX12_answer 111 = .ok (.aload_n 0, 1) := by decide +kernel
theorem dX12_answer_112 : decode cX12_answer 112 = .ok (.getfield 430, 3) := by decide +kernel
theorem dX12_answer_115 : decode cX12_answer 115 = .ok (.iload 5, 2) := by decide +kernel
theorem dX12_answer_117 : decode cX12_answer 117 = .ok (.iaload, 1) := by decide +kernel
theorem dX12_answer_118 : decode cX12_answer 118 = .ok (.invokevirtual 229, 3) := by decide +kernel
theorem dX12_answer_121 : decode cX12_answer 121 = .ok (.aload_n 0, 1) := by decide +kernel
theorem dX12_answer_122 : decode cX12_answer 122 = .ok (.aload_n 0, 1) := by decide +kernel
theorem dX12_answer_123 : decode cX12_answer 123 = .ok (.getfield 433, 3) := by decide +kernel
theorem dX12_answer_126 : decode cX12_answer 126 = .ok (.iload 5, 2) := by decide +kernel
theorem dX12_answer_128 : decode cX12_answer 128 = .ok (.iaload, 1) := by decide +kernel
theorem dX12_answer_129 : decode cX12_answer 129 = .ok (.invokevirtual 229, 3) := by decide +kernel
theorem dX12_answer_132 : decode cX12_answer 132 = .ok (.aload_n 0, 1) := by decide +kernel
theorem dX12_answer_133 : decode cX12_answer 133 = .ok (.aload_n 0, 1) := by decide +kernel
theorem dX12_answer_134 : decode cX12_answer 134 = .ok (.getfield 436, 3) := by decide +kernel
theorem dX12_answer_137 : decode cX12_answer 137 = .ok (.iload 5, 2) := by decide +kernel
theorem dX12_answer_139 : decode cX12_answer 139 = .ok (.baload, 1) := by decide +kernel
theorem dX12_answer_140 : decode cX12_answer 140 = .ok (.ifCond .eq 7, 3) := by decide +kernel
theorem dX12_answer_143 : decode cX12_answer 143 = .ok (.iconst 1, 1) := by decide +kernel
theorem dX12_answer_144 : decode cX12_answer 144 = .ok (.goto 4, 3) := by decide +kernel
theorem dX12_answer_147 : decode cX12_answer 147 = .ok (.iconst 0, 1) := by decide +kernel
theorem dX12_answer_148 : decode cX12_answer 148 = .ok (.invokevirtual 226, 3) := by decide +kernel
theorem dX12_answer_151 : decode cX12_answer 151 = .ok (.iinc 5 1, 3) := by decide +kernel
theorem dX12_answer_154 : decode cX12_answer 154 = .ok (.goto (-51), 3) := by decide +kernel
theorem dX12_answer_157 : decode cX12_answer 157 = .ok (.aload_n 0, 1) := by decide +kernel
theorem dX12_answer_158 : decode cX12_answer 158 = .ok (.iload_n 1, 1) := by decide +kernel
theorem dX12_answer_159 : decode cX12_answer 159 = .ok (.iload_n 2, 1) := by decide +kernel
theorem dX12_answer_160 : decode cX12_answer 160 = .ok (.invokevirtual 222, 3) := by decide +kernel
theorem dX12_answer_163 : decode cX12_answer 163 = .ok (.pop, 1) := by decide +kernel
theorem dX12_answer_164 : decode cX12_answer 164 = .ok (.return_, 1) := by decide +kernel
theorem dX12_answerHeld_0 : decode cX12_answerHeld 0 = .ok (.aload_n 0, 1) := by decide +kernel
theorem dX12_answerHeld_1 : decode cX12_answerHeld 1 = .ok (.getfield 309, 3) := by decide +kernel
theorem dX12_answerHeld_4 : decode cX12_answerHeld 4 = .ok (.iload_n 1, 1) := by decide +kernel
theorem dX12_answerHeld_5 : decode cX12_answerHeld 5 = .ok (.iaload, 1) := by decide +kernel
theorem dX12_answerHeld_6 : decode cX12_answerHeld 6 = .ok (.istore_n 3, 1) := by decide +kernel
theorem dX12_answerHeld_7 : decode cX12_answerHeld 7 = .ok (.iconst 0, 1) := by decide +kernel
theorem dX12_answerHeld_8 : decode cX12_answerHeld 8 = .ok (.istore 4, 2) := by decide +kernel
theorem dX12_answerHeld_10 : decode cX12_answerHeld 10 = .ok (.iload 4, 2) := by decide +kernel
theorem dX12_answerHeld_12 : decode cX12_answerHeld 12 = .ok (.bipush 16, 2) := by decide +kernel
theorem dX12_answerHeld_14 : decode cX12_answerHeld 14 = .ok (.if_icmp .ge 219, 3) := by decide +kernel
theorem dX12_answerHeld_17 : decode cX12_answerHeld 17 = .ok (.iconst 0, 1) := by decide +kernel
theorem dX12_answerHeld_18 : decode cX12_answerHeld 18 = .ok (.iload_n 1, 1) := by decide +kernel
theorem dX12_answerHeld_19 : decode cX12_answerHeld 19 = .ok (.iload_n 3, 1) := by decide +kernel
theorem dX12_answerHeld_20 : decode cX12_answerHeld 20 = .ok (.iload 4, 2) := by decide +kernel
theorem dX12_answerHeld_22 : decode cX12_answerHeld 22 = .ok (.invokestatic 466, 3) := by decide +kernel
theorem dX12_answerHeld_25 : decode cX12_answerHeld 25 = .ok (.iadd, 1) := by decide +kernel
theorem dX12_answerHeld_26 : decode cX12_answerHeld 26 = .ok (.istore 5, 2) := by decide +kernel
theorem dX12_answerHeld_28 : decode cX12_answerHeld 28 = .ok (.aload_n 0, 1) := by decide +kernel
theorem dX12_answerHeld_29 : decode cX12_answerHeld 29 = .ok (.iload 5, 2) := by decide +kernel
theorem dX12_answerHeld_31 : decode cX12_answerHeld 31 = .ok (.invokevirtual 63, 3) := by decide +kernel
theorem dX12_answerHeld_34 : decode cX12_answerHeld 34 = .ok (.ifCond .eq 35, 3) := by decide +kernel
theorem dX12_answerHeld_37 : decode cX12_answerHeld 37 = .ok (.aload_n 0, 1) := by decide +kernel
theorem dX12_answerHeld_38 : decode cX12_answerHeld 38 = .ok (.aload_n 0, 1) := by decide +kernel
theorem dX12_answerHeld_39 : decode cX12_answerHeld 39 = .ok (.iload_n 3, 1) := by decide +kernel
theorem dX12_answerHeld_40 : decode cX12_answerHeld 40 = .ok (.iload 4, 2) := by decide +kernel
theorem dX12_answerHeld_42 : decode cX12_answerHeld 42 = .ok (.invokevirtual 575, 3) := by decide +kernel
theorem dX12_answerHeld_45 : decode cX12_answerHeld 45 = .ok (.iload_n 3, 1) := by decide +kernel
theorem dX12_answerHeld_46 : decode cX12_answerHeld 46 = .ok (.iload 4, 2) := by decide +kernel
theorem dX12_answerHeld_48 : decode cX12_answerHeld 48 = .ok (.aload_n 0, 1) := by decide +kernel
theorem dX12_answerHeld_49 : decode cX12_answerHeld 49 = .ok (.getfield 354, 3) := by decide +kernel
theorem dX12_answerHeld_52 : decode cX12_answerHeld 52 = .ok (.iload 5, 2) := by decide +kernel
theorem dX12_answerHeld_54 : decode cX12_answerHeld 54 = .ok (.iconst 0, 1) := by decide +kernel
theorem dX12_answerHeld_55 : decode cX12_answerHeld 55 = .ok (.isub, 1) := by decide +kernel
theorem dX12_answerHeld_56 : decode cX12_answerHeld 56 = .ok (.iaload, 1) := by decide +kernel
theorem dX12_answerHeld_57 : decode cX12_answerHeld 57 = .ok (.iload 5, 2) := by decide +kernel
theorem dX12_answerHeld_59 : decode cX12_answerHeld 59 = .ok (.invokevirtual 527, 3) := by decide +kernel
theorem dX12_answerHeld_62 : decode cX12_answerHeld 62 = .ok (.aload_n 0, 1) := by decide +kernel
theorem dX12_answerHeld_63 : decode cX12_answerHeld 63 = .ok (.iload_n 1, 1) := by decide +kernel
theorem dX12_answerHeld_64 : decode cX12_answerHeld 64 = .ok (.iload_n 2, 1) := by decide +kernel
theorem dX12_answerHeld_65 : decode cX12_answerHeld 65 = .ok (.invokevirtual 222, 3) := by decide +kernel
theorem dX12_answerHeld_68 : decode cX12_answerHeld 68 = .ok (.pop, 1) := by decide +kernel
theorem dX12_answerHeld_69 : decode cX12_answerHeld 69 = .ok (.iconst 0, 1) := by decide +kernel
theorem dX12_answerHeld_70 : decode cX12_answerHeld 70 = .ok (.istore 6, 2) := by decide +kernel
theorem dX12_answerHeld_72 : decode cX12_answerHeld 72 = .ok (.iload 6, 2) := by decide +kernel
theorem dX12_answerHeld_74 : decode cX12_answerHeld 74 = .ok (.iconst 2, 1) := by decide +kernel
theorem dX12_answerHeld_75 : decode cX12_answerHeld 75 = .ok (.aload_n 0, 1) := by decide +kernel
theorem dX12_answerHeld_76 : decode cX12_answerHeld 76 = .ok (.getfield 219, 3) := by decide +kernel
theorem dX12_answerHeld_79 : decode cX12_answerHeld 79 = .ok (.imul, 1) := by decide +kernel
theorem dX12_answerHeld_80 : decode cX12_answerHeld 80 = .ok (.if_icmp .ge 147, 3) := by decide +kernel
theorem dX12_answerHeld_83 : decode cX12_answerHeld 83 = .ok (.iload 6, 2) := by decide +kernel
theorem dX12_answerHeld_85 : decode cX12_answerHeld 85 = .ok (.aload_n 0, 1) := by decide +kernel
theorem dX12_answerHeld_86 : decode cX12_answerHeld 86 = .ok (.getfield 219, 3) := by decide +kernel
theorem dX12_answerHeld_89 : decode cX12_answerHeld 89 = .ok (.if_icmp .lt 7, 3) := by decide +kernel
theorem dX12_answerHeld_92 : decode cX12_answerHeld 92 = .ok (.iconst 1, 1) := by decide +kernel
theorem dX12_answerHeld_93 : decode cX12_answerHeld 93 = .ok (.goto 4, 3) := by decide +kernel
theorem dX12_answerHeld_96 : decode cX12_answerHeld 96 = .ok (.iconst 0, 1) := by decide +kernel
theorem dX12_answerHeld_97 : decode cX12_answerHeld 97 = .ok (.istore 7, 2) := by decide +kernel
theorem dX12_answerHeld_99 : decode cX12_answerHeld 99 = .ok (.iload 7, 2) := by decide +kernel
theorem dX12_answerHeld_101 : decode cX12_answerHeld 101 = .ok (.ifCond .eq 13, 3) := by decide +kernel
theorem dX12_answerHeld_104 : decode cX12_answerHeld 104 = .ok (.iload 6, 2) := by decide +kernel
theorem dX12_answerHeld_106 : decode cX12_answerHeld 106 = .ok (.aload_n 0, 1) := by decide +kernel
theorem dX12_answerHeld_107 : decode cX12_answerHeld 107 = .ok (.getfield 219, 3) := by decide +kernel
theorem dX12_answerHeld_110 : decode cX12_answerHeld 110 = .ok (.isub, 1) := by decide +kernel
theorem dX12_answerHeld_111 : decode cX12_answerHeld 111 = .ok (.goto 5, 3) := by decide +kernel
theorem dX12_answerHeld_114 : decode cX12_answerHeld 114 = .ok (.iload 6, 2) := by decide +kernel
theorem dX12_answerHeld_116 : decode cX12_answerHeld 116 = .ok (.istore 8, 2) := by decide +kernel
theorem dX12_answerHeld_118 : decode cX12_answerHeld 118 = .ok (.iload 7, 2) := by decide +kernel
theorem dX12_answerHeld_120 : decode cX12_answerHeld 120 = .ok (.iload_n 1, 1) := by decide +kernel
theorem dX12_answerHeld_121 : decode cX12_answerHeld 121 = .ok (.iload_n 3, 1) := by decide +kernel
theorem dX12_answerHeld_122 : decode cX12_answerHeld 122 = .ok (.iload 4, 2) := by decide +kernel
theorem dX12_answerHeld_124 : decode cX12_answerHeld 124 = .ok (.iload 8, 2) := by decide +kernel
theorem dX12_answerHeld_126 : decode cX12_answerHeld 126 = .ok (.invokestatic 470, 3) := by decide +kernel
theorem dX12_answerHeld_129 : decode cX12_answerHeld 129 = .ok (.istore 9, 2) := by decide +kernel
theorem dX12_answerHeld_131 : decode cX12_answerHeld 131 = .ok (.aload_n 0, 1) := by decide +kernel
theorem dX12_answerHeld_132 : decode cX12_answerHeld 132 = .ok (.getfield 357, 3) := by decide +kernel
theorem dX12_answerHeld_135 : decode cX12_answerHeld 135 = .ok (.iload 9, 2) := by decide +kernel
theorem dX12_answerHeld_137 : decode cX12_answerHeld 137 = .ok (.iaload, 1) := by decide +kernel
theorem dX12_answerHeld_138 : decode cX12_answerHeld 138 = .ok (.ifCond .ne 6, 3) := by decide +kernel
theorem dX12_answerHeld_141 : decode cX12_answerHeld 141 = .ok (.goto 80, 3) := by decide +kernel
theorem dX12_answerHeld_144 : decode cX12_answerHeld 144 = .ok (.aload_n 0, 1) := by decide +kernel
theorem dX12_answerHeld_145 : decode cX12_answerHeld 145 = .ok (.iload 7, 2) := by decide +kernel
theorem dX12_answerHeld_147 : decode cX12_answerHeld 147 = .ok (.ifCond .eq 7, 3) := by decide +kernel
theorem dX12_answerHeld_150 : decode cX12_answerHeld 150 = .ok (.iconst 3, 1) := by decide +kernel
theorem dX12_answerHeld_151 : decode cX12_answerHeld 151 = .ok (.goto 4, 3) := by decide +kernel
theorem dX12_answerHeld_154 : decode cX12_answerHeld 154 = .ok (.iconst 2, 1) := by decide +kernel
theorem dX12_answerHeld_155 : decode cX12_answerHeld 155 = .ok (.iload 8, 2) := by decide +kernel
theorem dX12_answerHeld_157 : decode cX12_answerHeld 157 = .ok (.iload_n 3, 1) := by decide +kernel
theorem dX12_answerHeld_158 : decode cX12_answerHeld 158 = .ok (.iload 4, 2) := by decide +kernel
theorem dX12_answerHeld_160 : decode cX12_answerHeld 160 = .ok (.invokevirtual 520, 3) := by decide +kernel
theorem dX12_answerHeld_163 : decode cX12_answerHeld 163 = .ok (.aload_n 0, 1) := by decide +kernel
theorem dX12_answerHeld_164 : decode cX12_answerHeld 164 = .ok (.getfield 357, 3) := by decide +kernel
theorem dX12_answerHeld_167 : decode cX12_answerHeld 167 = .ok (.iload 9, 2) := by decide +kernel
theorem dX12_answerHeld_169 : decode cX12_answerHeld 169 = .ok (.iaload, 1) := by decide +kernel
theorem dX12_answerHeld_170 : decode cX12_answerHeld 170 = .ok (.iconst 2, 1) := by decide +kernel
theorem dX12_answerHeld_171 : decode cX12_answerHeld 171 = .ok (.if_icmp .ne 38, 3) := by decide +kernel
theorem dX12_answerHeld_174 : decode cX12_answerHeld 174 = .ok (.aload_n 0, 1) := by decide +kernel
theorem dX12_answerHeld_175 : decode cX12_answerHeld 175 = .ok (.aload_n 0, 1) := by decide +kernel
theorem dX12_answerHeld_176 : decode cX12_answerHeld 176 = .ok (.getfield 360, 3) := by decide +kernel
theorem dX12_answerHeld_179 : decode cX12_answerHeld 179 = .ok (.iload 9, 2) := by decide +kernel
theorem dX12_answerHeld_181 : decode cX12_answerHeld 181 = .ok (.laload, 1) := by decide +kernel
theorem dX12_answerHeld_182 : decode cX12_answerHeld 182 = .ok (.aload_n 0, 1) := by decide +kernel
theorem dX12_answerHeld_183 : decode cX12_answerHeld 183 = .ok (.getfield 363, 3) := by decide +kernel
theorem dX12_answerHeld_186 : decode cX12_answerHeld 186 = .ok (.iload 9, 2) := by decide +kernel
theorem dX12_answerHeld_188 : decode cX12_answerHeld 188 = .ok (.laload, 1) := by decide +kernel
theorem dX12_answerHeld_189 : decode cX12_answerHeld 189 = .ok (.aload_n 0, 1) := by decide +kernel
theorem dX12_answerHeld_190 : decode cX12_answerHeld 190 = .ok (.getfield 366, 3) := by decide +kernel
theorem dX12_answerHeld_193 : decode cX12_answerHeld 193 = .ok (.iload 9, 2) := by decide +kernel
theorem dX12_answerHeld_195 : decode cX12_answerHeld 195 = .ok (.laload, 1) := by decide +kernel
theorem dX12_answerHeld_196 : decode cX12_answerHeld 196 = .ok (.aload_n 0, 1) := by decide +kernel
theorem dX12_answerHeld_197 : decode cX12_answerHeld 197 = .ok (.getfield 369, 3) := by decide +kernel
theorem dX12_answerHeld_200 : decode cX12_answerHeld 200 = .ok (.iload 9, 2) := by decide +kernel
theorem dX12_answerHeld_202 : decode cX12_answerHeld 202 = .ok (.laload, 1) := by decide +kernel
theorem dX12_answerHeld_203 : decode cX12_answerHeld 203 = .ok (.invokevirtual 537, 3) := by decide +kernel
theorem dX12_answerHeld_206 : decode cX12_answerHeld 206 = .ok (.goto 8, 3) := by decide +kernel
theorem dX12_answerHeld_209 : decode cX12_answerHeld 209 = .ok (.aload_n 0, 1) := by decide +kernel
theorem dX12_answerHeld_210 : decode cX12_answerHeld 210 = .ok (.iconst 0, 1) := by decide +kernel
theorem dX12_answerHeld_211 : decode cX12_answerHeld 211 = .ok (.invokevirtual 226, 3) := by decide +kernel
theorem dX12_answerHeld_214 : decode cX12_answerHeld 214 = .ok (.aload_n 0, 1) := by decide +kernel
theorem dX12_answerHeld_215 : decode cX12_answerHeld 215 = .ok (.iload_n 1, 1) := by decide +kernel
theorem dX12_answerHeld_216 : decode cX12_answerHeld 216 = .ok (.iload_n 2, 1) := by decide +kernel
theorem dX12_answerHeld_217 : decode cX12_answerHeld 217 = .ok (.invokevirtual 222, 3) := by decide +kernel
theorem dX12_answerHeld_220 : decode cX12_answerHeld 220 = .ok (.pop, 1) := by decide +kernel
theorem dX12_answerHeld_221 : decode cX12_answerHeld 221 = .ok (.iinc 6 1, 3) := by decide +kernel
theorem dX12_answerHeld_224 : decode cX12_answerHeld 224 = .ok (.goto (-152), 3) := by decide +kernel
theorem dX12_answerHeld_227 : decode cX12_answerHeld 227 = .ok (.iinc 4 1, 3) := by decide +kernel
theorem dX12_answerHeld_230 : decode cX12_answerHeld 230 = .ok (.goto (-220), 3) := by decide +kernel
theorem dX12_answerHeld_233 : decode cX12_answerHeld 233 = .ok (.return_, 1) := by decide +kernel
theorem dX12_writeAsk_0 : decode cX12_writeAsk 0 = .ok (.aload_n 0, 1) := by decide +kernel
theorem dX12_writeAsk_1 : decode cX12_writeAsk 1 = .ok (.iconst 0, 1) := by decide +kernel
theorem dX12_writeAsk_2 : decode cX12_writeAsk 2 = .ok (.putfield 201, 3) := by decide +kernel
theorem dX12_writeAsk_5 : decode cX12_writeAsk 5 = .ok (.aload_n 0, 1) := by decide +kernel
theorem dX12_writeAsk_6 : decode cX12_writeAsk 6 = .ok (.iconst 5, 1) := by decide +kernel
theorem dX12_writeAsk_7 : decode cX12_writeAsk 7 = .ok (.invokevirtual 226, 3) := by decide +kernel
theorem dX12_writeAsk_10 : decode cX12_writeAsk 10 = .ok (.aload_n 0, 1) := by decide +kernel
theorem dX12_writeAsk_11 : decode cX12_writeAsk 11 = .ok (.aload_n 0, 1) := by decide +kernel
theorem dX12_writeAsk_12 : decode cX12_writeAsk 12 = .ok (.getfield 309, 3) := by decide +kernel
theorem dX12_writeAsk_15 : decode cX12_writeAsk 15 = .ok (.iload_n 1, 1) := by decide +kernel
theorem dX12_writeAsk_16 : decode cX12_writeAsk 16 = .ok (.iaload, 1) := by decide +kernel
theorem dX12_writeAsk_17 : decode cX12_writeAsk 17 = .ok (.invokevirtual 229, 3) := by decide +kernel
theorem dX12_writeAsk_20 : decode cX12_writeAsk 20 = .ok (.return_, 1) := by decide +kernel
theorem dX12_ask_0 : decode cX12_ask 0 = .ok (.aload_n 0, 1) := by decide +kernel
theorem dX12_ask_1 : decode cX12_ask 1 = .ok (.aload_n 0, 1) := by decide +kernel
theorem dX12_ask_2 : decode cX12_ask 2 = .ok (.getfield 201, 3) := by decide +kernel
theorem dX12_ask_5 : decode cX12_ask 5 = .ok (.putfield 673, 3) := by decide +kernel
theorem dX12_ask_8 : decode cX12_ask 8 = .ok (.iconst 0, 1) := by decide +kernel
theorem dX12_ask_9 : decode cX12_ask 9 = .ok (.istore_n 3, 1) := by decide +kernel
theorem dX12_ask_10 : decode cX12_ask 10 = .ok (.iload_n 3, 1) := by decide +kernel
theorem dX12_ask_11 : decode cX12_ask 11 = .ok (.aload_n 0, 1) := by decide +kernel
theorem dX12_ask_12 : decode cX12_ask 12 = .ok (.getfield 673, 3) := by decide +kernel
theorem dX12_ask_15 : decode cX12_ask 15 = .ok (.if_icmp .ge 21, 3) := by decide +kernel
theorem dX12_ask_18 : decode cX12_ask 18 = .ok (.aload_n 0, 1) := by decide +kernel
theorem dX12_ask_19 : decode cX12_ask 19 = .ok (.getfield 302, 3) := by decide +kernel
theorem dX12_ask_22 : decode cX12_ask 22 = .ok (.iload_n 3, 1) := by decide +kernel
theorem dX12_ask_23 : decode cX12_ask 23 = .ok (.aload_n 0, 1) := by decide +kernel
theorem dX12_ask_24 : decode cX12_ask 24 = .ok (.getfield 204, 3) := by decide +kernel
theorem dX12_ask_27 : decode cX12_ask 27 = .ok (.iload_n 3, 1) := by decide +kernel
theorem dX12_ask_28 : decode cX12_ask 28 = .ok (.iaload, 1) := by decide +kernel
theorem dX12_ask_29 : decode cX12_ask 29 = .ok (.iastore, 1) := by decide +kernel
theorem dX12_ask_30 : decode cX12_ask 30 = .ok (.iinc 3 1, 3) := by decide +kernel
theorem dX12_ask_33 : decode cX12_ask 33 = .ok (.goto (-23), 3) := by decide +kernel
theorem dX12_ask_36 : decode cX12_ask 36 = .ok (.aload_n 0, 1) := by decide +kernel
theorem dX12_ask_37 : decode cX12_ask 37 = .ok (.iload_n 1, 1) := by decide +kernel
theorem dX12_ask_38 : decode cX12_ask 38 = .ok (.invokevirtual 676, 3) := by decide +kernel
theorem dX12_ask_41 : decode cX12_ask 41 = .ok (.aload_n 0, 1) := by decide +kernel
theorem dX12_ask_42 : decode cX12_ask 42 = .ok (.iload_n 1, 1) := by decide +kernel
theorem dX12_ask_43 : decode cX12_ask 43 = .ok (.iload_n 2, 1) := by decide +kernel
theorem dX12_ask_44 : decode cX12_ask 44 = .ok (.invokevirtual 222, 3) := by decide +kernel
theorem dX12_ask_47 : decode cX12_ask 47 = .ok (.pop, 1) := by decide +kernel
theorem dX12_ask_48 : decode cX12_ask 48 = .ok (.aload_n 0, 1) := by decide +kernel
theorem dX12_ask_49 : decode cX12_ask 49 = .ok (.aload_n 0, 1) := by decide +kernel
theorem dX12_ask_50 : decode cX12_ask 50 = .ok (.getfield 673, 3) := by decide +kernel
theorem dX12_ask_53 : decode cX12_ask 53 = .ok (.putfield 201, 3) := by decide +kernel
theorem dX12_ask_56 : decode cX12_ask 56 = .ok (.iconst 0, 1) := by decide +kernel
theorem dX12_ask_57 : decode cX12_ask 57 = .ok (.istore_n 3, 1) := by decide +kernel
theorem dX12_ask_58 : decode cX12_ask 58 = .ok (.iload_n 3, 1) := by decide +kernel
theorem dX12_ask_59 : decode cX12_ask 59 = .ok (.aload_n 0, 1) := by decide +kernel
theorem dX12_ask_60 : decode cX12_ask 60 = .ok (.getfield 673, 3) := by decide +kernel
theorem dX12_ask_63 : decode cX12_ask 63 = .ok (.if_icmp .ge 21, 3) := by decide +kernel
theorem dX12_ask_66 : decode cX12_ask 66 = .ok (.aload_n 0, 1) := by decide +kernel
theorem dX12_ask_67 : decode cX12_ask 67 = .ok (.getfield 204, 3) := by decide +kernel
theorem dX12_ask_70 : decode cX12_ask 70 = .ok (.iload_n 3, 1) := by decide +kernel
theorem dX12_ask_71 : decode cX12_ask 71 = .ok (.aload_n 0, 1) := by decide +kernel
theorem dX12_ask_72 : decode cX12_ask 72 = .ok (.getfield 302, 3) := by decide +kernel
theorem dX12_ask_75 : decode cX12_ask 75 = .ok (.iload_n 3, 1) := by decide +kernel
theorem dX12_ask_76 : decode cX12_ask 76 = .ok (.iaload, 1) := by decide +kernel
theorem dX12_ask_77 : decode cX12_ask 77 = .ok (.iastore, 1) := by decide +kernel
theorem dX12_ask_78 : decode cX12_ask 78 = .ok (.iinc 3 1, 3) := by decide +kernel
theorem dX12_ask_81 : decode cX12_ask 81 = .ok (.goto (-23), 3) := by decide +kernel
theorem dX12_ask_84 : decode cX12_ask 84 = .ok (.return_, 1) := by decide +kernel
theorem dX12_arrive_0 : decode cX12_arrive 0 = .ok (.aload_n 0, 1) := by decide +kernel
theorem dX12_arrive_1 : decode cX12_arrive 1 = .ok (.getfield 257, 3) := by decide +kernel
theorem dX12_arrive_4 : decode cX12_arrive 4 = .ok (.aload_n 0, 1) := by decide +kernel
theorem dX12_arrive_5 : decode cX12_arrive 5 = .ok (.getfield 309, 3) := by decide +kernel
theorem dX12_arrive_8 : decode cX12_arrive 8 = .ok (.iload_n 1, 1) := by decide +kernel
theorem dX12_arrive_9 : decode cX12_arrive 9 = .ok (.iaload, 1) := by decide +kernel
theorem dX12_arrive_10 : decode cX12_arrive 10 = .ok (.if_icmp .le 9, 3) := by decide +kernel
theorem dX12_arrive_13 : decode cX12_arrive 13 = .ok (.aload_n 0, 1) := by decide +kernel
theorem dX12_arrive_14 : decode cX12_arrive 14 = .ok (.iload_n 1, 1) := by decide +kernel
theorem dX12_arrive_15 : decode cX12_arrive 15 = .ok (.iload_n 2, 1) := by decide +kernel
theorem dX12_arrive_16 : decode cX12_arrive 16 = .ok (.invokevirtual 679, 3) := by decide +kernel
theorem dX12_arrive_19 : decode cX12_arrive 19 = .ok (.aload_n 0, 1) := by decide +kernel
theorem dX12_arrive_20 : decode cX12_arrive 20 = .ok (.getfield 282, 3) := by decide +kernel
theorem dX12_arrive_23 : decode cX12_arrive 23 = .ok (.iconst 4, 1) := by decide +kernel
theorem dX12_arrive_24 : decode cX12_arrive 24 = .ok (.if_icmp .ne 53, 3) := by decide +kernel
theorem dX12_arrive_27 : decode cX12_arrive 27 = .ok (.aload_n 0, 1) := by decide +kernel
theorem dX12_arrive_28 : decode cX12_arrive 28 = .ok (.getfield 257, 3) := by decide +kernel
theorem dX12_arrive_31 : decode cX12_arrive 31 = .ok (.aload_n 0, 1) := by decide +kernel
theorem dX12_arrive_32 : decode cX12_arrive 32 = .ok (.getfield 309, 3) := by decide +kernel
theorem dX12_arrive_35 : decode cX12_arrive 35 = .ok (.iload_n 1, 1) := by decide +kernel
theorem dX12_arrive_36 : decode cX12_arrive 36 = .ok (.iaload, 1) := by decide +kernel
theorem dX12_arrive_37 : decode cX12_arrive 37 = .ok (.if_icmp .ne 78, 3) := by decide +kernel
theorem dX12_arrive_40 : decode cX12_arrive 40 = .ok (.aload_n 0, 1) := by decide +kernel
theorem dX12_arrive_41 : decode cX12_arrive 41 = .ok (.sipush 416, 3) := by decide +kernel
theorem dX12_arrive_44 : decode cX12_arrive 44 = .ok (.bipush 13, 2) := by decide +kernel
theorem dX12_arrive_46 : decode cX12_arrive 46 = .ok (.iload_n 1, 1) := by decide +kernel
theorem dX12_arrive_47 : decode cX12_arrive 47 = .ok (.imul, 1) := by decide +kernel
theorem dX12_arrive_48 : decode cX12_arrive 48 = .ok (.iadd, 1) := by decide +kernel
theorem dX12_arrive_49 : decode cX12_arrive 49 = .ok (.iload_n 2, 1) := by decide +kernel
theorem dX12_arrive_50 : decode cX12_arrive 50 = .ok (.iadd, 1) := by decide +kernel
theorem dX12_arrive_51 : decode cX12_arrive 51 = .ok (.invokevirtual 63, 3) := by decide +kernel
theorem dX12_arrive_54 : decode cX12_arrive 54 = .ok (.ifCond .ne 61, 3) := by decide +kernel
theorem dX12_arrive_57 : decode cX12_arrive 57 = .ok (.aload_n 0, 1) := by decide +kernel
theorem dX12_arrive_58 : decode cX12_arrive 58 = .ok (.sipush 1352, 3) := by decide +kernel
theorem dX12_arrive_61 : decode cX12_arrive 61 = .ok (.sipush 416, 3) := by decide +kernel
theorem dX12_arrive_64 : decode cX12_arrive 64 = .ok (.bipush 13, 2) := by decide +kernel
theorem dX12_arrive_66 : decode cX12_arrive 66 = .ok (.iload_n 1, 1) := by decide +kernel
theorem dX12_arrive_67 : decode cX12_arrive 67 = .ok (.imul, 1) := by decide +kernel
theorem dX12_arrive_68 : decode cX12_arrive 68 = .ok (.iadd, 1) := by decide +kernel
theorem dX12_arrive_69 : decode cX12_arrive 69 = .ok (.iload_n 2, 1) := by decide +kernel
theorem dX12_arrive_70 : decode cX12_arrive 70 = .ok (.iadd, 1) := by decide +kernel
theorem dX12_arrive_71 : decode cX12_arrive 71 = .ok (.invokevirtual 507, 3) := by decide +kernel
theorem dX12_arrive_74 : decode cX12_arrive 74 = .ok (.goto 41, 3) := by decide +kernel
theorem dX12_arrive_77 : decode cX12_arrive 77 = .ok (.aload_n 0, 1) := by decide +kernel
theorem dX12_arrive_78 : decode cX12_arrive 78 = .ok (.getfield 257, 3) := by decide +kernel
theorem dX12_arrive_81 : decode cX12_arrive 81 = .ok (.aload_n 0, 1) := by decide +kernel
theorem dX12_arrive_82 : decode cX12_arrive 82 = .ok (.getfield 309, 3) := by decide +kernel
theorem dX12_arrive_85 : decode cX12_arrive 85 = .ok (.iload_n 1, 1) := by decide +kernel
theorem dX12_arrive_86 : decode cX12_arrive 86 = .ok (.iaload, 1) := by decide +kernel
theorem dX12_arrive_87 : decode cX12_arrive 87 = .ok (.iconst 1, 1) := by decide +kernel
theorem dX12_arrive_88 : decode cX12_arrive 88 = .ok (.iadd, 1) := by decide +kernel
theorem dX12_arrive_89 : decode cX12_arrive 89 = .ok (.if_icmp .gt 26, 3) := by decide +kernel
theorem dX12_arrive_92 : decode cX12_arrive 92 = .ok (.aload_n 0, 1) := by decide +kernel
theorem dX12_arrive_93 : decode cX12_arrive 93 = .ok (.getfield 282, 3) := by decide +kernel
theorem dX12_arrive_96 : decode cX12_arrive 96 = .ok (.iconst 1, 1) := by decide +kernel
theorem dX12_arrive_97 : decode cX12_arrive 97 = .ok (.if_icmp .ne 12, 3) := by decide +kernel
theorem dX12_arrive_100 : decode cX12_arrive 100 = .ok (.aload_n 0, 1) := by decide +kernel
theorem dX12_arrive_101 : decode cX12_arrive 101 = .ok (.iload_n 1, 1) := by decide +kernel
theorem dX12_arrive_102 : decode cX12_arrive 102 = .ok (.iload_n 2, 1) := by decide +kernel
theorem dX12_arrive_103 : decode cX12_arrive 103 = .ok (.invokevirtual 682, 3) := by decide +kernel
theorem dX12_arrive_106 : decode cX12_arrive 106 = .ok (.goto 9, 3) := by decide +kernel
theorem dX12_arrive_109 : decode cX12_arrive 109 = .ok (.aload_n 0, 1) := by decide +kernel
theorem dX12_arrive_110 : decode cX12_arrive 110 = .ok (.iload_n 1, 1) := by decide +kernel
theorem dX12_arrive_111 : decode cX12_arrive 111 = .ok (.iload_n 2, 1) := by decide +kernel
theorem dX12_arrive_112 : decode cX12_arrive 112 = .ok (.invokevirtual 685, 3) := by decide +kernel
theorem dX12_arrive_115 : decode cX12_arrive 115 = .ok (.return_, 1) := by decide +kernel
theorem dX12_arriveProposal_0 : decode cX12_arriveProposal 0 = .ok (.aload_n 0, 1) := by decide +kernel
theorem dX12_arriveProposal_1 : decode cX12_arriveProposal 1 = .ok (.getfield 260, 3) := by decide +kernel
theorem dX12_arriveProposal_4 : decode cX12_arriveProposal 4 = .ok (.aload_n 0, 1) := by decide +kernel
theorem dX12_arriveProposal_5 : decode cX12_arriveProposal 5 = .ok (.aload_n 0, 1) := by decide +kernel
theorem dX12_arriveProposal_6 : decode cX12_arriveProposal 6 = .ok (.getfield 257, 3) := by decide +kernel
theorem dX12_arriveProposal_9 : decode cX12_arriveProposal 9 = .ok (.aload_n 0, 1) := by decide +kernel
theorem dX12_arriveProposal_10 : decode cX12_arriveProposal 10 = .ok (.getfield 263, 3) := by decide +kernel
theorem dX12_arriveProposal_13 : decode cX12_arriveProposal 13 = .ok (.invokevirtual 575, 3) := by decide +kernel
theorem dX12_arriveProposal_16 : decode cX12_arriveProposal 16 = .ok (.if_icmp .eq 4, 3) := by decide +kernel
theorem dX12_arriveProposal_19 : decode cX12_arriveProposal 19 = .ok (.return_, 1) := by decide +kernel
