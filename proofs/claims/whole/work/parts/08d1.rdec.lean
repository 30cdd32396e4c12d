theorem dX12_primes_0 : decode cX12_primes 0 = .ok (.iconst 0, 1) := by decide +kernel
theorem dX12_primes_1 : decode cX12_primes 1 = .ok (.istore_n 1, 1) := by decide +kernel
theorem dX12_primes_2 : decode cX12_primes 2 = .ok (.iconst 2, 1) := by decide +kernel
theorem dX12_primes_3 : decode cX12_primes 3 = .ok (.istore_n 2, 1) := by decide +kernel
theorem dX12_primes_4 : decode cX12_primes 4 = .ok (.iload_n 1, 1) := by decide +kernel
theorem dX12_primes_5 : decode cX12_primes 5 = .ok (.bipush 64, 2) := by decide +kernel
theorem dX12_primes_7 : decode cX12_primes 7 = .ok (.if_icmp .ge 85, 3) := by decide +kernel
theorem dX12_primes_10 : decode cX12_primes 10 = .ok (.iconst 1, 1) := by decide +kernel
theorem dX12_primes_11 : decode cX12_primes 11 = .ok (.istore_n 3, 1) := by decide +kernel
theorem dX12_primes_12 : decode cX12_primes 12 = .ok (.iconst 2, 1) := by decide +kernel
theorem dX12_primes_13 : decode cX12_primes 13 = .ok (.istore 4, 2) := by decide +kernel
theorem dX12_primes_15 : decode cX12_primes 15 = .ok (.iload 4, 2) := by decide +kernel
theorem dX12_primes_17 : decode cX12_primes 17 = .ok (.iload 4, 2) := by decide +kernel
theorem dX12_primes_19 : decode cX12_primes 19 = .ok (.imul, 1) := by decide +kernel
theorem dX12_primes_20 : decode cX12_primes 20 = .ok (.iload_n 2, 1) := by decide +kernel
theorem dX12_primes_21 : decode cX12_primes 21 = .ok (.if_icmp .gt 26, 3) := by decide +kernel
theorem dX12_primes_24 : decode cX12_primes 24 = .ok (.iload_n 3, 1) := by decide +kernel
theorem dX12_primes_25 : decode cX12_primes 25 = .ok (.ifCond .eq 14, 3) := by decide +kernel
theorem dX12_primes_28 : decode cX12_primes 28 = .ok (.iload_n 2, 1) := by decide +kernel
theorem dX12_primes_29 : decode cX12_primes 29 = .ok (.iload 4, 2) := by decide +kernel
theorem dX12_primes_31 : decode cX12_primes 31 = .ok (.irem, 1) := by decide +kernel
theorem dX12_primes_32 : decode cX12_primes 32 = .ok (.ifCond .eq 7, 3) := by decide +kernel
theorem dX12_primes_35 : decode cX12_primes 35 = .ok (.iconst 1, 1) := by decide +kernel
theorem dX12_primes_36 : decode cX12_primes 36 = .ok (.goto 4, 3) := by decide +kernel
theorem dX12_primes_39 : decode cX12_primes 39 = .ok (.iconst 0, 1) := by decide +kernel
theorem dX12_primes_40 : decode cX12_primes 40 = .ok (.istore_n 3, 1) := by decide +kernel
theorem dX12_primes_41 : decode cX12_primes 41 = .ok (.iinc 4 1, 3) := by decide +kernel
theorem dX12_primes_44 : decode cX12_primes 44 = .ok (.goto (-29), 3) := by decide +kernel
theorem dX12_primes_47 : decode cX12_primes 47 = .ok (.iload_n 3, 1) := by decide +kernel
theorem dX12_primes_48 : decode cX12_primes 48 = .ok (.ifCond .ne 6, 3) := by decide +kernel
theorem dX12_primes_51 : decode cX12_primes 51 = .ok (.goto 35, 3) := by decide +kernel
theorem dX12_primes_54 : decode cX12_primes 54 = .ok (.iload_n 1, 1) := by decide +kernel
theorem dX12_primes_55 : decode cX12_primes 55 = .ok (.bipush 8, 2) := by decide +kernel
theorem dX12_primes_57 : decode cX12_primes 57 = .ok (.if_icmp .ge 14, 3) := by decide +kernel
theorem dX12_primes_60 : decode cX12_primes 60 = .ok (.aload_n 0, 1) := by decide +kernel
theorem dX12_primes_61 : decode cX12_primes 61 = .ok (.getfield 1, 3) := by decide +kernel
theorem dX12_primes_64 : decode cX12_primes 64 = .ok (.iload_n 1, 1) := by decide +kernel
theorem dX12_primes_65 : decode cX12_primes 65 = .ok (.iload_n 2, 1) := by decide +kernel
theorem dX12_primes_66 : decode cX12_primes 66 = .ok (.iconst 2, 1) := by decide +kernel
theorem dX12_primes_67 : decode cX12_primes 67 = .ok (.invokestatic 7, 3) := by decide +kernel
theorem dX12_primes_70 : decode cX12_primes 70 = .ok (.iastore, 1) := by decide +kernel
theorem dX12_primes_71 : decode cX12_primes 71 = .ok (.aload_n 0, 1) := by decide +kernel
theorem dX12_primes_72 : decode cX12_primes 72 = .ok (.getfield 11, 3) := by decide +kernel
theorem dX12_primes_75 : decode cX12_primes 75 = .ok (.iload_n 1, 1) := by decide +kernel
theorem dX12_primes_76 : decode cX12_primes 76 = .ok (.iload_n 2, 1) := by decide +kernel
theorem dX12_primes_77 : decode cX12_primes 77 = .ok (.iconst 3, 1) := by decide +kernel
theorem dX12_primes_78 : decode cX12_primes 78 = .ok (.invokestatic 7, 3) := by decide +kernel
theorem dX12_primes_81 : decode cX12_primes 81 = .ok (.iastore, 1) := by decide +kernel
theorem dX12_primes_82 : decode cX12_primes 82 = .ok (.iload_n 1, 1) := by decide +kernel
theorem dX12_primes_83 : decode cX12_primes 83 = .ok (.iconst 1, 1) := by decide +kernel
theorem dX12_primes_84 : decode cX12_primes 84 = .ok (.iadd, 1) := by decide +kernel
theorem dX12_primes_85 : decode cX12_primes 85 = .ok (.istore_n 1, 1) := by decide +kernel
theorem dX12_primes_86 : decode cX12_primes 86 = .ok (.iinc 2 1, 3) := by decide +kernel
theorem dX12_primes_89 : decode cX12_primes 89 = .ok (.goto (-85), 3) := by decide +kernel
theorem dX12_primes_92 : decode cX12_primes 92 = .ok (.return_, 1) := by decide +kernel
theorem dX12_root_0 : decode cX12_root 0 = .ok (.lconst 0, 1) := by decide +kernel
theorem dX12_root_1 : decode cX12_root 1 = .ok (.lstore_n 2, 1) := by decide +kernel
theorem dX12_root_2 : decode cX12_root 2 = .ok (.bipush 35, 2) := by decide +kernel
theorem dX12_root_4 : decode cX12_root 4 = .ok (.istore 4, 2) := by decide +kernel
theorem dX12_root_6 : decode cX12_root 6 = .ok (.iload 4, 2) := by decide +kernel
theorem dX12_root_8 : decode cX12_root 8 = .ok (.ifCond .lt 30, 3) := by decide +kernel
theorem dX12_root_11 : decode cX12_root 11 = .ok (.lload_n 2, 1) := by decide +kernel
theorem dX12_root_12 : decode cX12_root 12 = .ok (.lconst 1, 1) := by decide +kernel
theorem dX12_root_13 : decode cX12_root 13 = .ok (.iload 4, 2) := by decide +kernel
theorem dX12_root_15 : decode cX12_root 15 = .ok (.lshl, 1) := by decide +kernel
theorem dX12_root_16 : decode cX12_root 16 = .ok (.lor, 1) := by decide +kernel
theorem dX12_root_17 : decode cX12_root 17 = .ok (.lstore 5, 2) := by decide +kernel
theorem dX12_root_19 : decode cX12_root 19 = .ok (.lload 5, 2) := by decide +kernel
theorem dX12_root_21 : decode cX12_root 21 = .ok (.iload_n 0, 1) := by decide +kernel
theorem dX12_root_22 : decode cX12_root 22 = .ok (.iload_n 1, 1) := by decide +kernel
theorem dX12_root_23 : decode cX12_root 23 = .ok (.invokestatic 14, 3) := by decide +kernel
theorem dX12_root_26 : decode cX12_root 26 = .ok (.ifCond .ne 6, 3) := by decide +kernel
theorem dX12_root_29 : decode cX12_root 29 = .ok (.lload 5, 2) := by decide +kernel
theorem dX12_root_31 : decode cX12_root 31 = .ok (.lstore_n 2, 1) := by decide +kernel
theorem dX12_root_32 : decode cX12_root 32 = .ok (.iinc 4 (-1), 3) := by decide +kernel
theorem dX12_root_35 : decode cX12_root 35 = .ok (.goto (-29), 3) := by decide +kernel
theorem dX12_root_38 : decode cX12_root 38 = .ok (.lload_n 2, 1) := by decide +kernel
theorem dX12_root_39 : decode cX12_root 39 = .ok (.l2i, 1) := by decide +kernel
theorem dX12_root_40 : decode cX12_root 40 = .ok (.ireturn, 1) := by decide +kernel
theorem dX12_isAbove_0 : decode cX12_isAbove 0 = .ok (.lload_n 0, 1) := by decide +kernel
theorem dX12_isAbove_1 : decode cX12_isAbove 1 = .ok (.bipush 32, 2) := by decide +kernel
theorem dX12_isAbove_3 : decode cX12_isAbove 3 = .ok (.lshr, 1) := by decide +kernel
theorem dX12_isAbove_4 : decode cX12_isAbove 4 = .ok (.lstore 4, 2) := by decide +kernel
theorem dX12_isAbove_6 : decode cX12_isAbove 6 = .ok (.lload_n 0, 1) := by decide +kernel
theorem dX12_isAbove_7 : decode cX12_isAbove 7 = .ok (.ldc2_w 18, 3) := by decide +kernel
theorem dX12_isAbove_10 : decode cX12_isAbove 10 = .ok (.land, 1) := by decide +kernel
theorem dX12_isAbove_11 : decode cX12_isAbove 11 = .ok (.lstore 6, 2) := by decide +kernel
theorem dX12_isAbove_13 : decode cX12_isAbove 13 = .ok (.lload 6, 2) := by decide +kernel
theorem dX12_isAbove_15 : decode cX12_isAbove 15 = .ok (.lload 6, 2) := by decide +kernel
theorem dX12_isAbove_17 : decode cX12_isAbove 17 = .ok (.lmul, 1) := by decide +kernel
theorem dX12_isAbove_18 : decode cX12_isAbove 18 = .ok (.lstore 8, 2) := by decide +kernel
theorem dX12_isAbove_20 : decode cX12_isAbove 20 = .ok (.lload 8, 2) := by decide +kernel
theorem dX12_isAbove_22 : decode cX12_isAbove 22 = .ok (.ldc2_w 18, 3) := by decide +kernel
theorem dX12_isAbove_25 : decode cX12_isAbove 25 = .ok (.land, 1) := by decide +kernel
theorem dX12_isAbove_26 : decode cX12_isAbove 26 = .ok (.lstore 10, 2) := by decide +kernel
theorem dX12_isAbove_28 : decode cX12_isAbove 28 = .ok (.lload 8, 2) := by decide +kernel
theorem dX12_isAbove_30 : decode cX12_isAbove 30 = .ok (.bipush 32, 2) := by decide +kernel
theorem dX12_isAbove_32 : decode cX12_isAbove 32 = .ok (.lushr, 1) := by decide +kernel
theorem dX12_isAbove_33 : decode cX12_isAbove 33 = .ok (.ldc2_w 20, 3) := by decide +kernel
theorem dX12_isAbove_36 : decode cX12_isAbove 36 = .ok (.lload 4, 2) := by decide +kernel
theorem dX12_isAbove_38 : decode cX12_isAbove 38 = .ok (.lmul, 1) := by decide +kernel
theorem dX12_isAbove_39 : decode cX12_isAbove 39 = .ok (.lload 6, 2) := by decide +kernel
theorem dX12_isAbove_41 : decode cX12_isAbove 41 = .ok (.lmul, 1) := by decide +kernel
theorem dX12_isAbove_42 : decode cX12_isAbove 42 = .ok (.ldc2_w 18, 3) := by decide +kernel
theorem dX12_isAbove_45 : decode cX12_isAbove 45 = .ok (.land, 1) := by decide +kernel
theorem dX12_isAbove_46 : decode cX12_isAbove 46 = .ok (.ladd, 1) := by decide +kernel
theorem dX12_isAbove_47 : decode cX12_isAbove 47 = .ok (.lstore 12, 2) := by decide +kernel
theorem dX12_isAbove_49 : decode cX12_isAbove 49 = .ok (.lload 4, 2) := by decide +kernel
theorem dX12_isAbove_51 : decode cX12_isAbove 51 = .ok (.lload 4, 2) := by decide +kernel
theorem dX12_isAbove_53 : decode cX12_isAbove 53 = .ok (.lmul, 1) := by decide +kernel
theorem dX12_isAbove_54 : decode cX12_isAbove 54 = .ok (.ldc2_w 20, 3) := by decide +kernel
theorem dX12_isAbove_57 : decode cX12_isAbove 57 = .ok (.lload 4, 2) := by decide +kernel
theorem dX12_isAbove_59 : decode cX12_isAbove 59 = .ok (.lmul, 1) := by decide +kernel
theorem dX12_isAbove_60 : decode cX12_isAbove 60 = .ok (.lload 6, 2) := by decide +kernel
theorem dX12_isAbove_62 : decode cX12_isAbove 62 = .ok (.lmul, 1) := by decide +kernel
theorem dX12_isAbove_63 : decode cX12_isAbove 63 = .ok (.bipush 32, 2) := by decide +kernel
theorem dX12_isAbove_65 : decode cX12_isAbove 65 = .ok (.lushr, 1) := by decide +kernel
theorem dX12_isAbove_66 : decode cX12_isAbove 66 = .ok (.ladd, 1) := by decide +kernel
theorem dX12_isAbove_67 : decode cX12_isAbove 67 = .ok (.lload 12, 2) := by decide +kernel
theorem dX12_isAbove_69 : decode cX12_isAbove 69 = .ok (.bipush 32, 2) := by decide +kernel
theorem dX12_isAbove_71 : decode cX12_isAbove 71 = .ok (.lushr, 1) := by decide +kernel
theorem dX12_isAbove_72 : decode cX12_isAbove 72 = .ok (.ladd, 1) := by decide +kernel
theorem dX12_isAbove_73 : decode cX12_isAbove 73 = .ok (.lstore 14, 2) := by decide +kernel
theorem dX12_isAbove_75 : decode cX12_isAbove 75 = .ok (.lload 12, 2) := by decide +kernel
theorem dX12_isAbove_77 : decode cX12_isAbove 77 = .ok (.ldc2_w 18, 3) := by decide +kernel
theorem dX12_isAbove_80 : decode cX12_isAbove 80 = .ok (.land, 1) := by decide +kernel
theorem dX12_isAbove_81 : decode cX12_isAbove 81 = .ok (.lstore 12, 2) := by decide +kernel
theorem dX12_isAbove_83 : decode cX12_isAbove 83 = .ok (.iload_n 3, 1) := by decide +kernel
theorem dX12_isAbove_84 : decode cX12_isAbove 84 = .ok (.iconst 2, 1) := by decide +kernel
theorem dX12_isAbove_85 : decode cX12_isAbove 85 = .ok (.if_icmp .ne 39, 3) := by decide +kernel
theorem dX12_isAbove_88 : decode cX12_isAbove 88 = .ok (.lload 14, 2) := by decide +kernel
theorem dX12_isAbove_90 : decode cX12_isAbove 90 = .ok (.iload_n 2, 1) := by decide +kernel
theorem dX12_isAbove_91 : decode cX12_isAbove 91 = .ok (.i2l, 1) := by decide +kernel
theorem dX12_isAbove_92 : decode cX12_isAbove 92 = .ok (.lcmp, 1) := by decide +kernel
theorem dX12_isAbove_93 : decode cX12_isAbove 93 = .ok (.ifCond .gt 25, 3) := by decide +kernel
theorem dX12_isAbove_96 : decode cX12_isAbove 96 = .ok (.lload 14, 2) := by decide +kernel
theorem dX12_isAbove_98 : decode cX12_isAbove 98 = .ok (.iload_n 2, 1) := by decide +kernel
theorem dX12_isAbove_99 : decode cX12_isAbove 99 = .ok (.i2l, 1) := by decide +kernel
theorem dX12_isAbove_100 : decode cX12_isAbove 100 = .ok (.lcmp, 1) := by decide +kernel
theorem dX12_isAbove_101 : decode cX12_isAbove 101 = .ok (.ifCond .ne 21, 3) := by decide +kernel
theorem dX12_isAbove_104 : decode cX12_isAbove 104 = .ok (.lload 12, 2) := by decide +kernel
theorem dX12_isAbove_106 : decode cX12_isAbove 106 = .ok (.lconst 0, 1) := by decide +kernel
theorem dX12_isAbove_107 : decode cX12_isAbove 107 = .ok (.lcmp, 1) := by decide +kernel
theorem dX12_isAbove_108 : decode cX12_isAbove 108 = .ok (.ifCond .gt 10, 3) := by decide +kernel
theorem dX12_isAbove_111 : decode cX12_isAbove 111 = .ok (.lload 10, 2) := by decide +kernel
theorem dX12_isAbove_113 : decode cX12_isAbove 113 = .ok (.lconst 0, 1) := by decide +kernel
theorem dX12_isAbove_114 : decode cX12_isAbove 114 = .ok (.lcmp, 1) := by decide +kernel
theorem dX12_isAbove_115 : decode cX12_isAbove 115 = .ok (.ifCond .le 7, 3) := by decide +kernel
theorem dX12_isAbove_118 : decode cX12_isAbove 118 = .ok (.iconst 1, 1) := by decide +kernel
theorem dX12_isAbove_119 : decode cX12_isAbove 119 = .ok (.goto 4, 3) := by decide +kernel
theorem dX12_isAbove_122 : decode cX12_isAbove 122 = .ok (.iconst 0, 1) := by decide +kernel
theorem dX12_isAbove_123 : decode cX12_isAbove 123 = .ok (.ireturn, 1) := by decide +kernel
theorem dX12_isAbove_124 : decode cX12_isAbove 124 = .ok (.lload 10, 2) := by decide +kernel
theorem dX12_isAbove_126 : decode cX12_isAbove 126 = .ok (.lload 6, 2) := by decide +kernel
theorem dX12_isAbove_128 : decode cX12_isAbove 128 = .ok (.lmul, 1) := by decide +kernel
theorem dX12_isAbove_129 : decode cX12_isAbove 129 = .ok (.lstore 16, 2) := by decide +kernel
theorem dX12_isAbove_131 : decode cX12_isAbove 131 = .ok (.lload 12, 2) := by decide +kernel
theorem dX12_isAbove_133 : decode cX12_isAbove 133 = .ok (.lload 6, 2) := by decide +kernel
theorem dX12_isAbove_135 : decode cX12_isAbove 135 = .ok (.lmul, 1) := by decide +kernel
theorem dX12_isAbove_136 : decode cX12_isAbove 136 = .ok (.lstore 18, 2) := by decide +kernel
theorem dX12_isAbove_138 : decode cX12_isAbove 138 = .ok (.lload 14, 2) := by decide +kernel
theorem dX12_isAbove_140 : decode cX12_isAbove 140 = .ok (.lload 6, 2) := by decide +kernel
theorem dX12_isAbove_142 : decode cX12_isAbove 142 = .ok (.lmul, 1) := by decide +kernel
theorem dX12_isAbove_143 : decode cX12_isAbove 143 = .ok (.lstore 20, 2) := by decide +kernel
theorem dX12_isAbove_145 : decode cX12_isAbove 145 = .ok (.lload 16, 2) := by decide +kernel
theorem dX12_isAbove_147 : decode cX12_isAbove 147 = .ok (.ldc2_w 18, 3) := by decide +kernel
theorem dX12_isAbove_150 : decode cX12_isAbove 150 = .ok (.land, 1) := by decide +kernel
theorem dX12_isAbove_151 : decode cX12_isAbove 151 = .ok (.lstore 22, 2) := by decide +kernel
theorem dX12_isAbove_153 : decode cX12_isAbove 153 = .ok (.lload 16, 2) := by decide +kernel
theorem dX12_isAbove_155 : decode cX12_isAbove 155 = .ok (.bipush 32, 2) := by decide +kernel
theorem dX12_isAbove_157 : decode cX12_isAbove 157 = .ok (.lushr, 1) := by decide +kernel
theorem dX12_isAbove_158 : decode cX12_isAbove 158 = .ok (.lload 18, 2) := by decide +kernel
theorem dX12_isAbove_160 : decode cX12_isAbove 160 = .ok (.ldc2_w 18, 3) := by decide +kernel
theorem dX12_isAbove_163 : decode cX12_isAbove 163 = .ok (.land, 1) := by decide +kernel
theorem dX12_isAbove_164 : decode cX12_isAbove 164 = .ok (.ladd, 1) := by decide +kernel
theorem dX12_isAbove_165 : decode cX12_isAbove 165 = .ok (.lload 10, 2) := by decide +kernel
theorem dX12_isAbove_167 : decode cX12_isAbove 167 = .ok (.lload 4, 2) := by decide +kernel
theorem dX12_isAbove_169 : decode cX12_isAbove 169 = .ok (.lmul, 1) := by decide +kernel
theorem dX12_isAbove_170 : decode cX12_isAbove 170 = .ok (.ladd, 1) := by decide +kernel
theorem dX12_isAbove_171 : decode cX12_isAbove 171 = .ok (.lstore 24, 2) := by decide +kernel
theorem dX12_isAbove_173 : decode cX12_isAbove 173 = .ok (.lload 18, 2) := by decide +kernel
theorem dX12_isAbove_175 : decode cX12_isAbove 175 = .ok (.bipush 32, 2) := by decide +kernel
theorem dX12_isAbove_177 : decode cX12_isAbove 177 = .ok (.lushr, 1) := by decide +kernel
theorem dX12_isAbove_178 : decode cX12_isAbove 178 = .ok (.lload 20, 2) := by decide +kernel
theorem dX12_isAbove_180 : decode cX12_isAbove 180 = .ok (.ladd, 1) := by decide +kernel
theorem dX12_isAbove_181 : decode cX12_isAbove 181 = .ok (.lload 12, 2) := by decide +kernel
theorem dX12_isAbove_183 : decode cX12_isAbove 183 = .ok (.lload 4, 2) := by decide +kernel
theorem dX12_isAbove_185 : decode cX12_isAbove 185 = .ok (.lmul, 1) := by decide +kernel
theorem dX12_isAbove_186 : decode cX12_isAbove 186 = .ok (.ladd, 1) := by decide +kernel
theorem dX12_isAbove_187 : decode cX12_isAbove 187 = .ok (.lload 24, 2) := by decide +kernel
theorem dX12_isAbove_189 : decode cX12_isAbove 189 = .ok (.bipush 32, 2) := by decide +kernel
theorem dX12_isAbove_191 : decode cX12_isAbove 191 = .ok (.lushr, 1) := by decide +kernel
theorem dX12_isAbove_192 : decode cX12_isAbove 192 = .ok (.ladd, 1) := by decide +kernel
theorem dX12_isAbove_193 : decode cX12_isAbove 193 = .ok (.lstore 26, 2) := by decide +kernel
theorem dX12_isAbove_195 : decode cX12_isAbove 195 = .ok (.lload 14, 2) := by decide +kernel
theorem dX12_isAbove_197 : decode cX12_isAbove 197 = .ok (.lload 4, 2) := by decide +kernel
theorem dX12_isAbove_199 : decode cX12_isAbove 199 = .ok (.lmul, 1) := by decide +kernel
theorem dX12_isAbove_200 : decode cX12_isAbove 200 = .ok (.lload 26, 2) := by decide +kernel
theorem dX12_isAbove_202 : decode cX12_isAbove 202 = .ok (.bipush 32, 2) := by decide +kernel
theorem dX12_isAbove_204 : decode cX12_isAbove 204 = .ok (.lushr, 1) := by decide +kernel
theorem dX12_isAbove_205 : decode cX12_isAbove 205 = .ok (.ladd, 1) := by decide +kernel
theorem dX12_isAbove_206 : decode cX12_isAbove 206 = .ok (.lstore 28, 2) := by decide +kernel
theorem dX12_isAbove_208 : decode cX12_isAbove 208 = .ok (.lload 24, 2) := by decide +kernel
theorem dX12_isAbove_210 : decode cX12_isAbove 210 = .ok (.ldc2_w 18, 3) := by decide +kernel
theorem dX12_isAbove_213 : decode cX12_isAbove 213 = .ok (.land, 1) := by decide +kernel
theorem dX12_isAbove_214 : decode cX12_isAbove 214 = .ok (.lstore 24, 2) := by decide +kernel
theorem dX12_isAbove_216 : decode cX12_isAbove 216 = .ok (.lload 26, 2) := by decide +kernel
theorem dX12_isAbove_218 : decode cX12_isAbove 218 = .ok (.ldc2_w 18, 3) := by decide +kernel
theorem dX12_isAbove_221 : decode cX12_isAbove 221 = .ok (.land, 1) := by decide +kernel
theorem dX12_isAbove_222 : decode cX12_isAbove 222 = .ok (.lstore 26, 2) := by decide +kernel
theorem dX12_isAbove_224 : decode cX12_isAbove 224 = .ok (.lload 28, 2) := by decide +kernel
theorem dX12_isAbove_226 : decode cX12_isAbove 226 = .ok (.iload_n 2, 1) := by decide +kernel
theorem dX12_isAbove_227 : decode cX12_isAbove 227 = .ok (.i2l, 1) := by decide +kernel
theorem dX12_isAbove_228 : decode cX12_isAbove 228 = .ok (.lcmp, 1) := by decide +kernel
theorem dX12_isAbove_229 : decode cX12_isAbove 229 = .ok (.ifCond .gt 32, 3) := by decide +kernel
theorem dX12_isAbove_232 : decode cX12_isAbove 232 = .ok (.lload 28, 2) := by decide +kernel
theorem dX12_isAbove_234 : decode cX12_isAbove 234 = .ok (.iload_n 2, 1) := by decide +kernel
theorem dX12_isAbove_235 : decode cX12_isAbove 235 = .ok (.i2l, 1) := by decide +kernel
theorem dX12_isAbove_236 : decode cX12_isAbove 236 = .ok (.lcmp, 1) := by decide +kernel
theorem dX12_isAbove_237 : decode cX12_isAbove 237 = .ok (.ifCond .ne 28, 3) := by decide +kernel
theorem dX12_isAbove_240 : decode cX12_isAbove 240 = .ok (.lload 26, 2) := by decide +kernel
theorem dX12_isAbove_242 : decode cX12_isAbove 242 = .ok (.lconst 0, 1) := by decide +kernel
theorem dX12_isAbove_243 : decode cX12_isAbove 243 = .ok (.lcmp, 1) := by decide +kernel
theorem dX12_isAbove_244 : decode cX12_isAbove 244 = .ok (.ifCond .gt 17, 3) := by decide +kernel
theorem dX12_isAbove_247 : decode cX12_isAbove 247 = .ok (.lload 24, 2) := by decide +kernel
theorem dX12_isAbove_249 : decode cX12_isAbove 249 = .ok (.lconst 0, 1) := by decide +kernel
theorem dX12_isAbove_250 : decode cX12_isAbove 250 = .ok (.lcmp, 1) := by decide +kernel
theorem dX12_isAbove_251 : decode cX12_isAbove 251 = .ok (.ifCond .gt 10, 3) := by decide +kernel
theorem dX12_isAbove_254 : decode cX12_isAbove 254 = .ok (.lload 22, 2) := by decide +kernel
theorem dX12_isAbove_256 : decode cX12_isAbove 256 = .ok (.lconst 0, 1) := by decide +kernel
theorem dX12_isAbove_257 : decode cX12_isAbove 257 = .ok (.lcmp, 1) := by decide +kernel
theorem dX12_isAbove_258 : decode cX12_isAbove 258 = .ok (.ifCond .le 7, 3) := by decide +kernel
theorem dX12_isAbove_261 : decode cX12_isAbove 261 = .ok (.iconst 1, 1) := by decide +kernel
theorem dX12_isAbove_262 : decode cX12_isAbove 262 = .ok (.goto 4, 3) := by decide +kernel
theorem dX12_isAbove_265 : decode cX12_isAbove 265 = .ok (.iconst 0, 1) := by decide +kernel
theorem dX12_isAbove_266 : decode cX12_isAbove 266 = .ok (.ireturn, 1) := by decide +kernel
theorem dX12_turn_0 : decode cX12_turn 0 = .ok (.iload_n 0, 1) := by decide +kernel
theorem dX12_turn_1 : decode cX12_turn 1 = .ok (.iload_n 1, 1) := by decide +kernel
theorem dX12_turn_2 : decode cX12_turn 2 = .ok (.iushr, 1) := by decide +kernel
theorem dX12_turn_3 : decode cX12_turn 3 = .ok (.iload_n 0, 1) := by decide +kernel
theorem dX12_turn_4 : decode cX12_turn 4 = .ok (.bipush 32, 2) := by decide +kernel
theorem dX12_turn_6 : decode cX12_turn 6 = .ok (.iload_n 1, 1) := by decide +kernel
theorem dX12_turn_7 : decode cX12_turn 7 = .ok (.isub, 1) := by decide +kernel
theorem dX12_turn_8 : decode cX12_turn 8 = .ok (.ishl, 1) := by decide +kernel
theorem dX12_turn_9 : decode cX12_turn 9 = .ok (.ior, 1) := by decide +kernel
theorem dX12_turn_10 : decode cX12_turn 10 = .ok (.ireturn, 1) := by decide +kernel
theorem dX12_hashByte_0 : decode cX12_hashByte 0 = .ok (.aload_n 0, 1) := by decide +kernel
theorem dX12_hashByte_1 : decode cX12_hashByte 1 = .ok (.getfield 22, 3) := by decide +kernel
theorem dX12_hashByte_4 : decode cX12_hashByte 4 = .ok (.aload_n 0, 1) := by decide +kernel
theorem dX12_hashByte_5 : decode cX12_hashByte 5 = .ok (.getfield 25, 3) := by decide +kernel
theorem dX12_hashByte_8 : decode cX12_hashByte 8 = .ok (.iload_n 1, 1) := by decide +kernel
theorem dX12_hashByte_9 : decode cX12_hashByte 9 = .ok (.sipush 255, 3) := by decide +kernel
theorem dX12_hashByte_12 : decode cX12_hashByte 12 = .ok (.iand, 1) := by decide +kernel
theorem dX12_hashByte_13 : decode cX12_hashByte 13 = .ok (.iastore, 1) := by decide +kernel
theorem dX12_hashByte_14 : decode cX12_hashByte 14 = .ok (.aload_n 0, 1) := by decide +kernel
theorem dX12_hashByte_15 : decode cX12_hashByte 15 = .ok (.aload_n 0, 1) := by decide +kernel
theorem dX12_hashByte_16 : decode cX12_hashByte 16 = .ok (.getfield 25, 3) := by decide +kernel
theorem dX12_hashByte_19 : decode cX12_hashByte 19 = .ok (.iconst 1, 1) := by decide +kernel
theorem dX12_hashByte_20 : decode cX12_hashByte 20 = .ok (.iadd, 1) := by decide +kernel
theorem dX12_hashByte_21 : decode cX12_hashByte 21 = .ok (.putfield 25, 3) := by decide +kernel
theorem dX12_hashByte_24 : decode cX12_hashByte 24 = .ok (.return_, 1) := by decide +kernel
theorem dX12_digest_0 : decode cX12_digest 0 = .ok (.aload_n 0, 1) := by decide +kernel
theorem dX12_digest_1 : decode cX12_digest 1 = .ok (.getfield 25, 3) := by decide +kernel
theorem dX12_digest_4 : decode cX12_digest 4 = .ok (.istore_n 1, 1) := by decide +kernel
theorem dX12_digest_5 : decode cX12_digest 5 = .ok (.aload_n 0, 1) := by decide +kernel
theorem dX12_digest_6 : decode cX12_digest 6 = .ok (.sipush 128, 3) := by decide +kernel
theorem dX12_digest_9 : decode cX12_digest 9 = .ok (.invokevirtual 29, 3) := by decide +kernel
theorem dX12_digest_12 : decode cX12_digest 12 = .ok (.aload_n 0, 1) := by decide +kernel
theorem dX12_digest_13 : decode cX12_digest 13 = .ok (.getfield 25, 3) := by decide +kernel
theorem dX12_digest_16 : decode cX12_digest 16 = .ok (.bipush 64, 2) := by decide +kernel
theorem dX12_digest_18 : decode cX12_digest 18 = .ok (.irem, 1) := by decide +kernel
theorem dX12_digest_19 : decode cX12_digest 19 = .ok (.bipush 56, 2) := by decide +kernel
theorem dX12_digest_21 : decode cX12_digest 21 = .ok (.if_icmp .eq 11, 3) := by decide +kernel
theorem dX12_digest_24 : decode cX12_digest 24 = .ok (.aload_n 0, 1) := by decide +kernel
theorem dX12_digest_25 : decode cX12_digest 25 = .ok (.iconst 0, 1) := by decide +kernel
theorem dX12_digest_26 : decode cX12_digest 26 = .ok (.invokevirtual 29, 3) := by decide +kernel
theorem dX12_digest_29 : decode cX12_digest 29 = .ok (.goto (-17), 3) := by decide +kernel
theorem dX12_digest_32 : decode cX12_digest 32 = .ok (.iconst 0, 1) := by decide +kernel
theorem dX12_digest_33 : decode cX12_digest 33 = .ok (.istore_n 2, 1) := by decide +kernel
theorem dX12_digest_34 : decode cX12_digest 34 = .ok (.iload_n 2, 1) := by decide +kernel
theorem dX12_digest_35 : decode cX12_digest 35 = .ok (.iconst 4, 1) := by decide +kernel
theorem dX12_digest_36 : decode cX12_digest 36 = .ok (.if_icmp .ge 14, 3) := by decide +kernel
theorem dX12_digest_39 : decode cX12_digest 39 = .ok (.aload_n 0, 1) := by decide +kernel
theorem dX12_digest_40 : decode cX12_digest 40 = .ok (.iconst 0, 1) := by decide +kernel
theorem dX12_digest_41 : decode cX12_digest 41 = .ok (.invokevirtual 29, 3) := by decide +kernel
theorem dX12_digest_44 : decode cX12_digest 44 = .ok (.iinc 2 1, 3) := by decide +kernel
theorem dX12_digest_47 : decode cX12_digest 47 = .ok (.goto (-13), 3) := by decide +kernel
theorem dX12_digest_50 : decode cX12_digest 50 = .ok (.iconst 3, 1) := by decide +kernel
theorem dX12_digest_51 : decode cX12_digest 51 = .ok (.istore_n 2, 1) := by decide +kernel
theorem dX12_digest_52 : decode cX12_digest 52 = .ok (.iload_n 2, 1) := by decide +kernel
theorem dX12_digest_53 : decode cX12_digest 53 = .ok (.ifCond .lt 22, 3) := by decide +kernel
theorem dX12_digest_56 : decode cX12_digest 56 = .ok (.aload_n 0, 1) := by decide +kernel
theorem dX12_digest_57 : decode cX12_digest 57 = .ok (.bipush 8, 2) := by decide +kernel
theorem dX12_digest_59 : decode cX12_digest 59 = .ok (.iload_n 1, 1) := by decide +kernel
theorem dX12_digest_60 : decode cX12_digest 60 = .ok (.imul, 1) := by decide +kernel
theorem dX12_digest_61 : decode cX12_digest 61 = .ok (.bipush 8, 2) := by decide +kernel
theorem dX12_digest_63 : decode cX12_digest 63 = .ok (.iload_n 2, 1) := by decide +kernel
theorem dX12_digest_64 : decode cX12_digest 64 = .ok (.imul, 1) := by decide +kernel
theorem dX12_digest_65 : decode cX12_digest 65 = .ok (.iushr, 1) := by decide +kernel
theorem dX12_digest_66 : decode cX12_digest 66 = .ok (.invokevirtual 29, 3) := by decide +kernel
theorem dX12_digest_69 : decode cX12_digest 69 = .ok (.iinc 2 (-1), 3) := by decide +kernel
theorem dX12_digest_72 : decode cX12_digest 72 = .ok (.goto (-20), 3) := by decide +kernel
theorem dX12_digest_75 : decode cX12_digest 75 = .ok (.iconst 0, 1) := by decide +kernel
theorem dX12_digest_76 : decode cX12_digest 76 = .ok (.istore_n 2, 1) := by decide +kernel
theorem dX12_digest_77 : decode cX12_digest 77 = .ok (.iload_n 2, 1) := by decide +kernel
theorem dX12_digest_78 : decode cX12_digest 78 = .ok (.bipush 8, 2) := by decide +kernel
theorem dX12_digest_80 : decode cX12_digest 80 = .ok (.if_icmp .ge 21, 3) := by decide +kernel
theorem dX12_digest_83 : decode cX12_digest 83 = .ok (.aload_n 0, 1) := by decide +kernel
theorem dX12_digest_84 : decode cX12_digest 84 = .ok (.getfield 33, 3) := by decide +kernel
theorem dX12_digest_87 : decode cX12_digest 87 = .ok (.iload_n 2, 1) := by decide +kernel
theorem dX12_digest_88 : decode cX12_digest 88 = .ok (.aload_n 0, 1) := by decide +kernel
theorem dX12_digest_89 : decode cX12_digest 89 = .ok (.getfield 1, 3) := by decide +kernel
theorem dX12_digest_92 : decode cX12_digest 92 = .ok (.iload_n 2, 1) := by decide +kernel
theorem dX12_digest_93 : decode cX12_digest 93 = .ok (.iaload, 1) := by decide +kernel
theorem dX12_digest_94 : decode cX12_digest 94 = .ok (.iastore, 1) := by decide +kernel
theorem dX12_digest_95 : decode cX12_digest 95 = .ok (.iinc 2 1, 3) := by decide +kernel
theorem dX12_digest_98 : decode cX12_digest 98 = .ok (.goto (-21), 3) := by decide +kernel
theorem dX12_digest_101 : decode cX12_digest 101 = .ok (.iconst 0, 1) := by decide +kernel
theorem dX12_digest_102 : decode cX12_digest 102 = .ok (.istore_n 2, 1) := by decide +kernel
theorem dX12_digest_103 : decode cX12_digest 103 = .ok (.iload_n 2, 1) := by decide +kernel
theorem dX12_digest_104 : decode cX12_digest 104 = .ok (.aload_n 0, 1) := by decide +kernel
theorem dX12_digest_105 : decode cX12_digest 105 = .ok (.getfield 25, 3) := by decide +kernel
theorem dX12_digest_108 : decode cX12_digest 108 = .ok (.if_icmp .ge 14, 3) := by decide +kernel
theorem dX12_digest_111 : decode cX12_digest 111 = .ok (.aload_n 0, 1) := by decide +kernel
theorem dX12_digest_112 : decode cX12_digest 112 = .ok (.iload_n 2, 1) := by decide +kernel
theorem dX12_digest_113 : decode cX12_digest 113 = .ok (.invokevirtual 36, 3) := by decide +kernel
theorem dX12_digest_116 : decode cX12_digest 116 = .ok (.iinc 2 64, 3) := by decide +kernel
theorem dX12_digest_119 : decode cX12_digest 119 = .ok (.goto (-16), 3) := by decide +kernel
theorem dX12_digest_122 : decode cX12_digest 122 = .ok (.return_, 1) := by decide +kernel
theorem dX12_compress_0 : decode cX12_compress 0 = .ok (.iconst 0, 1) := by decide +kernel
theorem dX12_compress_1 : decode cX12_compress 1 = .ok (.istore_n 2, 1) := by decide +kernel
theorem dX12_compress_2 : decode cX12_compress 2 = .ok (.iload_n 2, 1) := by decide +kernel
theorem dX12_compress_3 : decode cX12_compress 3 = .ok (.bipush 16, 2) := by decide +kernel
theorem dX12_compress_5 : decode cX12_compress 5 = .ok (.if_icmp .ge 73, 3) := by decide +kernel
theorem dX12_compress_8 : decode cX12_compress 8 = .ok (.aload_n 0, 1) := by decide +kernel
theorem dX12_compress_9 : decode cX12_compress 9 = .ok (.getfield 39, 3) := by decide +kernel
theorem dX12_compress_12 : decode cX12_compress 12 = .ok (.iload_n 2, 1) := by decide +kernel
theorem dX12_compress_13 : decode cX12_compress 13 = .ok (.aload_n 0, 1) := by decide +kernel
theorem dX12_compress_14 : decode cX12_compress 14 = .ok (.getfield 22, 3) := by decide +kernel
theorem dX12_compress_17 : decode cX12_compress 17 = .ok (.iload_n 1, 1) := by decide +kernel
theorem dX12_compress_18 : decode cX12_compress 18 = .ok (.iconst 4, 1) := by decide +kernel
theorem dX12_compress_19 : decode cX12_compress 19 = .ok (.iload_n 2, 1) := by decide +kernel
theorem dX12_compress_20 : decode cX12_compress 20 = .ok (.imul, 1) := by decide +kernel
theorem dX12_compress_21 : decode cX12_compress 21 = .ok (.iadd, 1) := by decide +kernel
theorem dX12_compress_22 : decode cX12_compress 22 = .ok (.iaload, 1) := by decide +kernel
theorem dX12_compress_23 : decode cX12_compress 23 = .ok (.bipush 24, 2) := by decide +kernel
theorem dX12_compress_25 : decode cX12_compress 25 = .ok (.ishl, 1) := by decide +kernel
theorem dX12_compress_26 : decode cX12_compress 26 = .ok (.aload_n 0, 1) := by decide +kernel
theorem dX12_compress_27 : decode cX12_compress 27 = .ok (.getfield 22, 3) := by decide +kernel
theorem dX12_compress_30 : decode cX12_compress 30 = .ok (.iload_n 1, 1) := by decide +kernel
theorem dX12_compress_31 : decode cX12_compress 31 = .ok (.iconst 4, 1) := by decide +kernel
theorem dX12_compress_32 : decode cX12_compress 32 = .ok (.iload_n 2, 1) := by decide +kernel
theorem dX12_compress_33 : decode cX12_compress 33 = .ok (.imul, 1) := by decide +kernel
theorem dX12_compress_34 : decode cX12_compress 34 = .ok (.iadd, 1) := by decide +kernel
theorem dX12_compress_35 : decode cX12_compress 35 = .ok (.iconst 1, 1) := by decide +kernel
theorem dX12_compress_36 : decode cX12_compress 36 = .ok (.iadd, 1) := by decide +kernel
theorem dX12_compress_37 : decode cX12_compress 37 = .ok (.iaload, 1) := by decide +kernel
theorem dX12_compress_38 : decode cX12_compress 38 = .ok (.bipush 16, 2) := by decide +kernel
theorem dX12_compress_40 : decode cX12_compress 40 = .ok (.ishl, 1) := by decide +kernel
theorem dX12_compress_41 : decode cX12_compress 41 = .ok (.ior, 1) := by decide +kernel
theorem dX12_compress_42 : decode cX12_compress 42 = .ok (.aload_n 0, 1) := by decide +kernel
theorem dX12_compress_43 : decode cX12_compress 43 = .ok (.getfield 22, 3) := by decide +kernel
theorem dX12_compress_46 : decode cX12_compress 46 = .ok (.iload_n 1, 1) := by decide +kernel
theorem dX12_compress_47 : decode cX12_compress 47 = .ok (.iconst 4, 1) := by decide +kernel
theorem dX12_compress_48 : decode cX12_compress 48 = .ok (.iload_n 2, 1) := by decide +kernel
theorem dX12_compress_49 : decode cX12_compress 49 = .ok (.imul, 1) := by decide +kernel
theorem dX12_compress_50 : decode cX12_compress 50 = .ok (.iadd, 1) := by decide +kernel
theorem dX12_compress_51 : decode cX12_compress 51 = .ok (.iconst 2, 1) := by decide +kernel
theorem dX12_compress_52 : decode cX12_compress 52 = .ok (.iadd, 1) := by decide +kernel
theorem dX12_compress_53 : decode cX12_compress 53 = .ok (.iaload, 1) := by decide +kernel
theorem dX12_compress_54 : decode cX12_compress 54 = .ok (.bipush 8, 2) := by decide +kernel
theorem dX12_compress_56 : decode cX12_compress 56 = .ok (.ishl, 1) := by decide +kernel
theorem dX12_compress_57 : decode cX12_compress 57 = .ok (.ior, 1) := by decide +kernel
theorem dX12_compress_58 : decode cX12_compress 58 = .ok (.aload_n 0, 1) := by decide +kernel
theorem dX12_compress_59 : decode cX12_compress 59 = .ok (.getfield 22, 3) := by decide +kernel
theorem dX12_compress_62 : decode cX12_compress 62 = .ok (.iload_n 1, 1) := by decide +kernel
theorem dX12_compress_63 : decode cX12_compress 63 = .ok (.iconst 4, 1) := by decide +kernel
theorem dX12_compress_64 : decode cX12_compress 64 = .ok (.iload_n 2, 1) := by decide +kernel
theorem dX12_compress_65 : decode cX12_compress 65 = .ok (.imul, 1) := by decide +kernel
theorem dX12_compress_66 : decode cX12_compress 66 = .ok (.iadd, 1) := by decide +kernel
theorem dX12_compress_67 : decode cX12_compress 67 = .ok (.iconst 3, 1) := by decide +kernel
theorem dX12_compress_68 : decode cX12_compress 68 = .ok (.iadd, 1) := by decide +kernel
theorem dX12_compress_69 : decode cX12_compress 69 = .ok (.iaload, 1) := by decide +kernel
theorem dX12_compress_70 : decode cX12_compress 70 = .ok (.ior, 1) := by decide +kernel
theorem dX12_compress_71 : decode cX12_compress 71 = .ok (.iastore, 1) := by decide +kernel
theorem dX12_compress_72 : decode cX12_compress 72 = .ok (.iinc 2 1, 3) := by decide +kernel
theorem dX12_compress_75 : decode cX12_compress 75 = .ok (.goto (-73), 3) := by decide +kernel
theorem dX12_compress_78 : decode cX12_compress 78 = .ok (.bipush 16, 2) := by decide +kernel
theorem dX12_compress_80 : decode cX12_compress 80 = .ok (.istore_n 2, 1) := by decide +kernel
theorem dX12_compress_81 : decode cX12_compress 81 = .ok (.iload_n 2, 1) := by decide +kernel
theorem dX12_compress_82 : decode cX12_compress 82 = .ok (.bipush 64, 2) := by decide +kernel
theorem dX12_compress_84 : decode cX12_compress 84 = .ok (.if_icmp .ge 94, 3) := by decide +kernel
theorem dX12_compress_87 : decode cX12_compress 87 = .ok (.aload_n 0, 1) := by decide +kernel
theorem dX12_compress_88 : decode cX12_compress 88 = .ok (.getfield 39, 3) := by decide +kernel
theorem dX12_compress_91 : decode cX12_compress 91 = .ok (.iload_n 2, 1) := by decide +kernel
theorem dX12_compress_92 : decode cX12_compress 92 = .ok (.bipush 15, 2) := by decide +kernel
theorem dX12_compress_94 : decode cX12_compress 94 = .ok (.isub, 1) := by decide +kernel
theorem dX12_compress_95 : decode cX12_compress 95 = .ok (.iaload, 1) := by decide +kernel
theorem dX12_compress_96 : decode cX12_compress 96 = .ok (.istore_n 3, 1) := by decide +kernel
theorem dX12_compress_97 : decode cX12_compress 97 = .ok (.aload_n 0, 1) := by decide +kernel
theorem dX12_compress_98 : decode cX12_compress 98 = .ok (.getfield 39, 3) := by decide +kernel
theorem dX12_compress_101 : decode cX12_compress 101 = .ok (.iload_n 2, 1) := by decide +kernel
theorem dX12_compress_102 : decode cX12_compress 102 = .ok (.iconst 2, 1) := by decide +kernel
theorem dX12_compress_103 : decode cX12_compress 103 = .ok (.isub, 1) := by decide +kernel
theorem dX12_compress_104 : decode cX12_compress 104 = .ok (.iaload, 1) := by decide +kernel
theorem dX12_compress_105 : decode cX12_compress 105 = .ok (.istore 4, 2) := by decide +kernel
theorem dX12_compress_107 : decode cX12_compress 107 = .ok (.aload_n 0, 1) := by decide +kernel
theorem dX12_compress_108 : decode cX12_compress 108 = .ok (.getfield 39, 3) := by decide +kernel
theorem dX12_compress_111 : decode cX12_compress 111 = .ok (.iload_n 2, 1) := by decide +kernel
theorem dX12_compress_112 : decode cX12_compress 112 = .ok (.aload_n 0, 1) := by decide +kernel
theorem dX12_compress_113 : decode cX12_compress 113 = .ok (.getfield 39, 3) := by decide +kernel
theorem dX12_compress_116 : decode cX12_compress 116 = .ok (.iload_n 2, 1) := by decide +kernel
theorem dX12_compress_117 : decode cX12_compress 117 = .ok (.bipush 16, 2) := by decide +kernel
theorem dX12_compress_119 : decode cX12_compress 119 = .ok (.isub, 1) := by decide +kernel
theorem dX12_compress_120 : decode cX12_compress 120 = .ok (.iaload, 1) := by decide +kernel
theorem dX12_compress_121 : decode cX12_compress 121 = .ok (.iload_n 3, 1) := by decide +kernel
theorem dX12_compress_122 : decode cX12_compress 122 = .ok (.bipush 7, 2) := by decide +kernel
theorem dX12_compress_124 : decode cX12_compress 124 = .ok (.invokestatic 42, 3) := by decide +kernel
theorem dX12_compress_127 : decode cX12_compress 127 = .ok (.iload_n 3, 1) := by decide +kernel
theorem dX12_compress_128 : decode cX12_compress 128 = .ok (.bipush 18, 2) := by decide +kernel
theorem dX12_compress_130 : decode cX12_compress 130 = .ok (.invokestatic 42, 3) := by decide +kernel
theorem dX12_compress_133 : decode cX12_compress 133 = .ok (.ixor, 1) := by decide +kernel
theorem dX12_compress_134 : decode cX12_compress 134 = .ok (.iload_n 3, 1) := by decide +kernel
theorem dX12_compress_135 : decode cX12_compress 135 = .ok (.iconst 3, 1) := by decide +kernel
theorem dX12_compress_136 : decode cX12_compress 136 = .ok (.iushr, 1) := by decide +kernel
theorem dX12_compress_137 : decode cX12_compress 137 = .ok (.ixor, 1) := by decide +kernel
theorem dX12_compress_138 : decode cX12_compress 138 = .ok (.iadd, 1) := by decide +kernel
theorem dX12_compress_139 : decode cX12_compress 139 = .ok (.aload_n 0, 1) := by decide +kernel
theorem dX12_compress_140 : decode cX12_compress 140 = .ok (.getfield 39, 3) := by decide +kernel
theorem dX12_compress_143 : decode cX12_compress 143 = .ok (.iload_n 2, 1) := by decide +kernel
theorem dX12_compress_144 : decode cX12_compress 144 = .ok (.bipush 7, 2) := by decide +kernel
theorem dX12_compress_146 : decode cX12_compress 146 = .ok (.isub, 1) := by decide +kernel
theorem dX12_compress_147 : decode cX12_compress 147 = .ok (.iaload, 1) := by decide +kernel
theorem dX12_compress_148 : decode cX12_compress 148 = .ok (.iadd, 1) := by decide +kernel
theorem dX12_compress_149 : decode cX12_compress 149 = .ok (.iload 4, 2) := by decide +kernel
theorem dX12_compress_151 : decode cX12_compress 151 = .ok (.bipush 17, 2) := by decide +kernel
theorem dX12_compress_153 : decode cX12_compress 153 = .ok (.invokestatic 42, 3) := by decide +kernel
theorem dX12_compress_156 : decode cX12_compress 156 = .ok (.iload 4, 2) := by decide +kernel
theorem dX12_compress_158 : decode cX12_compress 158 = .ok (.bipush 19, 2) := by decide +kernel
theorem dX12_compress_160 : decode cX12_compress 160 = .ok (.invokestatic 42, 3) := by decide +kernel
theorem dX12_compress_163 : decode cX12_compress 163 = .ok (.ixor, 1) := by decide +kernel
theorem dX12_compress_164 : decode cX12_compress 164 = .ok (.iload 4, 2) := by decide +kernel
theorem dX12_compress_166 : decode cX12_compress 166 = .ok (.bipush 10, 2) := by decide +kernel
theorem dX12_compress_168 : decode cX12_compress 168 = .ok (.iushr, 1) := by decide +kernel
theorem dX12_compress_169 : decode cX12_compress 169 = .ok (.ixor, 1) := by decide +kernel
theorem dX12_compress_170 : decode cX12_compress 170 = .ok (.iadd, 1) := by decide +kernel
theorem dX12_compress_171 : decode cX12_compress 171 = .ok (.iastore, 1) := by decide +kernel
theorem dX12_compress_172 : decode cX12_compress 172 = .ok (.iinc 2 1, 3) := by decide +kernel
theorem dX12_compress_175 : decode cX12_compress 175 = .ok (.goto (-94), 3) := by decide +kernel
theorem dX12_compress_178 : decode cX12_compress 178 = .ok (.aload_n 0, 1) := by decide +kernel
theorem dX12_compress_179 : decode cX12_compress 179 = .ok (.getfield 33, 3) := by decide +kernel
theorem dX12_compress_182 : decode cX12_compress 182 = .ok (.iconst 0, 1) := by decide +kernel
theorem dX12_compress_183 : decode cX12_compress 183 = .ok (.iaload, 1) := by decide +kernel
theorem dX12_compress_184 : decode cX12_compress 184 = .ok (.istore_n 2, 1) := by decide +kernel
theorem dX12_compress_185 : decode cX12_compress 185 = .ok (.aload_n 0, 1) := by decide +kernel
theorem dX12_compress_186 : decode cX12_compress 186 = .ok (.getfield 33, 3) := by decide +kernel
theorem dX12_compress_189 : decode cX12_compress 189 = .ok (.iconst 1, 1) := by decide +kernel
theorem dX12_compress_190 : decode cX12_compress 190 = .ok (.iaload, 1) := by decide +kernel
theorem dX12_compress_191 : decode cX12_compress 191 = .ok (.istore_n 3, 1) := by decide +kernel
theorem dX12_compress_192 : decode cX12_compress 192 = .ok (.aload_n 0, 1) := by decide +kernel
theorem dX12_compress_193 : decode cX12_compress 193 = .ok (.getfield 33, 3) := by decide +kernel
theorem dX12_compress_196 : decode cX12_compress 196 = .ok (.iconst 2, 1) := by decide +kernel
theorem dX12_compress_197 : decode cX12_compress 197 = .ok (.iaload, 1) := by decide +kernel
theorem dX12_compress_198 : decode cX12_compress 198 = .ok (.istore 4, 2) := by decide +kernel
theorem dX12_compress_200 : decode cX12_compress 200 = .ok (.aload_n 0, 1) := by decide +kernel
theorem dX12_compress_201 : decode cX12_compress 201 = .ok (.getfield 33, 3) := by decide +kernel
theorem dX12_compress_204 : decode cX12_compress 204 = .ok (.iconst 3, 1) := by decide +kernel
theorem dX12_compress_205 : decode cX12_compress 205 = .ok (.iaload, 1) := by decide +kernel
theorem dX12_compress_206 : decode cX12_compress 206 = .ok (.istore 5, 2) := by decide +kernel
theorem dX12_compress_208 : decode cX12_compress 208 = .ok (.aload_n 0, 1) := by decide +kernel
theorem dX12_compress_209 : decode cX12_compress 209 = .ok (.getfield 33, 3) := by decide +kernel
theorem dX12_compress_212 : decode cX12_compress 212 = .ok (.iconst 4, 1) := by decide +kernel
theorem dX12_compress_213 : decode cX12_compress 213 = .ok (.iaload, 1) := by decide +kernel
theorem dX12_compress_214 : decode cX12_compress 214 = .ok (.istore 6, 2) := by decide +kernel
theorem dX12_compress_216 : decode cX12_compress 216 = .ok (.aload_n 0, 1) := by decide +kernel
theorem dX12_compress_217 : decode cX12_compress 217 = .ok (.getfield 33, 3) := by decide +kernel
theorem dX12_compress_220 : decode cX12_compress 220 = .ok (.iconst 5, 1) := by decide +kernel
theorem dX12_compress_221 : decode cX12_compress 221 = .ok (.iaload, 1) := by decide +kernel
theorem dX12_compress_222 : decode cX12_compress 222 = .ok (.istore 7, 2) := by decide +kernel
theorem dX12_compress_224 : decode cX12_compress 224 = .ok (.aload_n 0, 1) := by decide +kernel
theorem dX12_compress_225 : decode cX12_compress 225 = .ok (.getfield 33, 3) := by decide +kernel
theorem dX12_compress_228 : decode cX12_compress 228 = .ok (.bipush 6, 2) := by decide +kernel
theorem dX12_compress_230 : decode cX12_compress 230 = .ok (.iaload, 1) := by decide +kernel
theorem dX12_compress_231 : decode cX12_compress 231 = .ok (.istore 8, 2) := by decide +kernel
theorem dX12_compress_233 : decode cX12_compress 233 = .ok (.aload_n 0, 1) := by decide +kernel
theorem dX12_compress_234 : decode cX12_compress 234 = .ok (.getfield 33, 3) := by decide +kernel
theorem dX12_compress_237 : decode cX12_compress 237 = .ok (.bipush 7, 2) := by decide +kernel
theorem dX12_compress_239 : decode cX12_compress 239 = .ok (.iaload, 1) := by decide +kernel
theorem dX12_compress_240 : decode cX12_compress 240 = .ok (.istore 9, 2) := by decide +kernel
theorem dX12_compress_242 : decode cX12_compress 242 = .ok (.iconst 0, 1) := by decide +kernel
theorem dX12_compress_243 : decode cX12_compress 243 = .ok (.istore 10, 2) := by decide +kernel
theorem dX12_compress_245 : decode cX12_compress 245 = .ok (.iload 10, 2) := by decide +kernel
theorem dX12_compress_247 : decode cX12_compress 247 = .ok (.bipush 64, 2) := by decide +kernel
theorem dX12_compress_249 : decode cX12_compress 249 = .ok (.if_icmp .ge 136, 3) := by decide +kernel
theorem dX12_compress_252 : decode cX12_compress 252 = .ok (.iload 9, 2) := by decide +kernel
theorem dX12_compress_254 : decode cX12_compress 254 = .ok (.iload 6, 2) := by decide +kernel
theorem dX12_compress_256 : decode cX12_compress 256 = .ok (.bipush 6, 2) := by decide +kernel
theorem dX12_compress_258 : decode cX12_compress 258 = .ok (.invokestatic 42, 3) := by decide +kernel
theorem dX12_compress_261 : decode cX12_compress 261 = .ok (.iload 6, 2) := by decide +kernel
theorem dX12_compress_263 : decode cX12_compress 263 = .ok (.bipush 11, 2) := by decide +kernel
theorem dX12_compress_265 : decode cX12_compress 265 = .ok (.invokestatic 42, 3) := by decide +kernel
theorem dX12_compress_268 : decode cX12_compress 268 = .ok (.ixor, 1) := by decide +kernel
theorem dX12_compress_269 : decode cX12_compress 269 = .ok (.iload 6, 2) := by decide +kernel
theorem dX12_compress_271 : decode cX12_compress 271 = .ok (.bipush 25, 2) := by decide +kernel
theorem dX12_compress_273 : decode cX12_compress 273 = .ok (.invokestatic 42, 3) := by decide +kernel
theorem dX12_compress_276 : decode cX12_compress 276 = .ok (.ixor, 1) := by decide +kernel
theorem dX12_compress_277 : decode cX12_compress 277 = .ok (.iadd, 1) := by decide +kernel
theorem dX12_compress_278 : decode cX12_compress 278 = .ok (.iload 6, 2) := by decide +kernel
theorem dX12_compress_280 : decode cX12_compress 280 = .ok (.iload 7, 2) := by decide +kernel
theorem dX12_compress_282 : decode cX12_compress 282 = .ok (.iand, 1) := by decide +kernel
theorem dX12_compress_283 : decode cX12_compress 283 = .ok (.iload 6, 2) := by decide +kernel
theorem dX12_compress_285 : decode cX12_compress 285 = .ok (.iconst (-1), 1) := by decide +kernel
theorem dX12_compress_286 : decode cX12_compress 286 = .ok (.ixor, 1) := by decide +kernel
theorem dX12_compress_287 : decode cX12_compress 287 = .ok (.iload 8, 2) := by decide +kernel
theorem dX12_compress_289 : decode cX12_compress 289 = .ok (.iand, 1) := by decide +kernel
theorem dX12_compress_290 : decode cX12_compress 290 = .ok (.ixor, 1) := by decide +kernel
theorem dX12_compress_291 : decode cX12_compress 291 = .ok (.iadd, 1) := by decide +kernel
theorem dX12_compress_292 : decode cX12_compress 292 = .ok (.aload_n 0, 1) := by decide +kernel
theorem dX12_compress_293 : decode cX12_compress 293 = .ok (.getfield 11, 3) := by decide +kernel
theorem dX12_compress_296 : decode cX12_compress 296 = .ok (.iload 10, 2) := by decide +kernel
theorem dX12_compress_298 : decode cX12_compress 298 = .ok (.iaload, 1) := by decide +kernel
theorem dX12_compress_299 : decode cX12_compress 299 = .ok (.iadd, 1) := by decide +kernel
theorem dX12_compress_300 : decode cX12_compress 300 = .ok (.aload_n 0, 1) := by decide +kernel
theorem dX12_compress_301 : decode cX12_compress 301 = .ok (.getfield 39, 3) := by decide +kernel
theorem dX12_compress_304 : decode cX12_compress 304 = .ok (.iload 10, 2) := by decide +kernel
theorem dX12_compress_306 : decode cX12_compress 306 = .ok (.iaload, 1) := by decide +kernel
theorem dX12_compress_307 : decode cX12_compress 307 = .ok (.iadd, 1) := by decide +kernel
theorem dX12_compress_308 : decode cX12_compress 308 = .ok (.istore 11, 2) := by decide +kernel
theorem dX12_compress_310 : decode cX12_compress 310 = .ok (.iload_n 2, 1) := by decide +kernel
theorem dX12_compress_311 : decode cX12_compress 311 = .ok (.iconst 2, 1) := by decide +kernel
theorem dX12_compress_312 : decode cX12_compress 312 = .ok (.invokestatic 42, 3) := by decide +kernel
theorem dX12_compress_315 : decode cX12_compress 315 = .ok (.iload_n 2, 1) := by decide +kernel
theorem dX12_compress_316 : decode cX12_compress 316 = .ok (.bipush 13, 2) := by decide +kernel
theorem dX12_compress_318 : decode cX12_compress 318 = .ok (.invokestatic 42, 3) := by decide +kernel
theorem dX12_compress_321 : decode cX12_compress 321 = .ok (.ixor, 1) := by decide +kernel
theorem dX12_compress_322 : decode cX12_compress 322 = .ok (.iload_n 2, 1) := by decide +kernel
theorem dX12_compress_323 : decode cX12_compress 323 = .ok (.bipush 22, 2) := by decide +kernel
theorem dX12_compress_325 : decode cX12_compress 325 = .ok (.invokestatic 42, 3) := by decide +kernel
theorem dX12_compress_328 : decode cX12_compress 328 = .ok (.ixor, 1) := by decide +kernel
theorem dX12_compress_329 : decode cX12_compress 329 = .ok (.iload_n 2, 1) := by decide +kernel
theorem dX12_compress_330 : decode cX12_compress 330 = .ok (.iload_n 3, 1) := by decide +kernel
theorem dX12_compress_331 : decode cX12_compress 331 = .ok (.iand, 1) := by decide +kernel
theorem dX12_compress_332 : decode cX12_compress 332 = .ok (.iload_n 2, 1) := by decide +kernel
theorem dX12_compress_333 : decode cX12_compress 333 = .ok (.iload 4, 2) := by decide +kernel
theorem dX12_compress_335 : decode cX12_compress 335 = .ok (.iand, 1) := by decide +kernel
theorem dX12_compress_336 : decode cX12_compress 336 = .ok (.ixor, 1) := by decide +kernel
theorem dX12_compress_337 : decode cX12_compress 337 = .ok (.iload_n 3, 1) := by decide +kernel
theorem dX12_compress_338 : decode cX12_compress 338 = .ok (.iload 4, 2) := by decide +kernel
theorem dX12_compress_340 : decode cX12_compress 340 = .ok (.iand, 1) := by decide +kernel
theorem dX12_compress_341 : decode cX12_compress 341 = .ok (.ixor, 1) := by decide +kernel
theorem dX12_compress_342 : decode cX12_compress 342 = .ok (.iadd, 1) := by decide +kernel
theorem dX12_compress_343 : decode cX12_compress 343 = .ok (.istore 12, 2) := by decide +kernel
theorem dX12_compress_345 : decode cX12_compress 345 = .ok (.iload 8, 2) := by decide +kernel
theorem dX12_compress_347 : decode cX12_compress 347 = .ok (.istore 9, 2) := by decide +kernel
theorem dX12_compress_349 : decode cX12_compress 349 = .ok (.iload 7, 2) := by decide +kernel
theorem dX12_compress_351 : decode cX12_compress 351 = .ok (.istore 8, 2) := by decide +kernel
theorem dX12_compress_353 : decode cX12_compress 353 = .ok (.iload 6, 2) := by decide +kernel
theorem dX12_compress_355 : decode cX12_compress 355 = .ok (.istore 7, 2) := by decide +kernel
theorem dX12_compress_357 : decode cX12_compress 357 = .ok (.iload 5, 2) := by decide +kernel
theorem dX12_compress_359 : decode cX12_compress 359 = .ok (.iload 11, 2) := by decide +kernel
theorem dX12_compress_361 : decode cX12_compress 361 = .ok (.iadd, 1) := by decide +kernel
theorem dX12_compress_362 : decode cX12_compress 362 = .ok (.istore 6, 2) := by decide +kernel
theorem dX12_compress_364 : decode cX12_compress 364 = .ok (.iload 4, 2) := by decide +kernel
theorem dX12_compress_366 : decode cX12_compress 366 = .ok (.istore 5, 2) := by decide +kernel
theorem dX12_compress_368 : decode cX12_compress 368 = .ok (.iload_n 3, 1) := by decide +kernel
theorem dX12_compress_369 : decode cX12_compress 369 = .ok (.istore 4, 2) := by decide +kernel
theorem dX12_compress_371 : decode cX12_compress 371 = .ok (.iload_n 2, 1) := by decide +kernel
theorem dX12_compress_372 : decode cX12_compress 372 = .ok (.istore_n 3, 1) := by decide +kernel
theorem dX12_compress_373 : decode cX12_compress 373 = .ok (.iload 11, 2) := by decide +kernel
theorem dX12_compress_375 : decode cX12_compress 375 = .ok (.iload 12, 2) := by decide +kernel
theorem dX12_compress_377 : decode cX12_compress 377 = .ok (.iadd, 1) := by decide +kernel
theorem dX12_compress_378 : decode cX12_compress 378 = .ok (.istore_n 2, 1) := by decide +kernel
theorem dX12_compress_379 : decode cX12_compress 379 = .ok (.iinc 10 1, 3) := by decide +kernel
theorem dX12_compress_382 : decode cX12_compress 382 = .ok (.goto (-137), 3) := by decide +kernel
theorem dX12_compress_385 : decode cX12_compress 385 = .ok (.aload_n 0, 1) := by decide +kernel
theorem dX12_compress_386 : decode cX12_compress 386 = .ok (.getfield 33, 3) := by decide +kernel
theorem dX12_compress_389 : decode cX12_compress 389 = .ok (.iconst 0, 1) := by decide +kernel
theorem dX12_compress_390 : decode cX12_compress 390 = .ok (.aload_n 0, 1) := by decide +kernel
theorem dX12_compress_391 : decode cX12_compress 391 = .ok (.getfield 33, 3) := by decide +kernel
theorem dX12_compress_394 : decode cX12_compress 394 = .ok (.iconst 0, 1) := by decide +kernel
theorem dX12_compress_395 : decode cX12_compress 395 = .ok (.iaload, 1) := by decide +kernel
theorem dX12_compress_396 : decode cX12_compress 396 = .ok (.iload_n 2, 1) := by decide +kernel
theorem dX12_compress_397 : decode cX12_compress 397 = .ok (.iadd, 1) := by decide +kernel
theorem dX12_compress_398 : decode cX12_compress 398 = .ok (.iastore, 1) := by decide +kernel
theorem dX12_compress_399 : decode cX12_compress 399 = .ok (.aload_n 0, 1) := by decide +kernel
theorem dX12_compress_400 : decode cX12_compress 400 = .ok (.getfield 33, 3) := by decide +kernel
theorem dX12_compress_403 : decode cX12_compress 403 = .ok (.iconst 1, 1) := by decide +kernel
theorem dX12_compress_404 : decode cX12_compress 404 = .ok (.aload_n 0, 1) := by decide +kernel
theorem dX12_compress_405 : decode cX12_compress 405 = .ok (.getfield 33, 3) := by decide +kernel
theorem dX12_compress_408 : decode cX12_compress 408 = .ok (.iconst 1, 1) := by decide +kernel
theorem dX12_compress_409 : decode cX12_compress 409 = .ok (.iaload, 1) := by decide +kernel
theorem dX12_compress_410 : decode cX12_compress 410 = .ok (.iload_n 3, 1) := by decide +kernel
theorem dX12_compress_411 : decode cX12_compress 411 = .ok (.iadd, 1) := by decide +kernel
theorem dX12_compress_412 : decode cX12_compress 412 = .ok (.iastore, 1) := by decide +kernel
theorem dX12_compress_413 : decode cX12_compress 413 = .ok (.aload_n 0, 1) := by decide +kernel
theorem dX12_compress_414 : decode cX12_compress 414 = .ok (.getfield 33, 3) := by decide +kernel
theorem dX12_compress_417 : decode cX12_compress 417 = .ok (.iconst 2, 1) := by decide +kernel
theorem dX12_compress_418 : decode cX12_compress 418 = .ok (.aload_n 0, 1) := by decide +kernel
theorem dX12_compress_419 : decode cX12_compress 419 = .ok (.getfield 33, 3) := by decide +kernel
theorem dX12_compress_422 : decode cX12_compress 422 = .ok (.iconst 2, 1) := by decide +kernel
theorem dX12_compress_423 : decode cX12_compress 423 = .ok (.iaload, 1) := by decide +kernel
theorem dX12_compress_424 : decode cX12_compress 424 = .ok (.iload 4, 2) := by decide +kernel
theorem dX12_compress_426 : decode cX12_compress 426 = .ok (.iadd, 1) := by decide +kernel
theorem dX12_compress_427 : decode cX12_compress 427 = .ok (.iastore, 1) := by decide +kernel
theorem dX12_compress_428 : decode cX12_compress 428 = .ok (.aload_n 0, 1) := by decide +kernel
theorem dX12_compress_429 : decode cX12_compress 429 = .ok (.getfield 33, 3) := by decide +kernel
theorem dX12_compress_432 : decode cX12_compress 432 = .ok (.iconst 3, 1) := by decide +kernel
theorem dX12_compress_433 : decode cX12_compress 433 = .ok (.aload_n 0, 1) := by decide +kernel
theorem dX12_compress_434 : decode cX12_compress 434 = .ok (.getfield 33, 3) := by decide +kernel
theorem dX12_compress_437 : decode cX12_compress 437 = .ok (.iconst 3, 1) := by decide +kernel
theorem dX12_compress_438 : decode cX12_compress 438 = .ok (.iaload, 1) := by decide +kernel
theorem dX12_compress_439 : decode cX12_compress 439 = .ok (.iload 5, 2) := by decide +kernel
theorem dX12_compress_441 : decode cX12_compress 441 = .ok (.iadd, 1) := by decide +kernel
theorem dX12_compress_442 : decode cX12_compress 442 = .ok (.iastore, 1) := by decide +kernel
theorem dX12_compress_443 : decode cX12_compress 443 = .ok (.aload_n 0, 1) := by decide +kernel
theorem dX12_compress_444 : decode cX12_compress 444 = .ok (.getfield 33, 3) := by decide +kernel
theorem dX12_compress_447 : decode cX12_compress 447 = .ok (.iconst 4, 1) := by decide +kernel
theorem dX12_compress_448 : decode cX12_compress 448 = .ok (.aload_n 0, 1) := by decide +kernel
theorem dX12_compress_449 : decode cX12_compress 449 = .ok (.getfield 33, 3) := by decide +kernel
theorem dX12_compress_452 : decode cX12_compress 452 = .ok (.iconst 4, 1) := by decide +kernel
theorem dX12_compress_453 : decode cX12_compress 453 = .ok (.iaload, 1) := by decide +kernel
theorem dX12_compress_454 : decode cX12_compress 454 = .ok (.iload 6, 2) := by decide +kernel
theorem dX12_compress_456 : decode cX12_compress 456 = .ok (.iadd, 1) := by decide +kernel
theorem dX12_compress_457 : decode cX12_compress 457 = .ok (.iastore, 1) := by decide +kernel
theorem dX12_compress_458 : decode cX12_compress 458 = .ok (.aload_n 0, 1) := by decide +kernel
theorem dX12_compress_459 : decode cX12_compress 459 = .ok (.getfield 33, 3) := by decide +kernel
theorem dX12_compress_462 : decode cX12_compress 462 = .ok (.iconst 5, 1) := by decide +kernel
theorem dX12_compress_463 : decode cX12_compress 463 = .ok (.aload_n 0, 1) := by decide +kernel
theorem dX12_compress_464 : decode cX12_compress 464 = .ok (.getfield 33, 3) := by decide +kernel
theorem dX12_compress_467 : decode cX12_compress 467 = .ok (.iconst 5, 1) := by decide +kernel
theorem dX12_compress_468 : decode cX12_compress 468 = .ok (.iaload, 1) := by decide +kernel
theorem dX12_compress_469 : decode cX12_compress 469 = .ok (.iload 7, 2) := by decide +kernel
theorem dX12_compress_471 : decode cX12_compress 471 = .ok (.iadd, 1) := by decide +kernel
theorem dX12_compress_472 : decode cX12_compress 472 = .ok (.iastore, 1) := by decide +kernel
theorem dX12_compress_473 : decode cX12_compress 473 = .ok (.aload_n 0, 1) := by decide +kernel
theorem dX12_compress_474 : decode cX12_compress 474 = .ok (.getfield 33, 3) := by decide +kernel
theorem dX12_compress_477 : decode cX12_compress 477 = .ok (.bipush 6, 2) := by decide +kernel
theorem dX12_compress_479 : decode cX12_compress 479 = .ok (.aload_n 0, 1) := by decide +kernel
theorem dX12_compress_480 : decode cX12_compress 480 = .ok (.getfield 33, 3) := by decide +kernel
theorem dX12_compress_483 : decode cX12_compress 483 = .ok (.bipush 6, 2) := by decide +kernel
theorem dX12_compress_485 : decode cX12_compress 485 = .ok (.iaload, 1) := by decide +kernel
theorem dX12_compress_486 : decode cX12_compress 486 = .ok (.iload 8, 2) := by decide +kernel
theorem dX12_compress_488 : decode cX12_compress 488 = .ok (.iadd, 1) := by decide +kernel
theorem dX12_compress_489 : decode cX12_compress 489 = .ok (.iastore, 1) := by decide +kernel
theorem dX12_compress_490 : decode cX12_compress 490 = .ok (.aload_n 0, 1) := by decide +kernel
theorem dX12_compress_491 : decode cX12_compress 491 = .ok (.getfield 33, 3) := by decide +kernel
theorem dX12_compress_494 : decode cX12_compress 494 = .ok (.bipush 7, 2) := by decide +kernel
theorem dX12_compress_496 : decode cX12_compress 496 = .ok (.aload_n 0, 1) := by decide +kernel
theorem dX12_compress_497 : decode cX12_compress 497 = .ok (.getfield 33, 3) := by decide +kernel
theorem dX12_compress_500 : decode cX12_compress 500 = .ok (.bipush 7, 2) := by decide +kernel
theorem dX12_compress_502 : decode cX12_compress 502 = .ok (.iaload, 1) := by decide +kernel
theorem dX12_compress_503 : decode cX12_compress 503 = .ok (.iload 9, 2) := by decide +kernel
theorem dX12_compress_505 : decode cX12_compress 505 = .ok (.iadd, 1) := by decide +kernel
theorem dX12_compress_506 : decode cX12_compress 506 = .ok (.iastore, 1) := by decide +kernel
theorem dX12_compress_507 : decode cX12_compress 507 = .ok (.return_, 1) := by decide +kernel
theorem dX12_sum_0 : decode cX12_sum 0 = .ok (.aload_n 0, 1) := by decide +kernel
theorem dX12_sum_1 : decode cX12_sum 1 = .ok (.getfield 33, 3) := by decide +kernel
theorem dX12_sum_4 : decode cX12_sum 4 = .ok (.iconst 2, 1) := by decide +kernel
theorem dX12_sum_5 : decode cX12_sum 5 = .ok (.iload_n 1, 1) := by decide +kernel
theorem dX12_sum_6 : decode cX12_sum 6 = .ok (.imul, 1) := by decide +kernel
theorem dX12_sum_7 : decode cX12_sum 7 = .ok (.iaload, 1) := by decide +kernel
theorem dX12_sum_8 : decode cX12_sum 8 = .ok (.i2l, 1) := by decide +kernel
theorem dX12_sum_9 : decode cX12_sum 9 = .ok (.bipush 32, 2) := by decide +kernel
theorem dX12_sum_11 : decode cX12_sum 11 = .ok (.lshl, 1) := by decide +kernel
theorem dX12_sum_12 : decode cX12_sum 12 = .ok (.aload_n 0, 1) := by decide +kernel
theorem dX12_sum_13 : decode cX12_sum 13 = .ok (.getfield 33, 3) := by decide +kernel
theorem dX12_sum_16 : decode cX12_sum 16 = .ok (.iconst 2, 1) := by decide +kernel
theorem dX12_sum_17 : decode cX12_sum 17 = .ok (.iload_n 1, 1) := by decide +kernel
theorem dX12_sum_18 : decode cX12_sum 18 = .ok (.imul, 1) := by decide +kernel
theorem dX12_sum_19 : decode cX12_sum 19 = .ok (.iconst 1, 1) := by decide +kernel
theorem dX12_sum_20 : decode cX12_sum 20 = .ok (.iadd, 1) := by decide +kernel
theorem dX12_sum_21 : decode cX12_sum 21 = .ok (.iaload, 1) := by decide +kernel
theorem dX12_sum_22 : decode cX12_sum 22 = .ok (.i2l, 1) := by decide +kernel
theorem dX12_sum_23 : decode cX12_sum 23 = .ok (.ldc2_w 18, 3) := by decide +kernel
theorem dX12_sum_26 : decode cX12_sum 26 = .ok (.land, 1) := by decide +kernel
theorem dX12_sum_27 : decode cX12_sum 27 = .ok (.lor, 1) := by decide +kernel
theorem dX12_sum_28 : decode cX12_sum 28 = .ok (.lreturn, 1) := by decide +kernel
theorem dX12_byteIn_0 : decode cX12_byteIn 0 = .ok (.lload_n 0, 1) := by decide +kernel
theorem dX12_byteIn_1 : decode cX12_byteIn 1 = .ok (.bipush 56, 2) := by decide +kernel
theorem dX12_byteIn_3 : decode cX12_byteIn 3 = .ok (.bipush 8, 2) := by decide +kernel
theorem dX12_byteIn_5 : decode cX12_byteIn 5 = .ok (.iload_n 2, 1) := by decide +kernel
theorem dX12_byteIn_6 : decode cX12_byteIn 6 = .ok (.imul, 1) := by decide +kernel
theorem dX12_byteIn_7 : decode cX12_byteIn 7 = .ok (.isub, 1) := by decide +kernel
theorem dX12_byteIn_8 : decode cX12_byteIn 8 = .ok (.lshr, 1) := by decide +kernel
theorem dX12_byteIn_9 : decode cX12_byteIn 9 = .ok (.l2i, 1) := by decide +kernel
theorem dX12_byteIn_10 : decode cX12_byteIn 10 = .ok (.sipush 255, 3) := by decide +kernel
theorem dX12_byteIn_13 : decode cX12_byteIn 13 = .ok (.iand, 1) := by decide +kernel
theorem dX12_byteIn_14 : decode cX12_byteIn 14 = .ok (.ireturn, 1) := by decide +kernel
theorem dX12_blockByte_0 : decode cX12_blockByte 0 = .ok (.aload_n 0, 1) := by decide +kernel
theorem dX12_blockByte_1 : decode cX12_blockByte 1 = .ok (.getfield 45, 3) := by decide +kernel
theorem dX12_blockByte_4 : decode cX12_blockByte 4 = .ok (.bipush 87, 2) := by decide +kernel
theorem dX12_blockByte_6 : decode cX12_blockByte 6 = .ok (.iload_n 1, 1) := by decide +kernel
theorem dX12_blockByte_7 : decode cX12_blockByte 7 = .ok (.imul, 1) := by decide +kernel
theorem dX12_blockByte_8 : decode cX12_blockByte 8 = .ok (.iload_n 2, 1) := by decide +kernel
theorem dX12_blockByte_9 : decode cX12_blockByte 9 = .ok (.bipush 8, 2) := by decide +kernel
theorem dX12_blockByte_11 : decode cX12_blockByte 11 = .ok (.idiv, 1) := by decide +kernel
theorem dX12_blockByte_12 : decode cX12_blockByte 12 = .ok (.iadd, 1) := by decide +kernel
theorem dX12_blockByte_13 : decode cX12_blockByte 13 = .ok (.laload, 1) := by decide +kernel
theorem dX12_blockByte_14 : decode cX12_blockByte 14 = .ok (.iload_n 2, 1) := by decide +kernel
theorem dX12_blockByte_15 : decode cX12_blockByte 15 = .ok (.bipush 8, 2) := by decide +kernel
theorem dX12_blockByte_17 : decode cX12_blockByte 17 = .ok (.irem, 1) := by decide +kernel
theorem dX12_blockByte_18 : decode cX12_blockByte 18 = .ok (.invokestatic 49, 3) := by decide +kernel
theorem dX12_blockByte_21 : decode cX12_blockByte 21 = .ok (.ireturn, 1) := by decide +kernel
theorem dX12_setByte_0 : decode cX12_setByte 0 = .ok (.bipush 56, 2) := by decide +kernel
theorem dX12_setByte_2 : decode cX12_setByte 2 = .ok (.bipush 8, 2) := by decide +kernel
theorem dX12_setByte_4 : decode cX12_setByte 4 = .ok (.iload_n 2, 1) := by decide +kernel
theorem dX12_setByte_5 : decode cX12_setByte 5 = .ok (.bipush 8, 2) := by decide +kernel
theorem dX12_setByte_7 : decode cX12_setByte 7 = .ok (.irem, 1) := by decide +kernel
theorem dX12_setByte_8 : decode cX12_setByte 8 = .ok (.imul, 1) := by decide +kernel
theorem dX12_setByte_9 : decode cX12_setByte 9 = .ok (.isub, 1) := by decide +kernel
theorem dX12_setByte_10 : decode cX12_setByte 10 = .ok (.istore 4, 2) := by decide +kernel
theorem dX12_setByte_12 : decode cX12_setByte 12 = .ok (.bipush 87, 2) := by decide +kernel
theorem dX12_setByte_14 : decode cX12_setByte 14 = .ok (.iload_n 1, 1) := by decide +kernel
theorem dX12_setByte_15 : decode cX12_setByte 15 = .ok (.imul, 1) := by decide +kernel
theorem dX12_setByte_16 : decode cX12_setByte 16 = .ok (.iload_n 2, 1) := by decide +kernel
theorem dX12_setByte_17 : decode cX12_setByte 17 = .ok (.bipush 8, 2) := by decide +kernel
theorem dX12_setByte_19 : decode cX12_setByte 19 = .ok (.idiv, 1) := by decide +kernel
theorem dX12_setByte_20 : decode cX12_setByte 20 = .ok (.iadd, 1) := by decide +kernel
theorem dX12_setByte_21 : decode cX12_setByte 21 = .ok (.istore 5, 2) := by decide +kernel
theorem dX12_setByte_23 : decode cX12_setByte 23 = .ok (.aload_n 0, 1) := by decide +kernel
theorem dX12_setByte_24 : decode cX12_setByte 24 = .ok (.getfield 45, 3) := by decide +kernel
theorem dX12_setByte_27 : decode cX12_setByte 27 = .ok (.iload 5, 2) := by decide +kernel
theorem dX12_setByte_29 : decode cX12_setByte 29 = .ok (.aload_n 0, 1) := by decide +kernel
theorem dX12_setByte_30 : decode cX12_setByte 30 = .ok (.getfield 45, 3) := by decide +kernel
theorem dX12_setByte_33 : decode cX12_setByte 33 = .ok (.iload 5, 2) := by decide +kernel
theorem dX12_setByte_35 : decode cX12_setByte 35 = .ok (.laload, 1) := by decide +kernel
theorem dX12_setByte_36 : decode cX12_setByte 36 = .ok (.ldc2_w 53, 3) := by decide +kernel
theorem dX12_setByte_39 : decode cX12_setByte 39 = .ok (.iload 4, 2) := by decide +kernel
theorem dX12_setByte_41 : decode cX12_setByte 41 = .ok (.lshl, 1) := by decide +kernel
theorem dX12_setByte_42 : decode cX12_setByte 42 = .ok (.ldc2_w 55, 3) := by decide +kernel
theorem dX12_setByte_45 : decode cX12_setByte 45 = .ok (.lxor, 1) := by decide +kernel
theorem dX12_setByte_46 : decode cX12_setByte 46 = .ok (.land, 1) := by decide +kernel
theorem dX12_setByte_47 : decode cX12_setByte 47 = .ok (.iload_n 3, 1) := by decide +kernel
theorem dX12_setByte_48 : decode cX12_setByte 48 = .ok (.sipush 255, 3) := by decide +kernel
theorem dX12_setByte_51 : decode cX12_setByte 51 = .ok (.iand, 1) := by decide +kernel
theorem dX12_setByte_52 : decode cX12_setByte 52 = .ok (.i2l, 1) := by decide +kernel
theorem dX12_setByte_53 : decode cX12_setByte 53 = .ok (.iload 4, 2) := by decide +kernel
theorem dX12_setByte_55 : decode cX12_setByte 55 = .ok (.lshl, 1) := by decide +kernel
theorem dX12_setByte_56 : decode cX12_setByte 56 = .ok (.lor, 1) := by decide +kernel
theorem dX12_setByte_57 : decode cX12_setByte 57 = .ok (.lastore, 1) := by decide +kernel
theorem dX12_setByte_58 : decode cX12_setByte 58 = .ok (.return_, 1) := by decide +kernel
theorem dX12_isThere_0 : decode cX12_isThere 0 = .ok (.aload_n 0, 1) := by decide +kernel
theorem dX12_isThere_1 : decode cX12_isThere 1 = .ok (.getfield 57, 3) := by decide +kernel
theorem dX12_isThere_4 : decode cX12_isThere 4 = .ok (.iload_n 1, 1) := by decide +kernel
theorem dX12_isThere_5 : decode cX12_isThere 5 = .ok (.iaload, 1) := by decide +kernel
theorem dX12_isThere_6 : decode cX12_isThere 6 = .ok (.ifCond .le 7, 3) := by decide +kernel
theorem dX12_isThere_9 : decode cX12_isThere 9 = .ok (.iconst 1, 1) := by decide +kernel
theorem dX12_isThere_10 : decode cX12_isThere 10 = .ok (.goto 4, 3) := by decide +kernel
theorem dX12_isThere_13 : decode cX12_isThere 13 = .ok (.iconst 0, 1) := by decide +kernel
theorem dX12_isThere_14 : decode cX12_isThere 14 = .ok (.ireturn, 1) := by decide +kernel
theorem dX12_clear_0 : decode cX12_clear 0 = .ok (.aload_n 0, 1) := by decide +kernel
theorem dX12_clear_1 : decode cX12_clear 1 = .ok (.getfield 57, 3) := by decide +kernel
theorem dX12_clear_4 : decode cX12_clear 4 = .ok (.iload_n 1, 1) := by decide +kernel
theorem dX12_clear_5 : decode cX12_clear 5 = .ok (.iconst 0, 1) := by decide +kernel
theorem dX12_clear_6 : decode cX12_clear 6 = .ok (.iastore, 1) := by decide +kernel
theorem dX12_clear_7 : decode cX12_clear 7 = .ok (.return_, 1) := by decide +kernel
theorem dX12_copyBlock_0 : decode cX12_copyBlock 0 = .ok (.iconst 0, 1) := by decide +kernel
theorem dX12_copyBlock_1 : decode cX12_copyBlock 1 = .ok (.istore_n 3, 1) := by decide +kernel
theorem dX12_copyBlock_2 : decode cX12_copyBlock 2 = .ok (.iload_n 3, 1) := by decide +kernel
theorem dX12_copyBlock_3 : decode cX12_copyBlock 3 = .ok (.bipush 87, 2) := by decide +kernel
theorem dX12_copyBlock_5 : decode cX12_copyBlock 5 = .ok (.if_icmp .ge 31, 3) := by decide +kernel
theorem dX12_copyBlock_8 : decode cX12_copyBlock 8 = .ok (.aload_n 0, 1) := by decide +kernel
theorem dX12_copyBlock_9 : decode cX12_copyBlock 9 = .ok (.getfield 45, 3) := by decide +kernel
theorem dX12_copyBlock_12 : decode cX12_copyBlock 12 = .ok (.bipush 87, 2) := by decide +kernel
theorem dX12_copyBlock_14 : decode cX12_copyBlock 14 = .ok (.iload_n 2, 1) := by decide +kernel
theorem dX12_copyBlock_15 : decode cX12_copyBlock 15 = .ok (.imul, 1) := by decide +kernel
theorem dX12_copyBlock_16 : decode cX12_copyBlock 16 = .ok (.iload_n 3, 1) := by decide +kernel
theorem dX12_copyBlock_17 : decode cX12_copyBlock 17 = .ok (.iadd, 1) := by decide +kernel
theorem dX12_copyBlock_18 : decode cX12_copyBlock 18 = .ok (.aload_n 0, 1) := by decide +kernel
theorem dX12_copyBlock_19 : decode cX12_copyBlock 19 = .ok (.getfield 45, 3) := by decide +kernel
theorem dX12_copyBlock_22 : decode cX12_copyBlock 22 = .ok (.bipush 87, 2) := by decide +kernel
theorem dX12_copyBlock_24 : decode cX12_copyBlock 24 = .ok (.iload_n 1, 1) := by decide +kernel
theorem dX12_copyBlock_25 : decode cX12_copyBlock 25 = .ok (.imul, 1) := by decide +kernel
theorem dX12_copyBlock_26 : decode cX12_copyBlock 26 = .ok (.iload_n 3, 1) := by decide +kernel
theorem dX12_copyBlock_27 : decode cX12_copyBlock 27 = .ok (.iadd, 1) := by decide +kernel
theorem dX12_copyBlock_28 : decode cX12_copyBlock 28 = .ok (.laload, 1) := by decide +kernel
theorem dX12_copyBlock_29 : decode cX12_copyBlock 29 = .ok (.lastore, 1) := by decide +kernel
theorem dX12_copyBlock_30 : decode cX12_copyBlock 30 = .ok (.iinc 3 1, 3) := by decide +kernel
theorem dX12_copyBlock_33 : decode cX12_copyBlock 33 = .ok (.goto (-31), 3) := by decide +kernel
theorem dX12_copyBlock_36 : decode cX12_copyBlock 36 = .ok (.iconst 0, 1) := by decide +kernel
theorem dX12_copyBlock_37 : decode cX12_copyBlock 37 = .ok (.istore_n 3, 1) := by decide +kernel
theorem dX12_copyBlock_38 : decode cX12_copyBlock 38 = .ok (.iload_n 3, 1) := by decide +kernel
theorem dX12_copyBlock_39 : decode cX12_copyBlock 39 = .ok (.iconst 4, 1) := by decide +kernel
theorem dX12_copyBlock_40 : decode cX12_copyBlock 40 = .ok (.if_icmp .ge 29, 3) := by decide +kernel
theorem dX12_copyBlock_43 : decode cX12_copyBlock 43 = .ok (.aload_n 0, 1) := by decide +kernel
theorem dX12_copyBlock_44 : decode cX12_copyBlock 44 = .ok (.getfield 60, 3) := by decide +kernel
theorem dX12_copyBlock_47 : decode cX12_copyBlock 47 = .ok (.iconst 4, 1) := by decide +kernel
theorem dX12_copyBlock_48 : decode cX12_copyBlock 48 = .ok (.iload_n 2, 1) := by decide +kernel
theorem dX12_copyBlock_49 : decode cX12_copyBlock 49 = .ok (.imul, 1) := by decide +kernel
theorem dX12_copyBlock_50 : decode cX12_copyBlock 50 = .ok (.iload_n 3, 1) := by decide +kernel
theorem dX12_copyBlock_51 : decode cX12_copyBlock 51 = .ok (.iadd, 1) := by decide +kernel
theorem dX12_copyBlock_52 : decode cX12_copyBlock 52 = .ok (.aload_n 0, 1) := by decide +kernel
theorem dX12_copyBlock_53 : decode cX12_copyBlock 53 = .ok (.getfield 60, 3) := by decide +kernel
theorem dX12_copyBlock_56 : decode cX12_copyBlock 56 = .ok (.iconst 4, 1) := by decide +kernel
theorem dX12_copyBlock_57 : decode cX12_copyBlock 57 = .ok (.iload_n 1, 1) := by decide +kernel
theorem dX12_copyBlock_58 : decode cX12_copyBlock 58 = .ok (.imul, 1) := by decide +kernel
theorem dX12_copyBlock_59 : decode cX12_copyBlock 59 = .ok (.iload_n 3, 1) := by decide +kernel
theorem dX12_copyBlock_60 : decode cX12_copyBlock 60 = .ok (.iadd, 1) := by decide +kernel
theorem dX12_copyBlock_61 : decode cX12_copyBlock 61 = .ok (.laload, 1) := by decide +kernel
theorem dX12_copyBlock_62 : decode cX12_copyBlock 62 = .ok (.lastore, 1) := by decide +kernel
theorem dX12_copyBlock_63 : decode cX12_copyBlock 63 = .ok (.iinc 3 1, 3) := by decide +kernel
theorem dX12_copyBlock_66 : decode cX12_copyBlock 66 = .ok (.goto (-28), 3) := by decide +kernel
theorem dX12_copyBlock_69 : decode cX12_copyBlock 69 = .ok (.aload_n 0, 1) := by decide +kernel
theorem dX12_copyBlock_70 : decode cX12_copyBlock 70 = .ok (.getfield 57, 3) := by decide +kernel
theorem dX12_copyBlock_73 : decode cX12_copyBlock 73 = .ok (.iload_n 2, 1) := by decide +kernel
theorem dX12_copyBlock_74 : decode cX12_copyBlock 74 = .ok (.aload_n 0, 1) := by decide +kernel
theorem dX12_copyBlock_75 : decode cX12_copyBlock 75 = .ok (.getfield 57, 3) := by decide +kernel
theorem dX12_copyBlock_78 : decode cX12_copyBlock 78 = .ok (.iload_n 1, 1) := by decide +kernel
theorem dX12_copyBlock_79 : decode cX12_copyBlock 79 = .ok (.iaload, 1) := by decide +kernel
theorem dX12_copyBlock_80 : decode cX12_copyBlock 80 = .ok (.iastore, 1) := by decide +kernel
theorem dX12_copyBlock_81 : decode cX12_copyBlock 81 = .ok (.return_, 1) := by decide +kernel
theorem dX12_sameBlock_0 : decode cX12_sameBlock 0 = .ok (.aload_n 0, 1) := by decide +kernel
theorem dX12_sameBlock_1 : decode cX12_sameBlock 1 = .ok (.iload_n 1, 1) := by decide +kernel
theorem dX12_sameBlock_2 : decode cX12_sameBlock 2 = .ok (.invokevirtual 63, 3) := by decide +kernel
theorem dX12_sameBlock_5 : decode cX12_sameBlock 5 = .ok (.ifCond .eq 15, 3) := by decide +kernel
theorem dX12_sameBlock_8 : decode cX12_sameBlock 8 = .ok (.aload_n 0, 1) := by decide +kernel
theorem dX12_sameBlock_9 : decode cX12_sameBlock 9 = .ok (.iload_n 2, 1) := by decide +kernel
theorem dX12_sameBlock_10 : decode cX12_sameBlock 10 = .ok (.invokevirtual 63, 3) := by decide +kernel
theorem dX12_sameBlock_13 : decode cX12_sameBlock 13 = .ok (.ifCond .eq 7, 3) := by decide +kernel
theorem dX12_sameBlock_16 : decode cX12_sameBlock 16 = .ok (.iconst 1, 1) := by decide +kernel
theorem dX12_sameBlock_17 : decode cX12_sameBlock 17 = .ok (.goto 4, 3) := by decide +kernel
theorem dX12_sameBlock_20 : decode cX12_sameBlock 20 = .ok (.iconst 0, 1) := by decide +kernel
theorem dX12_sameBlock_21 : decode cX12_sameBlock 21 = .ok (.istore_n 3, 1) := by decide +kernel
theorem dX12_sameBlock_22 : decode cX12_sameBlock 22 = .ok (.iconst 0, 1) := by decide +kernel
theorem dX12_sameBlock_23 : decode cX12_sameBlock 23 = .ok (.istore 4, 2) := by decide +kernel
theorem dX12_sameBlock_25 : decode cX12_sameBlock 25 = .ok (.iload 4, 2) := by decide +kernel
theorem dX12_sameBlock_27 : decode cX12_sameBlock 27 = .ok (.iconst 4, 1) := by decide +kernel
theorem dX12_sameBlock_28 : decode cX12_sameBlock 28 = .ok (.if_icmp .ge 45, 3) := by decide +kernel
theorem dX12_sameBlock_31 : decode cX12_sameBlock 31 = .ok (.iload_n 3, 1) := by decide +kernel
theorem dX12_sameBlock_32 : decode cX12_sameBlock 32 = .ok (.ifCond .eq 41, 3) := by decide +kernel
theorem dX12_sameBlock_35 : decode cX12_sameBlock 35 = .ok (.aload_n 0, 1) := by decide +kernel
theorem dX12_sameBlock_36 : decode cX12_sameBlock 36 = .ok (.getfield 60, 3) := by decide +kernel
theorem dX12_sameBlock_39 : decode cX12_sameBlock 39 = .ok (.iconst 4, 1) := by decide +kernel
theorem dX12_sameBlock_40 : decode cX12_sameBlock 40 = .ok (.iload_n 1, 1) := by decide +kernel
theorem dX12_sameBlock_41 : decode cX12_sameBlock 41 = .ok (.imul, 1) := by decide +kernel
theorem dX12_sameBlock_42 : decode cX12_sameBlock 42 = .ok (.iload 4, 2) := by decide +kernel
theorem dX12_sameBlock_44 : decode cX12_sameBlock 44 = .ok (.iadd, 1) := by decide +kernel
theorem dX12_sameBlock_45 : decode cX12_sameBlock 45 = .ok (.laload, 1) := by decide +kernel
theorem dX12_sameBlock_46 : decode cX12_sameBlock 46 = .ok (.aload_n 0, 1) := by decide +kernel
theorem dX12_sameBlock_47 : decode cX12_sameBlock 47 = .ok (.getfield 60, 3) := by decide +kernel
theorem dX12_sameBlock_50 : decode cX12_sameBlock 50 = .ok (.iconst 4, 1) := by decide +kernel
theorem dX12_sameBlock_51 : decode cX12_sameBlock 51 = .ok (.iload_n 2, 1) := by decide +kernel
theorem dX12_sameBlock_52 : decode cX12_sameBlock 52 = .ok (.imul, 1) := by decide +kernel
theorem dX12_sameBlock_53 : decode cX12_sameBlock 53 = .ok (.iload 4, 2) := by decide +kernel
theorem dX12_sameBlock_55 : decode cX12_sameBlock 55 = .ok (.iadd, 1) := by decide +kernel
theorem dX12_sameBlock_56 : decode cX12_sameBlock 56 = .ok (.laload, 1) := by decide +kernel
theorem dX12_sameBlock_57 : decode cX12_sameBlock 57 = .ok (.lcmp, 1) := by decide +kernel
theorem dX12_sameBlock_58 : decode cX12_sameBlock 58 = .ok (.ifCond .ne 7, 3) := by decide +kernel
theorem dX12_sameBlock_61 : decode cX12_sameBlock 61 = .ok (.iconst 1, 1) := by decide +kernel
theorem dX12_sameBlock_62 : decode cX12_sameBlock 62 = .ok (.goto 4, 3) := by decide +kernel
theorem dX12_sameBlock_65 : decode cX12_sameBlock 65 = .ok (.iconst 0, 1) := by decide +kernel
theorem dX12_sameBlock_66 : decode cX12_sameBlock 66 = .ok (.istore_n 3, 1) := by decide +kernel
theorem dX12_sameBlock_67 : decode cX12_sameBlock 67 = .ok (.iinc 4 1, 3) := by decide +kernel
theorem dX12_sameBlock_70 : decode cX12_sameBlock 70 = .ok (.goto (-45), 3) := by decide +kernel
theorem dX12_sameBlock_73 : decode cX12_sameBlock 73 = .ok (.iload_n 3, 1) := by decide +kernel
theorem dX12_sameBlock_74 : decode cX12_sameBlock 74 = .ok (.ireturn, 1) := by decide +kernel
theorem dX12_heightOf_0 : decode cX12_heightOf 0 = .ok (.aload_n 0, 1) := by decide +kernel
theorem dX12_heightOf_1 : decode cX12_heightOf 1 = .ok (.iload_n 1, 1) := by decide +kernel
theorem dX12_heightOf_2 : decode cX12_heightOf 2 = .ok (.iconst 0, 1) := by decide +kernel
theorem dX12_heightOf_3 : decode cX12_heightOf 3 = .ok (.invokevirtual 67, 3) := by decide +kernel
theorem dX12_heightOf_6 : decode cX12_heightOf 6 = .ok (.bipush 8, 2) := by decide +kernel
theorem dX12_heightOf_8 : decode cX12_heightOf 8 = .ok (.ishl, 1) := by decide +kernel
theorem dX12_heightOf_9 : decode cX12_heightOf 9 = .ok (.aload_n 0, 1) := by decide +kernel
theorem dX12_heightOf_10 : decode cX12_heightOf 10 = .ok (.iload_n 1, 1) := by decide +kernel
theorem dX12_heightOf_11 : decode cX12_heightOf 11 = .ok (.iconst 1, 1) := by decide +kernel
theorem dX12_heightOf_12 : decode cX12_heightOf 12 = .ok (.invokevirtual 67, 3) := by decide +kernel
theorem dX12_heightOf_15 : decode cX12_heightOf 15 = .ok (.ior, 1) := by decide +kernel
theorem dX12_heightOf_16 : decode cX12_heightOf 16 = .ok (.ireturn, 1) := by decide +kernel
theorem dX12_makerOf_0 : decode cX12_makerOf 0 = .ok (.aload_n 0, 1) := by decide +kernel
theorem dX12_makerOf_1 : decode cX12_makerOf 1 = .ok (.iload_n 1, 1) := by decide +kernel
theorem dX12_makerOf_2 : decode cX12_makerOf 2 = .ok (.iconst 2, 1) := by decide +kernel
theorem dX12_makerOf_3 : decode cX12_makerOf 3 = .ok (.invokevirtual 67, 3) := by decide +kernel
theorem dX12_makerOf_6 : decode cX12_makerOf 6 = .ok (.ireturn, 1) := by decide +kernel
theorem dX12_paymentsOf_0 : decode cX12_paymentsOf 0 = .ok (.aload_n 0, 1) := by decide +kernel
theorem dX12_paymentsOf_1 : decode cX12_paymentsOf 1 = .ok (.iload_n 1, 1) := by decide +kernel
theorem dX12_paymentsOf_2 : decode cX12_paymentsOf 2 = .ok (.bipush 99, 2) := by decide +kernel
theorem dX12_paymentsOf_4 : decode cX12_paymentsOf 4 = .ok (.invokevirtual 67, 3) := by decide +kernel
theorem dX12_paymentsOf_7 : decode cX12_paymentsOf 7 = .ok (.ireturn, 1) := by decide +kernel
theorem dX12_proofsOf_0 : decode cX12_proofsOf 0 = .ok (.aload_n 0, 1) := by decide +kernel
theorem dX12_proofsOf_1 : decode cX12_proofsOf 1 = .ok (.iload_n 1, 1) := by decide +kernel
theorem dX12_proofsOf_2 : decode cX12_proofsOf 2 = .ok (.bipush 100, 2) := by decide +kernel
theorem dX12_proofsOf_4 : decode cX12_proofsOf 4 = .ok (.invokevirtual 67, 3) := by decide +kernel
theorem dX12_proofsOf_7 : decode cX12_proofsOf 7 = .ok (.ireturn, 1) := by decide +kernel
theorem dX12_identify_0 : decode cX12_identify 0 = .ok (.aload_n 0, 1) := by decide +kernel
theorem dX12_identify_1 : decode cX12_identify 1 = .ok (.iconst 0, 1) := by decide +kernel
theorem dX12_identify_2 : decode cX12_identify 2 = .ok (.putfield 25, 3) := by decide +kernel
theorem dX12_identify_5 : decode cX12_identify 5 = .ok (.iconst 0, 1) := by decide +kernel
theorem dX12_identify_6 : decode cX12_identify 6 = .ok (.istore_n 2, 1) := by decide +kernel
theorem dX12_identify_7 : decode cX12_identify 7 = .ok (.iload_n 2, 1) := by decide +kernel
theorem dX12_identify_8 : decode cX12_identify 8 = .ok (.bipush 101, 2) := by decide +kernel
theorem dX12_identify_10 : decode cX12_identify 10 = .ok (.if_icmp .ge 19, 3) := by decide +kernel
theorem dX12_identify_13 : decode cX12_identify 13 = .ok (.aload_n 0, 1) := by decide +kernel
theorem dX12_identify_14 : decode cX12_identify 14 = .ok (.aload_n 0, 1) := by decide +kernel
theorem dX12_identify_15 : decode cX12_identify 15 = .ok (.iload_n 1, 1) := by decide +kernel
theorem dX12_identify_16 : decode cX12_identify 16 = .ok (.iload_n 2, 1) := by decide +kernel
theorem dX12_identify_17 : decode cX12_identify 17 = .ok (.invokevirtual 67, 3) := by decide +kernel
theorem dX12_identify_20 : decode cX12_identify 20 = .ok (.invokevirtual 29, 3) := by decide +kernel
theorem dX12_identify_23 : decode cX12_identify 23 = .ok (.iinc 2 1, 3) := by decide +kernel
theorem dX12_identify_26 : decode cX12_identify 26 = .ok (.goto (-19), 3) := by decide +kernel
theorem dX12_identify_29 : decode cX12_identify 29 = .ok (.aload_n 0, 1) := by decide +kernel
theorem dX12_identify_30 : decode cX12_identify 30 = .ok (.invokevirtual 70, 3) := by decide +kernel
theorem dX12_identify_33 : decode cX12_identify 33 = .ok (.iconst 0, 1) := by decide +kernel
theorem dX12_identify_34 : decode cX12_identify 34 = .ok (.istore_n 2, 1) := by decide +kernel
theorem dX12_identify_35 : decode cX12_identify 35 = .ok (.iload_n 2, 1) := by decide +kernel
theorem dX12_identify_36 : decode cX12_identify 36 = .ok (.iconst 4, 1) := by decide +kernel
theorem dX12_identify_37 : decode cX12_identify 37 = .ok (.if_icmp .ge 24, 3) := by decide +kernel
theorem dX12_identify_40 : decode cX12_identify 40 = .ok (.aload_n 0, 1) := by decide +kernel
theorem dX12_identify_41 : decode cX12_identify 41 = .ok (.getfield 60, 3) := by decide +kernel
theorem dX12_identify_44 : decode cX12_identify 44 = .ok (.iconst 4, 1) := by decide +kernel
theorem dX12_identify_45 : decode cX12_identify 45 = .ok (.iload_n 1, 1) := by decide +kernel
theorem dX12_identify_46 : decode cX12_identify 46 = .ok (.imul, 1) := by decide +kernel
theorem dX12_identify_47 : decode cX12_identify 47 = .ok (.iload_n 2, 1) := by decide +kernel
theorem dX12_identify_48 : decode cX12_identify 48 = .ok (.iadd, 1) := by decide +kernel
theorem dX12_identify_49 : decode cX12_identify 49 = .ok (.aload_n 0, 1) := by decide +kernel
theorem dX12_identify_50 : decode cX12_identify 50 = .ok (.iload_n 2, 1) := by decide +kernel
theorem dX12_identify_51 : decode cX12_identify 51 = .ok (.invokevirtual 74, 3) := by decide +kernel
theorem dX12_identify_54 : decode cX12_identify 54 = .ok (.lastore, 1) := by decide +kernel
theorem dX12_identify_55 : decode cX12_identify 55 = .ok (.iinc 2 1, 3) := by decide +kernel
theorem dX12_identify_58 : decode cX12_identify 58 = .ok (.goto (-23), 3) := by decide +kernel
theorem dX12_identify_61 : decode cX12_identify 61 = .ok (.return_, 1) := by decide +kernel
theorem dX12_proofBytes_0 : decode cX12_proofBytes 0 = .ok (.aload_n 0, 1) := by decide +kernel
theorem dX12_proofBytes_1 : decode cX12_proofBytes 1 = .ok (.iload_n 1, 1) := by decide +kernel
theorem dX12_proofBytes_2 : decode cX12_proofBytes 2 = .ok (.iload_n 2, 1) := by decide +kernel
theorem dX12_proofBytes_3 : decode cX12_proofBytes 3 = .ok (.iconst 5, 1) := by decide +kernel
theorem dX12_proofBytes_4 : decode cX12_proofBytes 4 = .ok (.iadd, 1) := by decide +kernel
theorem dX12_proofBytes_5 : decode cX12_proofBytes 5 = .ok (.invokevirtual 67, 3) := by decide +kernel
theorem dX12_proofBytes_8 : decode cX12_proofBytes 8 = .ok (.iconst 1, 1) := by decide +kernel
theorem dX12_proofBytes_9 : decode cX12_proofBytes 9 = .ok (.if_icmp .ne 8, 3) := by decide +kernel
theorem dX12_proofBytes_12 : decode cX12_proofBytes 12 = .ok (.bipush 71, 2) := by decide +kernel
theorem dX12_proofBytes_14 : decode cX12_proofBytes 14 = .ok (.goto 5, 3) := by decide +kernel
theorem dX12_proofBytes_17 : decode cX12_proofBytes 17 = .ok (.bipush 39, 2) := by decide +kernel
theorem dX12_proofBytes_19 : decode cX12_proofBytes 19 = .ok (.ireturn, 1) := by decide +kernel
theorem dX12_noParts_0 : decode cX12_noParts 0 = .ok (.aload_n 0, 1) := by decide +kernel
theorem dX12_noParts_1 : decode cX12_noParts 1 = .ok (.iconst 0, 1) := by decide +kernel
theorem dX12_noParts_2 : decode cX12_noParts 2 = .ok (.putfield 78, 3) := by decide +kernel
theorem dX12_noParts_5 : decode cX12_noParts 5 = .ok (.aload_n 0, 1) := by decide +kernel
theorem dX12_noParts_6 : decode cX12_noParts 6 = .ok (.getfield 81, 3) := by decide +kernel
theorem dX12_noParts_9 : decode cX12_noParts 9 = .ok (.iconst 0, 1) := by decide +kernel
theorem dX12_noParts_10 : decode cX12_noParts 10 = .ok (.iconst 0, 1) := by decide +kernel
theorem dX12_noParts_11 : decode cX12_noParts 11 = .ok (.iastore, 1) := by decide +kernel
theorem dX12_noParts_12 : decode cX12_noParts 12 = .ok (.return_, 1) := by decide +kernel
theorem dX12_partByte_0 : decode cX12_partByte 0 = .ok (.aload_n 0, 1) := by decide +kernel
theorem dX12_partByte_1 : decode cX12_partByte 1 = .ok (.getfield 84, 3) := by decide +kernel
theorem dX12_partByte_4 : decode cX12_partByte 4 = .ok (.aload_n 0, 1) := by decide +kernel
theorem dX12_partByte_5 : decode cX12_partByte 5 = .ok (.getfield 81, 3) := by decide +kernel
theorem dX12_partByte_8 : decode cX12_partByte 8 = .ok (.aload_n 0, 1) := by decide +kernel
theorem dX12_partByte_9 : decode cX12_partByte 9 = .ok (.getfield 78, 3) := by decide +kernel
theorem dX12_partByte_12 : decode cX12_partByte 12 = .ok (.iaload, 1) := by decide +kernel
theorem dX12_partByte_13 : decode cX12_partByte 13 = .ok (.iload_n 1, 1) := by decide +kernel
theorem dX12_partByte_14 : decode cX12_partByte 14 = .ok (.iastore, 1) := by decide +kernel
theorem dX12_partByte_15 : decode cX12_partByte 15 = .ok (.aload_n 0, 1) := by decide +kernel
theorem dX12_partByte_16 : decode cX12_partByte 16 = .ok (.getfield 81, 3) := by decide +kernel
theorem dX12_partByte_19 : decode cX12_partByte 19 = .ok (.aload_n 0, 1) := by decide +kernel
theorem dX12_partByte_20 : decode cX12_partByte 20 = .ok (.getfield 78, 3) := by decide +kernel
theorem dX12_partByte_23 : decode cX12_partByte 23 = .ok (.aload_n 0, 1) := by decide +kernel
theorem dX12_partByte_24 : decode cX12_partByte 24 = .ok (.getfield 81, 3) := by decide +kernel
theorem dX12_partByte_27 : decode cX12_partByte 27 = .ok (.aload_n 0, 1) := by decide +kernel
theorem dX12_partByte_28 : decode cX12_partByte 28 = .ok (.getfield 78, 3) := by decide +kernel
theorem dX12_partByte_31 : decode cX12_partByte 31 = .ok (.iaload, 1) := by decide +kernel
theorem dX12_partByte_32 : decode cX12_partByte 32 = .ok (.iconst 1, 1) := by decide +kernel
theorem dX12_partByte_33 : decode cX12_partByte 33 = .ok (.iadd, 1) := by decide +kernel
theorem dX12_partByte_34 : decode cX12_partByte 34 = .ok (.iastore, 1) := by decide +kernel
theorem dX12_partByte_35 : decode cX12_partByte 35 = .ok (.return_, 1) := by decide +kernel
theorem dX12_endPart_0 : decode cX12_endPart 0 = .ok (.aload_n 0, 1) := by decide +kernel
theorem dX12_endPart_1 : decode cX12_endPart 1 = .ok (.aload_n 0, 1) := by decide +kernel
theorem dX12_endPart_2 : decode cX12_endPart 2 = .ok (.getfield 78, 3) := by decide +kernel
theorem dX12_endPart_5 : decode cX12_endPart 5 = .ok (.iconst 1, 1) := by decide +kernel
theorem dX12_endPart_6 : decode cX12_endPart 6 = .ok (.iadd, 1) := by decide +kernel
theorem dX12_endPart_7 : decode cX12_endPart 7 = .ok (.putfield 78, 3) := by decide +kernel
theorem dX12_endPart_10 : decode cX12_endPart 10 = .ok (.aload_n 0, 1) := by decide +kernel
theorem dX12_endPart_11 : decode cX12_endPart 11 = .ok (.getfield 81, 3) := by decide +kernel
theorem dX12_endPart_14 : decode cX12_endPart 14 = .ok (.aload_n 0, 1) := by decide +kernel
theorem dX12_endPart_15 : decode cX12_endPart 15 = .ok (.getfield 78, 3) := by decide +kernel
theorem dX12_endPart_18 : decode cX12_endPart 18 = .ok (.aload_n 0, 1) := by decide +kernel
theorem dX12_endPart_19 : decode cX12_endPart 19 = .ok (.getfield 81, 3) := by decide +kernel
theorem dX12_endPart_22 : decode cX12_endPart 22 = .ok (.aload_n 0, 1) := by decide +kernel
theorem dX12_endPart_23 : decode cX12_endPart 23 = .ok (.getfield 78, 3) := by decide +kernel
theorem dX12_endPart_26 : decode cX12_endPart 26 = .ok (.iconst 1, 1) := by decide +kernel
theorem dX12_endPart_27 : decode cX12_endPart 27 = .ok (.isub, 1) := by decide +kernel
theorem dX12_endPart_28 : decode cX12_endPart 28 = .ok (.iaload, 1) := by decide +kernel
theorem dX12_endPart_29 : decode cX12_endPart 29 = .ok (.iastore, 1) := by decide +kernel
theorem dX12_endPart_30 : decode cX12_endPart 30 = .ok (.return_, 1) := by decide +kernel
theorem dX12_partFrom_0 : decode cX12_partFrom 0 = .ok (.iload_n 1, 1) := by decide +kernel
theorem dX12_partFrom_1 : decode cX12_partFrom 1 = .ok (.ifCond .ne 7, 3) := by decide +kernel
theorem dX12_partFrom_4 : decode cX12_partFrom 4 = .ok (.iconst 0, 1) := by decide +kernel
theorem dX12_partFrom_5 : decode cX12_partFrom 5 = .ok (.goto 11, 3) := by decide +kernel
theorem dX12_partFrom_8 : decode cX12_partFrom 8 = .ok (.aload_n 0, 1) := by decide +kernel
theorem dX12_partFrom_9 : decode cX12_partFrom 9 = .ok (.getfield 81, 3) := by decide +kernel
theorem dX12_partFrom_12 : decode cX12_partFrom 12 = .ok (.iload_n 1, 1) := by decide +kernel
theorem dX12_partFrom_13 : decode cX12_partFrom 13 = .ok (.iconst 1, 1) := by decide +kernel
theorem dX12_partFrom_14 : decode cX12_partFrom 14 = .ok (.isub, 1) := by decide +kernel
theorem dX12_partFrom_15 : decode cX12_partFrom 15 = .ok (.iaload, 1) := by decide +kernel
theorem dX12_partFrom_16 : decode cX12_partFrom 16 = .ok (.ireturn, 1) := by decide +kernel
theorem dX12_keepLeaf_0 : decode cX12_keepLeaf 0 = .ok (.aload_n 0, 1) := by decide +kernel
theorem dX12_keepLeaf_1 : decode cX12_keepLeaf 1 = .ok (.invokevirtual 70, 3) := by decide +kernel
theorem dX12_keepLeaf_4 : decode cX12_keepLeaf 4 = .ok (.iconst 0, 1) := by decide +kernel
theorem dX12_keepLeaf_5 : decode cX12_keepLeaf 5 = .ok (.istore_n 2, 1) := by decide +kernel
theorem dX12_keepLeaf_6 : decode cX12_keepLeaf 6 = .ok (.iload_n 2, 1) := by decide +kernel
theorem dX12_keepLeaf_7 : decode cX12_keepLeaf 7 = .ok (.iconst 4, 1) := by decide +kernel
theorem dX12_keepLeaf_8 : decode cX12_keepLeaf 8 = .ok (.if_icmp .ge 24, 3) := by decide +kernel
theorem dX12_keepLeaf_11 : decode cX12_keepLeaf 11 = .ok (.aload_n 0, 1) := by decide +kernel
theorem dX12_keepLeaf_12 : decode cX12_keepLeaf 12 = .ok (.getfield 87, 3) := by decide +kernel
theorem dX12_keepLeaf_15 : decode cX12_keepLeaf 15 = .ok (.iconst 4, 1) := by decide +kernel
theorem dX12_keepLeaf_16 : decode cX12_keepLeaf 16 = .ok (.iload_n 1, 1) := by decide +kernel
theorem dX12_keepLeaf_17 : decode cX12_keepLeaf 17 = .ok (.imul, 1) := by decide +kernel
theorem dX12_keepLeaf_18 : decode cX12_keepLeaf 18 = .ok (.iload_n 2, 1) := by decide +kernel
theorem dX12_keepLeaf_19 : decode cX12_keepLeaf 19 = .ok (.iadd, 1) := by decide +kernel
theorem dX12_keepLeaf_20 : decode cX12_keepLeaf 20 = .ok (.aload_n 0, 1) := by decide +kernel
theorem dX12_keepLeaf_21 : decode cX12_keepLeaf 21 = .ok (.iload_n 2, 1) := by decide +kernel
theorem dX12_keepLeaf_22 : decode cX12_keepLeaf 22 = .ok (.invokevirtual 74, 3) := by decide +kernel
theorem dX12_keepLeaf_25 : decode cX12_keepLeaf 25 = .ok (.lastore, 1) := by decide +kernel
theorem dX12_keepLeaf_26 : decode cX12_keepLeaf 26 = .ok (.iinc 2 1, 3) := by decide +kernel
theorem dX12_keepLeaf_29 : decode cX12_keepLeaf 29 = .ok (.goto (-23), 3) := by decide +kernel
theorem dX12_keepLeaf_32 : decode cX12_keepLeaf 32 = .ok (.return_, 1) := by decide +kernel
theorem dX12_leavesOf_0 : decode cX12_leavesOf 0 = .ok (.iconst 0, 1) := by decide +kernel
theorem dX12_leavesOf_1 : decode cX12_leavesOf 1 = .ok (.istore_n 1, 1) := by decide +kernel
theorem dX12_leavesOf_2 : decode cX12_leavesOf 2 = .ok (.iload_n 1, 1) := by decide +kernel
theorem dX12_leavesOf_3 : decode cX12_leavesOf 3 = .ok (.iconst 4, 1) := by decide +kernel
theorem dX12_leavesOf_4 : decode cX12_leavesOf 4 = .ok (.if_icmp .ge 16, 3) := by decide +kernel
theorem dX12_leavesOf_7 : decode cX12_leavesOf 7 = .ok (.aload_n 0, 1) := by decide +kernel
theorem dX12_leavesOf_8 : decode cX12_leavesOf 8 = .ok (.getfield 87, 3) := by decide +kernel
theorem dX12_leavesOf_11 : decode cX12_leavesOf 11 = .ok (.iload_n 1, 1) := by decide +kernel
theorem dX12_leavesOf_12 : decode cX12_leavesOf 12 = .ok (.lconst 0, 1) := by decide +kernel
theorem dX12_leavesOf_13 : decode cX12_leavesOf 13 = .ok (.lastore, 1) := by decide +kernel
theorem dX12_leavesOf_14 : decode cX12_leavesOf 14 = .ok (.iinc 1 1, 3) := by decide +kernel
theorem dX12_leavesOf_17 : decode cX12_leavesOf 17 = .ok (.goto (-15), 3) := by decide +kernel
theorem dX12_leavesOf_20 : decode cX12_leavesOf 20 = .ok (.iconst 0, 1) := by decide +kernel
theorem dX12_leavesOf_21 : decode cX12_leavesOf 21 = .ok (.istore_n 1, 1) := by decide +kernel
theorem dX12_leavesOf_22 : decode cX12_leavesOf 22 = .ok (.iload_n 1, 1) := by decide +kernel
theorem dX12_leavesOf_23 : decode cX12_leavesOf 23 = .ok (.aload_n 0, 1) := by decide +kernel
theorem dX12_leavesOf_24 : decode cX12_leavesOf 24 = .ok (.getfield 78, 3) := by decide +kernel
theorem dX12_leavesOf_27 : decode cX12_leavesOf 27 = .ok (.if_icmp .ge 56, 3) := by decide +kernel
theorem dX12_leavesOf_30 : decode cX12_leavesOf 30 = .ok (.aload_n 0, 1) := by decide +kernel
theorem dX12_leavesOf_31 : decode cX12_leavesOf 31 = .ok (.iconst 0, 1) := by decide +kernel
theorem dX12_leavesOf_32 : decode cX12_leavesOf 32 = .ok (.putfield 25, 3) := by decide +kernel
theorem dX12_leavesOf_35 : decode cX12_leavesOf 35 = .ok (.aload_n 0, 1) := by decide +kernel
theorem dX12_leavesOf_36 : decode cX12_leavesOf 36 = .ok (.iconst 0, 1) := by decide +kernel
theorem dX12_leavesOf_37 : decode cX12_leavesOf 37 = .ok (.invokevirtual 29, 3) := by decide +kernel
theorem dX12_leavesOf_40 : decode cX12_leavesOf 40 = .ok (.aload_n 0, 1) := by decide +kernel
theorem dX12_leavesOf_41 : decode cX12_leavesOf 41 = .ok (.iload_n 1, 1) := by decide +kernel
theorem dX12_leavesOf_42 : decode cX12_leavesOf 42 = .ok (.invokevirtual 90, 3) := by decide +kernel
theorem dX12_leavesOf_45 : decode cX12_leavesOf 45 = .ok (.istore_n 2, 1) := by decide +kernel
theorem dX12_leavesOf_46 : decode cX12_leavesOf 46 = .ok (.iload_n 2, 1) := by decide +kernel
theorem dX12_leavesOf_47 : decode cX12_leavesOf 47 = .ok (.aload_n 0, 1) := by decide +kernel
theorem dX12_leavesOf_48 : decode cX12_leavesOf 48 = .ok (.getfield 81, 3) := by decide +kernel
theorem dX12_leavesOf_51 : decode cX12_leavesOf 51 = .ok (.iload_n 1, 1) := by decide +kernel
theorem dX12_leavesOf_52 : decode cX12_leavesOf 52 = .ok (.iaload, 1) := by decide +kernel
theorem dX12_leavesOf_53 : decode cX12_leavesOf 53 = .ok (.if_icmp .ge 19, 3) := by decide +kernel
theorem dX12_leavesOf_56 : decode cX12_leavesOf 56 = .ok (.aload_n 0, 1) := by decide +kernel
theorem dX12_leavesOf_57 : decode cX12_leavesOf 57 = .ok (.aload_n 0, 1) := by decide +kernel
theorem dX12_leavesOf_58 : decode cX12_leavesOf 58 = .ok (.getfield 84, 3) := by decide +kernel
theorem dX12_leavesOf_61 : decode cX12_leavesOf 61 = .ok (.iload_n 2, 1) := by decide +kernel
theorem dX12_leavesOf_62 : decode cX12_leavesOf 62 = .ok (.iaload, 1) := by decide +kernel
theorem dX12_leavesOf_63 : decode cX12_leavesOf 63 = .ok (.invokevirtual 29, 3) := by decide +kernel
theorem dX12_leavesOf_66 : decode cX12_leavesOf 66 = .ok (.iinc 2 1, 3) := by decide +kernel
theorem dX12_leavesOf_69 : decode cX12_leavesOf 69 = .ok (.goto (-23), 3) := by decide +kernel
theorem dX12_leavesOf_72 : decode cX12_leavesOf 72 = .ok (.aload_n 0, 1) := by decide +kernel
theorem dX12_leavesOf_73 : decode cX12_leavesOf 73 = .ok (.iload_n 1, 1) := by decide +kernel
theorem dX12_leavesOf_74 : decode cX12_leavesOf 74 = .ok (.invokevirtual 94, 3) := by decide +kernel
theorem dX12_leavesOf_77 : decode cX12_leavesOf 77 = .ok (.iinc 1 1, 3) := by decide +kernel
theorem dX12_leavesOf_80 : decode cX12_leavesOf 80 = .ok (.goto (-58), 3) := by decide +kernel
theorem dX12_leavesOf_83 : decode cX12_leavesOf 83 = .ok (.return_, 1) := by decide +kernel
theorem dX12_join_0 : decode cX12_join 0 = .ok (.iconst 0, 1) := by decide +kernel
theorem dX12_join_1 : decode cX12_join 1 = .ok (.istore_n 2, 1) := by decide +kernel
theorem dX12_join_2 : decode cX12_join 2 = .ok (.iload_n 2, 1) := by decide +kernel
theorem dX12_join_3 : decode cX12_join 3 = .ok (.iload_n 1, 1) := by decide +kernel
theorem dX12_join_4 : decode cX12_join 4 = .ok (.iconst 2, 1) := by decide +kernel
theorem dX12_join_5 : decode cX12_join 5 = .ok (.idiv, 1) := by decide +kernel
theorem dX12_join_6 : decode cX12_join 6 = .ok (.if_icmp .ge 63, 3) := by decide +kernel
theorem dX12_join_9 : decode cX12_join 9 = .ok (.aload_n 0, 1) := by decide +kernel
theorem dX12_join_10 : decode cX12_join 10 = .ok (.iconst 0, 1) := by decide +kernel
theorem dX12_join_11 : decode cX12_join 11 = .ok (.putfield 25, 3) := by decide +kernel
theorem dX12_join_14 : decode cX12_join 14 = .ok (.aload_n 0, 1) := by decide +kernel
theorem dX12_join_15 : decode cX12_join 15 = .ok (.iconst 1, 1) := by decide +kernel
theorem dX12_join_16 : decode cX12_join 16 = .ok (.invokevirtual 29, 3) := by decide +kernel
theorem dX12_join_19 : decode cX12_join 19 = .ok (.iconst 0, 1) := by decide +kernel
theorem dX12_join_20 : decode cX12_join 20 = .ok (.istore_n 3, 1) := by decide +kernel
theorem dX12_join_21 : decode cX12_join 21 = .ok (.iload_n 3, 1) := by decide +kernel
theorem dX12_join_22 : decode cX12_join 22 = .ok (.bipush 64, 2) := by decide +kernel
theorem dX12_join_24 : decode cX12_join 24 = .ok (.if_icmp .ge 34, 3) := by decide +kernel
theorem dX12_join_27 : decode cX12_join 27 = .ok (.aload_n 0, 1) := by decide +kernel
theorem dX12_join_28 : decode cX12_join 28 = .ok (.aload_n 0, 1) := by decide +kernel
theorem dX12_join_29 : decode cX12_join 29 = .ok (.getfield 87, 3) := by decide +kernel
theorem dX12_join_32 : decode cX12_join 32 = .ok (.bipush 8, 2) := by decide +kernel
theorem dX12_join_34 : decode cX12_join 34 = .ok (.iload_n 2, 1) := by decide +kernel
theorem dX12_join_35 : decode cX12_join 35 = .ok (.imul, 1) := by decide +kernel
theorem dX12_join_36 : decode cX12_join 36 = .ok (.iload_n 3, 1) := by decide +kernel
theorem dX12_join_37 : decode cX12_join 37 = .ok (.bipush 8, 2) := by decide +kernel
theorem dX12_join_39 : decode cX12_join 39 = .ok (.idiv, 1) := by decide +kernel
theorem dX12_join_40 : decode cX12_join 40 = .ok (.iadd, 1) := by decide +kernel
theorem dX12_join_41 : decode cX12_join 41 = .ok (.laload, 1) := by decide +kernel
theorem dX12_join_42 : decode cX12_join 42 = .ok (.iload_n 3, 1) := by decide +kernel
theorem dX12_join_43 : decode cX12_join 43 = .ok (.bipush 8, 2) := by decide +kernel
theorem dX12_join_45 : decode cX12_join 45 = .ok (.irem, 1) := by decide +kernel
theorem dX12_join_46 : decode cX12_join 46 = .ok (.invokestatic 49, 3) := by decide +kernel
theorem dX12_join_49 : decode cX12_join 49 = .ok (.invokevirtual 29, 3) := by decide +kernel
theorem dX12_join_52 : decode cX12_join 52 = .ok (.iinc 3 1, 3) := by decide +kernel
theorem dX12_join_55 : decode cX12_join 55 = .ok (.goto (-34), 3) := by decide +kernel
theorem dX12_join_58 : decode cX12_join 58 = .ok (.aload_n 0, 1) := by decide +kernel
theorem dX12_join_59 : decode cX12_join 59 = .ok (.iload_n 2, 1) := by decide +kernel
theorem dX12_join_60 : decode cX12_join 60 = .ok (.invokevirtual 94, 3) := by decide +kernel
theorem dX12_join_63 : decode cX12_join 63 = .ok (.iinc 2 1, 3) := by decide +kernel
theorem dX12_join_66 : decode cX12_join 66 = .ok (.goto (-64), 3) := by decide +kernel
theorem dX12_join_69 : decode cX12_join 69 = .ok (.iconst 0, 1) := by decide +kernel
theorem dX12_join_70 : decode cX12_join 70 = .ok (.istore_n 2, 1) := by decide +kernel
theorem dX12_join_71 : decode cX12_join 71 = .ok (.iload_n 1, 1) := by decide +kernel
theorem dX12_join_72 : decode cX12_join 72 = .ok (.iconst 2, 1) := by decide +kernel
theorem dX12_join_73 : decode cX12_join 73 = .ok (.irem, 1) := by decide +kernel
theorem dX12_join_74 : decode cX12_join 74 = .ok (.iconst 1, 1) := by decide +kernel
theorem dX12_join_75 : decode cX12_join 75 = .ok (.if_icmp .ne 38, 3) := by decide +kernel
theorem dX12_join_78 : decode cX12_join 78 = .ok (.iload_n 2, 1) := by decide +kernel
theorem dX12_join_79 : decode cX12_join 79 = .ok (.iconst 4, 1) := by decide +kernel
theorem dX12_join_80 : decode cX12_join 80 = .ok (.if_icmp .ge 33, 3) := by decide +kernel
theorem dX12_join_83 : decode cX12_join 83 = .ok (.aload_n 0, 1) := by decide +kernel
theorem dX12_join_84 : decode cX12_join 84 = .ok (.getfield 87, 3) := by decide +kernel
theorem dX12_join_87 : decode cX12_join 87 = .ok (.iconst 2, 1) := by decide +kernel
theorem dX12_join_88 : decode cX12_join 88 = .ok (.iload_n 1, 1) := by decide +kernel
theorem dX12_join_89 : decode cX12_join 89 = .ok (.iconst 1, 1) := by decide +kernel
theorem dX12_join_90 : decode cX12_join 90 = .ok (.isub, 1) := by decide +kernel
theorem dX12_join_91 : decode cX12_join 91 = .ok (.imul, 1) := by decide +kernel
theorem dX12_join_92 : decode cX12_join 92 = .ok (.iload_n 2, 1) := by decide +kernel
theorem dX12_join_93 : decode cX12_join 93 = .ok (.iadd, 1) := by decide +kernel
theorem dX12_join_94 : decode cX12_join 94 = .ok (.aload_n 0, 1) := by decide +kernel
theorem dX12_join_95 : decode cX12_join 95 = .ok (.getfield 87, 3) := by decide +kernel
theorem dX12_join_98 : decode cX12_join 98 = .ok (.iconst 4, 1) := by decide +kernel
theorem dX12_join_99 : decode cX12_join 99 = .ok (.iload_n 1, 1) := by decide +kernel
theorem dX12_join_100 : decode cX12_join 100 = .ok (.iconst 1, 1) := by decide +kernel
theorem dX12_join_101 : decode cX12_join 101 = .ok (.isub, 1) := by decide +kernel
theorem dX12_join_102 : decode cX12_join 102 = .ok (.imul, 1) := by decide +kernel
theorem dX12_join_103 : decode cX12_join 103 = .ok (.iload_n 2, 1) := by decide +kernel
theorem dX12_join_104 : decode cX12_join 104 = .ok (.iadd, 1) := by decide +kernel
theorem dX12_join_105 : decode cX12_join 105 = .ok (.laload, 1) := by decide +kernel
theorem dX12_join_106 : decode cX12_join 106 = .ok (.lastore, 1) := by decide +kernel
theorem dX12_join_107 : decode cX12_join 107 = .ok (.iinc 2 1, 3) := by decide +kernel
theorem dX12_join_110 : decode cX12_join 110 = .ok (.goto (-39), 3) := by decide +kernel
theorem dX12_join_113 : decode cX12_join 113 = .ok (.iload_n 1, 1) := by decide +kernel
theorem dX12_join_114 : decode cX12_join 114 = .ok (.iconst 1, 1) := by decide +kernel
theorem dX12_join_115 : decode cX12_join 115 = .ok (.iadd, 1) := by decide +kernel
theorem dX12_join_116 : decode cX12_join 116 = .ok (.iconst 2, 1) := by decide +kernel
theorem dX12_join_117 : decode cX12_join 117 = .ok (.idiv, 1) := by decide +kernel
theorem dX12_join_118 : decode cX12_join 118 = .ok (.ireturn, 1) := by decide +kernel
theorem dX12_root__0 : decode cX12_root_ 0 = .ok (.aload_n 0, 1) := by decide +kernel
theorem dX12_root__1 : decode cX12_root_ 1 = .ok (.invokevirtual 97, 3) := by decide +kernel
theorem dX12_root__4 : decode cX12_root_ 4 = .ok (.aload_n 0, 1) := by decide +kernel
theorem dX12_root__5 : decode cX12_root_ 5 = .ok (.getfield 78, 3) := by decide +kernel
theorem dX12_root__8 : decode cX12_root_ 8 = .ok (.istore_n 1, 1) := by decide +kernel
theorem dX12_root__9 : decode cX12_root_ 9 = .ok (.iload_n 1, 1) := by decide +kernel
theorem dX12_root__10 : decode cX12_root_ 10 = .ok (.iconst 1, 1) := by decide +kernel
theorem dX12_root__11 : decode cX12_root_ 11 = .ok (.if_icmp .le 12, 3) := by decide +kernel
theorem dX12_root__14 : decode cX12_root_ 14 = .ok (.aload_n 0, 1) := by decide +kernel
theorem dX12_root__15 : decode cX12_root_ 15 = .ok (.iload_n 1, 1) := by decide +kernel
theorem dX12_root__16 : decode cX12_root_ 16 = .ok (.invokevirtual 100, 3) := by decide +kernel
theorem dX12_root__19 : decode cX12_root_ 19 = .ok (.istore_n 1, 1) := by decide +kernel
theorem dX12_root__20 : decode cX12_root_ 20 = .ok (.goto (-11), 3) := by decide +kernel
theorem dX12_root__23 : decode cX12_root_ 23 = .ok (.return_, 1) := by decide +kernel
theorem dX12_rootByte_0 : decode cX12_rootByte 0 = .ok (.aload_n 0, 1) := by decide +kernel
theorem dX12_rootByte_1 : decode cX12_rootByte 1 = .ok (.getfield 87, 3) := by decide +kernel
theorem dX12_rootByte_4 : decode cX12_rootByte 4 = .ok (.iload_n 1, 1) := by decide +kernel
theorem dX12_rootByte_5 : decode cX12_rootByte 5 = .ok (.bipush 8, 2) := by decide +kernel
theorem dX12_rootByte_7 : decode cX12_rootByte 7 = .ok (.idiv, 1) := by decide +kernel
theorem dX12_rootByte_8 : decode cX12_rootByte 8 = .ok (.laload, 1) := by decide +kernel
theorem dX12_rootByte_9 : decode cX12_rootByte 9 = .ok (.iload_n 1, 1) := by decide +kernel
theorem dX12_rootByte_10 : decode cX12_rootByte 10 = .ok (.bipush 8, 2) := by decide +kernel
theorem dX12_rootByte_12 : decode cX12_rootByte 12 = .ok (.irem, 1) := by decide +kernel
theorem dX12_rootByte_13 : decode cX12_rootByte 13 = .ok (.invokestatic 49, 3) := by decide +kernel
theorem dX12_rootByte_16 : decode cX12_rootByte 16 = .ok (.ireturn, 1) := by decide +kernel
theorem dX12_tell_0 : decode cX12_tell 0 = .ok (.aload_n 0, 1) := by decide +kernel
theorem dX12_tell_1 : decode cX12_tell 1 = .ok (.getfield 103, 3) := by decide +kernel
theorem dX12_tell_4 : decode cX12_tell 4 = .ok (.aload_n 0, 1) := by decide +kernel
theorem dX12_tell_5 : decode cX12_tell 5 = .ok (.getfield 106, 3) := by decide +kernel
theorem dX12_tell_8 : decode cX12_tell 8 = .ok (.iload_n 1, 1) := by decide +kernel
theorem dX12_tell_9 : decode cX12_tell 9 = .ok (.iastore, 1) := by decide +kernel
theorem dX12_tell_10 : decode cX12_tell 10 = .ok (.aload_n 0, 1) := by decide +kernel
theorem dX12_tell_11 : decode cX12_tell 11 = .ok (.aload_n 0, 1) := by decide +kernel
theorem dX12_tell_12 : decode cX12_tell 12 = .ok (.getfield 106, 3) := by decide +kernel
theorem dX12_tell_15 : decode cX12_tell 15 = .ok (.iconst 1, 1) := by decide +kernel
theorem dX12_tell_16 : decode cX12_tell 16 = .ok (.iadd, 1) := by decide +kernel
theorem dX12_tell_17 : decode cX12_tell 17 = .ok (.putfield 106, 3) := by decide +kernel
theorem dX12_tell_20 : decode cX12_tell 20 = .ok (.return_, 1) := by decide +kernel
theorem dX12_path_0 : decode cX12_path 0 = .ok (.aload_n 0, 1) := by decide +kernel
theorem dX12_path_1 : decode cX12_path 1 = .ok (.invokevirtual 97, 3) := by decide +kernel
theorem dX12_path_4 : decode cX12_path 4 = .ok (.iload_n 1, 1) := by decide +kernel
theorem dX12_path_5 : decode cX12_path 5 = .ok (.istore_n 2, 1) := by decide +kernel
theorem dX12_path_6 : decode cX12_path 6 = .ok (.aload_n 0, 1) := by decide +kernel
theorem dX12_path_7 : decode cX12_path 7 = .ok (.getfield 78, 3) := by decide +kernel
theorem dX12_path_10 : decode cX12_path 10 = .ok (.istore_n 3, 1) := by decide +kernel
theorem dX12_path_11 : decode cX12_path 11 = .ok (.iload_n 3, 1) := by decide +kernel
theorem dX12_path_12 : decode cX12_path 12 = .ok (.iconst 1, 1) := by decide +kernel
theorem dX12_path_13 : decode cX12_path 13 = .ok (.if_icmp .le 128, 3) := by decide +kernel
theorem dX12_path_16 : decode cX12_path 16 = .ok (.iload_n 3, 1) := by decide +kernel
theorem dX12_path_17 : decode cX12_path 17 = .ok (.iconst 2, 1) := by decide +kernel
theorem dX12_path_18 : decode cX12_path 18 = .ok (.irem, 1) := by decide +kernel
theorem dX12_path_19 : decode cX12_path 19 = .ok (.iconst 1, 1) := by decide +kernel
theorem dX12_path_20 : decode cX12_path 20 = .ok (.if_icmp .ne 14, 3) := by decide +kernel
theorem dX12_path_23 : decode cX12_path 23 = .ok (.iload_n 2, 1) := by decide +kernel
theorem dX12_path_24 : decode cX12_path 24 = .ok (.iload_n 3, 1) := by decide +kernel
theorem dX12_path_25 : decode cX12_path 25 = .ok (.iconst 1, 1) := by decide +kernel
theorem dX12_path_26 : decode cX12_path 26 = .ok (.isub, 1) := by decide +kernel
theorem dX12_path_27 : decode cX12_path 27 = .ok (.if_icmp .ne 7, 3) := by decide +kernel
theorem dX12_path_30 : decode cX12_path 30 = .ok (.iconst 1, 1) := by decide +kernel
theorem dX12_path_31 : decode cX12_path 31 = .ok (.goto 4, 3) := by decide +kernel
theorem dX12_path_34 : decode cX12_path 34 = .ok (.iconst 0, 1) := by decide +kernel
theorem dX12_path_35 : decode cX12_path 35 = .ok (.istore 4, 2) := by decide +kernel
theorem dX12_path_37 : decode cX12_path 37 = .ok (.iload_n 2, 1) := by decide +kernel
theorem dX12_path_38 : decode cX12_path 38 = .ok (.iconst 2, 1) := by decide +kernel
theorem dX12_path_39 : decode cX12_path 39 = .ok (.irem, 1) := by decide +kernel
theorem dX12_path_40 : decode cX12_path 40 = .ok (.iconst 1, 1) := by decide +kernel
theorem dX12_path_41 : decode cX12_path 41 = .ok (.if_icmp .ne 9, 3) := by decide +kernel
theorem dX12_path_44 : decode cX12_path 44 = .ok (.iload_n 2, 1) := by decide +kernel
theorem dX12_path_45 : decode cX12_path 45 = .ok (.iconst 1, 1) := by decide +kernel
theorem dX12_path_46 : decode cX12_path 46 = .ok (.isub, 1) := by decide +kernel
theorem dX12_path_47 : decode cX12_path 47 = .ok (.goto 6, 3) := by decide +kernel
theorem dX12_path_50 : decode cX12_path 50 = .ok (.iload_n 2, 1) := by decide +kernel
theorem dX12_path_51 : decode cX12_path 51 = .ok (.iconst 1, 1) := by decide +kernel
theorem dX12_path_52 : decode cX12_path 52 = .ok (.iadd, 1) := by decide +kernel
theorem dX12_path_53 : decode cX12_path 53 = .ok (.istore 5, 2) := by decide +kernel
theorem dX12_path_55 : decode cX12_path 55 = .ok (.aload_n 0, 1) := by decide +kernel
theorem dX12_path_56 : decode cX12_path 56 = .ok (.iload 4, 2) := by decide +kernel
theorem dX12_path_58 : decode cX12_path 58 = .ok (.ifCond .eq 7, 3) := by decide +kernel
theorem dX12_path_61 : decode cX12_path 61 = .ok (.iconst 0, 1) := by decide +kernel
theorem dX12_path_62 : decode cX12_path 62 = .ok (.goto 15, 3) := by decide +kernel
theorem dX12_path_65 : decode cX12_path 65 = .ok (.iload_n 2, 1) := by decide +kernel
theorem dX12_path_66 : decode cX12_path 66 = .ok (.iconst 2, 1) := by decide +kernel
theorem dX12_path_67 : decode cX12_path 67 = .ok (.irem, 1) := by decide +kernel
theorem dX12_path_68 : decode cX12_path 68 = .ok (.iconst 1, 1) := by decide +kernel
theorem dX12_path_69 : decode cX12_path 69 = .ok (.if_icmp .ne 7, 3) := by decide +kernel
theorem dX12_path_72 : decode cX12_path 72 = .ok (.iconst 1, 1) := by decide +kernel
theorem dX12_path_73 : decode cX12_path 73 = .ok (.goto 4, 3) := by decide +kernel
theorem dX12_path_76 : decode cX12_path 76 = .ok (.iconst 2, 1) := by decide +kernel
theorem dX12_path_77 : decode cX12_path 77 = .ok (.invokevirtual 109, 3) := by decide +kernel
theorem dX12_path_80 : decode cX12_path 80 = .ok (.iconst 0, 1) := by decide +kernel
theorem dX12_path_81 : decode cX12_path 81 = .ok (.istore 6, 2) := by decide +kernel
theorem dX12_path_83 : decode cX12_path 83 = .ok (.iload 4, 2) := by decide +kernel
theorem dX12_path_85 : decode cX12_path 85 = .ok (.ifCond .ne 43, 3) := by decide +kernel
theorem dX12_path_88 : decode cX12_path 88 = .ok (.iload 6, 2) := by decide +kernel
theorem dX12_path_90 : decode cX12_path 90 = .ok (.bipush 32, 2) := by decide +kernel
theorem dX12_path_92 : decode cX12_path 92 = .ok (.if_icmp .ge 36, 3) := by decide +kernel
theorem dX12_path_95 : decode cX12_path 95 = .ok (.aload_n 0, 1) := by decide +kernel
theorem dX12_path_96 : decode cX12_path 96 = .ok (.aload_n 0, 1) := by decide +kernel
theorem dX12_path_97 : decode cX12_path 97 = .ok (.getfield 87, 3) := by decide +kernel
theorem dX12_path_100 : decode cX12_path 100 = .ok (.iconst 4, 1) := by decide +kernel
theorem dX12_path_101 : decode cX12_path 101 = .ok (.iload 5, 2) := by decide +kernel
theorem dX12_path_103 : decode cX12_path 103 = .ok (.imul, 1) := by decide +kernel
theorem dX12_path_104 : decode cX12_path 104 = .ok (.iload 6, 2) := by decide +kernel
theorem dX12_path_106 : decode cX12_path 106 = .ok (.bipush 8, 2) := by decide +kernel
theorem dX12_path_108 : decode cX12_path 108 = .ok (.idiv, 1) := by decide +kernel
theorem dX12_path_109 : decode cX12_path 109 = .ok (.iadd, 1) := by decide +kernel
theorem dX12_path_110 : decode cX12_path 110 = .ok (.laload, 1) := by decide +kernel
theorem dX12_path_111 : decode cX12_path 111 = .ok (.iload 6, 2) := by decide +kernel
theorem dX12_path_113 : decode cX12_path 113 = .ok (.bipush 8, 2) := by decide +kernel
theorem dX12_path_115 : decode cX12_path 115 = .ok (.irem, 1) := by decide +kernel
theorem dX12_path_116 : decode cX12_path 116 = .ok (.invokestatic 49, 3) := by decide +kernel
theorem dX12_path_119 : decode cX12_path 119 = .ok (.invokevirtual 109, 3) := by decide +kernel
theorem dX12_path_122 : decode cX12_path 122 = .ok (.iinc 6 1, 3) := by decide +kernel
theorem dX12_path_125 : decode cX12_path 125 = .ok (.goto (-42), 3) := by decide +kernel
theorem dX12_path_128 : decode cX12_path 128 = .ok (.iload_n 2, 1) := by decide +kernel
theorem dX12_path_129 : decode cX12_path 129 = .ok (.iconst 2, 1) := by decide +kernel
theorem dX12_path_130 : decode cX12_path 130 = .ok (.idiv, 1) := by decide +kernel
theorem dX12_path_131 : decode cX12_path 131 = .ok (.istore_n 2, 1) := by decide +kernel
theorem dX12_path_132 : decode cX12_path 132 = .ok (.aload_n 0, 1) := by decide +kernel
theorem dX12_path_133 : decode cX12_path 133 = .ok (.iload_n 3, 1) := by decide +kernel
theorem dX12_path_134 : decode cX12_path 134 = .ok (.invokevirtual 100, 3) := by decide +kernel
theorem dX12_path_137 : decode cX12_path 137 = .ok (.istore_n 3, 1) := by decide +kernel
theorem dX12_path_138 : decode cX12_path 138 = .ok (.goto (-127), 3) := by decide +kernel
theorem dX12_path_141 : decode cX12_path 141 = .ok (.return_, 1) := by decide +kernel
theorem dX12_told_0 : decode cX12_told 0 = .ok (.lconst 0, 1) := by decide +kernel
theorem dX12_told_1 : decode cX12_told 1 = .ok (.lstore_n 2, 1) := by decide +kernel
theorem dX12_told_2 : decode cX12_told 2 = .ok (.iconst 0, 1) := by decide +kernel
theorem dX12_told_3 : decode cX12_told 3 = .ok (.istore 4, 2) := by decide +kernel
theorem dX12_told_5 : decode cX12_told 5 = .ok (.iload 4, 2) := by decide +kernel
theorem dX12_told_7 : decode cX12_told 7 = .ok (.bipush 8, 2) := by decide +kernel
theorem dX12_told_9 : decode cX12_told 9 = .ok (.if_icmp .ge 48, 3) := by decide +kernel
theorem dX12_told_12 : decode cX12_told 12 = .ok (.lload_n 2, 1) := by decide +kernel
theorem dX12_told_13 : decode cX12_told 13 = .ok (.bipush 8, 2) := by decide +kernel
theorem dX12_told_15 : decode cX12_told 15 = .ok (.lshl, 1) := by decide +kernel
theorem dX12_told_16 : decode cX12_told 16 = .ok (.iload_n 1, 1) := by decide +kernel
theorem dX12_told_17 : decode cX12_told 17 = .ok (.aload_n 0, 1) := by decide +kernel
theorem dX12_told_18 : decode cX12_told 18 = .ok (.getfield 106, 3) := by decide +kernel
theorem dX12_told_21 : decode cX12_told 21 = .ok (.if_icmp .ge 26, 3) := by decide +kernel
theorem dX12_told_24 : decode cX12_told 24 = .ok (.iload 4, 2) := by decide +kernel
theorem dX12_told_26 : decode cX12_told 26 = .ok (.aload_n 0, 1) := by decide +kernel
theorem dX12_told_27 : decode cX12_told 27 = .ok (.getfield 106, 3) := by decide +kernel
theorem dX12_told_30 : decode cX12_told 30 = .ok (.iload_n 1, 1) := by decide +kernel
theorem dX12_told_31 : decode cX12_told 31 = .ok (.isub, 1) := by decide +kernel
theorem dX12_told_32 : decode cX12_told 32 = .ok (.if_icmp .ge 15, 3) := by decide +kernel
theorem dX12_told_35 : decode cX12_told 35 = .ok (.aload_n 0, 1) := by decide +kernel
theorem dX12_told_36 : decode cX12_told 36 = .ok (.getfield 103, 3) := by decide +kernel
theorem dX12_told_39 : decode cX12_told 39 = .ok (.iload_n 1, 1) := by decide +kernel
theorem dX12_told_40 : decode cX12_told 40 = .ok (.iload 4, 2) := by decide +kernel
theorem dX12_told_42 : decode cX12_told 42 = .ok (.iadd, 1) := by decide +kernel
theorem dX12_told_43 : decode cX12_told 43 = .ok (.iaload, 1) := by decide +kernel
theorem dX12_told_44 : decode cX12_told 44 = .ok (.goto 4, 3) := by decide +kernel
theorem dX12_told_47 : decode cX12_told 47 = .ok (.iconst 0, 1) := by decide +kernel
theorem dX12_told_48 : decode cX12_told 48 = .ok (.i2l, 1) := by decide +kernel
theorem dX12_told_49 : decode cX12_told 49 = .ok (.lor, 1) := by decide +kernel
theorem dX12_told_50 : decode cX12_told 50 = .ok (.lstore_n 2, 1) := by decide +kernel
theorem dX12_told_51 : decode cX12_told 51 = .ok (.iinc 4 1, 3) := by decide +kernel
theorem dX12_told_54 : decode cX12_told 54 = .ok (.goto (-49), 3) := by decide +kernel
theorem dX12_told_57 : decode cX12_told 57 = .ok (.lload_n 2, 1) := by decide +kernel
theorem dX12_told_58 : decode cX12_told 58 = .ok (.lreturn, 1) := by decide +kernel
theorem dX12_partsOf_0 : decode cX12_partsOf 0 = .ok (.aload_n 0, 1) := by decide +kernel
theorem dX12_partsOf_1 : decode cX12_partsOf 1 = .ok (.invokevirtual 112, 3) := by decide +kernel
theorem dX12_partsOf_4 : decode cX12_partsOf 4 = .ok (.bipush 101, 2) := by decide +kernel
theorem dX12_partsOf_6 : decode cX12_partsOf 6 = .ok (.istore_n 2, 1) := by decide +kernel
theorem dX12_partsOf_7 : decode cX12_partsOf 7 = .ok (.iconst 0, 1) := by decide +kernel
theorem dX12_partsOf_8 : decode cX12_partsOf 8 = .ok (.istore_n 3, 1) := by decide +kernel
theorem dX12_partsOf_9 : decode cX12_partsOf 9 = .ok (.iload_n 3, 1) := by decide +kernel
theorem dX12_partsOf_10 : decode cX12_partsOf 10 = .ok (.aload_n 0, 1) := by decide +kernel
theorem dX12_partsOf_11 : decode cX12_partsOf 11 = .ok (.iload_n 1, 1) := by decide +kernel
theorem dX12_partsOf_12 : decode cX12_partsOf 12 = .ok (.invokevirtual 115, 3) := by decide +kernel
theorem dX12_partsOf_15 : decode cX12_partsOf 15 = .ok (.aload_n 0, 1) := by decide +kernel
theorem dX12_partsOf_16 : decode cX12_partsOf 16 = .ok (.iload_n 1, 1) := by decide +kernel
theorem dX12_partsOf_17 : decode cX12_partsOf 17 = .ok (.invokevirtual 118, 3) := by decide +kernel
theorem dX12_partsOf_20 : decode cX12_partsOf 20 = .ok (.iadd, 1) := by decide +kernel
theorem dX12_partsOf_21 : decode cX12_partsOf 21 = .ok (.if_icmp .ge 69, 3) := by decide +kernel
theorem dX12_partsOf_24 : decode cX12_partsOf 24 = .ok (.iload_n 3, 1) := by decide +kernel
theorem dX12_partsOf_25 : decode cX12_partsOf 25 = .ok (.aload_n 0, 1) := by decide +kernel
theorem dX12_partsOf_26 : decode cX12_partsOf 26 = .ok (.iload_n 1, 1) := by decide +kernel
theorem dX12_partsOf_27 : decode cX12_partsOf 27 = .ok (.invokevirtual 115, 3) := by decide +kernel
theorem dX12_partsOf_30 : decode cX12_partsOf 30 = .ok (.if_icmp .ge 12, 3) := by decide +kernel
theorem dX12_partsOf_33 : decode cX12_partsOf 33 = .ok (.aload_n 0, 1) := by decide +kernel
theorem dX12_partsOf_34 : decode cX12_partsOf 34 = .ok (.iload_n 1, 1) := by decide +kernel
theorem dX12_partsOf_35 : decode cX12_partsOf 35 = .ok (.iload_n 2, 1) := by decide +kernel
theorem dX12_partsOf_36 : decode cX12_partsOf 36 = .ok (.invokevirtual 121, 3) := by decide +kernel
theorem dX12_partsOf_39 : decode cX12_partsOf 39 = .ok (.goto 5, 3) := by decide +kernel
theorem dX12_partsOf_42 : decode cX12_partsOf 42 = .ok (.bipush 7, 2) := by decide +kernel
theorem dX12_partsOf_44 : decode cX12_partsOf 44 = .ok (.istore 4, 2) := by decide +kernel
theorem dX12_partsOf_46 : decode cX12_partsOf 46 = .ok (.iconst 0, 1) := by decide +kernel
theorem dX12_partsOf_47 : decode cX12_partsOf 47 = .ok (.istore 5, 2) := by decide +kernel
theorem dX12_partsOf_49 : decode cX12_partsOf 49 = .ok (.iload 5, 2) := by decide +kernel
theorem dX12_partsOf_51 : decode cX12_partsOf 51 = .ok (.iload 4, 2) := by decide +kernel
theorem dX12_partsOf_53 : decode cX12_partsOf 53 = .ok (.if_icmp .ge 22, 3) := by decide +kernel
theorem dX12_partsOf_56 : decode cX12_partsOf 56 = .ok (.aload_n 0, 1) := by decide +kernel
theorem dX12_partsOf_57 : decode cX12_partsOf 57 = .ok (.aload_n 0, 1) := by decide +kernel
theorem dX12_partsOf_58 : decode cX12_partsOf 58 = .ok (.iload_n 1, 1) := by decide +kernel
theorem dX12_partsOf_59 : decode cX12_partsOf 59 = .ok (.iload_n 2, 1) := by decide +kernel
theorem dX12_partsOf_60 : decode cX12_partsOf 60 = .ok (.iload 5, 2) := by decide +kernel
theorem dX12_partsOf_62 : decode cX12_partsOf 62 = .ok (.iadd, 1) := by decide +kernel
theorem dX12_partsOf_63 : decode cX12_partsOf 63 = .ok (.invokevirtual 67, 3) := by decide +kernel
theorem dX12_partsOf_66 : decode cX12_partsOf 66 = .ok (.invokevirtual 124, 3) := by decide +kernel
theorem dX12_partsOf_69 : decode cX12_partsOf 69 = .ok (.iinc 5 1, 3) := by decide +kernel
theorem dX12_partsOf_72 : decode cX12_partsOf 72 = .ok (.goto (-23), 3) := by decide +kernel
theorem dX12_partsOf_75 : decode cX12_partsOf 75 = .ok (.aload_n 0, 1) := by decide +kernel
theorem dX12_partsOf_76 : decode cX12_partsOf 76 = .ok (.invokevirtual 127, 3) := by decide +kernel
theorem dX12_partsOf_79 : decode cX12_partsOf 79 = .ok (.iload_n 2, 1) := by decide +kernel
theorem dX12_partsOf_80 : decode cX12_partsOf 80 = .ok (.iload 4, 2) := by decide +kernel
theorem dX12_partsOf_82 : decode cX12_partsOf 82 = .ok (.iadd, 1) := by decide +kernel
theorem dX12_partsOf_83 : decode cX12_partsOf 83 = .ok (.istore_n 2, 1) := by decide +kernel
theorem dX12_partsOf_84 : decode cX12_partsOf 84 = .ok (.iinc 3 1, 3) := by decide +kernel
theorem dX12_partsOf_87 : decode cX12_partsOf 87 = .ok (.goto (-78), 3) := by decide +kernel
theorem dX12_partsOf_90 : decode cX12_partsOf 90 = .ok (.return_, 1) := by decide +kernel
theorem dX12_lay_0 : decode cX12_lay 0 = .ok (.iconst 0, 1) := by decide +kernel
theorem dX12_lay_1 : decode cX12_lay 1 = .ok (.istore_n 2, 1) := by decide +kernel
theorem dX12_lay_2 : decode cX12_lay 2 = .ok (.iload_n 2, 1) := by decide +kernel
theorem dX12_lay_3 : decode cX12_lay 3 = .ok (.iconst 4, 1) := by decide +kernel
theorem dX12_lay_4 : decode cX12_lay 4 = .ok (.if_icmp .ge 33, 3) := by decide +kernel
theorem dX12_lay_7 : decode cX12_lay 7 = .ok (.aload_n 0, 1) := by decide +kernel
theorem dX12_lay_8 : decode cX12_lay 8 = .ok (.getfield 130, 3) := by decide +kernel
theorem dX12_lay_11 : decode cX12_lay 11 = .ok (.aload_n 0, 1) := by decide +kernel
theorem dX12_lay_12 : decode cX12_lay 12 = .ok (.getfield 133, 3) := by decide +kernel
theorem dX12_lay_15 : decode cX12_lay 15 = .ok (.iload_n 2, 1) := by decide +kernel
theorem dX12_lay_16 : decode cX12_lay 16 = .ok (.iadd, 1) := by decide +kernel
theorem dX12_lay_17 : decode cX12_lay 17 = .ok (.iload_n 1, 1) := by decide +kernel
theorem dX12_lay_18 : decode cX12_lay 18 = .ok (.bipush 24, 2) := by decide +kernel
theorem dX12_lay_20 : decode cX12_lay 20 = .ok (.bipush 8, 2) := by decide +kernel
theorem dX12_lay_22 : decode cX12_lay 22 = .ok (.iload_n 2, 1) := by decide +kernel
theorem dX12_lay_23 : decode cX12_lay 23 = .ok (.imul, 1) := by decide +kernel
theorem dX12_lay_24 : decode cX12_lay 24 = .ok (.isub, 1) := by decide +kernel
theorem dX12_lay_25 : decode cX12_lay 25 = .ok (.ishr, 1) := by decide +kernel
theorem dX12_lay_26 : decode cX12_lay 26 = .ok (.sipush 255, 3) := by decide +kernel
theorem dX12_lay_29 : decode cX12_lay 29 = .ok (.iand, 1) := by decide +kernel
theorem dX12_lay_30 : decode cX12_lay 30 = .ok (.iastore, 1) := by decide +kernel
theorem dX12_lay_31 : decode cX12_lay 31 = .ok (.iinc 2 1, 3) := by decide +kernel
theorem dX12_lay_34 : decode cX12_lay 34 = .ok (.goto (-32), 3) := by decide +kernel
theorem dX12_lay_37 : decode cX12_lay 37 = .ok (.aload_n 0, 1) := by decide +kernel
theorem dX12_lay_38 : decode cX12_lay 38 = .ok (.aload_n 0, 1) := by decide +kernel
theorem dX12_lay_39 : decode cX12_lay 39 = .ok (.getfield 133, 3) := by decide +kernel
theorem dX12_lay_42 : decode cX12_lay 42 = .ok (.iconst 4, 1) := by decide +kernel
theorem dX12_lay_43 : decode cX12_lay 43 = .ok (.iadd, 1) := by decide +kernel
theorem dX12_lay_44 : decode cX12_lay 44 = .ok (.putfield 133, 3) := by decide +kernel
theorem dX12_lay_47 : decode cX12_lay 47 = .ok (.return_, 1) := by decide +kernel
theorem dX12_feed_0 : decode cX12_feed 0 = .ok (.aload_n 0, 1) := by decide +kernel
theorem dX12_feed_1 : decode cX12_feed 1 = .ok (.getfield 133, 3) := by decide +kernel
theorem dX12_feed_4 : decode cX12_feed 4 = .ok (.bipush 20, 2) := by decide +kernel
theorem dX12_feed_6 : decode cX12_feed 6 = .ok (.iadd, 1) := by decide +kernel
theorem dX12_feed_7 : decode cX12_feed 7 = .ok (.sipush 1000, 3) := by decide +kernel
theorem dX12_feed_10 : decode cX12_feed 10 = .ok (.if_icmp .le 5, 3) := by decide +kernel
theorem dX12_feed_13 : decode cX12_feed 13 = .ok (.iconst 0, 1) := by decide +kernel
theorem dX12_feed_14 : decode cX12_feed 14 = .ok (.ireturn, 1) := by decide +kernel
theorem dX12_feed_15 : decode cX12_feed 15 = .ok (.aload_n 0, 1) := by decide +kernel
theorem dX12_feed_16 : decode cX12_feed 16 = .ok (.iload_n 1, 1) := by decide +kernel
theorem dX12_feed_17 : decode cX12_feed 17 = .ok (.invokevirtual 136, 3) := by decide +kernel
theorem dX12_feed_20 : decode cX12_feed 20 = .ok (.aload_n 0, 1) := by decide +kernel
theorem dX12_feed_21 : decode cX12_feed 21 = .ok (.iload_n 2, 1) := by decide +kernel
theorem dX12_feed_22 : decode cX12_feed 22 = .ok (.invokevirtual 136, 3) := by decide +kernel
theorem dX12_feed_25 : decode cX12_feed 25 = .ok (.aload_n 0, 1) := by decide +kernel
theorem dX12_feed_26 : decode cX12_feed 26 = .ok (.iload_n 3, 1) := by decide +kernel
theorem dX12_feed_27 : decode cX12_feed 27 = .ok (.invokevirtual 136, 3) := by decide +kernel
theorem dX12_feed_30 : decode cX12_feed 30 = .ok (.aload_n 0, 1) := by decide +kernel
theorem dX12_feed_31 : decode cX12_feed 31 = .ok (.iload 4, 2) := by decide +kernel
theorem dX12_feed_33 : decode cX12_feed 33 = .ok (.invokevirtual 136, 3) := by decide +kernel
theorem dX12_feed_36 : decode cX12_feed 36 = .ok (.aload_n 0, 1) := by decide +kernel
theorem dX12_feed_37 : decode cX12_feed 37 = .ok (.iload 5, 2) := by decide +kernel
theorem dX12_feed_39 : decode cX12_feed 39 = .ok (.invokevirtual 136, 3) := by decide +kernel
theorem dX12_feed_42 : decode cX12_feed 42 = .ok (.iconst 1, 1) := by decide +kernel
theorem dX12_feed_43 : decode cX12_feed 43 = .ok (.ireturn, 1) := by decide +kernel
theorem dX12_endOnTape_0 : decode cX12_endOnTape 0 = .ok (.iload_n 1, 1) := by decide +kernel
theorem dX12_endOnTape_1 : decode cX12_endOnTape 1 = .ok (.iload_n 2, 1) := by decide +kernel
theorem dX12_endOnTape_2 : decode cX12_endOnTape 2 = .ok (.if_icmp .lt 7, 3) := by decide +kernel
theorem dX12_endOnTape_5 : decode cX12_endOnTape 5 = .ok (.iconst 0, 1) := by decide +kernel
theorem dX12_endOnTape_6 : decode cX12_endOnTape 6 = .ok (.goto 36, 3) := by decide +kernel
theorem dX12_endOnTape_9 : decode cX12_endOnTape 9 = .ok (.aload_n 0, 1) := by decide +kernel
theorem dX12_endOnTape_10 : decode cX12_endOnTape 10 = .ok (.getfield 130, 3) := by decide +kernel
theorem dX12_endOnTape_13 : decode cX12_endOnTape 13 = .ok (.iload_n 1, 1) := by decide +kernel
theorem dX12_endOnTape_14 : decode cX12_endOnTape 14 = .ok (.iaload, 1) := by decide +kernel
theorem dX12_endOnTape_15 : decode cX12_endOnTape 15 = .ok (.iconst 1, 1) := by decide +kernel
theorem dX12_endOnTape_16 : decode cX12_endOnTape 16 = .ok (.if_icmp .ne 8, 3) := by decide +kernel
theorem dX12_endOnTape_19 : decode cX12_endOnTape 19 = .ok (.bipush 33, 2) := by decide +kernel
theorem dX12_endOnTape_21 : decode cX12_endOnTape 21 = .ok (.goto 21, 3) := by decide +kernel
theorem dX12_endOnTape_24 : decode cX12_endOnTape 24 = .ok (.aload_n 0, 1) := by decide +kernel
theorem dX12_endOnTape_25 : decode cX12_endOnTape 25 = .ok (.getfield 130, 3) := by decide +kernel
theorem dX12_endOnTape_28 : decode cX12_endOnTape 28 = .ok (.iload_n 1, 1) := by decide +kernel
theorem dX12_endOnTape_29 : decode cX12_endOnTape 29 = .ok (.iaload, 1) := by decide +kernel
theorem dX12_endOnTape_30 : decode cX12_endOnTape 30 = .ok (.ifCond .ne 11, 3) := by decide +kernel
theorem dX12_endOnTape_33 : decode cX12_endOnTape 33 = .ok (.iload_n 3, 1) := by decide +kernel
theorem dX12_endOnTape_34 : decode cX12_endOnTape 34 = .ok (.ifCond .ne 7, 3) := by decide +kernel
theorem dX12_endOnTape_37 : decode cX12_endOnTape 37 = .ok (.iconst 1, 1) := by decide +kernel
theorem dX12_endOnTape_38 : decode cX12_endOnTape 38 = .ok (.goto 4, 3) := by decide +kernel
theorem dX12_endOnTape_41 : decode cX12_endOnTape 41 = .ok (.iconst 0, 1) := by decide +kernel
theorem dX12_endOnTape_42 : decode cX12_endOnTape 42 = .ok (.istore 4, 2) := by decide +kernel
theorem dX12_endOnTape_44 : decode cX12_endOnTape 44 = .ok (.iload_n 1, 1) := by decide +kernel
theorem dX12_endOnTape_45 : decode cX12_endOnTape 45 = .ok (.iload 4, 2) := by decide +kernel
theorem dX12_endOnTape_47 : decode cX12_endOnTape 47 = .ok (.iadd, 1) := by decide +kernel
theorem dX12_endOnTape_48 : decode cX12_endOnTape 48 = .ok (.iload_n 2, 1) := by decide +kernel
theorem dX12_endOnTape_49 : decode cX12_endOnTape 49 = .ok (.if_icmp .le 7, 3) := by decide +kernel
theorem dX12_endOnTape_52 : decode cX12_endOnTape 52 = .ok (.iconst 0, 1) := by decide +kernel
theorem dX12_endOnTape_53 : decode cX12_endOnTape 53 = .ok (.goto 5, 3) := by decide +kernel
theorem dX12_endOnTape_56 : decode cX12_endOnTape 56 = .ok (.iload 4, 2) := by decide +kernel
theorem dX12_endOnTape_58 : decode cX12_endOnTape 58 = .ok (.ireturn, 1) := by decide +kernel
theorem dX12_proofOnTape_0 : decode cX12_proofOnTape 0 = .ok (.iload_n 1, 1) := by decide +kernel
theorem dX12_proofOnTape_1 : decode cX12_proofOnTape 1 = .ok (.iconst 5, 1) := by decide +kernel
theorem dX12_proofOnTape_2 : decode cX12_proofOnTape 2 = .ok (.iadd, 1) := by decide +kernel
theorem dX12_proofOnTape_3 : decode cX12_proofOnTape 3 = .ok (.iload_n 2, 1) := by decide +kernel
theorem dX12_proofOnTape_4 : decode cX12_proofOnTape 4 = .ok (.if_icmp .le 5, 3) := by decide +kernel
theorem dX12_proofOnTape_7 : decode cX12_proofOnTape 7 = .ok (.iconst 0, 1) := by decide +kernel
theorem dX12_proofOnTape_8 : decode cX12_proofOnTape 8 = .ok (.ireturn, 1) := by decide +kernel
theorem dX12_proofOnTape_9 : decode cX12_proofOnTape 9 = .ok (.aload_n 0, 1) := by decide +kernel
theorem dX12_proofOnTape_10 : decode cX12_proofOnTape 10 = .ok (.iload_n 1, 1) := by decide +kernel
theorem dX12_proofOnTape_11 : decode cX12_proofOnTape 11 = .ok (.iconst 5, 1) := by decide +kernel
theorem dX12_proofOnTape_12 : decode cX12_proofOnTape 12 = .ok (.iadd, 1) := by decide +kernel
theorem dX12_proofOnTape_13 : decode cX12_proofOnTape 13 = .ok (.iload_n 2, 1) := by decide +kernel
theorem dX12_proofOnTape_14 : decode cX12_proofOnTape 14 = .ok (.iconst 0, 1) := by decide +kernel
theorem dX12_proofOnTape_15 : decode cX12_proofOnTape 15 = .ok (.invokevirtual 139, 3) := by decide +kernel
theorem dX12_proofOnTape_18 : decode cX12_proofOnTape 18 = .ok (.istore_n 3, 1) := by decide +kernel
theorem dX12_proofOnTape_19 : decode cX12_proofOnTape 19 = .ok (.iload_n 3, 1) := by decide +kernel
theorem dX12_proofOnTape_20 : decode cX12_proofOnTape 20 = .ok (.ifCond .le 17, 3) := by decide +kernel
theorem dX12_proofOnTape_23 : decode cX12_proofOnTape 23 = .ok (.aload_n 0, 1) := by decide +kernel
theorem dX12_proofOnTape_24 : decode cX12_proofOnTape 24 = .ok (.iload_n 1, 1) := by decide +kernel
theorem dX12_proofOnTape_25 : decode cX12_proofOnTape 25 = .ok (.iconst 5, 1) := by decide +kernel
theorem dX12_proofOnTape_26 : decode cX12_proofOnTape 26 = .ok (.iadd, 1) := by decide +kernel
theorem dX12_proofOnTape_27 : decode cX12_proofOnTape 27 = .ok (.iload_n 3, 1) := by decide +kernel
theorem dX12_proofOnTape_28 : decode cX12_proofOnTape 28 = .ok (.iadd, 1) := by decide +kernel
theorem dX12_proofOnTape_29 : decode cX12_proofOnTape 29 = .ok (.iload_n 2, 1) := by decide +kernel
theorem dX12_proofOnTape_30 : decode cX12_proofOnTape 30 = .ok (.iconst 1, 1) := by decide +kernel
theorem dX12_proofOnTape_31 : decode cX12_proofOnTape 31 = .ok (.invokevirtual 139, 3) := by decide +kernel
theorem dX12_proofOnTape_34 : decode cX12_proofOnTape 34 = .ok (.goto 4, 3) := by decide +kernel
theorem dX12_proofOnTape_37 : decode cX12_proofOnTape 37 = .ok (.iconst 0, 1) := by decide +kernel
theorem dX12_proofOnTape_38 : decode cX12_proofOnTape 38 = .ok (.istore 4, 2) := by decide +kernel
theorem dX12_proofOnTape_40 : decode cX12_proofOnTape 40 = .ok (.iload 4, 2) := by decide +kernel
theorem dX12_proofOnTape_42 : decode cX12_proofOnTape 42 = .ok (.ifCond .le 12, 3) := by decide +kernel
theorem dX12_proofOnTape_45 : decode cX12_proofOnTape 45 = .ok (.iconst 5, 1) := by decide +kernel
theorem dX12_proofOnTape_46 : decode cX12_proofOnTape 46 = .ok (.iload_n 3, 1) := by decide +kernel
theorem dX12_proofOnTape_47 : decode cX12_proofOnTape 47 = .ok (.iadd, 1) := by decide +kernel
theorem dX12_proofOnTape_48 : decode cX12_proofOnTape 48 = .ok (.iload 4, 2) := by decide +kernel
theorem dX12_proofOnTape_50 : decode cX12_proofOnTape 50 = .ok (.iadd, 1) := by decide +kernel
theorem dX12_proofOnTape_51 : decode cX12_proofOnTape 51 = .ok (.goto 4, 3) := by decide +kernel
