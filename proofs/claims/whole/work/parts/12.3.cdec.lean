theorem dX4_write_36 : decode cX4_write 36 = .ok (.aload_n 0, 1) := by decide +kernel
theorem dX4_write_37 : decode cX4_write 37 = .ok (.getfield 32, 3) := by decide +kernel
theorem dX4_write_40 : decode cX4_write 40 = .ok (.invokestatic 28, 3) := by decide +kernel
theorem dX4_write_43 : decode cX4_write 43 = .ok (.iconst 0, 1) := by decide +kernel
theorem dX4_write_44 : decode cX4_write 44 = .ok (.istore_n 3, 1) := by decide +kernel
theorem dX4_write_45 : decode cX4_write 45 = .ok (.iload_n 1, 1) := by decide +kernel
theorem dX4_write_46 : decode cX4_write 46 = .ok (.istore 4, 2) := by decide +kernel
theorem dX4_write_48 : decode cX4_write 48 = .ok (.iload_n 3, 1) := by decide +kernel
theorem dX4_write_49 : decode cX4_write 49 = .ok (.aload_n 0, 1) := by decide +kernel
theorem dX4_write_50 : decode cX4_write 50 = .ok (.getfield 32, 3) := by decide +kernel
theorem dX4_write_53 : decode cX4_write 53 = .ok (.if_icmp .ge 149, 3) := by decide +kernel
theorem dX4_write_56 : decode cX4_write 56 = .ok (.iload 4, 2) := by decide +kernel
theorem dX4_write_58 : decode cX4_write 58 = .ok (.ifCond .lt 144, 3) := by decide +kernel
theorem dX4_write_61 : decode cX4_write 61 = .ok (.iload 4, 2) := by decide +kernel
theorem dX4_write_63 : decode cX4_write 63 = .ok (.sipush 284, 3) := by decide +kernel
theorem dX4_write_66 : decode cX4_write 66 = .ok (.if_icmp .ge 136, 3) := by decide +kernel
theorem dX4_write_69 : decode cX4_write 69 = .ok (.sipush 512, 3) := by decide +kernel
theorem dX4_write_72 : decode cX4_write 72 = .ok (.aload_n 0, 1) := by decide +kernel
theorem dX4_write_73 : decode cX4_write 73 = .ok (.getfield 32, 3) := by decide +kernel
theorem dX4_write_76 : decode cX4_write 76 = .ok (.iload_n 3, 1) := by decide +kernel
theorem dX4_write_77 : decode cX4_write 77 = .ok (.isub, 1) := by decide +kernel
theorem dX4_write_78 : decode cX4_write 78 = .ok (.invokestatic 45, 3) := by decide +kernel
theorem dX4_write_81 : decode cX4_write 81 = .ok (.istore 5, 2) := by decide +kernel
theorem dX4_write_83 : decode cX4_write 83 = .ok (.iload_n 2, 1) := by decide +kernel
theorem dX4_write_84 : decode cX4_write 84 = .ok (.ifCond .eq 19, 3) := by decide +kernel
theorem dX4_write_87 : decode cX4_write 87 = .ok (.aload_n 0, 1) := by decide +kernel
theorem dX4_write_88 : decode cX4_write 88 = .ok (.getfield 32, 3) := by decide +kernel
theorem dX4_write_91 : decode cX4_write 91 = .ok (.iload_n 3, 1) := by decide +kernel
theorem dX4_write_92 : decode cX4_write 92 = .ok (.isub, 1) := by decide +kernel
theorem dX4_write_93 : decode cX4_write 93 = .ok (.sipush 512, 3) := by decide +kernel
theorem dX4_write_96 : decode cX4_write 96 = .ok (.if_icmp .gt 7, 3) := by decide +kernel
theorem dX4_write_99 : decode cX4_write 99 = .ok (.iconst 1, 1) := by decide +kernel
theorem dX4_write_100 : decode cX4_write 100 = .ok (.goto 4, 3) := by decide +kernel
theorem dX4_write_103 : decode cX4_write 103 = .ok (.iconst 0, 1) := by decide +kernel
theorem dX4_write_104 : decode cX4_write 104 = .ok (.istore 6, 2) := by decide +kernel
theorem dX4_write_106 : decode cX4_write 106 = .ok (.aload_n 0, 1) := by decide +kernel
theorem dX4_write_107 : decode cX4_write 107 = .ok (.getfield 13, 3) := by decide +kernel
theorem dX4_write_110 : decode cX4_write 110 = .ok (.iload 4, 2) := by decide +kernel
theorem dX4_write_112 : decode cX4_write 112 = .ok (.aaload, 1) := by decide +kernel
theorem dX4_write_113 : decode cX4_write 113 = .ok (.ifnonnull 15, 3) := by decide +kernel
theorem dX4_write_116 : decode cX4_write 116 = .ok (.aload_n 0, 1) := by decide +kernel
theorem dX4_write_117 : decode cX4_write 117 = .ok (.getfield 13, 3) := by decide +kernel
theorem dX4_write_120 : decode cX4_write 120 = .ok (.iload 4, 2) := by decide +kernel
theorem dX4_write_122 : decode cX4_write 122 = .ok (.sipush 512, 3) := by decide +kernel
theorem dX4_write_125 : decode cX4_write 125 = .ok (.newarray .byte, 2) := by decide +kernel
theorem dX4_write_127 : decode cX4_write 127 = .ok (.aastore, 1) := by decide +kernel
theorem dX4_write_128 : decode cX4_write 128 = .ok (.aload_n 0, 1) := by decide +kernel
theorem dX4_write_129 : decode cX4_write 129 = .ok (.getfield 21, 3) := by decide +kernel
theorem dX4_write_132 : decode cX4_write 132 = .ok (.iload_n 3, 1) := by decide +kernel
theorem dX4_write_133 : decode cX4_write 133 = .ok (.aload_n 0, 1) := by decide +kernel
theorem dX4_write_134 : decode cX4_write 134 = .ok (.getfield 13, 3) := by decide +kernel
theorem dX4_write_137 : decode cX4_write 137 = .ok (.iload 4, 2) := by decide +kernel
theorem dX4_write_139 : decode cX4_write 139 = .ok (.aaload, 1) := by decide +kernel
theorem dX4_write_140 : decode cX4_write 140 = .ok (.iconst 0, 1) := by decide +kernel
theorem dX4_write_141 : decode cX4_write 141 = .ok (.iload 6, 2) := by decide +kernel
theorem dX4_write_143 : decode cX4_write 143 = .ok (.ifCond .eq 10, 3) := by decide +kernel
theorem dX4_write_146 : decode cX4_write 146 = .ok (.iload 5, 2) := by decide +kernel
theorem dX4_write_148 : decode cX4_write 148 = .ok (.iconst 2, 1) := by decide +kernel
theorem dX4_write_149 : decode cX4_write 149 = .ok (.idiv, 1) := by decide +kernel
theorem dX4_write_150 : decode cX4_write 150 = .ok (.goto 5, 3) := by decide +kernel
theorem dX4_write_153 : decode cX4_write 153 = .ok (.iload 5, 2) := by decide +kernel
theorem dX4_write_155 : decode cX4_write 155 = .ok (.invokestatic 36, 3) := by decide +kernel
theorem dX4_write_158 : decode cX4_write 158 = .ok (.aload_n 0, 1) := by decide +kernel
theorem dX4_write_159 : decode cX4_write 159 = .ok (.getfield 17, 3) := by decide +kernel
theorem dX4_write_162 : decode cX4_write 162 = .ok (.iload 4, 2) := by decide +kernel
theorem dX4_write_164 : decode cX4_write 164 = .ok (.iload 6, 2) := by decide +kernel
theorem dX4_write_166 : decode cX4_write 166 = .ok (.ifCond .ne 7, 3) := by decide +kernel
theorem dX4_write_169 : decode cX4_write 169 = .ok (.iconst 1, 1) := by decide +kernel
theorem dX4_write_170 : decode cX4_write 170 = .ok (.goto 4, 3) := by decide +kernel
theorem dX4_write_173 : decode cX4_write 173 = .ok (.iconst 0, 1) := by decide +kernel
theorem dX4_write_174 : decode cX4_write 174 = .ok (.bastore, 1) := by decide +kernel
theorem dX4_write_175 : decode cX4_write 175 = .ok (.iload 6, 2) := by decide +kernel
theorem dX4_write_177 : decode cX4_write 177 = .ok (.ifCond .ne 13, 3) := by decide +kernel
theorem dX4_write_180 : decode cX4_write 180 = .ok (.aload_n 0, 1) := by decide +kernel
theorem dX4_write_181 : decode cX4_write 181 = .ok (.dup, 1) := by decide +kernel
theorem dX4_write_182 : decode cX4_write 182 = .ok (.getfield 51, 3) := by decide +kernel
theorem dX4_write_185 : decode cX4_write 185 = .ok (.iconst 1, 1) := by decide +kernel
theorem dX4_write_186 : decode cX4_write 186 = .ok (.iadd, 1) := by decide +kernel
theorem dX4_write_187 : decode cX4_write 187 = .ok (.putfield 51, 3) := by decide +kernel
theorem dX4_write_190 : decode cX4_write 190 = .ok (.iinc 3 512, 6) := by decide +kernel
theorem dX4_write_196 : decode cX4_write 196 = .ok (.iinc 4 1, 3) := by decide +kernel
theorem dX4_write_199 : decode cX4_write 199 = .ok (.goto (-151), 3) := by decide +kernel
theorem dX4_write_202 : decode cX4_write 202 = .ok (.iload_n 2, 1) := by decide +kernel
theorem dX4_write_203 : decode cX4_write 203 = .ok (.ifCond .ne 13, 3) := by decide +kernel
theorem dX4_write_206 : decode cX4_write 206 = .ok (.aload_n 0, 1) := by decide +kernel
theorem dX4_write_207 : decode cX4_write 207 = .ok (.dup, 1) := by decide +kernel
theorem dX4_write_208 : decode cX4_write 208 = .ok (.getfield 54, 3) := by decide +kernel
theorem dX4_write_211 : decode cX4_write 211 = .ok (.iconst 1, 1) := by decide +kernel
theorem dX4_write_212 : decode cX4_write 212 = .ok (.iadd, 1) := by decide +kernel
theorem dX4_write_213 : decode cX4_write 213 = .ok (.putfield 54, 3) := by decide +kernel
theorem dX4_write_216 : decode cX4_write 216 = .ok (.iload_n 2, 1) := by decide +kernel
theorem dX4_write_217 : decode cX4_write 217 = .ok (.ifCond .ne 7, 3) := by decide +kernel
theorem dX4_write_220 : decode cX4_write 220 = .ok (.iconst 1, 1) := by decide +kernel
theorem dX4_write_221 : decode cX4_write 221 = .ok (.goto 4, 3) := by decide +kernel
theorem dX4_write_224 : decode cX4_write 224 = .ok (.iconst 0, 1) := by decide +kernel
theorem dX4_write_225 : decode cX4_write 225 = .ok (.ireturn, 1) := by decide +kernel
theorem dX4_noteChain_0 : decode cX4_noteChain 0 = .ok (.iload_n 1, 1) := by decide +kernel
theorem dX4_noteChain_1 : decode cX4_noteChain 1 = .ok (.iconst 1, 1) := by decide +kernel
theorem dX4_noteChain_2 : decode cX4_noteChain 2 = .ok (.if_icmp .lt 9, 3) := by decide +kernel
theorem dX4_noteChain_5 : decode cX4_noteChain 5 = .ok (.iload_n 1, 1) := by decide +kernel
theorem dX4_noteChain_6 : decode cX4_noteChain 6 = .ok (.bipush 40, 2) := by decide +kernel
theorem dX4_noteChain_8 : decode cX4_noteChain 8 = .ok (.if_icmp .le 5, 3) := by decide +kernel
theorem dX4_noteChain_11 : decode cX4_noteChain 11 = .ok (.iconst 0, 1) := by decide +kernel
theorem dX4_noteChain_12 : decode cX4_noteChain 12 = .ok (.ireturn, 1) := by decide +kernel
theorem dX4_noteChain_13 : decode cX4_noteChain 13 = .ok (.aload_n 0, 1) := by decide +kernel
theorem dX4_noteChain_14 : decode cX4_noteChain 14 = .ok (.iconst 1, 1) := by decide +kernel
theorem dX4_noteChain_15 : decode cX4_noteChain 15 = .ok (.iload_n 1, 1) := by decide +kernel
theorem dX4_noteChain_16 : decode cX4_noteChain 16 = .ok (.iconst 0, 1) := by decide +kernel
theorem dX4_noteChain_17 : decode cX4_noteChain 17 = .ok (.invokevirtual 57, 3) := by decide +kernel
theorem dX4_noteChain_20 : decode cX4_noteChain 20 = .ok (.aload_n 0, 1) := by decide +kernel
theorem dX4_noteChain_21 : decode cX4_noteChain 21 = .ok (.aload_n 2, 1) := by decide +kernel
theorem dX4_noteChain_22 : decode cX4_noteChain 22 = .ok (.iload_n 3, 1) := by decide +kernel
theorem dX4_noteChain_23 : decode cX4_noteChain 23 = .ok (.iload 4, 2) := by decide +kernel
theorem dX4_noteChain_25 : decode cX4_noteChain 25 = .ok (.invokevirtual 61, 3) := by decide +kernel
theorem dX4_noteChain_28 : decode cX4_noteChain 28 = .ok (.aload_n 0, 1) := by decide +kernel
theorem dX4_noteChain_29 : decode cX4_noteChain 29 = .ok (.iconst 2, 1) := by decide +kernel
theorem dX4_noteChain_30 : decode cX4_noteChain 30 = .ok (.iload_n 1, 1) := by decide +kernel
theorem dX4_noteChain_31 : decode cX4_noteChain 31 = .ok (.imul, 1) := by decide +kernel
theorem dX4_noteChain_32 : decode cX4_noteChain 32 = .ok (.iconst 2, 1) := by decide +kernel
theorem dX4_noteChain_33 : decode cX4_noteChain 33 = .ok (.isub, 1) := by decide +kernel
theorem dX4_noteChain_34 : decode cX4_noteChain 34 = .ok (.invokevirtual 64, 3) := by decide +kernel
theorem dX4_noteChain_37 : decode cX4_noteChain 37 = .ok (.ifCond .ne 5, 3) := by decide +kernel
theorem dX4_noteChain_40 : decode cX4_noteChain 40 = .ok (.iconst 0, 1) := by decide +kernel
theorem dX4_noteChain_41 : decode cX4_noteChain 41 = .ok (.ireturn, 1) := by decide +kernel
theorem dX4_noteChain_42 : decode cX4_noteChain 42 = .ok (.aload_n 0, 1) := by decide +kernel
theorem dX4_noteChain_43 : decode cX4_noteChain 43 = .ok (.getfield 24, 3) := by decide +kernel
theorem dX4_noteChain_46 : decode cX4_noteChain 46 = .ok (.iload_n 1, 1) := by decide +kernel
theorem dX4_noteChain_47 : decode cX4_noteChain 47 = .ok (.iload 4, 2) := by decide +kernel
theorem dX4_noteChain_49 : decode cX4_noteChain 49 = .ok (.iload_n 3, 1) := by decide +kernel
theorem dX4_noteChain_50 : decode cX4_noteChain 50 = .ok (.isub, 1) := by decide +kernel
theorem dX4_noteChain_51 : decode cX4_noteChain 51 = .ok (.iastore, 1) := by decide +kernel
theorem dX4_noteChain_52 : decode cX4_noteChain 52 = .ok (.iconst 1, 1) := by decide +kernel
theorem dX4_noteChain_53 : decode cX4_noteChain 53 = .ok (.ireturn, 1) := by decide +kernel
theorem dX4_noteSnap_0 : decode cX4_noteSnap 0 = .ok (.aload_n 0, 1) := by decide +kernel
theorem dX4_noteSnap_1 : decode cX4_noteSnap 1 = .ok (.getfield 68, 3) := by decide +kernel
theorem dX4_noteSnap_4 : decode cX4_noteSnap 4 = .ok (.sipush 280, 3) := by decide +kernel
theorem dX4_noteSnap_7 : decode cX4_noteSnap 7 = .ok (.if_icmp .ne 9, 3) := by decide +kernel
theorem dX4_noteSnap_10 : decode cX4_noteSnap 10 = .ok (.sipush 282, 3) := by decide +kernel
theorem dX4_noteSnap_13 : decode cX4_noteSnap 13 = .ok (.goto 6, 3) := by decide +kernel
theorem dX4_noteSnap_16 : decode cX4_noteSnap 16 = .ok (.sipush 280, 3) := by decide +kernel
theorem dX4_noteSnap_19 : decode cX4_noteSnap 19 = .ok (.istore_n 2, 1) := by decide +kernel
theorem dX4_noteSnap_20 : decode cX4_noteSnap 20 = .ok (.aload_n 0, 1) := by decide +kernel
theorem dX4_noteSnap_21 : decode cX4_noteSnap 21 = .ok (.bipush 6, 2) := by decide +kernel
theorem dX4_noteSnap_23 : decode cX4_noteSnap 23 = .ok (.aload_n 1, 1) := by decide +kernel
theorem dX4_noteSnap_24 : decode cX4_noteSnap 24 = .ok (.iconst 1, 1) := by decide +kernel
theorem dX4_noteSnap_25 : decode cX4_noteSnap 25 = .ok (.invokevirtual 71, 3) := by decide +kernel
theorem dX4_noteSnap_28 : decode cX4_noteSnap 28 = .ok (.iconst 0, 1) := by decide +kernel
theorem dX4_noteSnap_29 : decode cX4_noteSnap 29 = .ok (.invokevirtual 57, 3) := by decide +kernel
theorem dX4_noteSnap_32 : decode cX4_noteSnap 32 = .ok (.aload_n 0, 1) := by decide +kernel
theorem dX4_noteSnap_33 : decode cX4_noteSnap 33 = .ok (.aload_n 1, 1) := by decide +kernel
theorem dX4_noteSnap_34 : decode cX4_noteSnap 34 = .ok (.getfield 77, 3) := by decide +kernel
theorem dX4_noteSnap_37 : decode cX4_noteSnap 37 = .ok (.iconst 0, 1) := by decide +kernel
theorem dX4_noteSnap_38 : decode cX4_noteSnap 38 = .ok (.aload_n 1, 1) := by decide +kernel
theorem dX4_noteSnap_39 : decode cX4_noteSnap 39 = .ok (.getfield 80, 3) := by decide +kernel
theorem dX4_noteSnap_42 : decode cX4_noteSnap 42 = .ok (.invokevirtual 61, 3) := by decide +kernel
theorem dX4_noteSnap_45 : decode cX4_noteSnap 45 = .ok (.aload_n 0, 1) := by decide +kernel
theorem dX4_noteSnap_46 : decode cX4_noteSnap 46 = .ok (.iload_n 2, 1) := by decide +kernel
theorem dX4_noteSnap_47 : decode cX4_noteSnap 47 = .ok (.invokevirtual 64, 3) := by decide +kernel
theorem dX4_noteSnap_50 : decode cX4_noteSnap 50 = .ok (.ifCond .ne 5, 3) := by decide +kernel
theorem dX4_noteSnap_53 : decode cX4_noteSnap 53 = .ok (.iconst 0, 1) := by decide +kernel
theorem dX4_noteSnap_54 : decode cX4_noteSnap 54 = .ok (.ireturn, 1) := by decide +kernel
theorem dX4_noteSnap_55 : decode cX4_noteSnap 55 = .ok (.aload_n 0, 1) := by decide +kernel
theorem dX4_noteSnap_56 : decode cX4_noteSnap 56 = .ok (.iload_n 2, 1) := by decide +kernel
theorem dX4_noteSnap_57 : decode cX4_noteSnap 57 = .ok (.putfield 68, 3) := by decide +kernel
theorem dX4_noteSnap_60 : decode cX4_noteSnap 60 = .ok (.iconst 1, 1) := by decide +kernel
theorem dX4_noteSnap_61 : decode cX4_noteSnap 61 = .ok (.ireturn, 1) := by decide +kernel
theorem dX4_jot_0 : decode cX4_jot 0 = .ok (.aload_n 0, 1) := by decide +kernel
theorem dX4_jot_1 : decode cX4_jot 1 = .ok (.iload_n 1, 1) := by decide +kernel
theorem dX4_jot_2 : decode cX4_jot 2 = .ok (.iload_n 2, 1) := by decide +kernel
theorem dX4_jot_3 : decode cX4_jot 3 = .ok (.aload_n 0, 1) := by decide +kernel
theorem dX4_jot_4 : decode cX4_jot 4 = .ok (.getfield 81, 3) := by decide +kernel
theorem dX4_jot_7 : decode cX4_jot 7 = .ok (.invokevirtual 57, 3) := by decide +kernel
theorem dX4_jot_10 : decode cX4_jot 10 = .ok (.aload_n 0, 1) := by decide +kernel
theorem dX4_jot_11 : decode cX4_jot 11 = .ok (.getfield 21, 3) := by decide +kernel
theorem dX4_jot_14 : decode cX4_jot 14 = .ok (.aload_n 0, 1) := by decide +kernel
theorem dX4_jot_15 : decode cX4_jot 15 = .ok (.getfield 32, 3) := by decide +kernel
theorem dX4_jot_18 : decode cX4_jot 18 = .ok (.iload_n 3, 1) := by decide +kernel
theorem dX4_jot_19 : decode cX4_jot 19 = .ok (.i2b, 1) := by decide +kernel
theorem dX4_jot_20 : decode cX4_jot 20 = .ok (.bastore, 1) := by decide +kernel
theorem dX4_jot_21 : decode cX4_jot 21 = .ok (.aload_n 0, 1) := by decide +kernel
theorem dX4_jot_22 : decode cX4_jot 22 = .ok (.dup, 1) := by decide +kernel
theorem dX4_jot_23 : decode cX4_jot 23 = .ok (.getfield 32, 3) := by decide +kernel
theorem dX4_jot_26 : decode cX4_jot 26 = .ok (.iconst 1, 1) := by decide +kernel
theorem dX4_jot_27 : decode cX4_jot 27 = .ok (.iadd, 1) := by decide +kernel
theorem dX4_jot_28 : decode cX4_jot 28 = .ok (.putfield 32, 3) := by decide +kernel
theorem dX4_jot_31 : decode cX4_jot 31 = .ok (.aload 4, 2) := by decide +kernel
theorem dX4_jot_33 : decode cX4_jot 33 = .ok (.ifnull 19, 3) := by decide +kernel
theorem dX4_jot_36 : decode cX4_jot 36 = .ok (.aload_n 0, 1) := by decide +kernel
theorem dX4_jot_37 : decode cX4_jot 37 = .ok (.aload 4, 2) := by decide +kernel
theorem dX4_jot_39 : decode cX4_jot 39 = .ok (.getfield 77, 3) := by decide +kernel
theorem dX4_jot_42 : decode cX4_jot 42 = .ok (.iload 5, 2) := by decide +kernel
theorem dX4_jot_44 : decode cX4_jot 44 = .ok (.aload 4, 2) := by decide +kernel
theorem dX4_jot_46 : decode cX4_jot 46 = .ok (.getfield 80, 3) := by decide +kernel
theorem dX4_jot_49 : decode cX4_jot 49 = .ok (.invokevirtual 61, 3) := by decide +kernel
theorem dX4_jot_52 : decode cX4_jot 52 = .ok (.aload_n 0, 1) := by decide +kernel
theorem dX4_jot_53 : decode cX4_jot 53 = .ok (.bipush 80, 2) := by decide +kernel
theorem dX4_jot_55 : decode cX4_jot 55 = .ok (.iconst 2, 1) := by decide +kernel
theorem dX4_jot_56 : decode cX4_jot 56 = .ok (.aload_n 0, 1) := by decide +kernel
theorem dX4_jot_57 : decode cX4_jot 57 = .ok (.getfield 81, 3) := by decide +kernel
theorem dX4_jot_60 : decode cX4_jot 60 = .ok (.imul, 1) := by decide +kernel
theorem dX4_jot_61 : decode cX4_jot 61 = .ok (.iadd, 1) := by decide +kernel
theorem dX4_jot_62 : decode cX4_jot 62 = .ok (.invokevirtual 64, 3) := by decide +kernel
theorem dX4_jot_65 : decode cX4_jot 65 = .ok (.ifCond .ne 5, 3) := by decide +kernel
theorem dX4_jot_68 : decode cX4_jot 68 = .ok (.iconst 0, 1) := by decide +kernel
theorem dX4_jot_69 : decode cX4_jot 69 = .ok (.ireturn, 1) := by decide +kernel
theorem dX4_jot_70 : decode cX4_jot 70 = .ok (.aload_n 0, 1) := by decide +kernel
theorem dX4_jot_71 : decode cX4_jot 71 = .ok (.dup, 1) := by decide +kernel
theorem dX4_jot_72 : decode cX4_jot 72 = .ok (.getfield 81, 3) := by decide +kernel
theorem dX4_jot_75 : decode cX4_jot 75 = .ok (.iconst 1, 1) := by decide +kernel
theorem dX4_jot_76 : decode cX4_jot 76 = .ok (.iadd, 1) := by decide +kernel
theorem dX4_jot_77 : decode cX4_jot 77 = .ok (.putfield 81, 3) := by decide +kernel
theorem dX4_jot_80 : decode cX4_jot 80 = .ok (.iconst 1, 1) := by decide +kernel
theorem dX4_jot_81 : decode cX4_jot 81 = .ok (.ireturn, 1) := by decide +kernel
theorem dX4_canRead_0 : decode cX4_canRead 0 = .ok (.iload_n 1, 1) := by decide +kernel
theorem dX4_canRead_1 : decode cX4_canRead 1 = .ok (.ifCond .lt 32, 3) := by decide +kernel
theorem dX4_canRead_4 : decode cX4_canRead 4 = .ok (.iload_n 1, 1) := by decide +kernel
theorem dX4_canRead_5 : decode cX4_canRead 5 = .ok (.sipush 284, 3) := by decide +kernel
theorem dX4_canRead_8 : decode cX4_canRead 8 = .ok (.if_icmp .ge 25, 3) := by decide +kernel
theorem dX4_canRead_11 : decode cX4_canRead 11 = .ok (.aload_n 0, 1) := by decide +kernel
theorem dX4_canRead_12 : decode cX4_canRead 12 = .ok (.getfield 17, 3) := by decide +kernel
theorem dX4_canRead_15 : decode cX4_canRead 15 = .ok (.iload_n 1, 1) := by decide +kernel
theorem dX4_canRead_16 : decode cX4_canRead 16 = .ok (.baload, 1) := by decide +kernel
theorem dX4_canRead_17 : decode cX4_canRead 17 = .ok (.ifCond .eq 16, 3) := by decide +kernel
theorem dX4_canRead_20 : decode cX4_canRead 20 = .ok (.aload_n 0, 1) := by decide +kernel
theorem dX4_canRead_21 : decode cX4_canRead 21 = .ok (.getfield 13, 3) := by decide +kernel
theorem dX4_canRead_24 : decode cX4_canRead 24 = .ok (.iload_n 1, 1) := by decide +kernel
theorem dX4_canRead_25 : decode cX4_canRead 25 = .ok (.aaload, 1) := by decide +kernel
theorem dX4_canRead_26 : decode cX4_canRead 26 = .ok (.ifnull 7, 3) := by decide +kernel
theorem dX4_canRead_29 : decode cX4_canRead 29 = .ok (.iconst 1, 1) := by decide +kernel
theorem dX4_canRead_30 : decode cX4_canRead 30 = .ok (.goto 4, 3) := by decide +kernel
theorem dX4_canRead_33 : decode cX4_canRead 33 = .ok (.iconst 0, 1) := by decide +kernel
theorem dX4_canRead_34 : decode cX4_canRead 34 = .ok (.ireturn, 1) := by decide +kernel
theorem dX4_fetch_0 : decode cX4_fetch 0 = .ok (.iload_n 1, 1) := by decide +kernel
theorem dX4_fetch_1 : decode cX4_fetch 1 = .ok (.iconst 1, 1) := by decide +kernel
theorem dX4_fetch_2 : decode cX4_fetch 2 = .ok (.if_icmp .lt 18, 3) := by decide +kernel
theorem dX4_fetch_5 : decode cX4_fetch 5 = .ok (.iload_n 1, 1) := by decide +kernel
theorem dX4_fetch_6 : decode cX4_fetch 6 = .ok (.bipush 40, 2) := by decide +kernel
theorem dX4_fetch_8 : decode cX4_fetch 8 = .ok (.if_icmp .gt 12, 3) := by decide +kernel
theorem dX4_fetch_11 : decode cX4_fetch 11 = .ok (.aload_n 0, 1) := by decide +kernel
theorem dX4_fetch_12 : decode cX4_fetch 12 = .ok (.getfield 24, 3) := by decide +kernel
theorem dX4_fetch_15 : decode cX4_fetch 15 = .ok (.iload_n 1, 1) := by decide +kernel
theorem dX4_fetch_16 : decode cX4_fetch 16 = .ok (.iaload, 1) := by decide +kernel
theorem dX4_fetch_17 : decode cX4_fetch 17 = .ok (.ifCond .ne 5, 3) := by decide +kernel
theorem dX4_fetch_20 : decode cX4_fetch 20 = .ok (.iconst (-1), 1) := by decide +kernel
theorem dX4_fetch_21 : decode cX4_fetch 21 = .ok (.ireturn, 1) := by decide +kernel
theorem dX4_fetch_22 : decode cX4_fetch 22 = .ok (.aload_n 0, 1) := by decide +kernel
theorem dX4_fetch_23 : decode cX4_fetch 23 = .ok (.getfield 24, 3) := by decide +kernel
theorem dX4_fetch_26 : decode cX4_fetch 26 = .ok (.iload_n 1, 1) := by decide +kernel
theorem dX4_fetch_27 : decode cX4_fetch 27 = .ok (.iaload, 1) := by decide +kernel
theorem dX4_fetch_28 : decode cX4_fetch 28 = .ok (.istore 4, 2) := by decide +kernel
theorem dX4_fetch_30 : decode cX4_fetch 30 = .ok (.iload_n 3, 1) := by decide +kernel
theorem dX4_fetch_31 : decode cX4_fetch 31 = .ok (.ifCond .lt 12, 3) := by decide +kernel
theorem dX4_fetch_34 : decode cX4_fetch 34 = .ok (.iload 4, 2) := by decide +kernel
theorem dX4_fetch_36 : decode cX4_fetch 36 = .ok (.aload_n 2, 1) := by decide +kernel
theorem dX4_fetch_37 : decode cX4_fetch 37 = .ok (.arraylength, 1) := by decide +kernel
theorem dX4_fetch_38 : decode cX4_fetch 38 = .ok (.iload_n 3, 1) := by decide +kernel
theorem dX4_fetch_39 : decode cX4_fetch 39 = .ok (.isub, 1) := by decide +kernel
theorem dX4_fetch_40 : decode cX4_fetch 40 = .ok (.if_icmp .le 5, 3) := by decide +kernel
theorem dX4_fetch_43 : decode cX4_fetch 43 = .ok (.iconst (-1), 1) := by decide +kernel
theorem dX4_fetch_44 : decode cX4_fetch 44 = .ok (.ireturn, 1) := by decide +kernel
theorem dX4_fetch_45 : decode cX4_fetch 45 = .ok (.iload 4, 2) := by decide +kernel
theorem dX4_fetch_47 : decode cX4_fetch 47 = .ok (.sipush 504, 3) := by decide +kernel
theorem dX4_fetch_50 : decode cX4_fetch 50 = .ok (.invokestatic 45, 3) := by decide +kernel
theorem dX4_fetch_53 : decode cX4_fetch 53 = .ok (.istore 5, 2) := by decide +kernel
theorem dX4_fetch_55 : decode cX4_fetch 55 = .ok (.iconst 2, 1) := by decide +kernel
theorem dX4_fetch_56 : decode cX4_fetch 56 = .ok (.iload_n 1, 1) := by decide +kernel
theorem dX4_fetch_57 : decode cX4_fetch 57 = .ok (.imul, 1) := by decide +kernel
theorem dX4_fetch_58 : decode cX4_fetch 58 = .ok (.iconst 2, 1) := by decide +kernel
theorem dX4_fetch_59 : decode cX4_fetch 59 = .ok (.isub, 1) := by decide +kernel
theorem dX4_fetch_60 : decode cX4_fetch 60 = .ok (.istore 6, 2) := by decide +kernel
theorem dX4_fetch_62 : decode cX4_fetch 62 = .ok (.aload_n 0, 1) := by decide +kernel
theorem dX4_fetch_63 : decode cX4_fetch 63 = .ok (.iload 6, 2) := by decide +kernel
theorem dX4_fetch_65 : decode cX4_fetch 65 = .ok (.invokevirtual 84, 3) := by decide +kernel
theorem dX4_fetch_68 : decode cX4_fetch 68 = .ok (.ifCond .eq 21, 3) := by decide +kernel
theorem dX4_fetch_71 : decode cX4_fetch 71 = .ok (.iload 4, 2) := by decide +kernel
theorem dX4_fetch_73 : decode cX4_fetch 73 = .ok (.iload 5, 2) := by decide +kernel
theorem dX4_fetch_75 : decode cX4_fetch 75 = .ok (.if_icmp .le 16, 3) := by decide +kernel
theorem dX4_fetch_78 : decode cX4_fetch 78 = .ok (.aload_n 0, 1) := by decide +kernel
theorem dX4_fetch_79 : decode cX4_fetch 79 = .ok (.iload 6, 2) := by decide +kernel
theorem dX4_fetch_81 : decode cX4_fetch 81 = .ok (.iconst 1, 1) := by decide +kernel
theorem dX4_fetch_82 : decode cX4_fetch 82 = .ok (.iadd, 1) := by decide +kernel
theorem dX4_fetch_83 : decode cX4_fetch 83 = .ok (.invokevirtual 84, 3) := by decide +kernel
theorem dX4_fetch_86 : decode cX4_fetch 86 = .ok (.ifCond .ne 5, 3) := by decide +kernel
theorem dX4_fetch_89 : decode cX4_fetch 89 = .ok (.iconst (-1), 1) := by decide +kernel
theorem dX4_fetch_90 : decode cX4_fetch 90 = .ok (.ireturn, 1) := by decide +kernel
theorem dX4_fetch_91 : decode cX4_fetch 91 = .ok (.aload_n 0, 1) := by decide +kernel
theorem dX4_fetch_92 : decode cX4_fetch 92 = .ok (.getfield 13, 3) := by decide +kernel
theorem dX4_fetch_95 : decode cX4_fetch 95 = .ok (.iload 6, 2) := by decide +kernel
theorem dX4_fetch_97 : decode cX4_fetch 97 = .ok (.aaload, 1) := by decide +kernel
theorem dX4_fetch_98 : decode cX4_fetch 98 = .ok (.bipush 8, 2) := by decide +kernel
theorem dX4_fetch_100 : decode cX4_fetch 100 = .ok (.aload_n 2, 1) := by decide +kernel
theorem dX4_fetch_101 : decode cX4_fetch 101 = .ok (.iload_n 3, 1) := by decide +kernel
theorem dX4_fetch_102 : decode cX4_fetch 102 = .ok (.iload 5, 2) := by decide +kernel
theorem dX4_fetch_104 : decode cX4_fetch 104 = .ok (.invokestatic 36, 3) := by decide +kernel
theorem dX4_fetch_107 : decode cX4_fetch 107 = .ok (.iload 4, 2) := by decide +kernel
theorem dX4_fetch_109 : decode cX4_fetch 109 = .ok (.iload 5, 2) := by decide +kernel
theorem dX4_fetch_111 : decode cX4_fetch 111 = .ok (.if_icmp .le 26, 3) := by decide +kernel
theorem dX4_fetch_114 : decode cX4_fetch 114 = .ok (.aload_n 0, 1) := by decide +kernel
theorem dX4_fetch_115 : decode cX4_fetch 115 = .ok (.getfield 13, 3) := by decide +kernel
theorem dX4_fetch_118 : decode cX4_fetch 118 = .ok (.iload 6, 2) := by decide +kernel
theorem dX4_fetch_120 : decode cX4_fetch 120 = .ok (.iconst 1, 1) := by decide +kernel
theorem dX4_fetch_121 : decode cX4_fetch 121 = .ok (.iadd, 1) := by decide +kernel
theorem dX4_fetch_122 : decode cX4_fetch 122 = .ok (.aaload, 1) := by decide +kernel
theorem dX4_fetch_123 : decode cX4_fetch 123 = .ok (.iconst 0, 1) := by decide +kernel
theorem dX4_fetch_124 : decode cX4_fetch 124 = .ok (.aload_n 2, 1) := by decide +kernel
theorem dX4_fetch_125 : decode cX4_fetch 125 = .ok (.iload_n 3, 1) := by decide +kernel
theorem dX4_fetch_126 : decode cX4_fetch 126 = .ok (.iload 5, 2) := by decide +kernel
theorem dX4_fetch_128 : decode cX4_fetch 128 = .ok (.iadd, 1) := by decide +kernel
theorem dX4_fetch_129 : decode cX4_fetch 129 = .ok (.iload 4, 2) := by decide +kernel
theorem dX4_fetch_131 : decode cX4_fetch 131 = .ok (.iload 5, 2) := by decide +kernel
theorem dX4_fetch_133 : decode cX4_fetch 133 = .ok (.isub, 1) := by decide +kernel
theorem dX4_fetch_134 : decode cX4_fetch 134 = .ok (.invokestatic 36, 3) := by decide +kernel
theorem dX4_fetch_137 : decode cX4_fetch 137 = .ok (.iload 4, 2) := by decide +kernel
theorem dX4_fetch_139 : decode cX4_fetch 139 = .ok (.ireturn, 1) := by decide +kernel
theorem dX5_init_0 : decode cX5_init 0 = .ok (.aload_n 0, 1) := by decide +kernel
theorem dX5_init_1 : decode cX5_init 1 = .ok (.invokespecial 3, 3) := by decide +kernel
theorem dX5_init_4 : decode cX5_init 4 = .ok (.aload_n 0, 1) := by decide +kernel
theorem dX5_init_5 : decode cX5_init 5 = .ok (.iconst 4, 1) := by decide +kernel
theorem dX5_init_6 : decode cX5_init 6 = .ok (.newarray .long, 2) := by decide +kernel
theorem dX5_init_8 : decode cX5_init 8 = .ok (.putfield 9, 3) := by decide +kernel
theorem dX5_init_11 : decode cX5_init 11 = .ok (.aload_n 0, 1) := by decide +kernel
theorem dX5_init_12 : decode cX5_init 12 = .ok (.iload_n 1, 1) := by decide +kernel
theorem dX5_init_13 : decode cX5_init 13 = .ok (.newarray .byte, 2) := by decide +kernel
theorem dX5_init_15 : decode cX5_init 15 = .ok (.putfield 15, 3) := by decide +kernel
theorem dX5_init_18 : decode cX5_init 18 = .ok (.return_, 1) := by decide +kernel
theorem dX5_at_0 : decode cX5_at 0 = .ok (.iload_n 1, 1) := by decide +kernel
theorem dX5_at_1 : decode cX5_at 1 = .ok (.ifCond .lt 24, 3) := by decide +kernel
theorem dX5_at_4 : decode cX5_at 4 = .ok (.iload_n 1, 1) := by decide +kernel
theorem dX5_at_5 : decode cX5_at 5 = .ok (.aload_n 0, 1) := by decide +kernel
theorem dX5_at_6 : decode cX5_at 6 = .ok (.getfield 19, 3) := by decide +kernel
theorem dX5_at_9 : decode cX5_at 9 = .ok (.if_icmp .ge 16, 3) := by decide +kernel
theorem dX5_at_12 : decode cX5_at 12 = .ok (.aload_n 0, 1) := by decide +kernel
theorem dX5_at_13 : decode cX5_at 13 = .ok (.getfield 15, 3) := by decide +kernel
theorem dX5_at_16 : decode cX5_at 16 = .ok (.iload_n 1, 1) := by decide +kernel
theorem dX5_at_17 : decode cX5_at 17 = .ok (.baload, 1) := by decide +kernel
theorem dX5_at_18 : decode cX5_at 18 = .ok (.sipush 255, 3) := by decide +kernel
theorem dX5_at_21 : decode cX5_at 21 = .ok (.iand, 1) := by decide +kernel
theorem dX5_at_22 : decode cX5_at 22 = .ok (.goto 4, 3) := by decide +kernel
theorem dX5_at_25 : decode cX5_at 25 = .ok (.iconst 0, 1) := by decide +kernel
theorem dX5_at_26 : decode cX5_at 26 = .ok (.ireturn, 1) := by decide +kernel
theorem dX5_two_0 : decode cX5_two 0 = .ok (.iload_n 1, 1) := by decide +kernel
theorem dX5_two_1 : decode cX5_two 1 = .ok (.ifCond .lt 42, 3) := by decide +kernel
theorem dX5_two_4 : decode cX5_two 4 = .ok (.iload_n 1, 1) := by decide +kernel
theorem dX5_two_5 : decode cX5_two 5 = .ok (.aload_n 0, 1) := by decide +kernel
theorem dX5_two_6 : decode cX5_two 6 = .ok (.getfield 19, 3) := by decide +kernel
theorem dX5_two_9 : decode cX5_two 9 = .ok (.iconst 1, 1) := by decide +kernel
theorem dX5_two_10 : decode cX5_two 10 = .ok (.isub, 1) := by decide +kernel
theorem dX5_two_11 : decode cX5_two 11 = .ok (.if_icmp .ge 32, 3) := by decide +kernel
theorem dX5_two_14 : decode cX5_two 14 = .ok (.aload_n 0, 1) := by decide +kernel
theorem dX5_two_15 : decode cX5_two 15 = .ok (.getfield 15, 3) := by decide +kernel
theorem dX5_two_18 : decode cX5_two 18 = .ok (.iload_n 1, 1) := by decide +kernel
theorem dX5_two_19 : decode cX5_two 19 = .ok (.baload, 1) := by decide +kernel
theorem dX5_two_20 : decode cX5_two 20 = .ok (.sipush 255, 3) := by decide +kernel
theorem dX5_two_23 : decode cX5_two 23 = .ok (.iand, 1) := by decide +kernel
theorem dX5_two_24 : decode cX5_two 24 = .ok (.bipush 8, 2) := by decide +kernel
theorem dX5_two_26 : decode cX5_two 26 = .ok (.ishl, 1) := by decide +kernel
theorem dX5_two_27 : decode cX5_two 27 = .ok (.aload_n 0, 1) := by decide +kernel
theorem dX5_two_28 : decode cX5_two 28 = .ok (.getfield 15, 3) := by decide +kernel
theorem dX5_two_31 : decode cX5_two 31 = .ok (.iload_n 1, 1) := by decide +kernel
theorem dX5_two_32 : decode cX5_two 32 = .ok (.iconst 1, 1) := by decide +kernel
theorem dX5_two_33 : decode cX5_two 33 = .ok (.iadd, 1) := by decide +kernel
theorem dX5_two_34 : decode cX5_two 34 = .ok (.baload, 1) := by decide +kernel
theorem dX5_two_35 : decode cX5_two 35 = .ok (.sipush 255, 3) := by decide +kernel
theorem dX5_two_38 : decode cX5_two 38 = .ok (.iand, 1) := by decide +kernel
theorem dX5_two_39 : decode cX5_two 39 = .ok (.ior, 1) := by decide +kernel
theorem dX5_two_40 : decode cX5_two 40 = .ok (.goto 4, 3) := by decide +kernel
theorem dX5_two_43 : decode cX5_two 43 = .ok (.iconst 0, 1) := by decide +kernel
theorem dX5_two_44 : decode cX5_two 44 = .ok (.ireturn, 1) := by decide +kernel
theorem dX5_kind_0 : decode cX5_kind 0 = .ok (.aload_n 0, 1) := by decide +kernel
theorem dX5_kind_1 : decode cX5_kind 1 = .ok (.getfield 19, 3) := by decide +kernel
theorem dX5_kind_4 : decode cX5_kind 4 = .ok (.ifCond .le 16, 3) := by decide +kernel
theorem dX5_kind_7 : decode cX5_kind 7 = .ok (.aload_n 0, 1) := by decide +kernel
theorem dX5_kind_8 : decode cX5_kind 8 = .ok (.getfield 15, 3) := by decide +kernel
theorem dX5_kind_11 : decode cX5_kind 11 = .ok (.iconst 0, 1) := by decide +kernel
theorem dX5_kind_12 : decode cX5_kind 12 = .ok (.baload, 1) := by decide +kernel
theorem dX5_kind_13 : decode cX5_kind 13 = .ok (.sipush 255, 3) := by decide +kernel
theorem dX5_kind_16 : decode cX5_kind 16 = .ok (.iand, 1) := by decide +kernel
theorem dX5_kind_17 : decode cX5_kind 17 = .ok (.goto 4, 3) := by decide +kernel
theorem dX5_kind_20 : decode cX5_kind 20 = .ok (.iconst 0, 1) := by decide +kernel
theorem dX5_kind_21 : decode cX5_kind 21 = .ok (.ireturn, 1) := by decide +kernel
theorem dX5_signer_0 : decode cX5_signer 0 = .ok (.aload_n 0, 1) := by decide +kernel
theorem dX5_signer_1 : decode cX5_signer 1 = .ok (.getfield 19, 3) := by decide +kernel
theorem dX5_signer_4 : decode cX5_signer 4 = .ok (.iconst 1, 1) := by decide +kernel
theorem dX5_signer_5 : decode cX5_signer 5 = .ok (.if_icmp .le 16, 3) := by decide +kernel
theorem dX5_signer_8 : decode cX5_signer 8 = .ok (.aload_n 0, 1) := by decide +kernel
theorem dX5_signer_9 : decode cX5_signer 9 = .ok (.getfield 15, 3) := by decide +kernel
theorem dX5_signer_12 : decode cX5_signer 12 = .ok (.iconst 1, 1) := by decide +kernel
theorem dX5_signer_13 : decode cX5_signer 13 = .ok (.baload, 1) := by decide +kernel
theorem dX5_signer_14 : decode cX5_signer 14 = .ok (.sipush 255, 3) := by decide +kernel
theorem dX5_signer_17 : decode cX5_signer 17 = .ok (.iand, 1) := by decide +kernel
theorem dX5_signer_18 : decode cX5_signer 18 = .ok (.goto 4, 3) := by decide +kernel
theorem dX5_signer_21 : decode cX5_signer 21 = .ok (.iconst 0, 1) := by decide +kernel
theorem dX5_signer_22 : decode cX5_signer 22 = .ok (.ireturn, 1) := by decide +kernel
theorem dX5_blockAt_0 : decode cX5_blockAt 0 = .ok (.aload_n 0, 1) := by decide +kernel
theorem dX5_blockAt_1 : decode cX5_blockAt 1 = .ok (.invokevirtual 23, 3) := by decide +kernel
theorem dX5_blockAt_4 : decode cX5_blockAt 4 = .ok (.iconst 1, 1) := by decide +kernel
theorem dX5_blockAt_5 : decode cX5_blockAt 5 = .ok (.if_icmp .ne 8, 3) := by decide +kernel
theorem dX5_blockAt_8 : decode cX5_blockAt 8 = .ok (.bipush 6, 2) := by decide +kernel
theorem dX5_blockAt_10 : decode cX5_blockAt 10 = .ok (.goto 16, 3) := by decide +kernel
theorem dX5_blockAt_13 : decode cX5_blockAt 13 = .ok (.aload_n 0, 1) := by decide +kernel
theorem dX5_blockAt_14 : decode cX5_blockAt 14 = .ok (.invokevirtual 23, 3) := by decide +kernel
theorem dX5_blockAt_17 : decode cX5_blockAt 17 = .ok (.iconst 4, 1) := by decide +kernel
theorem dX5_blockAt_18 : decode cX5_blockAt 18 = .ok (.if_icmp .ne 7, 3) := by decide +kernel
theorem dX5_blockAt_21 : decode cX5_blockAt 21 = .ok (.iconst 1, 1) := by decide +kernel
theorem dX5_blockAt_22 : decode cX5_blockAt 22 = .ok (.goto 4, 3) := by decide +kernel
theorem dX5_blockAt_25 : decode cX5_blockAt 25 = .ok (.iconst (-1), 1) := by decide +kernel
theorem dX5_blockAt_26 : decode cX5_blockAt 26 = .ok (.ireturn, 1) := by decide +kernel
theorem dX5_readId_0 : decode cX5_readId 0 = .ok (.aload_n 0, 1) := by decide +kernel
theorem dX5_readId_1 : decode cX5_readId 1 = .ok (.iload_n 2, 1) := by decide +kernel
theorem dX5_readId_2 : decode cX5_readId 2 = .ok (.ifCond .lt 16, 3) := by decide +kernel
theorem dX5_readId_5 : decode cX5_readId 5 = .ok (.iload_n 2, 1) := by decide +kernel
theorem dX5_readId_6 : decode cX5_readId 6 = .ok (.aload_n 1, 1) := by decide +kernel
theorem dX5_readId_7 : decode cX5_readId 7 = .ok (.arraylength, 1) := by decide +kernel
theorem dX5_readId_8 : decode cX5_readId 8 = .ok (.bipush 32, 2) := by decide +kernel
theorem dX5_readId_10 : decode cX5_readId 10 = .ok (.isub, 1) := by decide +kernel
theorem dX5_readId_11 : decode cX5_readId 11 = .ok (.if_icmp .gt 7, 3) := by decide +kernel
theorem dX5_readId_14 : decode cX5_readId 14 = .ok (.iconst 1, 1) := by decide +kernel
theorem dX5_readId_15 : decode cX5_readId 15 = .ok (.goto 4, 3) := by decide +kernel
theorem dX5_readId_18 : decode cX5_readId 18 = .ok (.iconst 0, 1) := by decide +kernel
theorem dX5_readId_19 : decode cX5_readId 19 = .ok (.putfield 27, 3) := by decide +kernel
theorem dX5_readId_22 : decode cX5_readId 22 = .ok (.iconst 0, 1) := by decide +kernel
theorem dX5_readId_23 : decode cX5_readId 23 = .ok (.istore_n 3, 1) := by decide +kernel
theorem dX5_readId_24 : decode cX5_readId 24 = .ok (.iload_n 3, 1) := by decide +kernel
theorem dX5_readId_25 : decode cX5_readId 25 = .ok (.iconst 4, 1) := by decide +kernel
theorem dX5_readId_26 : decode cX5_readId 26 = .ok (.if_icmp .ge 34, 3) := by decide +kernel
theorem dX5_readId_29 : decode cX5_readId 29 = .ok (.aload_n 0, 1) := by decide +kernel
theorem dX5_readId_30 : decode cX5_readId 30 = .ok (.getfield 27, 3) := by decide +kernel
theorem dX5_readId_33 : decode cX5_readId 33 = .ok (.ifCond .eq 27, 3) := by decide +kernel
theorem dX5_readId_36 : decode cX5_readId 36 = .ok (.aload_n 0, 1) := by decide +kernel
theorem dX5_readId_37 : decode cX5_readId 37 = .ok (.getfield 9, 3) := by decide +kernel
theorem dX5_readId_40 : decode cX5_readId 40 = .ok (.iload_n 3, 1) := by decide +kernel
theorem dX5_readId_41 : decode cX5_readId 41 = .ok (.aload_n 1, 1) := by decide +kernel
theorem dX5_readId_42 : decode cX5_readId 42 = .ok (.aload_n 1, 1) := by decide +kernel
theorem dX5_readId_43 : decode cX5_readId 43 = .ok (.arraylength, 1) := by decide +kernel
theorem dX5_readId_44 : decode cX5_readId 44 = .ok (.iload_n 2, 1) := by decide +kernel
theorem dX5_readId_45 : decode cX5_readId 45 = .ok (.bipush 8, 2) := by decide +kernel
theorem dX5_readId_47 : decode cX5_readId 47 = .ok (.iload_n 3, 1) := by decide +kernel
theorem dX5_readId_48 : decode cX5_readId 48 = .ok (.imul, 1) := by decide +kernel
theorem dX5_readId_49 : decode cX5_readId 49 = .ok (.iadd, 1) := by decide +kernel
theorem dX5_readId_50 : decode cX5_readId 50 = .ok (.invokestatic 31, 3) := by decide +kernel
theorem dX5_readId_53 : decode cX5_readId 53 = .ok (.lastore, 1) := by decide +kernel
theorem dX5_readId_54 : decode cX5_readId 54 = .ok (.iinc 3 1, 3) := by decide +kernel
theorem dX5_readId_57 : decode cX5_readId 57 = .ok (.goto (-33), 3) := by decide +kernel
theorem dX5_readId_60 : decode cX5_readId 60 = .ok (.return_, 1) := by decide +kernel
theorem dX5_writeId_0 : decode cX5_writeId 0 = .ok (.iload_n 2, 1) := by decide +kernel
theorem dX5_writeId_1 : decode cX5_writeId 1 = .ok (.ifCond .lt 12, 3) := by decide +kernel
theorem dX5_writeId_4 : decode cX5_writeId 4 = .ok (.iload_n 2, 1) := by decide +kernel
theorem dX5_writeId_5 : decode cX5_writeId 5 = .ok (.aload_n 1, 1) := by decide +kernel
theorem dX5_writeId_6 : decode cX5_writeId 6 = .ok (.arraylength, 1) := by decide +kernel
theorem dX5_writeId_7 : decode cX5_writeId 7 = .ok (.bipush 32, 2) := by decide +kernel
theorem dX5_writeId_9 : decode cX5_writeId 9 = .ok (.isub, 1) := by decide +kernel
theorem dX5_writeId_10 : decode cX5_writeId 10 = .ok (.if_icmp .le 4, 3) := by decide +kernel
theorem dX5_writeId_13 : decode cX5_writeId 13 = .ok (.return_, 1) := by decide +kernel
theorem dX5_writeId_14 : decode cX5_writeId 14 = .ok (.iconst 0, 1) := by decide +kernel
theorem dX5_writeId_15 : decode cX5_writeId 15 = .ok (.istore_n 3, 1) := by decide +kernel
theorem dX5_writeId_16 : decode cX5_writeId 16 = .ok (.iload_n 3, 1) := by decide +kernel
theorem dX5_writeId_17 : decode cX5_writeId 17 = .ok (.bipush 32, 2) := by decide +kernel
theorem dX5_writeId_19 : decode cX5_writeId 19 = .ok (.if_icmp .ge 35, 3) := by decide +kernel
theorem dX5_writeId_22 : decode cX5_writeId 22 = .ok (.aload_n 1, 1) := by decide +kernel
theorem dX5_writeId_23 : decode cX5_writeId 23 = .ok (.iload_n 2, 1) := by decide +kernel
theorem dX5_writeId_24 : decode cX5_writeId 24 = .ok (.iload_n 3, 1) := by decide +kernel
theorem dX5_writeId_25 : decode cX5_writeId 25 = .ok (.iadd, 1) := by decide +kernel
theorem dX5_writeId_26 : decode cX5_writeId 26 = .ok (.aload_n 0, 1) := by decide +kernel
theorem dX5_writeId_27 : decode cX5_writeId 27 = .ok (.getfield 9, 3) := by decide +kernel
theorem dX5_writeId_30 : decode cX5_writeId 30 = .ok (.iload_n 3, 1) := by decide +kernel
theorem dX5_writeId_31 : decode cX5_writeId 31 = .ok (.iconst 3, 1) := by decide +kernel
theorem dX5_writeId_32 : decode cX5_writeId 32 = .ok (.ishr, 1) := by decide +kernel
theorem dX5_writeId_33 : decode cX5_writeId 33 = .ok (.laload, 1) := by decide +kernel
theorem dX5_writeId_34 : decode cX5_writeId 34 = .ok (.bipush 56, 2) := by decide +kernel
theorem dX5_writeId_36 : decode cX5_writeId 36 = .ok (.bipush 8, 2) := by decide +kernel
theorem dX5_writeId_38 : decode cX5_writeId 38 = .ok (.iload_n 3, 1) := by decide +kernel
theorem dX5_writeId_39 : decode cX5_writeId 39 = .ok (.bipush 7, 2) := by decide +kernel
theorem dX5_writeId_41 : decode cX5_writeId 41 = .ok (.iand, 1) := by decide +kernel
theorem dX5_writeId_42 : decode cX5_writeId 42 = .ok (.imul, 1) := by decide +kernel
theorem dX5_writeId_43 : decode cX5_writeId 43 = .ok (.isub, 1) := by decide +kernel
theorem dX5_writeId_44 : decode cX5_writeId 44 = .ok (.lshr, 1) := by decide +kernel
theorem dX5_writeId_45 : decode cX5_writeId 45 = .ok (.l2i, 1) := by decide +kernel
theorem dX5_writeId_46 : decode cX5_writeId 46 = .ok (.i2b, 1) := by decide +kernel
theorem dX5_writeId_47 : decode cX5_writeId 47 = .ok (.bastore, 1) := by decide +kernel
theorem dX5_writeId_48 : decode cX5_writeId 48 = .ok (.iinc 3 1, 3) := by decide +kernel
theorem dX5_writeId_51 : decode cX5_writeId 51 = .ok (.goto (-35), 3) := by decide +kernel
theorem dX5_writeId_54 : decode cX5_writeId 54 = .ok (.return_, 1) := by decide +kernel
theorem dX5_isFor_0 : decode cX5_isFor 0 = .ok (.aload_n 0, 1) := by decide +kernel
theorem dX5_isFor_1 : decode cX5_isFor 1 = .ok (.getfield 9, 3) := by decide +kernel
theorem dX5_isFor_4 : decode cX5_isFor 4 = .ok (.astore_n 2, 1) := by decide +kernel
theorem dX5_isFor_5 : decode cX5_isFor 5 = .ok (.aload_n 1, 1) := by decide +kernel
theorem dX5_isFor_6 : decode cX5_isFor 6 = .ok (.getfield 9, 3) := by decide +kernel
theorem dX5_isFor_9 : decode cX5_isFor 9 = .ok (.astore_n 3, 1) := by decide +kernel
theorem dX5_isFor_10 : decode cX5_isFor 10 = .ok (.aload_n 0, 1) := by decide +kernel
theorem dX5_isFor_11 : decode cX5_isFor 11 = .ok (.getfield 27, 3) := by decide +kernel
theorem dX5_isFor_14 : decode cX5_isFor 14 = .ok (.ifCond .eq 54, 3) := by decide +kernel
theorem dX5_isFor_17 : decode cX5_isFor 17 = .ok (.aload_n 1, 1) := by decide +kernel
theorem dX5_isFor_18 : decode cX5_isFor 18 = .ok (.getfield 27, 3) := by decide +kernel
theorem dX5_isFor_21 : decode cX5_isFor 21 = .ok (.ifCond .eq 47, 3) := by decide +kernel
theorem dX5_isFor_24 : decode cX5_isFor 24 = .ok (.aload_n 2, 1) := by decide +kernel
theorem dX5_isFor_25 : decode cX5_isFor 25 = .ok (.iconst 0, 1) := by decide +kernel
theorem dX5_isFor_26 : decode cX5_isFor 26 = .ok (.laload, 1) := by decide +kernel
theorem dX5_isFor_27 : decode cX5_isFor 27 = .ok (.aload_n 3, 1) := by decide +kernel
theorem dX5_isFor_28 : decode cX5_isFor 28 = .ok (.iconst 0, 1) := by decide +kernel
theorem dX5_isFor_29 : decode cX5_isFor 29 = .ok (.laload, 1) := by decide +kernel
theorem dX5_isFor_30 : decode cX5_isFor 30 = .ok (.lcmp, 1) := by decide +kernel
theorem dX5_isFor_31 : decode cX5_isFor 31 = .ok (.ifCond .ne 37, 3) := by decide +kernel
theorem dX5_isFor_34 : decode cX5_isFor 34 = .ok (.aload_n 2, 1) := by decide +kernel
theorem dX5_isFor_35 : decode cX5_isFor 35 = .ok (.iconst 1, 1) := by decide +kernel
theorem dX5_isFor_36 : decode cX5_isFor 36 = .ok (.laload, 1) := by decide +kernel
theorem dX5_isFor_37 : decode cX5_isFor 37 = .ok (.aload_n 3, 1) := by decide +kernel
theorem dX5_isFor_38 : decode cX5_isFor 38 = .ok (.iconst 1, 1) := by decide +kernel
theorem dX5_isFor_39 : decode cX5_isFor 39 = .ok (.laload, 1) := by decide +kernel
theorem dX5_isFor_40 : decode cX5_isFor 40 = .ok (.lcmp, 1) := by decide +kernel
theorem dX5_isFor_41 : decode cX5_isFor 41 = .ok (.ifCond .ne 27, 3) := by decide +kernel
theorem dX5_isFor_44 : decode cX5_isFor 44 = .ok (.aload_n 2, 1) := by decide +kernel
theorem dX5_isFor_45 : decode cX5_isFor 45 = .ok (.iconst 2, 1) := by decide +kernel
theorem dX5_isFor_46 : decode cX5_isFor 46 = .ok (.laload, 1) := by decide +kernel
theorem dX5_isFor_47 : decode cX5_isFor 47 = .ok (.aload_n 3, 1) := by decide +kernel
theorem dX5_isFor_48 : decode cX5_isFor 48 = .ok (.iconst 2, 1) := by decide +kernel
theorem dX5_isFor_49 : decode cX5_isFor 49 = .ok (.laload, 1) := by decide +kernel
theorem dX5_isFor_50 : decode cX5_isFor 50 = .ok (.lcmp, 1) := by decide +kernel
theorem dX5_isFor_51 : decode cX5_isFor 51 = .ok (.ifCond .ne 17, 3) := by decide +kernel
theorem dX5_isFor_54 : decode cX5_isFor 54 = .ok (.aload_n 2, 1) := by decide +kernel
theorem dX5_isFor_55 : decode cX5_isFor 55 = .ok (.iconst 3, 1) := by decide +kernel
theorem dX5_isFor_56 : decode cX5_isFor 56 = .ok (.laload, 1) := by decide +kernel
theorem dX5_isFor_57 : decode cX5_isFor 57 = .ok (.aload_n 3, 1) := by decide +kernel
theorem dX5_isFor_58 : decode cX5_isFor 58 = .ok (.iconst 3, 1) := by decide +kernel
theorem dX5_isFor_59 : decode cX5_isFor 59 = .ok (.laload, 1) := by decide +kernel
theorem dX5_isFor_60 : decode cX5_isFor 60 = .ok (.lcmp, 1) := by decide +kernel
theorem dX5_isFor_61 : decode cX5_isFor 61 = .ok (.ifCond .ne 7, 3) := by decide +kernel
theorem dX5_isFor_64 : decode cX5_isFor 64 = .ok (.iconst 1, 1) := by decide +kernel
theorem dX5_isFor_65 : decode cX5_isFor 65 = .ok (.goto 4, 3) := by decide +kernel
theorem dX5_isFor_68 : decode cX5_isFor 68 = .ok (.iconst 0, 1) := by decide +kernel
theorem dX5_isFor_69 : decode cX5_isFor 69 = .ok (.ireturn, 1) := by decide +kernel
theorem dX5_endsLike_0 : decode cX5_endsLike 0 = .ok (.aload_n 0, 1) := by decide +kernel
theorem dX5_endsLike_1 : decode cX5_endsLike 1 = .ok (.getfield 27, 3) := by decide +kernel
theorem dX5_endsLike_4 : decode cX5_endsLike 4 = .ok (.ifCond .eq 11, 3) := by decide +kernel
theorem dX5_endsLike_7 : decode cX5_endsLike 7 = .ok (.aload_n 0, 1) := by decide +kernel
theorem dX5_endsLike_8 : decode cX5_endsLike 8 = .ok (.aload_n 1, 1) := by decide +kernel
theorem dX5_endsLike_9 : decode cX5_endsLike 9 = .ok (.invokevirtual 35, 3) := by decide +kernel
theorem dX5_endsLike_12 : decode cX5_endsLike 12 = .ok (.goto 15, 3) := by decide +kernel
theorem dX5_endsLike_15 : decode cX5_endsLike 15 = .ok (.aload_n 1, 1) := by decide +kernel
theorem dX5_endsLike_16 : decode cX5_endsLike 16 = .ok (.getfield 27, 3) := by decide +kernel
theorem dX5_endsLike_19 : decode cX5_endsLike 19 = .ok (.ifCond .ne 7, 3) := by decide +kernel
theorem dX5_endsLike_22 : decode cX5_endsLike 22 = .ok (.iconst 1, 1) := by decide +kernel
theorem dX5_endsLike_23 : decode cX5_endsLike 23 = .ok (.goto 4, 3) := by decide +kernel
theorem dX5_endsLike_26 : decode cX5_endsLike 26 = .ok (.iconst 0, 1) := by decide +kernel
theorem dX5_endsLike_27 : decode cX5_endsLike 27 = .ok (.ireturn, 1) := by decide +kernel
theorem dX5_endsBelow_0 : decode cX5_endsBelow 0 = .ok (.iconst 0, 1) := by decide +kernel
theorem dX5_endsBelow_1 : decode cX5_endsBelow 1 = .ok (.istore_n 2, 1) := by decide +kernel
theorem dX5_endsBelow_2 : decode cX5_endsBelow 2 = .ok (.iload_n 2, 1) := by decide +kernel
theorem dX5_endsBelow_3 : decode cX5_endsBelow 3 = .ok (.iconst 4, 1) := by decide +kernel
theorem dX5_endsBelow_4 : decode cX5_endsBelow 4 = .ok (.if_icmp .ge 63, 3) := by decide +kernel
theorem dX5_endsBelow_7 : decode cX5_endsBelow 7 = .ok (.aload_n 0, 1) := by decide +kernel
theorem dX5_endsBelow_8 : decode cX5_endsBelow 8 = .ok (.getfield 27, 3) := by decide +kernel
theorem dX5_endsBelow_11 : decode cX5_endsBelow 11 = .ok (.ifCond .eq 56, 3) := by decide +kernel
theorem dX5_endsBelow_14 : decode cX5_endsBelow 14 = .ok (.aload_n 1, 1) := by decide +kernel
theorem dX5_endsBelow_15 : decode cX5_endsBelow 15 = .ok (.getfield 27, 3) := by decide +kernel
theorem dX5_endsBelow_18 : decode cX5_endsBelow 18 = .ok (.ifCond .eq 49, 3) := by decide +kernel
theorem dX5_endsBelow_21 : decode cX5_endsBelow 21 = .ok (.aload_n 0, 1) := by decide +kernel
theorem dX5_endsBelow_22 : decode cX5_endsBelow 22 = .ok (.getfield 9, 3) := by decide +kernel
theorem dX5_endsBelow_25 : decode cX5_endsBelow 25 = .ok (.iload_n 2, 1) := by decide +kernel
theorem dX5_endsBelow_26 : decode cX5_endsBelow 26 = .ok (.laload, 1) := by decide +kernel
theorem dX5_endsBelow_27 : decode cX5_endsBelow 27 = .ok (.aload_n 1, 1) := by decide +kernel
theorem dX5_endsBelow_28 : decode cX5_endsBelow 28 = .ok (.getfield 9, 3) := by decide +kernel
theorem dX5_endsBelow_31 : decode cX5_endsBelow 31 = .ok (.iload_n 2, 1) := by decide +kernel
theorem dX5_endsBelow_32 : decode cX5_endsBelow 32 = .ok (.laload, 1) := by decide +kernel
theorem dX5_endsBelow_33 : decode cX5_endsBelow 33 = .ok (.lcmp, 1) := by decide +kernel
theorem dX5_endsBelow_34 : decode cX5_endsBelow 34 = .ok (.ifCond .eq 27, 3) := by decide +kernel
theorem dX5_endsBelow_37 : decode cX5_endsBelow 37 = .ok (.aload_n 0, 1) := by decide +kernel
theorem dX5_endsBelow_38 : decode cX5_endsBelow 38 = .ok (.getfield 9, 3) := by decide +kernel
theorem dX5_endsBelow_41 : decode cX5_endsBelow 41 = .ok (.iload_n 2, 1) := by decide +kernel
theorem dX5_endsBelow_42 : decode cX5_endsBelow 42 = .ok (.laload, 1) := by decide +kernel
theorem dX5_endsBelow_43 : decode cX5_endsBelow 43 = .ok (.aload_n 1, 1) := by decide +kernel
theorem dX5_endsBelow_44 : decode cX5_endsBelow 44 = .ok (.getfield 9, 3) := by decide +kernel
theorem dX5_endsBelow_47 : decode cX5_endsBelow 47 = .ok (.iload_n 2, 1) := by decide +kernel
theorem dX5_endsBelow_48 : decode cX5_endsBelow 48 = .ok (.laload, 1) := by decide +kernel
theorem dX5_endsBelow_49 : decode cX5_endsBelow 49 = .ok (.invokestatic 39, 3) := by decide +kernel
theorem dX5_endsBelow_52 : decode cX5_endsBelow 52 = .ok (.ifCond .ge 7, 3) := by decide +kernel
theorem dX5_endsBelow_55 : decode cX5_endsBelow 55 = .ok (.iconst 1, 1) := by decide +kernel
theorem dX5_endsBelow_56 : decode cX5_endsBelow 56 = .ok (.goto 4, 3) := by decide +kernel
theorem dX5_endsBelow_59 : decode cX5_endsBelow 59 = .ok (.iconst 0, 1) := by decide +kernel
theorem dX5_endsBelow_60 : decode cX5_endsBelow 60 = .ok (.ireturn, 1) := by decide +kernel
theorem dX5_endsBelow_61 : decode cX5_endsBelow 61 = .ok (.iinc 2 1, 3) := by decide +kernel
theorem dX5_endsBelow_64 : decode cX5_endsBelow 64 = .ok (.goto (-62), 3) := by decide +kernel
theorem dX5_endsBelow_67 : decode cX5_endsBelow 67 = .ok (.aload_n 0, 1) := by decide +kernel
theorem dX5_endsBelow_68 : decode cX5_endsBelow 68 = .ok (.getfield 27, 3) := by decide +kernel
theorem dX5_endsBelow_71 : decode cX5_endsBelow 71 = .ok (.ifCond .ne 7, 3) := by decide +kernel
theorem dX5_endsBelow_74 : decode cX5_endsBelow 74 = .ok (.iconst 1, 1) := by decide +kernel
theorem dX5_endsBelow_75 : decode cX5_endsBelow 75 = .ok (.goto 4, 3) := by decide +kernel
theorem dX5_endsBelow_78 : decode cX5_endsBelow 78 = .ok (.iconst 0, 1) := by decide +kernel
theorem dX5_endsBelow_79 : decode cX5_endsBelow 79 = .ok (.ireturn, 1) := by decide +kernel
theorem dX6_init_0 : decode cX6_init 0 = .ok (.aload_n 0, 1) := by decide +kernel
theorem dX6_init_1 : decode cX6_init 1 = .ok (.invokespecial 3, 3) := by decide +kernel
theorem dX6_init_4 : decode cX6_init 4 = .ok (.aload_n 0, 1) := by decide +kernel
theorem dX6_init_5 : decode cX6_init 5 = .ok (.new 9, 3) := by decide +kernel
theorem dX6_init_8 : decode cX6_init 8 = .ok (.dup, 1) := by decide +kernel
theorem dX6_init_9 : decode cX6_init 9 = .ok (.invokespecial 11, 3) := by decide +kernel
theorem dX6_init_12 : decode cX6_init 12 = .ok (.putfield 12, 3) := by decide +kernel
theorem dX6_init_15 : decode cX6_init 15 = .ok (.aload_n 0, 1) := by decide +kernel
theorem dX6_init_16 : decode cX6_init 16 = .ok (.new 18, 3) := by decide +kernel
theorem dX6_init_19 : decode cX6_init 19 = .ok (.dup, 1) := by decide +kernel
theorem dX6_init_20 : decode cX6_init 20 = .ok (.invokespecial 20, 3) := by decide +kernel
theorem dX6_init_23 : decode cX6_init 23 = .ok (.putfield 21, 3) := by decide +kernel
theorem dX6_init_26 : decode cX6_init 26 = .ok (.aload_n 0, 1) := by decide +kernel
theorem dX6_init_27 : decode cX6_init 27 = .ok (.bipush 32, 2) := by decide +kernel
theorem dX6_init_29 : decode cX6_init 29 = .ok (.newarray .byte, 2) := by decide +kernel
theorem dX6_init_31 : decode cX6_init 31 = .ok (.putfield 25, 3) := by decide +kernel
theorem dX6_init_34 : decode cX6_init 34 = .ok (.aload_n 0, 1) := by decide +kernel
theorem dX6_init_35 : decode cX6_init 35 = .ok (.iconst 3, 1) := by decide +kernel
theorem dX6_init_36 : decode cX6_init 36 = .ok (.newarray .int, 2) := by decide +kernel
theorem dX6_init_38 : decode cX6_init 38 = .ok (.putfield 29, 3) := by decide +kernel
theorem dX6_init_41 : decode cX6_init 41 = .ok (.aload_n 0, 1) := by decide +kernel
theorem dX6_init_42 : decode cX6_init 42 = .ok (.iconst 4, 1) := by decide +kernel
theorem dX6_init_43 : decode cX6_init 43 = .ok (.anewarray 33, 3) := by decide +kernel
theorem dX6_init_46 : decode cX6_init 46 = .ok (.putfield 35, 3) := by decide +kernel
theorem dX6_init_49 : decode cX6_init 49 = .ok (.aload_n 0, 1) := by decide +kernel
theorem dX6_init_50 : decode cX6_init 50 = .ok (.iconst 1, 1) := by decide +kernel
theorem dX6_init_51 : decode cX6_init 51 = .ok (.putfield 39, 3) := by decide +kernel
theorem dX6_init_54 : decode cX6_init 54 = .ok (.aload_n 0, 1) := by decide +kernel
theorem dX6_init_55 : decode cX6_init 55 = .ok (.iconst 1, 1) := by decide +kernel
theorem dX6_init_56 : decode cX6_init 56 = .ok (.putfield 43, 3) := by decide +kernel
theorem dX6_init_59 : decode cX6_init 59 = .ok (.aload_n 0, 1) := by decide +kernel
theorem dX6_init_60 : decode cX6_init 60 = .ok (.iconst (-1), 1) := by decide +kernel
theorem dX6_init_61 : decode cX6_init 61 = .ok (.putfield 47, 3) := by decide +kernel
theorem dX6_init_64 : decode cX6_init 64 = .ok (.aload_n 0, 1) := by decide +kernel
theorem dX6_init_65 : decode cX6_init 65 = .ok (.iconst (-1), 1) := by decide +kernel
theorem dX6_init_66 : decode cX6_init 66 = .ok (.putfield 50, 3) := by decide +kernel
theorem dX6_init_69 : decode cX6_init 69 = .ok (.aload_n 0, 1) := by decide +kernel
theorem dX6_init_70 : decode cX6_init 70 = .ok (.iconst (-1), 1) := by decide +kernel
theorem dX6_init_71 : decode cX6_init 71 = .ok (.putfield 53, 3) := by decide +kernel
theorem dX6_init_74 : decode cX6_init 74 = .ok (.aload_n 0, 1) := by decide +kernel
theorem dX6_init_75 : decode cX6_init 75 = .ok (.aload_n 1, 1) := by decide +kernel
theorem dX6_init_76 : decode cX6_init 76 = .ok (.putfield 56, 3) := by decide +kernel
theorem dX6_init_79 : decode cX6_init 79 = .ok (.aload_n 0, 1) := by decide +kernel
theorem dX6_init_80 : decode cX6_init 80 = .ok (.iload_n 2, 1) := by decide +kernel
theorem dX6_init_81 : decode cX6_init 81 = .ok (.putfield 60, 3) := by decide +kernel
theorem dX6_init_84 : decode cX6_init 84 = .ok (.aload_n 0, 1) := by decide +kernel
theorem dX6_init_85 : decode cX6_init 85 = .ok (.new 63, 3) := by decide +kernel
theorem dX6_init_88 : decode cX6_init 88 = .ok (.dup, 1) := by decide +kernel
theorem dX6_init_89 : decode cX6_init 89 = .ok (.aload_n 1, 1) := by decide +kernel
theorem dX6_init_90 : decode cX6_init 90 = .ok (.getfield 65, 3) := by decide +kernel
theorem dX6_init_93 : decode cX6_init 93 = .ok (.aload_n 1, 1) := by decide +kernel
theorem dX6_init_94 : decode cX6_init 94 = .ok (.getfield 71, 3) := by decide +kernel
theorem dX6_init_97 : decode cX6_init 97 = .ok (.invokespecial 74, 3) := by decide +kernel
theorem dX6_init_100 : decode cX6_init 100 = .ok (.putfield 77, 3) := by decide +kernel
theorem dX6_init_103 : decode cX6_init 103 = .ok (.return_, 1) := by decide +kernel
theorem dX6_setTimer_0 : decode cX6_setTimer 0 = .ok (.iload_n 1, 1) := by decide +kernel
theorem dX6_setTimer_1 : decode cX6_setTimer 1 = .ok (.ifCond .lt 35, 3) := by decide +kernel
theorem dX6_setTimer_4 : decode cX6_setTimer 4 = .ok (.iload_n 1, 1) := by decide +kernel
theorem dX6_setTimer_5 : decode cX6_setTimer 5 = .ok (.aload_n 0, 1) := by decide +kernel
theorem dX6_setTimer_6 : decode cX6_setTimer 6 = .ok (.getfield 29, 3) := by decide +kernel
theorem dX6_setTimer_9 : decode cX6_setTimer 9 = .ok (.arraylength, 1) := by decide +kernel
theorem dX6_setTimer_10 : decode cX6_setTimer 10 = .ok (.if_icmp .ge 26, 3) := by decide +kernel
theorem dX6_setTimer_13 : decode cX6_setTimer 13 = .ok (.aload_n 0, 1) := by decide +kernel
theorem dX6_setTimer_14 : decode cX6_setTimer 14 = .ok (.getfield 29, 3) := by decide +kernel
theorem dX6_setTimer_17 : decode cX6_setTimer 17 = .ok (.iload_n 1, 1) := by decide +kernel
theorem dX6_setTimer_18 : decode cX6_setTimer 18 = .ok (.aload_n 0, 1) := by decide +kernel
theorem dX6_setTimer_19 : decode cX6_setTimer 19 = .ok (.getfield 56, 3) := by decide +kernel
theorem dX6_setTimer_22 : decode cX6_setTimer 22 = .ok (.getfield 65, 3) := by decide +kernel
theorem dX6_setTimer_25 : decode cX6_setTimer 25 = .ok (.getfield 81, 3) := by decide +kernel
theorem dX6_setTimer_28 : decode cX6_setTimer 28 = .ok (.iconst 4, 1) := by decide +kernel
theorem dX6_setTimer_29 : decode cX6_setTimer 29 = .ok (.iadd, 1) := by decide +kernel
theorem dX6_setTimer_30 : decode cX6_setTimer 30 = .ok (.aload_n 0, 1) := by decide +kernel
theorem dX6_setTimer_31 : decode cX6_setTimer 31 = .ok (.getfield 86, 3) := by decide +kernel
theorem dX6_setTimer_34 : decode cX6_setTimer 34 = .ok (.iadd, 1) := by decide +kernel
theorem dX6_setTimer_35 : decode cX6_setTimer 35 = .ok (.iastore, 1) := by decide +kernel
theorem dX6_setTimer_36 : decode cX6_setTimer 36 = .ok (.return_, 1) := by decide +kernel
theorem dX6_timersSet_0 : decode cX6_timersSet 0 = .ok (.aload_n 0, 1) := by decide +kernel
theorem dX6_timersSet_1 : decode cX6_timersSet 1 = .ok (.getfield 29, 3) := by decide +kernel
theorem dX6_timersSet_4 : decode cX6_timersSet 4 = .ok (.iconst 0, 1) := by decide +kernel
theorem dX6_timersSet_5 : decode cX6_timersSet 5 = .ok (.iaload, 1) := by decide +kernel
theorem dX6_timersSet_6 : decode cX6_timersSet 6 = .ok (.ifCond .le 7, 3) := by decide +kernel
theorem dX6_timersSet_9 : decode cX6_timersSet 9 = .ok (.iconst 1, 1) := by decide +kernel
theorem dX6_timersSet_10 : decode cX6_timersSet 10 = .ok (.goto 4, 3) := by decide +kernel
theorem dX6_timersSet_13 : decode cX6_timersSet 13 = .ok (.iconst 0, 1) := by decide +kernel
theorem dX6_timersSet_14 : decode cX6_timersSet 14 = .ok (.aload_n 0, 1) := by decide +kernel
theorem dX6_timersSet_15 : decode cX6_timersSet 15 = .ok (.getfield 29, 3) := by decide +kernel
theorem dX6_timersSet_18 : decode cX6_timersSet 18 = .ok (.iconst 1, 1) := by decide +kernel
theorem dX6_timersSet_19 : decode cX6_timersSet 19 = .ok (.iaload, 1) := by decide +kernel
theorem dX6_timersSet_20 : decode cX6_timersSet 20 = .ok (.ifCond .le 7, 3) := by decide +kernel
theorem dX6_timersSet_23 : decode cX6_timersSet 23 = .ok (.iconst 2, 1) := by decide +kernel
theorem dX6_timersSet_24 : decode cX6_timersSet 24 = .ok (.goto 4, 3) := by decide +kernel
theorem dX6_timersSet_27 : decode cX6_timersSet 27 = .ok (.iconst 0, 1) := by decide +kernel
theorem dX6_timersSet_28 : decode cX6_timersSet 28 = .ok (.iadd, 1) := by decide +kernel
theorem dX6_timersSet_29 : decode cX6_timersSet 29 = .ok (.aload_n 0, 1) := by decide +kernel
theorem dX6_timersSet_30 : decode cX6_timersSet 30 = .ok (.getfield 29, 3) := by decide +kernel
theorem dX6_timersSet_33 : decode cX6_timersSet 33 = .ok (.iconst 2, 1) := by decide +kernel
theorem dX6_timersSet_34 : decode cX6_timersSet 34 = .ok (.iaload, 1) := by decide +kernel
theorem dX6_timersSet_35 : decode cX6_timersSet 35 = .ok (.ifCond .le 7, 3) := by decide +kernel
theorem dX6_timersSet_38 : decode cX6_timersSet 38 = .ok (.iconst 4, 1) := by decide +kernel
theorem dX6_timersSet_39 : decode cX6_timersSet 39 = .ok (.goto 4, 3) := by decide +kernel
theorem dX6_timersSet_42 : decode cX6_timersSet 42 = .ok (.iconst 0, 1) := by decide +kernel
theorem dX6_timersSet_43 : decode cX6_timersSet 43 = .ok (.iadd, 1) := by decide +kernel
theorem dX6_timersSet_44 : decode cX6_timersSet 44 = .ok (.ireturn, 1) := by decide +kernel
theorem dX6_fall_0 : decode cX6_fall 0 = .ok (.aload_n 0, 1) := by decide +kernel
theorem dX6_fall_1 : decode cX6_fall 1 = .ok (.iconst 0, 1) := by decide +kernel
theorem dX6_fall_2 : decode cX6_fall 2 = .ok (.putfield 39, 3) := by decide +kernel
theorem dX6_fall_5 : decode cX6_fall 5 = .ok (.aload_n 0, 1) := by decide +kernel
theorem dX6_fall_6 : decode cX6_fall 6 = .ok (.iconst (-1), 1) := by decide +kernel
theorem dX6_fall_7 : decode cX6_fall 7 = .ok (.putfield 53, 3) := by decide +kernel
theorem dX6_fall_10 : decode cX6_fall 10 = .ok (.aload_n 0, 1) := by decide +kernel
theorem dX6_fall_11 : decode cX6_fall 11 = .ok (.getfield 29, 3) := by decide +kernel
theorem dX6_fall_14 : decode cX6_fall 14 = .ok (.iconst 0, 1) := by decide +kernel
theorem dX6_fall_15 : decode cX6_fall 15 = .ok (.invokestatic 89, 3) := by decide +kernel
theorem dX6_fall_18 : decode cX6_fall 18 = .ok (.aload_n 0, 1) := by decide +kernel
theorem dX6_fall_19 : decode cX6_fall 19 = .ok (.getfield 77, 3) := by decide +kernel
theorem dX6_fall_22 : decode cX6_fall 22 = .ok (.aload_n 0, 1) := by decide +kernel
theorem dX6_fall_23 : decode cX6_fall 23 = .ok (.getfield 43, 3) := by decide +kernel
theorem dX6_fall_26 : decode cX6_fall 26 = .ok (.aload_n 0, 1) := by decide +kernel
theorem dX6_fall_27 : decode cX6_fall 27 = .ok (.getfield 60, 3) := by decide +kernel
theorem dX6_fall_30 : decode cX6_fall 30 = .ok (.invokevirtual 95, 3) := by decide +kernel
theorem dX6_fall_33 : decode cX6_fall 33 = .ok (.aload_n 0, 1) := by decide +kernel
theorem dX6_fall_34 : decode cX6_fall 34 = .ok (.getfield 77, 3) := by decide +kernel
theorem dX6_fall_37 : decode cX6_fall 37 = .ok (.aload_n 0, 1) := by decide +kernel
theorem dX6_fall_38 : decode cX6_fall 38 = .ok (.getfield 43, 3) := by decide +kernel
theorem dX6_fall_41 : decode cX6_fall 41 = .ok (.iconst 1, 1) := by decide +kernel
theorem dX6_fall_42 : decode cX6_fall 42 = .ok (.iadd, 1) := by decide +kernel
theorem dX6_fall_43 : decode cX6_fall 43 = .ok (.iconst (-1), 1) := by decide +kernel
theorem dX6_fall_44 : decode cX6_fall 44 = .ok (.invokevirtual 95, 3) := by decide +kernel
theorem dX6_fall_47 : decode cX6_fall 47 = .ok (.aload_n 0, 1) := by decide +kernel
theorem dX6_fall_48 : decode cX6_fall 48 = .ok (.getfield 77, 3) := by decide +kernel
theorem dX6_fall_51 : decode cX6_fall 51 = .ok (.invokevirtual 99, 3) := by decide +kernel
theorem dX6_fall_54 : decode cX6_fall 54 = .ok (.aload_n 0, 1) := by decide +kernel
theorem dX6_fall_55 : decode cX6_fall 55 = .ok (.getfield 77, 3) := by decide +kernel
theorem dX6_fall_58 : decode cX6_fall 58 = .ok (.invokevirtual 102, 3) := by decide +kernel
theorem dX6_fall_61 : decode cX6_fall 61 = .ok (.return_, 1) := by decide +kernel
theorem dX6_wake_0 : decode cX6_wake 0 = .ok (.aload_n 0, 1) := by decide +kernel
theorem dX6_wake_1 : decode cX6_wake 1 = .ok (.iconst 1, 1) := by decide +kernel
theorem dX6_wake_2 : decode cX6_wake 2 = .ok (.putfield 39, 3) := by decide +kernel
theorem dX6_wake_5 : decode cX6_wake 5 = .ok (.aload_n 0, 1) := by decide +kernel
theorem dX6_wake_6 : decode cX6_wake 6 = .ok (.iconst 0, 1) := by decide +kernel
theorem dX6_wake_7 : decode cX6_wake 7 = .ok (.putfield 105, 3) := by decide +kernel
theorem dX6_wake_10 : decode cX6_wake 10 = .ok (.aload_n 0, 1) := by decide +kernel
theorem dX6_wake_11 : decode cX6_wake 11 = .ok (.getfield 43, 3) := by decide +kernel
theorem dX6_wake_14 : decode cX6_wake 14 = .ok (.bipush 40, 2) := by decide +kernel
theorem dX6_wake_16 : decode cX6_wake 16 = .ok (.if_icmp .gt 11, 3) := by decide +kernel
theorem dX6_wake_19 : decode cX6_wake 19 = .ok (.aload_n 0, 1) := by decide +kernel
theorem dX6_wake_20 : decode cX6_wake 20 = .ok (.aload_n 0, 1) := by decide +kernel
theorem dX6_wake_21 : decode cX6_wake 21 = .ok (.getfield 108, 3) := by decide +kernel
theorem dX6_wake_24 : decode cX6_wake 24 = .ok (.invokevirtual 111, 3) := by decide +kernel
theorem dX6_wake_27 : decode cX6_wake 27 = .ok (.aload_n 0, 1) := by decide +kernel
theorem dX6_wake_28 : decode cX6_wake 28 = .ok (.invokevirtual 115, 3) := by decide +kernel
theorem dX6_wake_31 : decode cX6_wake 31 = .ok (.astore_n 1, 1) := by decide +kernel
theorem dX6_wake_32 : decode cX6_wake 32 = .ok (.aload_n 0, 1) := by decide +kernel
theorem dX6_wake_33 : decode cX6_wake 33 = .ok (.getfield 56, 3) := by decide +kernel
theorem dX6_wake_36 : decode cX6_wake 36 = .ok (.aload_n 0, 1) := by decide +kernel
theorem dX6_wake_37 : decode cX6_wake 37 = .ok (.getfield 60, 3) := by decide +kernel
theorem dX6_wake_40 : decode cX6_wake 40 = .ok (.aload_n 1, 1) := by decide +kernel
theorem dX6_wake_41 : decode cX6_wake 41 = .ok (.aload_n 0, 1) := by decide +kernel
theorem dX6_wake_42 : decode cX6_wake 42 = .ok (.getfield 60, 3) := by decide +kernel
theorem dX6_wake_45 : decode cX6_wake 45 = .ok (.aload_n 0, 1) := by decide +kernel
theorem dX6_wake_46 : decode cX6_wake 46 = .ok (.getfield 60, 3) := by decide +kernel
theorem dX6_wake_49 : decode cX6_wake 49 = .ok (.invokevirtual 119, 3) := by decide +kernel
theorem dX6_wake_52 : decode cX6_wake 52 = .ok (.aload_n 0, 1) := by decide +kernel
theorem dX6_wake_53 : decode cX6_wake 53 = .ok (.getfield 56, 3) := by decide +kernel
theorem dX6_wake_56 : decode cX6_wake 56 = .ok (.getfield 65, 3) := by decide +kernel
theorem dX6_wake_59 : decode cX6_wake 59 = .ok (.aload_n 1, 1) := by decide +kernel
theorem dX6_wake_60 : decode cX6_wake 60 = .ok (.invokevirtual 123, 3) := by decide +kernel
theorem dX6_wake_63 : decode cX6_wake 63 = .ok (.return_, 1) := by decide +kernel
theorem dX6_ask_0 : decode cX6_ask 0 = .ok (.aload_n 0, 1) := by decide +kernel
theorem dX6_ask_1 : decode cX6_ask 1 = .ok (.getfield 56, 3) := by decide +kernel
theorem dX6_ask_4 : decode cX6_ask 4 = .ok (.getfield 65, 3) := by decide +kernel
theorem dX6_ask_7 : decode cX6_ask 7 = .ok (.iconst 3, 1) := by decide +kernel
theorem dX6_ask_8 : decode cX6_ask 8 = .ok (.invokevirtual 127, 3) := by decide +kernel
theorem dX6_ask_11 : decode cX6_ask 11 = .ok (.astore_n 1, 1) := by decide +kernel
theorem dX6_ask_12 : decode cX6_ask 12 = .ok (.aload_n 1, 1) := by decide +kernel
theorem dX6_ask_13 : decode cX6_ask 13 = .ok (.getfield 131, 3) := by decide +kernel
theorem dX6_ask_16 : decode cX6_ask 16 = .ok (.iconst 0, 1) := by decide +kernel
theorem dX6_ask_17 : decode cX6_ask 17 = .ok (.iconst 5, 1) := by decide +kernel
theorem dX6_ask_18 : decode cX6_ask 18 = .ok (.bastore, 1) := by decide +kernel
theorem dX6_ask_19 : decode cX6_ask 19 = .ok (.aload_n 1, 1) := by decide +kernel
theorem dX6_ask_20 : decode cX6_ask 20 = .ok (.getfield 131, 3) := by decide +kernel
theorem dX6_ask_23 : decode cX6_ask 23 = .ok (.iconst 1, 1) := by decide +kernel
theorem dX6_ask_24 : decode cX6_ask 24 = .ok (.aload_n 0, 1) := by decide +kernel
theorem dX6_ask_25 : decode cX6_ask 25 = .ok (.getfield 43, 3) := by decide +kernel
theorem dX6_ask_28 : decode cX6_ask 28 = .ok (.invokestatic 134, 3) := by decide +kernel
theorem dX6_ask_31 : decode cX6_ask 31 = .ok (.aload_n 1, 1) := by decide +kernel
theorem dX6_ask_32 : decode cX6_ask 32 = .ok (.areturn, 1) := by decide +kernel
theorem dX6_enter_0 : decode cX6_enter 0 = .ok (.aload_n 0, 1) := by decide +kernel
theorem dX6_enter_1 : decode cX6_enter 1 = .ok (.getfield 77, 3) := by decide +kernel
theorem dX6_enter_4 : decode cX6_enter 4 = .ok (.aload_n 0, 1) := by decide +kernel
theorem dX6_enter_5 : decode cX6_enter 5 = .ok (.getfield 43, 3) := by decide +kernel
theorem dX6_enter_8 : decode cX6_enter 8 = .ok (.iconst (-1), 1) := by decide +kernel
theorem dX6_enter_9 : decode cX6_enter 9 = .ok (.invokevirtual 95, 3) := by decide +kernel
theorem dX6_enter_12 : decode cX6_enter 12 = .ok (.iload_n 1, 1) := by decide +kernel
theorem dX6_enter_13 : decode cX6_enter 13 = .ok (.aload_n 0, 1) := by decide +kernel
theorem dX6_enter_14 : decode cX6_enter 14 = .ok (.getfield 43, 3) := by decide +kernel
theorem dX6_enter_17 : decode cX6_enter 17 = .ok (.iconst 1, 1) := by decide +kernel
theorem dX6_enter_18 : decode cX6_enter 18 = .ok (.iadd, 1) := by decide +kernel
theorem dX6_enter_19 : decode cX6_enter 19 = .ok (.if_icmp .eq 17, 3) := by decide +kernel
theorem dX6_enter_22 : decode cX6_enter 22 = .ok (.aload_n 0, 1) := by decide +kernel
theorem dX6_enter_23 : decode cX6_enter 23 = .ok (.getfield 77, 3) := by decide +kernel
theorem dX6_enter_26 : decode cX6_enter 26 = .ok (.aload_n 0, 1) := by decide +kernel
theorem dX6_enter_27 : decode cX6_enter 27 = .ok (.getfield 43, 3) := by decide +kernel
theorem dX6_enter_30 : decode cX6_enter 30 = .ok (.iconst 1, 1) := by decide +kernel
theorem dX6_enter_31 : decode cX6_enter 31 = .ok (.iadd, 1) := by decide +kernel
theorem dX6_enter_32 : decode cX6_enter 32 = .ok (.iconst (-1), 1) := by decide +kernel
theorem dX6_enter_33 : decode cX6_enter 33 = .ok (.invokevirtual 95, 3) := by decide +kernel
theorem dX6_enter_36 : decode cX6_enter 36 = .ok (.aload_n 0, 1) := by decide +kernel
theorem dX6_enter_37 : decode cX6_enter 37 = .ok (.getfield 77, 3) := by decide +kernel
theorem dX6_enter_40 : decode cX6_enter 40 = .ok (.invokevirtual 99, 3) := by decide +kernel
theorem dX6_enter_43 : decode cX6_enter 43 = .ok (.aload_n 0, 1) := by decide +kernel
theorem dX6_enter_44 : decode cX6_enter 44 = .ok (.aconst_null, 1) := by decide +kernel
theorem dX6_enter_45 : decode cX6_enter 45 = .ok (.iconst (-1), 1) := by decide +kernel
theorem dX6_enter_46 : decode cX6_enter 46 = .ok (.invokevirtual 138, 3) := by decide +kernel
theorem dX6_enter_49 : decode cX6_enter 49 = .ok (.aload_n 0, 1) := by decide +kernel
theorem dX6_enter_50 : decode cX6_enter 50 = .ok (.aconst_null, 1) := by decide +kernel
theorem dX6_enter_51 : decode cX6_enter 51 = .ok (.iconst (-1), 1) := by decide +kernel
theorem dX6_enter_52 : decode cX6_enter 52 = .ok (.invokevirtual 142, 3) := by decide +kernel
theorem dX6_enter_55 : decode cX6_enter 55 = .ok (.aload_n 0, 1) := by decide +kernel
theorem dX6_enter_56 : decode cX6_enter 56 = .ok (.getfield 29, 3) := by decide +kernel
theorem dX6_enter_59 : decode cX6_enter 59 = .ok (.iconst 0, 1) := by decide +kernel
theorem dX6_enter_60 : decode cX6_enter 60 = .ok (.invokestatic 89, 3) := by decide +kernel
theorem dX6_enter_63 : decode cX6_enter 63 = .ok (.aload_n 0, 1) := by decide +kernel
theorem dX6_enter_64 : decode cX6_enter 64 = .ok (.iload_n 1, 1) := by decide +kernel
theorem dX6_enter_65 : decode cX6_enter 65 = .ok (.putfield 43, 3) := by decide +kernel
theorem dX6_enter_68 : decode cX6_enter 68 = .ok (.aload_n 0, 1) := by decide +kernel
theorem dX6_enter_69 : decode cX6_enter 69 = .ok (.iconst 0, 1) := by decide +kernel
theorem dX6_enter_70 : decode cX6_enter 70 = .ok (.putfield 86, 3) := by decide +kernel
theorem dX6_enter_73 : decode cX6_enter 73 = .ok (.aload_n 0, 1) := by decide +kernel
theorem dX6_enter_74 : decode cX6_enter 74 = .ok (.iconst 0, 1) := by decide +kernel
theorem dX6_enter_75 : decode cX6_enter 75 = .ok (.putfield 108, 3) := by decide +kernel
theorem dX6_enter_78 : decode cX6_enter 78 = .ok (.aload_n 0, 1) := by decide +kernel
theorem dX6_enter_79 : decode cX6_enter 79 = .ok (.iconst 0, 1) := by decide +kernel
theorem dX6_enter_80 : decode cX6_enter 80 = .ok (.putfield 105, 3) := by decide +kernel
theorem dX6_enter_83 : decode cX6_enter 83 = .ok (.aload_n 0, 1) := by decide +kernel
theorem dX6_enter_84 : decode cX6_enter 84 = .ok (.iconst 0, 1) := by decide +kernel
theorem dX6_enter_85 : decode cX6_enter 85 = .ok (.putfield 145, 3) := by decide +kernel
theorem dX6_enter_88 : decode cX6_enter 88 = .ok (.aload_n 0, 1) := by decide +kernel
theorem dX6_enter_89 : decode cX6_enter 89 = .ok (.getfield 12, 3) := by decide +kernel
theorem dX6_enter_92 : decode cX6_enter 92 = .ok (.iconst 0, 1) := by decide +kernel
theorem dX6_enter_93 : decode cX6_enter 93 = .ok (.putfield 148, 3) := by decide +kernel
theorem dX6_enter_96 : decode cX6_enter 96 = .ok (.aload_n 0, 1) := by decide +kernel
theorem dX6_enter_97 : decode cX6_enter 97 = .ok (.iload_n 1, 1) := by decide +kernel
theorem dX6_enter_98 : decode cX6_enter 98 = .ok (.bipush 40, 2) := by decide +kernel
theorem dX6_enter_100 : decode cX6_enter 100 = .ok (.if_icmp .gt 7, 3) := by decide +kernel
theorem dX6_enter_103 : decode cX6_enter 103 = .ok (.iconst 0, 1) := by decide +kernel
theorem dX6_enter_104 : decode cX6_enter 104 = .ok (.goto 4, 3) := by decide +kernel
theorem dX6_enter_107 : decode cX6_enter 107 = .ok (.iconst (-1), 1) := by decide +kernel
theorem dX6_enter_108 : decode cX6_enter 108 = .ok (.putfield 53, 3) := by decide +kernel
theorem dX6_enter_111 : decode cX6_enter 111 = .ok (.return_, 1) := by decide +kernel
theorem dX6_setLocked_0 : decode cX6_setLocked 0 = .ok (.aload_n 1, 1) := by decide +kernel
theorem dX6_setLocked_1 : decode cX6_setLocked 1 = .ok (.ifnull 13, 3) := by decide +kernel
theorem dX6_setLocked_4 : decode cX6_setLocked 4 = .ok (.aload_n 1, 1) := by decide +kernel
theorem dX6_setLocked_5 : decode cX6_setLocked 5 = .ok (.dup, 1) := by decide +kernel
theorem dX6_setLocked_6 : decode cX6_setLocked 6 = .ok (.getfield 149, 3) := by decide +kernel
theorem dX6_setLocked_9 : decode cX6_setLocked 9 = .ok (.iconst 1, 1) := by decide +kernel
theorem dX6_setLocked_10 : decode cX6_setLocked 10 = .ok (.iadd, 1) := by decide +kernel
theorem dX6_setLocked_11 : decode cX6_setLocked 11 = .ok (.putfield 149, 3) := by decide +kernel
theorem dX6_setLocked_14 : decode cX6_setLocked 14 = .ok (.aload_n 0, 1) := by decide +kernel
theorem dX6_setLocked_15 : decode cX6_setLocked 15 = .ok (.getfield 56, 3) := by decide +kernel
theorem dX6_setLocked_18 : decode cX6_setLocked 18 = .ok (.getfield 65, 3) := by decide +kernel
theorem dX6_setLocked_21 : decode cX6_setLocked 21 = .ok (.aload_n 0, 1) := by decide +kernel
theorem dX6_setLocked_22 : decode cX6_setLocked 22 = .ok (.getfield 152, 3) := by decide +kernel
theorem dX6_setLocked_25 : decode cX6_setLocked 25 = .ok (.invokevirtual 123, 3) := by decide +kernel
theorem dX6_setLocked_28 : decode cX6_setLocked 28 = .ok (.aload_n 0, 1) := by decide +kernel
theorem dX6_setLocked_29 : decode cX6_setLocked 29 = .ok (.aload_n 1, 1) := by decide +kernel
theorem dX6_setLocked_30 : decode cX6_setLocked 30 = .ok (.putfield 152, 3) := by decide +kernel
theorem dX6_setLocked_33 : decode cX6_setLocked 33 = .ok (.aload_n 0, 1) := by decide +kernel
theorem dX6_setLocked_34 : decode cX6_setLocked 34 = .ok (.iload_n 2, 1) := by decide +kernel
theorem dX6_setLocked_35 : decode cX6_setLocked 35 = .ok (.putfield 47, 3) := by decide +kernel
theorem dX6_setLocked_38 : decode cX6_setLocked 38 = .ok (.return_, 1) := by decide +kernel
theorem dX6_setValid_0 : decode cX6_setValid 0 = .ok (.aload_n 1, 1) := by decide +kernel
theorem dX6_setValid_1 : decode cX6_setValid 1 = .ok (.ifnull 13, 3) := by decide +kernel
theorem dX6_setValid_4 : decode cX6_setValid 4 = .ok (.aload_n 1, 1) := by decide +kernel
theorem dX6_setValid_5 : decode cX6_setValid 5 = .ok (.dup, 1) := by decide +kernel
theorem dX6_setValid_6 : decode cX6_setValid 6 = .ok (.getfield 149, 3) := by decide +kernel
theorem dX6_setValid_9 : decode cX6_setValid 9 = .ok (.iconst 1, 1) := by decide +kernel
theorem dX6_setValid_10 : decode cX6_setValid 10 = .ok (.iadd, 1) := by decide +kernel
theorem dX6_setValid_11 : decode cX6_setValid 11 = .ok (.putfield 149, 3) := by decide +kernel
theorem dX6_setValid_14 : decode cX6_setValid 14 = .ok (.aload_n 0, 1) := by decide +kernel
theorem dX6_setValid_15 : decode cX6_setValid 15 = .ok (.getfield 56, 3) := by decide +kernel
theorem dX6_setValid_18 : decode cX6_setValid 18 = .ok (.getfield 65, 3) := by decide +kernel
theorem dX6_setValid_21 : decode cX6_setValid 21 = .ok (.aload_n 0, 1) := by decide +kernel
theorem dX6_setValid_22 : decode cX6_setValid 22 = .ok (.getfield 156, 3) := by decide +kernel
theorem dX6_setValid_25 : decode cX6_setValid 25 = .ok (.invokevirtual 123, 3) := by decide +kernel
theorem dX6_setValid_28 : decode cX6_setValid 28 = .ok (.aload_n 0, 1) := by decide +kernel
theorem dX6_setValid_29 : decode cX6_setValid 29 = .ok (.aload_n 1, 1) := by decide +kernel
theorem dX6_setValid_30 : decode cX6_setValid 30 = .ok (.putfield 156, 3) := by decide +kernel
theorem dX6_setValid_33 : decode cX6_setValid 33 = .ok (.aload_n 0, 1) := by decide +kernel
theorem dX6_setValid_34 : decode cX6_setValid 34 = .ok (.iload_n 2, 1) := by decide +kernel
theorem dX6_setValid_35 : decode cX6_setValid 35 = .ok (.putfield 50, 3) := by decide +kernel
theorem dX6_setValid_38 : decode cX6_setValid 38 = .ok (.return_, 1) := by decide +kernel
theorem dX6_vote_0 : decode cX6_vote 0 = .ok (.aload_n 0, 1) := by decide +kernel
theorem dX6_vote_1 : decode cX6_vote 1 = .ok (.getfield 56, 3) := by decide +kernel
theorem dX6_vote_4 : decode cX6_vote 4 = .ok (.getfield 65, 3) := by decide +kernel
theorem dX6_vote_7 : decode cX6_vote 7 = .ok (.aload_n 2, 1) := by decide +kernel
theorem dX6_vote_8 : decode cX6_vote 8 = .ok (.ifnonnull 8, 3) := by decide +kernel
theorem dX6_vote_11 : decode cX6_vote 11 = .ok (.bipush 6, 2) := by decide +kernel
theorem dX6_vote_13 : decode cX6_vote 13 = .ok (.goto 5, 3) := by decide +kernel
theorem dX6_vote_16 : decode cX6_vote 16 = .ok (.bipush 38, 2) := by decide +kernel
theorem dX6_vote_18 : decode cX6_vote 18 = .ok (.invokevirtual 127, 3) := by decide +kernel
theorem dX6_vote_21 : decode cX6_vote 21 = .ok (.astore_n 3, 1) := by decide +kernel
theorem dX6_vote_22 : decode cX6_vote 22 = .ok (.aload_n 3, 1) := by decide +kernel
theorem dX6_vote_23 : decode cX6_vote 23 = .ok (.getfield 131, 3) := by decide +kernel
theorem dX6_vote_26 : decode cX6_vote 26 = .ok (.iconst 0, 1) := by decide +kernel
theorem dX6_vote_27 : decode cX6_vote 27 = .ok (.iload_n 1, 1) := by decide +kernel
theorem dX6_vote_28 : decode cX6_vote 28 = .ok (.i2b, 1) := by decide +kernel
theorem dX6_vote_29 : decode cX6_vote 29 = .ok (.bastore, 1) := by decide +kernel
theorem dX6_vote_30 : decode cX6_vote 30 = .ok (.aload_n 3, 1) := by decide +kernel
theorem dX6_vote_31 : decode cX6_vote 31 = .ok (.getfield 131, 3) := by decide +kernel
theorem dX6_vote_34 : decode cX6_vote 34 = .ok (.iconst 1, 1) := by decide +kernel
theorem dX6_vote_35 : decode cX6_vote 35 = .ok (.aload_n 0, 1) := by decide +kernel
theorem dX6_vote_36 : decode cX6_vote 36 = .ok (.getfield 60, 3) := by decide +kernel
theorem dX6_vote_39 : decode cX6_vote 39 = .ok (.i2b, 1) := by decide +kernel
theorem dX6_vote_40 : decode cX6_vote 40 = .ok (.bastore, 1) := by decide +kernel
theorem dX6_vote_41 : decode cX6_vote 41 = .ok (.aload_n 3, 1) := by decide +kernel
theorem dX6_vote_42 : decode cX6_vote 42 = .ok (.getfield 131, 3) := by decide +kernel
theorem dX6_vote_45 : decode cX6_vote 45 = .ok (.iconst 2, 1) := by decide +kernel
theorem dX6_vote_46 : decode cX6_vote 46 = .ok (.aload_n 0, 1) := by decide +kernel
theorem dX6_vote_47 : decode cX6_vote 47 = .ok (.getfield 43, 3) := by decide +kernel
theorem dX6_vote_50 : decode cX6_vote 50 = .ok (.invokestatic 134, 3) := by decide +kernel
theorem dX6_vote_53 : decode cX6_vote 53 = .ok (.aload_n 3, 1) := by decide +kernel
theorem dX6_vote_54 : decode cX6_vote 54 = .ok (.getfield 131, 3) := by decide +kernel
theorem dX6_vote_57 : decode cX6_vote 57 = .ok (.iconst 4, 1) := by decide +kernel
theorem dX6_vote_58 : decode cX6_vote 58 = .ok (.aload_n 0, 1) := by decide +kernel
theorem dX6_vote_59 : decode cX6_vote 59 = .ok (.getfield 86, 3) := by decide +kernel
theorem dX6_vote_62 : decode cX6_vote 62 = .ok (.i2b, 1) := by decide +kernel
theorem dX6_vote_63 : decode cX6_vote 63 = .ok (.bastore, 1) := by decide +kernel
theorem dX6_vote_64 : decode cX6_vote 64 = .ok (.aload_n 3, 1) := by decide +kernel
theorem dX6_vote_65 : decode cX6_vote 65 = .ok (.getfield 131, 3) := by decide +kernel
theorem dX6_vote_68 : decode cX6_vote 68 = .ok (.iconst 5, 1) := by decide +kernel
theorem dX6_vote_69 : decode cX6_vote 69 = .ok (.aload_n 2, 1) := by decide +kernel
theorem dX6_vote_70 : decode cX6_vote 70 = .ok (.ifnonnull 7, 3) := by decide +kernel
theorem dX6_vote_73 : decode cX6_vote 73 = .ok (.iconst 0, 1) := by decide +kernel
theorem dX6_vote_74 : decode cX6_vote 74 = .ok (.goto 4, 3) := by decide +kernel
theorem dX6_vote_77 : decode cX6_vote 77 = .ok (.iconst 1, 1) := by decide +kernel
theorem dX6_vote_78 : decode cX6_vote 78 = .ok (.i2b, 1) := by decide +kernel
theorem dX6_vote_79 : decode cX6_vote 79 = .ok (.bastore, 1) := by decide +kernel
theorem dX6_vote_80 : decode cX6_vote 80 = .ok (.aload_n 3, 1) := by decide +kernel
theorem dX6_vote_81 : decode cX6_vote 81 = .ok (.iconst 1, 1) := by decide +kernel
theorem dX6_vote_82 : decode cX6_vote 82 = .ok (.putfield 159, 3) := by decide +kernel
theorem dX6_vote_85 : decode cX6_vote 85 = .ok (.aload_n 2, 1) := by decide +kernel
theorem dX6_vote_86 : decode cX6_vote 86 = .ok (.ifnull 32, 3) := by decide +kernel
theorem dX6_vote_89 : decode cX6_vote 89 = .ok (.aload_n 2, 1) := by decide +kernel
theorem dX6_vote_90 : decode cX6_vote 90 = .ok (.getfield 162, 3) := by decide +kernel
theorem dX6_vote_93 : decode cX6_vote 93 = .ok (.iconst 0, 1) := by decide +kernel
theorem dX6_vote_94 : decode cX6_vote 94 = .ok (.aload_n 3, 1) := by decide +kernel
theorem dX6_vote_95 : decode cX6_vote 95 = .ok (.getfield 162, 3) := by decide +kernel
theorem dX6_vote_98 : decode cX6_vote 98 = .ok (.iconst 0, 1) := by decide +kernel
theorem dX6_vote_99 : decode cX6_vote 99 = .ok (.iconst 4, 1) := by decide +kernel
theorem dX6_vote_100 : decode cX6_vote 100 = .ok (.invokestatic 166, 3) := by decide +kernel
theorem dX6_vote_103 : decode cX6_vote 103 = .ok (.aload_n 3, 1) := by decide +kernel
theorem dX6_vote_104 : decode cX6_vote 104 = .ok (.iconst 1, 1) := by decide +kernel
theorem dX6_vote_105 : decode cX6_vote 105 = .ok (.putfield 172, 3) := by decide +kernel
theorem dX6_vote_108 : decode cX6_vote 108 = .ok (.aload_n 3, 1) := by decide +kernel
theorem dX6_vote_109 : decode cX6_vote 109 = .ok (.aload_n 3, 1) := by decide +kernel
theorem dX6_vote_110 : decode cX6_vote 110 = .ok (.getfield 131, 3) := by decide +kernel
theorem dX6_vote_113 : decode cX6_vote 113 = .ok (.bipush 6, 2) := by decide +kernel
theorem dX6_vote_115 : decode cX6_vote 115 = .ok (.invokevirtual 175, 3) := by decide +kernel
theorem dX6_vote_118 : decode cX6_vote 118 = .ok (.aload_n 3, 1) := by decide +kernel
theorem dX6_vote_119 : decode cX6_vote 119 = .ok (.areturn, 1) := by decide +kernel
theorem dX6_decided_0 : decode cX6_decided 0 = .ok (.iload_n 1, 1) := by decide +kernel
theorem dX6_decided_1 : decode cX6_decided 1 = .ok (.aload_n 0, 1) := by decide +kernel
theorem dX6_decided_2 : decode cX6_decided 2 = .ok (.getfield 43, 3) := by decide +kernel
theorem dX6_decided_5 : decode cX6_decided 5 = .ok (.iconst 4, 1) := by decide +kernel
theorem dX6_decided_6 : decode cX6_decided 6 = .ok (.isub, 1) := by decide +kernel
theorem dX6_decided_7 : decode cX6_decided 7 = .ok (.if_icmp .lt 11, 3) := by decide +kernel
theorem dX6_decided_10 : decode cX6_decided 10 = .ok (.iload_n 1, 1) := by decide +kernel
theorem dX6_decided_11 : decode cX6_decided 11 = .ok (.aload_n 0, 1) := by decide +kernel
theorem dX6_decided_12 : decode cX6_decided 12 = .ok (.getfield 43, 3) := by decide +kernel
theorem dX6_decided_15 : decode cX6_decided 15 = .ok (.if_icmp .lt 5, 3) := by decide +kernel
theorem dX6_decided_18 : decode cX6_decided 18 = .ok (.aconst_null, 1) := by decide +kernel
theorem dX6_decided_19 : decode cX6_decided 19 = .ok (.areturn, 1) := by decide +kernel
theorem dX6_decided_20 : decode cX6_decided 20 = .ok (.aload_n 0, 1) := by decide +kernel
theorem dX6_decided_21 : decode cX6_decided 21 = .ok (.getfield 35, 3) := by decide +kernel
theorem dX6_decided_24 : decode cX6_decided 24 = .ok (.iload_n 1, 1) := by decide +kernel
theorem dX6_decided_25 : decode cX6_decided 25 = .ok (.iconst 3, 1) := by decide +kernel
theorem dX6_decided_26 : decode cX6_decided 26 = .ok (.iand, 1) := by decide +kernel
theorem dX6_decided_27 : decode cX6_decided 27 = .ok (.aaload, 1) := by decide +kernel
theorem dX6_decided_28 : decode cX6_decided 28 = .ok (.ifnonnull 73, 3) := by decide +kernel
theorem dX6_decided_31 : decode cX6_decided 31 = .ok (.aload_n 0, 1) := by decide +kernel
theorem dX6_decided_32 : decode cX6_decided 32 = .ok (.getfield 12, 3) := by decide +kernel
theorem dX6_decided_35 : decode cX6_decided 35 = .ok (.iload_n 1, 1) := by decide +kernel
theorem dX6_decided_36 : decode cX6_decided 36 = .ok (.aload_n 0, 1) := by decide +kernel
theorem dX6_decided_37 : decode cX6_decided 37 = .ok (.getfield 56, 3) := by decide +kernel
theorem dX6_decided_40 : decode cX6_decided 40 = .ok (.getfield 179, 3) := by decide +kernel
theorem dX6_decided_43 : decode cX6_decided 43 = .ok (.iconst 0, 1) := by decide +kernel
theorem dX6_decided_44 : decode cX6_decided 44 = .ok (.invokevirtual 182, 3) := by decide +kernel
theorem dX6_decided_47 : decode cX6_decided 47 = .ok (.istore_n 2, 1) := by decide +kernel
theorem dX6_decided_48 : decode cX6_decided 48 = .ok (.iload_n 2, 1) := by decide +kernel
theorem dX6_decided_49 : decode cX6_decided 49 = .ok (.ifCond .ge 5, 3) := by decide +kernel
theorem dX6_decided_52 : decode cX6_decided 52 = .ok (.aconst_null, 1) := by decide +kernel
theorem dX6_decided_53 : decode cX6_decided 53 = .ok (.areturn, 1) := by decide +kernel
theorem dX6_decided_54 : decode cX6_decided 54 = .ok (.aload_n 0, 1) := by decide +kernel
theorem dX6_decided_55 : decode cX6_decided 55 = .ok (.getfield 56, 3) := by decide +kernel
theorem dX6_decided_58 : decode cX6_decided 58 = .ok (.getfield 65, 3) := by decide +kernel
theorem dX6_decided_61 : decode cX6_decided 61 = .ok (.iconst 1, 1) := by decide +kernel
theorem dX6_decided_62 : decode cX6_decided 62 = .ok (.iload_n 2, 1) := by decide +kernel
theorem dX6_decided_63 : decode cX6_decided 63 = .ok (.iadd, 1) := by decide +kernel
theorem dX6_decided_64 : decode cX6_decided 64 = .ok (.invokevirtual 127, 3) := by decide +kernel
theorem dX6_decided_67 : decode cX6_decided 67 = .ok (.astore_n 3, 1) := by decide +kernel
theorem dX6_decided_68 : decode cX6_decided 68 = .ok (.aload_n 3, 1) := by decide +kernel
theorem dX6_decided_69 : decode cX6_decided 69 = .ok (.getfield 131, 3) := by decide +kernel
theorem dX6_decided_72 : decode cX6_decided 72 = .ok (.iconst 0, 1) := by decide +kernel
theorem dX6_decided_73 : decode cX6_decided 73 = .ok (.iconst 4, 1) := by decide +kernel
theorem dX6_decided_74 : decode cX6_decided 74 = .ok (.bastore, 1) := by decide +kernel
theorem dX6_decided_75 : decode cX6_decided 75 = .ok (.aload_n 0, 1) := by decide +kernel
theorem dX6_decided_76 : decode cX6_decided 76 = .ok (.getfield 56, 3) := by decide +kernel
theorem dX6_decided_79 : decode cX6_decided 79 = .ok (.getfield 179, 3) := by decide +kernel
theorem dX6_decided_82 : decode cX6_decided 82 = .ok (.iconst 0, 1) := by decide +kernel
theorem dX6_decided_83 : decode cX6_decided 83 = .ok (.aload_n 3, 1) := by decide +kernel
theorem dX6_decided_84 : decode cX6_decided 84 = .ok (.getfield 131, 3) := by decide +kernel
theorem dX6_decided_87 : decode cX6_decided 87 = .ok (.iconst 1, 1) := by decide +kernel
theorem dX6_decided_88 : decode cX6_decided 88 = .ok (.iload_n 2, 1) := by decide +kernel
theorem dX6_decided_89 : decode cX6_decided 89 = .ok (.invokestatic 166, 3) := by decide +kernel
theorem dX6_decided_92 : decode cX6_decided 92 = .ok (.aload_n 0, 1) := by decide +kernel
theorem dX6_decided_93 : decode cX6_decided 93 = .ok (.getfield 35, 3) := by decide +kernel
theorem dX6_decided_96 : decode cX6_decided 96 = .ok (.iload_n 1, 1) := by decide +kernel
theorem dX6_decided_97 : decode cX6_decided 97 = .ok (.iconst 3, 1) := by decide +kernel
theorem dX6_decided_98 : decode cX6_decided 98 = .ok (.iand, 1) := by decide +kernel
theorem dX6_decided_99 : decode cX6_decided 99 = .ok (.aload_n 3, 1) := by decide +kernel
theorem dX6_decided_100 : decode cX6_decided 100 = .ok (.aastore, 1) := by decide +kernel
theorem dX6_decided_101 : decode cX6_decided 101 = .ok (.aload_n 0, 1) := by decide +kernel
theorem dX6_decided_102 : decode cX6_decided 102 = .ok (.getfield 35, 3) := by decide +kernel
theorem dX6_decided_105 : decode cX6_decided 105 = .ok (.iload_n 1, 1) := by decide +kernel
theorem dX6_decided_106 : decode cX6_decided 106 = .ok (.iconst 3, 1) := by decide +kernel
theorem dX6_decided_107 : decode cX6_decided 107 = .ok (.iand, 1) := by decide +kernel
theorem dX6_decided_108 : decode cX6_decided 108 = .ok (.aaload, 1) := by decide +kernel
theorem dX6_decided_109 : decode cX6_decided 109 = .ok (.areturn, 1) := by decide +kernel
theorem dX6_forgetAnswers_0 : decode cX6_forgetAnswers 0 = .ok (.iload_n 1, 1) := by decide +kernel
theorem dX6_forgetAnswers_1 : decode cX6_forgetAnswers 1 = .ok (.istore_n 3, 1) := by decide +kernel
theorem dX6_forgetAnswers_2 : decode cX6_forgetAnswers 2 = .ok (.iload_n 3, 1) := by decide +kernel
theorem dX6_forgetAnswers_3 : decode cX6_forgetAnswers 3 = .ok (.iload_n 2, 1) := by decide +kernel
theorem dX6_forgetAnswers_4 : decode cX6_forgetAnswers 4 = .ok (.if_icmp .ge 43, 3) := by decide +kernel
theorem dX6_forgetAnswers_7 : decode cX6_forgetAnswers 7 = .ok (.iload_n 3, 1) := by decide +kernel
theorem dX6_forgetAnswers_8 : decode cX6_forgetAnswers 8 = .ok (.iload_n 1, 1) := by decide +kernel
theorem dX6_forgetAnswers_9 : decode cX6_forgetAnswers 9 = .ok (.iconst 4, 1) := by decide +kernel
theorem dX6_forgetAnswers_10 : decode cX6_forgetAnswers 10 = .ok (.iadd, 1) := by decide +kernel
theorem dX6_forgetAnswers_11 : decode cX6_forgetAnswers 11 = .ok (.if_icmp .ge 36, 3) := by decide +kernel
theorem dX6_forgetAnswers_14 : decode cX6_forgetAnswers 14 = .ok (.aload_n 0, 1) := by decide +kernel
theorem dX6_forgetAnswers_15 : decode cX6_forgetAnswers 15 = .ok (.getfield 56, 3) := by decide +kernel
theorem dX6_forgetAnswers_18 : decode cX6_forgetAnswers 18 = .ok (.getfield 65, 3) := by decide +kernel
theorem dX6_forgetAnswers_21 : decode cX6_forgetAnswers 21 = .ok (.aload_n 0, 1) := by decide +kernel
theorem dX6_forgetAnswers_22 : decode cX6_forgetAnswers 22 = .ok (.getfield 35, 3) := by decide +kernel
theorem dX6_forgetAnswers_25 : decode cX6_forgetAnswers 25 = .ok (.iload_n 3, 1) := by decide +kernel
theorem dX6_forgetAnswers_26 : decode cX6_forgetAnswers 26 = .ok (.iconst 3, 1) := by decide +kernel
theorem dX6_forgetAnswers_27 : decode cX6_forgetAnswers 27 = .ok (.iand, 1) := by decide +kernel
theorem dX6_forgetAnswers_28 : decode cX6_forgetAnswers 28 = .ok (.aaload, 1) := by decide +kernel
theorem dX6_forgetAnswers_29 : decode cX6_forgetAnswers 29 = .ok (.invokevirtual 123, 3) := by decide +kernel
theorem dX6_forgetAnswers_32 : decode cX6_forgetAnswers 32 = .ok (.aload_n 0, 1) := by decide +kernel
theorem dX6_forgetAnswers_33 : decode cX6_forgetAnswers 33 = .ok (.getfield 35, 3) := by decide +kernel
theorem dX6_forgetAnswers_36 : decode cX6_forgetAnswers 36 = .ok (.iload_n 3, 1) := by decide +kernel
theorem dX6_forgetAnswers_37 : decode cX6_forgetAnswers 37 = .ok (.iconst 3, 1) := by decide +kernel
theorem dX6_forgetAnswers_38 : decode cX6_forgetAnswers 38 = .ok (.iand, 1) := by decide +kernel
theorem dX6_forgetAnswers_39 : decode cX6_forgetAnswers 39 = .ok (.aconst_null, 1) := by decide +kernel
theorem dX6_forgetAnswers_40 : decode cX6_forgetAnswers 40 = .ok (.aastore, 1) := by decide +kernel
theorem dX6_forgetAnswers_41 : decode cX6_forgetAnswers 41 = .ok (.iinc 3 1, 3) := by decide +kernel
theorem dX6_forgetAnswers_44 : decode cX6_forgetAnswers 44 = .ok (.goto (-42), 3) := by decide +kernel
theorem dX6_forgetAnswers_47 : decode cX6_forgetAnswers 47 = .ok (.return_, 1) := by decide +kernel
theorem dX6_snapshot_0 : decode cX6_snapshot 0 = .ok (.aload_n 0, 1) := by decide +kernel
theorem dX6_snapshot_1 : decode cX6_snapshot 1 = .ok (.getfield 56, 3) := by decide +kernel
theorem dX6_snapshot_4 : decode cX6_snapshot 4 = .ok (.getfield 65, 3) := by decide +kernel
theorem dX6_snapshot_7 : decode cX6_snapshot 7 = .ok (.bipush 115, 2) := by decide +kernel
theorem dX6_snapshot_9 : decode cX6_snapshot 9 = .ok (.invokevirtual 127, 3) := by decide +kernel
theorem dX6_snapshot_12 : decode cX6_snapshot 12 = .ok (.astore_n 1, 1) := by decide +kernel
theorem dX6_snapshot_13 : decode cX6_snapshot 13 = .ok (.aload_n 1, 1) := by decide +kernel
theorem dX6_snapshot_14 : decode cX6_snapshot 14 = .ok (.getfield 131, 3) := by decide +kernel
theorem dX6_snapshot_17 : decode cX6_snapshot 17 = .ok (.iconst 0, 1) := by decide +kernel
theorem dX6_snapshot_18 : decode cX6_snapshot 18 = .ok (.bipush 7, 2) := by decide +kernel
theorem dX6_snapshot_20 : decode cX6_snapshot 20 = .ok (.bastore, 1) := by decide +kernel
theorem dX6_snapshot_21 : decode cX6_snapshot 21 = .ok (.aload_n 1, 1) := by decide +kernel
theorem dX6_snapshot_22 : decode cX6_snapshot 22 = .ok (.getfield 131, 3) := by decide +kernel
theorem dX6_snapshot_25 : decode cX6_snapshot 25 = .ok (.iconst 1, 1) := by decide +kernel
theorem dX6_snapshot_26 : decode cX6_snapshot 26 = .ok (.aload_n 0, 1) := by decide +kernel
theorem dX6_snapshot_27 : decode cX6_snapshot 27 = .ok (.getfield 43, 3) := by decide +kernel
theorem dX6_snapshot_30 : decode cX6_snapshot 30 = .ok (.invokestatic 134, 3) := by decide +kernel
theorem dX6_snapshot_33 : decode cX6_snapshot 33 = .ok (.aload_n 0, 1) := by decide +kernel
theorem dX6_snapshot_34 : decode cX6_snapshot 34 = .ok (.getfield 25, 3) := by decide +kernel
theorem dX6_snapshot_37 : decode cX6_snapshot 37 = .ok (.iconst 0, 1) := by decide +kernel
theorem dX6_snapshot_38 : decode cX6_snapshot 38 = .ok (.aload_n 1, 1) := by decide +kernel
theorem dX6_snapshot_39 : decode cX6_snapshot 39 = .ok (.getfield 131, 3) := by decide +kernel
theorem dX6_snapshot_42 : decode cX6_snapshot 42 = .ok (.iconst 3, 1) := by decide +kernel
theorem dX6_snapshot_43 : decode cX6_snapshot 43 = .ok (.bipush 32, 2) := by decide +kernel
theorem dX6_snapshot_45 : decode cX6_snapshot 45 = .ok (.invokestatic 166, 3) := by decide +kernel
theorem dX6_snapshot_48 : decode cX6_snapshot 48 = .ok (.iconst 0, 1) := by decide +kernel
theorem dX6_snapshot_49 : decode cX6_snapshot 49 = .ok (.istore_n 2, 1) := by decide +kernel
theorem dX6_snapshot_50 : decode cX6_snapshot 50 = .ok (.bipush 35, 2) := by decide +kernel
theorem dX6_snapshot_52 : decode cX6_snapshot 52 = .ok (.istore_n 3, 1) := by decide +kernel
theorem dX6_snapshot_53 : decode cX6_snapshot 53 = .ok (.iload_n 2, 1) := by decide +kernel
theorem dX6_snapshot_54 : decode cX6_snapshot 54 = .ok (.bipush 16, 2) := by decide +kernel
theorem dX6_snapshot_56 : decode cX6_snapshot 56 = .ok (.if_icmp .ge 45, 3) := by decide +kernel
theorem dX6_snapshot_59 : decode cX6_snapshot 59 = .ok (.aload_n 0, 1) := by decide +kernel
theorem dX6_snapshot_60 : decode cX6_snapshot 60 = .ok (.getfield 21, 3) := by decide +kernel
theorem dX6_snapshot_63 : decode cX6_snapshot 63 = .ok (.iload_n 2, 1) := by decide +kernel
theorem dX6_snapshot_64 : decode cX6_snapshot 64 = .ok (.aload_n 0, 1) := by decide +kernel
theorem dX6_snapshot_65 : decode cX6_snapshot 65 = .ok (.getfield 56, 3) := by decide +kernel
theorem dX6_snapshot_68 : decode cX6_snapshot 68 = .ok (.getfield 186, 3) := by decide +kernel
theorem dX6_snapshot_71 : decode cX6_snapshot 71 = .ok (.iconst 0, 1) := by decide +kernel
theorem dX6_snapshot_72 : decode cX6_snapshot 72 = .ok (.invokevirtual 189, 3) := by decide +kernel
theorem dX6_snapshot_75 : decode cX6_snapshot 75 = .ok (.aload_n 0, 1) := by decide +kernel
theorem dX6_snapshot_76 : decode cX6_snapshot 76 = .ok (.getfield 56, 3) := by decide +kernel
theorem dX6_snapshot_79 : decode cX6_snapshot 79 = .ok (.getfield 186, 3) := by decide +kernel
theorem dX6_snapshot_82 : decode cX6_snapshot 82 = .ok (.iconst 1, 1) := by decide +kernel
theorem dX6_snapshot_83 : decode cX6_snapshot 83 = .ok (.aload_n 1, 1) := by decide +kernel
theorem dX6_snapshot_84 : decode cX6_snapshot 84 = .ok (.getfield 131, 3) := by decide +kernel
theorem dX6_snapshot_87 : decode cX6_snapshot 87 = .ok (.iload_n 3, 1) := by decide +kernel
theorem dX6_snapshot_88 : decode cX6_snapshot 88 = .ok (.iconst 5, 1) := by decide +kernel
theorem dX6_snapshot_89 : decode cX6_snapshot 89 = .ok (.invokestatic 166, 3) := by decide +kernel
theorem dX6_snapshot_92 : decode cX6_snapshot 92 = .ok (.iinc 2 1, 3) := by decide +kernel
theorem dX6_snapshot_95 : decode cX6_snapshot 95 = .ok (.iinc 3 5, 3) := by decide +kernel
theorem dX6_snapshot_98 : decode cX6_snapshot 98 = .ok (.goto (-45), 3) := by decide +kernel
theorem dX6_snapshot_101 : decode cX6_snapshot 101 = .ok (.aload_n 1, 1) := by decide +kernel
theorem dX6_snapshot_102 : decode cX6_snapshot 102 = .ok (.areturn, 1) := by decide +kernel
theorem dX7_settle_0 : decode cX7_settle 0 = .ok (.iconst 0, 1) := by decide +kernel
theorem dX7_settle_1 : decode cX7_settle 1 = .ok (.istore_n 1, 1) := by decide +kernel
theorem dX7_settle_2 : decode cX7_settle 2 = .ok (.iload_n 1, 1) := by decide +kernel
theorem dX7_settle_3 : decode cX7_settle 3 = .ok (.ldc 11, 2) := by decide +kernel
theorem dX7_settle_5 : decode cX7_settle 5 = .ok (.if_icmp .ge 134, 3) := by decide +kernel
theorem dX7_settle_8 : decode cX7_settle 8 = .ok (.aload_n 0, 1) := by decide +kernel
theorem dX7_settle_9 : decode cX7_settle 9 = .ok (.getfield 12, 3) := by decide +kernel
theorem dX7_settle_12 : decode cX7_settle 12 = .ok (.ifCond .eq 127, 3) := by decide +kernel
theorem dX7_settle_15 : decode cX7_settle 15 = .ok (.aload_n 0, 1) := by decide +kernel
theorem dX7_settle_16 : decode cX7_settle 16 = .ok (.getfield 18, 3) := by decide +kernel
theorem dX7_settle_19 : decode cX7_settle 19 = .ok (.bipush 40, 2) := by decide +kernel
theorem dX7_settle_21 : decode cX7_settle 21 = .ok (.if_icmp .gt 118, 3) := by decide +kernel
theorem dX7_settle_24 : decode cX7_settle 24 = .ok (.aload_n 0, 1) := by decide +kernel
theorem dX7_settle_25 : decode cX7_settle 25 = .ok (.getfield 22, 3) := by decide +kernel
theorem dX7_settle_28 : decode cX7_settle 28 = .ok (.aload_n 0, 1) := by decide +kernel
theorem dX7_settle_29 : decode cX7_settle 29 = .ok (.getfield 26, 3) := by decide +kernel
theorem dX7_settle_32 : decode cX7_settle 32 = .ok (.getfield 30, 3) := by decide +kernel
theorem dX7_settle_35 : decode cX7_settle 35 = .ok (.aload_n 0, 1) := by decide +kernel
theorem dX7_settle_36 : decode cX7_settle 36 = .ok (.getfield 26, 3) := by decide +kernel
theorem dX7_settle_39 : decode cX7_settle 39 = .ok (.getfield 36, 3) := by decide +kernel
theorem dX7_settle_42 : decode cX7_settle 42 = .ok (.invokevirtual 39, 3) := by decide +kernel
theorem dX7_settle_45 : decode cX7_settle 45 = .ok (.aload_n 0, 1) := by decide +kernel
theorem dX7_settle_46 : decode cX7_settle 46 = .ok (.getfield 45, 3) := by decide +kernel
theorem dX7_settle_49 : decode cX7_settle 49 = .ok (.ifCond .lt 10, 3) := by decide +kernel
theorem dX7_settle_52 : decode cX7_settle 52 = .ok (.aload_n 0, 1) := by decide +kernel
theorem dX7_settle_53 : decode cX7_settle 53 = .ok (.invokestatic 48, 3) := by decide +kernel
theorem dX7_settle_56 : decode cX7_settle 56 = .ok (.goto 77, 3) := by decide +kernel
theorem dX7_settle_59 : decode cX7_settle 59 = .ok (.aload_n 0, 1) := by decide +kernel
theorem dX7_settle_60 : decode cX7_settle 60 = .ok (.invokestatic 52, 3) := by decide +kernel
theorem dX7_settle_63 : decode cX7_settle 63 = .ok (.ifCond .ne 59, 3) := by decide +kernel
theorem dX7_settle_66 : decode cX7_settle 66 = .ok (.aload_n 0, 1) := by decide +kernel
theorem dX7_settle_67 : decode cX7_settle 67 = .ok (.invokestatic 56, 3) := by decide +kernel
theorem dX7_settle_70 : decode cX7_settle 70 = .ok (.ifCond .ne 52, 3) := by decide +kernel
theorem dX7_settle_73 : decode cX7_settle 73 = .ok (.aload_n 0, 1) := by decide +kernel
theorem dX7_settle_74 : decode cX7_settle 74 = .ok (.invokestatic 59, 3) := by decide +kernel
theorem dX7_settle_77 : decode cX7_settle 77 = .ok (.ifCond .ne 45, 3) := by decide +kernel
theorem dX7_settle_80 : decode cX7_settle 80 = .ok (.aload_n 0, 1) := by decide +kernel
theorem dX7_settle_81 : decode cX7_settle 81 = .ok (.invokestatic 62, 3) := by decide +kernel
theorem dX7_settle_84 : decode cX7_settle 84 = .ok (.ifCond .ne 38, 3) := by decide +kernel
theorem dX7_settle_87 : decode cX7_settle 87 = .ok (.aload_n 0, 1) := by decide +kernel
theorem dX7_settle_88 : decode cX7_settle 88 = .ok (.invokestatic 65, 3) := by decide +kernel
theorem dX7_settle_91 : decode cX7_settle 91 = .ok (.ifCond .ne 31, 3) := by decide +kernel
theorem dX7_settle_94 : decode cX7_settle 94 = .ok (.aload_n 0, 1) := by decide +kernel
theorem dX7_settle_95 : decode cX7_settle 95 = .ok (.invokestatic 68, 3) := by decide +kernel
theorem dX7_settle_98 : decode cX7_settle 98 = .ok (.ifCond .ne 24, 3) := by decide +kernel
theorem dX7_settle_101 : decode cX7_settle 101 = .ok (.aload_n 0, 1) := by decide +kernel
theorem dX7_settle_102 : decode cX7_settle 102 = .ok (.invokestatic 71, 3) := by decide +kernel
theorem dX7_settle_105 : decode cX7_settle 105 = .ok (.ifCond .ne 17, 3) := by decide +kernel
theorem dX7_settle_108 : decode cX7_settle 108 = .ok (.aload_n 0, 1) := by decide +kernel
theorem dX7_settle_109 : decode cX7_settle 109 = .ok (.invokestatic 74, 3) := by decide +kernel
theorem dX7_settle_112 : decode cX7_settle 112 = .ok (.ifCond .ne 10, 3) := by decide +kernel
theorem dX7_settle_115 : decode cX7_settle 115 = .ok (.aload_n 0, 1) := by decide +kernel
theorem dX7_settle_116 : decode cX7_settle 116 = .ok (.invokestatic 77, 3) := by decide +kernel
theorem dX7_settle_119 : decode cX7_settle 119 = .ok (.ifCond .eq 7, 3) := by decide +kernel
theorem dX7_settle_122 : decode cX7_settle 122 = .ok (.iconst 1, 1) := by decide +kernel
theorem dX7_settle_123 : decode cX7_settle 123 = .ok (.goto 4, 3) := by decide +kernel
theorem dX7_settle_126 : decode cX7_settle 126 = .ok (.iconst 0, 1) := by decide +kernel
theorem dX7_settle_127 : decode cX7_settle 127 = .ok (.istore_n 2, 1) := by decide +kernel
theorem dX7_settle_128 : decode cX7_settle 128 = .ok (.iload_n 2, 1) := by decide +kernel
theorem dX7_settle_129 : decode cX7_settle 129 = .ok (.ifCond .ne 4, 3) := by decide +kernel
theorem dX7_settle_132 : decode cX7_settle 132 = .ok (.return_, 1) := by decide +kernel
theorem dX7_settle_133 : decode cX7_settle 133 = .ok (.iinc 1 1, 3) := by decide +kernel
theorem dX7_settle_136 : decode cX7_settle 136 = .ok (.goto (-134), 3) := by decide +kernel
theorem dX7_settle_139 : decode cX7_settle 139 = .ok (.aload_n 0, 1) := by decide +kernel
theorem dX7_settle_140 : decode cX7_settle 140 = .ok (.getfield 22, 3) := by decide +kernel
theorem dX7_settle_143 : decode cX7_settle 143 = .ok (.aload_n 0, 1) := by decide +kernel
theorem dX7_settle_144 : decode cX7_settle 144 = .ok (.getfield 26, 3) := by decide +kernel
theorem dX7_settle_147 : decode cX7_settle 147 = .ok (.getfield 30, 3) := by decide +kernel
theorem dX7_settle_150 : decode cX7_settle 150 = .ok (.aload_n 0, 1) := by decide +kernel
theorem dX7_settle_151 : decode cX7_settle 151 = .ok (.getfield 26, 3) := by decide +kernel
theorem dX7_settle_154 : decode cX7_settle 154 = .ok (.getfield 36, 3) := by decide +kernel
theorem dX7_settle_157 : decode cX7_settle 157 = .ok (.invokevirtual 39, 3) := by decide +kernel
theorem dX7_settle_160 : decode cX7_settle 160 = .ok (.return_, 1) := by decide +kernel
theorem dX7_takes_0 : decode cX7_takes 0 = .ok (.aload_n 0, 1) := by decide +kernel
theorem dX7_takes_1 : decode cX7_takes 1 = .ok (.getfield 80, 3) := by decide +kernel
theorem dX7_takes_4 : decode cX7_takes 4 = .ok (.astore_n 1, 1) := by decide +kernel
theorem dX7_takes_5 : decode cX7_takes 5 = .ok (.iconst 0, 1) := by decide +kernel
theorem dX7_takes_6 : decode cX7_takes 6 = .ok (.istore_n 2, 1) := by decide +kernel
theorem dX7_takes_7 : decode cX7_takes 7 = .ok (.iload_n 2, 1) := by decide +kernel
theorem dX7_takes_8 : decode cX7_takes 8 = .ok (.aload_n 0, 1) := by decide +kernel
theorem dX7_takes_9 : decode cX7_takes 9 = .ok (.getfield 26, 3) := by decide +kernel
theorem dX7_takes_12 : decode cX7_takes 12 = .ok (.getfield 84, 3) := by decide +kernel
theorem dX7_takes_15 : decode cX7_takes 15 = .ok (.if_icmp .ge 54, 3) := by decide +kernel
theorem dX7_takes_18 : decode cX7_takes 18 = .ok (.aload_n 1, 1) := by decide +kernel
theorem dX7_takes_19 : decode cX7_takes 19 = .ok (.getfield 87, 3) := by decide +kernel
theorem dX7_takes_22 : decode cX7_takes 22 = .ok (.iload_n 2, 1) := by decide +kernel
theorem dX7_takes_23 : decode cX7_takes 23 = .ok (.aaload, 1) := by decide +kernel
theorem dX7_takes_24 : decode cX7_takes 24 = .ok (.astore_n 3, 1) := by decide +kernel
theorem dX7_takes_25 : decode cX7_takes 25 = .ok (.aload_n 3, 1) := by decide +kernel
theorem dX7_takes_26 : decode cX7_takes 26 = .ok (.ifnull 37, 3) := by decide +kernel
theorem dX7_takes_29 : decode cX7_takes 29 = .ok (.aload_n 3, 1) := by decide +kernel
theorem dX7_takes_30 : decode cX7_takes 30 = .ok (.iconst 1, 1) := by decide +kernel
theorem dX7_takes_31 : decode cX7_takes 31 = .ok (.invokevirtual 93, 3) := by decide +kernel
theorem dX7_takes_34 : decode cX7_takes 34 = .ok (.aload_n 0, 1) := by decide +kernel
theorem dX7_takes_35 : decode cX7_takes 35 = .ok (.getfield 18, 3) := by decide +kernel
theorem dX7_takes_38 : decode cX7_takes 38 = .ok (.if_icmp .le 25, 3) := by decide +kernel
theorem dX7_takes_41 : decode cX7_takes 41 = .ok (.aload_n 1, 1) := by decide +kernel
theorem dX7_takes_42 : decode cX7_takes 42 = .ok (.aload_n 3, 1) := by decide +kernel
theorem dX7_takes_43 : decode cX7_takes 43 = .ok (.invokevirtual 99, 3) := by decide +kernel
theorem dX7_takes_46 : decode cX7_takes 46 = .ok (.aload_n 0, 1) := by decide +kernel
theorem dX7_takes_47 : decode cX7_takes 47 = .ok (.getfield 26, 3) := by decide +kernel
theorem dX7_takes_50 : decode cX7_takes 50 = .ok (.getfield 103, 3) := by decide +kernel
theorem dX7_takes_53 : decode cX7_takes 53 = .ok (.if_icmp .le 10, 3) := by decide +kernel
theorem dX7_takes_56 : decode cX7_takes 56 = .ok (.aload_n 0, 1) := by decide +kernel
theorem dX7_takes_57 : decode cX7_takes 57 = .ok (.aload_n 3, 1) := by decide +kernel
theorem dX7_takes_58 : decode cX7_takes 58 = .ok (.invokestatic 106, 3) := by decide +kernel
theorem dX7_takes_61 : decode cX7_takes 61 = .ok (.iconst 1, 1) := by decide +kernel
theorem dX7_takes_62 : decode cX7_takes 62 = .ok (.ireturn, 1) := by decide +kernel
theorem dX7_takes_63 : decode cX7_takes 63 = .ok (.iinc 2 1, 3) := by decide +kernel
theorem dX7_takes_66 : decode cX7_takes 66 = .ok (.goto (-59), 3) := by decide +kernel
theorem dX7_takes_69 : decode cX7_takes 69 = .ok (.iconst 0, 1) := by decide +kernel
theorem dX7_takes_70 : decode cX7_takes 70 = .ok (.ireturn, 1) := by decide +kernel
theorem dX7_take_0 : decode cX7_take 0 = .ok (.aload_n 0, 1) := by decide +kernel
theorem dX7_take_1 : decode cX7_take 1 = .ok (.getfield 110, 3) := by decide +kernel
theorem dX7_take_4 : decode cX7_take 4 = .ok (.aload_n 1, 1) := by decide +kernel
theorem dX7_take_5 : decode cX7_take 5 = .ok (.invokevirtual 114, 3) := by decide +kernel
theorem dX7_take_8 : decode cX7_take 8 = .ok (.ifCond .ne 8, 3) := by decide +kernel
theorem dX7_take_11 : decode cX7_take 11 = .ok (.aload_n 0, 1) := by decide +kernel
theorem dX7_take_12 : decode cX7_take 12 = .ok (.invokevirtual 120, 3) := by decide +kernel
theorem dX7_take_15 : decode cX7_take 15 = .ok (.return_, 1) := by decide +kernel
theorem dX7_take_16 : decode cX7_take 16 = .ok (.aload_n 1, 1) := by decide +kernel
theorem dX7_take_17 : decode cX7_take 17 = .ok (.getfield 123, 3) := by decide +kernel
theorem dX7_take_20 : decode cX7_take 20 = .ok (.iconst 3, 1) := by decide +kernel
theorem dX7_take_21 : decode cX7_take 21 = .ok (.aload_n 0, 1) := by decide +kernel
theorem dX7_take_22 : decode cX7_take 22 = .ok (.getfield 127, 3) := by decide +kernel
theorem dX7_take_25 : decode cX7_take 25 = .ok (.iconst 0, 1) := by decide +kernel
theorem dX7_take_26 : decode cX7_take 26 = .ok (.bipush 32, 2) := by decide +kernel
theorem dX7_take_28 : decode cX7_take 28 = .ok (.invokestatic 130, 3) := by decide +kernel
theorem dX7_take_31 : decode cX7_take 31 = .ok (.aload_n 0, 1) := by decide +kernel
theorem dX7_take_32 : decode cX7_take 32 = .ok (.getfield 22, 3) := by decide +kernel
theorem dX7_take_35 : decode cX7_take 35 = .ok (.aload_n 1, 1) := by decide +kernel
theorem dX7_take_36 : decode cX7_take 36 = .ok (.getfield 123, 3) := by decide +kernel
theorem dX7_take_39 : decode cX7_take 39 = .ok (.invokevirtual 136, 3) := by decide +kernel
theorem dX7_take_42 : decode cX7_take 42 = .ok (.aload_n 0, 1) := by decide +kernel
theorem dX7_take_43 : decode cX7_take 43 = .ok (.iconst 0, 1) := by decide +kernel
theorem dX7_take_44 : decode cX7_take 44 = .ok (.iconst 4, 1) := by decide +kernel
theorem dX7_take_45 : decode cX7_take 45 = .ok (.invokevirtual 140, 3) := by decide +kernel
theorem dX7_take_48 : decode cX7_take 48 = .ok (.aload_n 0, 1) := by decide +kernel
theorem dX7_take_49 : decode cX7_take 49 = .ok (.aload_n 1, 1) := by decide +kernel
theorem dX7_take_50 : decode cX7_take 50 = .ok (.iconst 1, 1) := by decide +kernel
theorem dX7_take_51 : decode cX7_take 51 = .ok (.invokevirtual 93, 3) := by decide +kernel
theorem dX7_take_54 : decode cX7_take 54 = .ok (.invokevirtual 144, 3) := by decide +kernel
theorem dX7_take_57 : decode cX7_take 57 = .ok (.return_, 1) := by decide +kernel
theorem dX7_decides_0 : decode cX7_decides 0 = .ok (.aload_n 0, 1) := by decide +kernel
theorem dX7_decides_1 : decode cX7_decides 1 = .ok (.getfield 80, 3) := by decide +kernel
theorem dX7_decides_4 : decode cX7_decides 4 = .ok (.astore_n 1, 1) := by decide +kernel
theorem dX7_decides_5 : decode cX7_decides 5 = .ok (.iconst 0, 1) := by decide +kernel
theorem dX7_decides_6 : decode cX7_decides 6 = .ok (.istore_n 2, 1) := by decide +kernel
theorem dX7_decides_7 : decode cX7_decides 7 = .ok (.iload_n 2, 1) := by decide +kernel
theorem dX7_decides_8 : decode cX7_decides 8 = .ok (.aload_n 0, 1) := by decide +kernel
theorem dX7_decides_9 : decode cX7_decides 9 = .ok (.getfield 26, 3) := by decide +kernel
theorem dX7_decides_12 : decode cX7_decides 12 = .ok (.getfield 84, 3) := by decide +kernel
theorem dX7_decides_15 : decode cX7_decides 15 = .ok (.if_icmp .ge 99, 3) := by decide +kernel
theorem dX7_decides_18 : decode cX7_decides 18 = .ok (.aload_n 1, 1) := by decide +kernel
theorem dX7_decides_19 : decode cX7_decides 19 = .ok (.getfield 148, 3) := by decide +kernel
theorem dX7_decides_22 : decode cX7_decides 22 = .ok (.aload_n 0, 1) := by decide +kernel
theorem dX7_decides_23 : decode cX7_decides 23 = .ok (.getfield 26, 3) := by decide +kernel
theorem dX7_decides_26 : decode cX7_decides 26 = .ok (.getfield 103, 3) := by decide +kernel
theorem dX7_decides_29 : decode cX7_decides 29 = .ok (.if_icmp .le 85, 3) := by decide +kernel
theorem dX7_decides_32 : decode cX7_decides 32 = .ok (.aload_n 1, 1) := by decide +kernel
theorem dX7_decides_33 : decode cX7_decides 33 = .ok (.getfield 151, 3) := by decide +kernel
theorem dX7_decides_36 : decode cX7_decides 36 = .ok (.iload_n 2, 1) := by decide +kernel
theorem dX7_decides_37 : decode cX7_decides 37 = .ok (.aaload, 1) := by decide +kernel
theorem dX7_decides_38 : decode cX7_decides 38 = .ok (.astore_n 3, 1) := by decide +kernel
theorem dX7_decides_39 : decode cX7_decides 39 = .ok (.aload_n 3, 1) := by decide +kernel
theorem dX7_decides_40 : decode cX7_decides 40 = .ok (.ifnull 68, 3) := by decide +kernel
theorem dX7_decides_43 : decode cX7_decides 43 = .ok (.aload_n 1, 1) := by decide +kernel
theorem dX7_decides_44 : decode cX7_decides 44 = .ok (.aload_n 3, 1) := by decide +kernel
theorem dX7_decides_45 : decode cX7_decides 45 = .ok (.invokevirtual 154, 3) := by decide +kernel
theorem dX7_decides_48 : decode cX7_decides 48 = .ok (.aload_n 0, 1) := by decide +kernel
theorem dX7_decides_49 : decode cX7_decides 49 = .ok (.getfield 26, 3) := by decide +kernel
theorem dX7_decides_52 : decode cX7_decides 52 = .ok (.getfield 103, 3) := by decide +kernel
theorem dX7_decides_55 : decode cX7_decides 55 = .ok (.if_icmp .gt 6, 3) := by decide +kernel
theorem dX7_decides_58 : decode cX7_decides 58 = .ok (.goto 50, 3) := by decide +kernel
theorem dX7_decides_61 : decode cX7_decides 61 = .ok (.aload_n 1, 1) := by decide +kernel
theorem dX7_decides_62 : decode cX7_decides 62 = .ok (.getfield 157, 3) := by decide +kernel
theorem dX7_decides_65 : decode cX7_decides 65 = .ok (.iload_n 2, 1) := by decide +kernel
theorem dX7_decides_66 : decode cX7_decides 66 = .ok (.iaload, 1) := by decide +kernel
theorem dX7_decides_67 : decode cX7_decides 67 = .ok (.ifCond .ne 23, 3) := by decide +kernel
theorem dX7_decides_70 : decode cX7_decides 70 = .ok (.aload_n 1, 1) := by decide +kernel
theorem dX7_decides_71 : decode cX7_decides 71 = .ok (.getfield 157, 3) := by decide +kernel
theorem dX7_decides_74 : decode cX7_decides 74 = .ok (.iload_n 2, 1) := by decide +kernel
theorem dX7_decides_75 : decode cX7_decides 75 = .ok (.aload_n 0, 1) := by decide +kernel
theorem dX7_decides_76 : decode cX7_decides 76 = .ok (.aload_n 3, 1) := by decide +kernel
theorem dX7_decides_77 : decode cX7_decides 77 = .ok (.iconst 1, 1) := by decide +kernel
theorem dX7_decides_78 : decode cX7_decides 78 = .ok (.invokestatic 161, 3) := by decide +kernel
theorem dX7_decides_81 : decode cX7_decides 81 = .ok (.ifCond .eq 7, 3) := by decide +kernel
theorem dX7_decides_84 : decode cX7_decides 84 = .ok (.iconst 1, 1) := by decide +kernel
theorem dX7_decides_85 : decode cX7_decides 85 = .ok (.goto 4, 3) := by decide +kernel
theorem dX7_decides_88 : decode cX7_decides 88 = .ok (.iconst 2, 1) := by decide +kernel
theorem dX7_decides_89 : decode cX7_decides 89 = .ok (.iastore, 1) := by decide +kernel
theorem dX7_decides_90 : decode cX7_decides 90 = .ok (.aload_n 1, 1) := by decide +kernel
theorem dX7_decides_91 : decode cX7_decides 91 = .ok (.getfield 157, 3) := by decide +kernel
theorem dX7_decides_94 : decode cX7_decides 94 = .ok (.iload_n 2, 1) := by decide +kernel
theorem dX7_decides_95 : decode cX7_decides 95 = .ok (.iaload, 1) := by decide +kernel
theorem dX7_decides_96 : decode cX7_decides 96 = .ok (.iconst 1, 1) := by decide +kernel
theorem dX7_decides_97 : decode cX7_decides 97 = .ok (.if_icmp .ne 11, 3) := by decide +kernel
theorem dX7_decides_100 : decode cX7_decides 100 = .ok (.aload_n 0, 1) := by decide +kernel
theorem dX7_decides_101 : decode cX7_decides 101 = .ok (.aload_n 3, 1) := by decide +kernel
theorem dX7_decides_102 : decode cX7_decides 102 = .ok (.iconst 1, 1) := by decide +kernel
theorem dX7_decides_103 : decode cX7_decides 103 = .ok (.invokestatic 165, 3) := by decide +kernel
theorem dX7_decides_106 : decode cX7_decides 106 = .ok (.iconst 1, 1) := by decide +kernel
theorem dX7_decides_107 : decode cX7_decides 107 = .ok (.ireturn, 1) := by decide +kernel
theorem dX7_decides_108 : decode cX7_decides 108 = .ok (.iinc 2 1, 3) := by decide +kernel
theorem dX7_decides_111 : decode cX7_decides 111 = .ok (.goto (-104), 3) := by decide +kernel
theorem dX7_decides_114 : decode cX7_decides 114 = .ok (.iconst 0, 1) := by decide +kernel
theorem dX7_decides_115 : decode cX7_decides 115 = .ok (.istore_n 2, 1) := by decide +kernel
theorem dX7_decides_116 : decode cX7_decides 116 = .ok (.iload_n 2, 1) := by decide +kernel
theorem dX7_decides_117 : decode cX7_decides 117 = .ok (.aload_n 1, 1) := by decide +kernel
theorem dX7_decides_118 : decode cX7_decides 118 = .ok (.aload_n 0, 1) := by decide +kernel
theorem dX7_decides_119 : decode cX7_decides 119 = .ok (.getfield 18, 3) := by decide +kernel
theorem dX7_decides_122 : decode cX7_decides 122 = .ok (.invokevirtual 169, 3) := by decide +kernel
theorem dX7_decides_125 : decode cX7_decides 125 = .ok (.if_icmp .ge 61, 3) := by decide +kernel
theorem dX7_decides_128 : decode cX7_decides 128 = .ok (.aload_n 1, 1) := by decide +kernel
theorem dX7_decides_129 : decode cX7_decides 129 = .ok (.aload_n 0, 1) := by decide +kernel
theorem dX7_decides_130 : decode cX7_decides 130 = .ok (.getfield 18, 3) := by decide +kernel
theorem dX7_decides_133 : decode cX7_decides 133 = .ok (.iload_n 2, 1) := by decide +kernel
theorem dX7_decides_134 : decode cX7_decides 134 = .ok (.invokevirtual 172, 3) := by decide +kernel
theorem dX7_decides_137 : decode cX7_decides 137 = .ok (.astore_n 3, 1) := by decide +kernel
