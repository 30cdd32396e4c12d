theorem dX7_decides_138 : decode cX7_decides 138 = .ok (.aload_n 3, 1) := by decide +kernel
theorem dX7_decides_139 : decode cX7_decides 139 = .ok (.ifnull 41, 3) := by decide +kernel
theorem dX7_decides_142 : decode cX7_decides 142 = .ok (.aload_n 1, 1) := by decide +kernel
theorem dX7_decides_143 : decode cX7_decides 143 = .ok (.iconst 3, 1) := by decide +kernel
theorem dX7_decides_144 : decode cX7_decides 144 = .ok (.aload_n 0, 1) := by decide +kernel
theorem dX7_decides_145 : decode cX7_decides 145 = .ok (.getfield 18, 3) := by decide +kernel
theorem dX7_decides_148 : decode cX7_decides 148 = .ok (.iload_n 2, 1) := by decide +kernel
theorem dX7_decides_149 : decode cX7_decides 149 = .ok (.aload_n 3, 1) := by decide +kernel
theorem dX7_decides_150 : decode cX7_decides 150 = .ok (.invokevirtual 176, 3) := by decide +kernel
theorem dX7_decides_153 : decode cX7_decides 153 = .ok (.aload_n 0, 1) := by decide +kernel
theorem dX7_decides_154 : decode cX7_decides 154 = .ok (.getfield 26, 3) := by decide +kernel
theorem dX7_decides_157 : decode cX7_decides 157 = .ok (.getfield 180, 3) := by decide +kernel
theorem dX7_decides_160 : decode cX7_decides 160 = .ok (.if_icmp .lt 20, 3) := by decide +kernel
theorem dX7_decides_163 : decode cX7_decides 163 = .ok (.aload_n 0, 1) := by decide +kernel
theorem dX7_decides_164 : decode cX7_decides 164 = .ok (.iload_n 2, 1) := by decide +kernel
theorem dX7_decides_165 : decode cX7_decides 165 = .ok (.invokestatic 183, 3) := by decide +kernel
theorem dX7_decides_168 : decode cX7_decides 168 = .ok (.ifCond .eq 12, 3) := by decide +kernel
theorem dX7_decides_171 : decode cX7_decides 171 = .ok (.aload_n 0, 1) := by decide +kernel
theorem dX7_decides_172 : decode cX7_decides 172 = .ok (.aload_n 3, 1) := by decide +kernel
theorem dX7_decides_173 : decode cX7_decides 173 = .ok (.bipush 6, 2) := by decide +kernel
theorem dX7_decides_175 : decode cX7_decides 175 = .ok (.invokestatic 165, 3) := by decide +kernel
theorem dX7_decides_178 : decode cX7_decides 178 = .ok (.iconst 1, 1) := by decide +kernel
theorem dX7_decides_179 : decode cX7_decides 179 = .ok (.ireturn, 1) := by decide +kernel
theorem dX7_decides_180 : decode cX7_decides 180 = .ok (.iinc 2 1, 3) := by decide +kernel
theorem dX7_decides_183 : decode cX7_decides 183 = .ok (.goto (-67), 3) := by decide +kernel
theorem dX7_decides_186 : decode cX7_decides 186 = .ok (.iconst 0, 1) := by decide +kernel
theorem dX7_decides_187 : decode cX7_decides 187 = .ok (.ireturn, 1) := by decide +kernel
theorem dX7_adopt_0 : decode cX7_adopt 0 = .ok (.aload_n 0, 1) := by decide +kernel
theorem dX7_adopt_1 : decode cX7_adopt 1 = .ok (.getfield 110, 3) := by decide +kernel
theorem dX7_adopt_4 : decode cX7_adopt 4 = .ok (.aload_n 0, 1) := by decide +kernel
theorem dX7_adopt_5 : decode cX7_adopt 5 = .ok (.getfield 18, 3) := by decide +kernel
theorem dX7_adopt_8 : decode cX7_adopt 8 = .ok (.aload_n 1, 1) := by decide +kernel
theorem dX7_adopt_9 : decode cX7_adopt 9 = .ok (.getfield 123, 3) := by decide +kernel
theorem dX7_adopt_12 : decode cX7_adopt 12 = .ok (.iload_n 2, 1) := by decide +kernel
theorem dX7_adopt_13 : decode cX7_adopt 13 = .ok (.aload_n 1, 1) := by decide +kernel
theorem dX7_adopt_14 : decode cX7_adopt 14 = .ok (.getfield 187, 3) := by decide +kernel
theorem dX7_adopt_17 : decode cX7_adopt 17 = .ok (.invokevirtual 190, 3) := by decide +kernel
theorem dX7_adopt_20 : decode cX7_adopt 20 = .ok (.ifCond .ne 8, 3) := by decide +kernel
theorem dX7_adopt_23 : decode cX7_adopt 23 = .ok (.aload_n 0, 1) := by decide +kernel
theorem dX7_adopt_24 : decode cX7_adopt 24 = .ok (.invokevirtual 120, 3) := by decide +kernel
theorem dX7_adopt_27 : decode cX7_adopt 27 = .ok (.return_, 1) := by decide +kernel
theorem dX7_adopt_28 : decode cX7_adopt 28 = .ok (.aload_n 0, 1) := by decide +kernel
theorem dX7_adopt_29 : decode cX7_adopt 29 = .ok (.getfield 22, 3) := by decide +kernel
theorem dX7_adopt_32 : decode cX7_adopt 32 = .ok (.aload_n 1, 1) := by decide +kernel
theorem dX7_adopt_33 : decode cX7_adopt 33 = .ok (.getfield 123, 3) := by decide +kernel
theorem dX7_adopt_36 : decode cX7_adopt 36 = .ok (.iload_n 2, 1) := by decide +kernel
theorem dX7_adopt_37 : decode cX7_adopt 37 = .ok (.aload_n 1, 1) := by decide +kernel
theorem dX7_adopt_38 : decode cX7_adopt 38 = .ok (.getfield 187, 3) := by decide +kernel
theorem dX7_adopt_41 : decode cX7_adopt 41 = .ok (.invokevirtual 194, 3) := by decide +kernel
theorem dX7_adopt_44 : decode cX7_adopt 44 = .ok (.pop, 1) := by decide +kernel
theorem dX7_adopt_45 : decode cX7_adopt 45 = .ok (.aload_n 1, 1) := by decide +kernel
theorem dX7_adopt_46 : decode cX7_adopt 46 = .ok (.aload_n 0, 1) := by decide +kernel
theorem dX7_adopt_47 : decode cX7_adopt 47 = .ok (.getfield 127, 3) := by decide +kernel
theorem dX7_adopt_50 : decode cX7_adopt 50 = .ok (.iconst 0, 1) := by decide +kernel
theorem dX7_adopt_51 : decode cX7_adopt 51 = .ok (.invokevirtual 198, 3) := by decide +kernel
theorem dX7_adopt_54 : decode cX7_adopt 54 = .ok (.aload_n 1, 1) := by decide +kernel
theorem dX7_adopt_55 : decode cX7_adopt 55 = .ok (.iload_n 2, 1) := by decide +kernel
theorem dX7_adopt_56 : decode cX7_adopt 56 = .ok (.bipush 99, 2) := by decide +kernel
theorem dX7_adopt_58 : decode cX7_adopt 58 = .ok (.iadd, 1) := by decide +kernel
theorem dX7_adopt_59 : decode cX7_adopt 59 = .ok (.invokevirtual 202, 3) := by decide +kernel
theorem dX7_adopt_62 : decode cX7_adopt 62 = .ok (.istore_n 3, 1) := by decide +kernel
theorem dX7_adopt_63 : decode cX7_adopt 63 = .ok (.iconst 1, 1) := by decide +kernel
theorem dX7_adopt_64 : decode cX7_adopt 64 = .ok (.istore 4, 2) := by decide +kernel
theorem dX7_adopt_66 : decode cX7_adopt 66 = .ok (.iload 4, 2) := by decide +kernel
theorem dX7_adopt_68 : decode cX7_adopt 68 = .ok (.iload_n 3, 1) := by decide +kernel
theorem dX7_adopt_69 : decode cX7_adopt 69 = .ok (.if_icmp .gt 33, 3) := by decide +kernel
theorem dX7_adopt_72 : decode cX7_adopt 72 = .ok (.aload_n 0, 1) := by decide +kernel
theorem dX7_adopt_73 : decode cX7_adopt 73 = .ok (.getfield 80, 3) := by decide +kernel
theorem dX7_adopt_76 : decode cX7_adopt 76 = .ok (.aload_n 1, 1) := by decide +kernel
theorem dX7_adopt_77 : decode cX7_adopt 77 = .ok (.getfield 123, 3) := by decide +kernel
theorem dX7_adopt_80 : decode cX7_adopt 80 = .ok (.aload_n 1, 1) := by decide +kernel
theorem dX7_adopt_81 : decode cX7_adopt 81 = .ok (.getfield 187, 3) := by decide +kernel
theorem dX7_adopt_84 : decode cX7_adopt 84 = .ok (.iload 4, 2) := by decide +kernel
theorem dX7_adopt_86 : decode cX7_adopt 86 = .ok (.bipush 7, 2) := by decide +kernel
theorem dX7_adopt_88 : decode cX7_adopt 88 = .ok (.imul, 1) := by decide +kernel
theorem dX7_adopt_89 : decode cX7_adopt 89 = .ok (.isub, 1) := by decide +kernel
theorem dX7_adopt_90 : decode cX7_adopt 90 = .ok (.invokestatic 205, 3) := by decide +kernel
theorem dX7_adopt_93 : decode cX7_adopt 93 = .ok (.invokevirtual 209, 3) := by decide +kernel
theorem dX7_adopt_96 : decode cX7_adopt 96 = .ok (.iinc 4 1, 3) := by decide +kernel
theorem dX7_adopt_99 : decode cX7_adopt 99 = .ok (.goto (-33), 3) := by decide +kernel
theorem dX7_adopt_102 : decode cX7_adopt 102 = .ok (.aload_n 0, 1) := by decide +kernel
theorem dX7_adopt_103 : decode cX7_adopt 103 = .ok (.aload_n 0, 1) := by decide +kernel
theorem dX7_adopt_104 : decode cX7_adopt 104 = .ok (.getfield 18, 3) := by decide +kernel
theorem dX7_adopt_107 : decode cX7_adopt 107 = .ok (.aload_n 0, 1) := by decide +kernel
theorem dX7_adopt_108 : decode cX7_adopt 108 = .ok (.getfield 18, 3) := by decide +kernel
theorem dX7_adopt_111 : decode cX7_adopt 111 = .ok (.iconst 1, 1) := by decide +kernel
theorem dX7_adopt_112 : decode cX7_adopt 112 = .ok (.iadd, 1) := by decide +kernel
theorem dX7_adopt_113 : decode cX7_adopt 113 = .ok (.invokevirtual 140, 3) := by decide +kernel
theorem dX7_adopt_116 : decode cX7_adopt 116 = .ok (.aload_n 0, 1) := by decide +kernel
theorem dX7_adopt_117 : decode cX7_adopt 117 = .ok (.aload_n 0, 1) := by decide +kernel
theorem dX7_adopt_118 : decode cX7_adopt 118 = .ok (.getfield 18, 3) := by decide +kernel
theorem dX7_adopt_121 : decode cX7_adopt 121 = .ok (.iconst 1, 1) := by decide +kernel
theorem dX7_adopt_122 : decode cX7_adopt 122 = .ok (.iadd, 1) := by decide +kernel
theorem dX7_adopt_123 : decode cX7_adopt 123 = .ok (.invokevirtual 144, 3) := by decide +kernel
theorem dX7_adopt_126 : decode cX7_adopt 126 = .ok (.return_, 1) := by decide +kernel
theorem dX7_skips_0 : decode cX7_skips 0 = .ok (.aload_n 0, 1) := by decide +kernel
theorem dX7_skips_1 : decode cX7_skips 1 = .ok (.getfield 80, 3) := by decide +kernel
theorem dX7_skips_4 : decode cX7_skips 4 = .ok (.aload_n 0, 1) := by decide +kernel
theorem dX7_skips_5 : decode cX7_skips 5 = .ok (.getfield 18, 3) := by decide +kernel
theorem dX7_skips_8 : decode cX7_skips 8 = .ok (.invokevirtual 169, 3) := by decide +kernel
theorem dX7_skips_11 : decode cX7_skips 11 = .ok (.iconst 1, 1) := by decide +kernel
theorem dX7_skips_12 : decode cX7_skips 12 = .ok (.isub, 1) := by decide +kernel
theorem dX7_skips_13 : decode cX7_skips 13 = .ok (.istore_n 1, 1) := by decide +kernel
theorem dX7_skips_14 : decode cX7_skips 14 = .ok (.iload_n 1, 1) := by decide +kernel
theorem dX7_skips_15 : decode cX7_skips 15 = .ok (.aload_n 0, 1) := by decide +kernel
theorem dX7_skips_16 : decode cX7_skips 16 = .ok (.getfield 213, 3) := by decide +kernel
theorem dX7_skips_19 : decode cX7_skips 19 = .ok (.if_icmp .le 38, 3) := by decide +kernel
theorem dX7_skips_22 : decode cX7_skips 22 = .ok (.aload_n 0, 1) := by decide +kernel
theorem dX7_skips_23 : decode cX7_skips 23 = .ok (.getfield 80, 3) := by decide +kernel
theorem dX7_skips_26 : decode cX7_skips 26 = .ok (.aload_n 0, 1) := by decide +kernel
theorem dX7_skips_27 : decode cX7_skips 27 = .ok (.getfield 18, 3) := by decide +kernel
theorem dX7_skips_30 : decode cX7_skips 30 = .ok (.iload_n 1, 1) := by decide +kernel
theorem dX7_skips_31 : decode cX7_skips 31 = .ok (.invokevirtual 216, 3) := by decide +kernel
theorem dX7_skips_34 : decode cX7_skips 34 = .ok (.aload_n 0, 1) := by decide +kernel
theorem dX7_skips_35 : decode cX7_skips 35 = .ok (.getfield 26, 3) := by decide +kernel
theorem dX7_skips_38 : decode cX7_skips 38 = .ok (.getfield 103, 3) := by decide +kernel
theorem dX7_skips_41 : decode cX7_skips 41 = .ok (.if_icmp .le 10, 3) := by decide +kernel
theorem dX7_skips_44 : decode cX7_skips 44 = .ok (.aload_n 0, 1) := by decide +kernel
theorem dX7_skips_45 : decode cX7_skips 45 = .ok (.iload_n 1, 1) := by decide +kernel
theorem dX7_skips_46 : decode cX7_skips 46 = .ok (.putfield 45, 3) := by decide +kernel
theorem dX7_skips_49 : decode cX7_skips 49 = .ok (.iconst 1, 1) := by decide +kernel
theorem dX7_skips_50 : decode cX7_skips 50 = .ok (.ireturn, 1) := by decide +kernel
theorem dX7_skips_51 : decode cX7_skips 51 = .ok (.iinc 1 (-1), 3) := by decide +kernel
theorem dX7_skips_54 : decode cX7_skips 54 = .ok (.goto (-40), 3) := by decide +kernel
theorem dX7_skips_57 : decode cX7_skips 57 = .ok (.iconst 0, 1) := by decide +kernel
theorem dX7_skips_58 : decode cX7_skips 58 = .ok (.ireturn, 1) := by decide +kernel
theorem dX7_prevotesNew_0 : decode cX7_prevotesNew 0 = .ok (.aload_n 0, 1) := by decide +kernel
theorem dX7_prevotesNew_1 : decode cX7_prevotesNew 1 = .ok (.getfield 220, 3) := by decide +kernel
theorem dX7_prevotesNew_4 : decode cX7_prevotesNew 4 = .ok (.ifCond .ne 21, 3) := by decide +kernel
theorem dX7_prevotesNew_7 : decode cX7_prevotesNew 7 = .ok (.aload_n 0, 1) := by decide +kernel
theorem dX7_prevotesNew_8 : decode cX7_prevotesNew 8 = .ok (.getfield 80, 3) := by decide +kernel
theorem dX7_prevotesNew_11 : decode cX7_prevotesNew 11 = .ok (.aload_n 0, 1) := by decide +kernel
theorem dX7_prevotesNew_12 : decode cX7_prevotesNew 12 = .ok (.getfield 18, 3) := by decide +kernel
theorem dX7_prevotesNew_15 : decode cX7_prevotesNew 15 = .ok (.aload_n 0, 1) := by decide +kernel
theorem dX7_prevotesNew_16 : decode cX7_prevotesNew 16 = .ok (.getfield 213, 3) := by decide +kernel
theorem dX7_prevotesNew_19 : decode cX7_prevotesNew 19 = .ok (.invokevirtual 172, 3) := by decide +kernel
theorem dX7_prevotesNew_22 : decode cX7_prevotesNew 22 = .ok (.goto 4, 3) := by decide +kernel
theorem dX7_prevotesNew_25 : decode cX7_prevotesNew 25 = .ok (.aconst_null, 1) := by decide +kernel
theorem dX7_prevotesNew_26 : decode cX7_prevotesNew 26 = .ok (.astore_n 1, 1) := by decide +kernel
theorem dX7_prevotesNew_27 : decode cX7_prevotesNew 27 = .ok (.aload_n 1, 1) := by decide +kernel
theorem dX7_prevotesNew_28 : decode cX7_prevotesNew 28 = .ok (.ifnull 14, 3) := by decide +kernel
theorem dX7_prevotesNew_31 : decode cX7_prevotesNew 31 = .ok (.aload_n 1, 1) := by decide +kernel
theorem dX7_prevotesNew_32 : decode cX7_prevotesNew 32 = .ok (.iconst 5, 1) := by decide +kernel
theorem dX7_prevotesNew_33 : decode cX7_prevotesNew 33 = .ok (.invokevirtual 202, 3) := by decide +kernel
theorem dX7_prevotesNew_36 : decode cX7_prevotesNew 36 = .ok (.sipush 255, 3) := by decide +kernel
theorem dX7_prevotesNew_39 : decode cX7_prevotesNew 39 = .ok (.if_icmp .eq 5, 3) := by decide +kernel
theorem dX7_prevotesNew_42 : decode cX7_prevotesNew 42 = .ok (.iconst 0, 1) := by decide +kernel
theorem dX7_prevotesNew_43 : decode cX7_prevotesNew 43 = .ok (.ireturn, 1) := by decide +kernel
theorem dX7_prevotesNew_44 : decode cX7_prevotesNew 44 = .ok (.aload_n 0, 1) := by decide +kernel
theorem dX7_prevotesNew_45 : decode cX7_prevotesNew 45 = .ok (.aload_n 0, 1) := by decide +kernel
theorem dX7_prevotesNew_46 : decode cX7_prevotesNew 46 = .ok (.getfield 213, 3) := by decide +kernel
theorem dX7_prevotesNew_49 : decode cX7_prevotesNew 49 = .ok (.invokestatic 183, 3) := by decide +kernel
theorem dX7_prevotesNew_52 : decode cX7_prevotesNew 52 = .ok (.ifCond .eq 25, 3) := by decide +kernel
theorem dX7_prevotesNew_55 : decode cX7_prevotesNew 55 = .ok (.aload_n 0, 1) := by decide +kernel
theorem dX7_prevotesNew_56 : decode cX7_prevotesNew 56 = .ok (.getfield 223, 3) := by decide +kernel
theorem dX7_prevotesNew_59 : decode cX7_prevotesNew 59 = .ok (.ifnull 14, 3) := by decide +kernel
theorem dX7_prevotesNew_62 : decode cX7_prevotesNew 62 = .ok (.aload_n 0, 1) := by decide +kernel
theorem dX7_prevotesNew_63 : decode cX7_prevotesNew 63 = .ok (.getfield 223, 3) := by decide +kernel
theorem dX7_prevotesNew_66 : decode cX7_prevotesNew 66 = .ok (.aload_n 1, 1) := by decide +kernel
theorem dX7_prevotesNew_67 : decode cX7_prevotesNew 67 = .ok (.invokevirtual 227, 3) := by decide +kernel
theorem dX7_prevotesNew_70 : decode cX7_prevotesNew 70 = .ok (.ifCond .eq 7, 3) := by decide +kernel
theorem dX7_prevotesNew_73 : decode cX7_prevotesNew 73 = .ok (.iconst 1, 1) := by decide +kernel
theorem dX7_prevotesNew_74 : decode cX7_prevotesNew 74 = .ok (.goto 4, 3) := by decide +kernel
theorem dX7_prevotesNew_77 : decode cX7_prevotesNew 77 = .ok (.iconst 0, 1) := by decide +kernel
theorem dX7_prevotesNew_78 : decode cX7_prevotesNew 78 = .ok (.istore_n 2, 1) := by decide +kernel
theorem dX7_prevotesNew_79 : decode cX7_prevotesNew 79 = .ok (.aload_n 0, 1) := by decide +kernel
theorem dX7_prevotesNew_80 : decode cX7_prevotesNew 80 = .ok (.aload_n 0, 1) := by decide +kernel
theorem dX7_prevotesNew_81 : decode cX7_prevotesNew 81 = .ok (.iconst 2, 1) := by decide +kernel
theorem dX7_prevotesNew_82 : decode cX7_prevotesNew 82 = .ok (.iload_n 2, 1) := by decide +kernel
theorem dX7_prevotesNew_83 : decode cX7_prevotesNew 83 = .ok (.ifCond .eq 7, 3) := by decide +kernel
theorem dX7_prevotesNew_86 : decode cX7_prevotesNew 86 = .ok (.aload_n 1, 1) := by decide +kernel
theorem dX7_prevotesNew_87 : decode cX7_prevotesNew 87 = .ok (.goto 4, 3) := by decide +kernel
theorem dX7_prevotesNew_90 : decode cX7_prevotesNew 90 = .ok (.aconst_null, 1) := by decide +kernel
theorem dX7_prevotesNew_91 : decode cX7_prevotesNew 91 = .ok (.invokevirtual 230, 3) := by decide +kernel
theorem dX7_prevotesNew_94 : decode cX7_prevotesNew 94 = .ok (.iconst 1, 1) := by decide +kernel
theorem dX7_prevotesNew_95 : decode cX7_prevotesNew 95 = .ok (.invokestatic 234, 3) := by decide +kernel
theorem dX7_prevotesNew_98 : decode cX7_prevotesNew 98 = .ok (.iconst 1, 1) := by decide +kernel
theorem dX7_prevotesNew_99 : decode cX7_prevotesNew 99 = .ok (.ireturn, 1) := by decide +kernel
theorem dX7_prevotesOld_0 : decode cX7_prevotesOld 0 = .ok (.aload_n 0, 1) := by decide +kernel
theorem dX7_prevotesOld_1 : decode cX7_prevotesOld 1 = .ok (.getfield 220, 3) := by decide +kernel
theorem dX7_prevotesOld_4 : decode cX7_prevotesOld 4 = .ok (.ifCond .ne 21, 3) := by decide +kernel
theorem dX7_prevotesOld_7 : decode cX7_prevotesOld 7 = .ok (.aload_n 0, 1) := by decide +kernel
theorem dX7_prevotesOld_8 : decode cX7_prevotesOld 8 = .ok (.getfield 80, 3) := by decide +kernel
theorem dX7_prevotesOld_11 : decode cX7_prevotesOld 11 = .ok (.aload_n 0, 1) := by decide +kernel
theorem dX7_prevotesOld_12 : decode cX7_prevotesOld 12 = .ok (.getfield 18, 3) := by decide +kernel
theorem dX7_prevotesOld_15 : decode cX7_prevotesOld 15 = .ok (.aload_n 0, 1) := by decide +kernel
theorem dX7_prevotesOld_16 : decode cX7_prevotesOld 16 = .ok (.getfield 213, 3) := by decide +kernel
theorem dX7_prevotesOld_19 : decode cX7_prevotesOld 19 = .ok (.invokevirtual 172, 3) := by decide +kernel
theorem dX7_prevotesOld_22 : decode cX7_prevotesOld 22 = .ok (.goto 4, 3) := by decide +kernel
theorem dX7_prevotesOld_25 : decode cX7_prevotesOld 25 = .ok (.aconst_null, 1) := by decide +kernel
theorem dX7_prevotesOld_26 : decode cX7_prevotesOld 26 = .ok (.astore_n 1, 1) := by decide +kernel
theorem dX7_prevotesOld_27 : decode cX7_prevotesOld 27 = .ok (.aload_n 1, 1) := by decide +kernel
theorem dX7_prevotesOld_28 : decode cX7_prevotesOld 28 = .ok (.ifnull 15, 3) := by decide +kernel
theorem dX7_prevotesOld_31 : decode cX7_prevotesOld 31 = .ok (.aload_n 1, 1) := by decide +kernel
theorem dX7_prevotesOld_32 : decode cX7_prevotesOld 32 = .ok (.iconst 5, 1) := by decide +kernel
theorem dX7_prevotesOld_33 : decode cX7_prevotesOld 33 = .ok (.invokevirtual 202, 3) := by decide +kernel
theorem dX7_prevotesOld_36 : decode cX7_prevotesOld 36 = .ok (.aload_n 0, 1) := by decide +kernel
theorem dX7_prevotesOld_37 : decode cX7_prevotesOld 37 = .ok (.getfield 213, 3) := by decide +kernel
theorem dX7_prevotesOld_40 : decode cX7_prevotesOld 40 = .ok (.if_icmp .lt 5, 3) := by decide +kernel
theorem dX7_prevotesOld_43 : decode cX7_prevotesOld 43 = .ok (.iconst 0, 1) := by decide +kernel
theorem dX7_prevotesOld_44 : decode cX7_prevotesOld 44 = .ok (.ireturn, 1) := by decide +kernel
theorem dX7_prevotesOld_45 : decode cX7_prevotesOld 45 = .ok (.aload_n 1, 1) := by decide +kernel
theorem dX7_prevotesOld_46 : decode cX7_prevotesOld 46 = .ok (.iconst 5, 1) := by decide +kernel
theorem dX7_prevotesOld_47 : decode cX7_prevotesOld 47 = .ok (.invokevirtual 202, 3) := by decide +kernel
theorem dX7_prevotesOld_50 : decode cX7_prevotesOld 50 = .ok (.istore_n 2, 1) := by decide +kernel
theorem dX7_prevotesOld_51 : decode cX7_prevotesOld 51 = .ok (.aload_n 0, 1) := by decide +kernel
theorem dX7_prevotesOld_52 : decode cX7_prevotesOld 52 = .ok (.getfield 80, 3) := by decide +kernel
theorem dX7_prevotesOld_55 : decode cX7_prevotesOld 55 = .ok (.iconst 2, 1) := by decide +kernel
theorem dX7_prevotesOld_56 : decode cX7_prevotesOld 56 = .ok (.aload_n 0, 1) := by decide +kernel
theorem dX7_prevotesOld_57 : decode cX7_prevotesOld 57 = .ok (.getfield 18, 3) := by decide +kernel
theorem dX7_prevotesOld_60 : decode cX7_prevotesOld 60 = .ok (.iload_n 2, 1) := by decide +kernel
theorem dX7_prevotesOld_61 : decode cX7_prevotesOld 61 = .ok (.aload_n 1, 1) := by decide +kernel
theorem dX7_prevotesOld_62 : decode cX7_prevotesOld 62 = .ok (.invokevirtual 176, 3) := by decide +kernel
theorem dX7_prevotesOld_65 : decode cX7_prevotesOld 65 = .ok (.aload_n 0, 1) := by decide +kernel
theorem dX7_prevotesOld_66 : decode cX7_prevotesOld 66 = .ok (.getfield 26, 3) := by decide +kernel
theorem dX7_prevotesOld_69 : decode cX7_prevotesOld 69 = .ok (.getfield 180, 3) := by decide +kernel
theorem dX7_prevotesOld_72 : decode cX7_prevotesOld 72 = .ok (.if_icmp .ge 5, 3) := by decide +kernel
theorem dX7_prevotesOld_75 : decode cX7_prevotesOld 75 = .ok (.iconst 0, 1) := by decide +kernel
theorem dX7_prevotesOld_76 : decode cX7_prevotesOld 76 = .ok (.ireturn, 1) := by decide +kernel
theorem dX7_prevotesOld_77 : decode cX7_prevotesOld 77 = .ok (.aload_n 0, 1) := by decide +kernel
theorem dX7_prevotesOld_78 : decode cX7_prevotesOld 78 = .ok (.aload_n 0, 1) := by decide +kernel
theorem dX7_prevotesOld_79 : decode cX7_prevotesOld 79 = .ok (.getfield 213, 3) := by decide +kernel
theorem dX7_prevotesOld_82 : decode cX7_prevotesOld 82 = .ok (.invokestatic 183, 3) := by decide +kernel
theorem dX7_prevotesOld_85 : decode cX7_prevotesOld 85 = .ok (.ifCond .eq 33, 3) := by decide +kernel
theorem dX7_prevotesOld_88 : decode cX7_prevotesOld 88 = .ok (.aload_n 0, 1) := by decide +kernel
theorem dX7_prevotesOld_89 : decode cX7_prevotesOld 89 = .ok (.getfield 237, 3) := by decide +kernel
theorem dX7_prevotesOld_92 : decode cX7_prevotesOld 92 = .ok (.iload_n 2, 1) := by decide +kernel
theorem dX7_prevotesOld_93 : decode cX7_prevotesOld 93 = .ok (.if_icmp .le 21, 3) := by decide +kernel
theorem dX7_prevotesOld_96 : decode cX7_prevotesOld 96 = .ok (.aload_n 0, 1) := by decide +kernel
theorem dX7_prevotesOld_97 : decode cX7_prevotesOld 97 = .ok (.getfield 223, 3) := by decide +kernel
theorem dX7_prevotesOld_100 : decode cX7_prevotesOld 100 = .ok (.ifnull 18, 3) := by decide +kernel
theorem dX7_prevotesOld_103 : decode cX7_prevotesOld 103 = .ok (.aload_n 0, 1) := by decide +kernel
theorem dX7_prevotesOld_104 : decode cX7_prevotesOld 104 = .ok (.getfield 223, 3) := by decide +kernel
theorem dX7_prevotesOld_107 : decode cX7_prevotesOld 107 = .ok (.aload_n 1, 1) := by decide +kernel
theorem dX7_prevotesOld_108 : decode cX7_prevotesOld 108 = .ok (.invokevirtual 227, 3) := by decide +kernel
theorem dX7_prevotesOld_111 : decode cX7_prevotesOld 111 = .ok (.ifCond .eq 7, 3) := by decide +kernel
theorem dX7_prevotesOld_114 : decode cX7_prevotesOld 114 = .ok (.iconst 1, 1) := by decide +kernel
theorem dX7_prevotesOld_115 : decode cX7_prevotesOld 115 = .ok (.goto 4, 3) := by decide +kernel
theorem dX7_prevotesOld_118 : decode cX7_prevotesOld 118 = .ok (.iconst 0, 1) := by decide +kernel
theorem dX7_prevotesOld_119 : decode cX7_prevotesOld 119 = .ok (.istore_n 3, 1) := by decide +kernel
theorem dX7_prevotesOld_120 : decode cX7_prevotesOld 120 = .ok (.aload_n 0, 1) := by decide +kernel
theorem dX7_prevotesOld_121 : decode cX7_prevotesOld 121 = .ok (.aload_n 0, 1) := by decide +kernel
theorem dX7_prevotesOld_122 : decode cX7_prevotesOld 122 = .ok (.iconst 2, 1) := by decide +kernel
theorem dX7_prevotesOld_123 : decode cX7_prevotesOld 123 = .ok (.iload_n 3, 1) := by decide +kernel
theorem dX7_prevotesOld_124 : decode cX7_prevotesOld 124 = .ok (.ifCond .eq 7, 3) := by decide +kernel
theorem dX7_prevotesOld_127 : decode cX7_prevotesOld 127 = .ok (.aload_n 1, 1) := by decide +kernel
theorem dX7_prevotesOld_128 : decode cX7_prevotesOld 128 = .ok (.goto 4, 3) := by decide +kernel
theorem dX7_prevotesOld_131 : decode cX7_prevotesOld 131 = .ok (.aconst_null, 1) := by decide +kernel
theorem dX7_prevotesOld_132 : decode cX7_prevotesOld 132 = .ok (.invokevirtual 230, 3) := by decide +kernel
theorem dX7_prevotesOld_135 : decode cX7_prevotesOld 135 = .ok (.iconst 1, 1) := by decide +kernel
theorem dX7_prevotesOld_136 : decode cX7_prevotesOld 136 = .ok (.invokestatic 234, 3) := by decide +kernel
theorem dX7_prevotesOld_139 : decode cX7_prevotesOld 139 = .ok (.iconst 1, 1) := by decide +kernel
theorem dX7_prevotesOld_140 : decode cX7_prevotesOld 140 = .ok (.ireturn, 1) := by decide +kernel
theorem dX7_locks_0 : decode cX7_locks 0 = .ok (.aload_n 0, 1) := by decide +kernel
theorem dX7_locks_1 : decode cX7_locks 1 = .ok (.getfield 220, 3) := by decide +kernel
theorem dX7_locks_4 : decode cX7_locks 4 = .ok (.ifCond .eq 12, 3) := by decide +kernel
theorem dX7_locks_7 : decode cX7_locks 7 = .ok (.aload_n 0, 1) := by decide +kernel
theorem dX7_locks_8 : decode cX7_locks 8 = .ok (.getfield 240, 3) := by decide +kernel
theorem dX7_locks_11 : decode cX7_locks 11 = .ok (.iconst 1, 1) := by decide +kernel
theorem dX7_locks_12 : decode cX7_locks 12 = .ok (.iand, 1) := by decide +kernel
theorem dX7_locks_13 : decode cX7_locks 13 = .ok (.ifCond .eq 5, 3) := by decide +kernel
theorem dX7_locks_16 : decode cX7_locks 16 = .ok (.iconst 0, 1) := by decide +kernel
theorem dX7_locks_17 : decode cX7_locks 17 = .ok (.ireturn, 1) := by decide +kernel
theorem dX7_locks_18 : decode cX7_locks 18 = .ok (.aload_n 0, 1) := by decide +kernel
theorem dX7_locks_19 : decode cX7_locks 19 = .ok (.getfield 80, 3) := by decide +kernel
theorem dX7_locks_22 : decode cX7_locks 22 = .ok (.aload_n 0, 1) := by decide +kernel
theorem dX7_locks_23 : decode cX7_locks 23 = .ok (.getfield 18, 3) := by decide +kernel
theorem dX7_locks_26 : decode cX7_locks 26 = .ok (.aload_n 0, 1) := by decide +kernel
theorem dX7_locks_27 : decode cX7_locks 27 = .ok (.getfield 213, 3) := by decide +kernel
theorem dX7_locks_30 : decode cX7_locks 30 = .ok (.invokevirtual 172, 3) := by decide +kernel
theorem dX7_locks_33 : decode cX7_locks 33 = .ok (.astore_n 1, 1) := by decide +kernel
theorem dX7_locks_34 : decode cX7_locks 34 = .ok (.aload_n 1, 1) := by decide +kernel
theorem dX7_locks_35 : decode cX7_locks 35 = .ok (.ifnull 41, 3) := by decide +kernel
theorem dX7_locks_38 : decode cX7_locks 38 = .ok (.aload_n 0, 1) := by decide +kernel
theorem dX7_locks_39 : decode cX7_locks 39 = .ok (.getfield 80, 3) := by decide +kernel
theorem dX7_locks_42 : decode cX7_locks 42 = .ok (.iconst 2, 1) := by decide +kernel
theorem dX7_locks_43 : decode cX7_locks 43 = .ok (.aload_n 0, 1) := by decide +kernel
theorem dX7_locks_44 : decode cX7_locks 44 = .ok (.getfield 18, 3) := by decide +kernel
theorem dX7_locks_47 : decode cX7_locks 47 = .ok (.aload_n 0, 1) := by decide +kernel
theorem dX7_locks_48 : decode cX7_locks 48 = .ok (.getfield 213, 3) := by decide +kernel
theorem dX7_locks_51 : decode cX7_locks 51 = .ok (.aload_n 1, 1) := by decide +kernel
theorem dX7_locks_52 : decode cX7_locks 52 = .ok (.invokevirtual 176, 3) := by decide +kernel
theorem dX7_locks_55 : decode cX7_locks 55 = .ok (.aload_n 0, 1) := by decide +kernel
theorem dX7_locks_56 : decode cX7_locks 56 = .ok (.getfield 26, 3) := by decide +kernel
theorem dX7_locks_59 : decode cX7_locks 59 = .ok (.getfield 180, 3) := by decide +kernel
theorem dX7_locks_62 : decode cX7_locks 62 = .ok (.if_icmp .lt 14, 3) := by decide +kernel
theorem dX7_locks_65 : decode cX7_locks 65 = .ok (.aload_n 0, 1) := by decide +kernel
theorem dX7_locks_66 : decode cX7_locks 66 = .ok (.aload_n 0, 1) := by decide +kernel
theorem dX7_locks_67 : decode cX7_locks 67 = .ok (.getfield 213, 3) := by decide +kernel
theorem dX7_locks_70 : decode cX7_locks 70 = .ok (.invokestatic 183, 3) := by decide +kernel
theorem dX7_locks_73 : decode cX7_locks 73 = .ok (.ifCond .ne 5, 3) := by decide +kernel
theorem dX7_locks_76 : decode cX7_locks 76 = .ok (.iconst 0, 1) := by decide +kernel
theorem dX7_locks_77 : decode cX7_locks 77 = .ok (.ireturn, 1) := by decide +kernel
theorem dX7_locks_78 : decode cX7_locks 78 = .ok (.aload_n 0, 1) := by decide +kernel
theorem dX7_locks_79 : decode cX7_locks 79 = .ok (.dup, 1) := by decide +kernel
theorem dX7_locks_80 : decode cX7_locks 80 = .ok (.getfield 240, 3) := by decide +kernel
theorem dX7_locks_83 : decode cX7_locks 83 = .ok (.iconst 1, 1) := by decide +kernel
theorem dX7_locks_84 : decode cX7_locks 84 = .ok (.ior, 1) := by decide +kernel
theorem dX7_locks_85 : decode cX7_locks 85 = .ok (.putfield 240, 3) := by decide +kernel
theorem dX7_locks_88 : decode cX7_locks 88 = .ok (.aload_n 0, 1) := by decide +kernel
theorem dX7_locks_89 : decode cX7_locks 89 = .ok (.getfield 220, 3) := by decide +kernel
theorem dX7_locks_92 : decode cX7_locks 92 = .ok (.iconst 1, 1) := by decide +kernel
theorem dX7_locks_93 : decode cX7_locks 93 = .ok (.if_icmp .ne 74, 3) := by decide +kernel
theorem dX7_locks_96 : decode cX7_locks 96 = .ok (.aload_n 0, 1) := by decide +kernel
theorem dX7_locks_97 : decode cX7_locks 97 = .ok (.getfield 237, 3) := by decide +kernel
theorem dX7_locks_100 : decode cX7_locks 100 = .ok (.aload_n 0, 1) := by decide +kernel
theorem dX7_locks_101 : decode cX7_locks 101 = .ok (.getfield 213, 3) := by decide +kernel
theorem dX7_locks_104 : decode cX7_locks 104 = .ok (.if_icmp .eq 49, 3) := by decide +kernel
theorem dX7_locks_107 : decode cX7_locks 107 = .ok (.aload_n 0, 1) := by decide +kernel
theorem dX7_locks_108 : decode cX7_locks 108 = .ok (.getfield 110, 3) := by decide +kernel
theorem dX7_locks_111 : decode cX7_locks 111 = .ok (.iconst 4, 1) := by decide +kernel
theorem dX7_locks_112 : decode cX7_locks 112 = .ok (.aload_n 0, 1) := by decide +kernel
theorem dX7_locks_113 : decode cX7_locks 113 = .ok (.getfield 18, 3) := by decide +kernel
theorem dX7_locks_116 : decode cX7_locks 116 = .ok (.aload_n 0, 1) := by decide +kernel
theorem dX7_locks_117 : decode cX7_locks 117 = .ok (.getfield 213, 3) := by decide +kernel
theorem dX7_locks_120 : decode cX7_locks 120 = .ok (.aload_n 1, 1) := by decide +kernel
theorem dX7_locks_121 : decode cX7_locks 121 = .ok (.bipush 6, 2) := by decide +kernel
theorem dX7_locks_123 : decode cX7_locks 123 = .ok (.invokevirtual 243, 3) := by decide +kernel
theorem dX7_locks_126 : decode cX7_locks 126 = .ok (.ifCond .ne 9, 3) := by decide +kernel
theorem dX7_locks_129 : decode cX7_locks 129 = .ok (.aload_n 0, 1) := by decide +kernel
theorem dX7_locks_130 : decode cX7_locks 130 = .ok (.invokevirtual 120, 3) := by decide +kernel
theorem dX7_locks_133 : decode cX7_locks 133 = .ok (.iconst 1, 1) := by decide +kernel
theorem dX7_locks_134 : decode cX7_locks 134 = .ok (.ireturn, 1) := by decide +kernel
theorem dX7_locks_135 : decode cX7_locks 135 = .ok (.aload_n 0, 1) := by decide +kernel
theorem dX7_locks_136 : decode cX7_locks 136 = .ok (.aload_n 1, 1) := by decide +kernel
theorem dX7_locks_137 : decode cX7_locks 137 = .ok (.aload_n 0, 1) := by decide +kernel
theorem dX7_locks_138 : decode cX7_locks 138 = .ok (.getfield 213, 3) := by decide +kernel
theorem dX7_locks_141 : decode cX7_locks 141 = .ok (.invokevirtual 247, 3) := by decide +kernel
theorem dX7_locks_144 : decode cX7_locks 144 = .ok (.aload_n 0, 1) := by decide +kernel
theorem dX7_locks_145 : decode cX7_locks 145 = .ok (.aload_n 1, 1) := by decide +kernel
theorem dX7_locks_146 : decode cX7_locks 146 = .ok (.aload_n 0, 1) := by decide +kernel
theorem dX7_locks_147 : decode cX7_locks 147 = .ok (.getfield 213, 3) := by decide +kernel
theorem dX7_locks_150 : decode cX7_locks 150 = .ok (.invokevirtual 251, 3) := by decide +kernel
theorem dX7_locks_153 : decode cX7_locks 153 = .ok (.aload_n 0, 1) := by decide +kernel
theorem dX7_locks_154 : decode cX7_locks 154 = .ok (.aload_n 0, 1) := by decide +kernel
theorem dX7_locks_155 : decode cX7_locks 155 = .ok (.iconst 3, 1) := by decide +kernel
theorem dX7_locks_156 : decode cX7_locks 156 = .ok (.aload_n 1, 1) := by decide +kernel
theorem dX7_locks_157 : decode cX7_locks 157 = .ok (.invokevirtual 230, 3) := by decide +kernel
theorem dX7_locks_160 : decode cX7_locks 160 = .ok (.iconst 2, 1) := by decide +kernel
theorem dX7_locks_161 : decode cX7_locks 161 = .ok (.invokestatic 234, 3) := by decide +kernel
theorem dX7_locks_164 : decode cX7_locks 164 = .ok (.goto 51, 3) := by decide +kernel
theorem dX7_locks_167 : decode cX7_locks 167 = .ok (.aload_n 0, 1) := by decide +kernel
theorem dX7_locks_168 : decode cX7_locks 168 = .ok (.getfield 254, 3) := by decide +kernel
theorem dX7_locks_171 : decode cX7_locks 171 = .ok (.aload_n 0, 1) := by decide +kernel
theorem dX7_locks_172 : decode cX7_locks 172 = .ok (.getfield 213, 3) := by decide +kernel
theorem dX7_locks_175 : decode cX7_locks 175 = .ok (.if_icmp .eq 40, 3) := by decide +kernel
theorem dX7_locks_178 : decode cX7_locks 178 = .ok (.aload_n 0, 1) := by decide +kernel
theorem dX7_locks_179 : decode cX7_locks 179 = .ok (.getfield 110, 3) := by decide +kernel
theorem dX7_locks_182 : decode cX7_locks 182 = .ok (.iconst 5, 1) := by decide +kernel
theorem dX7_locks_183 : decode cX7_locks 183 = .ok (.aload_n 0, 1) := by decide +kernel
theorem dX7_locks_184 : decode cX7_locks 184 = .ok (.getfield 18, 3) := by decide +kernel
theorem dX7_locks_187 : decode cX7_locks 187 = .ok (.aload_n 0, 1) := by decide +kernel
theorem dX7_locks_188 : decode cX7_locks 188 = .ok (.getfield 213, 3) := by decide +kernel
theorem dX7_locks_191 : decode cX7_locks 191 = .ok (.aload_n 1, 1) := by decide +kernel
theorem dX7_locks_192 : decode cX7_locks 192 = .ok (.bipush 6, 2) := by decide +kernel
theorem dX7_locks_194 : decode cX7_locks 194 = .ok (.invokevirtual 243, 3) := by decide +kernel
theorem dX7_locks_197 : decode cX7_locks 197 = .ok (.ifCond .ne 9, 3) := by decide +kernel
theorem dX7_locks_200 : decode cX7_locks 200 = .ok (.aload_n 0, 1) := by decide +kernel
theorem dX7_locks_201 : decode cX7_locks 201 = .ok (.invokevirtual 120, 3) := by decide +kernel
theorem dX7_locks_204 : decode cX7_locks 204 = .ok (.iconst 1, 1) := by decide +kernel
theorem dX7_locks_205 : decode cX7_locks 205 = .ok (.ireturn, 1) := by decide +kernel
theorem dX7_locks_206 : decode cX7_locks 206 = .ok (.aload_n 0, 1) := by decide +kernel
theorem dX7_locks_207 : decode cX7_locks 207 = .ok (.aload_n 1, 1) := by decide +kernel
theorem dX7_locks_208 : decode cX7_locks 208 = .ok (.aload_n 0, 1) := by decide +kernel
theorem dX7_locks_209 : decode cX7_locks 209 = .ok (.getfield 213, 3) := by decide +kernel
theorem dX7_locks_212 : decode cX7_locks 212 = .ok (.invokevirtual 251, 3) := by decide +kernel
theorem dX7_locks_215 : decode cX7_locks 215 = .ok (.iconst 1, 1) := by decide +kernel
theorem dX7_locks_216 : decode cX7_locks 216 = .ok (.ireturn, 1) := by decide +kernel
theorem dX7_precommitsNone_0 : decode cX7_precommitsNone 0 = .ok (.aload_n 0, 1) := by decide +kernel
theorem dX7_precommitsNone_1 : decode cX7_precommitsNone 1 = .ok (.getfield 220, 3) := by decide +kernel
theorem dX7_precommitsNone_4 : decode cX7_precommitsNone 4 = .ok (.iconst 1, 1) := by decide +kernel
theorem dX7_precommitsNone_5 : decode cX7_precommitsNone 5 = .ok (.if_icmp .ne 30, 3) := by decide +kernel
theorem dX7_precommitsNone_8 : decode cX7_precommitsNone 8 = .ok (.aload_n 0, 1) := by decide +kernel
theorem dX7_precommitsNone_9 : decode cX7_precommitsNone 9 = .ok (.getfield 80, 3) := by decide +kernel
theorem dX7_precommitsNone_12 : decode cX7_precommitsNone 12 = .ok (.iconst 2, 1) := by decide +kernel
theorem dX7_precommitsNone_13 : decode cX7_precommitsNone 13 = .ok (.aload_n 0, 1) := by decide +kernel
theorem dX7_precommitsNone_14 : decode cX7_precommitsNone 14 = .ok (.getfield 18, 3) := by decide +kernel
theorem dX7_precommitsNone_17 : decode cX7_precommitsNone 17 = .ok (.aload_n 0, 1) := by decide +kernel
theorem dX7_precommitsNone_18 : decode cX7_precommitsNone 18 = .ok (.getfield 213, 3) := by decide +kernel
theorem dX7_precommitsNone_21 : decode cX7_precommitsNone 21 = .ok (.aconst_null, 1) := by decide +kernel
theorem dX7_precommitsNone_22 : decode cX7_precommitsNone 22 = .ok (.invokevirtual 176, 3) := by decide +kernel
theorem dX7_precommitsNone_25 : decode cX7_precommitsNone 25 = .ok (.aload_n 0, 1) := by decide +kernel
theorem dX7_precommitsNone_26 : decode cX7_precommitsNone 26 = .ok (.getfield 26, 3) := by decide +kernel
theorem dX7_precommitsNone_29 : decode cX7_precommitsNone 29 = .ok (.getfield 180, 3) := by decide +kernel
theorem dX7_precommitsNone_32 : decode cX7_precommitsNone 32 = .ok (.if_icmp .ge 5, 3) := by decide +kernel
theorem dX7_precommitsNone_35 : decode cX7_precommitsNone 35 = .ok (.iconst 0, 1) := by decide +kernel
theorem dX7_precommitsNone_36 : decode cX7_precommitsNone 36 = .ok (.ireturn, 1) := by decide +kernel
theorem dX7_precommitsNone_37 : decode cX7_precommitsNone 37 = .ok (.aload_n 0, 1) := by decide +kernel
theorem dX7_precommitsNone_38 : decode cX7_precommitsNone 38 = .ok (.aload_n 0, 1) := by decide +kernel
theorem dX7_precommitsNone_39 : decode cX7_precommitsNone 39 = .ok (.iconst 3, 1) := by decide +kernel
theorem dX7_precommitsNone_40 : decode cX7_precommitsNone 40 = .ok (.aconst_null, 1) := by decide +kernel
theorem dX7_precommitsNone_41 : decode cX7_precommitsNone 41 = .ok (.invokevirtual 230, 3) := by decide +kernel
theorem dX7_precommitsNone_44 : decode cX7_precommitsNone 44 = .ok (.iconst 2, 1) := by decide +kernel
theorem dX7_precommitsNone_45 : decode cX7_precommitsNone 45 = .ok (.invokestatic 234, 3) := by decide +kernel
theorem dX7_precommitsNone_48 : decode cX7_precommitsNone 48 = .ok (.iconst 1, 1) := by decide +kernel
theorem dX7_precommitsNone_49 : decode cX7_precommitsNone 49 = .ok (.ireturn, 1) := by decide +kernel
theorem dX7_awaitsPrevotes_0 : decode cX7_awaitsPrevotes 0 = .ok (.aload_n 0, 1) := by decide +kernel
theorem dX7_awaitsPrevotes_1 : decode cX7_awaitsPrevotes 1 = .ok (.getfield 220, 3) := by decide +kernel
theorem dX7_awaitsPrevotes_4 : decode cX7_awaitsPrevotes 4 = .ok (.iconst 1, 1) := by decide +kernel
theorem dX7_awaitsPrevotes_5 : decode cX7_awaitsPrevotes 5 = .ok (.if_icmp .ne 12, 3) := by decide +kernel
theorem dX7_awaitsPrevotes_8 : decode cX7_awaitsPrevotes 8 = .ok (.aload_n 0, 1) := by decide +kernel
theorem dX7_awaitsPrevotes_9 : decode cX7_awaitsPrevotes 9 = .ok (.getfield 240, 3) := by decide +kernel
theorem dX7_awaitsPrevotes_12 : decode cX7_awaitsPrevotes 12 = .ok (.iconst 2, 1) := by decide +kernel
theorem dX7_awaitsPrevotes_13 : decode cX7_awaitsPrevotes 13 = .ok (.iand, 1) := by decide +kernel
theorem dX7_awaitsPrevotes_14 : decode cX7_awaitsPrevotes 14 = .ok (.ifCond .eq 5, 3) := by decide +kernel
theorem dX7_awaitsPrevotes_17 : decode cX7_awaitsPrevotes 17 = .ok (.iconst 0, 1) := by decide +kernel
theorem dX7_awaitsPrevotes_18 : decode cX7_awaitsPrevotes 18 = .ok (.ireturn, 1) := by decide +kernel
theorem dX7_awaitsPrevotes_19 : decode cX7_awaitsPrevotes 19 = .ok (.aload_n 0, 1) := by decide +kernel
theorem dX7_awaitsPrevotes_20 : decode cX7_awaitsPrevotes 20 = .ok (.getfield 80, 3) := by decide +kernel
theorem dX7_awaitsPrevotes_23 : decode cX7_awaitsPrevotes 23 = .ok (.iconst 2, 1) := by decide +kernel
theorem dX7_awaitsPrevotes_24 : decode cX7_awaitsPrevotes 24 = .ok (.aload_n 0, 1) := by decide +kernel
theorem dX7_awaitsPrevotes_25 : decode cX7_awaitsPrevotes 25 = .ok (.getfield 18, 3) := by decide +kernel
theorem dX7_awaitsPrevotes_28 : decode cX7_awaitsPrevotes 28 = .ok (.aload_n 0, 1) := by decide +kernel
theorem dX7_awaitsPrevotes_29 : decode cX7_awaitsPrevotes 29 = .ok (.getfield 213, 3) := by decide +kernel
theorem dX7_awaitsPrevotes_32 : decode cX7_awaitsPrevotes 32 = .ok (.invokevirtual 257, 3) := by decide +kernel
theorem dX7_awaitsPrevotes_35 : decode cX7_awaitsPrevotes 35 = .ok (.aload_n 0, 1) := by decide +kernel
theorem dX7_awaitsPrevotes_36 : decode cX7_awaitsPrevotes 36 = .ok (.getfield 26, 3) := by decide +kernel
theorem dX7_awaitsPrevotes_39 : decode cX7_awaitsPrevotes 39 = .ok (.getfield 180, 3) := by decide +kernel
theorem dX7_awaitsPrevotes_42 : decode cX7_awaitsPrevotes 42 = .ok (.if_icmp .ge 5, 3) := by decide +kernel
theorem dX7_awaitsPrevotes_45 : decode cX7_awaitsPrevotes 45 = .ok (.iconst 0, 1) := by decide +kernel
theorem dX7_awaitsPrevotes_46 : decode cX7_awaitsPrevotes 46 = .ok (.ireturn, 1) := by decide +kernel
theorem dX7_awaitsPrevotes_47 : decode cX7_awaitsPrevotes 47 = .ok (.aload_n 0, 1) := by decide +kernel
theorem dX7_awaitsPrevotes_48 : decode cX7_awaitsPrevotes 48 = .ok (.dup, 1) := by decide +kernel
theorem dX7_awaitsPrevotes_49 : decode cX7_awaitsPrevotes 49 = .ok (.getfield 240, 3) := by decide +kernel
theorem dX7_awaitsPrevotes_52 : decode cX7_awaitsPrevotes 52 = .ok (.iconst 2, 1) := by decide +kernel
theorem dX7_awaitsPrevotes_53 : decode cX7_awaitsPrevotes 53 = .ok (.ior, 1) := by decide +kernel
theorem dX7_awaitsPrevotes_54 : decode cX7_awaitsPrevotes 54 = .ok (.putfield 240, 3) := by decide +kernel
theorem dX7_awaitsPrevotes_57 : decode cX7_awaitsPrevotes 57 = .ok (.aload_n 0, 1) := by decide +kernel
theorem dX7_awaitsPrevotes_58 : decode cX7_awaitsPrevotes 58 = .ok (.iconst 1, 1) := by decide +kernel
theorem dX7_awaitsPrevotes_59 : decode cX7_awaitsPrevotes 59 = .ok (.invokevirtual 261, 3) := by decide +kernel
theorem dX7_awaitsPrevotes_62 : decode cX7_awaitsPrevotes 62 = .ok (.iconst 1, 1) := by decide +kernel
theorem dX7_awaitsPrevotes_63 : decode cX7_awaitsPrevotes 63 = .ok (.ireturn, 1) := by decide +kernel
theorem dX7_awaitsPrecommits_0 : decode cX7_awaitsPrecommits 0 = .ok (.aload_n 0, 1) := by decide +kernel
theorem dX7_awaitsPrecommits_1 : decode cX7_awaitsPrecommits 1 = .ok (.getfield 240, 3) := by decide +kernel
theorem dX7_awaitsPrecommits_4 : decode cX7_awaitsPrecommits 4 = .ok (.iconst 4, 1) := by decide +kernel
theorem dX7_awaitsPrecommits_5 : decode cX7_awaitsPrecommits 5 = .ok (.iand, 1) := by decide +kernel
theorem dX7_awaitsPrecommits_6 : decode cX7_awaitsPrecommits 6 = .ok (.ifCond .eq 5, 3) := by decide +kernel
theorem dX7_awaitsPrecommits_9 : decode cX7_awaitsPrecommits 9 = .ok (.iconst 0, 1) := by decide +kernel
theorem dX7_awaitsPrecommits_10 : decode cX7_awaitsPrecommits 10 = .ok (.ireturn, 1) := by decide +kernel
theorem dX7_awaitsPrecommits_11 : decode cX7_awaitsPrecommits 11 = .ok (.aload_n 0, 1) := by decide +kernel
theorem dX7_awaitsPrecommits_12 : decode cX7_awaitsPrecommits 12 = .ok (.getfield 80, 3) := by decide +kernel
theorem dX7_awaitsPrecommits_15 : decode cX7_awaitsPrecommits 15 = .ok (.iconst 3, 1) := by decide +kernel
theorem dX7_awaitsPrecommits_16 : decode cX7_awaitsPrecommits 16 = .ok (.aload_n 0, 1) := by decide +kernel
theorem dX7_awaitsPrecommits_17 : decode cX7_awaitsPrecommits 17 = .ok (.getfield 18, 3) := by decide +kernel
theorem dX7_awaitsPrecommits_20 : decode cX7_awaitsPrecommits 20 = .ok (.aload_n 0, 1) := by decide +kernel
theorem dX7_awaitsPrecommits_21 : decode cX7_awaitsPrecommits 21 = .ok (.getfield 213, 3) := by decide +kernel
theorem dX7_awaitsPrecommits_24 : decode cX7_awaitsPrecommits 24 = .ok (.invokevirtual 257, 3) := by decide +kernel
theorem dX7_awaitsPrecommits_27 : decode cX7_awaitsPrecommits 27 = .ok (.aload_n 0, 1) := by decide +kernel
theorem dX7_awaitsPrecommits_28 : decode cX7_awaitsPrecommits 28 = .ok (.getfield 26, 3) := by decide +kernel
theorem dX7_awaitsPrecommits_31 : decode cX7_awaitsPrecommits 31 = .ok (.getfield 180, 3) := by decide +kernel
theorem dX7_awaitsPrecommits_34 : decode cX7_awaitsPrecommits 34 = .ok (.if_icmp .ge 5, 3) := by decide +kernel
theorem dX7_awaitsPrecommits_37 : decode cX7_awaitsPrecommits 37 = .ok (.iconst 0, 1) := by decide +kernel
theorem dX7_awaitsPrecommits_38 : decode cX7_awaitsPrecommits 38 = .ok (.ireturn, 1) := by decide +kernel
theorem dX7_awaitsPrecommits_39 : decode cX7_awaitsPrecommits 39 = .ok (.aload_n 0, 1) := by decide +kernel
theorem dX7_awaitsPrecommits_40 : decode cX7_awaitsPrecommits 40 = .ok (.dup, 1) := by decide +kernel
theorem dX7_awaitsPrecommits_41 : decode cX7_awaitsPrecommits 41 = .ok (.getfield 240, 3) := by decide +kernel
theorem dX7_awaitsPrecommits_44 : decode cX7_awaitsPrecommits 44 = .ok (.iconst 4, 1) := by decide +kernel
theorem dX7_awaitsPrecommits_45 : decode cX7_awaitsPrecommits 45 = .ok (.ior, 1) := by decide +kernel
theorem dX7_awaitsPrecommits_46 : decode cX7_awaitsPrecommits 46 = .ok (.putfield 240, 3) := by decide +kernel
theorem dX7_awaitsPrecommits_49 : decode cX7_awaitsPrecommits 49 = .ok (.aload_n 0, 1) := by decide +kernel
theorem dX7_awaitsPrecommits_50 : decode cX7_awaitsPrecommits 50 = .ok (.iconst 2, 1) := by decide +kernel
theorem dX7_awaitsPrecommits_51 : decode cX7_awaitsPrecommits 51 = .ok (.invokevirtual 261, 3) := by decide +kernel
theorem dX7_awaitsPrecommits_54 : decode cX7_awaitsPrecommits 54 = .ok (.iconst 1, 1) := by decide +kernel
theorem dX7_awaitsPrecommits_55 : decode cX7_awaitsPrecommits 55 = .ok (.ireturn, 1) := by decide +kernel
theorem dX7_ring_0 : decode cX7_ring 0 = .ok (.iload_n 1, 1) := by decide +kernel
theorem dX7_ring_1 : decode cX7_ring 1 = .ok (.ifCond .ne 24, 3) := by decide +kernel
theorem dX7_ring_4 : decode cX7_ring 4 = .ok (.aload_n 0, 1) := by decide +kernel
theorem dX7_ring_5 : decode cX7_ring 5 = .ok (.getfield 220, 3) := by decide +kernel
theorem dX7_ring_8 : decode cX7_ring 8 = .ok (.ifCond .ne 17, 3) := by decide +kernel
theorem dX7_ring_11 : decode cX7_ring 11 = .ok (.aload_n 0, 1) := by decide +kernel
theorem dX7_ring_12 : decode cX7_ring 12 = .ok (.aload_n 0, 1) := by decide +kernel
theorem dX7_ring_13 : decode cX7_ring 13 = .ok (.iconst 2, 1) := by decide +kernel
theorem dX7_ring_14 : decode cX7_ring 14 = .ok (.aconst_null, 1) := by decide +kernel
theorem dX7_ring_15 : decode cX7_ring 15 = .ok (.invokevirtual 230, 3) := by decide +kernel
theorem dX7_ring_18 : decode cX7_ring 18 = .ok (.iconst 1, 1) := by decide +kernel
theorem dX7_ring_19 : decode cX7_ring 19 = .ok (.invokestatic 234, 3) := by decide +kernel
theorem dX7_ring_22 : decode cX7_ring 22 = .ok (.goto 54, 3) := by decide +kernel
theorem dX7_ring_25 : decode cX7_ring 25 = .ok (.iload_n 1, 1) := by decide +kernel
theorem dX7_ring_26 : decode cX7_ring 26 = .ok (.iconst 1, 1) := by decide +kernel
theorem dX7_ring_27 : decode cX7_ring 27 = .ok (.if_icmp .ne 25, 3) := by decide +kernel
theorem dX7_ring_30 : decode cX7_ring 30 = .ok (.aload_n 0, 1) := by decide +kernel
theorem dX7_ring_31 : decode cX7_ring 31 = .ok (.getfield 220, 3) := by decide +kernel
theorem dX7_ring_34 : decode cX7_ring 34 = .ok (.iconst 1, 1) := by decide +kernel
theorem dX7_ring_35 : decode cX7_ring 35 = .ok (.if_icmp .ne 17, 3) := by decide +kernel
theorem dX7_ring_38 : decode cX7_ring 38 = .ok (.aload_n 0, 1) := by decide +kernel
theorem dX7_ring_39 : decode cX7_ring 39 = .ok (.aload_n 0, 1) := by decide +kernel
theorem dX7_ring_40 : decode cX7_ring 40 = .ok (.iconst 3, 1) := by decide +kernel
theorem dX7_ring_41 : decode cX7_ring 41 = .ok (.aconst_null, 1) := by decide +kernel
theorem dX7_ring_42 : decode cX7_ring 42 = .ok (.invokevirtual 230, 3) := by decide +kernel
theorem dX7_ring_45 : decode cX7_ring 45 = .ok (.iconst 2, 1) := by decide +kernel
theorem dX7_ring_46 : decode cX7_ring 46 = .ok (.invokestatic 234, 3) := by decide +kernel
theorem dX7_ring_49 : decode cX7_ring 49 = .ok (.goto 27, 3) := by decide +kernel
theorem dX7_ring_52 : decode cX7_ring 52 = .ok (.iload_n 1, 1) := by decide +kernel
theorem dX7_ring_53 : decode cX7_ring 53 = .ok (.iconst 2, 1) := by decide +kernel
theorem dX7_ring_54 : decode cX7_ring 54 = .ok (.if_icmp .ne 22, 3) := by decide +kernel
theorem dX7_ring_57 : decode cX7_ring 57 = .ok (.aload_n 0, 1) := by decide +kernel
theorem dX7_ring_58 : decode cX7_ring 58 = .ok (.getfield 213, 3) := by decide +kernel
theorem dX7_ring_61 : decode cX7_ring 61 = .ok (.bipush 15, 2) := by decide +kernel
theorem dX7_ring_63 : decode cX7_ring 63 = .ok (.if_icmp .ge 13, 3) := by decide +kernel
theorem dX7_ring_66 : decode cX7_ring 66 = .ok (.aload_n 0, 1) := by decide +kernel
theorem dX7_ring_67 : decode cX7_ring 67 = .ok (.aload_n 0, 1) := by decide +kernel
theorem dX7_ring_68 : decode cX7_ring 68 = .ok (.getfield 213, 3) := by decide +kernel
theorem dX7_ring_71 : decode cX7_ring 71 = .ok (.iconst 1, 1) := by decide +kernel
theorem dX7_ring_72 : decode cX7_ring 72 = .ok (.iadd, 1) := by decide +kernel
theorem dX7_ring_73 : decode cX7_ring 73 = .ok (.putfield 45, 3) := by decide +kernel
theorem dX7_ring_76 : decode cX7_ring 76 = .ok (.return_, 1) := by decide +kernel
theorem dX7_utter_0 : decode cX7_utter 0 = .ok (.aload_n 0, 1) := by decide +kernel
theorem dX7_utter_1 : decode cX7_utter 1 = .ok (.getfield 110, 3) := by decide +kernel
theorem dX7_utter_4 : decode cX7_utter 4 = .ok (.iconst 3, 1) := by decide +kernel
theorem dX7_utter_5 : decode cX7_utter 5 = .ok (.aload_n 0, 1) := by decide +kernel
theorem dX7_utter_6 : decode cX7_utter 6 = .ok (.getfield 18, 3) := by decide +kernel
theorem dX7_utter_9 : decode cX7_utter 9 = .ok (.iload_n 2, 1) := by decide +kernel
theorem dX7_utter_10 : decode cX7_utter 10 = .ok (.aload_n 1, 1) := by decide +kernel
theorem dX7_utter_11 : decode cX7_utter 11 = .ok (.iconst 0, 1) := by decide +kernel
theorem dX7_utter_12 : decode cX7_utter 12 = .ok (.invokevirtual 243, 3) := by decide +kernel
theorem dX7_utter_15 : decode cX7_utter 15 = .ok (.ifCond .eq 49, 3) := by decide +kernel
theorem dX7_utter_18 : decode cX7_utter 18 = .ok (.aload_n 0, 1) := by decide +kernel
theorem dX7_utter_19 : decode cX7_utter 19 = .ok (.dup, 1) := by decide +kernel
theorem dX7_utter_20 : decode cX7_utter 20 = .ok (.getfield 264, 3) := by decide +kernel
theorem dX7_utter_23 : decode cX7_utter 23 = .ok (.iconst 1, 1) := by decide +kernel
theorem dX7_utter_24 : decode cX7_utter 24 = .ok (.iadd, 1) := by decide +kernel
theorem dX7_utter_25 : decode cX7_utter 25 = .ok (.putfield 264, 3) := by decide +kernel
theorem dX7_utter_28 : decode cX7_utter 28 = .ok (.aload_n 0, 1) := by decide +kernel
theorem dX7_utter_29 : decode cX7_utter 29 = .ok (.iload_n 2, 1) := by decide +kernel
theorem dX7_utter_30 : decode cX7_utter 30 = .ok (.putfield 220, 3) := by decide +kernel
theorem dX7_utter_33 : decode cX7_utter 33 = .ok (.aload_n 0, 1) := by decide +kernel
theorem dX7_utter_34 : decode cX7_utter 34 = .ok (.getfield 80, 3) := by decide +kernel
theorem dX7_utter_37 : decode cX7_utter 37 = .ok (.aload_n 1, 1) := by decide +kernel
theorem dX7_utter_38 : decode cX7_utter 38 = .ok (.invokevirtual 267, 3) := by decide +kernel
theorem dX7_utter_41 : decode cX7_utter 41 = .ok (.aload_n 0, 1) := by decide +kernel
theorem dX7_utter_42 : decode cX7_utter 42 = .ok (.getfield 26, 3) := by decide +kernel
theorem dX7_utter_45 : decode cX7_utter 45 = .ok (.aload_n 0, 1) := by decide +kernel
theorem dX7_utter_46 : decode cX7_utter 46 = .ok (.getfield 271, 3) := by decide +kernel
theorem dX7_utter_49 : decode cX7_utter 49 = .ok (.aload_n 1, 1) := by decide +kernel
theorem dX7_utter_50 : decode cX7_utter 50 = .ok (.aload_n 0, 1) := by decide +kernel
theorem dX7_utter_51 : decode cX7_utter 51 = .ok (.getfield 271, 3) := by decide +kernel
theorem dX7_utter_54 : decode cX7_utter 54 = .ok (.aload_n 0, 1) := by decide +kernel
theorem dX7_utter_55 : decode cX7_utter 55 = .ok (.getfield 271, 3) := by decide +kernel
theorem dX7_utter_58 : decode cX7_utter 58 = .ok (.invokevirtual 274, 3) := by decide +kernel
theorem dX7_utter_61 : decode cX7_utter 61 = .ok (.goto 7, 3) := by decide +kernel
theorem dX7_utter_64 : decode cX7_utter 64 = .ok (.aload_n 0, 1) := by decide +kernel
theorem dX7_utter_65 : decode cX7_utter 65 = .ok (.invokevirtual 120, 3) := by decide +kernel
theorem dX7_utter_68 : decode cX7_utter 68 = .ok (.aload_n 0, 1) := by decide +kernel
theorem dX7_utter_69 : decode cX7_utter 69 = .ok (.getfield 26, 3) := by decide +kernel
theorem dX7_utter_72 : decode cX7_utter 72 = .ok (.getfield 278, 3) := by decide +kernel
theorem dX7_utter_75 : decode cX7_utter 75 = .ok (.aload_n 1, 1) := by decide +kernel
theorem dX7_utter_76 : decode cX7_utter 76 = .ok (.invokevirtual 282, 3) := by decide +kernel
theorem dX7_utter_79 : decode cX7_utter 79 = .ok (.return_, 1) := by decide +kernel
theorem dX7_begin_0 : decode cX7_begin 0 = .ok (.aload_n 0, 1) := by decide +kernel
theorem dX7_begin_1 : decode cX7_begin 1 = .ok (.getfield 45, 3) := by decide +kernel
theorem dX7_begin_4 : decode cX7_begin 4 = .ok (.istore_n 1, 1) := by decide +kernel
theorem dX7_begin_5 : decode cX7_begin 5 = .ok (.aload_n 0, 1) := by decide +kernel
theorem dX7_begin_6 : decode cX7_begin 6 = .ok (.iconst (-1), 1) := by decide +kernel
theorem dX7_begin_7 : decode cX7_begin 7 = .ok (.putfield 45, 3) := by decide +kernel
theorem dX7_begin_10 : decode cX7_begin 10 = .ok (.aload_n 0, 1) := by decide +kernel
theorem dX7_begin_11 : decode cX7_begin 11 = .ok (.getfield 110, 3) := by decide +kernel
theorem dX7_begin_14 : decode cX7_begin 14 = .ok (.iconst 2, 1) := by decide +kernel
theorem dX7_begin_15 : decode cX7_begin 15 = .ok (.aload_n 0, 1) := by decide +kernel
theorem dX7_begin_16 : decode cX7_begin 16 = .ok (.getfield 18, 3) := by decide +kernel
theorem dX7_begin_19 : decode cX7_begin 19 = .ok (.iload_n 1, 1) := by decide +kernel
theorem dX7_begin_20 : decode cX7_begin 20 = .ok (.aconst_null, 1) := by decide +kernel
theorem dX7_begin_21 : decode cX7_begin 21 = .ok (.iconst 0, 1) := by decide +kernel
theorem dX7_begin_22 : decode cX7_begin 22 = .ok (.invokevirtual 243, 3) := by decide +kernel
theorem dX7_begin_25 : decode cX7_begin 25 = .ok (.ifCond .ne 8, 3) := by decide +kernel
theorem dX7_begin_28 : decode cX7_begin 28 = .ok (.aload_n 0, 1) := by decide +kernel
theorem dX7_begin_29 : decode cX7_begin 29 = .ok (.invokevirtual 120, 3) := by decide +kernel
theorem dX7_begin_32 : decode cX7_begin 32 = .ok (.return_, 1) := by decide +kernel
theorem dX7_begin_33 : decode cX7_begin 33 = .ok (.aload_n 0, 1) := by decide +kernel
theorem dX7_begin_34 : decode cX7_begin 34 = .ok (.iload_n 1, 1) := by decide +kernel
theorem dX7_begin_35 : decode cX7_begin 35 = .ok (.putfield 213, 3) := by decide +kernel
theorem dX7_begin_38 : decode cX7_begin 38 = .ok (.aload_n 0, 1) := by decide +kernel
theorem dX7_begin_39 : decode cX7_begin 39 = .ok (.iconst 0, 1) := by decide +kernel
theorem dX7_begin_40 : decode cX7_begin 40 = .ok (.putfield 220, 3) := by decide +kernel
theorem dX7_begin_43 : decode cX7_begin 43 = .ok (.aload_n 0, 1) := by decide +kernel
theorem dX7_begin_44 : decode cX7_begin 44 = .ok (.iconst 0, 1) := by decide +kernel
theorem dX7_begin_45 : decode cX7_begin 45 = .ok (.putfield 240, 3) := by decide +kernel
theorem dX7_begin_48 : decode cX7_begin 48 = .ok (.aload_n 0, 1) := by decide +kernel
theorem dX7_begin_49 : decode cX7_begin 49 = .ok (.getfield 287, 3) := by decide +kernel
theorem dX7_begin_52 : decode cX7_begin 52 = .ok (.iconst 0, 1) := by decide +kernel
theorem dX7_begin_53 : decode cX7_begin 53 = .ok (.invokestatic 290, 3) := by decide +kernel
theorem dX7_begin_56 : decode cX7_begin 56 = .ok (.aload_n 0, 1) := by decide +kernel
theorem dX7_begin_57 : decode cX7_begin 57 = .ok (.iconst 0, 1) := by decide +kernel
theorem dX7_begin_58 : decode cX7_begin 58 = .ok (.invokevirtual 261, 3) := by decide +kernel
theorem dX7_begin_61 : decode cX7_begin 61 = .ok (.aload_n 0, 1) := by decide +kernel
theorem dX7_begin_62 : decode cX7_begin 62 = .ok (.getfield 26, 3) := by decide +kernel
theorem dX7_begin_65 : decode cX7_begin 65 = .ok (.aload_n 0, 1) := by decide +kernel
theorem dX7_begin_66 : decode cX7_begin 66 = .ok (.getfield 18, 3) := by decide +kernel
theorem dX7_begin_69 : decode cX7_begin 69 = .ok (.iload_n 1, 1) := by decide +kernel
theorem dX7_begin_70 : decode cX7_begin 70 = .ok (.invokevirtual 296, 3) := by decide +kernel
theorem dX7_begin_73 : decode cX7_begin 73 = .ok (.aload_n 0, 1) := by decide +kernel
theorem dX7_begin_74 : decode cX7_begin 74 = .ok (.getfield 271, 3) := by decide +kernel
theorem dX7_begin_77 : decode cX7_begin 77 = .ok (.if_icmp .ne 29, 3) := by decide +kernel
theorem dX7_begin_80 : decode cX7_begin 80 = .ok (.aload_n 0, 1) := by decide +kernel
theorem dX7_begin_81 : decode cX7_begin 81 = .ok (.getfield 299, 3) := by decide +kernel
theorem dX7_begin_84 : decode cX7_begin 84 = .ok (.astore_n 2, 1) := by decide +kernel
theorem dX7_begin_85 : decode cX7_begin 85 = .ok (.aload_n 0, 1) := by decide +kernel
theorem dX7_begin_86 : decode cX7_begin 86 = .ok (.aload_n 2, 1) := by decide +kernel
theorem dX7_begin_87 : decode cX7_begin 87 = .ok (.ifnull 11, 3) := by decide +kernel
theorem dX7_begin_90 : decode cX7_begin 90 = .ok (.aload_n 0, 1) := by decide +kernel
theorem dX7_begin_91 : decode cX7_begin 91 = .ok (.aload_n 2, 1) := by decide +kernel
theorem dX7_begin_92 : decode cX7_begin 92 = .ok (.invokestatic 302, 3) := by decide +kernel
theorem dX7_begin_95 : decode cX7_begin 95 = .ok (.goto 7, 3) := by decide +kernel
theorem dX7_begin_98 : decode cX7_begin 98 = .ok (.aload_n 0, 1) := by decide +kernel
theorem dX7_begin_99 : decode cX7_begin 99 = .ok (.invokestatic 306, 3) := by decide +kernel
theorem dX7_begin_102 : decode cX7_begin 102 = .ok (.iconst 0, 1) := by decide +kernel
theorem dX7_begin_103 : decode cX7_begin 103 = .ok (.invokestatic 234, 3) := by decide +kernel
theorem dX7_begin_106 : decode cX7_begin 106 = .ok (.return_, 1) := by decide +kernel
theorem dX7_again_0 : decode cX7_again 0 = .ok (.aload_n 0, 1) := by decide +kernel
theorem dX7_again_1 : decode cX7_again 1 = .ok (.getfield 26, 3) := by decide +kernel
theorem dX7_again_4 : decode cX7_again 4 = .ok (.getfield 278, 3) := by decide +kernel
theorem dX7_again_7 : decode cX7_again 7 = .ok (.aload_n 1, 1) := by decide +kernel
theorem dX7_again_8 : decode cX7_again 8 = .ok (.getfield 187, 3) := by decide +kernel
theorem dX7_again_11 : decode cX7_again 11 = .ok (.invokevirtual 310, 3) := by decide +kernel
theorem dX7_again_14 : decode cX7_again 14 = .ok (.astore_n 2, 1) := by decide +kernel
theorem dX7_again_15 : decode cX7_again 15 = .ok (.aload_n 0, 1) := by decide +kernel
theorem dX7_again_16 : decode cX7_again 16 = .ok (.aload_n 2, 1) := by decide +kernel
theorem dX7_again_17 : decode cX7_again 17 = .ok (.getfield 123, 3) := by decide +kernel
theorem dX7_again_20 : decode cX7_again 20 = .ok (.aload_n 0, 1) := by decide +kernel
theorem dX7_again_21 : decode cX7_again 21 = .ok (.getfield 254, 3) := by decide +kernel
theorem dX7_again_24 : decode cX7_again 24 = .ok (.invokestatic 314, 3) := by decide +kernel
theorem dX7_again_27 : decode cX7_again 27 = .ok (.aload_n 1, 1) := by decide +kernel
theorem dX7_again_28 : decode cX7_again 28 = .ok (.getfield 123, 3) := by decide +kernel
theorem dX7_again_31 : decode cX7_again 31 = .ok (.bipush 6, 2) := by decide +kernel
theorem dX7_again_33 : decode cX7_again 33 = .ok (.aload_n 2, 1) := by decide +kernel
theorem dX7_again_34 : decode cX7_again 34 = .ok (.getfield 123, 3) := by decide +kernel
theorem dX7_again_37 : decode cX7_again 37 = .ok (.bipush 6, 2) := by decide +kernel
theorem dX7_again_39 : decode cX7_again 39 = .ok (.aload_n 2, 1) := by decide +kernel
theorem dX7_again_40 : decode cX7_again 40 = .ok (.getfield 187, 3) := by decide +kernel
theorem dX7_again_43 : decode cX7_again 43 = .ok (.bipush 6, 2) := by decide +kernel
theorem dX7_again_45 : decode cX7_again 45 = .ok (.isub, 1) := by decide +kernel
theorem dX7_again_46 : decode cX7_again 46 = .ok (.invokestatic 130, 3) := by decide +kernel
theorem dX7_again_49 : decode cX7_again 49 = .ok (.aload_n 1, 1) := by decide +kernel
theorem dX7_again_50 : decode cX7_again 50 = .ok (.getfield 318, 3) := by decide +kernel
theorem dX7_again_53 : decode cX7_again 53 = .ok (.iconst 0, 1) := by decide +kernel
theorem dX7_again_54 : decode cX7_again 54 = .ok (.aload_n 2, 1) := by decide +kernel
theorem dX7_again_55 : decode cX7_again 55 = .ok (.getfield 318, 3) := by decide +kernel
theorem dX7_again_58 : decode cX7_again 58 = .ok (.iconst 0, 1) := by decide +kernel
theorem dX7_again_59 : decode cX7_again 59 = .ok (.iconst 4, 1) := by decide +kernel
theorem dX7_again_60 : decode cX7_again 60 = .ok (.invokestatic 130, 3) := by decide +kernel
theorem dX7_again_63 : decode cX7_again 63 = .ok (.aload_n 2, 1) := by decide +kernel
theorem dX7_again_64 : decode cX7_again 64 = .ok (.iconst 1, 1) := by decide +kernel
theorem dX7_again_65 : decode cX7_again 65 = .ok (.putfield 322, 3) := by decide +kernel
theorem dX7_again_68 : decode cX7_again 68 = .ok (.aload_n 2, 1) := by decide +kernel
theorem dX7_again_69 : decode cX7_again 69 = .ok (.iconst 1, 1) := by decide +kernel
theorem dX7_again_70 : decode cX7_again 70 = .ok (.putfield 325, 3) := by decide +kernel
theorem dX7_again_73 : decode cX7_again 73 = .ok (.aload_n 2, 1) := by decide +kernel
theorem dX7_again_74 : decode cX7_again 74 = .ok (.areturn, 1) := by decide +kernel
theorem dX7_build_0 : decode cX7_build 0 = .ok (.aload_n 0, 1) := by decide +kernel
theorem dX7_build_1 : decode cX7_build 1 = .ok (.getfield 26, 3) := by decide +kernel
theorem dX7_build_4 : decode cX7_build 4 = .ok (.astore_n 1, 1) := by decide +kernel
theorem dX7_build_5 : decode cX7_build 5 = .ok (.aload_n 1, 1) := by decide +kernel
theorem dX7_build_6 : decode cX7_build 6 = .ok (.getfield 328, 3) := by decide +kernel
theorem dX7_build_9 : decode cX7_build 9 = .ok (.astore_n 2, 1) := by decide +kernel
theorem dX7_build_10 : decode cX7_build 10 = .ok (.bipush 6, 2) := by decide +kernel
theorem dX7_build_12 : decode cX7_build 12 = .ok (.istore_n 3, 1) := by decide +kernel
theorem dX7_build_13 : decode cX7_build 13 = .ok (.aload_n 0, 1) := by decide +kernel
theorem dX7_build_14 : decode cX7_build 14 = .ok (.aload_n 2, 1) := by decide +kernel
theorem dX7_build_15 : decode cX7_build 15 = .ok (.sipush 255, 3) := by decide +kernel
theorem dX7_build_18 : decode cX7_build 18 = .ok (.invokestatic 314, 3) := by decide +kernel
theorem dX7_build_21 : decode cX7_build 21 = .ok (.aload_n 2, 1) := by decide +kernel
theorem dX7_build_22 : decode cX7_build 22 = .ok (.iload_n 3, 1) := by decide +kernel
theorem dX7_build_23 : decode cX7_build 23 = .ok (.aload_n 0, 1) := by decide +kernel
theorem dX7_build_24 : decode cX7_build 24 = .ok (.getfield 18, 3) := by decide +kernel
theorem dX7_build_27 : decode cX7_build 27 = .ok (.invokestatic 331, 3) := by decide +kernel
theorem dX7_build_30 : decode cX7_build 30 = .ok (.aload_n 2, 1) := by decide +kernel
theorem dX7_build_31 : decode cX7_build 31 = .ok (.iload_n 3, 1) := by decide +kernel
theorem dX7_build_32 : decode cX7_build 32 = .ok (.iconst 2, 1) := by decide +kernel
theorem dX7_build_33 : decode cX7_build 33 = .ok (.iadd, 1) := by decide +kernel
theorem dX7_build_34 : decode cX7_build 34 = .ok (.aload_n 0, 1) := by decide +kernel
theorem dX7_build_35 : decode cX7_build 35 = .ok (.getfield 271, 3) := by decide +kernel
theorem dX7_build_38 : decode cX7_build 38 = .ok (.i2b, 1) := by decide +kernel
theorem dX7_build_39 : decode cX7_build 39 = .ok (.bastore, 1) := by decide +kernel
theorem dX7_build_40 : decode cX7_build 40 = .ok (.aload_n 0, 1) := by decide +kernel
theorem dX7_build_41 : decode cX7_build 41 = .ok (.getfield 127, 3) := by decide +kernel
theorem dX7_build_44 : decode cX7_build 44 = .ok (.iconst 0, 1) := by decide +kernel
theorem dX7_build_45 : decode cX7_build 45 = .ok (.aload_n 2, 1) := by decide +kernel
theorem dX7_build_46 : decode cX7_build 46 = .ok (.iload_n 3, 1) := by decide +kernel
theorem dX7_build_47 : decode cX7_build 47 = .ok (.iconst 3, 1) := by decide +kernel
theorem dX7_build_48 : decode cX7_build 48 = .ok (.iadd, 1) := by decide +kernel
theorem dX7_build_49 : decode cX7_build 49 = .ok (.bipush 32, 2) := by decide +kernel
theorem dX7_build_51 : decode cX7_build 51 = .ok (.invokestatic 130, 3) := by decide +kernel
theorem dX7_build_54 : decode cX7_build 54 = .ok (.aload_n 0, 1) := by decide +kernel
theorem dX7_build_55 : decode cX7_build 55 = .ok (.getfield 22, 3) := by decide +kernel
theorem dX7_build_58 : decode cX7_build 58 = .ok (.getfield 335, 3) := by decide +kernel
theorem dX7_build_61 : decode cX7_build 61 = .ok (.iconst 0, 1) := by decide +kernel
theorem dX7_build_62 : decode cX7_build 62 = .ok (.aload_n 2, 1) := by decide +kernel
theorem dX7_build_63 : decode cX7_build 63 = .ok (.iload_n 3, 1) := by decide +kernel
theorem dX7_build_64 : decode cX7_build 64 = .ok (.bipush 35, 2) := by decide +kernel
theorem dX7_build_66 : decode cX7_build 66 = .ok (.iadd, 1) := by decide +kernel
theorem dX7_build_67 : decode cX7_build 67 = .ok (.bipush 32, 2) := by decide +kernel
theorem dX7_build_69 : decode cX7_build 69 = .ok (.invokestatic 130, 3) := by decide +kernel
theorem dX7_build_72 : decode cX7_build 72 = .ok (.aload_n 1, 1) := by decide +kernel
theorem dX7_build_73 : decode cX7_build 73 = .ok (.getfield 338, 3) := by decide +kernel
theorem dX7_build_76 : decode cX7_build 76 = .ok (.aload_n 0, 1) := by decide +kernel
theorem dX7_build_77 : decode cX7_build 77 = .ok (.getfield 22, 3) := by decide +kernel
theorem dX7_build_80 : decode cX7_build 80 = .ok (.invokevirtual 341, 3) := by decide +kernel
theorem dX7_build_83 : decode cX7_build 83 = .ok (.aload_n 0, 1) := by decide +kernel
theorem dX7_build_84 : decode cX7_build 84 = .ok (.aload_n 2, 1) := by decide +kernel
theorem dX7_build_85 : decode cX7_build 85 = .ok (.aload_n 0, 1) := by decide +kernel
theorem dX7_build_86 : decode cX7_build 86 = .ok (.aload_n 2, 1) := by decide +kernel
theorem dX7_build_87 : decode cX7_build 87 = .ok (.iload_n 3, 1) := by decide +kernel
theorem dX7_build_88 : decode cX7_build 88 = .ok (.bipush 101, 2) := by decide +kernel
theorem dX7_build_90 : decode cX7_build 90 = .ok (.iadd, 1) := by decide +kernel
theorem dX7_build_91 : decode cX7_build 91 = .ok (.invokestatic 345, 3) := by decide +kernel
theorem dX7_build_94 : decode cX7_build 94 = .ok (.invokestatic 349, 3) := by decide +kernel
theorem dX7_build_97 : decode cX7_build 97 = .ok (.istore 4, 2) := by decide +kernel
theorem dX7_build_99 : decode cX7_build 99 = .ok (.aload_n 1, 1) := by decide +kernel
theorem dX7_build_100 : decode cX7_build 100 = .ok (.getfield 30, 3) := by decide +kernel
theorem dX7_build_103 : decode cX7_build 103 = .ok (.aload_n 2, 1) := by decide +kernel
theorem dX7_build_104 : decode cX7_build 104 = .ok (.iload_n 3, 1) := by decide +kernel
theorem dX7_build_105 : decode cX7_build 105 = .ok (.invokevirtual 352, 3) := by decide +kernel
theorem dX7_build_108 : decode cX7_build 108 = .ok (.aload_n 1, 1) := by decide +kernel
theorem dX7_build_109 : decode cX7_build 109 = .ok (.getfield 30, 3) := by decide +kernel
theorem dX7_build_112 : decode cX7_build 112 = .ok (.iconst (-1), 1) := by decide +kernel
theorem dX7_build_113 : decode cX7_build 113 = .ok (.aload_n 2, 1) := by decide +kernel
theorem dX7_build_114 : decode cX7_build 114 = .ok (.iload_n 3, 1) := by decide +kernel
theorem dX7_build_115 : decode cX7_build 115 = .ok (.invokevirtual 357, 3) := by decide +kernel
theorem dX7_build_118 : decode cX7_build 118 = .ok (.pop, 1) := by decide +kernel
theorem dX7_build_119 : decode cX7_build 119 = .ok (.aload_n 1, 1) := by decide +kernel
theorem dX7_build_120 : decode cX7_build 120 = .ok (.getfield 30, 3) := by decide +kernel
theorem dX7_build_123 : decode cX7_build 123 = .ok (.aload_n 2, 1) := by decide +kernel
theorem dX7_build_124 : decode cX7_build 124 = .ok (.iload_n 3, 1) := by decide +kernel
theorem dX7_build_125 : decode cX7_build 125 = .ok (.bipush 67, 2) := by decide +kernel
theorem dX7_build_127 : decode cX7_build 127 = .ok (.iadd, 1) := by decide +kernel
theorem dX7_build_128 : decode cX7_build 128 = .ok (.invokevirtual 361, 3) := by decide +kernel
theorem dX7_build_131 : decode cX7_build 131 = .ok (.aload_n 1, 1) := by decide +kernel
theorem dX7_build_132 : decode cX7_build 132 = .ok (.getfield 278, 3) := by decide +kernel
theorem dX7_build_135 : decode cX7_build 135 = .ok (.iload 4, 2) := by decide +kernel
theorem dX7_build_137 : decode cX7_build 137 = .ok (.invokevirtual 310, 3) := by decide +kernel
theorem dX7_build_140 : decode cX7_build 140 = .ok (.astore 5, 2) := by decide +kernel
theorem dX7_build_142 : decode cX7_build 142 = .ok (.aload_n 2, 1) := by decide +kernel
theorem dX7_build_143 : decode cX7_build 143 = .ok (.iconst 0, 1) := by decide +kernel
theorem dX7_build_144 : decode cX7_build 144 = .ok (.aload 5, 2) := by decide +kernel
theorem dX7_build_146 : decode cX7_build 146 = .ok (.getfield 123, 3) := by decide +kernel
theorem dX7_build_149 : decode cX7_build 149 = .ok (.iconst 0, 1) := by decide +kernel
theorem dX7_build_150 : decode cX7_build 150 = .ok (.iload 4, 2) := by decide +kernel
theorem dX7_build_152 : decode cX7_build 152 = .ok (.invokestatic 130, 3) := by decide +kernel
theorem dX7_build_155 : decode cX7_build 155 = .ok (.aload_n 1, 1) := by decide +kernel
theorem dX7_build_156 : decode cX7_build 156 = .ok (.getfield 30, 3) := by decide +kernel
theorem dX7_build_159 : decode cX7_build 159 = .ok (.aload_n 2, 1) := by decide +kernel
theorem dX7_build_160 : decode cX7_build 160 = .ok (.iload_n 3, 1) := by decide +kernel
theorem dX7_build_161 : decode cX7_build 161 = .ok (.iload_n 3, 1) := by decide +kernel
theorem dX7_build_162 : decode cX7_build 162 = .ok (.bipush 101, 2) := by decide +kernel
theorem dX7_build_164 : decode cX7_build 164 = .ok (.iadd, 1) := by decide +kernel
theorem dX7_build_165 : decode cX7_build 165 = .ok (.aload_n 1, 1) := by decide +kernel
theorem dX7_build_166 : decode cX7_build 166 = .ok (.getfield 363, 3) := by decide +kernel
theorem dX7_build_169 : decode cX7_build 169 = .ok (.iconst 0, 1) := by decide +kernel
theorem dX7_build_170 : decode cX7_build 170 = .ok (.invokevirtual 366, 3) := by decide +kernel
theorem dX7_build_173 : decode cX7_build 173 = .ok (.aload 5, 2) := by decide +kernel
theorem dX7_build_175 : decode cX7_build 175 = .ok (.aload_n 1, 1) := by decide +kernel
theorem dX7_build_176 : decode cX7_build 176 = .ok (.getfield 363, 3) := by decide +kernel
theorem dX7_build_179 : decode cX7_build 179 = .ok (.iconst 0, 1) := by decide +kernel
theorem dX7_build_180 : decode cX7_build 180 = .ok (.invokevirtual 369, 3) := by decide +kernel
theorem dX7_build_183 : decode cX7_build 183 = .ok (.aload 5, 2) := by decide +kernel
theorem dX7_build_185 : decode cX7_build 185 = .ok (.iconst 1, 1) := by decide +kernel
theorem dX7_build_186 : decode cX7_build 186 = .ok (.putfield 325, 3) := by decide +kernel
theorem dX7_build_189 : decode cX7_build 189 = .ok (.aload 5, 2) := by decide +kernel
theorem dX7_build_191 : decode cX7_build 191 = .ok (.areturn, 1) := by decide +kernel
theorem dX7_signProposal_0 : decode cX7_signProposal 0 = .ok (.aload_n 1, 1) := by decide +kernel
theorem dX7_signProposal_1 : decode cX7_signProposal 1 = .ok (.iconst 0, 1) := by decide +kernel
theorem dX7_signProposal_2 : decode cX7_signProposal 2 = .ok (.iconst 1, 1) := by decide +kernel
theorem dX7_signProposal_3 : decode cX7_signProposal 3 = .ok (.bastore, 1) := by decide +kernel
theorem dX7_signProposal_4 : decode cX7_signProposal 4 = .ok (.aload_n 1, 1) := by decide +kernel
theorem dX7_signProposal_5 : decode cX7_signProposal 5 = .ok (.iconst 1, 1) := by decide +kernel
theorem dX7_signProposal_6 : decode cX7_signProposal 6 = .ok (.aload_n 0, 1) := by decide +kernel
theorem dX7_signProposal_7 : decode cX7_signProposal 7 = .ok (.getfield 271, 3) := by decide +kernel
theorem dX7_signProposal_10 : decode cX7_signProposal 10 = .ok (.i2b, 1) := by decide +kernel
theorem dX7_signProposal_11 : decode cX7_signProposal 11 = .ok (.bastore, 1) := by decide +kernel
theorem dX7_signProposal_12 : decode cX7_signProposal 12 = .ok (.aload_n 1, 1) := by decide +kernel
theorem dX7_signProposal_13 : decode cX7_signProposal 13 = .ok (.iconst 2, 1) := by decide +kernel
theorem dX7_signProposal_14 : decode cX7_signProposal 14 = .ok (.aload_n 0, 1) := by decide +kernel
theorem dX7_signProposal_15 : decode cX7_signProposal 15 = .ok (.getfield 18, 3) := by decide +kernel
theorem dX7_signProposal_18 : decode cX7_signProposal 18 = .ok (.invokestatic 331, 3) := by decide +kernel
theorem dX7_signProposal_21 : decode cX7_signProposal 21 = .ok (.aload_n 1, 1) := by decide +kernel
theorem dX7_signProposal_22 : decode cX7_signProposal 22 = .ok (.iconst 4, 1) := by decide +kernel
theorem dX7_signProposal_23 : decode cX7_signProposal 23 = .ok (.aload_n 0, 1) := by decide +kernel
theorem dX7_signProposal_24 : decode cX7_signProposal 24 = .ok (.getfield 213, 3) := by decide +kernel
theorem dX7_signProposal_27 : decode cX7_signProposal 27 = .ok (.i2b, 1) := by decide +kernel
theorem dX7_signProposal_28 : decode cX7_signProposal 28 = .ok (.bastore, 1) := by decide +kernel
theorem dX7_signProposal_29 : decode cX7_signProposal 29 = .ok (.aload_n 1, 1) := by decide +kernel
theorem dX7_signProposal_30 : decode cX7_signProposal 30 = .ok (.iconst 5, 1) := by decide +kernel
theorem dX7_signProposal_31 : decode cX7_signProposal 31 = .ok (.iload_n 2, 1) := by decide +kernel
theorem dX7_signProposal_32 : decode cX7_signProposal 32 = .ok (.i2b, 1) := by decide +kernel
theorem dX7_signProposal_33 : decode cX7_signProposal 33 = .ok (.bastore, 1) := by decide +kernel
theorem dX7_signProposal_34 : decode cX7_signProposal 34 = .ok (.return_, 1) := by decide +kernel
theorem dX7_addEvidences_0 : decode cX7_addEvidences 0 = .ok (.iload_n 2, 1) := by decide +kernel
theorem dX7_addEvidences_1 : decode cX7_addEvidences 1 = .ok (.istore_n 3, 1) := by decide +kernel
theorem dX7_addEvidences_2 : decode cX7_addEvidences 2 = .ok (.iconst 0, 1) := by decide +kernel
theorem dX7_addEvidences_3 : decode cX7_addEvidences 3 = .ok (.istore 4, 2) := by decide +kernel
theorem dX7_addEvidences_5 : decode cX7_addEvidences 5 = .ok (.iconst 0, 1) := by decide +kernel
theorem dX7_addEvidences_6 : decode cX7_addEvidences 6 = .ok (.istore 5, 2) := by decide +kernel
theorem dX7_addEvidences_8 : decode cX7_addEvidences 8 = .ok (.iload 5, 2) := by decide +kernel
theorem dX7_addEvidences_10 : decode cX7_addEvidences 10 = .ok (.aload_n 0, 1) := by decide +kernel
theorem dX7_addEvidences_11 : decode cX7_addEvidences 11 = .ok (.getfield 26, 3) := by decide +kernel
theorem dX7_addEvidences_14 : decode cX7_addEvidences 14 = .ok (.getfield 84, 3) := by decide +kernel
theorem dX7_addEvidences_17 : decode cX7_addEvidences 17 = .ok (.if_icmp .ge 81, 3) := by decide +kernel
theorem dX7_addEvidences_20 : decode cX7_addEvidences 20 = .ok (.iload 4, 2) := by decide +kernel
theorem dX7_addEvidences_22 : decode cX7_addEvidences 22 = .ok (.iconst 2, 1) := by decide +kernel
theorem dX7_addEvidences_23 : decode cX7_addEvidences 23 = .ok (.if_icmp .ge 75, 3) := by decide +kernel
theorem dX7_addEvidences_26 : decode cX7_addEvidences 26 = .ok (.aload_n 0, 1) := by decide +kernel
theorem dX7_addEvidences_27 : decode cX7_addEvidences 27 = .ok (.getfield 80, 3) := by decide +kernel
theorem dX7_addEvidences_30 : decode cX7_addEvidences 30 = .ok (.iload 5, 2) := by decide +kernel
theorem dX7_addEvidences_32 : decode cX7_addEvidences 32 = .ok (.invokevirtual 372, 3) := by decide +kernel
theorem dX7_addEvidences_35 : decode cX7_addEvidences 35 = .ok (.astore 6, 2) := by decide +kernel
theorem dX7_addEvidences_37 : decode cX7_addEvidences 37 = .ok (.aload 6, 2) := by decide +kernel
theorem dX7_addEvidences_39 : decode cX7_addEvidences 39 = .ok (.ifnull 53, 3) := by decide +kernel
theorem dX7_addEvidences_42 : decode cX7_addEvidences 42 = .ok (.aload_n 0, 1) := by decide +kernel
theorem dX7_addEvidences_43 : decode cX7_addEvidences 43 = .ok (.getfield 26, 3) := by decide +kernel
theorem dX7_addEvidences_46 : decode cX7_addEvidences 46 = .ok (.getfield 338, 3) := by decide +kernel
theorem dX7_addEvidences_49 : decode cX7_addEvidences 49 = .ok (.iload 5, 2) := by decide +kernel
theorem dX7_addEvidences_51 : decode cX7_addEvidences 51 = .ok (.aload_n 0, 1) := by decide +kernel
theorem dX7_addEvidences_52 : decode cX7_addEvidences 52 = .ok (.getfield 271, 3) := by decide +kernel
theorem dX7_addEvidences_55 : decode cX7_addEvidences 55 = .ok (.invokevirtual 375, 3) := by decide +kernel
theorem dX7_addEvidences_58 : decode cX7_addEvidences 58 = .ok (.ifCond .eq 34, 3) := by decide +kernel
theorem dX7_addEvidences_61 : decode cX7_addEvidences 61 = .ok (.aload 6, 2) := by decide +kernel
theorem dX7_addEvidences_63 : decode cX7_addEvidences 63 = .ok (.getfield 123, 3) := by decide +kernel
theorem dX7_addEvidences_66 : decode cX7_addEvidences 66 = .ok (.iconst 1, 1) := by decide +kernel
theorem dX7_addEvidences_67 : decode cX7_addEvidences 67 = .ok (.aload_n 1, 1) := by decide +kernel
theorem dX7_addEvidences_68 : decode cX7_addEvidences 68 = .ok (.iload_n 3, 1) := by decide +kernel
theorem dX7_addEvidences_69 : decode cX7_addEvidences 69 = .ok (.aload 6, 2) := by decide +kernel
theorem dX7_addEvidences_71 : decode cX7_addEvidences 71 = .ok (.getfield 187, 3) := by decide +kernel
theorem dX7_addEvidences_74 : decode cX7_addEvidences 74 = .ok (.iconst 1, 1) := by decide +kernel
theorem dX7_addEvidences_75 : decode cX7_addEvidences 75 = .ok (.isub, 1) := by decide +kernel
theorem dX7_addEvidences_76 : decode cX7_addEvidences 76 = .ok (.invokestatic 130, 3) := by decide +kernel
theorem dX7_addEvidences_79 : decode cX7_addEvidences 79 = .ok (.iload_n 3, 1) := by decide +kernel
theorem dX7_addEvidences_80 : decode cX7_addEvidences 80 = .ok (.aload 6, 2) := by decide +kernel
theorem dX7_addEvidences_82 : decode cX7_addEvidences 82 = .ok (.getfield 187, 3) := by decide +kernel
theorem dX7_addEvidences_85 : decode cX7_addEvidences 85 = .ok (.iconst 1, 1) := by decide +kernel
theorem dX7_addEvidences_86 : decode cX7_addEvidences 86 = .ok (.isub, 1) := by decide +kernel
theorem dX7_addEvidences_87 : decode cX7_addEvidences 87 = .ok (.iadd, 1) := by decide +kernel
theorem dX7_addEvidences_88 : decode cX7_addEvidences 88 = .ok (.istore_n 3, 1) := by decide +kernel
theorem dX7_addEvidences_89 : decode cX7_addEvidences 89 = .ok (.iinc 4 1, 3) := by decide +kernel
theorem dX7_addEvidences_92 : decode cX7_addEvidences 92 = .ok (.iinc 5 1, 3) := by decide +kernel
theorem dX7_addEvidences_95 : decode cX7_addEvidences 95 = .ok (.goto (-87), 3) := by decide +kernel
theorem dX7_addEvidences_98 : decode cX7_addEvidences 98 = .ok (.aload_n 1, 1) := by decide +kernel
theorem dX7_addEvidences_99 : decode cX7_addEvidences 99 = .ok (.bipush 106, 2) := by decide +kernel
theorem dX7_addEvidences_101 : decode cX7_addEvidences 101 = .ok (.iload 4, 2) := by decide +kernel
theorem dX7_addEvidences_103 : decode cX7_addEvidences 103 = .ok (.i2b, 1) := by decide +kernel
theorem dX7_addEvidences_104 : decode cX7_addEvidences 104 = .ok (.bastore, 1) := by decide +kernel
theorem dX7_addEvidences_105 : decode cX7_addEvidences 105 = .ok (.iload_n 3, 1) := by decide +kernel
theorem dX7_addEvidences_106 : decode cX7_addEvidences 106 = .ok (.ireturn, 1) := by decide +kernel
theorem dX7_addPayments_0 : decode cX7_addPayments 0 = .ok (.iload_n 2, 1) := by decide +kernel
theorem dX7_addPayments_1 : decode cX7_addPayments 1 = .ok (.istore_n 3, 1) := by decide +kernel
theorem dX7_addPayments_2 : decode cX7_addPayments 2 = .ok (.iconst 0, 1) := by decide +kernel
theorem dX7_addPayments_3 : decode cX7_addPayments 3 = .ok (.istore 4, 2) := by decide +kernel
theorem dX7_addPayments_5 : decode cX7_addPayments 5 = .ok (.iconst 0, 1) := by decide +kernel
theorem dX7_addPayments_6 : decode cX7_addPayments 6 = .ok (.istore 5, 2) := by decide +kernel
theorem dX7_addPayments_8 : decode cX7_addPayments 8 = .ok (.iload 5, 2) := by decide +kernel
theorem dX7_addPayments_10 : decode cX7_addPayments 10 = .ok (.aload_n 0, 1) := by decide +kernel
theorem dX7_addPayments_11 : decode cX7_addPayments 11 = .ok (.getfield 80, 3) := by decide +kernel
theorem dX7_addPayments_14 : decode cX7_addPayments 14 = .ok (.getfield 379, 3) := by decide +kernel
theorem dX7_addPayments_17 : decode cX7_addPayments 17 = .ok (.if_icmp .ge 59, 3) := by decide +kernel
theorem dX7_addPayments_20 : decode cX7_addPayments 20 = .ok (.iload 4, 2) := by decide +kernel
theorem dX7_addPayments_22 : decode cX7_addPayments 22 = .ok (.bipush 64, 2) := by decide +kernel
theorem dX7_addPayments_24 : decode cX7_addPayments 24 = .ok (.if_icmp .ge 52, 3) := by decide +kernel
theorem dX7_addPayments_27 : decode cX7_addPayments 27 = .ok (.aload_n 0, 1) := by decide +kernel
theorem dX7_addPayments_28 : decode cX7_addPayments 28 = .ok (.getfield 80, 3) := by decide +kernel
theorem dX7_addPayments_31 : decode cX7_addPayments 31 = .ok (.iload 5, 2) := by decide +kernel
theorem dX7_addPayments_33 : decode cX7_addPayments 33 = .ok (.invokevirtual 382, 3) := by decide +kernel
theorem dX7_addPayments_36 : decode cX7_addPayments 36 = .ok (.lstore 6, 2) := by decide +kernel
theorem dX7_addPayments_38 : decode cX7_addPayments 38 = .ok (.aload_n 0, 1) := by decide +kernel
theorem dX7_addPayments_39 : decode cX7_addPayments 39 = .ok (.getfield 26, 3) := by decide +kernel
theorem dX7_addPayments_42 : decode cX7_addPayments 42 = .ok (.getfield 338, 3) := by decide +kernel
theorem dX7_addPayments_45 : decode cX7_addPayments 45 = .ok (.lload 6, 2) := by decide +kernel
theorem dX7_addPayments_47 : decode cX7_addPayments 47 = .ok (.aload_n 0, 1) := by decide +kernel
theorem dX7_addPayments_48 : decode cX7_addPayments 48 = .ok (.getfield 271, 3) := by decide +kernel
theorem dX7_addPayments_51 : decode cX7_addPayments 51 = .ok (.invokevirtual 386, 3) := by decide +kernel
theorem dX7_addPayments_54 : decode cX7_addPayments 54 = .ok (.ifCond .eq 16, 3) := by decide +kernel
theorem dX7_addPayments_57 : decode cX7_addPayments 57 = .ok (.lload 6, 2) := by decide +kernel
theorem dX7_addPayments_59 : decode cX7_addPayments 59 = .ok (.aload_n 1, 1) := by decide +kernel
theorem dX7_addPayments_60 : decode cX7_addPayments 60 = .ok (.iload_n 3, 1) := by decide +kernel
theorem dX7_addPayments_61 : decode cX7_addPayments 61 = .ok (.invokestatic 390, 3) := by decide +kernel
theorem dX7_addPayments_64 : decode cX7_addPayments 64 = .ok (.iinc 3 7, 3) := by decide +kernel
theorem dX7_addPayments_67 : decode cX7_addPayments 67 = .ok (.iinc 4 1, 3) := by decide +kernel
theorem dX7_addPayments_70 : decode cX7_addPayments 70 = .ok (.iinc 5 1, 3) := by decide +kernel
theorem dX7_addPayments_73 : decode cX7_addPayments 73 = .ok (.goto (-65), 3) := by decide +kernel
theorem dX7_addPayments_76 : decode cX7_addPayments 76 = .ok (.aload_n 1, 1) := by decide +kernel
theorem dX7_addPayments_77 : decode cX7_addPayments 77 = .ok (.bipush 105, 2) := by decide +kernel
theorem dX7_addPayments_79 : decode cX7_addPayments 79 = .ok (.iload 4, 2) := by decide +kernel
theorem dX7_addPayments_81 : decode cX7_addPayments 81 = .ok (.i2b, 1) := by decide +kernel
theorem dX7_addPayments_82 : decode cX7_addPayments 82 = .ok (.bastore, 1) := by decide +kernel
theorem dX7_addPayments_83 : decode cX7_addPayments 83 = .ok (.iload_n 3, 1) := by decide +kernel
theorem dX7_addPayments_84 : decode cX7_addPayments 84 = .ok (.ireturn, 1) := by decide +kernel
theorem dX7_approves_0 : decode cX7_approves 0 = .ok (.aload_n 0, 1) := by decide +kernel
theorem dX7_approves_1 : decode cX7_approves 1 = .ok (.getfield 80, 3) := by decide +kernel
theorem dX7_approves_4 : decode cX7_approves 4 = .ok (.aload_n 0, 1) := by decide +kernel
theorem dX7_approves_5 : decode cX7_approves 5 = .ok (.getfield 18, 3) := by decide +kernel
theorem dX7_approves_8 : decode cX7_approves 8 = .ok (.iload_n 1, 1) := by decide +kernel
theorem dX7_approves_9 : decode cX7_approves 9 = .ok (.invokevirtual 394, 3) := by decide +kernel
theorem dX7_approves_12 : decode cX7_approves 12 = .ok (.ifCond .ne 47, 3) := by decide +kernel
theorem dX7_approves_15 : decode cX7_approves 15 = .ok (.aload_n 0, 1) := by decide +kernel
theorem dX7_approves_16 : decode cX7_approves 16 = .ok (.getfield 80, 3) := by decide +kernel
theorem dX7_approves_19 : decode cX7_approves 19 = .ok (.aload_n 0, 1) := by decide +kernel
theorem dX7_approves_20 : decode cX7_approves 20 = .ok (.getfield 18, 3) := by decide +kernel
theorem dX7_approves_23 : decode cX7_approves 23 = .ok (.iload_n 1, 1) := by decide +kernel
theorem dX7_approves_24 : decode cX7_approves 24 = .ok (.invokevirtual 172, 3) := by decide +kernel
theorem dX7_approves_27 : decode cX7_approves 27 = .ok (.astore_n 2, 1) := by decide +kernel
theorem dX7_approves_28 : decode cX7_approves 28 = .ok (.aload_n 0, 1) := by decide +kernel
theorem dX7_approves_29 : decode cX7_approves 29 = .ok (.getfield 80, 3) := by decide +kernel
theorem dX7_approves_32 : decode cX7_approves 32 = .ok (.aload_n 0, 1) := by decide +kernel
theorem dX7_approves_33 : decode cX7_approves 33 = .ok (.getfield 18, 3) := by decide +kernel
theorem dX7_approves_36 : decode cX7_approves 36 = .ok (.iload_n 1, 1) := by decide +kernel
theorem dX7_approves_37 : decode cX7_approves 37 = .ok (.aload_n 2, 1) := by decide +kernel
theorem dX7_approves_38 : decode cX7_approves 38 = .ok (.ifnull 17, 3) := by decide +kernel
theorem dX7_approves_41 : decode cX7_approves 41 = .ok (.aload_n 0, 1) := by decide +kernel
theorem dX7_approves_42 : decode cX7_approves 42 = .ok (.aload_n 2, 1) := by decide +kernel
theorem dX7_approves_43 : decode cX7_approves 43 = .ok (.bipush 6, 2) := by decide +kernel
theorem dX7_approves_45 : decode cX7_approves 45 = .ok (.invokestatic 161, 3) := by decide +kernel
theorem dX7_approves_48 : decode cX7_approves 48 = .ok (.ifCond .eq 7, 3) := by decide +kernel
theorem dX7_approves_51 : decode cX7_approves 51 = .ok (.iconst 1, 1) := by decide +kernel
theorem dX7_approves_52 : decode cX7_approves 52 = .ok (.goto 4, 3) := by decide +kernel
theorem dX7_approves_55 : decode cX7_approves 55 = .ok (.iconst 0, 1) := by decide +kernel
theorem dX7_approves_56 : decode cX7_approves 56 = .ok (.invokevirtual 397, 3) := by decide +kernel
theorem dX7_approves_59 : decode cX7_approves 59 = .ok (.aload_n 0, 1) := by decide +kernel
theorem dX7_approves_60 : decode cX7_approves 60 = .ok (.getfield 80, 3) := by decide +kernel
theorem dX7_approves_63 : decode cX7_approves 63 = .ok (.aload_n 0, 1) := by decide +kernel
theorem dX7_approves_64 : decode cX7_approves 64 = .ok (.getfield 18, 3) := by decide +kernel
theorem dX7_approves_67 : decode cX7_approves 67 = .ok (.iload_n 1, 1) := by decide +kernel
theorem dX7_approves_68 : decode cX7_approves 68 = .ok (.invokevirtual 394, 3) := by decide +kernel
theorem dX7_approves_71 : decode cX7_approves 71 = .ok (.iconst 1, 1) := by decide +kernel
theorem dX7_approves_72 : decode cX7_approves 72 = .ok (.if_icmp .ne 7, 3) := by decide +kernel
theorem dX7_approves_75 : decode cX7_approves 75 = .ok (.iconst 1, 1) := by decide +kernel
theorem dX7_approves_76 : decode cX7_approves 76 = .ok (.goto 4, 3) := by decide +kernel
theorem dX7_approves_79 : decode cX7_approves 79 = .ok (.iconst 0, 1) := by decide +kernel
theorem dX7_approves_80 : decode cX7_approves 80 = .ok (.ireturn, 1) := by decide +kernel
theorem dX7_isValid_0 : decode cX7_isValid 0 = .ok (.aload_n 1, 1) := by decide +kernel
theorem dX7_isValid_1 : decode cX7_isValid 1 = .ok (.iload_n 2, 1) := by decide +kernel
theorem dX7_isValid_2 : decode cX7_isValid 2 = .ok (.invokevirtual 93, 3) := by decide +kernel
theorem dX7_isValid_5 : decode cX7_isValid 5 = .ok (.aload_n 0, 1) := by decide +kernel
theorem dX7_isValid_6 : decode cX7_isValid 6 = .ok (.getfield 18, 3) := by decide +kernel
theorem dX7_isValid_9 : decode cX7_isValid 9 = .ok (.if_icmp .ne 47, 3) := by decide +kernel
theorem dX7_isValid_12 : decode cX7_isValid 12 = .ok (.aload_n 1, 1) := by decide +kernel
theorem dX7_isValid_13 : decode cX7_isValid 13 = .ok (.getfield 123, 3) := by decide +kernel
theorem dX7_isValid_16 : decode cX7_isValid 16 = .ok (.iload_n 2, 1) := by decide +kernel
theorem dX7_isValid_17 : decode cX7_isValid 17 = .ok (.iconst 3, 1) := by decide +kernel
theorem dX7_isValid_18 : decode cX7_isValid 18 = .ok (.iadd, 1) := by decide +kernel
theorem dX7_isValid_19 : decode cX7_isValid 19 = .ok (.aload_n 0, 1) := by decide +kernel
theorem dX7_isValid_20 : decode cX7_isValid 20 = .ok (.getfield 127, 3) := by decide +kernel
theorem dX7_isValid_23 : decode cX7_isValid 23 = .ok (.iconst 0, 1) := by decide +kernel
theorem dX7_isValid_24 : decode cX7_isValid 24 = .ok (.bipush 32, 2) := by decide +kernel
theorem dX7_isValid_26 : decode cX7_isValid 26 = .ok (.invokestatic 401, 3) := by decide +kernel
theorem dX7_isValid_29 : decode cX7_isValid 29 = .ok (.ifCond .eq 27, 3) := by decide +kernel
theorem dX7_isValid_32 : decode cX7_isValid 32 = .ok (.aload_n 1, 1) := by decide +kernel
theorem dX7_isValid_33 : decode cX7_isValid 33 = .ok (.getfield 123, 3) := by decide +kernel
theorem dX7_isValid_36 : decode cX7_isValid 36 = .ok (.iload_n 2, 1) := by decide +kernel
theorem dX7_isValid_37 : decode cX7_isValid 37 = .ok (.bipush 35, 2) := by decide +kernel
theorem dX7_isValid_39 : decode cX7_isValid 39 = .ok (.iadd, 1) := by decide +kernel
theorem dX7_isValid_40 : decode cX7_isValid 40 = .ok (.aload_n 0, 1) := by decide +kernel
theorem dX7_isValid_41 : decode cX7_isValid 41 = .ok (.getfield 22, 3) := by decide +kernel
theorem dX7_isValid_44 : decode cX7_isValid 44 = .ok (.getfield 335, 3) := by decide +kernel
theorem dX7_isValid_47 : decode cX7_isValid 47 = .ok (.iconst 0, 1) := by decide +kernel
theorem dX7_isValid_48 : decode cX7_isValid 48 = .ok (.bipush 32, 2) := by decide +kernel
theorem dX7_isValid_50 : decode cX7_isValid 50 = .ok (.invokestatic 401, 3) := by decide +kernel
theorem dX7_isValid_53 : decode cX7_isValid 53 = .ok (.ifCond .ne 5, 3) := by decide +kernel
theorem dX7_isValid_56 : decode cX7_isValid 56 = .ok (.iconst 0, 1) := by decide +kernel
theorem dX7_isValid_57 : decode cX7_isValid 57 = .ok (.ireturn, 1) := by decide +kernel
theorem dX7_isValid_58 : decode cX7_isValid 58 = .ok (.aload_n 0, 1) := by decide +kernel
theorem dX7_isValid_59 : decode cX7_isValid 59 = .ok (.getfield 26, 3) := by decide +kernel
theorem dX7_isValid_62 : decode cX7_isValid 62 = .ok (.getfield 338, 3) := by decide +kernel
theorem dX7_isValid_65 : decode cX7_isValid 65 = .ok (.aload_n 0, 1) := by decide +kernel
theorem dX7_isValid_66 : decode cX7_isValid 66 = .ok (.getfield 22, 3) := by decide +kernel
theorem dX7_isValid_69 : decode cX7_isValid 69 = .ok (.invokevirtual 341, 3) := by decide +kernel
theorem dX7_isValid_72 : decode cX7_isValid 72 = .ok (.aload_n 0, 1) := by decide +kernel
theorem dX7_isValid_73 : decode cX7_isValid 73 = .ok (.getfield 26, 3) := by decide +kernel
theorem dX7_isValid_76 : decode cX7_isValid 76 = .ok (.getfield 338, 3) := by decide +kernel
theorem dX7_isValid_79 : decode cX7_isValid 79 = .ok (.aload_n 1, 1) := by decide +kernel
theorem dX7_isValid_80 : decode cX7_isValid 80 = .ok (.getfield 123, 3) := by decide +kernel
theorem dX7_isValid_83 : decode cX7_isValid 83 = .ok (.iload_n 2, 1) := by decide +kernel
theorem dX7_isValid_84 : decode cX7_isValid 84 = .ok (.aload_n 1, 1) := by decide +kernel
theorem dX7_isValid_85 : decode cX7_isValid 85 = .ok (.getfield 187, 3) := by decide +kernel
theorem dX7_isValid_88 : decode cX7_isValid 88 = .ok (.invokevirtual 194, 3) := by decide +kernel
theorem dX7_isValid_91 : decode cX7_isValid 91 = .ok (.ireturn, 1) := by decide +kernel
theorem dX8_init_0 : decode cX8_init 0 = .ok (.aload_n 0, 1) := by decide +kernel
theorem dX8_init_1 : decode cX8_init 1 = .ok (.invokespecial 3, 3) := by decide +kernel
theorem dX8_init_4 : decode cX8_init 4 = .ok (.aload_n 0, 1) := by decide +kernel
theorem dX8_init_5 : decode cX8_init 5 = .ok (.bipush 32, 2) := by decide +kernel
theorem dX8_init_7 : decode cX8_init 7 = .ok (.anewarray 9, 3) := by decide +kernel
theorem dX8_init_10 : decode cX8_init 10 = .ok (.putfield 11, 3) := by decide +kernel
theorem dX8_init_13 : decode cX8_init 13 = .ok (.aload_n 0, 1) := by decide +kernel
theorem dX8_init_14 : decode cX8_init 14 = .ok (.bipush 32, 2) := by decide +kernel
theorem dX8_init_16 : decode cX8_init 16 = .ok (.newarray .int, 2) := by decide +kernel
theorem dX8_init_18 : decode cX8_init 18 = .ok (.putfield 17, 3) := by decide +kernel
theorem dX8_init_21 : decode cX8_init 21 = .ok (.aload_n 0, 1) := by decide +kernel
theorem dX8_init_22 : decode cX8_init 22 = .ok (.iconst 2, 1) := by decide +kernel
theorem dX8_init_23 : decode cX8_init 23 = .ok (.newarray .int, 2) := by decide +kernel
theorem dX8_init_25 : decode cX8_init 25 = .ok (.putfield 21, 3) := by decide +kernel
theorem dX8_init_28 : decode cX8_init 28 = .ok (.aload_n 0, 1) := by decide +kernel
theorem dX8_init_29 : decode cX8_init 29 = .ok (.bipush 80, 2) := by decide +kernel
theorem dX8_init_31 : decode cX8_init 31 = .ok (.newarray .long, 2) := by decide +kernel
theorem dX8_init_33 : decode cX8_init 33 = .ok (.putfield 24, 3) := by decide +kernel
theorem dX8_init_36 : decode cX8_init 36 = .ok (.aload_n 0, 1) := by decide +kernel
theorem dX8_init_37 : decode cX8_init 37 = .ok (.aload_n 1, 1) := by decide +kernel
theorem dX8_init_38 : decode cX8_init 38 = .ok (.putfield 28, 3) := by decide +kernel
theorem dX8_init_41 : decode cX8_init 41 = .ok (.aload_n 0, 1) := by decide +kernel
theorem dX8_init_42 : decode cX8_init 42 = .ok (.iload_n 2, 1) := by decide +kernel
theorem dX8_init_43 : decode cX8_init 43 = .ok (.putfield 32, 3) := by decide +kernel
theorem dX8_init_46 : decode cX8_init 46 = .ok (.aload_n 0, 1) := by decide +kernel
theorem dX8_init_47 : decode cX8_init 47 = .ok (.bipush 64, 2) := by decide +kernel
theorem dX8_init_49 : decode cX8_init 49 = .ok (.iload_n 2, 1) := by decide +kernel
theorem dX8_init_50 : decode cX8_init 50 = .ok (.imul, 1) := by decide +kernel
theorem dX8_init_51 : decode cX8_init 51 = .ok (.anewarray 9, 3) := by decide +kernel
theorem dX8_init_54 : decode cX8_init 54 = .ok (.putfield 36, 3) := by decide +kernel
theorem dX8_init_57 : decode cX8_init 57 = .ok (.aload_n 0, 1) := by decide +kernel
theorem dX8_init_58 : decode cX8_init 58 = .ok (.iload_n 2, 1) := by decide +kernel
theorem dX8_init_59 : decode cX8_init 59 = .ok (.anewarray 9, 3) := by decide +kernel
theorem dX8_init_62 : decode cX8_init 62 = .ok (.putfield 39, 3) := by decide +kernel
theorem dX8_init_65 : decode cX8_init 65 = .ok (.aload_n 0, 1) := by decide +kernel
theorem dX8_init_66 : decode cX8_init 66 = .ok (.iload_n 2, 1) := by decide +kernel
theorem dX8_init_67 : decode cX8_init 67 = .ok (.newarray .int, 2) := by decide +kernel
theorem dX8_init_69 : decode cX8_init 69 = .ok (.putfield 42, 3) := by decide +kernel
theorem dX8_init_72 : decode cX8_init 72 = .ok (.aload_n 0, 1) := by decide +kernel
theorem dX8_init_73 : decode cX8_init 73 = .ok (.iload_n 2, 1) := by decide +kernel
theorem dX8_init_74 : decode cX8_init 74 = .ok (.anewarray 9, 3) := by decide +kernel
theorem dX8_init_77 : decode cX8_init 77 = .ok (.putfield 45, 3) := by decide +kernel
theorem dX8_init_80 : decode cX8_init 80 = .ok (.aload_n 0, 1) := by decide +kernel
theorem dX8_init_81 : decode cX8_init 81 = .ok (.iload_n 2, 1) := by decide +kernel
theorem dX8_init_82 : decode cX8_init 82 = .ok (.anewarray 9, 3) := by decide +kernel
theorem dX8_init_85 : decode cX8_init 85 = .ok (.putfield 48, 3) := by decide +kernel
theorem dX8_init_88 : decode cX8_init 88 = .ok (.return_, 1) := by decide +kernel
theorem dX8_page_0 : decode cX8_page 0 = .ok (.iload_n 2, 1) := by decide +kernel
theorem dX8_page_1 : decode cX8_page 1 = .ok (.ifCond .lt 9, 3) := by decide +kernel
theorem dX8_page_4 : decode cX8_page 4 = .ok (.iload_n 2, 1) := by decide +kernel
theorem dX8_page_5 : decode cX8_page 5 = .ok (.bipush 16, 2) := by decide +kernel
theorem dX8_page_7 : decode cX8_page 7 = .ok (.if_icmp .lt 7, 3) := by decide +kernel
theorem dX8_page_10 : decode cX8_page 10 = .ok (.iconst (-1), 1) := by decide +kernel
theorem dX8_page_11 : decode cX8_page 11 = .ok (.goto 11, 3) := by decide +kernel
theorem dX8_page_14 : decode cX8_page 14 = .ok (.iload_n 1, 1) := by decide +kernel
theorem dX8_page_15 : decode cX8_page 15 = .ok (.iconst 1, 1) := by decide +kernel
theorem dX8_page_16 : decode cX8_page 16 = .ok (.iand, 1) := by decide +kernel
theorem dX8_page_17 : decode cX8_page 17 = .ok (.bipush 16, 2) := by decide +kernel
theorem dX8_page_19 : decode cX8_page 19 = .ok (.imul, 1) := by decide +kernel
theorem dX8_page_20 : decode cX8_page 20 = .ok (.iload_n 2, 1) := by decide +kernel
theorem dX8_page_21 : decode cX8_page 21 = .ok (.iadd, 1) := by decide +kernel
theorem dX8_page_22 : decode cX8_page 22 = .ok (.ireturn, 1) := by decide +kernel
theorem dX8_ballots_0 : decode cX8_ballots 0 = .ok (.iconst 2, 1) := by decide +kernel
theorem dX8_ballots_1 : decode cX8_ballots 1 = .ok (.iload_n 1, 1) := by decide +kernel
theorem dX8_ballots_2 : decode cX8_ballots 2 = .ok (.imul, 1) := by decide +kernel
theorem dX8_ballots_3 : decode cX8_ballots 3 = .ok (.iload_n 2, 1) := by decide +kernel
theorem dX8_ballots_4 : decode cX8_ballots 4 = .ok (.iconst 2, 1) := by decide +kernel
theorem dX8_ballots_5 : decode cX8_ballots 5 = .ok (.if_icmp .ne 7, 3) := by decide +kernel
theorem dX8_ballots_8 : decode cX8_ballots 8 = .ok (.iconst 0, 1) := by decide +kernel
theorem dX8_ballots_9 : decode cX8_ballots 9 = .ok (.goto 4, 3) := by decide +kernel
theorem dX8_ballots_12 : decode cX8_ballots 12 = .ok (.iconst 1, 1) := by decide +kernel
theorem dX8_ballots_13 : decode cX8_ballots 13 = .ok (.iadd, 1) := by decide +kernel
theorem dX8_ballots_14 : decode cX8_ballots 14 = .ok (.aload_n 0, 1) := by decide +kernel
theorem dX8_ballots_15 : decode cX8_ballots 15 = .ok (.getfield 32, 3) := by decide +kernel
theorem dX8_ballots_18 : decode cX8_ballots 18 = .ok (.imul, 1) := by decide +kernel
theorem dX8_ballots_19 : decode cX8_ballots 19 = .ok (.ireturn, 1) := by decide +kernel
theorem dX8_top_0 : decode cX8_top 0 = .ok (.aload_n 0, 1) := by decide +kernel
theorem dX8_top_1 : decode cX8_top 1 = .ok (.getfield 21, 3) := by decide +kernel
theorem dX8_top_4 : decode cX8_top 4 = .ok (.iload_n 1, 1) := by decide +kernel
theorem dX8_top_5 : decode cX8_top 5 = .ok (.iconst 1, 1) := by decide +kernel
theorem dX8_top_6 : decode cX8_top 6 = .ok (.iand, 1) := by decide +kernel
theorem dX8_top_7 : decode cX8_top 7 = .ok (.iaload, 1) := by decide +kernel
theorem dX8_top_8 : decode cX8_top 8 = .ok (.ireturn, 1) := by decide +kernel
theorem dX8_proposal_0 : decode cX8_proposal 0 = .ok (.aload_n 0, 1) := by decide +kernel
theorem dX8_proposal_1 : decode cX8_proposal 1 = .ok (.iload_n 1, 1) := by decide +kernel
theorem dX8_proposal_2 : decode cX8_proposal 2 = .ok (.iload_n 2, 1) := by decide +kernel
theorem dX8_proposal_3 : decode cX8_proposal 3 = .ok (.invokevirtual 51, 3) := by decide +kernel
theorem dX8_proposal_6 : decode cX8_proposal 6 = .ok (.istore_n 3, 1) := by decide +kernel
theorem dX8_proposal_7 : decode cX8_proposal 7 = .ok (.iload_n 3, 1) := by decide +kernel
theorem dX8_proposal_8 : decode cX8_proposal 8 = .ok (.ifCond .ge 7, 3) := by decide +kernel
theorem dX8_proposal_11 : decode cX8_proposal 11 = .ok (.aconst_null, 1) := by decide +kernel
theorem dX8_proposal_12 : decode cX8_proposal 12 = .ok (.goto 9, 3) := by decide +kernel
theorem dX8_proposal_15 : decode cX8_proposal 15 = .ok (.aload_n 0, 1) := by decide +kernel
theorem dX8_proposal_16 : decode cX8_proposal 16 = .ok (.getfield 11, 3) := by decide +kernel
theorem dX8_proposal_19 : decode cX8_proposal 19 = .ok (.iload_n 3, 1) := by decide +kernel
theorem dX8_proposal_20 : decode cX8_proposal 20 = .ok (.aaload, 1) := by decide +kernel
theorem dX8_proposal_21 : decode cX8_proposal 21 = .ok (.areturn, 1) := by decide +kernel
theorem dX8_like_0 : decode cX8_like 0 = .ok (.aload_n 0, 1) := by decide +kernel
theorem dX8_like_1 : decode cX8_like 1 = .ok (.aload_n 1, 1) := by decide +kernel
theorem dX8_like_2 : decode cX8_like 2 = .ok (.iconst 2, 1) := by decide +kernel
theorem dX8_like_3 : decode cX8_like 3 = .ok (.invokevirtual 55, 3) := by decide +kernel
theorem dX8_like_6 : decode cX8_like 6 = .ok (.aload_n 1, 1) := by decide +kernel
theorem dX8_like_7 : decode cX8_like 7 = .ok (.iconst 4, 1) := by decide +kernel
theorem dX8_like_8 : decode cX8_like 8 = .ok (.invokevirtual 59, 3) := by decide +kernel
theorem dX8_like_11 : decode cX8_like 11 = .ok (.invokevirtual 51, 3) := by decide +kernel
theorem dX8_like_14 : decode cX8_like 14 = .ok (.istore_n 2, 1) := by decide +kernel
theorem dX8_like_15 : decode cX8_like 15 = .ok (.iload_n 2, 1) := by decide +kernel
theorem dX8_like_16 : decode cX8_like 16 = .ok (.ifCond .lt 14, 3) := by decide +kernel
theorem dX8_like_19 : decode cX8_like 19 = .ok (.aload_n 1, 1) := by decide +kernel
theorem dX8_like_20 : decode cX8_like 20 = .ok (.invokevirtual 62, 3) := by decide +kernel
theorem dX8_like_23 : decode cX8_like 23 = .ok (.aload_n 0, 1) := by decide +kernel
theorem dX8_like_24 : decode cX8_like 24 = .ok (.getfield 32, 3) := by decide +kernel
theorem dX8_like_27 : decode cX8_like 27 = .ok (.if_icmp .lt 5, 3) := by decide +kernel
theorem dX8_like_30 : decode cX8_like 30 = .ok (.aconst_null, 1) := by decide +kernel
theorem dX8_like_31 : decode cX8_like 31 = .ok (.areturn, 1) := by decide +kernel
theorem dX8_like_32 : decode cX8_like 32 = .ok (.aload_n 1, 1) := by decide +kernel
theorem dX8_like_33 : decode cX8_like 33 = .ok (.invokevirtual 66, 3) := by decide +kernel
theorem dX8_like_36 : decode cX8_like 36 = .ok (.iconst 1, 1) := by decide +kernel
theorem dX8_like_37 : decode cX8_like 37 = .ok (.if_icmp .ne 12, 3) := by decide +kernel
theorem dX8_like_40 : decode cX8_like 40 = .ok (.aload_n 0, 1) := by decide +kernel
theorem dX8_like_41 : decode cX8_like 41 = .ok (.getfield 11, 3) := by decide +kernel
theorem dX8_like_44 : decode cX8_like 44 = .ok (.iload_n 2, 1) := by decide +kernel
theorem dX8_like_45 : decode cX8_like 45 = .ok (.aaload, 1) := by decide +kernel
theorem dX8_like_46 : decode cX8_like 46 = .ok (.goto 22, 3) := by decide +kernel
theorem dX8_like_49 : decode cX8_like 49 = .ok (.aload_n 0, 1) := by decide +kernel
theorem dX8_like_50 : decode cX8_like 50 = .ok (.getfield 36, 3) := by decide +kernel
theorem dX8_like_53 : decode cX8_like 53 = .ok (.aload_n 0, 1) := by decide +kernel
theorem dX8_like_54 : decode cX8_like 54 = .ok (.iload_n 2, 1) := by decide +kernel
theorem dX8_like_55 : decode cX8_like 55 = .ok (.aload_n 1, 1) := by decide +kernel
theorem dX8_like_56 : decode cX8_like 56 = .ok (.invokevirtual 66, 3) := by decide +kernel
theorem dX8_like_59 : decode cX8_like 59 = .ok (.invokevirtual 69, 3) := by decide +kernel
theorem dX8_like_62 : decode cX8_like 62 = .ok (.aload_n 1, 1) := by decide +kernel
theorem dX8_like_63 : decode cX8_like 63 = .ok (.invokevirtual 62, 3) := by decide +kernel
theorem dX8_like_66 : decode cX8_like 66 = .ok (.iadd, 1) := by decide +kernel
theorem dX8_like_67 : decode cX8_like 67 = .ok (.aaload, 1) := by decide +kernel
theorem dX8_like_68 : decode cX8_like 68 = .ok (.areturn, 1) := by decide +kernel
theorem dX8_hold_0 : decode cX8_hold 0 = .ok (.aload_n 0, 1) := by decide +kernel
theorem dX8_hold_1 : decode cX8_hold 1 = .ok (.aload_n 1, 1) := by decide +kernel
theorem dX8_hold_2 : decode cX8_hold 2 = .ok (.iconst 2, 1) := by decide +kernel
theorem dX8_hold_3 : decode cX8_hold 3 = .ok (.invokevirtual 55, 3) := by decide +kernel
theorem dX8_hold_6 : decode cX8_hold 6 = .ok (.aload_n 1, 1) := by decide +kernel
theorem dX8_hold_7 : decode cX8_hold 7 = .ok (.iconst 4, 1) := by decide +kernel
theorem dX8_hold_8 : decode cX8_hold 8 = .ok (.invokevirtual 59, 3) := by decide +kernel
theorem dX8_hold_11 : decode cX8_hold 11 = .ok (.invokevirtual 51, 3) := by decide +kernel
theorem dX8_hold_14 : decode cX8_hold 14 = .ok (.istore_n 2, 1) := by decide +kernel
theorem dX8_hold_15 : decode cX8_hold 15 = .ok (.iload_n 2, 1) := by decide +kernel
theorem dX8_hold_16 : decode cX8_hold 16 = .ok (.ifCond .lt 14, 3) := by decide +kernel
theorem dX8_hold_19 : decode cX8_hold 19 = .ok (.aload_n 1, 1) := by decide +kernel
theorem dX8_hold_20 : decode cX8_hold 20 = .ok (.invokevirtual 62, 3) := by decide +kernel
theorem dX8_hold_23 : decode cX8_hold 23 = .ok (.aload_n 0, 1) := by decide +kernel
theorem dX8_hold_24 : decode cX8_hold 24 = .ok (.getfield 32, 3) := by decide +kernel
theorem dX8_hold_27 : decode cX8_hold 27 = .ok (.if_icmp .lt 4, 3) := by decide +kernel
theorem dX8_hold_30 : decode cX8_hold 30 = .ok (.return_, 1) := by decide +kernel
theorem dX8_hold_31 : decode cX8_hold 31 = .ok (.aload_n 1, 1) := by decide +kernel
theorem dX8_hold_32 : decode cX8_hold 32 = .ok (.invokevirtual 66, 3) := by decide +kernel
theorem dX8_hold_35 : decode cX8_hold 35 = .ok (.iconst 1, 1) := by decide +kernel
theorem dX8_hold_36 : decode cX8_hold 36 = .ok (.if_icmp .ne 10, 3) := by decide +kernel
theorem dX8_hold_39 : decode cX8_hold 39 = .ok (.aload_n 0, 1) := by decide +kernel
theorem dX8_hold_40 : decode cX8_hold 40 = .ok (.getfield 11, 3) := by decide +kernel
theorem dX8_hold_43 : decode cX8_hold 43 = .ok (.goto 7, 3) := by decide +kernel
theorem dX8_hold_46 : decode cX8_hold 46 = .ok (.aload_n 0, 1) := by decide +kernel
theorem dX8_hold_47 : decode cX8_hold 47 = .ok (.getfield 36, 3) := by decide +kernel
theorem dX8_hold_50 : decode cX8_hold 50 = .ok (.astore_n 3, 1) := by decide +kernel
theorem dX8_hold_51 : decode cX8_hold 51 = .ok (.aload_n 1, 1) := by decide +kernel
theorem dX8_hold_52 : decode cX8_hold 52 = .ok (.invokevirtual 66, 3) := by decide +kernel
theorem dX8_hold_55 : decode cX8_hold 55 = .ok (.iconst 1, 1) := by decide +kernel
theorem dX8_hold_56 : decode cX8_hold 56 = .ok (.if_icmp .ne 7, 3) := by decide +kernel
theorem dX8_hold_59 : decode cX8_hold 59 = .ok (.iload_n 2, 1) := by decide +kernel
theorem dX8_hold_60 : decode cX8_hold 60 = .ok (.goto 17, 3) := by decide +kernel
theorem dX8_hold_63 : decode cX8_hold 63 = .ok (.aload_n 0, 1) := by decide +kernel
theorem dX8_hold_64 : decode cX8_hold 64 = .ok (.iload_n 2, 1) := by decide +kernel
theorem dX8_hold_65 : decode cX8_hold 65 = .ok (.aload_n 1, 1) := by decide +kernel
theorem dX8_hold_66 : decode cX8_hold 66 = .ok (.invokevirtual 66, 3) := by decide +kernel
theorem dX8_hold_69 : decode cX8_hold 69 = .ok (.invokevirtual 69, 3) := by decide +kernel
theorem dX8_hold_72 : decode cX8_hold 72 = .ok (.aload_n 1, 1) := by decide +kernel
theorem dX8_hold_73 : decode cX8_hold 73 = .ok (.invokevirtual 62, 3) := by decide +kernel
theorem dX8_hold_76 : decode cX8_hold 76 = .ok (.iadd, 1) := by decide +kernel
theorem dX8_hold_77 : decode cX8_hold 77 = .ok (.istore 4, 2) := by decide +kernel
theorem dX8_hold_79 : decode cX8_hold 79 = .ok (.aload_n 3, 1) := by decide +kernel
theorem dX8_hold_80 : decode cX8_hold 80 = .ok (.iload 4, 2) := by decide +kernel
theorem dX8_hold_82 : decode cX8_hold 82 = .ok (.aaload, 1) := by decide +kernel
theorem dX8_hold_83 : decode cX8_hold 83 = .ok (.ifnull 4, 3) := by decide +kernel
theorem dX8_hold_86 : decode cX8_hold 86 = .ok (.return_, 1) := by decide +kernel
theorem dX8_hold_87 : decode cX8_hold 87 = .ok (.aload_n 3, 1) := by decide +kernel
theorem dX8_hold_88 : decode cX8_hold 88 = .ok (.iload 4, 2) := by decide +kernel
theorem dX8_hold_90 : decode cX8_hold 90 = .ok (.aload_n 1, 1) := by decide +kernel
theorem dX8_hold_91 : decode cX8_hold 91 = .ok (.aastore, 1) := by decide +kernel
theorem dX8_hold_92 : decode cX8_hold 92 = .ok (.aload_n 1, 1) := by decide +kernel
theorem dX8_hold_93 : decode cX8_hold 93 = .ok (.dup, 1) := by decide +kernel
theorem dX8_hold_94 : decode cX8_hold 94 = .ok (.getfield 72, 3) := by decide +kernel
theorem dX8_hold_97 : decode cX8_hold 97 = .ok (.iconst 1, 1) := by decide +kernel
theorem dX8_hold_98 : decode cX8_hold 98 = .ok (.iadd, 1) := by decide +kernel
theorem dX8_hold_99 : decode cX8_hold 99 = .ok (.putfield 72, 3) := by decide +kernel
theorem dX8_hold_102 : decode cX8_hold 102 = .ok (.aload_n 1, 1) := by decide +kernel
theorem dX8_hold_103 : decode cX8_hold 103 = .ok (.iconst 2, 1) := by decide +kernel
theorem dX8_hold_104 : decode cX8_hold 104 = .ok (.invokevirtual 55, 3) := by decide +kernel
theorem dX8_hold_107 : decode cX8_hold 107 = .ok (.iconst 1, 1) := by decide +kernel
theorem dX8_hold_108 : decode cX8_hold 108 = .ok (.iand, 1) := by decide +kernel
theorem dX8_hold_109 : decode cX8_hold 109 = .ok (.istore 5, 2) := by decide +kernel
theorem dX8_hold_111 : decode cX8_hold 111 = .ok (.aload_n 0, 1) := by decide +kernel
theorem dX8_hold_112 : decode cX8_hold 112 = .ok (.getfield 21, 3) := by decide +kernel
theorem dX8_hold_115 : decode cX8_hold 115 = .ok (.iload 5, 2) := by decide +kernel
theorem dX8_hold_117 : decode cX8_hold 117 = .ok (.aload_n 0, 1) := by decide +kernel
theorem dX8_hold_118 : decode cX8_hold 118 = .ok (.getfield 21, 3) := by decide +kernel
theorem dX8_hold_121 : decode cX8_hold 121 = .ok (.iload 5, 2) := by decide +kernel
theorem dX8_hold_123 : decode cX8_hold 123 = .ok (.iaload, 1) := by decide +kernel
theorem dX8_hold_124 : decode cX8_hold 124 = .ok (.aload_n 1, 1) := by decide +kernel
theorem dX8_hold_125 : decode cX8_hold 125 = .ok (.iconst 4, 1) := by decide +kernel
theorem dX8_hold_126 : decode cX8_hold 126 = .ok (.invokevirtual 59, 3) := by decide +kernel
theorem dX8_hold_129 : decode cX8_hold 129 = .ok (.iconst 1, 1) := by decide +kernel
theorem dX8_hold_130 : decode cX8_hold 130 = .ok (.iadd, 1) := by decide +kernel
theorem dX8_hold_131 : decode cX8_hold 131 = .ok (.invokestatic 75, 3) := by decide +kernel
theorem dX8_hold_134 : decode cX8_hold 134 = .ok (.iastore, 1) := by decide +kernel
theorem dX8_hold_135 : decode cX8_hold 135 = .ok (.return_, 1) := by decide +kernel
theorem dX8_verdict_0 : decode cX8_verdict 0 = .ok (.aload_n 0, 1) := by decide +kernel
theorem dX8_verdict_1 : decode cX8_verdict 1 = .ok (.iload_n 1, 1) := by decide +kernel
theorem dX8_verdict_2 : decode cX8_verdict 2 = .ok (.iload_n 2, 1) := by decide +kernel
theorem dX8_verdict_3 : decode cX8_verdict 3 = .ok (.invokevirtual 51, 3) := by decide +kernel
theorem dX8_verdict_6 : decode cX8_verdict 6 = .ok (.istore_n 3, 1) := by decide +kernel
theorem dX8_verdict_7 : decode cX8_verdict 7 = .ok (.iload_n 3, 1) := by decide +kernel
theorem dX8_verdict_8 : decode cX8_verdict 8 = .ok (.ifCond .ge 7, 3) := by decide +kernel
theorem dX8_verdict_11 : decode cX8_verdict 11 = .ok (.iconst 2, 1) := by decide +kernel
theorem dX8_verdict_12 : decode cX8_verdict 12 = .ok (.goto 9, 3) := by decide +kernel
theorem dX8_verdict_15 : decode cX8_verdict 15 = .ok (.aload_n 0, 1) := by decide +kernel
theorem dX8_verdict_16 : decode cX8_verdict 16 = .ok (.getfield 17, 3) := by decide +kernel
theorem dX8_verdict_19 : decode cX8_verdict 19 = .ok (.iload_n 3, 1) := by decide +kernel
theorem dX8_verdict_20 : decode cX8_verdict 20 = .ok (.iaload, 1) := by decide +kernel
theorem dX8_verdict_21 : decode cX8_verdict 21 = .ok (.ireturn, 1) := by decide +kernel
theorem dX8_judge_0 : decode cX8_judge 0 = .ok (.aload_n 0, 1) := by decide +kernel
theorem dX8_judge_1 : decode cX8_judge 1 = .ok (.iload_n 1, 1) := by decide +kernel
theorem dX8_judge_2 : decode cX8_judge 2 = .ok (.iload_n 2, 1) := by decide +kernel
theorem dX8_judge_3 : decode cX8_judge 3 = .ok (.invokevirtual 51, 3) := by decide +kernel
theorem dX8_judge_6 : decode cX8_judge 6 = .ok (.istore 4, 2) := by decide +kernel
theorem dX8_judge_8 : decode cX8_judge 8 = .ok (.iload 4, 2) := by decide +kernel
theorem dX8_judge_10 : decode cX8_judge 10 = .ok (.ifCond .lt 19, 3) := by decide +kernel
theorem dX8_judge_13 : decode cX8_judge 13 = .ok (.aload_n 0, 1) := by decide +kernel
theorem dX8_judge_14 : decode cX8_judge 14 = .ok (.getfield 17, 3) := by decide +kernel
theorem dX8_judge_17 : decode cX8_judge 17 = .ok (.iload 4, 2) := by decide +kernel
theorem dX8_judge_19 : decode cX8_judge 19 = .ok (.iload_n 3, 1) := by decide +kernel
theorem dX8_judge_20 : decode cX8_judge 20 = .ok (.ifCond .eq 7, 3) := by decide +kernel
theorem dX8_judge_23 : decode cX8_judge 23 = .ok (.iconst 1, 1) := by decide +kernel
theorem dX8_judge_24 : decode cX8_judge 24 = .ok (.goto 4, 3) := by decide +kernel
theorem dX8_judge_27 : decode cX8_judge 27 = .ok (.iconst 2, 1) := by decide +kernel
theorem dX8_judge_28 : decode cX8_judge 28 = .ok (.iastore, 1) := by decide +kernel
theorem dX8_judge_29 : decode cX8_judge 29 = .ok (.return_, 1) := by decide +kernel
theorem dX8_votesFor_0 : decode cX8_votesFor 0 = .ok (.aload_n 0, 1) := by decide +kernel
theorem dX8_votesFor_1 : decode cX8_votesFor 1 = .ok (.iload_n 2, 1) := by decide +kernel
theorem dX8_votesFor_2 : decode cX8_votesFor 2 = .ok (.iload_n 3, 1) := by decide +kernel
theorem dX8_votesFor_3 : decode cX8_votesFor 3 = .ok (.invokevirtual 51, 3) := by decide +kernel
theorem dX8_votesFor_6 : decode cX8_votesFor 6 = .ok (.istore 5, 2) := by decide +kernel
theorem dX8_votesFor_8 : decode cX8_votesFor 8 = .ok (.iload 5, 2) := by decide +kernel
theorem dX8_votesFor_10 : decode cX8_votesFor 10 = .ok (.ifCond .ge 7, 3) := by decide +kernel
theorem dX8_votesFor_13 : decode cX8_votesFor 13 = .ok (.iconst 0, 1) := by decide +kernel
theorem dX8_votesFor_14 : decode cX8_votesFor 14 = .ok (.goto 10, 3) := by decide +kernel
theorem dX8_votesFor_17 : decode cX8_votesFor 17 = .ok (.aload_n 0, 1) := by decide +kernel
theorem dX8_votesFor_18 : decode cX8_votesFor 18 = .ok (.iload 5, 2) := by decide +kernel
theorem dX8_votesFor_20 : decode cX8_votesFor 20 = .ok (.iload_n 1, 1) := by decide +kernel
theorem dX8_votesFor_21 : decode cX8_votesFor 21 = .ok (.invokevirtual 69, 3) := by decide +kernel
theorem dX8_votesFor_24 : decode cX8_votesFor 24 = .ok (.istore 6, 2) := by decide +kernel
theorem dX8_votesFor_26 : decode cX8_votesFor 26 = .ok (.iconst 0, 1) := by decide +kernel
theorem dX8_votesFor_27 : decode cX8_votesFor 27 = .ok (.istore 7, 2) := by decide +kernel
theorem dX8_votesFor_29 : decode cX8_votesFor 29 = .ok (.iconst 0, 1) := by decide +kernel
theorem dX8_votesFor_30 : decode cX8_votesFor 30 = .ok (.istore 8, 2) := by decide +kernel
theorem dX8_votesFor_32 : decode cX8_votesFor 32 = .ok (.iload 8, 2) := by decide +kernel
theorem dX8_votesFor_34 : decode cX8_votesFor 34 = .ok (.aload_n 0, 1) := by decide +kernel
theorem dX8_votesFor_35 : decode cX8_votesFor 35 = .ok (.getfield 32, 3) := by decide +kernel
theorem dX8_votesFor_38 : decode cX8_votesFor 38 = .ok (.if_icmp .ge 60, 3) := by decide +kernel
theorem dX8_votesFor_41 : decode cX8_votesFor 41 = .ok (.iload 5, 2) := by decide +kernel
theorem dX8_votesFor_43 : decode cX8_votesFor 43 = .ok (.ifCond .lt 55, 3) := by decide +kernel
theorem dX8_votesFor_46 : decode cX8_votesFor 46 = .ok (.aload_n 0, 1) := by decide +kernel
theorem dX8_votesFor_47 : decode cX8_votesFor 47 = .ok (.getfield 36, 3) := by decide +kernel
theorem dX8_votesFor_50 : decode cX8_votesFor 50 = .ok (.iload 6, 2) := by decide +kernel
theorem dX8_votesFor_52 : decode cX8_votesFor 52 = .ok (.iload 8, 2) := by decide +kernel
theorem dX8_votesFor_54 : decode cX8_votesFor 54 = .ok (.iadd, 1) := by decide +kernel
theorem dX8_votesFor_55 : decode cX8_votesFor 55 = .ok (.aaload, 1) := by decide +kernel
theorem dX8_votesFor_56 : decode cX8_votesFor 56 = .ok (.astore 9, 2) := by decide +kernel
theorem dX8_votesFor_58 : decode cX8_votesFor 58 = .ok (.aload 9, 2) := by decide +kernel
theorem dX8_votesFor_60 : decode cX8_votesFor 60 = .ok (.ifnull 32, 3) := by decide +kernel
theorem dX8_votesFor_63 : decode cX8_votesFor 63 = .ok (.aload 4, 2) := by decide +kernel
theorem dX8_votesFor_65 : decode cX8_votesFor 65 = .ok (.ifnonnull 14, 3) := by decide +kernel
theorem dX8_votesFor_68 : decode cX8_votesFor 68 = .ok (.aload 9, 2) := by decide +kernel
theorem dX8_votesFor_70 : decode cX8_votesFor 70 = .ok (.getfield 80, 3) := by decide +kernel
theorem dX8_votesFor_73 : decode cX8_votesFor 73 = .ok (.ifCond .ne 19, 3) := by decide +kernel
theorem dX8_votesFor_76 : decode cX8_votesFor 76 = .ok (.goto 13, 3) := by decide +kernel
theorem dX8_votesFor_79 : decode cX8_votesFor 79 = .ok (.aload 9, 2) := by decide +kernel
theorem dX8_votesFor_81 : decode cX8_votesFor 81 = .ok (.aload 4, 2) := by decide +kernel
theorem dX8_votesFor_83 : decode cX8_votesFor 83 = .ok (.invokevirtual 84, 3) := by decide +kernel
theorem dX8_votesFor_86 : decode cX8_votesFor 86 = .ok (.ifCond .eq 6, 3) := by decide +kernel
theorem dX8_votesFor_89 : decode cX8_votesFor 89 = .ok (.iinc 7 1, 3) := by decide +kernel
theorem dX8_votesFor_92 : decode cX8_votesFor 92 = .ok (.iinc 8 1, 3) := by decide +kernel
theorem dX8_votesFor_95 : decode cX8_votesFor 95 = .ok (.goto (-63), 3) := by decide +kernel
theorem dX8_votesFor_98 : decode cX8_votesFor 98 = .ok (.iload 7, 2) := by decide +kernel
theorem dX8_votesFor_100 : decode cX8_votesFor 100 = .ok (.ireturn, 1) := by decide +kernel
theorem dX8_votesInAll_0 : decode cX8_votesInAll 0 = .ok (.aload_n 0, 1) := by decide +kernel
theorem dX8_votesInAll_1 : decode cX8_votesInAll 1 = .ok (.iload_n 2, 1) := by decide +kernel
theorem dX8_votesInAll_2 : decode cX8_votesInAll 2 = .ok (.iload_n 3, 1) := by decide +kernel
theorem dX8_votesInAll_3 : decode cX8_votesInAll 3 = .ok (.invokevirtual 51, 3) := by decide +kernel
theorem dX8_votesInAll_6 : decode cX8_votesInAll 6 = .ok (.istore 4, 2) := by decide +kernel
theorem dX8_votesInAll_8 : decode cX8_votesInAll 8 = .ok (.iload 4, 2) := by decide +kernel
theorem dX8_votesInAll_10 : decode cX8_votesInAll 10 = .ok (.ifCond .ge 7, 3) := by decide +kernel
theorem dX8_votesInAll_13 : decode cX8_votesInAll 13 = .ok (.iconst 0, 1) := by decide +kernel
theorem dX8_votesInAll_14 : decode cX8_votesInAll 14 = .ok (.goto 10, 3) := by decide +kernel
theorem dX8_votesInAll_17 : decode cX8_votesInAll 17 = .ok (.aload_n 0, 1) := by decide +kernel
theorem dX8_votesInAll_18 : decode cX8_votesInAll 18 = .ok (.iload 4, 2) := by decide +kernel
theorem dX8_votesInAll_20 : decode cX8_votesInAll 20 = .ok (.iload_n 1, 1) := by decide +kernel
theorem dX8_votesInAll_21 : decode cX8_votesInAll 21 = .ok (.invokevirtual 69, 3) := by decide +kernel
theorem dX8_votesInAll_24 : decode cX8_votesInAll 24 = .ok (.istore 5, 2) := by decide +kernel
theorem dX8_votesInAll_26 : decode cX8_votesInAll 26 = .ok (.iconst 0, 1) := by decide +kernel
theorem dX8_votesInAll_27 : decode cX8_votesInAll 27 = .ok (.istore 6, 2) := by decide +kernel
theorem dX8_votesInAll_29 : decode cX8_votesInAll 29 = .ok (.iconst 0, 1) := by decide +kernel
theorem dX8_votesInAll_30 : decode cX8_votesInAll 30 = .ok (.istore 7, 2) := by decide +kernel
theorem dX8_votesInAll_32 : decode cX8_votesInAll 32 = .ok (.iload 7, 2) := by decide +kernel
theorem dX8_votesInAll_34 : decode cX8_votesInAll 34 = .ok (.aload_n 0, 1) := by decide +kernel
theorem dX8_votesInAll_35 : decode cX8_votesInAll 35 = .ok (.getfield 32, 3) := by decide +kernel
theorem dX8_votesInAll_38 : decode cX8_votesInAll 38 = .ok (.if_icmp .ge 30, 3) := by decide +kernel
theorem dX8_votesInAll_41 : decode cX8_votesInAll 41 = .ok (.iload 4, 2) := by decide +kernel
theorem dX8_votesInAll_43 : decode cX8_votesInAll 43 = .ok (.ifCond .lt 25, 3) := by decide +kernel
theorem dX8_votesInAll_46 : decode cX8_votesInAll 46 = .ok (.aload_n 0, 1) := by decide +kernel
theorem dX8_votesInAll_47 : decode cX8_votesInAll 47 = .ok (.getfield 36, 3) := by decide +kernel
theorem dX8_votesInAll_50 : decode cX8_votesInAll 50 = .ok (.iload 5, 2) := by decide +kernel
theorem dX8_votesInAll_52 : decode cX8_votesInAll 52 = .ok (.iload 7, 2) := by decide +kernel
theorem dX8_votesInAll_54 : decode cX8_votesInAll 54 = .ok (.iadd, 1) := by decide +kernel
theorem dX8_votesInAll_55 : decode cX8_votesInAll 55 = .ok (.aaload, 1) := by decide +kernel
theorem dX8_votesInAll_56 : decode cX8_votesInAll 56 = .ok (.ifnull 6, 3) := by decide +kernel
theorem dX8_votesInAll_59 : decode cX8_votesInAll 59 = .ok (.iinc 6 1, 3) := by decide +kernel
theorem dX8_votesInAll_62 : decode cX8_votesInAll 62 = .ok (.iinc 7 1, 3) := by decide +kernel
theorem dX8_votesInAll_65 : decode cX8_votesInAll 65 = .ok (.goto (-33), 3) := by decide +kernel
theorem dX8_votesInAll_68 : decode cX8_votesInAll 68 = .ok (.iload 6, 2) := by decide +kernel
theorem dX8_votesInAll_70 : decode cX8_votesInAll 70 = .ok (.ireturn, 1) := by decide +kernel
theorem dX8_signers_0 : decode cX8_signers 0 = .ok (.aload_n 0, 1) := by decide +kernel
theorem dX8_signers_1 : decode cX8_signers 1 = .ok (.iload_n 1, 1) := by decide +kernel
theorem dX8_signers_2 : decode cX8_signers 2 = .ok (.iload_n 2, 1) := by decide +kernel
theorem dX8_signers_3 : decode cX8_signers 3 = .ok (.invokevirtual 51, 3) := by decide +kernel
theorem dX8_signers_6 : decode cX8_signers 6 = .ok (.istore_n 3, 1) := by decide +kernel
theorem dX8_signers_7 : decode cX8_signers 7 = .ok (.iload_n 3, 1) := by decide +kernel
theorem dX8_signers_8 : decode cX8_signers 8 = .ok (.ifCond .ge 5, 3) := by decide +kernel
theorem dX8_signers_11 : decode cX8_signers 11 = .ok (.iconst 0, 1) := by decide +kernel
theorem dX8_signers_12 : decode cX8_signers 12 = .ok (.ireturn, 1) := by decide +kernel
theorem dX8_signers_13 : decode cX8_signers 13 = .ok (.aload_n 0, 1) := by decide +kernel
theorem dX8_signers_14 : decode cX8_signers 14 = .ok (.iload_n 3, 1) := by decide +kernel
theorem dX8_signers_15 : decode cX8_signers 15 = .ok (.iconst 2, 1) := by decide +kernel
theorem dX8_signers_16 : decode cX8_signers 16 = .ok (.invokevirtual 69, 3) := by decide +kernel
theorem dX8_signers_19 : decode cX8_signers 19 = .ok (.istore 4, 2) := by decide +kernel
theorem dX8_signers_21 : decode cX8_signers 21 = .ok (.aload_n 0, 1) := by decide +kernel
theorem dX8_signers_22 : decode cX8_signers 22 = .ok (.iload_n 3, 1) := by decide +kernel
theorem dX8_signers_23 : decode cX8_signers 23 = .ok (.iconst 3, 1) := by decide +kernel
theorem dX8_signers_24 : decode cX8_signers 24 = .ok (.invokevirtual 69, 3) := by decide +kernel
theorem dX8_signers_27 : decode cX8_signers 27 = .ok (.istore 5, 2) := by decide +kernel
