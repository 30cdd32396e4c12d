theorem dX11_lie_138 : decode cX11_lie 138 = .ok (.goto 4, 3) := by decide +kernel
theorem dX11_lie_141 : decode cX11_lie 141 = .ok (.iconst 0, 1) := by decide +kernel
theorem dX11_lie_142 : decode cX11_lie 142 = .ok (.ireturn, 1) := by decide +kernel
theorem dX11_pass_0 : decode cX11_pass 0 = .ok (.aload_n 0, 1) := by decide +kernel
theorem dX11_pass_1 : decode cX11_pass 1 = .ok (.getfield 22, 3) := by decide +kernel
theorem dX11_pass_4 : decode cX11_pass 4 = .ok (.getfield 38, 3) := by decide +kernel
theorem dX11_pass_7 : decode cX11_pass 7 = .ok (.iload_n 3, 1) := by decide +kernel
theorem dX11_pass_8 : decode cX11_pass 8 = .ok (.invokevirtual 84, 3) := by decide +kernel
theorem dX11_pass_11 : decode cX11_pass 11 = .ok (.astore 4, 2) := by decide +kernel
theorem dX11_pass_13 : decode cX11_pass 13 = .ok (.aload 4, 2) := by decide +kernel
theorem dX11_pass_15 : decode cX11_pass 15 = .ok (.ifnull 12, 3) := by decide +kernel
theorem dX11_pass_18 : decode cX11_pass 18 = .ok (.aload_n 0, 1) := by decide +kernel
theorem dX11_pass_19 : decode cX11_pass 19 = .ok (.iload_n 1, 1) := by decide +kernel
theorem dX11_pass_20 : decode cX11_pass 20 = .ok (.iload_n 2, 1) := by decide +kernel
theorem dX11_pass_21 : decode cX11_pass 21 = .ok (.invokevirtual 34, 3) := by decide +kernel
theorem dX11_pass_24 : decode cX11_pass 24 = .ok (.ifCond .ne 5, 3) := by decide +kernel
theorem dX11_pass_27 : decode cX11_pass 27 = .ok (.iconst 0, 1) := by decide +kernel
theorem dX11_pass_28 : decode cX11_pass 28 = .ok (.ireturn, 1) := by decide +kernel
theorem dX11_pass_29 : decode cX11_pass 29 = .ok (.aload_n 0, 1) := by decide +kernel
theorem dX11_pass_30 : decode cX11_pass 30 = .ok (.getfield 22, 3) := by decide +kernel
theorem dX11_pass_33 : decode cX11_pass 33 = .ok (.getfield 38, 3) := by decide +kernel
theorem dX11_pass_36 : decode cX11_pass 36 = .ok (.iload_n 1, 1) := by decide +kernel
theorem dX11_pass_37 : decode cX11_pass 37 = .ok (.iload_n 2, 1) := by decide +kernel
theorem dX11_pass_38 : decode cX11_pass 38 = .ok (.aload 4, 2) := by decide +kernel
theorem dX11_pass_40 : decode cX11_pass 40 = .ok (.invokevirtual 76, 3) := by decide +kernel
theorem dX11_pass_43 : decode cX11_pass 43 = .ok (.iconst 1, 1) := by decide +kernel
theorem dX11_pass_44 : decode cX11_pass 44 = .ok (.ireturn, 1) := by decide +kernel
theorem dX11_mayLie_0 : decode cX11_mayLie 0 = .ok (.iload_n 1, 1) := by decide +kernel
theorem dX11_mayLie_1 : decode cX11_mayLie 1 = .ok (.aload_n 0, 1) := by decide +kernel
theorem dX11_mayLie_2 : decode cX11_mayLie 2 = .ok (.getfield 22, 3) := by decide +kernel
theorem dX11_mayLie_5 : decode cX11_mayLie 5 = .ok (.getfield 69, 3) := by decide +kernel
theorem dX11_mayLie_8 : decode cX11_mayLie 8 = .ok (.if_icmp .lt 51, 3) := by decide +kernel
theorem dX11_mayLie_11 : decode cX11_mayLie 11 = .ok (.iload_n 1, 1) := by decide +kernel
theorem dX11_mayLie_12 : decode cX11_mayLie 12 = .ok (.aload_n 0, 1) := by decide +kernel
theorem dX11_mayLie_13 : decode cX11_mayLie 13 = .ok (.getfield 22, 3) := by decide +kernel
theorem dX11_mayLie_16 : decode cX11_mayLie 16 = .ok (.getfield 87, 3) := by decide +kernel
theorem dX11_mayLie_19 : decode cX11_mayLie 19 = .ok (.if_icmp .ge 40, 3) := by decide +kernel
theorem dX11_mayLie_22 : decode cX11_mayLie 22 = .ok (.iload_n 2, 1) := by decide +kernel
theorem dX11_mayLie_23 : decode cX11_mayLie 23 = .ok (.ifCond .lt 36, 3) := by decide +kernel
theorem dX11_mayLie_26 : decode cX11_mayLie 26 = .ok (.iload_n 2, 1) := by decide +kernel
theorem dX11_mayLie_27 : decode cX11_mayLie 27 = .ok (.aload_n 0, 1) := by decide +kernel
theorem dX11_mayLie_28 : decode cX11_mayLie 28 = .ok (.getfield 22, 3) := by decide +kernel
theorem dX11_mayLie_31 : decode cX11_mayLie 31 = .ok (.getfield 87, 3) := by decide +kernel
theorem dX11_mayLie_34 : decode cX11_mayLie 34 = .ok (.if_icmp .ge 25, 3) := by decide +kernel
theorem dX11_mayLie_37 : decode cX11_mayLie 37 = .ok (.iload_n 1, 1) := by decide +kernel
theorem dX11_mayLie_38 : decode cX11_mayLie 38 = .ok (.iload_n 2, 1) := by decide +kernel
theorem dX11_mayLie_39 : decode cX11_mayLie 39 = .ok (.if_icmp .eq 20, 3) := by decide +kernel
theorem dX11_mayLie_42 : decode cX11_mayLie 42 = .ok (.aload_n 0, 1) := by decide +kernel
theorem dX11_mayLie_43 : decode cX11_mayLie 43 = .ok (.getfield 22, 3) := by decide +kernel
theorem dX11_mayLie_46 : decode cX11_mayLie 46 = .ok (.getfield 38, 3) := by decide +kernel
theorem dX11_mayLie_49 : decode cX11_mayLie 49 = .ok (.invokevirtual 90, 3) := by decide +kernel
theorem dX11_mayLie_52 : decode cX11_mayLie 52 = .ok (.ifCond .eq 7, 3) := by decide +kernel
theorem dX11_mayLie_55 : decode cX11_mayLie 55 = .ok (.iconst 1, 1) := by decide +kernel
theorem dX11_mayLie_56 : decode cX11_mayLie 56 = .ok (.goto 4, 3) := by decide +kernel
theorem dX11_mayLie_59 : decode cX11_mayLie 59 = .ok (.iconst 0, 1) := by decide +kernel
theorem dX11_mayLie_60 : decode cX11_mayLie 60 = .ok (.ireturn, 1) := by decide +kernel
theorem dX11_seal_0 : decode cX11_seal 0 = .ok (.iload_n 1, 1) := by decide +kernel
theorem dX11_seal_1 : decode cX11_seal 1 = .ok (.ifCond .lt 23, 3) := by decide +kernel
theorem dX11_seal_4 : decode cX11_seal 4 = .ok (.iload_n 2, 1) := by decide +kernel
theorem dX11_seal_5 : decode cX11_seal 5 = .ok (.ifCond .lt 19, 3) := by decide +kernel
theorem dX11_seal_8 : decode cX11_seal 8 = .ok (.iload_n 2, 1) := by decide +kernel
theorem dX11_seal_9 : decode cX11_seal 9 = .ok (.aload_n 0, 1) := by decide +kernel
theorem dX11_seal_10 : decode cX11_seal 10 = .ok (.getfield 26, 3) := by decide +kernel
theorem dX11_seal_13 : decode cX11_seal 13 = .ok (.if_icmp .gt 11, 3) := by decide +kernel
theorem dX11_seal_16 : decode cX11_seal 16 = .ok (.iload_n 2, 1) := by decide +kernel
theorem dX11_seal_17 : decode cX11_seal 17 = .ok (.iload_n 1, 1) := by decide +kernel
theorem dX11_seal_18 : decode cX11_seal 18 = .ok (.isub, 1) := by decide +kernel
theorem dX11_seal_19 : decode cX11_seal 19 = .ok (.bipush 101, 2) := by decide +kernel
theorem dX11_seal_21 : decode cX11_seal 21 = .ok (.if_icmp .ge 5, 3) := by decide +kernel
theorem dX11_seal_24 : decode cX11_seal 24 = .ok (.iconst (-1), 1) := by decide +kernel
theorem dX11_seal_25 : decode cX11_seal 25 = .ok (.ireturn, 1) := by decide +kernel
theorem dX11_seal_26 : decode cX11_seal 26 = .ok (.aload_n 0, 1) := by decide +kernel
theorem dX11_seal_27 : decode cX11_seal 27 = .ok (.iload_n 1, 1) := by decide +kernel
theorem dX11_seal_28 : decode cX11_seal 28 = .ok (.iload_n 2, 1) := by decide +kernel
theorem dX11_seal_29 : decode cX11_seal 29 = .ok (.invokevirtual 94, 3) := by decide +kernel
theorem dX11_seal_32 : decode cX11_seal 32 = .ok (.istore 4, 2) := by decide +kernel
theorem dX11_seal_34 : decode cX11_seal 34 = .ok (.iload 4, 2) := by decide +kernel
theorem dX11_seal_36 : decode cX11_seal 36 = .ok (.ifCond .ge 19, 3) := by decide +kernel
theorem dX11_seal_39 : decode cX11_seal 39 = .ok (.aload_n 0, 1) := by decide +kernel
theorem dX11_seal_40 : decode cX11_seal 40 = .ok (.getfield 9, 3) := by decide +kernel
theorem dX11_seal_43 : decode cX11_seal 43 = .ok (.iload_n 1, 1) := by decide +kernel
theorem dX11_seal_44 : decode cX11_seal 44 = .ok (.bipush 100, 2) := by decide +kernel
theorem dX11_seal_46 : decode cX11_seal 46 = .ok (.iadd, 1) := by decide +kernel
theorem dX11_seal_47 : decode cX11_seal 47 = .ok (.iconst 0, 1) := by decide +kernel
theorem dX11_seal_48 : decode cX11_seal 48 = .ok (.bastore, 1) := by decide +kernel
theorem dX11_seal_49 : decode cX11_seal 49 = .ok (.iload_n 1, 1) := by decide +kernel
theorem dX11_seal_50 : decode cX11_seal 50 = .ok (.bipush 101, 2) := by decide +kernel
theorem dX11_seal_52 : decode cX11_seal 52 = .ok (.iadd, 1) := by decide +kernel
theorem dX11_seal_53 : decode cX11_seal 53 = .ok (.istore 4, 2) := by decide +kernel
theorem dX11_seal_55 : decode cX11_seal 55 = .ok (.bipush 64, 2) := by decide +kernel
theorem dX11_seal_57 : decode cX11_seal 57 = .ok (.iload_n 2, 1) := by decide +kernel
theorem dX11_seal_58 : decode cX11_seal 58 = .ok (.iload 4, 2) := by decide +kernel
theorem dX11_seal_60 : decode cX11_seal 60 = .ok (.isub, 1) := by decide +kernel
theorem dX11_seal_61 : decode cX11_seal 61 = .ok (.bipush 7, 2) := by decide +kernel
theorem dX11_seal_63 : decode cX11_seal 63 = .ok (.idiv, 1) := by decide +kernel
theorem dX11_seal_64 : decode cX11_seal 64 = .ok (.invokestatic 98, 3) := by decide +kernel
theorem dX11_seal_67 : decode cX11_seal 67 = .ok (.istore 5, 2) := by decide +kernel
theorem dX11_seal_69 : decode cX11_seal 69 = .ok (.aload_n 0, 1) := by decide +kernel
theorem dX11_seal_70 : decode cX11_seal 70 = .ok (.getfield 9, 3) := by decide +kernel
theorem dX11_seal_73 : decode cX11_seal 73 = .ok (.iload_n 1, 1) := by decide +kernel
theorem dX11_seal_74 : decode cX11_seal 74 = .ok (.bipush 99, 2) := by decide +kernel
theorem dX11_seal_76 : decode cX11_seal 76 = .ok (.iadd, 1) := by decide +kernel
theorem dX11_seal_77 : decode cX11_seal 77 = .ok (.iload 5, 2) := by decide +kernel
theorem dX11_seal_79 : decode cX11_seal 79 = .ok (.i2b, 1) := by decide +kernel
theorem dX11_seal_80 : decode cX11_seal 80 = .ok (.bastore, 1) := by decide +kernel
theorem dX11_seal_81 : decode cX11_seal 81 = .ok (.aload_n 0, 1) := by decide +kernel
theorem dX11_seal_82 : decode cX11_seal 82 = .ok (.getfield 22, 3) := by decide +kernel
theorem dX11_seal_85 : decode cX11_seal 85 = .ok (.getfield 103, 3) := by decide +kernel
theorem dX11_seal_88 : decode cX11_seal 88 = .ok (.aload_n 0, 1) := by decide +kernel
theorem dX11_seal_89 : decode cX11_seal 89 = .ok (.getfield 9, 3) := by decide +kernel
theorem dX11_seal_92 : decode cX11_seal 92 = .ok (.iload_n 1, 1) := by decide +kernel
theorem dX11_seal_93 : decode cX11_seal 93 = .ok (.invokevirtual 107, 3) := by decide +kernel
theorem dX11_seal_96 : decode cX11_seal 96 = .ok (.aload_n 0, 1) := by decide +kernel
theorem dX11_seal_97 : decode cX11_seal 97 = .ok (.getfield 22, 3) := by decide +kernel
theorem dX11_seal_100 : decode cX11_seal 100 = .ok (.getfield 103, 3) := by decide +kernel
theorem dX11_seal_103 : decode cX11_seal 103 = .ok (.iconst (-1), 1) := by decide +kernel
theorem dX11_seal_104 : decode cX11_seal 104 = .ok (.aload_n 0, 1) := by decide +kernel
theorem dX11_seal_105 : decode cX11_seal 105 = .ok (.getfield 9, 3) := by decide +kernel
theorem dX11_seal_108 : decode cX11_seal 108 = .ok (.iload_n 1, 1) := by decide +kernel
theorem dX11_seal_109 : decode cX11_seal 109 = .ok (.invokevirtual 113, 3) := by decide +kernel
theorem dX11_seal_112 : decode cX11_seal 112 = .ok (.pop, 1) := by decide +kernel
theorem dX11_seal_113 : decode cX11_seal 113 = .ok (.aload_n 0, 1) := by decide +kernel
theorem dX11_seal_114 : decode cX11_seal 114 = .ok (.getfield 22, 3) := by decide +kernel
theorem dX11_seal_117 : decode cX11_seal 117 = .ok (.getfield 103, 3) := by decide +kernel
theorem dX11_seal_120 : decode cX11_seal 120 = .ok (.aload_n 0, 1) := by decide +kernel
theorem dX11_seal_121 : decode cX11_seal 121 = .ok (.getfield 9, 3) := by decide +kernel
theorem dX11_seal_124 : decode cX11_seal 124 = .ok (.iload_n 1, 1) := by decide +kernel
theorem dX11_seal_125 : decode cX11_seal 125 = .ok (.bipush 67, 2) := by decide +kernel
theorem dX11_seal_127 : decode cX11_seal 127 = .ok (.iadd, 1) := by decide +kernel
theorem dX11_seal_128 : decode cX11_seal 128 = .ok (.invokevirtual 117, 3) := by decide +kernel
theorem dX11_seal_131 : decode cX11_seal 131 = .ok (.aload_n 0, 1) := by decide +kernel
theorem dX11_seal_132 : decode cX11_seal 132 = .ok (.iload_n 3, 1) := by decide +kernel
theorem dX11_seal_133 : decode cX11_seal 133 = .ok (.invokevirtual 120, 3) := by decide +kernel
theorem dX11_seal_136 : decode cX11_seal 136 = .ok (.astore 6, 2) := by decide +kernel
theorem dX11_seal_138 : decode cX11_seal 138 = .ok (.aload 6, 2) := by decide +kernel
theorem dX11_seal_140 : decode cX11_seal 140 = .ok (.ifnull 43, 3) := by decide +kernel
theorem dX11_seal_143 : decode cX11_seal 143 = .ok (.aload 6, 2) := by decide +kernel
theorem dX11_seal_145 : decode cX11_seal 145 = .ok (.getfield 124, 3) := by decide +kernel
theorem dX11_seal_148 : decode cX11_seal 148 = .ok (.iconst 0, 1) := by decide +kernel
theorem dX11_seal_149 : decode cX11_seal 149 = .ok (.aload_n 0, 1) := by decide +kernel
theorem dX11_seal_150 : decode cX11_seal 150 = .ok (.getfield 9, 3) := by decide +kernel
theorem dX11_seal_153 : decode cX11_seal 153 = .ok (.iload_n 1, 1) := by decide +kernel
theorem dX11_seal_154 : decode cX11_seal 154 = .ok (.iconst 3, 1) := by decide +kernel
theorem dX11_seal_155 : decode cX11_seal 155 = .ok (.iadd, 1) := by decide +kernel
theorem dX11_seal_156 : decode cX11_seal 156 = .ok (.bipush 32, 2) := by decide +kernel
theorem dX11_seal_158 : decode cX11_seal 158 = .ok (.invokestatic 53, 3) := by decide +kernel
theorem dX11_seal_161 : decode cX11_seal 161 = .ok (.aload 6, 2) := by decide +kernel
theorem dX11_seal_163 : decode cX11_seal 163 = .ok (.getfield 129, 3) := by decide +kernel
theorem dX11_seal_166 : decode cX11_seal 166 = .ok (.getfield 133, 3) := by decide +kernel
theorem dX11_seal_169 : decode cX11_seal 169 = .ok (.iconst 0, 1) := by decide +kernel
theorem dX11_seal_170 : decode cX11_seal 170 = .ok (.aload_n 0, 1) := by decide +kernel
theorem dX11_seal_171 : decode cX11_seal 171 = .ok (.getfield 9, 3) := by decide +kernel
theorem dX11_seal_174 : decode cX11_seal 174 = .ok (.iload_n 1, 1) := by decide +kernel
theorem dX11_seal_175 : decode cX11_seal 175 = .ok (.bipush 35, 2) := by decide +kernel
theorem dX11_seal_177 : decode cX11_seal 177 = .ok (.iadd, 1) := by decide +kernel
theorem dX11_seal_178 : decode cX11_seal 178 = .ok (.bipush 32, 2) := by decide +kernel
theorem dX11_seal_180 : decode cX11_seal 180 = .ok (.invokestatic 53, 3) := by decide +kernel
theorem dX11_seal_183 : decode cX11_seal 183 = .ok (.iload 5, 2) := by decide +kernel
theorem dX11_seal_185 : decode cX11_seal 185 = .ok (.ireturn, 1) := by decide +kernel
theorem dX11_behindEvidences_0 : decode cX11_behindEvidences 0 = .ok (.aload_n 0, 1) := by decide +kernel
theorem dX11_behindEvidences_1 : decode cX11_behindEvidences 1 = .ok (.getfield 9, 3) := by decide +kernel
theorem dX11_behindEvidences_4 : decode cX11_behindEvidences 4 = .ok (.iload_n 1, 1) := by decide +kernel
theorem dX11_behindEvidences_5 : decode cX11_behindEvidences 5 = .ok (.bipush 100, 2) := by decide +kernel
theorem dX11_behindEvidences_7 : decode cX11_behindEvidences 7 = .ok (.iadd, 1) := by decide +kernel
theorem dX11_behindEvidences_8 : decode cX11_behindEvidences 8 = .ok (.baload, 1) := by decide +kernel
theorem dX11_behindEvidences_9 : decode cX11_behindEvidences 9 = .ok (.sipush 255, 3) := by decide +kernel
theorem dX11_behindEvidences_12 : decode cX11_behindEvidences 12 = .ok (.iand, 1) := by decide +kernel
theorem dX11_behindEvidences_13 : decode cX11_behindEvidences 13 = .ok (.istore_n 3, 1) := by decide +kernel
theorem dX11_behindEvidences_14 : decode cX11_behindEvidences 14 = .ok (.iload_n 3, 1) := by decide +kernel
theorem dX11_behindEvidences_15 : decode cX11_behindEvidences 15 = .ok (.iconst 2, 1) := by decide +kernel
theorem dX11_behindEvidences_16 : decode cX11_behindEvidences 16 = .ok (.if_icmp .le 5, 3) := by decide +kernel
theorem dX11_behindEvidences_19 : decode cX11_behindEvidences 19 = .ok (.iconst (-1), 1) := by decide +kernel
theorem dX11_behindEvidences_20 : decode cX11_behindEvidences 20 = .ok (.ireturn, 1) := by decide +kernel
theorem dX11_behindEvidences_21 : decode cX11_behindEvidences 21 = .ok (.iload_n 1, 1) := by decide +kernel
theorem dX11_behindEvidences_22 : decode cX11_behindEvidences 22 = .ok (.bipush 101, 2) := by decide +kernel
theorem dX11_behindEvidences_24 : decode cX11_behindEvidences 24 = .ok (.iadd, 1) := by decide +kernel
theorem dX11_behindEvidences_25 : decode cX11_behindEvidences 25 = .ok (.istore 4, 2) := by decide +kernel
theorem dX11_behindEvidences_27 : decode cX11_behindEvidences 27 = .ok (.iconst 0, 1) := by decide +kernel
theorem dX11_behindEvidences_28 : decode cX11_behindEvidences 28 = .ok (.istore 5, 2) := by decide +kernel
theorem dX11_behindEvidences_30 : decode cX11_behindEvidences 30 = .ok (.iload 5, 2) := by decide +kernel
theorem dX11_behindEvidences_32 : decode cX11_behindEvidences 32 = .ok (.iload_n 3, 1) := by decide +kernel
theorem dX11_behindEvidences_33 : decode cX11_behindEvidences 33 = .ok (.if_icmp .ge 35, 3) := by decide +kernel
theorem dX11_behindEvidences_36 : decode cX11_behindEvidences 36 = .ok (.aload_n 0, 1) := by decide +kernel
theorem dX11_behindEvidences_37 : decode cX11_behindEvidences 37 = .ok (.getfield 9, 3) := by decide +kernel
theorem dX11_behindEvidences_40 : decode cX11_behindEvidences 40 = .ok (.iload 4, 2) := by decide +kernel
theorem dX11_behindEvidences_42 : decode cX11_behindEvidences 42 = .ok (.iload_n 2, 1) := by decide +kernel
theorem dX11_behindEvidences_43 : decode cX11_behindEvidences 43 = .ok (.invokestatic 138, 3) := by decide +kernel
theorem dX11_behindEvidences_46 : decode cX11_behindEvidences 46 = .ok (.istore 6, 2) := by decide +kernel
theorem dX11_behindEvidences_48 : decode cX11_behindEvidences 48 = .ok (.iload 6, 2) := by decide +kernel
theorem dX11_behindEvidences_50 : decode cX11_behindEvidences 50 = .ok (.ifCond .ge 5, 3) := by decide +kernel
theorem dX11_behindEvidences_53 : decode cX11_behindEvidences 53 = .ok (.iconst (-1), 1) := by decide +kernel
theorem dX11_behindEvidences_54 : decode cX11_behindEvidences 54 = .ok (.ireturn, 1) := by decide +kernel
theorem dX11_behindEvidences_55 : decode cX11_behindEvidences 55 = .ok (.iload 4, 2) := by decide +kernel
theorem dX11_behindEvidences_57 : decode cX11_behindEvidences 57 = .ok (.iload 6, 2) := by decide +kernel
theorem dX11_behindEvidences_59 : decode cX11_behindEvidences 59 = .ok (.iadd, 1) := by decide +kernel
theorem dX11_behindEvidences_60 : decode cX11_behindEvidences 60 = .ok (.istore 4, 2) := by decide +kernel
theorem dX11_behindEvidences_62 : decode cX11_behindEvidences 62 = .ok (.iinc 5 1, 3) := by decide +kernel
theorem dX11_behindEvidences_65 : decode cX11_behindEvidences 65 = .ok (.goto (-35), 3) := by decide +kernel
theorem dX11_behindEvidences_68 : decode cX11_behindEvidences 68 = .ok (.iload 4, 2) := by decide +kernel
theorem dX11_behindEvidences_70 : decode cX11_behindEvidences 70 = .ok (.ireturn, 1) := by decide +kernel
theorem dX11_stamp_0 : decode cX11_stamp 0 = .ok (.iload_n 1, 1) := by decide +kernel
theorem dX11_stamp_1 : decode cX11_stamp 1 = .ok (.ifCond .lt 14, 3) := by decide +kernel
theorem dX11_stamp_4 : decode cX11_stamp 4 = .ok (.iload_n 1, 1) := by decide +kernel
theorem dX11_stamp_5 : decode cX11_stamp 5 = .ok (.aload_n 0, 1) := by decide +kernel
theorem dX11_stamp_6 : decode cX11_stamp 6 = .ok (.getfield 26, 3) := by decide +kernel
theorem dX11_stamp_9 : decode cX11_stamp 9 = .ok (.bipush 32, 2) := by decide +kernel
theorem dX11_stamp_11 : decode cX11_stamp 11 = .ok (.isub, 1) := by decide +kernel
theorem dX11_stamp_12 : decode cX11_stamp 12 = .ok (.if_icmp .le 5, 3) := by decide +kernel
theorem dX11_stamp_15 : decode cX11_stamp 15 = .ok (.iconst 0, 1) := by decide +kernel
theorem dX11_stamp_16 : decode cX11_stamp 16 = .ok (.ireturn, 1) := by decide +kernel
theorem dX11_stamp_17 : decode cX11_stamp 17 = .ok (.iload_n 2, 1) := by decide +kernel
theorem dX11_stamp_18 : decode cX11_stamp 18 = .ok (.iconst (-1), 1) := by decide +kernel
theorem dX11_stamp_19 : decode cX11_stamp 19 = .ok (.if_icmp .ne 46, 3) := by decide +kernel
theorem dX11_stamp_22 : decode cX11_stamp 22 = .ok (.iload_n 3, 1) := by decide +kernel
theorem dX11_stamp_23 : decode cX11_stamp 23 = .ok (.ifCond .lt 14, 3) := by decide +kernel
theorem dX11_stamp_26 : decode cX11_stamp 26 = .ok (.iload_n 3, 1) := by decide +kernel
theorem dX11_stamp_27 : decode cX11_stamp 27 = .ok (.aload_n 0, 1) := by decide +kernel
theorem dX11_stamp_28 : decode cX11_stamp 28 = .ok (.getfield 26, 3) := by decide +kernel
theorem dX11_stamp_31 : decode cX11_stamp 31 = .ok (.bipush 101, 2) := by decide +kernel
theorem dX11_stamp_33 : decode cX11_stamp 33 = .ok (.isub, 1) := by decide +kernel
theorem dX11_stamp_34 : decode cX11_stamp 34 = .ok (.if_icmp .le 5, 3) := by decide +kernel
theorem dX11_stamp_37 : decode cX11_stamp 37 = .ok (.iconst 0, 1) := by decide +kernel
theorem dX11_stamp_38 : decode cX11_stamp 38 = .ok (.ireturn, 1) := by decide +kernel
theorem dX11_stamp_39 : decode cX11_stamp 39 = .ok (.aload_n 0, 1) := by decide +kernel
theorem dX11_stamp_40 : decode cX11_stamp 40 = .ok (.getfield 22, 3) := by decide +kernel
theorem dX11_stamp_43 : decode cX11_stamp 43 = .ok (.getfield 103, 3) := by decide +kernel
theorem dX11_stamp_46 : decode cX11_stamp 46 = .ok (.aload_n 0, 1) := by decide +kernel
theorem dX11_stamp_47 : decode cX11_stamp 47 = .ok (.getfield 9, 3) := by decide +kernel
theorem dX11_stamp_50 : decode cX11_stamp 50 = .ok (.iload_n 3, 1) := by decide +kernel
theorem dX11_stamp_51 : decode cX11_stamp 51 = .ok (.iload_n 3, 1) := by decide +kernel
theorem dX11_stamp_52 : decode cX11_stamp 52 = .ok (.bipush 101, 2) := by decide +kernel
theorem dX11_stamp_54 : decode cX11_stamp 54 = .ok (.iadd, 1) := by decide +kernel
theorem dX11_stamp_55 : decode cX11_stamp 55 = .ok (.aload_n 0, 1) := by decide +kernel
theorem dX11_stamp_56 : decode cX11_stamp 56 = .ok (.getfield 9, 3) := by decide +kernel
theorem dX11_stamp_59 : decode cX11_stamp 59 = .ok (.iload_n 1, 1) := by decide +kernel
theorem dX11_stamp_60 : decode cX11_stamp 60 = .ok (.invokevirtual 142, 3) := by decide +kernel
theorem dX11_stamp_63 : decode cX11_stamp 63 = .ok (.iconst 1, 1) := by decide +kernel
theorem dX11_stamp_64 : decode cX11_stamp 64 = .ok (.ireturn, 1) := by decide +kernel
theorem dX11_stamp_65 : decode cX11_stamp 65 = .ok (.aload_n 0, 1) := by decide +kernel
theorem dX11_stamp_66 : decode cX11_stamp 66 = .ok (.getfield 22, 3) := by decide +kernel
theorem dX11_stamp_69 : decode cX11_stamp 69 = .ok (.getfield 38, 3) := by decide +kernel
theorem dX11_stamp_72 : decode cX11_stamp 72 = .ok (.iload_n 2, 1) := by decide +kernel
theorem dX11_stamp_73 : decode cX11_stamp 73 = .ok (.invokevirtual 84, 3) := by decide +kernel
theorem dX11_stamp_76 : decode cX11_stamp 76 = .ok (.astore 4, 2) := by decide +kernel
theorem dX11_stamp_78 : decode cX11_stamp 78 = .ok (.aload 4, 2) := by decide +kernel
theorem dX11_stamp_80 : decode cX11_stamp 80 = .ok (.ifnonnull 7, 3) := by decide +kernel
theorem dX11_stamp_83 : decode cX11_stamp 83 = .ok (.iconst (-1), 1) := by decide +kernel
theorem dX11_stamp_84 : decode cX11_stamp 84 = .ok (.goto 8, 3) := by decide +kernel
theorem dX11_stamp_87 : decode cX11_stamp 87 = .ok (.aload 4, 2) := by decide +kernel
theorem dX11_stamp_89 : decode cX11_stamp 89 = .ok (.invokevirtual 146, 3) := by decide +kernel
theorem dX11_stamp_92 : decode cX11_stamp 92 = .ok (.istore 5, 2) := by decide +kernel
theorem dX11_stamp_94 : decode cX11_stamp 94 = .ok (.aload 4, 2) := by decide +kernel
theorem dX11_stamp_96 : decode cX11_stamp 96 = .ok (.ifnull 21, 3) := by decide +kernel
theorem dX11_stamp_99 : decode cX11_stamp 99 = .ok (.iload 5, 2) := by decide +kernel
theorem dX11_stamp_101 : decode cX11_stamp 101 = .ok (.ifCond .lt 16, 3) := by decide +kernel
theorem dX11_stamp_104 : decode cX11_stamp 104 = .ok (.aload 4, 2) := by decide +kernel
theorem dX11_stamp_106 : decode cX11_stamp 106 = .ok (.getfield 150, 3) := by decide +kernel
theorem dX11_stamp_109 : decode cX11_stamp 109 = .ok (.iload 5, 2) := by decide +kernel
theorem dX11_stamp_111 : decode cX11_stamp 111 = .ok (.isub, 1) := by decide +kernel
theorem dX11_stamp_112 : decode cX11_stamp 112 = .ok (.bipush 101, 2) := by decide +kernel
theorem dX11_stamp_114 : decode cX11_stamp 114 = .ok (.if_icmp .ge 5, 3) := by decide +kernel
theorem dX11_stamp_117 : decode cX11_stamp 117 = .ok (.iconst 0, 1) := by decide +kernel
theorem dX11_stamp_118 : decode cX11_stamp 118 = .ok (.ireturn, 1) := by decide +kernel
theorem dX11_stamp_119 : decode cX11_stamp 119 = .ok (.aload_n 0, 1) := by decide +kernel
theorem dX11_stamp_120 : decode cX11_stamp 120 = .ok (.getfield 22, 3) := by decide +kernel
theorem dX11_stamp_123 : decode cX11_stamp 123 = .ok (.getfield 103, 3) := by decide +kernel
theorem dX11_stamp_126 : decode cX11_stamp 126 = .ok (.aload 4, 2) := by decide +kernel
theorem dX11_stamp_128 : decode cX11_stamp 128 = .ok (.getfield 48, 3) := by decide +kernel
theorem dX11_stamp_131 : decode cX11_stamp 131 = .ok (.iload 5, 2) := by decide +kernel
theorem dX11_stamp_133 : decode cX11_stamp 133 = .ok (.iload 5, 2) := by decide +kernel
theorem dX11_stamp_135 : decode cX11_stamp 135 = .ok (.bipush 101, 2) := by decide +kernel
theorem dX11_stamp_137 : decode cX11_stamp 137 = .ok (.iadd, 1) := by decide +kernel
theorem dX11_stamp_138 : decode cX11_stamp 138 = .ok (.aload_n 0, 1) := by decide +kernel
theorem dX11_stamp_139 : decode cX11_stamp 139 = .ok (.getfield 9, 3) := by decide +kernel
theorem dX11_stamp_142 : decode cX11_stamp 142 = .ok (.iload_n 1, 1) := by decide +kernel
theorem dX11_stamp_143 : decode cX11_stamp 143 = .ok (.invokevirtual 142, 3) := by decide +kernel
theorem dX11_stamp_146 : decode cX11_stamp 146 = .ok (.iconst 1, 1) := by decide +kernel
theorem dX11_stamp_147 : decode cX11_stamp 147 = .ok (.ireturn, 1) := by decide +kernel
theorem dX11_hash_0 : decode cX11_hash 0 = .ok (.iload_n 1, 1) := by decide +kernel
theorem dX11_hash_1 : decode cX11_hash 1 = .ok (.ifCond .lt 20, 3) := by decide +kernel
theorem dX11_hash_4 : decode cX11_hash 4 = .ok (.iload_n 1, 1) := by decide +kernel
theorem dX11_hash_5 : decode cX11_hash 5 = .ok (.aload_n 0, 1) := by decide +kernel
theorem dX11_hash_6 : decode cX11_hash 6 = .ok (.getfield 26, 3) := by decide +kernel
theorem dX11_hash_9 : decode cX11_hash 9 = .ok (.if_icmp .gt 12, 3) := by decide +kernel
theorem dX11_hash_12 : decode cX11_hash 12 = .ok (.iload_n 2, 1) := by decide +kernel
theorem dX11_hash_13 : decode cX11_hash 13 = .ok (.ifCond .lt 8, 3) := by decide +kernel
theorem dX11_hash_16 : decode cX11_hash 16 = .ok (.iload_n 2, 1) := by decide +kernel
theorem dX11_hash_17 : decode cX11_hash 17 = .ok (.iconst 3, 1) := by decide +kernel
theorem dX11_hash_18 : decode cX11_hash 18 = .ok (.if_icmp .le 5, 3) := by decide +kernel
theorem dX11_hash_21 : decode cX11_hash 21 = .ok (.lconst 0, 1) := by decide +kernel
theorem dX11_hash_22 : decode cX11_hash 22 = .ok (.lreturn, 1) := by decide +kernel
theorem dX11_hash_23 : decode cX11_hash 23 = .ok (.aload_n 0, 1) := by decide +kernel
theorem dX11_hash_24 : decode cX11_hash 24 = .ok (.getfield 22, 3) := by decide +kernel
theorem dX11_hash_27 : decode cX11_hash 27 = .ok (.getfield 103, 3) := by decide +kernel
theorem dX11_hash_30 : decode cX11_hash 30 = .ok (.aload_n 0, 1) := by decide +kernel
theorem dX11_hash_31 : decode cX11_hash 31 = .ok (.getfield 9, 3) := by decide +kernel
theorem dX11_hash_34 : decode cX11_hash 34 = .ok (.iconst 0, 1) := by decide +kernel
theorem dX11_hash_35 : decode cX11_hash 35 = .ok (.iload_n 1, 1) := by decide +kernel
theorem dX11_hash_36 : decode cX11_hash 36 = .ok (.aload_n 0, 1) := by decide +kernel
theorem dX11_hash_37 : decode cX11_hash 37 = .ok (.getfield 13, 3) := by decide +kernel
theorem dX11_hash_40 : decode cX11_hash 40 = .ok (.iconst 0, 1) := by decide +kernel
theorem dX11_hash_41 : decode cX11_hash 41 = .ok (.invokevirtual 142, 3) := by decide +kernel
theorem dX11_hash_44 : decode cX11_hash 44 = .ok (.aload_n 0, 1) := by decide +kernel
theorem dX11_hash_45 : decode cX11_hash 45 = .ok (.getfield 13, 3) := by decide +kernel
theorem dX11_hash_48 : decode cX11_hash 48 = .ok (.bipush 32, 2) := by decide +kernel
theorem dX11_hash_50 : decode cX11_hash 50 = .ok (.bipush 8, 2) := by decide +kernel
theorem dX11_hash_52 : decode cX11_hash 52 = .ok (.iload_n 2, 1) := by decide +kernel
theorem dX11_hash_53 : decode cX11_hash 53 = .ok (.imul, 1) := by decide +kernel
theorem dX11_hash_54 : decode cX11_hash 54 = .ok (.invokestatic 153, 3) := by decide +kernel
theorem dX11_hash_57 : decode cX11_hash 57 = .ok (.lreturn, 1) := by decide +kernel
theorem dX11_submit_0 : decode cX11_submit 0 = .ok (.aload_n 0, 1) := by decide +kernel
theorem dX11_submit_1 : decode cX11_submit 1 = .ok (.iload_n 1, 1) := by decide +kernel
theorem dX11_submit_2 : decode cX11_submit 2 = .ok (.invokevirtual 120, 3) := by decide +kernel
theorem dX11_submit_5 : decode cX11_submit 5 = .ok (.astore 7, 2) := by decide +kernel
theorem dX11_submit_7 : decode cX11_submit 7 = .ok (.aload 7, 2) := by decide +kernel
theorem dX11_submit_9 : decode cX11_submit 9 = .ok (.ifnull 36, 3) := by decide +kernel
theorem dX11_submit_12 : decode cX11_submit 12 = .ok (.aload 7, 2) := by decide +kernel
theorem dX11_submit_14 : decode cX11_submit 14 = .ok (.getfield 157, 3) := by decide +kernel
theorem dX11_submit_17 : decode cX11_submit 17 = .ok (.ifCond .eq 28, 3) := by decide +kernel
theorem dX11_submit_20 : decode cX11_submit 20 = .ok (.iload_n 2, 1) := by decide +kernel
theorem dX11_submit_21 : decode cX11_submit 21 = .ok (.ifCond .lt 24, 3) := by decide +kernel
theorem dX11_submit_24 : decode cX11_submit 24 = .ok (.iload_n 2, 1) := by decide +kernel
theorem dX11_submit_25 : decode cX11_submit 25 = .ok (.bipush 16, 2) := by decide +kernel
theorem dX11_submit_27 : decode cX11_submit 27 = .ok (.if_icmp .ge 18, 3) := by decide +kernel
theorem dX11_submit_30 : decode cX11_submit 30 = .ok (.iload_n 3, 1) := by decide +kernel
theorem dX11_submit_31 : decode cX11_submit 31 = .ok (.ifCond .lt 14, 3) := by decide +kernel
theorem dX11_submit_34 : decode cX11_submit 34 = .ok (.iload_n 3, 1) := by decide +kernel
theorem dX11_submit_35 : decode cX11_submit 35 = .ok (.bipush 16, 2) := by decide +kernel
theorem dX11_submit_37 : decode cX11_submit 37 = .ok (.if_icmp .ge 8, 3) := by decide +kernel
theorem dX11_submit_40 : decode cX11_submit 40 = .ok (.iload_n 2, 1) := by decide +kernel
theorem dX11_submit_41 : decode cX11_submit 41 = .ok (.iload_n 3, 1) := by decide +kernel
theorem dX11_submit_42 : decode cX11_submit 42 = .ok (.if_icmp .ne 5, 3) := by decide +kernel
theorem dX11_submit_45 : decode cX11_submit 45 = .ok (.iconst 0, 1) := by decide +kernel
theorem dX11_submit_46 : decode cX11_submit 46 = .ok (.ireturn, 1) := by decide +kernel
theorem dX11_submit_47 : decode cX11_submit 47 = .ok (.iload 4, 2) := by decide +kernel
theorem dX11_submit_49 : decode cX11_submit 49 = .ok (.iconst 1, 1) := by decide +kernel
theorem dX11_submit_50 : decode cX11_submit 50 = .ok (.if_icmp .lt 36, 3) := by decide +kernel
theorem dX11_submit_53 : decode cX11_submit 53 = .ok (.iload 4, 2) := by decide +kernel
theorem dX11_submit_55 : decode cX11_submit 55 = .ok (.sipush 1000, 3) := by decide +kernel
theorem dX11_submit_58 : decode cX11_submit 58 = .ok (.if_icmp .gt 28, 3) := by decide +kernel
theorem dX11_submit_61 : decode cX11_submit 61 = .ok (.iload 5, 2) := by decide +kernel
theorem dX11_submit_63 : decode cX11_submit 63 = .ok (.ifCond .lt 23, 3) := by decide +kernel
theorem dX11_submit_66 : decode cX11_submit 66 = .ok (.iload 5, 2) := by decide +kernel
theorem dX11_submit_68 : decode cX11_submit 68 = .ok (.ldc 161, 2) := by decide +kernel
theorem dX11_submit_70 : decode cX11_submit 70 = .ok (.if_icmp .gt 16, 3) := by decide +kernel
theorem dX11_submit_73 : decode cX11_submit 73 = .ok (.iload 6, 2) := by decide +kernel
theorem dX11_submit_75 : decode cX11_submit 75 = .ok (.iconst 1, 1) := by decide +kernel
theorem dX11_submit_76 : decode cX11_submit 76 = .ok (.if_icmp .lt 10, 3) := by decide +kernel
theorem dX11_submit_79 : decode cX11_submit 79 = .ok (.iload 6, 2) := by decide +kernel
theorem dX11_submit_81 : decode cX11_submit 81 = .ok (.bipush 9, 2) := by decide +kernel
theorem dX11_submit_83 : decode cX11_submit 83 = .ok (.if_icmp .le 5, 3) := by decide +kernel
theorem dX11_submit_86 : decode cX11_submit 86 = .ok (.iconst 0, 1) := by decide +kernel
theorem dX11_submit_87 : decode cX11_submit 87 = .ok (.ireturn, 1) := by decide +kernel
theorem dX11_submit_88 : decode cX11_submit 88 = .ok (.iload_n 2, 1) := by decide +kernel
theorem dX11_submit_89 : decode cX11_submit 89 = .ok (.i2l, 1) := by decide +kernel
theorem dX11_submit_90 : decode cX11_submit 90 = .ok (.bipush 48, 2) := by decide +kernel
theorem dX11_submit_92 : decode cX11_submit 92 = .ok (.lshl, 1) := by decide +kernel
theorem dX11_submit_93 : decode cX11_submit 93 = .ok (.iload_n 3, 1) := by decide +kernel
theorem dX11_submit_94 : decode cX11_submit 94 = .ok (.i2l, 1) := by decide +kernel
theorem dX11_submit_95 : decode cX11_submit 95 = .ok (.bipush 40, 2) := by decide +kernel
theorem dX11_submit_97 : decode cX11_submit 97 = .ok (.lshl, 1) := by decide +kernel
theorem dX11_submit_98 : decode cX11_submit 98 = .ok (.lor, 1) := by decide +kernel
theorem dX11_submit_99 : decode cX11_submit 99 = .ok (.iload 4, 2) := by decide +kernel
theorem dX11_submit_101 : decode cX11_submit 101 = .ok (.i2l, 1) := by decide +kernel
theorem dX11_submit_102 : decode cX11_submit 102 = .ok (.bipush 24, 2) := by decide +kernel
theorem dX11_submit_104 : decode cX11_submit 104 = .ok (.lshl, 1) := by decide +kernel
theorem dX11_submit_105 : decode cX11_submit 105 = .ok (.lor, 1) := by decide +kernel
theorem dX11_submit_106 : decode cX11_submit 106 = .ok (.iload 5, 2) := by decide +kernel
theorem dX11_submit_108 : decode cX11_submit 108 = .ok (.i2l, 1) := by decide +kernel
theorem dX11_submit_109 : decode cX11_submit 109 = .ok (.bipush 8, 2) := by decide +kernel
theorem dX11_submit_111 : decode cX11_submit 111 = .ok (.lshl, 1) := by decide +kernel
theorem dX11_submit_112 : decode cX11_submit 112 = .ok (.lor, 1) := by decide +kernel
theorem dX11_submit_113 : decode cX11_submit 113 = .ok (.iload 6, 2) := by decide +kernel
theorem dX11_submit_115 : decode cX11_submit 115 = .ok (.i2l, 1) := by decide +kernel
theorem dX11_submit_116 : decode cX11_submit 116 = .ok (.lor, 1) := by decide +kernel
theorem dX11_submit_117 : decode cX11_submit 117 = .ok (.lstore 8, 2) := by decide +kernel
theorem dX11_submit_119 : decode cX11_submit 119 = .ok (.aload 7, 2) := by decide +kernel
theorem dX11_submit_121 : decode cX11_submit 121 = .ok (.getfield 162, 3) := by decide +kernel
theorem dX11_submit_124 : decode cX11_submit 124 = .ok (.lload 8, 2) := by decide +kernel
theorem dX11_submit_126 : decode cX11_submit 126 = .ok (.invokevirtual 166, 3) := by decide +kernel
theorem dX11_submit_129 : decode cX11_submit 129 = .ok (.ifCond .ne 5, 3) := by decide +kernel
theorem dX11_submit_132 : decode cX11_submit 132 = .ok (.iconst 0, 1) := by decide +kernel
theorem dX11_submit_133 : decode cX11_submit 133 = .ok (.ireturn, 1) := by decide +kernel
theorem dX11_submit_134 : decode cX11_submit 134 = .ok (.aload_n 0, 1) := by decide +kernel
theorem dX11_submit_135 : decode cX11_submit 135 = .ok (.getfield 22, 3) := by decide +kernel
theorem dX11_submit_138 : decode cX11_submit 138 = .ok (.getfield 38, 3) := by decide +kernel
theorem dX11_submit_141 : decode cX11_submit 141 = .ok (.bipush 8, 2) := by decide +kernel
theorem dX11_submit_143 : decode cX11_submit 143 = .ok (.invokevirtual 42, 3) := by decide +kernel
theorem dX11_submit_146 : decode cX11_submit 146 = .ok (.astore 10, 2) := by decide +kernel
theorem dX11_submit_148 : decode cX11_submit 148 = .ok (.aload 10, 2) := by decide +kernel
theorem dX11_submit_150 : decode cX11_submit 150 = .ok (.getfield 48, 3) := by decide +kernel
theorem dX11_submit_153 : decode cX11_submit 153 = .ok (.iconst 0, 1) := by decide +kernel
theorem dX11_submit_154 : decode cX11_submit 154 = .ok (.iconst 0, 1) := by decide +kernel
theorem dX11_submit_155 : decode cX11_submit 155 = .ok (.bastore, 1) := by decide +kernel
theorem dX11_submit_156 : decode cX11_submit 156 = .ok (.lload 8, 2) := by decide +kernel
theorem dX11_submit_158 : decode cX11_submit 158 = .ok (.aload 10, 2) := by decide +kernel
theorem dX11_submit_160 : decode cX11_submit 160 = .ok (.getfield 48, 3) := by decide +kernel
theorem dX11_submit_163 : decode cX11_submit 163 = .ok (.iconst 1, 1) := by decide +kernel
theorem dX11_submit_164 : decode cX11_submit 164 = .ok (.invokestatic 172, 3) := by decide +kernel
theorem dX11_submit_167 : decode cX11_submit 167 = .ok (.aload_n 0, 1) := by decide +kernel
theorem dX11_submit_168 : decode cX11_submit 168 = .ok (.getfield 22, 3) := by decide +kernel
theorem dX11_submit_171 : decode cX11_submit 171 = .ok (.iload_n 1, 1) := by decide +kernel
theorem dX11_submit_172 : decode cX11_submit 172 = .ok (.aload 10, 2) := by decide +kernel
theorem dX11_submit_174 : decode cX11_submit 174 = .ok (.iload_n 1, 1) := by decide +kernel
theorem dX11_submit_175 : decode cX11_submit 175 = .ok (.iload_n 1, 1) := by decide +kernel
theorem dX11_submit_176 : decode cX11_submit 176 = .ok (.invokevirtual 176, 3) := by decide +kernel
theorem dX11_submit_179 : decode cX11_submit 179 = .ok (.aload_n 0, 1) := by decide +kernel
theorem dX11_submit_180 : decode cX11_submit 180 = .ok (.getfield 22, 3) := by decide +kernel
theorem dX11_submit_183 : decode cX11_submit 183 = .ok (.getfield 38, 3) := by decide +kernel
theorem dX11_submit_186 : decode cX11_submit 186 = .ok (.aload 10, 2) := by decide +kernel
theorem dX11_submit_188 : decode cX11_submit 188 = .ok (.invokevirtual 80, 3) := by decide +kernel
theorem dX11_submit_191 : decode cX11_submit 191 = .ok (.iconst 1, 1) := by decide +kernel
theorem dX11_submit_192 : decode cX11_submit 192 = .ok (.ireturn, 1) := by decide +kernel
theorem dX11_deliver_0 : decode cX11_deliver 0 = .ok (.aload_n 0, 1) := by decide +kernel
theorem dX11_deliver_1 : decode cX11_deliver 1 = .ok (.getfield 22, 3) := by decide +kernel
theorem dX11_deliver_4 : decode cX11_deliver 4 = .ok (.iload_n 1, 1) := by decide +kernel
theorem dX11_deliver_5 : decode cX11_deliver 5 = .ok (.invokevirtual 180, 3) := by decide +kernel
theorem dX11_deliver_8 : decode cX11_deliver 8 = .ok (.ireturn, 1) := by decide +kernel
theorem dX11_calm_0 : decode cX11_calm 0 = .ok (.iload_n 1, 1) := by decide +kernel
theorem dX11_calm_1 : decode cX11_calm 1 = .ok (.iconst 1, 1) := by decide +kernel
theorem dX11_calm_2 : decode cX11_calm 2 = .ok (.if_icmp .lt 19, 3) := by decide +kernel
theorem dX11_calm_5 : decode cX11_calm 5 = .ok (.iload_n 1, 1) := by decide +kernel
theorem dX11_calm_6 : decode cX11_calm 6 = .ok (.bipush 64, 2) := by decide +kernel
theorem dX11_calm_8 : decode cX11_calm 8 = .ok (.if_icmp .gt 13, 3) := by decide +kernel
theorem dX11_calm_11 : decode cX11_calm 11 = .ok (.iload_n 2, 1) := by decide +kernel
theorem dX11_calm_12 : decode cX11_calm 12 = .ok (.ifCond .lt 9, 3) := by decide +kernel
theorem dX11_calm_15 : decode cX11_calm 15 = .ok (.iload_n 2, 1) := by decide +kernel
theorem dX11_calm_16 : decode cX11_calm 16 = .ok (.bipush 9, 2) := by decide +kernel
theorem dX11_calm_18 : decode cX11_calm 18 = .ok (.if_icmp .le 5, 3) := by decide +kernel
theorem dX11_calm_21 : decode cX11_calm 21 = .ok (.iconst (-1), 1) := by decide +kernel
theorem dX11_calm_22 : decode cX11_calm 22 = .ok (.ireturn, 1) := by decide +kernel
theorem dX11_calm_23 : decode cX11_calm 23 = .ok (.iconst 0, 1) := by decide +kernel
theorem dX11_calm_24 : decode cX11_calm 24 = .ok (.istore_n 3, 1) := by decide +kernel
theorem dX11_calm_25 : decode cX11_calm 25 = .ok (.iconst 0, 1) := by decide +kernel
theorem dX11_calm_26 : decode cX11_calm 26 = .ok (.istore 4, 2) := by decide +kernel
theorem dX11_calm_28 : decode cX11_calm 28 = .ok (.iload 4, 2) := by decide +kernel
theorem dX11_calm_30 : decode cX11_calm 30 = .ok (.iload_n 1, 1) := by decide +kernel
theorem dX11_calm_31 : decode cX11_calm 31 = .ok (.if_icmp .ge 53, 3) := by decide +kernel
theorem dX11_calm_34 : decode cX11_calm 34 = .ok (.iload_n 3, 1) := by decide +kernel
theorem dX11_calm_35 : decode cX11_calm 35 = .ok (.sipush 5000, 3) := by decide +kernel
theorem dX11_calm_38 : decode cX11_calm 38 = .ok (.if_icmp .ge 32, 3) := by decide +kernel
theorem dX11_calm_41 : decode cX11_calm 41 = .ok (.aload_n 0, 1) := by decide +kernel
theorem dX11_calm_42 : decode cX11_calm 42 = .ok (.getfield 22, 3) := by decide +kernel
theorem dX11_calm_45 : decode cX11_calm 45 = .ok (.getfield 38, 3) := by decide +kernel
theorem dX11_calm_48 : decode cX11_calm 48 = .ok (.iload_n 2, 1) := by decide +kernel
theorem dX11_calm_49 : decode cX11_calm 49 = .ok (.invokevirtual 184, 3) := by decide +kernel
theorem dX11_calm_52 : decode cX11_calm 52 = .ok (.ifCond .eq 18, 3) := by decide +kernel
theorem dX11_calm_55 : decode cX11_calm 55 = .ok (.aload_n 0, 1) := by decide +kernel
theorem dX11_calm_56 : decode cX11_calm 56 = .ok (.getfield 22, 3) := by decide +kernel
theorem dX11_calm_59 : decode cX11_calm 59 = .ok (.iconst 0, 1) := by decide +kernel
theorem dX11_calm_60 : decode cX11_calm 60 = .ok (.invokevirtual 180, 3) := by decide +kernel
theorem dX11_calm_63 : decode cX11_calm 63 = .ok (.pop, 1) := by decide +kernel
theorem dX11_calm_64 : decode cX11_calm 64 = .ok (.iinc 3 1, 3) := by decide +kernel
theorem dX11_calm_67 : decode cX11_calm 67 = .ok (.goto (-33), 3) := by decide +kernel
theorem dX11_calm_70 : decode cX11_calm 70 = .ok (.aload_n 0, 1) := by decide +kernel
theorem dX11_calm_71 : decode cX11_calm 71 = .ok (.getfield 22, 3) := by decide +kernel
theorem dX11_calm_74 : decode cX11_calm 74 = .ok (.invokevirtual 188, 3) := by decide +kernel
theorem dX11_calm_77 : decode cX11_calm 77 = .ok (.pop, 1) := by decide +kernel
theorem dX11_calm_78 : decode cX11_calm 78 = .ok (.iinc 4 1, 3) := by decide +kernel
theorem dX11_calm_81 : decode cX11_calm 81 = .ok (.goto (-53), 3) := by decide +kernel
theorem dX11_calm_84 : decode cX11_calm 84 = .ok (.iload_n 3, 1) := by decide +kernel
theorem dX11_calm_85 : decode cX11_calm 85 = .ok (.ireturn, 1) := by decide +kernel
theorem dX11_copy_0 : decode cX11_copy 0 = .ok (.aload_n 0, 1) := by decide +kernel
theorem dX11_copy_1 : decode cX11_copy 1 = .ok (.getfield 22, 3) := by decide +kernel
theorem dX11_copy_4 : decode cX11_copy 4 = .ok (.getfield 38, 3) := by decide +kernel
theorem dX11_copy_7 : decode cX11_copy 7 = .ok (.astore_n 2, 1) := by decide +kernel
theorem dX11_copy_8 : decode cX11_copy 8 = .ok (.aload_n 2, 1) := by decide +kernel
theorem dX11_copy_9 : decode cX11_copy 9 = .ok (.iload_n 1, 1) := by decide +kernel
theorem dX11_copy_10 : decode cX11_copy 10 = .ok (.invokevirtual 84, 3) := by decide +kernel
theorem dX11_copy_13 : decode cX11_copy 13 = .ok (.astore_n 3, 1) := by decide +kernel
theorem dX11_copy_14 : decode cX11_copy 14 = .ok (.aload_n 3, 1) := by decide +kernel
theorem dX11_copy_15 : decode cX11_copy 15 = .ok (.ifnull 10, 3) := by decide +kernel
theorem dX11_copy_18 : decode cX11_copy 18 = .ok (.aload_n 2, 1) := by decide +kernel
theorem dX11_copy_19 : decode cX11_copy 19 = .ok (.invokevirtual 90, 3) := by decide +kernel
theorem dX11_copy_22 : decode cX11_copy 22 = .ok (.ifCond .ne 5, 3) := by decide +kernel
theorem dX11_copy_25 : decode cX11_copy 25 = .ok (.iconst 0, 1) := by decide +kernel
theorem dX11_copy_26 : decode cX11_copy 26 = .ok (.ireturn, 1) := by decide +kernel
theorem dX11_copy_27 : decode cX11_copy 27 = .ok (.aload_n 2, 1) := by decide +kernel
theorem dX11_copy_28 : decode cX11_copy 28 = .ok (.aload_n 2, 1) := by decide +kernel
theorem dX11_copy_29 : decode cX11_copy 29 = .ok (.iload_n 1, 1) := by decide +kernel
theorem dX11_copy_30 : decode cX11_copy 30 = .ok (.invokevirtual 191, 3) := by decide +kernel
theorem dX11_copy_33 : decode cX11_copy 33 = .ok (.aload_n 2, 1) := by decide +kernel
theorem dX11_copy_34 : decode cX11_copy 34 = .ok (.iload_n 1, 1) := by decide +kernel
theorem dX11_copy_35 : decode cX11_copy 35 = .ok (.invokevirtual 194, 3) := by decide +kernel
theorem dX11_copy_38 : decode cX11_copy 38 = .ok (.aload_n 3, 1) := by decide +kernel
theorem dX11_copy_39 : decode cX11_copy 39 = .ok (.invokevirtual 197, 3) := by decide +kernel
theorem dX11_copy_42 : decode cX11_copy 42 = .ok (.iconst 1, 1) := by decide +kernel
theorem dX11_copy_43 : decode cX11_copy 43 = .ok (.ireturn, 1) := by decide +kernel
theorem dX11_flying_0 : decode cX11_flying 0 = .ok (.aload_n 0, 1) := by decide +kernel
theorem dX11_flying_1 : decode cX11_flying 1 = .ok (.getfield 22, 3) := by decide +kernel
theorem dX11_flying_4 : decode cX11_flying 4 = .ok (.getfield 38, 3) := by decide +kernel
theorem dX11_flying_7 : decode cX11_flying 7 = .ok (.iload_n 1, 1) := by decide +kernel
theorem dX11_flying_8 : decode cX11_flying 8 = .ok (.invokevirtual 84, 3) := by decide +kernel
theorem dX11_flying_11 : decode cX11_flying 11 = .ok (.astore_n 3, 1) := by decide +kernel
theorem dX11_flying_12 : decode cX11_flying 12 = .ok (.aload_n 3, 1) := by decide +kernel
theorem dX11_flying_13 : decode cX11_flying 13 = .ok (.ifnonnull 5, 3) := by decide +kernel
theorem dX11_flying_16 : decode cX11_flying 16 = .ok (.iconst (-1), 1) := by decide +kernel
theorem dX11_flying_17 : decode cX11_flying 17 = .ok (.ireturn, 1) := by decide +kernel
theorem dX11_flying_18 : decode cX11_flying 18 = .ok (.iload_n 2, 1) := by decide +kernel
theorem dX11_flying_19 : decode cX11_flying 19 = .ok (.tableswitch 54 0 2 #[25, 37, 49], 25) := by decide +kernel
theorem dX11_flying_44 : decode cX11_flying 44 = .ok (.aload_n 0, 1) := by decide +kernel
theorem dX11_flying_45 : decode cX11_flying 45 = .ok (.getfield 22, 3) := by decide +kernel
theorem dX11_flying_48 : decode cX11_flying 48 = .ok (.getfield 38, 3) := by decide +kernel
theorem dX11_flying_51 : decode cX11_flying 51 = .ok (.iload_n 1, 1) := by decide +kernel
theorem dX11_flying_52 : decode cX11_flying 52 = .ok (.invokevirtual 191, 3) := by decide +kernel
theorem dX11_flying_55 : decode cX11_flying 55 = .ok (.ireturn, 1) := by decide +kernel
theorem dX11_flying_56 : decode cX11_flying 56 = .ok (.aload_n 0, 1) := by decide +kernel
theorem dX11_flying_57 : decode cX11_flying 57 = .ok (.getfield 22, 3) := by decide +kernel
theorem dX11_flying_60 : decode cX11_flying 60 = .ok (.getfield 38, 3) := by decide +kernel
theorem dX11_flying_63 : decode cX11_flying 63 = .ok (.iload_n 1, 1) := by decide +kernel
theorem dX11_flying_64 : decode cX11_flying 64 = .ok (.invokevirtual 194, 3) := by decide +kernel
theorem dX11_flying_67 : decode cX11_flying 67 = .ok (.ireturn, 1) := by decide +kernel
theorem dX11_flying_68 : decode cX11_flying 68 = .ok (.aload_n 3, 1) := by decide +kernel
theorem dX11_flying_69 : decode cX11_flying 69 = .ok (.getfield 150, 3) := by decide +kernel
theorem dX11_flying_72 : decode cX11_flying 72 = .ok (.ireturn, 1) := by decide +kernel
theorem dX11_flying_73 : decode cX11_flying 73 = .ok (.iconst (-1), 1) := by decide +kernel
theorem dX11_flying_74 : decode cX11_flying 74 = .ok (.ireturn, 1) := by decide +kernel
theorem dX11_bytes_0 : decode cX11_bytes 0 = .ok (.aload_n 0, 1) := by decide +kernel
theorem dX11_bytes_1 : decode cX11_bytes 1 = .ok (.getfield 22, 3) := by decide +kernel
theorem dX11_bytes_4 : decode cX11_bytes 4 = .ok (.getfield 38, 3) := by decide +kernel
theorem dX11_bytes_7 : decode cX11_bytes 7 = .ok (.iload_n 1, 1) := by decide +kernel
theorem dX11_bytes_8 : decode cX11_bytes 8 = .ok (.invokevirtual 84, 3) := by decide +kernel
theorem dX11_bytes_11 : decode cX11_bytes 11 = .ok (.astore_n 3, 1) := by decide +kernel
theorem dX11_bytes_12 : decode cX11_bytes 12 = .ok (.aload_n 3, 1) := by decide +kernel
theorem dX11_bytes_13 : decode cX11_bytes 13 = .ok (.ifnull 7, 3) := by decide +kernel
theorem dX11_bytes_16 : decode cX11_bytes 16 = .ok (.iload_n 2, 1) := by decide +kernel
theorem dX11_bytes_17 : decode cX11_bytes 17 = .ok (.ifCond .ge 9, 3) := by decide +kernel
theorem dX11_bytes_20 : decode cX11_bytes 20 = .ok (.ldc2_w 200, 3) := by decide +kernel
theorem dX11_bytes_23 : decode cX11_bytes 23 = .ok (.goto 15, 3) := by decide +kernel
theorem dX11_bytes_26 : decode cX11_bytes 26 = .ok (.aload_n 3, 1) := by decide +kernel
theorem dX11_bytes_27 : decode cX11_bytes 27 = .ok (.getfield 48, 3) := by decide +kernel
theorem dX11_bytes_30 : decode cX11_bytes 30 = .ok (.aload_n 3, 1) := by decide +kernel
theorem dX11_bytes_31 : decode cX11_bytes 31 = .ok (.getfield 150, 3) := by decide +kernel
theorem dX11_bytes_34 : decode cX11_bytes 34 = .ok (.iload_n 2, 1) := by decide +kernel
theorem dX11_bytes_35 : decode cX11_bytes 35 = .ok (.invokestatic 153, 3) := by decide +kernel
theorem dX11_bytes_38 : decode cX11_bytes 38 = .ok (.lreturn, 1) := by decide +kernel
theorem dX11_tick_0 : decode cX11_tick 0 = .ok (.aload_n 0, 1) := by decide +kernel
theorem dX11_tick_1 : decode cX11_tick 1 = .ok (.getfield 22, 3) := by decide +kernel
theorem dX11_tick_4 : decode cX11_tick 4 = .ok (.invokevirtual 188, 3) := by decide +kernel
theorem dX11_tick_7 : decode cX11_tick 7 = .ok (.ireturn, 1) := by decide +kernel
theorem dX11_crash_0 : decode cX11_crash 0 = .ok (.aload_n 0, 1) := by decide +kernel
theorem dX11_crash_1 : decode cX11_crash 1 = .ok (.iload_n 1, 1) := by decide +kernel
theorem dX11_crash_2 : decode cX11_crash 2 = .ok (.invokevirtual 120, 3) := by decide +kernel
theorem dX11_crash_5 : decode cX11_crash 5 = .ok (.astore_n 2, 1) := by decide +kernel
theorem dX11_crash_6 : decode cX11_crash 6 = .ok (.aload_n 2, 1) := by decide +kernel
theorem dX11_crash_7 : decode cX11_crash 7 = .ok (.ifnull 10, 3) := by decide +kernel
theorem dX11_crash_10 : decode cX11_crash 10 = .ok (.aload_n 2, 1) := by decide +kernel
theorem dX11_crash_11 : decode cX11_crash 11 = .ok (.getfield 157, 3) := by decide +kernel
theorem dX11_crash_14 : decode cX11_crash 14 = .ok (.ifCond .ne 5, 3) := by decide +kernel
theorem dX11_crash_17 : decode cX11_crash 17 = .ok (.iconst 0, 1) := by decide +kernel
theorem dX11_crash_18 : decode cX11_crash 18 = .ok (.ireturn, 1) := by decide +kernel
theorem dX11_crash_19 : decode cX11_crash 19 = .ok (.aload_n 2, 1) := by decide +kernel
theorem dX11_crash_20 : decode cX11_crash 20 = .ok (.invokevirtual 202, 3) := by decide +kernel
theorem dX11_crash_23 : decode cX11_crash 23 = .ok (.iconst 1, 1) := by decide +kernel
theorem dX11_crash_24 : decode cX11_crash 24 = .ok (.ireturn, 1) := by decide +kernel
theorem dX11_cut_0 : decode cX11_cut 0 = .ok (.aload_n 0, 1) := by decide +kernel
theorem dX11_cut_1 : decode cX11_cut 1 = .ok (.iload_n 1, 1) := by decide +kernel
theorem dX11_cut_2 : decode cX11_cut 2 = .ok (.invokevirtual 120, 3) := by decide +kernel
theorem dX11_cut_5 : decode cX11_cut 5 = .ok (.astore_n 3, 1) := by decide +kernel
theorem dX11_cut_6 : decode cX11_cut 6 = .ok (.aload_n 3, 1) := by decide +kernel
theorem dX11_cut_7 : decode cX11_cut 7 = .ok (.ifnull 14, 3) := by decide +kernel
theorem dX11_cut_10 : decode cX11_cut 10 = .ok (.iload_n 2, 1) := by decide +kernel
theorem dX11_cut_11 : decode cX11_cut 11 = .ok (.ifCond .lt 10, 3) := by decide +kernel
theorem dX11_cut_14 : decode cX11_cut 14 = .ok (.iload_n 2, 1) := by decide +kernel
theorem dX11_cut_15 : decode cX11_cut 15 = .ok (.sipush 1000, 3) := by decide +kernel
theorem dX11_cut_18 : decode cX11_cut 18 = .ok (.if_icmp .le 5, 3) := by decide +kernel
theorem dX11_cut_21 : decode cX11_cut 21 = .ok (.iconst 0, 1) := by decide +kernel
theorem dX11_cut_22 : decode cX11_cut 22 = .ok (.ireturn, 1) := by decide +kernel
theorem dX11_cut_23 : decode cX11_cut 23 = .ok (.aload_n 3, 1) := by decide +kernel
theorem dX11_cut_24 : decode cX11_cut 24 = .ok (.getfield 205, 3) := by decide +kernel
theorem dX11_cut_27 : decode cX11_cut 27 = .ok (.iload_n 2, 1) := by decide +kernel
theorem dX11_cut_28 : decode cX11_cut 28 = .ok (.putfield 209, 3) := by decide +kernel
theorem dX11_cut_31 : decode cX11_cut 31 = .ok (.iconst 1, 1) := by decide +kernel
theorem dX11_cut_32 : decode cX11_cut 32 = .ok (.ireturn, 1) := by decide +kernel
theorem dX11_restart_0 : decode cX11_restart 0 = .ok (.aload_n 0, 1) := by decide +kernel
theorem dX11_restart_1 : decode cX11_restart 1 = .ok (.iload_n 1, 1) := by decide +kernel
theorem dX11_restart_2 : decode cX11_restart 2 = .ok (.invokevirtual 120, 3) := by decide +kernel
theorem dX11_restart_5 : decode cX11_restart 5 = .ok (.astore_n 2, 1) := by decide +kernel
theorem dX11_restart_6 : decode cX11_restart 6 = .ok (.aload_n 2, 1) := by decide +kernel
theorem dX11_restart_7 : decode cX11_restart 7 = .ok (.ifnull 10, 3) := by decide +kernel
theorem dX11_restart_10 : decode cX11_restart 10 = .ok (.aload_n 2, 1) := by decide +kernel
theorem dX11_restart_11 : decode cX11_restart 11 = .ok (.getfield 157, 3) := by decide +kernel
theorem dX11_restart_14 : decode cX11_restart 14 = .ok (.ifCond .eq 5, 3) := by decide +kernel
theorem dX11_restart_17 : decode cX11_restart 17 = .ok (.iconst 0, 1) := by decide +kernel
theorem dX11_restart_18 : decode cX11_restart 18 = .ok (.ireturn, 1) := by decide +kernel
theorem dX11_restart_19 : decode cX11_restart 19 = .ok (.aload_n 2, 1) := by decide +kernel
theorem dX11_restart_20 : decode cX11_restart 20 = .ok (.invokevirtual 214, 3) := by decide +kernel
theorem dX11_restart_23 : decode cX11_restart 23 = .ok (.aload_n 2, 1) := by decide +kernel
theorem dX11_restart_24 : decode cX11_restart 24 = .ok (.invokestatic 217, 3) := by decide +kernel
theorem dX11_restart_27 : decode cX11_restart 27 = .ok (.iconst 1, 1) := by decide +kernel
theorem dX11_restart_28 : decode cX11_restart 28 = .ok (.ireturn, 1) := by decide +kernel
theorem dX11_state_0 : decode cX11_state 0 = .ok (.aload_n 0, 1) := by decide +kernel
theorem dX11_state_1 : decode cX11_state 1 = .ok (.iload_n 1, 1) := by decide +kernel
theorem dX11_state_2 : decode cX11_state 2 = .ok (.invokevirtual 120, 3) := by decide +kernel
theorem dX11_state_5 : decode cX11_state 5 = .ok (.astore_n 3, 1) := by decide +kernel
theorem dX11_state_6 : decode cX11_state 6 = .ok (.aload_n 3, 1) := by decide +kernel
theorem dX11_state_7 : decode cX11_state 7 = .ok (.ifnonnull 5, 3) := by decide +kernel
theorem dX11_state_10 : decode cX11_state 10 = .ok (.iconst (-1), 1) := by decide +kernel
theorem dX11_state_11 : decode cX11_state 11 = .ok (.ireturn, 1) := by decide +kernel
theorem dX11_state_12 : decode cX11_state 12 = .ok (.iload_n 2, 1) := by decide +kernel
theorem dX11_state_13 : decode cX11_state 13 = .ok (.tableswitch 143 0 11 #[63, 68, 73, 78, 83, 88, 101, 109, 114, 119, 127, 135], 63) := by decide +kernel
theorem dX11_state_76 : decode cX11_state 76 = .ok (.aload_n 3, 1) := by decide +kernel
theorem dX11_state_77 : decode cX11_state 77 = .ok (.getfield 223, 3) := by decide +kernel
theorem dX11_state_80 : decode cX11_state 80 = .ok (.ireturn, 1) := by decide +kernel
theorem dX11_state_81 : decode cX11_state 81 = .ok (.aload_n 3, 1) := by decide +kernel
theorem dX11_state_82 : decode cX11_state 82 = .ok (.getfield 226, 3) := by decide +kernel
theorem dX11_state_85 : decode cX11_state 85 = .ok (.ireturn, 1) := by decide +kernel
theorem dX11_state_86 : decode cX11_state 86 = .ok (.aload_n 3, 1) := by decide +kernel
theorem dX11_state_87 : decode cX11_state 87 = .ok (.getfield 229, 3) := by decide +kernel
theorem dX11_state_90 : decode cX11_state 90 = .ok (.ireturn, 1) := by decide +kernel
theorem dX11_state_91 : decode cX11_state 91 = .ok (.aload_n 3, 1) := by decide +kernel
theorem dX11_state_92 : decode cX11_state 92 = .ok (.getfield 232, 3) := by decide +kernel
theorem dX11_state_95 : decode cX11_state 95 = .ok (.ireturn, 1) := by decide +kernel
theorem dX11_state_96 : decode cX11_state 96 = .ok (.aload_n 3, 1) := by decide +kernel
theorem dX11_state_97 : decode cX11_state 97 = .ok (.getfield 235, 3) := by decide +kernel
theorem dX11_state_100 : decode cX11_state 100 = .ok (.ireturn, 1) := by decide +kernel
theorem dX11_state_101 : decode cX11_state 101 = .ok (.aload_n 3, 1) := by decide +kernel
theorem dX11_state_102 : decode cX11_state 102 = .ok (.getfield 157, 3) := by decide +kernel
theorem dX11_state_105 : decode cX11_state 105 = .ok (.ifCond .eq 7, 3) := by decide +kernel
theorem dX11_state_108 : decode cX11_state 108 = .ok (.iconst 1, 1) := by decide +kernel
theorem dX11_state_109 : decode cX11_state 109 = .ok (.goto 4, 3) := by decide +kernel
theorem dX11_state_112 : decode cX11_state 112 = .ok (.iconst 0, 1) := by decide +kernel
theorem dX11_state_113 : decode cX11_state 113 = .ok (.ireturn, 1) := by decide +kernel
theorem dX11_state_114 : decode cX11_state 114 = .ok (.aload_n 3, 1) := by decide +kernel
theorem dX11_state_115 : decode cX11_state 115 = .ok (.getfield 162, 3) := by decide +kernel
theorem dX11_state_118 : decode cX11_state 118 = .ok (.getfield 238, 3) := by decide +kernel
theorem dX11_state_121 : decode cX11_state 121 = .ok (.ireturn, 1) := by decide +kernel
theorem dX11_state_122 : decode cX11_state 122 = .ok (.aload_n 3, 1) := by decide +kernel
theorem dX11_state_123 : decode cX11_state 123 = .ok (.invokevirtual 241, 3) := by decide +kernel
theorem dX11_state_126 : decode cX11_state 126 = .ok (.ireturn, 1) := by decide +kernel
theorem dX11_state_127 : decode cX11_state 127 = .ok (.aload_n 3, 1) := by decide +kernel
theorem dX11_state_128 : decode cX11_state 128 = .ok (.getfield 244, 3) := by decide +kernel
theorem dX11_state_131 : decode cX11_state 131 = .ok (.ireturn, 1) := by decide +kernel
theorem dX11_state_132 : decode cX11_state 132 = .ok (.aload_n 3, 1) := by decide +kernel
theorem dX11_state_133 : decode cX11_state 133 = .ok (.getfield 205, 3) := by decide +kernel
theorem dX11_state_136 : decode cX11_state 136 = .ok (.getfield 247, 3) := by decide +kernel
theorem dX11_state_139 : decode cX11_state 139 = .ok (.ireturn, 1) := by decide +kernel
theorem dX11_state_140 : decode cX11_state 140 = .ok (.aload_n 3, 1) := by decide +kernel
theorem dX11_state_141 : decode cX11_state 141 = .ok (.getfield 205, 3) := by decide +kernel
theorem dX11_state_144 : decode cX11_state 144 = .ok (.getfield 250, 3) := by decide +kernel
theorem dX11_state_147 : decode cX11_state 147 = .ok (.ireturn, 1) := by decide +kernel
theorem dX11_state_148 : decode cX11_state 148 = .ok (.aload_n 3, 1) := by decide +kernel
theorem dX11_state_149 : decode cX11_state 149 = .ok (.getfield 162, 3) := by decide +kernel
theorem dX11_state_152 : decode cX11_state 152 = .ok (.getfield 253, 3) := by decide +kernel
theorem dX11_state_155 : decode cX11_state 155 = .ok (.ireturn, 1) := by decide +kernel
theorem dX11_state_156 : decode cX11_state 156 = .ok (.iconst (-1), 1) := by decide +kernel
theorem dX11_state_157 : decode cX11_state 157 = .ok (.ireturn, 1) := by decide +kernel
theorem dX11_block_0 : decode cX11_block 0 = .ok (.aload_n 0, 1) := by decide +kernel
theorem dX11_block_1 : decode cX11_block 1 = .ok (.iload_n 1, 1) := by decide +kernel
theorem dX11_block_2 : decode cX11_block 2 = .ok (.invokevirtual 120, 3) := by decide +kernel
theorem dX11_block_5 : decode cX11_block 5 = .ok (.astore 4, 2) := by decide +kernel
theorem dX11_block_7 : decode cX11_block 7 = .ok (.aload 4, 2) := by decide +kernel
theorem dX11_block_9 : decode cX11_block 9 = .ok (.ifnull 18, 3) := by decide +kernel
theorem dX11_block_12 : decode cX11_block 12 = .ok (.iload_n 3, 1) := by decide +kernel
theorem dX11_block_13 : decode cX11_block 13 = .ok (.ifCond .lt 14, 3) := by decide +kernel
theorem dX11_block_16 : decode cX11_block 16 = .ok (.iload_n 2, 1) := by decide +kernel
theorem dX11_block_17 : decode cX11_block 17 = .ok (.iconst (-1), 1) := by decide +kernel
theorem dX11_block_18 : decode cX11_block 18 = .ok (.if_icmp .lt 9, 3) := by decide +kernel
theorem dX11_block_21 : decode cX11_block 21 = .ok (.iload_n 2, 1) := by decide +kernel
theorem dX11_block_22 : decode cX11_block 22 = .ok (.bipush 40, 2) := by decide +kernel
theorem dX11_block_24 : decode cX11_block 24 = .ok (.if_icmp .le 7, 3) := by decide +kernel
theorem dX11_block_27 : decode cX11_block 27 = .ok (.ldc2_w 200, 3) := by decide +kernel
theorem dX11_block_30 : decode cX11_block 30 = .ok (.lreturn, 1) := by decide +kernel
theorem dX11_block_31 : decode cX11_block 31 = .ok (.iload_n 2, 1) := by decide +kernel
theorem dX11_block_32 : decode cX11_block 32 = .ok (.ifCond .le 47, 3) := by decide +kernel
theorem dX11_block_35 : decode cX11_block 35 = .ok (.aload 4, 2) := by decide +kernel
theorem dX11_block_37 : decode cX11_block 37 = .ok (.getfield 205, 3) := by decide +kernel
theorem dX11_block_40 : decode cX11_block 40 = .ok (.iload_n 2, 1) := by decide +kernel
theorem dX11_block_41 : decode cX11_block 41 = .ok (.aload_n 0, 1) := by decide +kernel
theorem dX11_block_42 : decode cX11_block 42 = .ok (.getfield 22, 3) := by decide +kernel
theorem dX11_block_45 : decode cX11_block 45 = .ok (.getfield 256, 3) := by decide +kernel
theorem dX11_block_48 : decode cX11_block 48 = .ok (.iconst 0, 1) := by decide +kernel
theorem dX11_block_49 : decode cX11_block 49 = .ok (.invokevirtual 259, 3) := by decide +kernel
theorem dX11_block_52 : decode cX11_block 52 = .ok (.istore 5, 2) := by decide +kernel
theorem dX11_block_54 : decode cX11_block 54 = .ok (.iload 5, 2) := by decide +kernel
theorem dX11_block_56 : decode cX11_block 56 = .ok (.ifCond .ge 9, 3) := by decide +kernel
theorem dX11_block_59 : decode cX11_block 59 = .ok (.ldc2_w 200, 3) := by decide +kernel
theorem dX11_block_62 : decode cX11_block 62 = .ok (.goto 16, 3) := by decide +kernel
theorem dX11_block_65 : decode cX11_block 65 = .ok (.aload_n 0, 1) := by decide +kernel
theorem dX11_block_66 : decode cX11_block 66 = .ok (.getfield 22, 3) := by decide +kernel
theorem dX11_block_69 : decode cX11_block 69 = .ok (.getfield 256, 3) := by decide +kernel
theorem dX11_block_72 : decode cX11_block 72 = .ok (.iload 5, 2) := by decide +kernel
theorem dX11_block_74 : decode cX11_block 74 = .ok (.iload_n 3, 1) := by decide +kernel
theorem dX11_block_75 : decode cX11_block 75 = .ok (.invokestatic 153, 3) := by decide +kernel
theorem dX11_block_78 : decode cX11_block 78 = .ok (.lreturn, 1) := by decide +kernel
theorem dX11_block_79 : decode cX11_block 79 = .ok (.iload_n 2, 1) := by decide +kernel
theorem dX11_block_80 : decode cX11_block 80 = .ok (.ifCond .ne 11, 3) := by decide +kernel
theorem dX11_block_83 : decode cX11_block 83 = .ok (.aload 4, 2) := by decide +kernel
theorem dX11_block_85 : decode cX11_block 85 = .ok (.getfield 262, 3) := by decide +kernel
theorem dX11_block_88 : decode cX11_block 88 = .ok (.goto 8, 3) := by decide +kernel
theorem dX11_block_91 : decode cX11_block 91 = .ok (.aload 4, 2) := by decide +kernel
theorem dX11_block_93 : decode cX11_block 93 = .ok (.getfield 266, 3) := by decide +kernel
theorem dX11_block_96 : decode cX11_block 96 = .ok (.astore 5, 2) := by decide +kernel
theorem dX11_block_98 : decode cX11_block 98 = .ok (.aload 5, 2) := by decide +kernel
theorem dX11_block_100 : decode cX11_block 100 = .ok (.ifnonnull 7, 3) := by decide +kernel
theorem dX11_block_103 : decode cX11_block 103 = .ok (.ldc2_w 200, 3) := by decide +kernel
theorem dX11_block_106 : decode cX11_block 106 = .ok (.lreturn, 1) := by decide +kernel
theorem dX11_block_107 : decode cX11_block 107 = .ok (.iload_n 3, 1) := by decide +kernel
theorem dX11_block_108 : decode cX11_block 108 = .ok (.aload 5, 2) := by decide +kernel
theorem dX11_block_110 : decode cX11_block 110 = .ok (.getfield 150, 3) := by decide +kernel
theorem dX11_block_113 : decode cX11_block 113 = .ok (.if_icmp .le 7, 3) := by decide +kernel
theorem dX11_block_116 : decode cX11_block 116 = .ok (.lconst 0, 1) := by decide +kernel
theorem dX11_block_117 : decode cX11_block 117 = .ok (.goto 20, 3) := by decide +kernel
theorem dX11_block_120 : decode cX11_block 120 = .ok (.aload 5, 2) := by decide +kernel
theorem dX11_block_122 : decode cX11_block 122 = .ok (.getfield 48, 3) := by decide +kernel
theorem dX11_block_125 : decode cX11_block 125 = .ok (.aload 5, 2) := by decide +kernel
theorem dX11_block_127 : decode cX11_block 127 = .ok (.getfield 150, 3) := by decide +kernel
theorem dX11_block_130 : decode cX11_block 130 = .ok (.iload_n 3, 1) := by decide +kernel
theorem dX11_block_131 : decode cX11_block 131 = .ok (.bipush 6, 2) := by decide +kernel
theorem dX11_block_133 : decode cX11_block 133 = .ok (.iadd, 1) := by decide +kernel
theorem dX11_block_134 : decode cX11_block 134 = .ok (.invokestatic 153, 3) := by decide +kernel
theorem dX11_block_137 : decode cX11_block 137 = .ok (.lreturn, 1) := by decide +kernel
theorem dX11_paid_0 : decode cX11_paid 0 = .ok (.aload_n 0, 1) := by decide +kernel
theorem dX11_paid_1 : decode cX11_paid 1 = .ok (.iload_n 1, 1) := by decide +kernel
theorem dX11_paid_2 : decode cX11_paid 2 = .ok (.invokevirtual 120, 3) := by decide +kernel
theorem dX11_paid_5 : decode cX11_paid 5 = .ok (.astore_n 3, 1) := by decide +kernel
theorem dX11_paid_6 : decode cX11_paid 6 = .ok (.aload_n 3, 1) := by decide +kernel
theorem dX11_paid_7 : decode cX11_paid 7 = .ok (.ifnull 18, 3) := by decide +kernel
theorem dX11_paid_10 : decode cX11_paid 10 = .ok (.iload_n 2, 1) := by decide +kernel
theorem dX11_paid_11 : decode cX11_paid 11 = .ok (.ifCond .lt 14, 3) := by decide +kernel
theorem dX11_paid_14 : decode cX11_paid 14 = .ok (.iload_n 2, 1) := by decide +kernel
theorem dX11_paid_15 : decode cX11_paid 15 = .ok (.aload_n 0, 1) := by decide +kernel
theorem dX11_paid_16 : decode cX11_paid 16 = .ok (.getfield 22, 3) := by decide +kernel
theorem dX11_paid_19 : decode cX11_paid 19 = .ok (.getfield 87, 3) := by decide +kernel
theorem dX11_paid_22 : decode cX11_paid 22 = .ok (.if_icmp .lt 5, 3) := by decide +kernel
theorem dX11_paid_25 : decode cX11_paid 25 = .ok (.iconst (-1), 1) := by decide +kernel
theorem dX11_paid_26 : decode cX11_paid 26 = .ok (.ireturn, 1) := by decide +kernel
theorem dX11_paid_27 : decode cX11_paid 27 = .ok (.aload_n 3, 1) := by decide +kernel
theorem dX11_paid_28 : decode cX11_paid 28 = .ok (.getfield 129, 3) := by decide +kernel
theorem dX11_paid_31 : decode cX11_paid 31 = .ok (.iload_n 2, 1) := by decide +kernel
theorem dX11_paid_32 : decode cX11_paid 32 = .ok (.invokevirtual 269, 3) := by decide +kernel
theorem dX11_paid_35 : decode cX11_paid 35 = .ok (.ifCond .eq 7, 3) := by decide +kernel
theorem dX11_paid_38 : decode cX11_paid 38 = .ok (.iconst 1, 1) := by decide +kernel
theorem dX11_paid_39 : decode cX11_paid 39 = .ok (.goto 4, 3) := by decide +kernel
theorem dX11_paid_42 : decode cX11_paid 42 = .ok (.iconst 0, 1) := by decide +kernel
theorem dX11_paid_43 : decode cX11_paid 43 = .ok (.aload_n 3, 1) := by decide +kernel
theorem dX11_paid_44 : decode cX11_paid 44 = .ok (.getfield 162, 3) := by decide +kernel
theorem dX11_paid_47 : decode cX11_paid 47 = .ok (.iload_n 2, 1) := by decide +kernel
theorem dX11_paid_48 : decode cX11_paid 48 = .ok (.invokevirtual 272, 3) := by decide +kernel
theorem dX11_paid_51 : decode cX11_paid 51 = .ok (.ifnull 7, 3) := by decide +kernel
theorem dX11_paid_54 : decode cX11_paid 54 = .ok (.iconst 2, 1) := by decide +kernel
theorem dX11_paid_55 : decode cX11_paid 55 = .ok (.goto 4, 3) := by decide +kernel
theorem dX11_paid_58 : decode cX11_paid 58 = .ok (.iconst 0, 1) := by decide +kernel
theorem dX11_paid_59 : decode cX11_paid 59 = .ok (.iadd, 1) := by decide +kernel
theorem dX11_paid_60 : decode cX11_paid 60 = .ok (.ireturn, 1) := by decide +kernel
theorem dX11_path_0 : decode cX11_path 0 = .ok (.aload_n 0, 1) := by decide +kernel
theorem dX11_path_1 : decode cX11_path 1 = .ok (.iload_n 1, 1) := by decide +kernel
theorem dX11_path_2 : decode cX11_path 2 = .ok (.invokevirtual 120, 3) := by decide +kernel
theorem dX11_path_5 : decode cX11_path 5 = .ok (.astore 5, 2) := by decide +kernel
theorem dX11_path_7 : decode cX11_path 7 = .ok (.aload 5, 2) := by decide +kernel
theorem dX11_path_9 : decode cX11_path 9 = .ok (.ifnull 23, 3) := by decide +kernel
theorem dX11_path_12 : decode cX11_path 12 = .ok (.iload_n 2, 1) := by decide +kernel
theorem dX11_path_13 : decode cX11_path 13 = .ok (.iconst 1, 1) := by decide +kernel
theorem dX11_path_14 : decode cX11_path 14 = .ok (.if_icmp .lt 18, 3) := by decide +kernel
theorem dX11_path_17 : decode cX11_path 17 = .ok (.iload_n 2, 1) := by decide +kernel
theorem dX11_path_18 : decode cX11_path 18 = .ok (.bipush 40, 2) := by decide +kernel
theorem dX11_path_20 : decode cX11_path 20 = .ok (.if_icmp .gt 12, 3) := by decide +kernel
theorem dX11_path_23 : decode cX11_path 23 = .ok (.iload_n 3, 1) := by decide +kernel
theorem dX11_path_24 : decode cX11_path 24 = .ok (.ifCond .lt 8, 3) := by decide +kernel
theorem dX11_path_27 : decode cX11_path 27 = .ok (.iload 4, 2) := by decide +kernel
theorem dX11_path_29 : decode cX11_path 29 = .ok (.ifCond .ge 7, 3) := by decide +kernel
theorem dX11_path_32 : decode cX11_path 32 = .ok (.ldc2_w 200, 3) := by decide +kernel
theorem dX11_path_35 : decode cX11_path 35 = .ok (.lreturn, 1) := by decide +kernel
theorem dX11_path_36 : decode cX11_path 36 = .ok (.aload 5, 2) := by decide +kernel
theorem dX11_path_38 : decode cX11_path 38 = .ok (.getfield 205, 3) := by decide +kernel
theorem dX11_path_41 : decode cX11_path 41 = .ok (.iload_n 2, 1) := by decide +kernel
theorem dX11_path_42 : decode cX11_path 42 = .ok (.aload_n 0, 1) := by decide +kernel
theorem dX11_path_43 : decode cX11_path 43 = .ok (.getfield 22, 3) := by decide +kernel
theorem dX11_path_46 : decode cX11_path 46 = .ok (.getfield 256, 3) := by decide +kernel
theorem dX11_path_49 : decode cX11_path 49 = .ok (.iconst 0, 1) := by decide +kernel
theorem dX11_path_50 : decode cX11_path 50 = .ok (.invokevirtual 259, 3) := by decide +kernel
theorem dX11_path_53 : decode cX11_path 53 = .ok (.ifCond .ge 7, 3) := by decide +kernel
theorem dX11_path_56 : decode cX11_path 56 = .ok (.ldc2_w 200, 3) := by decide +kernel
theorem dX11_path_59 : decode cX11_path 59 = .ok (.lreturn, 1) := by decide +kernel
theorem dX11_path_60 : decode cX11_path 60 = .ok (.aload_n 0, 1) := by decide +kernel
theorem dX11_path_61 : decode cX11_path 61 = .ok (.getfield 22, 3) := by decide +kernel
theorem dX11_path_64 : decode cX11_path 64 = .ok (.getfield 103, 3) := by decide +kernel
theorem dX11_path_67 : decode cX11_path 67 = .ok (.aload_n 0, 1) := by decide +kernel
theorem dX11_path_68 : decode cX11_path 68 = .ok (.getfield 22, 3) := by decide +kernel
theorem dX11_path_71 : decode cX11_path 71 = .ok (.getfield 256, 3) := by decide +kernel
theorem dX11_path_74 : decode cX11_path 74 = .ok (.iconst 0, 1) := by decide +kernel
theorem dX11_path_75 : decode cX11_path 75 = .ok (.invokevirtual 107, 3) := by decide +kernel
theorem dX11_path_78 : decode cX11_path 78 = .ok (.iload_n 3, 1) := by decide +kernel
theorem dX11_path_79 : decode cX11_path 79 = .ok (.aload_n 0, 1) := by decide +kernel
theorem dX11_path_80 : decode cX11_path 80 = .ok (.getfield 22, 3) := by decide +kernel
theorem dX11_path_83 : decode cX11_path 83 = .ok (.getfield 103, 3) := by decide +kernel
theorem dX11_path_86 : decode cX11_path 86 = .ok (.getfield 275, 3) := by decide +kernel
theorem dX11_path_89 : decode cX11_path 89 = .ok (.if_icmp .lt 7, 3) := by decide +kernel
theorem dX11_path_92 : decode cX11_path 92 = .ok (.ldc2_w 200, 3) := by decide +kernel
theorem dX11_path_95 : decode cX11_path 95 = .ok (.lreturn, 1) := by decide +kernel
theorem dX11_path_96 : decode cX11_path 96 = .ok (.aload_n 0, 1) := by decide +kernel
theorem dX11_path_97 : decode cX11_path 97 = .ok (.getfield 13, 3) := by decide +kernel
theorem dX11_path_100 : decode cX11_path 100 = .ok (.aload_n 0, 1) := by decide +kernel
theorem dX11_path_101 : decode cX11_path 101 = .ok (.getfield 22, 3) := by decide +kernel
theorem dX11_path_104 : decode cX11_path 104 = .ok (.getfield 103, 3) := by decide +kernel
theorem dX11_path_107 : decode cX11_path 107 = .ok (.iload_n 3, 1) := by decide +kernel
theorem dX11_path_108 : decode cX11_path 108 = .ok (.aload_n 0, 1) := by decide +kernel
theorem dX11_path_109 : decode cX11_path 109 = .ok (.getfield 13, 3) := by decide +kernel
theorem dX11_path_112 : decode cX11_path 112 = .ok (.iconst 0, 1) := by decide +kernel
theorem dX11_path_113 : decode cX11_path 113 = .ok (.invokevirtual 113, 3) := by decide +kernel
theorem dX11_path_116 : decode cX11_path 116 = .ok (.iload 4, 2) := by decide +kernel
theorem dX11_path_118 : decode cX11_path 118 = .ok (.invokestatic 153, 3) := by decide +kernel
theorem dX11_path_121 : decode cX11_path 121 = .ok (.lreturn, 1) := by decide +kernel
theorem dX11_account_0 : decode cX11_account 0 = .ok (.aload_n 0, 1) := by decide +kernel
theorem dX11_account_1 : decode cX11_account 1 = .ok (.iload_n 1, 1) := by decide +kernel
theorem dX11_account_2 : decode cX11_account 2 = .ok (.invokevirtual 120, 3) := by decide +kernel
theorem dX11_account_5 : decode cX11_account 5 = .ok (.astore 4, 2) := by decide +kernel
theorem dX11_account_7 : decode cX11_account 7 = .ok (.aload 4, 2) := by decide +kernel
theorem dX11_account_9 : decode cX11_account 9 = .ok (.ifnull 17, 3) := by decide +kernel
theorem dX11_account_12 : decode cX11_account 12 = .ok (.iload_n 2, 1) := by decide +kernel
theorem dX11_account_13 : decode cX11_account 13 = .ok (.ifCond .lt 13, 3) := by decide +kernel
theorem dX11_account_16 : decode cX11_account 16 = .ok (.iload_n 2, 1) := by decide +kernel
theorem dX11_account_17 : decode cX11_account 17 = .ok (.bipush 16, 2) := by decide +kernel
theorem dX11_account_19 : decode cX11_account 19 = .ok (.if_icmp .ge 7, 3) := by decide +kernel
theorem dX11_account_22 : decode cX11_account 22 = .ok (.iload_n 3, 1) := by decide +kernel
theorem dX11_account_23 : decode cX11_account 23 = .ok (.ifCond .ge 7, 3) := by decide +kernel
theorem dX11_account_26 : decode cX11_account 26 = .ok (.ldc2_w 200, 3) := by decide +kernel
theorem dX11_account_29 : decode cX11_account 29 = .ok (.lreturn, 1) := by decide +kernel
theorem dX11_account_30 : decode cX11_account 30 = .ok (.aload 4, 2) := by decide +kernel
theorem dX11_account_32 : decode cX11_account 32 = .ok (.getfield 129, 3) := by decide +kernel
theorem dX11_account_35 : decode cX11_account 35 = .ok (.aload_n 0, 1) := by decide +kernel
theorem dX11_account_36 : decode cX11_account 36 = .ok (.getfield 22, 3) := by decide +kernel
theorem dX11_account_39 : decode cX11_account 39 = .ok (.getfield 103, 3) := by decide +kernel
theorem dX11_account_42 : decode cX11_account 42 = .ok (.invokevirtual 278, 3) := by decide +kernel
theorem dX11_account_45 : decode cX11_account 45 = .ok (.aload 4, 2) := by decide +kernel
theorem dX11_account_47 : decode cX11_account 47 = .ok (.getfield 129, 3) := by decide +kernel
theorem dX11_account_50 : decode cX11_account 50 = .ok (.iload_n 2, 1) := by decide +kernel
theorem dX11_account_51 : decode cX11_account 51 = .ok (.aload_n 0, 1) := by decide +kernel
theorem dX11_account_52 : decode cX11_account 52 = .ok (.getfield 13, 3) := by decide +kernel
theorem dX11_account_55 : decode cX11_account 55 = .ok (.iconst 0, 1) := by decide +kernel
theorem dX11_account_56 : decode cX11_account 56 = .ok (.invokevirtual 281, 3) := by decide +kernel
theorem dX11_account_59 : decode cX11_account 59 = .ok (.aload_n 0, 1) := by decide +kernel
theorem dX11_account_60 : decode cX11_account 60 = .ok (.getfield 13, 3) := by decide +kernel
theorem dX11_account_63 : decode cX11_account 63 = .ok (.bipush 6, 2) := by decide +kernel
theorem dX11_account_65 : decode cX11_account 65 = .ok (.aload_n 0, 1) := by decide +kernel
theorem dX11_account_66 : decode cX11_account 66 = .ok (.getfield 22, 3) := by decide +kernel
theorem dX11_account_69 : decode cX11_account 69 = .ok (.getfield 103, 3) := by decide +kernel
theorem dX11_account_72 : decode cX11_account 72 = .ok (.iload_n 2, 1) := by decide +kernel
theorem dX11_account_73 : decode cX11_account 73 = .ok (.aload_n 0, 1) := by decide +kernel
theorem dX11_account_74 : decode cX11_account 74 = .ok (.getfield 13, 3) := by decide +kernel
theorem dX11_account_77 : decode cX11_account 77 = .ok (.bipush 6, 2) := by decide +kernel
theorem dX11_account_79 : decode cX11_account 79 = .ok (.invokevirtual 113, 3) := by decide +kernel
theorem dX11_account_82 : decode cX11_account 82 = .ok (.iadd, 1) := by decide +kernel
theorem dX11_account_83 : decode cX11_account 83 = .ok (.iload_n 3, 1) := by decide +kernel
theorem dX11_account_84 : decode cX11_account 84 = .ok (.invokestatic 153, 3) := by decide +kernel
theorem dX11_account_87 : decode cX11_account 87 = .ok (.lreturn, 1) := by decide +kernel
theorem dX11_sector_0 : decode cX11_sector 0 = .ok (.aload_n 0, 1) := by decide +kernel
theorem dX11_sector_1 : decode cX11_sector 1 = .ok (.iload_n 1, 1) := by decide +kernel
theorem dX11_sector_2 : decode cX11_sector 2 = .ok (.invokevirtual 120, 3) := by decide +kernel
theorem dX11_sector_5 : decode cX11_sector 5 = .ok (.astore 4, 2) := by decide +kernel
theorem dX11_sector_7 : decode cX11_sector 7 = .ok (.aload 4, 2) := by decide +kernel
theorem dX11_sector_9 : decode cX11_sector 9 = .ok (.ifnull 19, 3) := by decide +kernel
theorem dX11_sector_12 : decode cX11_sector 12 = .ok (.iload_n 3, 1) := by decide +kernel
theorem dX11_sector_13 : decode cX11_sector 13 = .ok (.ifCond .lt 15, 3) := by decide +kernel
theorem dX11_sector_16 : decode cX11_sector 16 = .ok (.aload 4, 2) := by decide +kernel
theorem dX11_sector_18 : decode cX11_sector 18 = .ok (.getfield 205, 3) := by decide +kernel
theorem dX11_sector_21 : decode cX11_sector 21 = .ok (.iload_n 2, 1) := by decide +kernel
theorem dX11_sector_22 : decode cX11_sector 22 = .ok (.invokevirtual 285, 3) := by decide +kernel
theorem dX11_sector_25 : decode cX11_sector 25 = .ok (.ifCond .ne 7, 3) := by decide +kernel
theorem dX11_sector_28 : decode cX11_sector 28 = .ok (.ldc2_w 200, 3) := by decide +kernel
theorem dX11_sector_31 : decode cX11_sector 31 = .ok (.lreturn, 1) := by decide +kernel
theorem dX11_sector_32 : decode cX11_sector 32 = .ok (.aload 4, 2) := by decide +kernel
theorem dX11_sector_34 : decode cX11_sector 34 = .ok (.getfield 205, 3) := by decide +kernel
theorem dX11_sector_37 : decode cX11_sector 37 = .ok (.getfield 288, 3) := by decide +kernel
theorem dX11_sector_40 : decode cX11_sector 40 = .ok (.iload_n 2, 1) := by decide +kernel
theorem dX11_sector_41 : decode cX11_sector 41 = .ok (.aaload, 1) := by decide +kernel
theorem dX11_sector_42 : decode cX11_sector 42 = .ok (.sipush 512, 3) := by decide +kernel
theorem dX11_sector_45 : decode cX11_sector 45 = .ok (.iload_n 3, 1) := by decide +kernel
theorem dX11_sector_46 : decode cX11_sector 46 = .ok (.invokestatic 153, 3) := by decide +kernel
theorem dX11_sector_49 : decode cX11_sector 49 = .ok (.lreturn, 1) := by decide +kernel
theorem dX11_proof_0 : decode cX11_proof 0 = .ok (.iload_n 1, 1) := by decide +kernel
theorem dX11_proof_1 : decode cX11_proof 1 = .ok (.ifCond .lt 27, 3) := by decide +kernel
theorem dX11_proof_4 : decode cX11_proof 4 = .ok (.iload_n 1, 1) := by decide +kernel
theorem dX11_proof_5 : decode cX11_proof 5 = .ok (.iconst 1, 1) := by decide +kernel
theorem dX11_proof_6 : decode cX11_proof 6 = .ok (.if_icmp .gt 22, 3) := by decide +kernel
theorem dX11_proof_9 : decode cX11_proof 9 = .ok (.iload_n 2, 1) := by decide +kernel
theorem dX11_proof_10 : decode cX11_proof 10 = .ok (.bipush 102, 2) := by decide +kernel
theorem dX11_proof_12 : decode cX11_proof 12 = .ok (.if_icmp .lt 16, 3) := by decide +kernel
theorem dX11_proof_15 : decode cX11_proof 15 = .ok (.iload_n 3, 1) := by decide +kernel
theorem dX11_proof_16 : decode cX11_proof 16 = .ok (.iload_n 2, 1) := by decide +kernel
theorem dX11_proof_17 : decode cX11_proof 17 = .ok (.if_icmp .lt 11, 3) := by decide +kernel
theorem dX11_proof_20 : decode cX11_proof 20 = .ok (.iload_n 3, 1) := by decide +kernel
theorem dX11_proof_21 : decode cX11_proof 21 = .ok (.aload_n 0, 1) := by decide +kernel
theorem dX11_proof_22 : decode cX11_proof 22 = .ok (.getfield 26, 3) := by decide +kernel
theorem dX11_proof_25 : decode cX11_proof 25 = .ok (.if_icmp .le 5, 3) := by decide +kernel
theorem dX11_proof_28 : decode cX11_proof 28 = .ok (.iconst 0, 1) := by decide +kernel
theorem dX11_proof_29 : decode cX11_proof 29 = .ok (.ireturn, 1) := by decide +kernel
theorem dX11_proof_30 : decode cX11_proof 30 = .ok (.aload_n 0, 1) := by decide +kernel
theorem dX11_proof_31 : decode cX11_proof 31 = .ok (.getfield 22, 3) := by decide +kernel
theorem dX11_proof_34 : decode cX11_proof 34 = .ok (.getfield 103, 3) := by decide +kernel
theorem dX11_proof_37 : decode cX11_proof 37 = .ok (.astore 4, 2) := by decide +kernel
theorem dX11_proof_39 : decode cX11_proof 39 = .ok (.aload 4, 2) := by decide +kernel
theorem dX11_proof_41 : decode cX11_proof 41 = .ok (.invokevirtual 292, 3) := by decide +kernel
theorem dX11_proof_44 : decode cX11_proof 44 = .ok (.aload 4, 2) := by decide +kernel
theorem dX11_proof_46 : decode cX11_proof 46 = .ok (.iconst 0, 1) := by decide +kernel
theorem dX11_proof_47 : decode cX11_proof 47 = .ok (.invokevirtual 295, 3) := by decide +kernel
theorem dX11_proof_50 : decode cX11_proof 50 = .ok (.aload 4, 2) := by decide +kernel
theorem dX11_proof_52 : decode cX11_proof 52 = .ok (.aload_n 0, 1) := by decide +kernel
theorem dX11_proof_53 : decode cX11_proof 53 = .ok (.getfield 9, 3) := by decide +kernel
theorem dX11_proof_56 : decode cX11_proof 56 = .ok (.bipush 101, 2) := by decide +kernel
theorem dX11_proof_58 : decode cX11_proof 58 = .ok (.iload_n 2, 1) := by decide +kernel
theorem dX11_proof_59 : decode cX11_proof 59 = .ok (.invokevirtual 298, 3) := by decide +kernel
theorem dX11_proof_62 : decode cX11_proof 62 = .ok (.aload 4, 2) := by decide +kernel
theorem dX11_proof_64 : decode cX11_proof 64 = .ok (.aload_n 0, 1) := by decide +kernel
theorem dX11_proof_65 : decode cX11_proof 65 = .ok (.getfield 13, 3) := by decide +kernel
theorem dX11_proof_68 : decode cX11_proof 68 = .ok (.iconst 0, 1) := by decide +kernel
theorem dX11_proof_69 : decode cX11_proof 69 = .ok (.invokevirtual 301, 3) := by decide +kernel
theorem dX11_proof_72 : decode cX11_proof 72 = .ok (.iload_n 2, 1) := by decide +kernel
theorem dX11_proof_73 : decode cX11_proof 73 = .ok (.istore 5, 2) := by decide +kernel
theorem dX11_proof_75 : decode cX11_proof 75 = .ok (.iload 5, 2) := by decide +kernel
theorem dX11_proof_77 : decode cX11_proof 77 = .ok (.iload_n 3, 1) := by decide +kernel
theorem dX11_proof_78 : decode cX11_proof 78 = .ok (.if_icmp .ge 173, 3) := by decide +kernel
theorem dX11_proof_81 : decode cX11_proof 81 = .ok (.aload_n 0, 1) := by decide +kernel
theorem dX11_proof_82 : decode cX11_proof 82 = .ok (.getfield 9, 3) := by decide +kernel
theorem dX11_proof_85 : decode cX11_proof 85 = .ok (.iload 5, 2) := by decide +kernel
theorem dX11_proof_87 : decode cX11_proof 87 = .ok (.baload, 1) := by decide +kernel
theorem dX11_proof_88 : decode cX11_proof 88 = .ok (.istore 6, 2) := by decide +kernel
theorem dX11_proof_90 : decode cX11_proof 90 = .ok (.iinc 5 1, 3) := by decide +kernel
theorem dX11_proof_93 : decode cX11_proof 93 = .ok (.iload 6, 2) := by decide +kernel
theorem dX11_proof_95 : decode cX11_proof 95 = .ok (.ifCond .ne 6, 3) := by decide +kernel
theorem dX11_proof_98 : decode cX11_proof 98 = .ok (.goto (-23), 3) := by decide +kernel
theorem dX11_proof_101 : decode cX11_proof 101 = .ok (.iload 6, 2) := by decide +kernel
theorem dX11_proof_103 : decode cX11_proof 103 = .ok (.iconst 1, 1) := by decide +kernel
theorem dX11_proof_104 : decode cX11_proof 104 = .ok (.if_icmp .eq 9, 3) := by decide +kernel
theorem dX11_proof_107 : decode cX11_proof 107 = .ok (.iload 6, 2) := by decide +kernel
theorem dX11_proof_109 : decode cX11_proof 109 = .ok (.iconst 2, 1) := by decide +kernel
theorem dX11_proof_110 : decode cX11_proof 110 = .ok (.if_icmp .ne 12, 3) := by decide +kernel
theorem dX11_proof_113 : decode cX11_proof 113 = .ok (.iload_n 3, 1) := by decide +kernel
theorem dX11_proof_114 : decode cX11_proof 114 = .ok (.iload 5, 2) := by decide +kernel
theorem dX11_proof_116 : decode cX11_proof 116 = .ok (.isub, 1) := by decide +kernel
theorem dX11_proof_117 : decode cX11_proof 117 = .ok (.bipush 32, 2) := by decide +kernel
theorem dX11_proof_119 : decode cX11_proof 119 = .ok (.if_icmp .ge 5, 3) := by decide +kernel
theorem dX11_proof_122 : decode cX11_proof 122 = .ok (.iconst 0, 1) := by decide +kernel
theorem dX11_proof_123 : decode cX11_proof 123 = .ok (.ireturn, 1) := by decide +kernel
theorem dX11_proof_124 : decode cX11_proof 124 = .ok (.aload 4, 2) := by decide +kernel
theorem dX11_proof_126 : decode cX11_proof 126 = .ok (.invokevirtual 292, 3) := by decide +kernel
theorem dX11_proof_129 : decode cX11_proof 129 = .ok (.aload 4, 2) := by decide +kernel
theorem dX11_proof_131 : decode cX11_proof 131 = .ok (.iconst 1, 1) := by decide +kernel
theorem dX11_proof_132 : decode cX11_proof 132 = .ok (.invokevirtual 295, 3) := by decide +kernel
theorem dX11_proof_135 : decode cX11_proof 135 = .ok (.aload 4, 2) := by decide +kernel
theorem dX11_proof_137 : decode cX11_proof 137 = .ok (.iload 6, 2) := by decide +kernel
theorem dX11_proof_139 : decode cX11_proof 139 = .ok (.iconst 1, 1) := by decide +kernel
theorem dX11_proof_140 : decode cX11_proof 140 = .ok (.if_icmp .ne 10, 3) := by decide +kernel
theorem dX11_proof_143 : decode cX11_proof 143 = .ok (.aload_n 0, 1) := by decide +kernel
theorem dX11_proof_144 : decode cX11_proof 144 = .ok (.getfield 9, 3) := by decide +kernel
theorem dX11_proof_147 : decode cX11_proof 147 = .ok (.goto 7, 3) := by decide +kernel
theorem dX11_proof_150 : decode cX11_proof 150 = .ok (.aload_n 0, 1) := by decide +kernel
theorem dX11_proof_151 : decode cX11_proof 151 = .ok (.getfield 13, 3) := by decide +kernel
theorem dX11_proof_154 : decode cX11_proof 154 = .ok (.iload 6, 2) := by decide +kernel
theorem dX11_proof_156 : decode cX11_proof 156 = .ok (.iconst 1, 1) := by decide +kernel
theorem dX11_proof_157 : decode cX11_proof 157 = .ok (.if_icmp .ne 8, 3) := by decide +kernel
theorem dX11_proof_160 : decode cX11_proof 160 = .ok (.iload 5, 2) := by decide +kernel
theorem dX11_proof_162 : decode cX11_proof 162 = .ok (.goto 4, 3) := by decide +kernel
theorem dX11_proof_165 : decode cX11_proof 165 = .ok (.iconst 0, 1) := by decide +kernel
theorem dX11_proof_166 : decode cX11_proof 166 = .ok (.iload 6, 2) := by decide +kernel
theorem dX11_proof_168 : decode cX11_proof 168 = .ok (.iconst 1, 1) := by decide +kernel
theorem dX11_proof_169 : decode cX11_proof 169 = .ok (.if_icmp .ne 11, 3) := by decide +kernel
theorem dX11_proof_172 : decode cX11_proof 172 = .ok (.iload 5, 2) := by decide +kernel
theorem dX11_proof_174 : decode cX11_proof 174 = .ok (.bipush 32, 2) := by decide +kernel
theorem dX11_proof_176 : decode cX11_proof 176 = .ok (.iadd, 1) := by decide +kernel
theorem dX11_proof_177 : decode cX11_proof 177 = .ok (.goto 5, 3) := by decide +kernel
theorem dX11_proof_180 : decode cX11_proof 180 = .ok (.bipush 32, 2) := by decide +kernel
theorem dX11_proof_182 : decode cX11_proof 182 = .ok (.invokevirtual 298, 3) := by decide +kernel
theorem dX11_proof_185 : decode cX11_proof 185 = .ok (.aload 4, 2) := by decide +kernel
theorem dX11_proof_187 : decode cX11_proof 187 = .ok (.iload 6, 2) := by decide +kernel
theorem dX11_proof_189 : decode cX11_proof 189 = .ok (.iconst 1, 1) := by decide +kernel
theorem dX11_proof_190 : decode cX11_proof 190 = .ok (.if_icmp .ne 10, 3) := by decide +kernel
theorem dX11_proof_193 : decode cX11_proof 193 = .ok (.aload_n 0, 1) := by decide +kernel
theorem dX11_proof_194 : decode cX11_proof 194 = .ok (.getfield 13, 3) := by decide +kernel
theorem dX11_proof_197 : decode cX11_proof 197 = .ok (.goto 7, 3) := by decide +kernel
theorem dX11_proof_200 : decode cX11_proof 200 = .ok (.aload_n 0, 1) := by decide +kernel
theorem dX11_proof_201 : decode cX11_proof 201 = .ok (.getfield 9, 3) := by decide +kernel
theorem dX11_proof_204 : decode cX11_proof 204 = .ok (.iload 6, 2) := by decide +kernel
theorem dX11_proof_206 : decode cX11_proof 206 = .ok (.iconst 1, 1) := by decide +kernel
theorem dX11_proof_207 : decode cX11_proof 207 = .ok (.if_icmp .ne 7, 3) := by decide +kernel
theorem dX11_proof_210 : decode cX11_proof 210 = .ok (.iconst 0, 1) := by decide +kernel
theorem dX11_proof_211 : decode cX11_proof 211 = .ok (.goto 5, 3) := by decide +kernel
theorem dX11_proof_214 : decode cX11_proof 214 = .ok (.iload 5, 2) := by decide +kernel
theorem dX11_proof_216 : decode cX11_proof 216 = .ok (.iload 6, 2) := by decide +kernel
theorem dX11_proof_218 : decode cX11_proof 218 = .ok (.iconst 1, 1) := by decide +kernel
theorem dX11_proof_219 : decode cX11_proof 219 = .ok (.if_icmp .ne 8, 3) := by decide +kernel
theorem dX11_proof_222 : decode cX11_proof 222 = .ok (.bipush 32, 2) := by decide +kernel
theorem dX11_proof_224 : decode cX11_proof 224 = .ok (.goto 8, 3) := by decide +kernel
theorem dX11_proof_227 : decode cX11_proof 227 = .ok (.iload 5, 2) := by decide +kernel
theorem dX11_proof_229 : decode cX11_proof 229 = .ok (.bipush 32, 2) := by decide +kernel
theorem dX11_proof_231 : decode cX11_proof 231 = .ok (.iadd, 1) := by decide +kernel
theorem dX11_proof_232 : decode cX11_proof 232 = .ok (.invokevirtual 298, 3) := by decide +kernel
theorem dX11_proof_235 : decode cX11_proof 235 = .ok (.aload 4, 2) := by decide +kernel
theorem dX11_proof_237 : decode cX11_proof 237 = .ok (.aload_n 0, 1) := by decide +kernel
theorem dX11_proof_238 : decode cX11_proof 238 = .ok (.getfield 13, 3) := by decide +kernel
theorem dX11_proof_241 : decode cX11_proof 241 = .ok (.iconst 0, 1) := by decide +kernel
theorem dX11_proof_242 : decode cX11_proof 242 = .ok (.invokevirtual 301, 3) := by decide +kernel
theorem dX11_proof_245 : decode cX11_proof 245 = .ok (.iinc 5 32, 3) := by decide +kernel
theorem dX11_proof_248 : decode cX11_proof 248 = .ok (.goto (-173), 3) := by decide +kernel
theorem dX11_proof_251 : decode cX11_proof 251 = .ok (.aload_n 0, 1) := by decide +kernel
theorem dX11_proof_252 : decode cX11_proof 252 = .ok (.getfield 13, 3) := by decide +kernel
theorem dX11_proof_255 : decode cX11_proof 255 = .ok (.iconst 0, 1) := by decide +kernel
theorem dX11_proof_256 : decode cX11_proof 256 = .ok (.aload_n 0, 1) := by decide +kernel
theorem dX11_proof_257 : decode cX11_proof 257 = .ok (.getfield 9, 3) := by decide +kernel
theorem dX11_proof_260 : decode cX11_proof 260 = .ok (.iload_n 1, 1) := by decide +kernel
theorem dX11_proof_261 : decode cX11_proof 261 = .ok (.ifCond .ne 8, 3) := by decide +kernel
theorem dX11_proof_264 : decode cX11_proof 264 = .ok (.bipush 67, 2) := by decide +kernel
theorem dX11_proof_266 : decode cX11_proof 266 = .ok (.goto 5, 3) := by decide +kernel
theorem dX11_proof_269 : decode cX11_proof 269 = .ok (.bipush 35, 2) := by decide +kernel
theorem dX11_proof_271 : decode cX11_proof 271 = .ok (.bipush 32, 2) := by decide +kernel
theorem dX11_proof_273 : decode cX11_proof 273 = .ok (.invokestatic 304, 3) := by decide +kernel
theorem dX11_proof_276 : decode cX11_proof 276 = .ok (.ireturn, 1) := by decide +kernel
theorem dX11_balance_0 : decode cX11_balance 0 = .ok (.aload_n 0, 1) := by decide +kernel
theorem dX11_balance_1 : decode cX11_balance 1 = .ok (.iload_n 1, 1) := by decide +kernel
theorem dX11_balance_2 : decode cX11_balance 2 = .ok (.invokevirtual 120, 3) := by decide +kernel
theorem dX11_balance_5 : decode cX11_balance 5 = .ok (.astore_n 3, 1) := by decide +kernel
theorem dX11_balance_6 : decode cX11_balance 6 = .ok (.aload_n 3, 1) := by decide +kernel
theorem dX11_balance_7 : decode cX11_balance 7 = .ok (.ifnull 13, 3) := by decide +kernel
theorem dX11_balance_10 : decode cX11_balance 10 = .ok (.iload_n 2, 1) := by decide +kernel
theorem dX11_balance_11 : decode cX11_balance 11 = .ok (.ifCond .lt 9, 3) := by decide +kernel
theorem dX11_balance_14 : decode cX11_balance 14 = .ok (.iload_n 2, 1) := by decide +kernel
theorem dX11_balance_15 : decode cX11_balance 15 = .ok (.bipush 16, 2) := by decide +kernel
theorem dX11_balance_17 : decode cX11_balance 17 = .ok (.if_icmp .lt 7, 3) := by decide +kernel
theorem dX11_balance_20 : decode cX11_balance 20 = .ok (.iconst (-1), 1) := by decide +kernel
theorem dX11_balance_21 : decode cX11_balance 21 = .ok (.goto 12, 3) := by decide +kernel
theorem dX11_balance_24 : decode cX11_balance 24 = .ok (.aload_n 3, 1) := by decide +kernel
theorem dX11_balance_25 : decode cX11_balance 25 = .ok (.getfield 129, 3) := by decide +kernel
theorem dX11_balance_28 : decode cX11_balance 28 = .ok (.getfield 308, 3) := by decide +kernel
theorem dX11_balance_31 : decode cX11_balance 31 = .ok (.iload_n 2, 1) := by decide +kernel
theorem dX11_balance_32 : decode cX11_balance 32 = .ok (.iaload, 1) := by decide +kernel
theorem dX11_balance_33 : decode cX11_balance 33 = .ok (.ireturn, 1) := by decide +kernel
theorem dX11_count_0 : decode cX11_count 0 = .ok (.iload_n 1, 1) := by decide +kernel
theorem dX11_count_1 : decode cX11_count 1 = .ok (.tableswitch 116 0 6 #[43, 54, 62, 73, 84, 95, 100], 43) := by decide +kernel
theorem dX11_count_44 : decode cX11_count 44 = .ok (.aload_n 0, 1) := by decide +kernel
theorem dX11_count_45 : decode cX11_count 45 = .ok (.getfield 22, 3) := by decide +kernel
theorem dX11_count_48 : decode cX11_count 48 = .ok (.getfield 38, 3) := by decide +kernel
theorem dX11_count_51 : decode cX11_count 51 = .ok (.getfield 312, 3) := by decide +kernel
theorem dX11_count_54 : decode cX11_count 54 = .ok (.ireturn, 1) := by decide +kernel
theorem dX11_count_55 : decode cX11_count 55 = .ok (.aload_n 0, 1) := by decide +kernel
theorem dX11_count_56 : decode cX11_count 56 = .ok (.getfield 22, 3) := by decide +kernel
theorem dX11_count_59 : decode cX11_count 59 = .ok (.getfield 87, 3) := by decide +kernel
theorem dX11_count_62 : decode cX11_count 62 = .ok (.ireturn, 1) := by decide +kernel
theorem dX11_count_63 : decode cX11_count 63 = .ok (.aload_n 0, 1) := by decide +kernel
theorem dX11_count_64 : decode cX11_count 64 = .ok (.getfield 22, 3) := by decide +kernel
theorem dX11_count_67 : decode cX11_count 67 = .ok (.getfield 38, 3) := by decide +kernel
theorem dX11_count_70 : decode cX11_count 70 = .ok (.getfield 315, 3) := by decide +kernel
theorem dX11_count_73 : decode cX11_count 73 = .ok (.ireturn, 1) := by decide +kernel
theorem dX11_count_74 : decode cX11_count 74 = .ok (.aload_n 0, 1) := by decide +kernel
theorem dX11_count_75 : decode cX11_count 75 = .ok (.getfield 22, 3) := by decide +kernel
theorem dX11_count_78 : decode cX11_count 78 = .ok (.getfield 38, 3) := by decide +kernel
theorem dX11_count_81 : decode cX11_count 81 = .ok (.getfield 318, 3) := by decide +kernel
theorem dX11_count_84 : decode cX11_count 84 = .ok (.ireturn, 1) := by decide +kernel
theorem dX11_count_85 : decode cX11_count 85 = .ok (.aload_n 0, 1) := by decide +kernel
theorem dX11_count_86 : decode cX11_count 86 = .ok (.getfield 22, 3) := by decide +kernel
theorem dX11_count_89 : decode cX11_count 89 = .ok (.getfield 38, 3) := by decide +kernel
theorem dX11_count_92 : decode cX11_count 92 = .ok (.getfield 319, 3) := by decide +kernel
theorem dX11_count_95 : decode cX11_count 95 = .ok (.ireturn, 1) := by decide +kernel
theorem dX11_count_96 : decode cX11_count 96 = .ok (.aload_n 0, 1) := by decide +kernel
theorem dX11_count_97 : decode cX11_count 97 = .ok (.getfield 26, 3) := by decide +kernel
theorem dX11_count_100 : decode cX11_count 100 = .ok (.ireturn, 1) := by decide +kernel
theorem dX11_count_101 : decode cX11_count 101 = .ok (.aload_n 0, 1) := by decide +kernel
theorem dX11_count_102 : decode cX11_count 102 = .ok (.getfield 22, 3) := by decide +kernel
theorem dX11_count_105 : decode cX11_count 105 = .ok (.getfield 87, 3) := by decide +kernel
theorem dX11_count_108 : decode cX11_count 108 = .ok (.aload_n 0, 1) := by decide +kernel
theorem dX11_count_109 : decode cX11_count 109 = .ok (.getfield 22, 3) := by decide +kernel
theorem dX11_count_112 : decode cX11_count 112 = .ok (.getfield 69, 3) := by decide +kernel
theorem dX11_count_115 : decode cX11_count 115 = .ok (.isub, 1) := by decide +kernel
theorem dX11_count_116 : decode cX11_count 116 = .ok (.ireturn, 1) := by decide +kernel
theorem dX11_count_117 : decode cX11_count 117 = .ok (.iconst (-1), 1) := by decide +kernel
theorem dX11_count_118 : decode cX11_count 118 = .ok (.ireturn, 1) := by decide +kernel
theorem dX11_honestNode_0 : decode cX11_honestNode 0 = .ok (.iload_n 1, 1) := by decide +kernel
theorem dX11_honestNode_1 : decode cX11_honestNode 1 = .ok (.ifCond .lt 26, 3) := by decide +kernel
theorem dX11_honestNode_4 : decode cX11_honestNode 4 = .ok (.iload_n 1, 1) := by decide +kernel
theorem dX11_honestNode_5 : decode cX11_honestNode 5 = .ok (.aload_n 0, 1) := by decide +kernel
theorem dX11_honestNode_6 : decode cX11_honestNode 6 = .ok (.getfield 22, 3) := by decide +kernel
theorem dX11_honestNode_9 : decode cX11_honestNode 9 = .ok (.getfield 69, 3) := by decide +kernel
theorem dX11_honestNode_12 : decode cX11_honestNode 12 = .ok (.if_icmp .ge 15, 3) := by decide +kernel
theorem dX11_honestNode_15 : decode cX11_honestNode 15 = .ok (.aload_n 0, 1) := by decide +kernel
theorem dX11_honestNode_16 : decode cX11_honestNode 16 = .ok (.getfield 22, 3) := by decide +kernel
theorem dX11_honestNode_19 : decode cX11_honestNode 19 = .ok (.getfield 322, 3) := by decide +kernel
theorem dX11_honestNode_22 : decode cX11_honestNode 22 = .ok (.iload_n 1, 1) := by decide +kernel
theorem dX11_honestNode_23 : decode cX11_honestNode 23 = .ok (.aaload, 1) := by decide +kernel
theorem dX11_honestNode_24 : decode cX11_honestNode 24 = .ok (.goto 4, 3) := by decide +kernel
theorem dX11_honestNode_27 : decode cX11_honestNode 27 = .ok (.aconst_null, 1) := by decide +kernel
theorem dX11_honestNode_28 : decode cX11_honestNode 28 = .ok (.areturn, 1) := by decide +kernel
theorem dX11_eight_0 : decode cX11_eight 0 = .ok (.lconst 0, 1) := by decide +kernel
theorem dX11_eight_1 : decode cX11_eight 1 = .ok (.lstore_n 3, 1) := by decide +kernel
theorem dX11_eight_2 : decode cX11_eight 2 = .ok (.iconst 0, 1) := by decide +kernel
theorem dX11_eight_3 : decode cX11_eight 3 = .ok (.istore 5, 2) := by decide +kernel
theorem dX11_eight_5 : decode cX11_eight 5 = .ok (.iload 5, 2) := by decide +kernel
theorem dX11_eight_7 : decode cX11_eight 7 = .ok (.bipush 8, 2) := by decide +kernel
theorem dX11_eight_9 : decode cX11_eight 9 = .ok (.if_icmp .ge 63, 3) := by decide +kernel
theorem dX11_eight_12 : decode cX11_eight 12 = .ok (.iload_n 2, 1) := by decide +kernel
theorem dX11_eight_13 : decode cX11_eight 13 = .ok (.ifCond .lt 24, 3) := by decide +kernel
theorem dX11_eight_16 : decode cX11_eight 16 = .ok (.iload_n 2, 1) := by decide +kernel
theorem dX11_eight_17 : decode cX11_eight 17 = .ok (.iload_n 1, 1) := by decide +kernel
theorem dX11_eight_18 : decode cX11_eight 18 = .ok (.iload 5, 2) := by decide +kernel
theorem dX11_eight_20 : decode cX11_eight 20 = .ok (.isub, 1) := by decide +kernel
theorem dX11_eight_21 : decode cX11_eight 21 = .ok (.if_icmp .ge 16, 3) := by decide +kernel
theorem dX11_eight_24 : decode cX11_eight 24 = .ok (.iload_n 2, 1) := by decide +kernel
theorem dX11_eight_25 : decode cX11_eight 25 = .ok (.aload_n 0, 1) := by decide +kernel
theorem dX11_eight_26 : decode cX11_eight 26 = .ok (.arraylength, 1) := by decide +kernel
theorem dX11_eight_27 : decode cX11_eight 27 = .ok (.iload 5, 2) := by decide +kernel
theorem dX11_eight_29 : decode cX11_eight 29 = .ok (.isub, 1) := by decide +kernel
theorem dX11_eight_30 : decode cX11_eight 30 = .ok (.if_icmp .ge 7, 3) := by decide +kernel
theorem dX11_eight_33 : decode cX11_eight 33 = .ok (.iconst 1, 1) := by decide +kernel
theorem dX11_eight_34 : decode cX11_eight 34 = .ok (.goto 4, 3) := by decide +kernel
theorem dX11_eight_37 : decode cX11_eight 37 = .ok (.iconst 0, 1) := by decide +kernel
theorem dX11_eight_38 : decode cX11_eight 38 = .ok (.istore 6, 2) := by decide +kernel
theorem dX11_eight_40 : decode cX11_eight 40 = .ok (.lload_n 3, 1) := by decide +kernel
theorem dX11_eight_41 : decode cX11_eight 41 = .ok (.bipush 8, 2) := by decide +kernel
theorem dX11_eight_43 : decode cX11_eight 43 = .ok (.lshl, 1) := by decide +kernel
theorem dX11_eight_44 : decode cX11_eight 44 = .ok (.iload 6, 2) := by decide +kernel
theorem dX11_eight_46 : decode cX11_eight 46 = .ok (.ifCond .eq 16, 3) := by decide +kernel
theorem dX11_eight_49 : decode cX11_eight 49 = .ok (.aload_n 0, 1) := by decide +kernel
theorem dX11_eight_50 : decode cX11_eight 50 = .ok (.iload_n 2, 1) := by decide +kernel
theorem dX11_eight_51 : decode cX11_eight 51 = .ok (.iload 5, 2) := by decide +kernel
theorem dX11_eight_53 : decode cX11_eight 53 = .ok (.iadd, 1) := by decide +kernel
theorem dX11_eight_54 : decode cX11_eight 54 = .ok (.baload, 1) := by decide +kernel
theorem dX11_eight_55 : decode cX11_eight 55 = .ok (.sipush 255, 3) := by decide +kernel
theorem dX11_eight_58 : decode cX11_eight 58 = .ok (.iand, 1) := by decide +kernel
theorem dX11_eight_59 : decode cX11_eight 59 = .ok (.goto 4, 3) := by decide +kernel
theorem dX11_eight_62 : decode cX11_eight 62 = .ok (.iconst 0, 1) := by decide +kernel
theorem dX11_eight_63 : decode cX11_eight 63 = .ok (.i2l, 1) := by decide +kernel
theorem dX11_eight_64 : decode cX11_eight 64 = .ok (.lor, 1) := by decide +kernel
theorem dX11_eight_65 : decode cX11_eight 65 = .ok (.lstore_n 3, 1) := by decide +kernel
theorem dX11_eight_66 : decode cX11_eight 66 = .ok (.iinc 5 1, 3) := by decide +kernel
theorem dX11_eight_69 : decode cX11_eight 69 = .ok (.goto (-64), 3) := by decide +kernel
theorem dX11_eight_72 : decode cX11_eight 72 = .ok (.lload_n 3, 1) := by decide +kernel
theorem dX11_eight_73 : decode cX11_eight 73 = .ok (.lreturn, 1) := by decide +kernel
theorem dX11_sameBytes_0 : decode cX11_sameBytes 0 = .ok (.iload_n 1, 1) := by decide +kernel
theorem dX11_sameBytes_1 : decode cX11_sameBytes 1 = .ok (.ifCond .lt 25, 3) := by decide +kernel
theorem dX11_sameBytes_4 : decode cX11_sameBytes 4 = .ok (.iload_n 3, 1) := by decide +kernel
theorem dX11_sameBytes_5 : decode cX11_sameBytes 5 = .ok (.ifCond .lt 21, 3) := by decide +kernel
theorem dX11_sameBytes_8 : decode cX11_sameBytes 8 = .ok (.aload_n 0, 1) := by decide +kernel
theorem dX11_sameBytes_9 : decode cX11_sameBytes 9 = .ok (.arraylength, 1) := by decide +kernel
theorem dX11_sameBytes_10 : decode cX11_sameBytes 10 = .ok (.iload_n 1, 1) := by decide +kernel
theorem dX11_sameBytes_11 : decode cX11_sameBytes 11 = .ok (.isub, 1) := by decide +kernel
theorem dX11_sameBytes_12 : decode cX11_sameBytes 12 = .ok (.iload 4, 2) := by decide +kernel
theorem dX11_sameBytes_14 : decode cX11_sameBytes 14 = .ok (.if_icmp .lt 12, 3) := by decide +kernel
theorem dX11_sameBytes_17 : decode cX11_sameBytes 17 = .ok (.aload_n 2, 1) := by decide +kernel
theorem dX11_sameBytes_18 : decode cX11_sameBytes 18 = .ok (.arraylength, 1) := by decide +kernel
theorem dX11_sameBytes_19 : decode cX11_sameBytes 19 = .ok (.iload_n 3, 1) := by decide +kernel
theorem dX11_sameBytes_20 : decode cX11_sameBytes 20 = .ok (.isub, 1) := by decide +kernel
theorem dX11_sameBytes_21 : decode cX11_sameBytes 21 = .ok (.iload 4, 2) := by decide +kernel
theorem dX11_sameBytes_23 : decode cX11_sameBytes 23 = .ok (.if_icmp .ge 5, 3) := by decide +kernel
theorem dX11_sameBytes_26 : decode cX11_sameBytes 26 = .ok (.iconst 0, 1) := by decide +kernel
theorem dX11_sameBytes_27 : decode cX11_sameBytes 27 = .ok (.ireturn, 1) := by decide +kernel
theorem dX11_sameBytes_28 : decode cX11_sameBytes 28 = .ok (.iconst 0, 1) := by decide +kernel
theorem dX11_sameBytes_29 : decode cX11_sameBytes 29 = .ok (.istore 5, 2) := by decide +kernel
theorem dX11_sameBytes_31 : decode cX11_sameBytes 31 = .ok (.iload 5, 2) := by decide +kernel
theorem dX11_sameBytes_33 : decode cX11_sameBytes 33 = .ok (.iload 4, 2) := by decide +kernel
theorem dX11_sameBytes_35 : decode cX11_sameBytes 35 = .ok (.if_icmp .ge 26, 3) := by decide +kernel
theorem dX11_sameBytes_38 : decode cX11_sameBytes 38 = .ok (.aload_n 0, 1) := by decide +kernel
theorem dX11_sameBytes_39 : decode cX11_sameBytes 39 = .ok (.iload_n 1, 1) := by decide +kernel
theorem dX11_sameBytes_40 : decode cX11_sameBytes 40 = .ok (.iload 5, 2) := by decide +kernel
theorem dX11_sameBytes_42 : decode cX11_sameBytes 42 = .ok (.iadd, 1) := by decide +kernel
theorem dX11_sameBytes_43 : decode cX11_sameBytes 43 = .ok (.baload, 1) := by decide +kernel
theorem dX11_sameBytes_44 : decode cX11_sameBytes 44 = .ok (.aload_n 2, 1) := by decide +kernel
theorem dX11_sameBytes_45 : decode cX11_sameBytes 45 = .ok (.iload_n 3, 1) := by decide +kernel
theorem dX11_sameBytes_46 : decode cX11_sameBytes 46 = .ok (.iload 5, 2) := by decide +kernel
theorem dX11_sameBytes_48 : decode cX11_sameBytes 48 = .ok (.iadd, 1) := by decide +kernel
theorem dX11_sameBytes_49 : decode cX11_sameBytes 49 = .ok (.baload, 1) := by decide +kernel
theorem dX11_sameBytes_50 : decode cX11_sameBytes 50 = .ok (.if_icmp .eq 5, 3) := by decide +kernel
theorem dX11_sameBytes_53 : decode cX11_sameBytes 53 = .ok (.iconst 0, 1) := by decide +kernel
theorem dX11_sameBytes_54 : decode cX11_sameBytes 54 = .ok (.ireturn, 1) := by decide +kernel
theorem dX11_sameBytes_55 : decode cX11_sameBytes 55 = .ok (.iinc 5 1, 3) := by decide +kernel
theorem dX11_sameBytes_58 : decode cX11_sameBytes 58 = .ok (.goto (-27), 3) := by decide +kernel
theorem dX11_sameBytes_61 : decode cX11_sameBytes 61 = .ok (.iconst 1, 1) := by decide +kernel
theorem dX11_sameBytes_62 : decode cX11_sameBytes 62 = .ok (.ireturn, 1) := by decide +kernel
theorem dX11_twoBytes_0 : decode cX11_twoBytes 0 = .ok (.iload_n 1, 1) := by decide +kernel
theorem dX11_twoBytes_1 : decode cX11_twoBytes 1 = .ok (.ifCond .lt 11, 3) := by decide +kernel
theorem dX11_twoBytes_4 : decode cX11_twoBytes 4 = .ok (.iload_n 1, 1) := by decide +kernel
theorem dX11_twoBytes_5 : decode cX11_twoBytes 5 = .ok (.aload_n 0, 1) := by decide +kernel
theorem dX11_twoBytes_6 : decode cX11_twoBytes 6 = .ok (.arraylength, 1) := by decide +kernel
theorem dX11_twoBytes_7 : decode cX11_twoBytes 7 = .ok (.iconst 2, 1) := by decide +kernel
theorem dX11_twoBytes_8 : decode cX11_twoBytes 8 = .ok (.isub, 1) := by decide +kernel
theorem dX11_twoBytes_9 : decode cX11_twoBytes 9 = .ok (.if_icmp .le 7, 3) := by decide +kernel
theorem dX11_twoBytes_12 : decode cX11_twoBytes 12 = .ok (.iconst 0, 1) := by decide +kernel
theorem dX11_twoBytes_13 : decode cX11_twoBytes 13 = .ok (.goto 23, 3) := by decide +kernel
theorem dX11_twoBytes_16 : decode cX11_twoBytes 16 = .ok (.aload_n 0, 1) := by decide +kernel
theorem dX11_twoBytes_17 : decode cX11_twoBytes 17 = .ok (.iload_n 1, 1) := by decide +kernel
theorem dX11_twoBytes_18 : decode cX11_twoBytes 18 = .ok (.baload, 1) := by decide +kernel
theorem dX11_twoBytes_19 : decode cX11_twoBytes 19 = .ok (.sipush 255, 3) := by decide +kernel
theorem dX11_twoBytes_22 : decode cX11_twoBytes 22 = .ok (.iand, 1) := by decide +kernel
theorem dX11_twoBytes_23 : decode cX11_twoBytes 23 = .ok (.bipush 8, 2) := by decide +kernel
theorem dX11_twoBytes_25 : decode cX11_twoBytes 25 = .ok (.ishl, 1) := by decide +kernel
theorem dX11_twoBytes_26 : decode cX11_twoBytes 26 = .ok (.aload_n 0, 1) := by decide +kernel
theorem dX11_twoBytes_27 : decode cX11_twoBytes 27 = .ok (.iload_n 1, 1) := by decide +kernel
theorem dX11_twoBytes_28 : decode cX11_twoBytes 28 = .ok (.iconst 1, 1) := by decide +kernel
theorem dX11_twoBytes_29 : decode cX11_twoBytes 29 = .ok (.iadd, 1) := by decide +kernel
theorem dX11_twoBytes_30 : decode cX11_twoBytes 30 = .ok (.baload, 1) := by decide +kernel
theorem dX11_twoBytes_31 : decode cX11_twoBytes 31 = .ok (.sipush 255, 3) := by decide +kernel
theorem dX11_twoBytes_34 : decode cX11_twoBytes 34 = .ok (.iand, 1) := by decide +kernel
theorem dX11_twoBytes_35 : decode cX11_twoBytes 35 = .ok (.ior, 1) := by decide +kernel
theorem dX11_twoBytes_36 : decode cX11_twoBytes 36 = .ok (.ireturn, 1) := by decide +kernel
theorem dX11_putTwo_0 : decode cX11_putTwo 0 = .ok (.iload_n 1, 1) := by decide +kernel
theorem dX11_putTwo_1 : decode cX11_putTwo 1 = .ok (.ifCond .lt 26, 3) := by decide +kernel
theorem dX11_putTwo_4 : decode cX11_putTwo 4 = .ok (.iload_n 1, 1) := by decide +kernel
theorem dX11_putTwo_5 : decode cX11_putTwo 5 = .ok (.aload_n 0, 1) := by decide +kernel
theorem dX11_putTwo_6 : decode cX11_putTwo 6 = .ok (.arraylength, 1) := by decide +kernel
theorem dX11_putTwo_7 : decode cX11_putTwo 7 = .ok (.iconst 2, 1) := by decide +kernel
theorem dX11_putTwo_8 : decode cX11_putTwo 8 = .ok (.isub, 1) := by decide +kernel
theorem dX11_putTwo_9 : decode cX11_putTwo 9 = .ok (.if_icmp .gt 18, 3) := by decide +kernel
theorem dX11_putTwo_12 : decode cX11_putTwo 12 = .ok (.aload_n 0, 1) := by decide +kernel
theorem dX11_putTwo_13 : decode cX11_putTwo 13 = .ok (.iload_n 1, 1) := by decide +kernel
theorem dX11_putTwo_14 : decode cX11_putTwo 14 = .ok (.iload_n 2, 1) := by decide +kernel
theorem dX11_putTwo_15 : decode cX11_putTwo 15 = .ok (.bipush 8, 2) := by decide +kernel
theorem dX11_putTwo_17 : decode cX11_putTwo 17 = .ok (.ishr, 1) := by decide +kernel
theorem dX11_putTwo_18 : decode cX11_putTwo 18 = .ok (.i2b, 1) := by decide +kernel
theorem dX11_putTwo_19 : decode cX11_putTwo 19 = .ok (.bastore, 1) := by decide +kernel
theorem dX11_putTwo_20 : decode cX11_putTwo 20 = .ok (.aload_n 0, 1) := by decide +kernel
theorem dX11_putTwo_21 : decode cX11_putTwo 21 = .ok (.iload_n 1, 1) := by decide +kernel
theorem dX11_putTwo_22 : decode cX11_putTwo 22 = .ok (.iconst 1, 1) := by decide +kernel
theorem dX11_putTwo_23 : decode cX11_putTwo 23 = .ok (.iadd, 1) := by decide +kernel
theorem dX11_putTwo_24 : decode cX11_putTwo 24 = .ok (.iload_n 2, 1) := by decide +kernel
theorem dX11_putTwo_25 : decode cX11_putTwo 25 = .ok (.i2b, 1) := by decide +kernel
theorem dX11_putTwo_26 : decode cX11_putTwo 26 = .ok (.bastore, 1) := by decide +kernel
theorem dX11_putTwo_27 : decode cX11_putTwo 27 = .ok (.return_, 1) := by decide +kernel
theorem dJ13_compare_74951_0 : decode cJ13_compare_74951 0 = .ok (.lload_n 0, 1) := by decide +kernel
theorem dJ13_compare_74951_1 : decode cJ13_compare_74951 1 = .ok (.lload_n 2, 1) := by decide +kernel
theorem dJ13_compare_74951_2 : decode cJ13_compare_74951 2 = .ok (.lcmp, 1) := by decide +kernel
theorem dJ13_compare_74951_3 : decode cJ13_compare_74951 3 = .ok (.ifCond .ge 7, 3) := by decide +kernel
theorem dJ13_compare_74951_6 : decode cJ13_compare_74951 6 = .ok (.iconst (-1), 1) := by decide +kernel
theorem dJ13_compare_74951_7 : decode cJ13_compare_74951 7 = .ok (.goto 14, 3) := by decide +kernel
theorem dJ13_compare_74951_10 : decode cJ13_compare_74951 10 = .ok (.lload_n 0, 1) := by decide +kernel
theorem dJ13_compare_74951_11 : decode cJ13_compare_74951 11 = .ok (.lload_n 2, 1) := by decide +kernel
theorem dJ13_compare_74951_12 : decode cJ13_compare_74951 12 = .ok (.lcmp, 1) := by decide +kernel
theorem dJ13_compare_74951_13 : decode cJ13_compare_74951 13 = .ok (.ifCond .ne 7, 3) := by decide +kernel
theorem dJ13_compare_74951_16 : decode cJ13_compare_74951 16 = .ok (.iconst 0, 1) := by decide +kernel
theorem dJ13_compare_74951_17 : decode cJ13_compare_74951 17 = .ok (.goto 4, 3) := by decide +kernel
theorem dJ13_compare_74951_20 : decode cJ13_compare_74951 20 = .ok (.iconst 1, 1) := by decide +kernel
theorem dJ13_compare_74951_21 : decode cJ13_compare_74951 21 = .ok (.ireturn, 1) := by decide +kernel
theorem dJ13_compareUnsigned_74951_0 : decode cJ13_compareUnsigned_74951 0 = .ok (.lload_n 0, 1) := by decide +kernel
theorem dJ13_compareUnsigned_74951_1 : decode cJ13_compareUnsigned_74951 1 = .ok (.ldc2_w 168, 3) := by decide +kernel
theorem dJ13_compareUnsigned_74951_4 : decode cJ13_compareUnsigned_74951 4 = .ok (.ladd, 1) := by decide +kernel
theorem dJ13_compareUnsigned_74951_5 : decode cJ13_compareUnsigned_74951 5 = .ok (.lload_n 2, 1) := by decide +kernel
theorem dJ13_compareUnsigned_74951_6 : decode cJ13_compareUnsigned_74951 6 = .ok (.ldc2_w 168, 3) := by decide +kernel
theorem dJ13_compareUnsigned_74951_9 : decode cJ13_compareUnsigned_74951 9 = .ok (.ladd, 1) := by decide +kernel
theorem dJ13_compareUnsigned_74951_10 : decode cJ13_compareUnsigned_74951 10 = .ok (.invokestatic 302, 3) := by decide +kernel
theorem dJ13_compareUnsigned_74951_13 : decode cJ13_compareUnsigned_74951 13 = .ok (.ireturn, 1) := by decide +kernel
theorem dJ9_max_7cf53_0 : decode cJ9_max_7cf53 0 = .ok (.iload_n 0, 1) := by decide +kernel
theorem dJ9_max_7cf53_1 : decode cJ9_max_7cf53 1 = .ok (.iload_n 1, 1) := by decide +kernel
theorem dJ9_max_7cf53_2 : decode cJ9_max_7cf53 2 = .ok (.if_icmp .lt 7, 3) := by decide +kernel
theorem dJ9_max_7cf53_5 : decode cJ9_max_7cf53 5 = .ok (.iload_n 0, 1) := by decide +kernel
theorem dJ9_max_7cf53_6 : decode cJ9_max_7cf53 6 = .ok (.goto 4, 3) := by decide +kernel
theorem dJ9_max_7cf53_9 : decode cJ9_max_7cf53 9 = .ok (.iload_n 1, 1) := by decide +kernel
theorem dJ9_max_7cf53_10 : decode cJ9_max_7cf53 10 = .ok (.ireturn, 1) := by decide +kernel
theorem dJ9_min_7cf53_0 : decode cJ9_min_7cf53 0 = .ok (.iload_n 0, 1) := by decide +kernel
theorem dJ9_min_7cf53_1 : decode cJ9_min_7cf53 1 = .ok (.iload_n 1, 1) := by decide +kernel
theorem dJ9_min_7cf53_2 : decode cJ9_min_7cf53 2 = .ok (.if_icmp .gt 7, 3) := by decide +kernel
theorem dJ9_min_7cf53_5 : decode cJ9_min_7cf53 5 = .ok (.iload_n 0, 1) := by decide +kernel
theorem dJ9_min_7cf53_6 : decode cJ9_min_7cf53 6 = .ok (.goto 4, 3) := by decide +kernel
theorem dJ9_min_7cf53_9 : decode cJ9_min_7cf53 9 = .ok (.iload_n 1, 1) := by decide +kernel
theorem dJ9_min_7cf53_10 : decode cJ9_min_7cf53 10 = .ok (.ireturn, 1) := by decide +kernel
theorem dJ7_rangeCheck_23922_0 : decode cJ7_rangeCheck_23922 0 = .ok (.iload_n 1, 1) := by decide +kernel
theorem dJ7_rangeCheck_23922_1 : decode cJ7_rangeCheck_23922 1 = .ok (.iload_n 2, 1) := by decide +kernel
theorem dJ7_rangeCheck_23922_2 : decode cJ7_rangeCheck_23922 2 = .ok (.if_icmp .le 44, 3) := by decide +kernel
theorem dJ7_rangeCheck_23922_5 : decode cJ7_rangeCheck_23922 5 = .ok (.new 43, 3) := by decide +kernel
theorem dJ7_rangeCheck_23922_8 : decode cJ7_rangeCheck_23922 8 = .ok (.dup, 1) := by decide +kernel
theorem dJ7_rangeCheck_23922_9 : decode cJ7_rangeCheck_23922 9 = .ok (.new 45, 3) := by decide +kernel
theorem dJ7_rangeCheck_23922_12 : decode cJ7_rangeCheck_23922 12 = .ok (.dup, 1) := by decide +kernel
theorem dJ7_rangeCheck_23922_13 : decode cJ7_rangeCheck_23922 13 = .ok (.invokespecial 47, 3) := by decide +kernel
theorem dJ7_rangeCheck_23922_16 : decode cJ7_rangeCheck_23922 16 = .ok (.ldc 48, 2) := by decide +kernel
theorem dJ7_rangeCheck_23922_18 : decode cJ7_rangeCheck_23922 18 = .ok (.invokevirtual 50, 3) := by decide +kernel
theorem dJ7_rangeCheck_23922_21 : decode cJ7_rangeCheck_23922 21 = .ok (.iload_n 1, 1) := by decide +kernel
theorem dJ7_rangeCheck_23922_22 : decode cJ7_rangeCheck_23922 22 = .ok (.invokevirtual 54, 3) := by decide +kernel
theorem dJ7_rangeCheck_23922_25 : decode cJ7_rangeCheck_23922 25 = .ok (.ldc 57, 2) := by decide +kernel
theorem dJ7_rangeCheck_23922_27 : decode cJ7_rangeCheck_23922 27 = .ok (.invokevirtual 50, 3) := by decide +kernel
theorem dJ7_rangeCheck_23922_30 : decode cJ7_rangeCheck_23922 30 = .ok (.iload_n 2, 1) := by decide +kernel
theorem dJ7_rangeCheck_23922_31 : decode cJ7_rangeCheck_23922 31 = .ok (.invokevirtual 54, 3) := by decide +kernel
theorem dJ7_rangeCheck_23922_34 : decode cJ7_rangeCheck_23922 34 = .ok (.ldc 59, 2) := by decide +kernel
theorem dJ7_rangeCheck_23922_36 : decode cJ7_rangeCheck_23922 36 = .ok (.invokevirtual 50, 3) := by decide +kernel
theorem dJ7_rangeCheck_23922_39 : decode cJ7_rangeCheck_23922 39 = .ok (.invokevirtual 61, 3) := by decide +kernel
theorem dJ7_rangeCheck_23922_42 : decode cJ7_rangeCheck_23922 42 = .ok (.invokespecial 65, 3) := by decide +kernel
theorem dJ7_rangeCheck_23922_45 : decode cJ7_rangeCheck_23922 45 = .ok (.athrow, 1) := by decide +kernel
theorem dJ7_rangeCheck_23922_46 : decode cJ7_rangeCheck_23922 46 = .ok (.iload_n 1, 1) := by decide +kernel
theorem dJ7_rangeCheck_23922_47 : decode cJ7_rangeCheck_23922 47 = .ok (.ifCond .ge 12, 3) := by decide +kernel
theorem dJ7_rangeCheck_23922_50 : decode cJ7_rangeCheck_23922 50 = .ok (.new 68, 3) := by decide +kernel
theorem dJ7_rangeCheck_23922_53 : decode cJ7_rangeCheck_23922 53 = .ok (.dup, 1) := by decide +kernel
theorem dJ7_rangeCheck_23922_54 : decode cJ7_rangeCheck_23922 54 = .ok (.iload_n 1, 1) := by decide +kernel
theorem dJ7_rangeCheck_23922_55 : decode cJ7_rangeCheck_23922 55 = .ok (.invokespecial 70, 3) := by decide +kernel
theorem dJ7_rangeCheck_23922_58 : decode cJ7_rangeCheck_23922 58 = .ok (.athrow, 1) := by decide +kernel
theorem dJ7_rangeCheck_23922_59 : decode cJ7_rangeCheck_23922 59 = .ok (.iload_n 2, 1) := by decide +kernel
theorem dJ7_rangeCheck_23922_60 : decode cJ7_rangeCheck_23922 60 = .ok (.iload_n 0, 1) := by decide +kernel
theorem dJ7_rangeCheck_23922_61 : decode cJ7_rangeCheck_23922 61 = .ok (.if_icmp .le 12, 3) := by decide +kernel
theorem dJ7_rangeCheck_23922_64 : decode cJ7_rangeCheck_23922 64 = .ok (.new 68, 3) := by decide +kernel
theorem dJ7_rangeCheck_23922_67 : decode cJ7_rangeCheck_23922 67 = .ok (.dup, 1) := by decide +kernel
theorem dJ7_rangeCheck_23922_68 : decode cJ7_rangeCheck_23922 68 = .ok (.iload_n 2, 1) := by decide +kernel
theorem dJ7_rangeCheck_23922_69 : decode cJ7_rangeCheck_23922 69 = .ok (.invokespecial 70, 3) := by decide +kernel
theorem dJ7_rangeCheck_23922_72 : decode cJ7_rangeCheck_23922 72 = .ok (.athrow, 1) := by decide +kernel
theorem dJ7_rangeCheck_23922_73 : decode cJ7_rangeCheck_23922 73 = .ok (.return_, 1) := by decide +kernel
theorem dJ7_fill_53178_0 : decode cJ7_fill_53178 0 = .ok (.iconst 0, 1) := by decide +kernel
theorem dJ7_fill_53178_1 : decode cJ7_fill_53178 1 = .ok (.istore_n 2, 1) := by decide +kernel
theorem dJ7_fill_53178_2 : decode cJ7_fill_53178 2 = .ok (.aload_n 0, 1) := by decide +kernel
theorem dJ7_fill_53178_3 : decode cJ7_fill_53178 3 = .ok (.arraylength, 1) := by decide +kernel
theorem dJ7_fill_53178_4 : decode cJ7_fill_53178 4 = .ok (.istore_n 3, 1) := by decide +kernel
theorem dJ7_fill_53178_5 : decode cJ7_fill_53178 5 = .ok (.iload_n 2, 1) := by decide +kernel
theorem dJ7_fill_53178_6 : decode cJ7_fill_53178 6 = .ok (.iload_n 3, 1) := by decide +kernel
theorem dJ7_fill_53178_7 : decode cJ7_fill_53178 7 = .ok (.if_icmp .ge 13, 3) := by decide +kernel
theorem dJ7_fill_53178_10 : decode cJ7_fill_53178 10 = .ok (.aload_n 0, 1) := by decide +kernel
theorem dJ7_fill_53178_11 : decode cJ7_fill_53178 11 = .ok (.iload_n 2, 1) := by decide +kernel
theorem dJ7_fill_53178_12 : decode cJ7_fill_53178 12 = .ok (.iload_n 1, 1) := by decide +kernel
theorem dJ7_fill_53178_13 : decode cJ7_fill_53178 13 = .ok (.iastore, 1) := by decide +kernel
theorem dJ7_fill_53178_14 : decode cJ7_fill_53178 14 = .ok (.iinc 2 1, 3) := by decide +kernel
theorem dJ7_fill_53178_17 : decode cJ7_fill_53178 17 = .ok (.goto (-12), 3) := by decide +kernel
theorem dJ7_fill_53178_20 : decode cJ7_fill_53178 20 = .ok (.return_, 1) := by decide +kernel
theorem dJ7_fill_eb02e_0 : decode cJ7_fill_eb02e 0 = .ok (.aload_n 0, 1) := by decide +kernel
theorem dJ7_fill_eb02e_1 : decode cJ7_fill_eb02e 1 = .ok (.arraylength, 1) := by decide +kernel
theorem dJ7_fill_eb02e_2 : decode cJ7_fill_eb02e 2 = .ok (.iload_n 1, 1) := by decide +kernel
theorem dJ7_fill_eb02e_3 : decode cJ7_fill_eb02e 3 = .ok (.iload_n 2, 1) := by decide +kernel
theorem dJ7_fill_eb02e_4 : decode cJ7_fill_eb02e 4 = .ok (.invokestatic 13, 3) := by decide +kernel
theorem dJ7_fill_eb02e_7 : decode cJ7_fill_eb02e 7 = .ok (.iload_n 1, 1) := by decide +kernel
theorem dJ7_fill_eb02e_8 : decode cJ7_fill_eb02e 8 = .ok (.istore 4, 2) := by decide +kernel
theorem dJ7_fill_eb02e_10 : decode cJ7_fill_eb02e 10 = .ok (.iload 4, 2) := by decide +kernel
theorem dJ7_fill_eb02e_12 : decode cJ7_fill_eb02e 12 = .ok (.iload_n 2, 1) := by decide +kernel
theorem dJ7_fill_eb02e_13 : decode cJ7_fill_eb02e 13 = .ok (.if_icmp .ge 14, 3) := by decide +kernel
theorem dJ7_fill_eb02e_16 : decode cJ7_fill_eb02e 16 = .ok (.aload_n 0, 1) := by decide +kernel
theorem dJ7_fill_eb02e_17 : decode cJ7_fill_eb02e 17 = .ok (.iload 4, 2) := by decide +kernel
theorem dJ7_fill_eb02e_19 : decode cJ7_fill_eb02e 19 = .ok (.iload_n 3, 1) := by decide +kernel
theorem dJ7_fill_eb02e_20 : decode cJ7_fill_eb02e 20 = .ok (.bastore, 1) := by decide +kernel
theorem dJ7_fill_eb02e_21 : decode cJ7_fill_eb02e 21 = .ok (.iinc 4 1, 3) := by decide +kernel
theorem dJ7_fill_eb02e_24 : decode cJ7_fill_eb02e 24 = .ok (.goto (-14), 3) := by decide +kernel
theorem dJ7_fill_eb02e_27 : decode cJ7_fill_eb02e 27 = .ok (.return_, 1) := by decide +kernel
