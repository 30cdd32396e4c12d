theorem dX12_arriveProposal_20 : decode cX12_arriveProposal 20 = .ok (.iconst 0, 1) := by decide +kernel
theorem dX12_arriveProposal_21 : decode cX12_arriveProposal 21 = .ok (.iload_n 1, 1) := by decide +kernel
theorem dX12_arriveProposal_22 : decode cX12_arriveProposal 22 = .ok (.aload_n 0, 1) := by decide +kernel
theorem dX12_arriveProposal_23 : decode cX12_arriveProposal 23 = .ok (.getfield 257, 3) := by decide +kernel
theorem dX12_arriveProposal_26 : decode cX12_arriveProposal 26 = .ok (.aload_n 0, 1) := by decide +kernel
theorem dX12_arriveProposal_27 : decode cX12_arriveProposal 27 = .ok (.getfield 263, 3) := by decide +kernel
theorem dX12_arriveProposal_30 : decode cX12_arriveProposal 30 = .ok (.invokestatic 466, 3) := by decide +kernel
theorem dX12_arriveProposal_33 : decode cX12_arriveProposal 33 = .ok (.iadd, 1) := by decide +kernel
theorem dX12_arriveProposal_34 : decode cX12_arriveProposal 34 = .ok (.istore_n 3, 1) := by decide +kernel
theorem dX12_arriveProposal_35 : decode cX12_arriveProposal 35 = .ok (.aload_n 0, 1) := by decide +kernel
theorem dX12_arriveProposal_36 : decode cX12_arriveProposal 36 = .ok (.iload_n 3, 1) := by decide +kernel
theorem dX12_arriveProposal_37 : decode cX12_arriveProposal 37 = .ok (.invokevirtual 63, 3) := by decide +kernel
theorem dX12_arriveProposal_40 : decode cX12_arriveProposal 40 = .ok (.ifCond .ne 36, 3) := by decide +kernel
theorem dX12_arriveProposal_43 : decode cX12_arriveProposal 43 = .ok (.aload_n 0, 1) := by decide +kernel
theorem dX12_arriveProposal_44 : decode cX12_arriveProposal 44 = .ok (.sipush 1352, 3) := by decide +kernel
theorem dX12_arriveProposal_47 : decode cX12_arriveProposal 47 = .ok (.iload_n 3, 1) := by decide +kernel
theorem dX12_arriveProposal_48 : decode cX12_arriveProposal 48 = .ok (.invokevirtual 507, 3) := by decide +kernel
theorem dX12_arriveProposal_51 : decode cX12_arriveProposal 51 = .ok (.aload_n 0, 1) := by decide +kernel
theorem dX12_arriveProposal_52 : decode cX12_arriveProposal 52 = .ok (.getfield 354, 3) := by decide +kernel
theorem dX12_arriveProposal_55 : decode cX12_arriveProposal 55 = .ok (.iload_n 3, 1) := by decide +kernel
theorem dX12_arriveProposal_56 : decode cX12_arriveProposal 56 = .ok (.iconst 0, 1) := by decide +kernel
theorem dX12_arriveProposal_57 : decode cX12_arriveProposal 57 = .ok (.isub, 1) := by decide +kernel
theorem dX12_arriveProposal_58 : decode cX12_arriveProposal 58 = .ok (.aload_n 0, 1) := by decide +kernel
theorem dX12_arriveProposal_59 : decode cX12_arriveProposal 59 = .ok (.getfield 273, 3) := by decide +kernel
theorem dX12_arriveProposal_62 : decode cX12_arriveProposal 62 = .ok (.iastore, 1) := by decide +kernel
theorem dX12_arriveProposal_63 : decode cX12_arriveProposal 63 = .ok (.aload_n 0, 1) := by decide +kernel
theorem dX12_arriveProposal_64 : decode cX12_arriveProposal 64 = .ok (.iload_n 1, 1) := by decide +kernel
theorem dX12_arriveProposal_65 : decode cX12_arriveProposal 65 = .ok (.iload_n 2, 1) := by decide +kernel
theorem dX12_arriveProposal_66 : decode cX12_arriveProposal 66 = .ok (.aload_n 0, 1) := by decide +kernel
theorem dX12_arriveProposal_67 : decode cX12_arriveProposal 67 = .ok (.getfield 260, 3) := by decide +kernel
theorem dX12_arriveProposal_70 : decode cX12_arriveProposal 70 = .ok (.invokevirtual 655, 3) := by decide +kernel
theorem dX12_arriveProposal_73 : decode cX12_arriveProposal 73 = .ok (.goto 76, 3) := by decide +kernel
theorem dX12_arriveProposal_76 : decode cX12_arriveProposal 76 = .ok (.aload_n 0, 1) := by decide +kernel
theorem dX12_arriveProposal_77 : decode cX12_arriveProposal 77 = .ok (.sipush 1352, 3) := by decide +kernel
theorem dX12_arriveProposal_80 : decode cX12_arriveProposal 80 = .ok (.iload_n 3, 1) := by decide +kernel
theorem dX12_arriveProposal_81 : decode cX12_arriveProposal 81 = .ok (.invokevirtual 594, 3) := by decide +kernel
theorem dX12_arriveProposal_84 : decode cX12_arriveProposal 84 = .ok (.ifCond .ne 65, 3) := by decide +kernel
theorem dX12_arriveProposal_87 : decode cX12_arriveProposal 87 = .ok (.iconst 0, 1) := by decide +kernel
theorem dX12_arriveProposal_88 : decode cX12_arriveProposal 88 = .ok (.istore 4, 2) := by decide +kernel
theorem dX12_arriveProposal_90 : decode cX12_arriveProposal 90 = .ok (.iload 4, 2) := by decide +kernel
theorem dX12_arriveProposal_92 : decode cX12_arriveProposal 92 = .ok (.iconst 4, 1) := by decide +kernel
theorem dX12_arriveProposal_93 : decode cX12_arriveProposal 93 = .ok (.if_icmp .ge 45, 3) := by decide +kernel
theorem dX12_arriveProposal_96 : decode cX12_arriveProposal 96 = .ok (.aload_n 0, 1) := by decide +kernel
theorem dX12_arriveProposal_97 : decode cX12_arriveProposal 97 = .ok (.getfield 270, 3) := by decide +kernel
theorem dX12_arriveProposal_100 : decode cX12_arriveProposal 100 = .ok (.iload 4, 2) := by decide +kernel
theorem dX12_arriveProposal_102 : decode cX12_arriveProposal 102 = .ok (.aload_n 0, 1) := by decide +kernel
theorem dX12_arriveProposal_103 : decode cX12_arriveProposal 103 = .ok (.getfield 60, 3) := by decide +kernel
theorem dX12_arriveProposal_106 : decode cX12_arriveProposal 106 = .ok (.sipush 5408, 3) := by decide +kernel
theorem dX12_arriveProposal_109 : decode cX12_arriveProposal 109 = .ok (.iload 4, 2) := by decide +kernel
theorem dX12_arriveProposal_111 : decode cX12_arriveProposal 111 = .ok (.iadd, 1) := by decide +kernel
theorem dX12_arriveProposal_112 : decode cX12_arriveProposal 112 = .ok (.laload, 1) := by decide +kernel
theorem dX12_arriveProposal_113 : decode cX12_arriveProposal 113 = .ok (.lastore, 1) := by decide +kernel
theorem dX12_arriveProposal_114 : decode cX12_arriveProposal 114 = .ok (.aload_n 0, 1) := by decide +kernel
theorem dX12_arriveProposal_115 : decode cX12_arriveProposal 115 = .ok (.getfield 439, 3) := by decide +kernel
theorem dX12_arriveProposal_118 : decode cX12_arriveProposal 118 = .ok (.iload 4, 2) := by decide +kernel
theorem dX12_arriveProposal_120 : decode cX12_arriveProposal 120 = .ok (.aload_n 0, 1) := by decide +kernel
theorem dX12_arriveProposal_121 : decode cX12_arriveProposal 121 = .ok (.getfield 60, 3) := by decide +kernel
theorem dX12_arriveProposal_124 : decode cX12_arriveProposal 124 = .ok (.iconst 4, 1) := by decide +kernel
theorem dX12_arriveProposal_125 : decode cX12_arriveProposal 125 = .ok (.iload_n 3, 1) := by decide +kernel
theorem dX12_arriveProposal_126 : decode cX12_arriveProposal 126 = .ok (.imul, 1) := by decide +kernel
theorem dX12_arriveProposal_127 : decode cX12_arriveProposal 127 = .ok (.iload 4, 2) := by decide +kernel
theorem dX12_arriveProposal_129 : decode cX12_arriveProposal 129 = .ok (.iadd, 1) := by decide +kernel
theorem dX12_arriveProposal_130 : decode cX12_arriveProposal 130 = .ok (.laload, 1) := by decide +kernel
theorem dX12_arriveProposal_131 : decode cX12_arriveProposal 131 = .ok (.lastore, 1) := by decide +kernel
theorem dX12_arriveProposal_132 : decode cX12_arriveProposal 132 = .ok (.iinc 4 1, 3) := by decide +kernel
theorem dX12_arriveProposal_135 : decode cX12_arriveProposal 135 = .ok (.goto (-45), 3) := by decide +kernel
theorem dX12_arriveProposal_138 : decode cX12_arriveProposal 138 = .ok (.aload_n 0, 1) := by decide +kernel
theorem dX12_arriveProposal_139 : decode cX12_arriveProposal 139 = .ok (.iconst 1, 1) := by decide +kernel
theorem dX12_arriveProposal_140 : decode cX12_arriveProposal 140 = .ok (.putfield 266, 3) := by decide +kernel
theorem dX12_arriveProposal_143 : decode cX12_arriveProposal 143 = .ok (.aload_n 0, 1) := by decide +kernel
theorem dX12_arriveProposal_144 : decode cX12_arriveProposal 144 = .ok (.iload_n 1, 1) := by decide +kernel
theorem dX12_arriveProposal_145 : decode cX12_arriveProposal 145 = .ok (.iconst 1, 1) := by decide +kernel
theorem dX12_arriveProposal_146 : decode cX12_arriveProposal 146 = .ok (.invokevirtual 688, 3) := by decide +kernel
theorem dX12_arriveProposal_149 : decode cX12_arriveProposal 149 = .ok (.return_, 1) := by decide +kernel
theorem dX12_arriveVote_0 : decode cX12_arriveVote 0 = .ok (.aload_n 0, 1) := by decide +kernel
theorem dX12_arriveVote_1 : decode cX12_arriveVote 1 = .ok (.getfield 282, 3) := by decide +kernel
theorem dX12_arriveVote_4 : decode cX12_arriveVote 4 = .ok (.iconst 3, 1) := by decide +kernel
theorem dX12_arriveVote_5 : decode cX12_arriveVote 5 = .ok (.if_icmp .ne 7, 3) := by decide +kernel
theorem dX12_arriveVote_8 : decode cX12_arriveVote 8 = .ok (.iconst 1, 1) := by decide +kernel
theorem dX12_arriveVote_9 : decode cX12_arriveVote 9 = .ok (.goto 4, 3) := by decide +kernel
theorem dX12_arriveVote_12 : decode cX12_arriveVote 12 = .ok (.iconst 0, 1) := by decide +kernel
theorem dX12_arriveVote_13 : decode cX12_arriveVote 13 = .ok (.iload_n 1, 1) := by decide +kernel
theorem dX12_arriveVote_14 : decode cX12_arriveVote 14 = .ok (.aload_n 0, 1) := by decide +kernel
theorem dX12_arriveVote_15 : decode cX12_arriveVote 15 = .ok (.getfield 257, 3) := by decide +kernel
theorem dX12_arriveVote_18 : decode cX12_arriveVote 18 = .ok (.aload_n 0, 1) := by decide +kernel
theorem dX12_arriveVote_19 : decode cX12_arriveVote 19 = .ok (.getfield 263, 3) := by decide +kernel
theorem dX12_arriveVote_22 : decode cX12_arriveVote 22 = .ok (.aload_n 0, 1) := by decide +kernel
theorem dX12_arriveVote_23 : decode cX12_arriveVote 23 = .ok (.getfield 260, 3) := by decide +kernel
theorem dX12_arriveVote_26 : decode cX12_arriveVote 26 = .ok (.invokestatic 470, 3) := by decide +kernel
theorem dX12_arriveVote_29 : decode cX12_arriveVote 29 = .ok (.istore_n 3, 1) := by decide +kernel
theorem dX12_arriveVote_30 : decode cX12_arriveVote 30 = .ok (.aload_n 0, 1) := by decide +kernel
theorem dX12_arriveVote_31 : decode cX12_arriveVote 31 = .ok (.getfield 357, 3) := by decide +kernel
theorem dX12_arriveVote_34 : decode cX12_arriveVote 34 = .ok (.iload_n 3, 1) := by decide +kernel
theorem dX12_arriveVote_35 : decode cX12_arriveVote 35 = .ok (.iaload, 1) := by decide +kernel
theorem dX12_arriveVote_36 : decode cX12_arriveVote 36 = .ok (.ifCond .ne 47, 3) := by decide +kernel
theorem dX12_arriveVote_39 : decode cX12_arriveVote 39 = .ok (.aload_n 0, 1) := by decide +kernel
theorem dX12_arriveVote_40 : decode cX12_arriveVote 40 = .ok (.iload_n 3, 1) := by decide +kernel
theorem dX12_arriveVote_41 : decode cX12_arriveVote 41 = .ok (.aload_n 0, 1) := by decide +kernel
theorem dX12_arriveVote_42 : decode cX12_arriveVote 42 = .ok (.getfield 266, 3) := by decide +kernel
theorem dX12_arriveVote_45 : decode cX12_arriveVote 45 = .ok (.aload_n 0, 1) := by decide +kernel
theorem dX12_arriveVote_46 : decode cX12_arriveVote 46 = .ok (.getfield 270, 3) := by decide +kernel
theorem dX12_arriveVote_49 : decode cX12_arriveVote 49 = .ok (.iconst 0, 1) := by decide +kernel
theorem dX12_arriveVote_50 : decode cX12_arriveVote 50 = .ok (.laload, 1) := by decide +kernel
theorem dX12_arriveVote_51 : decode cX12_arriveVote 51 = .ok (.aload_n 0, 1) := by decide +kernel
theorem dX12_arriveVote_52 : decode cX12_arriveVote 52 = .ok (.getfield 270, 3) := by decide +kernel
theorem dX12_arriveVote_55 : decode cX12_arriveVote 55 = .ok (.iconst 1, 1) := by decide +kernel
theorem dX12_arriveVote_56 : decode cX12_arriveVote 56 = .ok (.laload, 1) := by decide +kernel
theorem dX12_arriveVote_57 : decode cX12_arriveVote 57 = .ok (.aload_n 0, 1) := by decide +kernel
theorem dX12_arriveVote_58 : decode cX12_arriveVote 58 = .ok (.getfield 270, 3) := by decide +kernel
theorem dX12_arriveVote_61 : decode cX12_arriveVote 61 = .ok (.iconst 2, 1) := by decide +kernel
theorem dX12_arriveVote_62 : decode cX12_arriveVote 62 = .ok (.laload, 1) := by decide +kernel
theorem dX12_arriveVote_63 : decode cX12_arriveVote 63 = .ok (.aload_n 0, 1) := by decide +kernel
theorem dX12_arriveVote_64 : decode cX12_arriveVote 64 = .ok (.getfield 270, 3) := by decide +kernel
theorem dX12_arriveVote_67 : decode cX12_arriveVote 67 = .ok (.iconst 3, 1) := by decide +kernel
theorem dX12_arriveVote_68 : decode cX12_arriveVote 68 = .ok (.laload, 1) := by decide +kernel
theorem dX12_arriveVote_69 : decode cX12_arriveVote 69 = .ok (.invokevirtual 510, 3) := by decide +kernel
theorem dX12_arriveVote_72 : decode cX12_arriveVote 72 = .ok (.aload_n 0, 1) := by decide +kernel
theorem dX12_arriveVote_73 : decode cX12_arriveVote 73 = .ok (.iload_n 1, 1) := by decide +kernel
theorem dX12_arriveVote_74 : decode cX12_arriveVote 74 = .ok (.iload_n 2, 1) := by decide +kernel
theorem dX12_arriveVote_75 : decode cX12_arriveVote 75 = .ok (.aload_n 0, 1) := by decide +kernel
theorem dX12_arriveVote_76 : decode cX12_arriveVote 76 = .ok (.getfield 260, 3) := by decide +kernel
theorem dX12_arriveVote_79 : decode cX12_arriveVote 79 = .ok (.invokevirtual 655, 3) := by decide +kernel
theorem dX12_arriveVote_82 : decode cX12_arriveVote 82 = .ok (.return_, 1) := by decide +kernel
theorem dX12_arriveVote_83 : decode cX12_arriveVote 83 = .ok (.aload_n 0, 1) := by decide +kernel
theorem dX12_arriveVote_84 : decode cX12_arriveVote 84 = .ok (.getfield 439, 3) := by decide +kernel
theorem dX12_arriveVote_87 : decode cX12_arriveVote 87 = .ok (.iconst 0, 1) := by decide +kernel
theorem dX12_arriveVote_88 : decode cX12_arriveVote 88 = .ok (.aload_n 0, 1) := by decide +kernel
theorem dX12_arriveVote_89 : decode cX12_arriveVote 89 = .ok (.getfield 360, 3) := by decide +kernel
theorem dX12_arriveVote_92 : decode cX12_arriveVote 92 = .ok (.iload_n 3, 1) := by decide +kernel
theorem dX12_arriveVote_93 : decode cX12_arriveVote 93 = .ok (.laload, 1) := by decide +kernel
theorem dX12_arriveVote_94 : decode cX12_arriveVote 94 = .ok (.lastore, 1) := by decide +kernel
theorem dX12_arriveVote_95 : decode cX12_arriveVote 95 = .ok (.aload_n 0, 1) := by decide +kernel
theorem dX12_arriveVote_96 : decode cX12_arriveVote 96 = .ok (.getfield 439, 3) := by decide +kernel
theorem dX12_arriveVote_99 : decode cX12_arriveVote 99 = .ok (.iconst 1, 1) := by decide +kernel
theorem dX12_arriveVote_100 : decode cX12_arriveVote 100 = .ok (.aload_n 0, 1) := by decide +kernel
theorem dX12_arriveVote_101 : decode cX12_arriveVote 101 = .ok (.getfield 363, 3) := by decide +kernel
theorem dX12_arriveVote_104 : decode cX12_arriveVote 104 = .ok (.iload_n 3, 1) := by decide +kernel
theorem dX12_arriveVote_105 : decode cX12_arriveVote 105 = .ok (.laload, 1) := by decide +kernel
theorem dX12_arriveVote_106 : decode cX12_arriveVote 106 = .ok (.lastore, 1) := by decide +kernel
theorem dX12_arriveVote_107 : decode cX12_arriveVote 107 = .ok (.aload_n 0, 1) := by decide +kernel
theorem dX12_arriveVote_108 : decode cX12_arriveVote 108 = .ok (.getfield 439, 3) := by decide +kernel
theorem dX12_arriveVote_111 : decode cX12_arriveVote 111 = .ok (.iconst 2, 1) := by decide +kernel
theorem dX12_arriveVote_112 : decode cX12_arriveVote 112 = .ok (.aload_n 0, 1) := by decide +kernel
theorem dX12_arriveVote_113 : decode cX12_arriveVote 113 = .ok (.getfield 366, 3) := by decide +kernel
theorem dX12_arriveVote_116 : decode cX12_arriveVote 116 = .ok (.iload_n 3, 1) := by decide +kernel
theorem dX12_arriveVote_117 : decode cX12_arriveVote 117 = .ok (.laload, 1) := by decide +kernel
theorem dX12_arriveVote_118 : decode cX12_arriveVote 118 = .ok (.lastore, 1) := by decide +kernel
theorem dX12_arriveVote_119 : decode cX12_arriveVote 119 = .ok (.aload_n 0, 1) := by decide +kernel
theorem dX12_arriveVote_120 : decode cX12_arriveVote 120 = .ok (.getfield 439, 3) := by decide +kernel
theorem dX12_arriveVote_123 : decode cX12_arriveVote 123 = .ok (.iconst 3, 1) := by decide +kernel
theorem dX12_arriveVote_124 : decode cX12_arriveVote 124 = .ok (.aload_n 0, 1) := by decide +kernel
theorem dX12_arriveVote_125 : decode cX12_arriveVote 125 = .ok (.getfield 369, 3) := by decide +kernel
theorem dX12_arriveVote_128 : decode cX12_arriveVote 128 = .ok (.iload_n 3, 1) := by decide +kernel
theorem dX12_arriveVote_129 : decode cX12_arriveVote 129 = .ok (.laload, 1) := by decide +kernel
theorem dX12_arriveVote_130 : decode cX12_arriveVote 130 = .ok (.lastore, 1) := by decide +kernel
theorem dX12_arriveVote_131 : decode cX12_arriveVote 131 = .ok (.aload_n 0, 1) := by decide +kernel
theorem dX12_arriveVote_132 : decode cX12_arriveVote 132 = .ok (.getfield 266, 3) := by decide +kernel
theorem dX12_arriveVote_135 : decode cX12_arriveVote 135 = .ok (.aload_n 0, 1) := by decide +kernel
theorem dX12_arriveVote_136 : decode cX12_arriveVote 136 = .ok (.getfield 357, 3) := by decide +kernel
theorem dX12_arriveVote_139 : decode cX12_arriveVote 139 = .ok (.iload_n 3, 1) := by decide +kernel
theorem dX12_arriveVote_140 : decode cX12_arriveVote 140 = .ok (.iaload, 1) := by decide +kernel
theorem dX12_arriveVote_141 : decode cX12_arriveVote 141 = .ok (.iconst 2, 1) := by decide +kernel
theorem dX12_arriveVote_142 : decode cX12_arriveVote 142 = .ok (.if_icmp .ne 7, 3) := by decide +kernel
theorem dX12_arriveVote_145 : decode cX12_arriveVote 145 = .ok (.iconst 1, 1) := by decide +kernel
theorem dX12_arriveVote_146 : decode cX12_arriveVote 146 = .ok (.goto 4, 3) := by decide +kernel
theorem dX12_arriveVote_149 : decode cX12_arriveVote 149 = .ok (.iconst 0, 1) := by decide +kernel
theorem dX12_arriveVote_150 : decode cX12_arriveVote 150 = .ok (.if_icmp .ne 7, 3) := by decide +kernel
theorem dX12_arriveVote_153 : decode cX12_arriveVote 153 = .ok (.iconst 1, 1) := by decide +kernel
theorem dX12_arriveVote_154 : decode cX12_arriveVote 154 = .ok (.goto 4, 3) := by decide +kernel
theorem dX12_arriveVote_157 : decode cX12_arriveVote 157 = .ok (.iconst 0, 1) := by decide +kernel
theorem dX12_arriveVote_158 : decode cX12_arriveVote 158 = .ok (.istore 4, 2) := by decide +kernel
theorem dX12_arriveVote_160 : decode cX12_arriveVote 160 = .ok (.iconst 0, 1) := by decide +kernel
theorem dX12_arriveVote_161 : decode cX12_arriveVote 161 = .ok (.istore 5, 2) := by decide +kernel
theorem dX12_arriveVote_163 : decode cX12_arriveVote 163 = .ok (.iload 5, 2) := by decide +kernel
theorem dX12_arriveVote_165 : decode cX12_arriveVote 165 = .ok (.iconst 4, 1) := by decide +kernel
theorem dX12_arriveVote_166 : decode cX12_arriveVote 166 = .ok (.if_icmp .ge 39, 3) := by decide +kernel
theorem dX12_arriveVote_169 : decode cX12_arriveVote 169 = .ok (.iload 4, 2) := by decide +kernel
theorem dX12_arriveVote_171 : decode cX12_arriveVote 171 = .ok (.ifCond .eq 25, 3) := by decide +kernel
theorem dX12_arriveVote_174 : decode cX12_arriveVote 174 = .ok (.aload_n 0, 1) := by decide +kernel
theorem dX12_arriveVote_175 : decode cX12_arriveVote 175 = .ok (.getfield 270, 3) := by decide +kernel
theorem dX12_arriveVote_178 : decode cX12_arriveVote 178 = .ok (.iload 5, 2) := by decide +kernel
theorem dX12_arriveVote_180 : decode cX12_arriveVote 180 = .ok (.laload, 1) := by decide +kernel
theorem dX12_arriveVote_181 : decode cX12_arriveVote 181 = .ok (.aload_n 0, 1) := by decide +kernel
theorem dX12_arriveVote_182 : decode cX12_arriveVote 182 = .ok (.getfield 439, 3) := by decide +kernel
theorem dX12_arriveVote_185 : decode cX12_arriveVote 185 = .ok (.iload 5, 2) := by decide +kernel
theorem dX12_arriveVote_187 : decode cX12_arriveVote 187 = .ok (.laload, 1) := by decide +kernel
theorem dX12_arriveVote_188 : decode cX12_arriveVote 188 = .ok (.lcmp, 1) := by decide +kernel
theorem dX12_arriveVote_189 : decode cX12_arriveVote 189 = .ok (.ifCond .ne 7, 3) := by decide +kernel
theorem dX12_arriveVote_192 : decode cX12_arriveVote 192 = .ok (.iconst 1, 1) := by decide +kernel
theorem dX12_arriveVote_193 : decode cX12_arriveVote 193 = .ok (.goto 4, 3) := by decide +kernel
theorem dX12_arriveVote_196 : decode cX12_arriveVote 196 = .ok (.iconst 0, 1) := by decide +kernel
theorem dX12_arriveVote_197 : decode cX12_arriveVote 197 = .ok (.istore 4, 2) := by decide +kernel
theorem dX12_arriveVote_199 : decode cX12_arriveVote 199 = .ok (.iinc 5 1, 3) := by decide +kernel
theorem dX12_arriveVote_202 : decode cX12_arriveVote 202 = .ok (.goto (-39), 3) := by decide +kernel
theorem dX12_arriveVote_205 : decode cX12_arriveVote 205 = .ok (.iload 4, 2) := by decide +kernel
theorem dX12_arriveVote_207 : decode cX12_arriveVote 207 = .ok (.ifCond .ne 23, 3) := by decide +kernel
theorem dX12_arriveVote_210 : decode cX12_arriveVote 210 = .ok (.aload_n 0, 1) := by decide +kernel
theorem dX12_arriveVote_211 : decode cX12_arriveVote 211 = .ok (.iload_n 1, 1) := by decide +kernel
theorem dX12_arriveVote_212 : decode cX12_arriveVote 212 = .ok (.aload_n 0, 1) := by decide +kernel
theorem dX12_arriveVote_213 : decode cX12_arriveVote 213 = .ok (.getfield 357, 3) := by decide +kernel
theorem dX12_arriveVote_216 : decode cX12_arriveVote 216 = .ok (.iload_n 3, 1) := by decide +kernel
theorem dX12_arriveVote_217 : decode cX12_arriveVote 217 = .ok (.iaload, 1) := by decide +kernel
theorem dX12_arriveVote_218 : decode cX12_arriveVote 218 = .ok (.iconst 2, 1) := by decide +kernel
theorem dX12_arriveVote_219 : decode cX12_arriveVote 219 = .ok (.if_icmp .ne 7, 3) := by decide +kernel
theorem dX12_arriveVote_222 : decode cX12_arriveVote 222 = .ok (.iconst 1, 1) := by decide +kernel
theorem dX12_arriveVote_223 : decode cX12_arriveVote 223 = .ok (.goto 4, 3) := by decide +kernel
theorem dX12_arriveVote_226 : decode cX12_arriveVote 226 = .ok (.iconst 0, 1) := by decide +kernel
theorem dX12_arriveVote_227 : decode cX12_arriveVote 227 = .ok (.invokevirtual 688, 3) := by decide +kernel
theorem dX12_arriveVote_230 : decode cX12_arriveVote 230 = .ok (.return_, 1) := by decide +kernel
theorem dX12_isLessId_0 : decode cX12_isLessId 0 = .ok (.iconst 0, 1) := by decide +kernel
theorem dX12_isLessId_1 : decode cX12_isLessId 1 = .ok (.istore_n 1, 1) := by decide +kernel
theorem dX12_isLessId_2 : decode cX12_isLessId 2 = .ok (.iload_n 1, 1) := by decide +kernel
theorem dX12_isLessId_3 : decode cX12_isLessId 3 = .ok (.iconst 3, 1) := by decide +kernel
theorem dX12_isLessId_4 : decode cX12_isLessId 4 = .ok (.if_icmp .ge 25, 3) := by decide +kernel
theorem dX12_isLessId_7 : decode cX12_isLessId 7 = .ok (.aload_n 0, 1) := by decide +kernel
theorem dX12_isLessId_8 : decode cX12_isLessId 8 = .ok (.getfield 270, 3) := by decide +kernel
theorem dX12_isLessId_11 : decode cX12_isLessId 11 = .ok (.iload_n 1, 1) := by decide +kernel
theorem dX12_isLessId_12 : decode cX12_isLessId 12 = .ok (.laload, 1) := by decide +kernel
theorem dX12_isLessId_13 : decode cX12_isLessId 13 = .ok (.aload_n 0, 1) := by decide +kernel
theorem dX12_isLessId_14 : decode cX12_isLessId 14 = .ok (.getfield 439, 3) := by decide +kernel
theorem dX12_isLessId_17 : decode cX12_isLessId 17 = .ok (.iload_n 1, 1) := by decide +kernel
theorem dX12_isLessId_18 : decode cX12_isLessId 18 = .ok (.laload, 1) := by decide +kernel
theorem dX12_isLessId_19 : decode cX12_isLessId 19 = .ok (.lcmp, 1) := by decide +kernel
theorem dX12_isLessId_20 : decode cX12_isLessId 20 = .ok (.ifCond .ne 9, 3) := by decide +kernel
theorem dX12_isLessId_23 : decode cX12_isLessId 23 = .ok (.iinc 1 1, 3) := by decide +kernel
theorem dX12_isLessId_26 : decode cX12_isLessId 26 = .ok (.goto (-24), 3) := by decide +kernel
theorem dX12_isLessId_29 : decode cX12_isLessId 29 = .ok (.aload_n 0, 1) := by decide +kernel
theorem dX12_isLessId_30 : decode cX12_isLessId 30 = .ok (.getfield 270, 3) := by decide +kernel
theorem dX12_isLessId_33 : decode cX12_isLessId 33 = .ok (.iload_n 1, 1) := by decide +kernel
theorem dX12_isLessId_34 : decode cX12_isLessId 34 = .ok (.laload, 1) := by decide +kernel
theorem dX12_isLessId_35 : decode cX12_isLessId 35 = .ok (.ldc2_w 692, 3) := by decide +kernel
theorem dX12_isLessId_38 : decode cX12_isLessId 38 = .ok (.lxor, 1) := by decide +kernel
theorem dX12_isLessId_39 : decode cX12_isLessId 39 = .ok (.aload_n 0, 1) := by decide +kernel
theorem dX12_isLessId_40 : decode cX12_isLessId 40 = .ok (.getfield 439, 3) := by decide +kernel
theorem dX12_isLessId_43 : decode cX12_isLessId 43 = .ok (.iload_n 1, 1) := by decide +kernel
theorem dX12_isLessId_44 : decode cX12_isLessId 44 = .ok (.laload, 1) := by decide +kernel
theorem dX12_isLessId_45 : decode cX12_isLessId 45 = .ok (.ldc2_w 692, 3) := by decide +kernel
theorem dX12_isLessId_48 : decode cX12_isLessId 48 = .ok (.lxor, 1) := by decide +kernel
theorem dX12_isLessId_49 : decode cX12_isLessId 49 = .ok (.lcmp, 1) := by decide +kernel
theorem dX12_isLessId_50 : decode cX12_isLessId 50 = .ok (.ifCond .ge 7, 3) := by decide +kernel
theorem dX12_isLessId_53 : decode cX12_isLessId 53 = .ok (.iconst 1, 1) := by decide +kernel
theorem dX12_isLessId_54 : decode cX12_isLessId 54 = .ok (.goto 4, 3) := by decide +kernel
theorem dX12_isLessId_57 : decode cX12_isLessId 57 = .ok (.iconst 0, 1) := by decide +kernel
theorem dX12_isLessId_58 : decode cX12_isLessId 58 = .ok (.ireturn, 1) := by decide +kernel
theorem dX12_evidence_0 : decode cX12_evidence 0 = .ok (.aload_n 0, 1) := by decide +kernel
theorem dX12_evidence_1 : decode cX12_evidence 1 = .ok (.iconst 0, 1) := by decide +kernel
theorem dX12_evidence_2 : decode cX12_evidence 2 = .ok (.putfield 201, 3) := by decide +kernel
theorem dX12_evidence_5 : decode cX12_evidence 5 = .ok (.aload_n 0, 1) := by decide +kernel
theorem dX12_evidence_6 : decode cX12_evidence 6 = .ok (.bipush 6, 2) := by decide +kernel
theorem dX12_evidence_8 : decode cX12_evidence 8 = .ok (.invokevirtual 226, 3) := by decide +kernel
theorem dX12_evidence_11 : decode cX12_evidence 11 = .ok (.aload_n 0, 1) := by decide +kernel
theorem dX12_evidence_12 : decode cX12_evidence 12 = .ok (.aload_n 0, 1) := by decide +kernel
theorem dX12_evidence_13 : decode cX12_evidence 13 = .ok (.getfield 260, 3) := by decide +kernel
theorem dX12_evidence_16 : decode cX12_evidence 16 = .ok (.invokevirtual 226, 3) := by decide +kernel
theorem dX12_evidence_19 : decode cX12_evidence 19 = .ok (.aload_n 0, 1) := by decide +kernel
theorem dX12_evidence_20 : decode cX12_evidence 20 = .ok (.aload_n 0, 1) := by decide +kernel
theorem dX12_evidence_21 : decode cX12_evidence 21 = .ok (.getfield 282, 3) := by decide +kernel
theorem dX12_evidence_24 : decode cX12_evidence 24 = .ok (.invokevirtual 226, 3) := by decide +kernel
theorem dX12_evidence_27 : decode cX12_evidence 27 = .ok (.aload_n 0, 1) := by decide +kernel
theorem dX12_evidence_28 : decode cX12_evidence 28 = .ok (.aload_n 0, 1) := by decide +kernel
theorem dX12_evidence_29 : decode cX12_evidence 29 = .ok (.getfield 257, 3) := by decide +kernel
theorem dX12_evidence_32 : decode cX12_evidence 32 = .ok (.invokevirtual 229, 3) := by decide +kernel
theorem dX12_evidence_35 : decode cX12_evidence 35 = .ok (.aload_n 0, 1) := by decide +kernel
theorem dX12_evidence_36 : decode cX12_evidence 36 = .ok (.aload_n 0, 1) := by decide +kernel
theorem dX12_evidence_37 : decode cX12_evidence 37 = .ok (.getfield 263, 3) := by decide +kernel
theorem dX12_evidence_40 : decode cX12_evidence 40 = .ok (.invokevirtual 226, 3) := by decide +kernel
theorem dX12_evidence_43 : decode cX12_evidence 43 = .ok (.aload_n 0, 1) := by decide +kernel
theorem dX12_evidence_44 : decode cX12_evidence 44 = .ok (.getfield 266, 3) := by decide +kernel
theorem dX12_evidence_47 : decode cX12_evidence 47 = .ok (.ifCond .eq 14, 3) := by decide +kernel
theorem dX12_evidence_50 : decode cX12_evidence 50 = .ok (.iload_n 2, 1) := by decide +kernel
theorem dX12_evidence_51 : decode cX12_evidence 51 = .ok (.ifCond .eq 14, 3) := by decide +kernel
theorem dX12_evidence_54 : decode cX12_evidence 54 = .ok (.aload_n 0, 1) := by decide +kernel
theorem dX12_evidence_55 : decode cX12_evidence 55 = .ok (.invokevirtual 694, 3) := by decide +kernel
theorem dX12_evidence_58 : decode cX12_evidence 58 = .ok (.ifCond .eq 7, 3) := by decide +kernel
theorem dX12_evidence_61 : decode cX12_evidence 61 = .ok (.iconst 1, 1) := by decide +kernel
theorem dX12_evidence_62 : decode cX12_evidence 62 = .ok (.goto 4, 3) := by decide +kernel
theorem dX12_evidence_65 : decode cX12_evidence 65 = .ok (.iconst 0, 1) := by decide +kernel
theorem dX12_evidence_66 : decode cX12_evidence 66 = .ok (.istore_n 3, 1) := by decide +kernel
theorem dX12_evidence_67 : decode cX12_evidence 67 = .ok (.iconst 0, 1) := by decide +kernel
theorem dX12_evidence_68 : decode cX12_evidence 68 = .ok (.istore 4, 2) := by decide +kernel
theorem dX12_evidence_70 : decode cX12_evidence 70 = .ok (.iload 4, 2) := by decide +kernel
theorem dX12_evidence_72 : decode cX12_evidence 72 = .ok (.iconst 2, 1) := by decide +kernel
theorem dX12_evidence_73 : decode cX12_evidence 73 = .ok (.if_icmp .ge 118, 3) := by decide +kernel
theorem dX12_evidence_76 : decode cX12_evidence 76 = .ok (.iload_n 3, 1) := by decide +kernel
theorem dX12_evidence_77 : decode cX12_evidence 77 = .ok (.iload 4, 2) := by decide +kernel
theorem dX12_evidence_79 : decode cX12_evidence 79 = .ok (.ifCond .ne 7, 3) := by decide +kernel
theorem dX12_evidence_82 : decode cX12_evidence 82 = .ok (.iconst 1, 1) := by decide +kernel
theorem dX12_evidence_83 : decode cX12_evidence 83 = .ok (.goto 4, 3) := by decide +kernel
theorem dX12_evidence_86 : decode cX12_evidence 86 = .ok (.iconst 0, 1) := by decide +kernel
theorem dX12_evidence_87 : decode cX12_evidence 87 = .ok (.if_icmp .ne 7, 3) := by decide +kernel
theorem dX12_evidence_90 : decode cX12_evidence 90 = .ok (.iconst 1, 1) := by decide +kernel
theorem dX12_evidence_91 : decode cX12_evidence 91 = .ok (.goto 4, 3) := by decide +kernel
theorem dX12_evidence_94 : decode cX12_evidence 94 = .ok (.iconst 0, 1) := by decide +kernel
theorem dX12_evidence_95 : decode cX12_evidence 95 = .ok (.istore 5, 2) := by decide +kernel
theorem dX12_evidence_97 : decode cX12_evidence 97 = .ok (.iload 5, 2) := by decide +kernel
theorem dX12_evidence_99 : decode cX12_evidence 99 = .ok (.ifCond .eq 41, 3) := by decide +kernel
theorem dX12_evidence_102 : decode cX12_evidence 102 = .ok (.aload_n 0, 1) := by decide +kernel
theorem dX12_evidence_103 : decode cX12_evidence 103 = .ok (.getfield 266, 3) := by decide +kernel
theorem dX12_evidence_106 : decode cX12_evidence 106 = .ok (.ifCond .eq 34, 3) := by decide +kernel
theorem dX12_evidence_109 : decode cX12_evidence 109 = .ok (.aload_n 0, 1) := by decide +kernel
theorem dX12_evidence_110 : decode cX12_evidence 110 = .ok (.aload_n 0, 1) := by decide +kernel
theorem dX12_evidence_111 : decode cX12_evidence 111 = .ok (.getfield 270, 3) := by decide +kernel
theorem dX12_evidence_114 : decode cX12_evidence 114 = .ok (.iconst 0, 1) := by decide +kernel
theorem dX12_evidence_115 : decode cX12_evidence 115 = .ok (.laload, 1) := by decide +kernel
theorem dX12_evidence_116 : decode cX12_evidence 116 = .ok (.aload_n 0, 1) := by decide +kernel
theorem dX12_evidence_117 : decode cX12_evidence 117 = .ok (.getfield 270, 3) := by decide +kernel
theorem dX12_evidence_120 : decode cX12_evidence 120 = .ok (.iconst 1, 1) := by decide +kernel
theorem dX12_evidence_121 : decode cX12_evidence 121 = .ok (.laload, 1) := by decide +kernel
theorem dX12_evidence_122 : decode cX12_evidence 122 = .ok (.aload_n 0, 1) := by decide +kernel
theorem dX12_evidence_123 : decode cX12_evidence 123 = .ok (.getfield 270, 3) := by decide +kernel
theorem dX12_evidence_126 : decode cX12_evidence 126 = .ok (.iconst 2, 1) := by decide +kernel
theorem dX12_evidence_127 : decode cX12_evidence 127 = .ok (.laload, 1) := by decide +kernel
theorem dX12_evidence_128 : decode cX12_evidence 128 = .ok (.aload_n 0, 1) := by decide +kernel
theorem dX12_evidence_129 : decode cX12_evidence 129 = .ok (.getfield 270, 3) := by decide +kernel
theorem dX12_evidence_132 : decode cX12_evidence 132 = .ok (.iconst 3, 1) := by decide +kernel
theorem dX12_evidence_133 : decode cX12_evidence 133 = .ok (.laload, 1) := by decide +kernel
theorem dX12_evidence_134 : decode cX12_evidence 134 = .ok (.invokevirtual 537, 3) := by decide +kernel
theorem dX12_evidence_137 : decode cX12_evidence 137 = .ok (.goto 48, 3) := by decide +kernel
theorem dX12_evidence_140 : decode cX12_evidence 140 = .ok (.iload 5, 2) := by decide +kernel
theorem dX12_evidence_142 : decode cX12_evidence 142 = .ok (.ifCond .ne 38, 3) := by decide +kernel
theorem dX12_evidence_145 : decode cX12_evidence 145 = .ok (.iload_n 2, 1) := by decide +kernel
theorem dX12_evidence_146 : decode cX12_evidence 146 = .ok (.ifCond .eq 34, 3) := by decide +kernel
theorem dX12_evidence_149 : decode cX12_evidence 149 = .ok (.aload_n 0, 1) := by decide +kernel
theorem dX12_evidence_150 : decode cX12_evidence 150 = .ok (.aload_n 0, 1) := by decide +kernel
theorem dX12_evidence_151 : decode cX12_evidence 151 = .ok (.getfield 439, 3) := by decide +kernel
theorem dX12_evidence_154 : decode cX12_evidence 154 = .ok (.iconst 0, 1) := by decide +kernel
theorem dX12_evidence_155 : decode cX12_evidence 155 = .ok (.laload, 1) := by decide +kernel
theorem dX12_evidence_156 : decode cX12_evidence 156 = .ok (.aload_n 0, 1) := by decide +kernel
theorem dX12_evidence_157 : decode cX12_evidence 157 = .ok (.getfield 439, 3) := by decide +kernel
theorem dX12_evidence_160 : decode cX12_evidence 160 = .ok (.iconst 1, 1) := by decide +kernel
theorem dX12_evidence_161 : decode cX12_evidence 161 = .ok (.laload, 1) := by decide +kernel
theorem dX12_evidence_162 : decode cX12_evidence 162 = .ok (.aload_n 0, 1) := by decide +kernel
theorem dX12_evidence_163 : decode cX12_evidence 163 = .ok (.getfield 439, 3) := by decide +kernel
theorem dX12_evidence_166 : decode cX12_evidence 166 = .ok (.iconst 2, 1) := by decide +kernel
theorem dX12_evidence_167 : decode cX12_evidence 167 = .ok (.laload, 1) := by decide +kernel
theorem dX12_evidence_168 : decode cX12_evidence 168 = .ok (.aload_n 0, 1) := by decide +kernel
theorem dX12_evidence_169 : decode cX12_evidence 169 = .ok (.getfield 439, 3) := by decide +kernel
theorem dX12_evidence_172 : decode cX12_evidence 172 = .ok (.iconst 3, 1) := by decide +kernel
theorem dX12_evidence_173 : decode cX12_evidence 173 = .ok (.laload, 1) := by decide +kernel
theorem dX12_evidence_174 : decode cX12_evidence 174 = .ok (.invokevirtual 537, 3) := by decide +kernel
theorem dX12_evidence_177 : decode cX12_evidence 177 = .ok (.goto 8, 3) := by decide +kernel
theorem dX12_evidence_180 : decode cX12_evidence 180 = .ok (.aload_n 0, 1) := by decide +kernel
theorem dX12_evidence_181 : decode cX12_evidence 181 = .ok (.iconst 0, 1) := by decide +kernel
theorem dX12_evidence_182 : decode cX12_evidence 182 = .ok (.invokevirtual 226, 3) := by decide +kernel
theorem dX12_evidence_185 : decode cX12_evidence 185 = .ok (.iinc 4 1, 3) := by decide +kernel
theorem dX12_evidence_188 : decode cX12_evidence 188 = .ok (.goto (-118), 3) := by decide +kernel
theorem dX12_evidence_191 : decode cX12_evidence 191 = .ok (.aload_n 0, 1) := by decide +kernel
theorem dX12_evidence_192 : decode cX12_evidence 192 = .ok (.iload_n 1, 1) := by decide +kernel
theorem dX12_evidence_193 : decode cX12_evidence 193 = .ok (.invokevirtual 658, 3) := by decide +kernel
theorem dX12_evidence_196 : decode cX12_evidence 196 = .ok (.ifCond .eq 8, 3) := by decide +kernel
theorem dX12_evidence_199 : decode cX12_evidence 199 = .ok (.aload_n 0, 1) := by decide +kernel
theorem dX12_evidence_200 : decode cX12_evidence 200 = .ok (.iload_n 1, 1) := by decide +kernel
theorem dX12_evidence_201 : decode cX12_evidence 201 = .ok (.invokevirtual 514, 3) := by decide +kernel
theorem dX12_evidence_204 : decode cX12_evidence 204 = .ok (.return_, 1) := by decide +kernel
theorem dX12_mayLie_0 : decode cX12_mayLie 0 = .ok (.aload_n 0, 1) := by decide +kernel
theorem dX12_mayLie_1 : decode cX12_mayLie 1 = .ok (.iload_n 1, 1) := by decide +kernel
theorem dX12_mayLie_2 : decode cX12_mayLie 2 = .ok (.invokevirtual 155, 3) := by decide +kernel
theorem dX12_mayLie_5 : decode cX12_mayLie 5 = .ok (.ifCond .ne 46, 3) := by decide +kernel
theorem dX12_mayLie_8 : decode cX12_mayLie 8 = .ok (.iload_n 1, 1) := by decide +kernel
theorem dX12_mayLie_9 : decode cX12_mayLie 9 = .ok (.ifCond .lt 42, 3) := by decide +kernel
theorem dX12_mayLie_12 : decode cX12_mayLie 12 = .ok (.iload_n 1, 1) := by decide +kernel
theorem dX12_mayLie_13 : decode cX12_mayLie 13 = .ok (.aload_n 0, 1) := by decide +kernel
theorem dX12_mayLie_14 : decode cX12_mayLie 14 = .ok (.getfield 219, 3) := by decide +kernel
theorem dX12_mayLie_17 : decode cX12_mayLie 17 = .ok (.if_icmp .ge 34, 3) := by decide +kernel
theorem dX12_mayLie_20 : decode cX12_mayLie 20 = .ok (.iload_n 2, 1) := by decide +kernel
theorem dX12_mayLie_21 : decode cX12_mayLie 21 = .ok (.ifCond .lt 30, 3) := by decide +kernel
theorem dX12_mayLie_24 : decode cX12_mayLie 24 = .ok (.iload_n 2, 1) := by decide +kernel
theorem dX12_mayLie_25 : decode cX12_mayLie 25 = .ok (.aload_n 0, 1) := by decide +kernel
theorem dX12_mayLie_26 : decode cX12_mayLie 26 = .ok (.getfield 219, 3) := by decide +kernel
theorem dX12_mayLie_29 : decode cX12_mayLie 29 = .ok (.if_icmp .ge 22, 3) := by decide +kernel
theorem dX12_mayLie_32 : decode cX12_mayLie 32 = .ok (.iload_n 2, 1) := by decide +kernel
theorem dX12_mayLie_33 : decode cX12_mayLie 33 = .ok (.iload_n 1, 1) := by decide +kernel
theorem dX12_mayLie_34 : decode cX12_mayLie 34 = .ok (.if_icmp .eq 17, 3) := by decide +kernel
theorem dX12_mayLie_37 : decode cX12_mayLie 37 = .ok (.aload_n 0, 1) := by decide +kernel
theorem dX12_mayLie_38 : decode cX12_mayLie 38 = .ok (.getfield 182, 3) := by decide +kernel
theorem dX12_mayLie_41 : decode cX12_mayLie 41 = .ok (.sipush 1000, 3) := by decide +kernel
theorem dX12_mayLie_44 : decode cX12_mayLie 44 = .ok (.if_icmp .ge 7, 3) := by decide +kernel
theorem dX12_mayLie_47 : decode cX12_mayLie 47 = .ok (.iconst 1, 1) := by decide +kernel
theorem dX12_mayLie_48 : decode cX12_mayLie 48 = .ok (.goto 4, 3) := by decide +kernel
theorem dX12_mayLie_51 : decode cX12_mayLie 51 = .ok (.iconst 0, 1) := by decide +kernel
theorem dX12_mayLie_52 : decode cX12_mayLie 52 = .ok (.ireturn, 1) := by decide +kernel
theorem dX12_lie_0 : decode cX12_lie 0 = .ok (.aload_n 0, 1) := by decide +kernel
theorem dX12_lie_1 : decode cX12_lie 1 = .ok (.iload_n 1, 1) := by decide +kernel
theorem dX12_lie_2 : decode cX12_lie 2 = .ok (.iload_n 2, 1) := by decide +kernel
theorem dX12_lie_3 : decode cX12_lie 3 = .ok (.invokevirtual 697, 3) := by decide +kernel
theorem dX12_lie_6 : decode cX12_lie 6 = .ok (.ifCond .eq 16, 3) := by decide +kernel
theorem dX12_lie_9 : decode cX12_lie 9 = .ok (.iload_n 3, 1) := by decide +kernel
theorem dX12_lie_10 : decode cX12_lie 10 = .ok (.iconst 1, 1) := by decide +kernel
theorem dX12_lie_11 : decode cX12_lie 11 = .ok (.if_icmp .lt 11, 3) := by decide +kernel
theorem dX12_lie_14 : decode cX12_lie 14 = .ok (.iload_n 3, 1) := by decide +kernel
theorem dX12_lie_15 : decode cX12_lie 15 = .ok (.aload_n 0, 1) := by decide +kernel
theorem dX12_lie_16 : decode cX12_lie 16 = .ok (.getfield 133, 3) := by decide +kernel
theorem dX12_lie_19 : decode cX12_lie 19 = .ok (.if_icmp .le 5, 3) := by decide +kernel
theorem dX12_lie_22 : decode cX12_lie 22 = .ok (.iconst 0, 1) := by decide +kernel
theorem dX12_lie_23 : decode cX12_lie 23 = .ok (.ireturn, 1) := by decide +kernel
theorem dX12_lie_24 : decode cX12_lie 24 = .ok (.aload_n 0, 1) := by decide +kernel
theorem dX12_lie_25 : decode cX12_lie 25 = .ok (.iload_n 3, 1) := by decide +kernel
theorem dX12_lie_26 : decode cX12_lie 26 = .ok (.putfield 201, 3) := by decide +kernel
theorem dX12_lie_29 : decode cX12_lie 29 = .ok (.iconst 0, 1) := by decide +kernel
theorem dX12_lie_30 : decode cX12_lie 30 = .ok (.istore 4, 2) := by decide +kernel
theorem dX12_lie_32 : decode cX12_lie 32 = .ok (.iload 4, 2) := by decide +kernel
theorem dX12_lie_34 : decode cX12_lie 34 = .ok (.iload_n 3, 1) := by decide +kernel
theorem dX12_lie_35 : decode cX12_lie 35 = .ok (.if_icmp .ge 23, 3) := by decide +kernel
theorem dX12_lie_38 : decode cX12_lie 38 = .ok (.aload_n 0, 1) := by decide +kernel
theorem dX12_lie_39 : decode cX12_lie 39 = .ok (.getfield 204, 3) := by decide +kernel
theorem dX12_lie_42 : decode cX12_lie 42 = .ok (.iload 4, 2) := by decide +kernel
theorem dX12_lie_44 : decode cX12_lie 44 = .ok (.aload_n 0, 1) := by decide +kernel
theorem dX12_lie_45 : decode cX12_lie 45 = .ok (.getfield 130, 3) := by decide +kernel
theorem dX12_lie_48 : decode cX12_lie 48 = .ok (.iload 4, 2) := by decide +kernel
theorem dX12_lie_50 : decode cX12_lie 50 = .ok (.iaload, 1) := by decide +kernel
theorem dX12_lie_51 : decode cX12_lie 51 = .ok (.iastore, 1) := by decide +kernel
theorem dX12_lie_52 : decode cX12_lie 52 = .ok (.iinc 4 1, 3) := by decide +kernel
theorem dX12_lie_55 : decode cX12_lie 55 = .ok (.goto (-23), 3) := by decide +kernel
theorem dX12_lie_58 : decode cX12_lie 58 = .ok (.aload_n 0, 1) := by decide +kernel
theorem dX12_lie_59 : decode cX12_lie 59 = .ok (.invokevirtual 649, 3) := by decide +kernel
theorem dX12_lie_62 : decode cX12_lie 62 = .ok (.ifCond .eq 12, 3) := by decide +kernel
theorem dX12_lie_65 : decode cX12_lie 65 = .ok (.aload_n 0, 1) := by decide +kernel
theorem dX12_lie_66 : decode cX12_lie 66 = .ok (.invokevirtual 700, 3) := by decide +kernel
theorem dX12_lie_69 : decode cX12_lie 69 = .ok (.ifCond .eq 5, 3) := by decide +kernel
theorem dX12_lie_72 : decode cX12_lie 72 = .ok (.iconst 0, 1) := by decide +kernel
theorem dX12_lie_73 : decode cX12_lie 73 = .ok (.ireturn, 1) := by decide +kernel
theorem dX12_lie_74 : decode cX12_lie 74 = .ok (.aload_n 0, 1) := by decide +kernel
theorem dX12_lie_75 : decode cX12_lie 75 = .ok (.iconst 0, 1) := by decide +kernel
theorem dX12_lie_76 : decode cX12_lie 76 = .ok (.putfield 133, 3) := by decide +kernel
theorem dX12_lie_79 : decode cX12_lie 79 = .ok (.aload_n 0, 1) := by decide +kernel
theorem dX12_lie_80 : decode cX12_lie 80 = .ok (.iload_n 1, 1) := by decide +kernel
theorem dX12_lie_81 : decode cX12_lie 81 = .ok (.iload_n 2, 1) := by decide +kernel
theorem dX12_lie_82 : decode cX12_lie 82 = .ok (.invokevirtual 222, 3) := by decide +kernel
theorem dX12_lie_85 : decode cX12_lie 85 = .ok (.ireturn, 1) := by decide +kernel
theorem dX12_pass_0 : decode cX12_pass 0 = .ok (.aload_n 0, 1) := by decide +kernel
theorem dX12_pass_1 : decode cX12_pass 1 = .ok (.iload_n 1, 1) := by decide +kernel
theorem dX12_pass_2 : decode cX12_pass 2 = .ok (.iload_n 2, 1) := by decide +kernel
theorem dX12_pass_3 : decode cX12_pass 3 = .ok (.invokevirtual 697, 3) := by decide +kernel
theorem dX12_pass_6 : decode cX12_pass 6 = .ok (.ifCond .eq 11, 3) := by decide +kernel
theorem dX12_pass_9 : decode cX12_pass 9 = .ok (.aload_n 0, 1) := by decide +kernel
theorem dX12_pass_10 : decode cX12_pass 10 = .ok (.iload_n 3, 1) := by decide +kernel
theorem dX12_pass_11 : decode cX12_pass 11 = .ok (.invokevirtual 167, 3) := by decide +kernel
theorem dX12_pass_14 : decode cX12_pass 14 = .ok (.ifCond .ne 5, 3) := by decide +kernel
theorem dX12_pass_17 : decode cX12_pass 17 = .ok (.iconst 0, 1) := by decide +kernel
theorem dX12_pass_18 : decode cX12_pass 18 = .ok (.ireturn, 1) := by decide +kernel
theorem dX12_pass_19 : decode cX12_pass 19 = .ok (.aload_n 0, 1) := by decide +kernel
theorem dX12_pass_20 : decode cX12_pass 20 = .ok (.iload_n 3, 1) := by decide +kernel
theorem dX12_pass_21 : decode cX12_pass 21 = .ok (.invokevirtual 703, 3) := by decide +kernel
theorem dX12_pass_24 : decode cX12_pass 24 = .ok (.aload_n 0, 1) := by decide +kernel
theorem dX12_pass_25 : decode cX12_pass 25 = .ok (.iload_n 1, 1) := by decide +kernel
theorem dX12_pass_26 : decode cX12_pass 26 = .ok (.iload_n 2, 1) := by decide +kernel
theorem dX12_pass_27 : decode cX12_pass 27 = .ok (.invokevirtual 222, 3) := by decide +kernel
theorem dX12_pass_30 : decode cX12_pass 30 = .ok (.ireturn, 1) := by decide +kernel
theorem dX12_submit_0 : decode cX12_submit 0 = .ok (.iload_n 2, 1) := by decide +kernel
theorem dX12_submit_1 : decode cX12_submit 1 = .ok (.ifCond .lt 66, 3) := by decide +kernel
theorem dX12_submit_4 : decode cX12_submit 4 = .ok (.iload_n 2, 1) := by decide +kernel
theorem dX12_submit_5 : decode cX12_submit 5 = .ok (.bipush 16, 2) := by decide +kernel
theorem dX12_submit_7 : decode cX12_submit 7 = .ok (.if_icmp .ge 60, 3) := by decide +kernel
theorem dX12_submit_10 : decode cX12_submit 10 = .ok (.iload_n 3, 1) := by decide +kernel
theorem dX12_submit_11 : decode cX12_submit 11 = .ok (.ifCond .lt 56, 3) := by decide +kernel
theorem dX12_submit_14 : decode cX12_submit 14 = .ok (.iload_n 3, 1) := by decide +kernel
theorem dX12_submit_15 : decode cX12_submit 15 = .ok (.bipush 16, 2) := by decide +kernel
theorem dX12_submit_17 : decode cX12_submit 17 = .ok (.if_icmp .ge 50, 3) := by decide +kernel
theorem dX12_submit_20 : decode cX12_submit 20 = .ok (.iload_n 2, 1) := by decide +kernel
theorem dX12_submit_21 : decode cX12_submit 21 = .ok (.iload_n 3, 1) := by decide +kernel
theorem dX12_submit_22 : decode cX12_submit 22 = .ok (.if_icmp .eq 45, 3) := by decide +kernel
theorem dX12_submit_25 : decode cX12_submit 25 = .ok (.iload 4, 2) := by decide +kernel
theorem dX12_submit_27 : decode cX12_submit 27 = .ok (.ifCond .le 40, 3) := by decide +kernel
theorem dX12_submit_30 : decode cX12_submit 30 = .ok (.iload 4, 2) := by decide +kernel
theorem dX12_submit_32 : decode cX12_submit 32 = .ok (.sipush 1000, 3) := by decide +kernel
theorem dX12_submit_35 : decode cX12_submit 35 = .ok (.if_icmp .gt 32, 3) := by decide +kernel
theorem dX12_submit_38 : decode cX12_submit 38 = .ok (.iload 5, 2) := by decide +kernel
theorem dX12_submit_40 : decode cX12_submit 40 = .ok (.ifCond .lt 27, 3) := by decide +kernel
theorem dX12_submit_43 : decode cX12_submit 43 = .ok (.iload 5, 2) := by decide +kernel
theorem dX12_submit_45 : decode cX12_submit 45 = .ok (.ldc_w 706, 3) := by decide +kernel
theorem dX12_submit_48 : decode cX12_submit 48 = .ok (.if_icmp .ge 19, 3) := by decide +kernel
theorem dX12_submit_51 : decode cX12_submit 51 = .ok (.iload 6, 2) := by decide +kernel
theorem dX12_submit_53 : decode cX12_submit 53 = .ok (.ifCond .le 14, 3) := by decide +kernel
theorem dX12_submit_56 : decode cX12_submit 56 = .ok (.iload 6, 2) := by decide +kernel
theorem dX12_submit_58 : decode cX12_submit 58 = .ok (.bipush 10, 2) := by decide +kernel
theorem dX12_submit_60 : decode cX12_submit 60 = .ok (.if_icmp .ge 7, 3) := by decide +kernel
theorem dX12_submit_63 : decode cX12_submit 63 = .ok (.iconst 1, 1) := by decide +kernel
theorem dX12_submit_64 : decode cX12_submit 64 = .ok (.goto 4, 3) := by decide +kernel
theorem dX12_submit_67 : decode cX12_submit 67 = .ok (.iconst 0, 1) := by decide +kernel
theorem dX12_submit_68 : decode cX12_submit 68 = .ok (.istore 7, 2) := by decide +kernel
theorem dX12_submit_70 : decode cX12_submit 70 = .ok (.aload_n 0, 1) := by decide +kernel
theorem dX12_submit_71 : decode cX12_submit 71 = .ok (.iload_n 1, 1) := by decide +kernel
theorem dX12_submit_72 : decode cX12_submit 72 = .ok (.invokevirtual 707, 3) := by decide +kernel
theorem dX12_submit_75 : decode cX12_submit 75 = .ok (.ifCond .eq 24, 3) := by decide +kernel
theorem dX12_submit_78 : decode cX12_submit 78 = .ok (.iload 7, 2) := by decide +kernel
theorem dX12_submit_80 : decode cX12_submit 80 = .ok (.ifCond .eq 19, 3) := by decide +kernel
theorem dX12_submit_83 : decode cX12_submit 83 = .ok (.aload_n 0, 1) := by decide +kernel
theorem dX12_submit_84 : decode cX12_submit 84 = .ok (.iload_n 1, 1) := by decide +kernel
theorem dX12_submit_85 : decode cX12_submit 85 = .ok (.iload_n 2, 1) := by decide +kernel
theorem dX12_submit_86 : decode cX12_submit 86 = .ok (.iload_n 3, 1) := by decide +kernel
theorem dX12_submit_87 : decode cX12_submit 87 = .ok (.iload 4, 2) := by decide +kernel
theorem dX12_submit_89 : decode cX12_submit 89 = .ok (.iload 5, 2) := by decide +kernel
theorem dX12_submit_91 : decode cX12_submit 91 = .ok (.iload 6, 2) := by decide +kernel
theorem dX12_submit_93 : decode cX12_submit 93 = .ok (.invokevirtual 652, 3) := by decide +kernel
theorem dX12_submit_96 : decode cX12_submit 96 = .ok (.ifCond .ne 5, 3) := by decide +kernel
theorem dX12_submit_99 : decode cX12_submit 99 = .ok (.iconst 0, 1) := by decide +kernel
theorem dX12_submit_100 : decode cX12_submit 100 = .ok (.ireturn, 1) := by decide +kernel
theorem dX12_submit_101 : decode cX12_submit 101 = .ok (.aload_n 0, 1) := by decide +kernel
theorem dX12_submit_102 : decode cX12_submit 102 = .ok (.iconst 0, 1) := by decide +kernel
theorem dX12_submit_103 : decode cX12_submit 103 = .ok (.putfield 201, 3) := by decide +kernel
theorem dX12_submit_106 : decode cX12_submit 106 = .ok (.aload_n 0, 1) := by decide +kernel
theorem dX12_submit_107 : decode cX12_submit 107 = .ok (.iconst 0, 1) := by decide +kernel
theorem dX12_submit_108 : decode cX12_submit 108 = .ok (.invokevirtual 226, 3) := by decide +kernel
theorem dX12_submit_111 : decode cX12_submit 111 = .ok (.aload_n 0, 1) := by decide +kernel
theorem dX12_submit_112 : decode cX12_submit 112 = .ok (.iload_n 2, 1) := by decide +kernel
theorem dX12_submit_113 : decode cX12_submit 113 = .ok (.invokevirtual 226, 3) := by decide +kernel
theorem dX12_submit_116 : decode cX12_submit 116 = .ok (.aload_n 0, 1) := by decide +kernel
theorem dX12_submit_117 : decode cX12_submit 117 = .ok (.iload_n 3, 1) := by decide +kernel
theorem dX12_submit_118 : decode cX12_submit 118 = .ok (.invokevirtual 226, 3) := by decide +kernel
theorem dX12_submit_121 : decode cX12_submit 121 = .ok (.aload_n 0, 1) := by decide +kernel
theorem dX12_submit_122 : decode cX12_submit 122 = .ok (.iload 4, 2) := by decide +kernel
theorem dX12_submit_124 : decode cX12_submit 124 = .ok (.invokevirtual 229, 3) := by decide +kernel
theorem dX12_submit_127 : decode cX12_submit 127 = .ok (.aload_n 0, 1) := by decide +kernel
theorem dX12_submit_128 : decode cX12_submit 128 = .ok (.iload 5, 2) := by decide +kernel
theorem dX12_submit_130 : decode cX12_submit 130 = .ok (.invokevirtual 229, 3) := by decide +kernel
theorem dX12_submit_133 : decode cX12_submit 133 = .ok (.aload_n 0, 1) := by decide +kernel
theorem dX12_submit_134 : decode cX12_submit 134 = .ok (.iload 6, 2) := by decide +kernel
theorem dX12_submit_136 : decode cX12_submit 136 = .ok (.invokevirtual 226, 3) := by decide +kernel
theorem dX12_submit_139 : decode cX12_submit 139 = .ok (.aload_n 0, 1) := by decide +kernel
theorem dX12_submit_140 : decode cX12_submit 140 = .ok (.iload_n 1, 1) := by decide +kernel
theorem dX12_submit_141 : decode cX12_submit 141 = .ok (.invokevirtual 514, 3) := by decide +kernel
theorem dX12_submit_144 : decode cX12_submit 144 = .ok (.iconst 1, 1) := by decide +kernel
theorem dX12_submit_145 : decode cX12_submit 145 = .ok (.ireturn, 1) := by decide +kernel
theorem dX12_deliver_0 : decode cX12_deliver 0 = .ok (.aload_n 0, 1) := by decide +kernel
theorem dX12_deliver_1 : decode cX12_deliver 1 = .ok (.iload_n 1, 1) := by decide +kernel
theorem dX12_deliver_2 : decode cX12_deliver 2 = .ok (.invokevirtual 167, 3) := by decide +kernel
theorem dX12_deliver_5 : decode cX12_deliver 5 = .ok (.ifCond .ne 5, 3) := by decide +kernel
theorem dX12_deliver_8 : decode cX12_deliver 8 = .ok (.iconst (-1), 1) := by decide +kernel
theorem dX12_deliver_9 : decode cX12_deliver 9 = .ok (.ireturn, 1) := by decide +kernel
theorem dX12_deliver_10 : decode cX12_deliver 10 = .ok (.aload_n 0, 1) := by decide +kernel
theorem dX12_deliver_11 : decode cX12_deliver 11 = .ok (.iload_n 1, 1) := by decide +kernel
theorem dX12_deliver_12 : decode cX12_deliver 12 = .ok (.invokevirtual 703, 3) := by decide +kernel
theorem dX12_deliver_15 : decode cX12_deliver 15 = .ok (.aload_n 0, 1) := by decide +kernel
theorem dX12_deliver_16 : decode cX12_deliver 16 = .ok (.getfield 204, 3) := by decide +kernel
theorem dX12_deliver_19 : decode cX12_deliver 19 = .ok (.iconst 0, 1) := by decide +kernel
theorem dX12_deliver_20 : decode cX12_deliver 20 = .ok (.iaload, 1) := by decide +kernel
theorem dX12_deliver_21 : decode cX12_deliver 21 = .ok (.istore_n 2, 1) := by decide +kernel
theorem dX12_deliver_22 : decode cX12_deliver 22 = .ok (.aload_n 0, 1) := by decide +kernel
theorem dX12_deliver_23 : decode cX12_deliver 23 = .ok (.getfield 176, 3) := by decide +kernel
theorem dX12_deliver_26 : decode cX12_deliver 26 = .ok (.iload_n 1, 1) := by decide +kernel
theorem dX12_deliver_27 : decode cX12_deliver 27 = .ok (.iaload, 1) := by decide +kernel
theorem dX12_deliver_28 : decode cX12_deliver 28 = .ok (.istore_n 3, 1) := by decide +kernel
theorem dX12_deliver_29 : decode cX12_deliver 29 = .ok (.iload_n 1, 1) := by decide +kernel
theorem dX12_deliver_30 : decode cX12_deliver 30 = .ok (.iconst 1, 1) := by decide +kernel
theorem dX12_deliver_31 : decode cX12_deliver 31 = .ok (.iadd, 1) := by decide +kernel
theorem dX12_deliver_32 : decode cX12_deliver 32 = .ok (.istore 4, 2) := by decide +kernel
theorem dX12_deliver_34 : decode cX12_deliver 34 = .ok (.iload 4, 2) := by decide +kernel
theorem dX12_deliver_36 : decode cX12_deliver 36 = .ok (.aload_n 0, 1) := by decide +kernel
theorem dX12_deliver_37 : decode cX12_deliver 37 = .ok (.getfield 182, 3) := by decide +kernel
theorem dX12_deliver_40 : decode cX12_deliver 40 = .ok (.if_icmp .ge 25, 3) := by decide +kernel
theorem dX12_deliver_43 : decode cX12_deliver 43 = .ok (.aload_n 0, 1) := by decide +kernel
theorem dX12_deliver_44 : decode cX12_deliver 44 = .ok (.getfield 176, 3) := by decide +kernel
theorem dX12_deliver_47 : decode cX12_deliver 47 = .ok (.iload 4, 2) := by decide +kernel
theorem dX12_deliver_49 : decode cX12_deliver 49 = .ok (.iconst 1, 1) := by decide +kernel
theorem dX12_deliver_50 : decode cX12_deliver 50 = .ok (.isub, 1) := by decide +kernel
theorem dX12_deliver_51 : decode cX12_deliver 51 = .ok (.aload_n 0, 1) := by decide +kernel
theorem dX12_deliver_52 : decode cX12_deliver 52 = .ok (.getfield 176, 3) := by decide +kernel
theorem dX12_deliver_55 : decode cX12_deliver 55 = .ok (.iload 4, 2) := by decide +kernel
theorem dX12_deliver_57 : decode cX12_deliver 57 = .ok (.iaload, 1) := by decide +kernel
theorem dX12_deliver_58 : decode cX12_deliver 58 = .ok (.iastore, 1) := by decide +kernel
theorem dX12_deliver_59 : decode cX12_deliver 59 = .ok (.iinc 4 1, 3) := by decide +kernel
theorem dX12_deliver_62 : decode cX12_deliver 62 = .ok (.goto (-28), 3) := by decide +kernel
theorem dX12_deliver_65 : decode cX12_deliver 65 = .ok (.aload_n 0, 1) := by decide +kernel
theorem dX12_deliver_66 : decode cX12_deliver 66 = .ok (.aload_n 0, 1) := by decide +kernel
theorem dX12_deliver_67 : decode cX12_deliver 67 = .ok (.getfield 182, 3) := by decide +kernel
theorem dX12_deliver_70 : decode cX12_deliver 70 = .ok (.iconst 1, 1) := by decide +kernel
theorem dX12_deliver_71 : decode cX12_deliver 71 = .ok (.isub, 1) := by decide +kernel
theorem dX12_deliver_72 : decode cX12_deliver 72 = .ok (.putfield 182, 3) := by decide +kernel
theorem dX12_deliver_75 : decode cX12_deliver 75 = .ok (.aload_n 0, 1) := by decide +kernel
theorem dX12_deliver_76 : decode cX12_deliver 76 = .ok (.getfield 210, 3) := by decide +kernel
theorem dX12_deliver_79 : decode cX12_deliver 79 = .ok (.aload_n 0, 1) := by decide +kernel
theorem dX12_deliver_80 : decode cX12_deliver 80 = .ok (.getfield 207, 3) := by decide +kernel
theorem dX12_deliver_83 : decode cX12_deliver 83 = .ok (.iload_n 3, 1) := by decide +kernel
theorem dX12_deliver_84 : decode cX12_deliver 84 = .ok (.iastore, 1) := by decide +kernel
theorem dX12_deliver_85 : decode cX12_deliver 85 = .ok (.aload_n 0, 1) := by decide +kernel
theorem dX12_deliver_86 : decode cX12_deliver 86 = .ok (.aload_n 0, 1) := by decide +kernel
theorem dX12_deliver_87 : decode cX12_deliver 87 = .ok (.getfield 207, 3) := by decide +kernel
theorem dX12_deliver_90 : decode cX12_deliver 90 = .ok (.iconst 1, 1) := by decide +kernel
theorem dX12_deliver_91 : decode cX12_deliver 91 = .ok (.iadd, 1) := by decide +kernel
theorem dX12_deliver_92 : decode cX12_deliver 92 = .ok (.putfield 207, 3) := by decide +kernel
theorem dX12_deliver_95 : decode cX12_deliver 95 = .ok (.aload_n 0, 1) := by decide +kernel
theorem dX12_deliver_96 : decode cX12_deliver 96 = .ok (.aload_n 0, 1) := by decide +kernel
theorem dX12_deliver_97 : decode cX12_deliver 97 = .ok (.getfield 198, 3) := by decide +kernel
theorem dX12_deliver_100 : decode cX12_deliver 100 = .ok (.iload_n 3, 1) := by decide +kernel
theorem dX12_deliver_101 : decode cX12_deliver 101 = .ok (.iaload, 1) := by decide +kernel
theorem dX12_deliver_102 : decode cX12_deliver 102 = .ok (.invokevirtual 707, 3) := by decide +kernel
theorem dX12_deliver_105 : decode cX12_deliver 105 = .ok (.ifCond .eq 19, 3) := by decide +kernel
theorem dX12_deliver_108 : decode cX12_deliver 108 = .ok (.aload_n 0, 1) := by decide +kernel
theorem dX12_deliver_109 : decode cX12_deliver 109 = .ok (.aload_n 0, 1) := by decide +kernel
theorem dX12_deliver_110 : decode cX12_deliver 110 = .ok (.getfield 198, 3) := by decide +kernel
theorem dX12_deliver_113 : decode cX12_deliver 113 = .ok (.iload_n 3, 1) := by decide +kernel
theorem dX12_deliver_114 : decode cX12_deliver 114 = .ok (.iaload, 1) := by decide +kernel
theorem dX12_deliver_115 : decode cX12_deliver 115 = .ok (.aload_n 0, 1) := by decide +kernel
theorem dX12_deliver_116 : decode cX12_deliver 116 = .ok (.getfield 195, 3) := by decide +kernel
theorem dX12_deliver_119 : decode cX12_deliver 119 = .ok (.iload_n 3, 1) := by decide +kernel
theorem dX12_deliver_120 : decode cX12_deliver 120 = .ok (.iaload, 1) := by decide +kernel
theorem dX12_deliver_121 : decode cX12_deliver 121 = .ok (.invokevirtual 710, 3) := by decide +kernel
theorem dX12_deliver_124 : decode cX12_deliver 124 = .ok (.iload_n 2, 1) := by decide +kernel
theorem dX12_deliver_125 : decode cX12_deliver 125 = .ok (.ireturn, 1) := by decide +kernel
theorem dX12_calm_0 : decode cX12_calm 0 = .ok (.iload_n 1, 1) := by decide +kernel
theorem dX12_calm_1 : decode cX12_calm 1 = .ok (.iconst 1, 1) := by decide +kernel
theorem dX12_calm_2 : decode cX12_calm 2 = .ok (.if_icmp .lt 19, 3) := by decide +kernel
theorem dX12_calm_5 : decode cX12_calm 5 = .ok (.iload_n 1, 1) := by decide +kernel
theorem dX12_calm_6 : decode cX12_calm 6 = .ok (.bipush 64, 2) := by decide +kernel
theorem dX12_calm_8 : decode cX12_calm 8 = .ok (.if_icmp .gt 13, 3) := by decide +kernel
theorem dX12_calm_11 : decode cX12_calm 11 = .ok (.iload_n 2, 1) := by decide +kernel
theorem dX12_calm_12 : decode cX12_calm 12 = .ok (.ifCond .lt 9, 3) := by decide +kernel
theorem dX12_calm_15 : decode cX12_calm 15 = .ok (.iload_n 2, 1) := by decide +kernel
theorem dX12_calm_16 : decode cX12_calm 16 = .ok (.bipush 9, 2) := by decide +kernel
theorem dX12_calm_18 : decode cX12_calm 18 = .ok (.if_icmp .le 5, 3) := by decide +kernel
theorem dX12_calm_21 : decode cX12_calm 21 = .ok (.iconst (-1), 1) := by decide +kernel
theorem dX12_calm_22 : decode cX12_calm 22 = .ok (.ireturn, 1) := by decide +kernel
theorem dX12_calm_23 : decode cX12_calm 23 = .ok (.iconst 0, 1) := by decide +kernel
theorem dX12_calm_24 : decode cX12_calm 24 = .ok (.istore_n 3, 1) := by decide +kernel
theorem dX12_calm_25 : decode cX12_calm 25 = .ok (.iconst 0, 1) := by decide +kernel
theorem dX12_calm_26 : decode cX12_calm 26 = .ok (.istore 4, 2) := by decide +kernel
theorem dX12_calm_28 : decode cX12_calm 28 = .ok (.iload 4, 2) := by decide +kernel
theorem dX12_calm_30 : decode cX12_calm 30 = .ok (.iload_n 1, 1) := by decide +kernel
theorem dX12_calm_31 : decode cX12_calm 31 = .ok (.if_icmp .ge 61, 3) := by decide +kernel
theorem dX12_calm_34 : decode cX12_calm 34 = .ok (.iload_n 3, 1) := by decide +kernel
theorem dX12_calm_35 : decode cX12_calm 35 = .ok (.sipush 5000, 3) := by decide +kernel
theorem dX12_calm_38 : decode cX12_calm 38 = .ok (.if_icmp .ge 43, 3) := by decide +kernel
theorem dX12_calm_41 : decode cX12_calm 41 = .ok (.aload_n 0, 1) := by decide +kernel
theorem dX12_calm_42 : decode cX12_calm 42 = .ok (.getfield 182, 3) := by decide +kernel
theorem dX12_calm_45 : decode cX12_calm 45 = .ok (.ifCond .le 36, 3) := by decide +kernel
theorem dX12_calm_48 : decode cX12_calm 48 = .ok (.aload_n 0, 1) := by decide +kernel
theorem dX12_calm_49 : decode cX12_calm 49 = .ok (.getfield 216, 3) := by decide +kernel
theorem dX12_calm_52 : decode cX12_calm 52 = .ok (.aload_n 0, 1) := by decide +kernel
theorem dX12_calm_53 : decode cX12_calm 53 = .ok (.getfield 213, 3) := by decide +kernel
theorem dX12_calm_56 : decode cX12_calm 56 = .ok (.aload_n 0, 1) := by decide +kernel
theorem dX12_calm_57 : decode cX12_calm 57 = .ok (.getfield 176, 3) := by decide +kernel
theorem dX12_calm_60 : decode cX12_calm 60 = .ok (.iconst 0, 1) := by decide +kernel
theorem dX12_calm_61 : decode cX12_calm 61 = .ok (.iaload, 1) := by decide +kernel
theorem dX12_calm_62 : decode cX12_calm 62 = .ok (.iaload, 1) := by decide +kernel
theorem dX12_calm_63 : decode cX12_calm 63 = .ok (.isub, 1) := by decide +kernel
theorem dX12_calm_64 : decode cX12_calm 64 = .ok (.iload_n 2, 1) := by decide +kernel
theorem dX12_calm_65 : decode cX12_calm 65 = .ok (.if_icmp .lt 16, 3) := by decide +kernel
theorem dX12_calm_68 : decode cX12_calm 68 = .ok (.aload_n 0, 1) := by decide +kernel
theorem dX12_calm_69 : decode cX12_calm 69 = .ok (.iconst 0, 1) := by decide +kernel
theorem dX12_calm_70 : decode cX12_calm 70 = .ok (.invokevirtual 713, 3) := by decide +kernel
theorem dX12_calm_73 : decode cX12_calm 73 = .ok (.pop, 1) := by decide +kernel
theorem dX12_calm_74 : decode cX12_calm 74 = .ok (.iload_n 3, 1) := by decide +kernel
theorem dX12_calm_75 : decode cX12_calm 75 = .ok (.iconst 1, 1) := by decide +kernel
theorem dX12_calm_76 : decode cX12_calm 76 = .ok (.iadd, 1) := by decide +kernel
theorem dX12_calm_77 : decode cX12_calm 77 = .ok (.istore_n 3, 1) := by decide +kernel
theorem dX12_calm_78 : decode cX12_calm 78 = .ok (.goto (-44), 3) := by decide +kernel
theorem dX12_calm_81 : decode cX12_calm 81 = .ok (.aload_n 0, 1) := by decide +kernel
theorem dX12_calm_82 : decode cX12_calm 82 = .ok (.invokevirtual 716, 3) := by decide +kernel
theorem dX12_calm_85 : decode cX12_calm 85 = .ok (.pop, 1) := by decide +kernel
theorem dX12_calm_86 : decode cX12_calm 86 = .ok (.iinc 4 1, 3) := by decide +kernel
theorem dX12_calm_89 : decode cX12_calm 89 = .ok (.goto (-61), 3) := by decide +kernel
theorem dX12_calm_92 : decode cX12_calm 92 = .ok (.iload_n 3, 1) := by decide +kernel
theorem dX12_calm_93 : decode cX12_calm 93 = .ok (.ireturn, 1) := by decide +kernel
theorem dX12_copy_0 : decode cX12_copy 0 = .ok (.aload_n 0, 1) := by decide +kernel
theorem dX12_copy_1 : decode cX12_copy 1 = .ok (.iload_n 1, 1) := by decide +kernel
theorem dX12_copy_2 : decode cX12_copy 2 = .ok (.invokevirtual 167, 3) := by decide +kernel
theorem dX12_copy_5 : decode cX12_copy 5 = .ok (.ifCond .eq 13, 3) := by decide +kernel
theorem dX12_copy_8 : decode cX12_copy 8 = .ok (.aload_n 0, 1) := by decide +kernel
theorem dX12_copy_9 : decode cX12_copy 9 = .ok (.getfield 182, 3) := by decide +kernel
theorem dX12_copy_12 : decode cX12_copy 12 = .ok (.sipush 1000, 3) := by decide +kernel
theorem dX12_copy_15 : decode cX12_copy 15 = .ok (.if_icmp .ne 5, 3) := by decide +kernel
theorem dX12_copy_18 : decode cX12_copy 18 = .ok (.iconst 0, 1) := by decide +kernel
theorem dX12_copy_19 : decode cX12_copy 19 = .ok (.ireturn, 1) := by decide +kernel
theorem dX12_copy_20 : decode cX12_copy 20 = .ok (.aload_n 0, 1) := by decide +kernel
theorem dX12_copy_21 : decode cX12_copy 21 = .ok (.getfield 176, 3) := by decide +kernel
theorem dX12_copy_24 : decode cX12_copy 24 = .ok (.iload_n 1, 1) := by decide +kernel
theorem dX12_copy_25 : decode cX12_copy 25 = .ok (.iaload, 1) := by decide +kernel
theorem dX12_copy_26 : decode cX12_copy 26 = .ok (.istore_n 2, 1) := by decide +kernel
theorem dX12_copy_27 : decode cX12_copy 27 = .ok (.aload_n 0, 1) := by decide +kernel
theorem dX12_copy_28 : decode cX12_copy 28 = .ok (.invokevirtual 191, 3) := by decide +kernel
theorem dX12_copy_31 : decode cX12_copy 31 = .ok (.istore_n 3, 1) := by decide +kernel
theorem dX12_copy_32 : decode cX12_copy 32 = .ok (.aload_n 0, 1) := by decide +kernel
theorem dX12_copy_33 : decode cX12_copy 33 = .ok (.getfield 195, 3) := by decide +kernel
theorem dX12_copy_36 : decode cX12_copy 36 = .ok (.iload_n 3, 1) := by decide +kernel
theorem dX12_copy_37 : decode cX12_copy 37 = .ok (.aload_n 0, 1) := by decide +kernel
theorem dX12_copy_38 : decode cX12_copy 38 = .ok (.getfield 195, 3) := by decide +kernel
theorem dX12_copy_41 : decode cX12_copy 41 = .ok (.iload_n 2, 1) := by decide +kernel
theorem dX12_copy_42 : decode cX12_copy 42 = .ok (.iaload, 1) := by decide +kernel
theorem dX12_copy_43 : decode cX12_copy 43 = .ok (.iastore, 1) := by decide +kernel
theorem dX12_copy_44 : decode cX12_copy 44 = .ok (.aload_n 0, 1) := by decide +kernel
theorem dX12_copy_45 : decode cX12_copy 45 = .ok (.getfield 198, 3) := by decide +kernel
theorem dX12_copy_48 : decode cX12_copy 48 = .ok (.iload_n 3, 1) := by decide +kernel
theorem dX12_copy_49 : decode cX12_copy 49 = .ok (.aload_n 0, 1) := by decide +kernel
theorem dX12_copy_50 : decode cX12_copy 50 = .ok (.getfield 198, 3) := by decide +kernel
theorem dX12_copy_53 : decode cX12_copy 53 = .ok (.iload_n 2, 1) := by decide +kernel
theorem dX12_copy_54 : decode cX12_copy 54 = .ok (.iaload, 1) := by decide +kernel
theorem dX12_copy_55 : decode cX12_copy 55 = .ok (.iastore, 1) := by decide +kernel
theorem dX12_copy_56 : decode cX12_copy 56 = .ok (.aload_n 0, 1) := by decide +kernel
theorem dX12_copy_57 : decode cX12_copy 57 = .ok (.getfield 173, 3) := by decide +kernel
theorem dX12_copy_60 : decode cX12_copy 60 = .ok (.iload_n 3, 1) := by decide +kernel
theorem dX12_copy_61 : decode cX12_copy 61 = .ok (.aload_n 0, 1) := by decide +kernel
theorem dX12_copy_62 : decode cX12_copy 62 = .ok (.getfield 173, 3) := by decide +kernel
theorem dX12_copy_65 : decode cX12_copy 65 = .ok (.iload_n 2, 1) := by decide +kernel
theorem dX12_copy_66 : decode cX12_copy 66 = .ok (.iaload, 1) := by decide +kernel
theorem dX12_copy_67 : decode cX12_copy 67 = .ok (.iastore, 1) := by decide +kernel
theorem dX12_copy_68 : decode cX12_copy 68 = .ok (.iconst 0, 1) := by decide +kernel
theorem dX12_copy_69 : decode cX12_copy 69 = .ok (.istore 4, 2) := by decide +kernel
theorem dX12_copy_71 : decode cX12_copy 71 = .ok (.iload 4, 2) := by decide +kernel
theorem dX12_copy_73 : decode cX12_copy 73 = .ok (.bipush 125, 2) := by decide +kernel
theorem dX12_copy_75 : decode cX12_copy 75 = .ok (.if_icmp .ge 33, 3) := by decide +kernel
theorem dX12_copy_78 : decode cX12_copy 78 = .ok (.aload_n 0, 1) := by decide +kernel
theorem dX12_copy_79 : decode cX12_copy 79 = .ok (.getfield 179, 3) := by decide +kernel
theorem dX12_copy_82 : decode cX12_copy 82 = .ok (.bipush 125, 2) := by decide +kernel
theorem dX12_copy_84 : decode cX12_copy 84 = .ok (.iload_n 3, 1) := by decide +kernel
theorem dX12_copy_85 : decode cX12_copy 85 = .ok (.imul, 1) := by decide +kernel
theorem dX12_copy_86 : decode cX12_copy 86 = .ok (.iload 4, 2) := by decide +kernel
theorem dX12_copy_88 : decode cX12_copy 88 = .ok (.iadd, 1) := by decide +kernel
theorem dX12_copy_89 : decode cX12_copy 89 = .ok (.aload_n 0, 1) := by decide +kernel
theorem dX12_copy_90 : decode cX12_copy 90 = .ok (.getfield 179, 3) := by decide +kernel
theorem dX12_copy_93 : decode cX12_copy 93 = .ok (.bipush 125, 2) := by decide +kernel
theorem dX12_copy_95 : decode cX12_copy 95 = .ok (.iload_n 2, 1) := by decide +kernel
theorem dX12_copy_96 : decode cX12_copy 96 = .ok (.imul, 1) := by decide +kernel
theorem dX12_copy_97 : decode cX12_copy 97 = .ok (.iload 4, 2) := by decide +kernel
theorem dX12_copy_99 : decode cX12_copy 99 = .ok (.iadd, 1) := by decide +kernel
theorem dX12_copy_100 : decode cX12_copy 100 = .ok (.laload, 1) := by decide +kernel
theorem dX12_copy_101 : decode cX12_copy 101 = .ok (.lastore, 1) := by decide +kernel
theorem dX12_copy_102 : decode cX12_copy 102 = .ok (.iinc 4 1, 3) := by decide +kernel
theorem dX12_copy_105 : decode cX12_copy 105 = .ok (.goto (-34), 3) := by decide +kernel
theorem dX12_copy_108 : decode cX12_copy 108 = .ok (.iconst 1, 1) := by decide +kernel
theorem dX12_copy_109 : decode cX12_copy 109 = .ok (.ireturn, 1) := by decide +kernel
theorem dX12_flying_0 : decode cX12_flying 0 = .ok (.aload_n 0, 1) := by decide +kernel
theorem dX12_flying_1 : decode cX12_flying 1 = .ok (.iload_n 1, 1) := by decide +kernel
theorem dX12_flying_2 : decode cX12_flying 2 = .ok (.invokevirtual 167, 3) := by decide +kernel
theorem dX12_flying_5 : decode cX12_flying 5 = .ok (.ifCond .ne 7, 3) := by decide +kernel
theorem dX12_flying_8 : decode cX12_flying 8 = .ok (.iconst (-1), 1) := by decide +kernel
theorem dX12_flying_9 : decode cX12_flying 9 = .ok (.goto 60, 3) := by decide +kernel
theorem dX12_flying_12 : decode cX12_flying 12 = .ok (.iload_n 2, 1) := by decide +kernel
theorem dX12_flying_13 : decode cX12_flying 13 = .ok (.ifCond .ne 17, 3) := by decide +kernel
theorem dX12_flying_16 : decode cX12_flying 16 = .ok (.aload_n 0, 1) := by decide +kernel
theorem dX12_flying_17 : decode cX12_flying 17 = .ok (.getfield 195, 3) := by decide +kernel
theorem dX12_flying_20 : decode cX12_flying 20 = .ok (.aload_n 0, 1) := by decide +kernel
theorem dX12_flying_21 : decode cX12_flying 21 = .ok (.getfield 176, 3) := by decide +kernel
theorem dX12_flying_24 : decode cX12_flying 24 = .ok (.iload_n 1, 1) := by decide +kernel
theorem dX12_flying_25 : decode cX12_flying 25 = .ok (.iaload, 1) := by decide +kernel
theorem dX12_flying_26 : decode cX12_flying 26 = .ok (.iaload, 1) := by decide +kernel
theorem dX12_flying_27 : decode cX12_flying 27 = .ok (.goto 42, 3) := by decide +kernel
theorem dX12_flying_30 : decode cX12_flying 30 = .ok (.iload_n 2, 1) := by decide +kernel
theorem dX12_flying_31 : decode cX12_flying 31 = .ok (.iconst 1, 1) := by decide +kernel
theorem dX12_flying_32 : decode cX12_flying 32 = .ok (.if_icmp .ne 17, 3) := by decide +kernel
theorem dX12_flying_35 : decode cX12_flying 35 = .ok (.aload_n 0, 1) := by decide +kernel
theorem dX12_flying_36 : decode cX12_flying 36 = .ok (.getfield 198, 3) := by decide +kernel
theorem dX12_flying_39 : decode cX12_flying 39 = .ok (.aload_n 0, 1) := by decide +kernel
theorem dX12_flying_40 : decode cX12_flying 40 = .ok (.getfield 176, 3) := by decide +kernel
theorem dX12_flying_43 : decode cX12_flying 43 = .ok (.iload_n 1, 1) := by decide +kernel
theorem dX12_flying_44 : decode cX12_flying 44 = .ok (.iaload, 1) := by decide +kernel
theorem dX12_flying_45 : decode cX12_flying 45 = .ok (.iaload, 1) := by decide +kernel
theorem dX12_flying_46 : decode cX12_flying 46 = .ok (.goto 23, 3) := by decide +kernel
theorem dX12_flying_49 : decode cX12_flying 49 = .ok (.iload_n 2, 1) := by decide +kernel
theorem dX12_flying_50 : decode cX12_flying 50 = .ok (.iconst 2, 1) := by decide +kernel
theorem dX12_flying_51 : decode cX12_flying 51 = .ok (.if_icmp .ne 17, 3) := by decide +kernel
theorem dX12_flying_54 : decode cX12_flying 54 = .ok (.aload_n 0, 1) := by decide +kernel
theorem dX12_flying_55 : decode cX12_flying 55 = .ok (.getfield 173, 3) := by decide +kernel
theorem dX12_flying_58 : decode cX12_flying 58 = .ok (.aload_n 0, 1) := by decide +kernel
theorem dX12_flying_59 : decode cX12_flying 59 = .ok (.getfield 176, 3) := by decide +kernel
theorem dX12_flying_62 : decode cX12_flying 62 = .ok (.iload_n 1, 1) := by decide +kernel
theorem dX12_flying_63 : decode cX12_flying 63 = .ok (.iaload, 1) := by decide +kernel
theorem dX12_flying_64 : decode cX12_flying 64 = .ok (.iaload, 1) := by decide +kernel
theorem dX12_flying_65 : decode cX12_flying 65 = .ok (.goto 4, 3) := by decide +kernel
theorem dX12_flying_68 : decode cX12_flying 68 = .ok (.iconst (-1), 1) := by decide +kernel
theorem dX12_flying_69 : decode cX12_flying 69 = .ok (.ireturn, 1) := by decide +kernel
theorem dX12_bytes_0 : decode cX12_bytes 0 = .ok (.aload_n 0, 1) := by decide +kernel
theorem dX12_bytes_1 : decode cX12_bytes 1 = .ok (.iload_n 1, 1) := by decide +kernel
theorem dX12_bytes_2 : decode cX12_bytes 2 = .ok (.invokevirtual 167, 3) := by decide +kernel
theorem dX12_bytes_5 : decode cX12_bytes 5 = .ok (.ifCond .eq 7, 3) := by decide +kernel
theorem dX12_bytes_8 : decode cX12_bytes 8 = .ok (.iload_n 2, 1) := by decide +kernel
theorem dX12_bytes_9 : decode cX12_bytes 9 = .ok (.ifCond .ge 7, 3) := by decide +kernel
theorem dX12_bytes_12 : decode cX12_bytes 12 = .ok (.ldc2_w 55, 3) := by decide +kernel
theorem dX12_bytes_15 : decode cX12_bytes 15 = .ok (.lreturn, 1) := by decide +kernel
theorem dX12_bytes_16 : decode cX12_bytes 16 = .ok (.aload_n 0, 1) := by decide +kernel
theorem dX12_bytes_17 : decode cX12_bytes 17 = .ok (.getfield 173, 3) := by decide +kernel
theorem dX12_bytes_20 : decode cX12_bytes 20 = .ok (.aload_n 0, 1) := by decide +kernel
theorem dX12_bytes_21 : decode cX12_bytes 21 = .ok (.getfield 176, 3) := by decide +kernel
theorem dX12_bytes_24 : decode cX12_bytes 24 = .ok (.iload_n 1, 1) := by decide +kernel
theorem dX12_bytes_25 : decode cX12_bytes 25 = .ok (.iaload, 1) := by decide +kernel
theorem dX12_bytes_26 : decode cX12_bytes 26 = .ok (.iaload, 1) := by decide +kernel
theorem dX12_bytes_27 : decode cX12_bytes 27 = .ok (.istore_n 3, 1) := by decide +kernel
theorem dX12_bytes_28 : decode cX12_bytes 28 = .ok (.lconst 0, 1) := by decide +kernel
theorem dX12_bytes_29 : decode cX12_bytes 29 = .ok (.lstore 4, 2) := by decide +kernel
theorem dX12_bytes_31 : decode cX12_bytes 31 = .ok (.iconst 0, 1) := by decide +kernel
theorem dX12_bytes_32 : decode cX12_bytes 32 = .ok (.istore 6, 2) := by decide +kernel
theorem dX12_bytes_34 : decode cX12_bytes 34 = .ok (.iload 6, 2) := by decide +kernel
theorem dX12_bytes_36 : decode cX12_bytes 36 = .ok (.bipush 8, 2) := by decide +kernel
theorem dX12_bytes_38 : decode cX12_bytes 38 = .ok (.if_icmp .ge 44, 3) := by decide +kernel
theorem dX12_bytes_41 : decode cX12_bytes 41 = .ok (.lload 4, 2) := by decide +kernel
theorem dX12_bytes_43 : decode cX12_bytes 43 = .ok (.bipush 8, 2) := by decide +kernel
theorem dX12_bytes_45 : decode cX12_bytes 45 = .ok (.lshl, 1) := by decide +kernel
theorem dX12_bytes_46 : decode cX12_bytes 46 = .ok (.iload_n 2, 1) := by decide +kernel
theorem dX12_bytes_47 : decode cX12_bytes 47 = .ok (.iload_n 3, 1) := by decide +kernel
theorem dX12_bytes_48 : decode cX12_bytes 48 = .ok (.if_icmp .ge 23, 3) := by decide +kernel
theorem dX12_bytes_51 : decode cX12_bytes 51 = .ok (.iload 6, 2) := by decide +kernel
theorem dX12_bytes_53 : decode cX12_bytes 53 = .ok (.iload_n 3, 1) := by decide +kernel
theorem dX12_bytes_54 : decode cX12_bytes 54 = .ok (.iload_n 2, 1) := by decide +kernel
theorem dX12_bytes_55 : decode cX12_bytes 55 = .ok (.isub, 1) := by decide +kernel
theorem dX12_bytes_56 : decode cX12_bytes 56 = .ok (.if_icmp .ge 15, 3) := by decide +kernel
theorem dX12_bytes_59 : decode cX12_bytes 59 = .ok (.aload_n 0, 1) := by decide +kernel
theorem dX12_bytes_60 : decode cX12_bytes 60 = .ok (.iload_n 1, 1) := by decide +kernel
theorem dX12_bytes_61 : decode cX12_bytes 61 = .ok (.iload_n 2, 1) := by decide +kernel
theorem dX12_bytes_62 : decode cX12_bytes 62 = .ok (.iload 6, 2) := by decide +kernel
theorem dX12_bytes_64 : decode cX12_bytes 64 = .ok (.iadd, 1) := by decide +kernel
theorem dX12_bytes_65 : decode cX12_bytes 65 = .ok (.invokevirtual 170, 3) := by decide +kernel
theorem dX12_bytes_68 : decode cX12_bytes 68 = .ok (.goto 4, 3) := by decide +kernel
theorem dX12_bytes_71 : decode cX12_bytes 71 = .ok (.iconst 0, 1) := by decide +kernel
theorem dX12_bytes_72 : decode cX12_bytes 72 = .ok (.i2l, 1) := by decide +kernel
theorem dX12_bytes_73 : decode cX12_bytes 73 = .ok (.lor, 1) := by decide +kernel
theorem dX12_bytes_74 : decode cX12_bytes 74 = .ok (.lstore 4, 2) := by decide +kernel
theorem dX12_bytes_76 : decode cX12_bytes 76 = .ok (.iinc 6 1, 3) := by decide +kernel
theorem dX12_bytes_79 : decode cX12_bytes 79 = .ok (.goto (-45), 3) := by decide +kernel
theorem dX12_bytes_82 : decode cX12_bytes 82 = .ok (.lload 4, 2) := by decide +kernel
theorem dX12_bytes_84 : decode cX12_bytes 84 = .ok (.lreturn, 1) := by decide +kernel
theorem dX12_tick_0 : decode cX12_tick 0 = .ok (.aload_n 0, 1) := by decide +kernel
theorem dX12_tick_1 : decode cX12_tick 1 = .ok (.aload_n 0, 1) := by decide +kernel
theorem dX12_tick_2 : decode cX12_tick 2 = .ok (.getfield 216, 3) := by decide +kernel
theorem dX12_tick_5 : decode cX12_tick 5 = .ok (.iconst 1, 1) := by decide +kernel
theorem dX12_tick_6 : decode cX12_tick 6 = .ok (.iadd, 1) := by decide +kernel
theorem dX12_tick_7 : decode cX12_tick 7 = .ok (.putfield 216, 3) := by decide +kernel
theorem dX12_tick_10 : decode cX12_tick 10 = .ok (.iconst 0, 1) := by decide +kernel
theorem dX12_tick_11 : decode cX12_tick 11 = .ok (.istore_n 1, 1) := by decide +kernel
theorem dX12_tick_12 : decode cX12_tick 12 = .ok (.iconst 0, 1) := by decide +kernel
theorem dX12_tick_13 : decode cX12_tick 13 = .ok (.istore_n 2, 1) := by decide +kernel
theorem dX12_tick_14 : decode cX12_tick 14 = .ok (.iload_n 2, 1) := by decide +kernel
theorem dX12_tick_15 : decode cX12_tick 15 = .ok (.aload_n 0, 1) := by decide +kernel
theorem dX12_tick_16 : decode cX12_tick 16 = .ok (.getfield 219, 3) := by decide +kernel
theorem dX12_tick_19 : decode cX12_tick 19 = .ok (.if_icmp .ge 90, 3) := by decide +kernel
theorem dX12_tick_22 : decode cX12_tick 22 = .ok (.iconst 0, 1) := by decide +kernel
theorem dX12_tick_23 : decode cX12_tick 23 = .ok (.istore_n 3, 1) := by decide +kernel
theorem dX12_tick_24 : decode cX12_tick 24 = .ok (.iload_n 3, 1) := by decide +kernel
theorem dX12_tick_25 : decode cX12_tick 25 = .ok (.iconst 3, 1) := by decide +kernel
theorem dX12_tick_26 : decode cX12_tick 26 = .ok (.if_icmp .ge 77, 3) := by decide +kernel
theorem dX12_tick_29 : decode cX12_tick 29 = .ok (.aload_n 0, 1) := by decide +kernel
theorem dX12_tick_30 : decode cX12_tick 30 = .ok (.iload_n 2, 1) := by decide +kernel
theorem dX12_tick_31 : decode cX12_tick 31 = .ok (.invokevirtual 707, 3) := by decide +kernel
theorem dX12_tick_34 : decode cX12_tick 34 = .ok (.ifCond .eq 63, 3) := by decide +kernel
theorem dX12_tick_37 : decode cX12_tick 37 = .ok (.aload_n 0, 1) := by decide +kernel
theorem dX12_tick_38 : decode cX12_tick 38 = .ok (.getfield 333, 3) := by decide +kernel
theorem dX12_tick_41 : decode cX12_tick 41 = .ok (.iconst 3, 1) := by decide +kernel
theorem dX12_tick_42 : decode cX12_tick 42 = .ok (.iload_n 2, 1) := by decide +kernel
theorem dX12_tick_43 : decode cX12_tick 43 = .ok (.imul, 1) := by decide +kernel
theorem dX12_tick_44 : decode cX12_tick 44 = .ok (.iload_n 3, 1) := by decide +kernel
theorem dX12_tick_45 : decode cX12_tick 45 = .ok (.iadd, 1) := by decide +kernel
theorem dX12_tick_46 : decode cX12_tick 46 = .ok (.iaload, 1) := by decide +kernel
theorem dX12_tick_47 : decode cX12_tick 47 = .ok (.iconst (-1), 1) := by decide +kernel
theorem dX12_tick_48 : decode cX12_tick 48 = .ok (.if_icmp .eq 49, 3) := by decide +kernel
theorem dX12_tick_51 : decode cX12_tick 51 = .ok (.aload_n 0, 1) := by decide +kernel
theorem dX12_tick_52 : decode cX12_tick 52 = .ok (.getfield 333, 3) := by decide +kernel
theorem dX12_tick_55 : decode cX12_tick 55 = .ok (.iconst 3, 1) := by decide +kernel
theorem dX12_tick_56 : decode cX12_tick 56 = .ok (.iload_n 2, 1) := by decide +kernel
theorem dX12_tick_57 : decode cX12_tick 57 = .ok (.imul, 1) := by decide +kernel
theorem dX12_tick_58 : decode cX12_tick 58 = .ok (.iload_n 3, 1) := by decide +kernel
theorem dX12_tick_59 : decode cX12_tick 59 = .ok (.iadd, 1) := by decide +kernel
theorem dX12_tick_60 : decode cX12_tick 60 = .ok (.iaload, 1) := by decide +kernel
theorem dX12_tick_61 : decode cX12_tick 61 = .ok (.aload_n 0, 1) := by decide +kernel
theorem dX12_tick_62 : decode cX12_tick 62 = .ok (.getfield 216, 3) := by decide +kernel
theorem dX12_tick_65 : decode cX12_tick 65 = .ok (.if_icmp .le 6, 3) := by decide +kernel
theorem dX12_tick_68 : decode cX12_tick 68 = .ok (.goto 29, 3) := by decide +kernel
theorem dX12_tick_71 : decode cX12_tick 71 = .ok (.aload_n 0, 1) := by decide +kernel
theorem dX12_tick_72 : decode cX12_tick 72 = .ok (.getfield 333, 3) := by decide +kernel
theorem dX12_tick_75 : decode cX12_tick 75 = .ok (.iconst 3, 1) := by decide +kernel
theorem dX12_tick_76 : decode cX12_tick 76 = .ok (.iload_n 2, 1) := by decide +kernel
theorem dX12_tick_77 : decode cX12_tick 77 = .ok (.imul, 1) := by decide +kernel
theorem dX12_tick_78 : decode cX12_tick 78 = .ok (.iload_n 3, 1) := by decide +kernel
theorem dX12_tick_79 : decode cX12_tick 79 = .ok (.iadd, 1) := by decide +kernel
theorem dX12_tick_80 : decode cX12_tick 80 = .ok (.iconst (-1), 1) := by decide +kernel
theorem dX12_tick_81 : decode cX12_tick 81 = .ok (.iastore, 1) := by decide +kernel
theorem dX12_tick_82 : decode cX12_tick 82 = .ok (.iload_n 1, 1) := by decide +kernel
theorem dX12_tick_83 : decode cX12_tick 83 = .ok (.iconst 1, 1) := by decide +kernel
theorem dX12_tick_84 : decode cX12_tick 84 = .ok (.iadd, 1) := by decide +kernel
theorem dX12_tick_85 : decode cX12_tick 85 = .ok (.istore_n 1, 1) := by decide +kernel
theorem dX12_tick_86 : decode cX12_tick 86 = .ok (.aload_n 0, 1) := by decide +kernel
theorem dX12_tick_87 : decode cX12_tick 87 = .ok (.iload_n 2, 1) := by decide +kernel
theorem dX12_tick_88 : decode cX12_tick 88 = .ok (.iload_n 3, 1) := by decide +kernel
theorem dX12_tick_89 : decode cX12_tick 89 = .ok (.invokevirtual 719, 3) := by decide +kernel
theorem dX12_tick_92 : decode cX12_tick 92 = .ok (.aload_n 0, 1) := by decide +kernel
theorem dX12_tick_93 : decode cX12_tick 93 = .ok (.iload_n 2, 1) := by decide +kernel
theorem dX12_tick_94 : decode cX12_tick 94 = .ok (.invokevirtual 460, 3) := by decide +kernel
theorem dX12_tick_97 : decode cX12_tick 97 = .ok (.iinc 3 1, 3) := by decide +kernel
theorem dX12_tick_100 : decode cX12_tick 100 = .ok (.goto (-76), 3) := by decide +kernel
theorem dX12_tick_103 : decode cX12_tick 103 = .ok (.iinc 2 1, 3) := by decide +kernel
theorem dX12_tick_106 : decode cX12_tick 106 = .ok (.goto (-92), 3) := by decide +kernel
theorem dX12_tick_109 : decode cX12_tick 109 = .ok (.iload_n 1, 1) := by decide +kernel
theorem dX12_tick_110 : decode cX12_tick 110 = .ok (.ireturn, 1) := by decide +kernel
theorem dX12_end_0 : decode cX12_end 0 = .ok (.iload_n 2, 1) := by decide +kernel
theorem dX12_end_1 : decode cX12_end 1 = .ok (.ifCond .ne 21, 3) := by decide +kernel
theorem dX12_end_4 : decode cX12_end 4 = .ok (.aload_n 0, 1) := by decide +kernel
theorem dX12_end_5 : decode cX12_end 5 = .ok (.getfield 315, 3) := by decide +kernel
theorem dX12_end_8 : decode cX12_end 8 = .ok (.iload_n 1, 1) := by decide +kernel
theorem dX12_end_9 : decode cX12_end 9 = .ok (.iaload, 1) := by decide +kernel
theorem dX12_end_10 : decode cX12_end 10 = .ok (.ifCond .ne 12, 3) := by decide +kernel
theorem dX12_end_13 : decode cX12_end 13 = .ok (.aload_n 0, 1) := by decide +kernel
theorem dX12_end_14 : decode cX12_end 14 = .ok (.iload_n 1, 1) := by decide +kernel
theorem dX12_end_15 : decode cX12_end 15 = .ok (.iconst 2, 1) := by decide +kernel
theorem dX12_end_16 : decode cX12_end 16 = .ok (.iconst (-1), 1) := by decide +kernel
theorem dX12_end_17 : decode cX12_end 17 = .ok (.iconst 1, 1) := by decide +kernel
theorem dX12_end_18 : decode cX12_end 18 = .ok (.invokevirtual 639, 3) := by decide +kernel
theorem dX12_end_21 : decode cX12_end 21 = .ok (.pop, 1) := by decide +kernel
theorem dX12_end_22 : decode cX12_end 22 = .ok (.iload_n 2, 1) := by decide +kernel
theorem dX12_end_23 : decode cX12_end 23 = .ok (.iconst 1, 1) := by decide +kernel
theorem dX12_end_24 : decode cX12_end 24 = .ok (.if_icmp .ne 22, 3) := by decide +kernel
theorem dX12_end_27 : decode cX12_end 27 = .ok (.aload_n 0, 1) := by decide +kernel
theorem dX12_end_28 : decode cX12_end 28 = .ok (.getfield 315, 3) := by decide +kernel
theorem dX12_end_31 : decode cX12_end 31 = .ok (.iload_n 1, 1) := by decide +kernel
theorem dX12_end_32 : decode cX12_end 32 = .ok (.iaload, 1) := by decide +kernel
theorem dX12_end_33 : decode cX12_end 33 = .ok (.iconst 1, 1) := by decide +kernel
theorem dX12_end_34 : decode cX12_end 34 = .ok (.if_icmp .ne 12, 3) := by decide +kernel
theorem dX12_end_37 : decode cX12_end 37 = .ok (.aload_n 0, 1) := by decide +kernel
theorem dX12_end_38 : decode cX12_end 38 = .ok (.iload_n 1, 1) := by decide +kernel
theorem dX12_end_39 : decode cX12_end 39 = .ok (.iconst 3, 1) := by decide +kernel
theorem dX12_end_40 : decode cX12_end 40 = .ok (.iconst (-1), 1) := by decide +kernel
theorem dX12_end_41 : decode cX12_end 41 = .ok (.iconst 2, 1) := by decide +kernel
theorem dX12_end_42 : decode cX12_end 42 = .ok (.invokevirtual 639, 3) := by decide +kernel
theorem dX12_end_45 : decode cX12_end 45 = .ok (.pop, 1) := by decide +kernel
theorem dX12_end_46 : decode cX12_end 46 = .ok (.iload_n 2, 1) := by decide +kernel
theorem dX12_end_47 : decode cX12_end 47 = .ok (.iconst 2, 1) := by decide +kernel
theorem dX12_end_48 : decode cX12_end 48 = .ok (.if_icmp .ne 27, 3) := by decide +kernel
theorem dX12_end_51 : decode cX12_end 51 = .ok (.aload_n 0, 1) := by decide +kernel
theorem dX12_end_52 : decode cX12_end 52 = .ok (.getfield 312, 3) := by decide +kernel
theorem dX12_end_55 : decode cX12_end 55 = .ok (.iload_n 1, 1) := by decide +kernel
theorem dX12_end_56 : decode cX12_end 56 = .ok (.iaload, 1) := by decide +kernel
theorem dX12_end_57 : decode cX12_end 57 = .ok (.bipush 15, 2) := by decide +kernel
theorem dX12_end_59 : decode cX12_end 59 = .ok (.if_icmp .ge 16, 3) := by decide +kernel
theorem dX12_end_62 : decode cX12_end 62 = .ok (.aload_n 0, 1) := by decide +kernel
theorem dX12_end_63 : decode cX12_end 63 = .ok (.iload_n 1, 1) := by decide +kernel
theorem dX12_end_64 : decode cX12_end 64 = .ok (.aload_n 0, 1) := by decide +kernel
theorem dX12_end_65 : decode cX12_end 65 = .ok (.getfield 312, 3) := by decide +kernel
theorem dX12_end_68 : decode cX12_end 68 = .ok (.iload_n 1, 1) := by decide +kernel
theorem dX12_end_69 : decode cX12_end 69 = .ok (.iaload, 1) := by decide +kernel
theorem dX12_end_70 : decode cX12_end 70 = .ok (.iconst 1, 1) := by decide +kernel
theorem dX12_end_71 : decode cX12_end 71 = .ok (.iadd, 1) := by decide +kernel
theorem dX12_end_72 : decode cX12_end 72 = .ok (.invokevirtual 457, 3) := by decide +kernel
theorem dX12_end_75 : decode cX12_end 75 = .ok (.return_, 1) := by decide +kernel
theorem dX12_crash_0 : decode cX12_crash 0 = .ok (.aload_n 0, 1) := by decide +kernel
theorem dX12_crash_1 : decode cX12_crash 1 = .ok (.iload_n 1, 1) := by decide +kernel
theorem dX12_crash_2 : decode cX12_crash 2 = .ok (.invokevirtual 707, 3) := by decide +kernel
theorem dX12_crash_5 : decode cX12_crash 5 = .ok (.ifCond .ne 5, 3) := by decide +kernel
theorem dX12_crash_8 : decode cX12_crash 8 = .ok (.iconst 0, 1) := by decide +kernel
theorem dX12_crash_9 : decode cX12_crash 9 = .ok (.ireturn, 1) := by decide +kernel
theorem dX12_crash_10 : decode cX12_crash 10 = .ok (.aload_n 0, 1) := by decide +kernel
theorem dX12_crash_11 : decode cX12_crash 11 = .ok (.iload_n 1, 1) := by decide +kernel
theorem dX12_crash_12 : decode cX12_crash 12 = .ok (.invokevirtual 489, 3) := by decide +kernel
theorem dX12_crash_15 : decode cX12_crash 15 = .ok (.iconst 1, 1) := by decide +kernel
theorem dX12_crash_16 : decode cX12_crash 16 = .ok (.ireturn, 1) := by decide +kernel
theorem dX12_cut_0 : decode cX12_cut 0 = .ok (.aload_n 0, 1) := by decide +kernel
theorem dX12_cut_1 : decode cX12_cut 1 = .ok (.iload_n 1, 1) := by decide +kernel
theorem dX12_cut_2 : decode cX12_cut 2 = .ok (.invokevirtual 155, 3) := by decide +kernel
theorem dX12_cut_5 : decode cX12_cut 5 = .ok (.ifCond .eq 14, 3) := by decide +kernel
theorem dX12_cut_8 : decode cX12_cut 8 = .ok (.iload_n 2, 1) := by decide +kernel
theorem dX12_cut_9 : decode cX12_cut 9 = .ok (.ifCond .lt 10, 3) := by decide +kernel
theorem dX12_cut_12 : decode cX12_cut 12 = .ok (.iload_n 2, 1) := by decide +kernel
theorem dX12_cut_13 : decode cX12_cut 13 = .ok (.sipush 1000, 3) := by decide +kernel
theorem dX12_cut_16 : decode cX12_cut 16 = .ok (.if_icmp .le 5, 3) := by decide +kernel
theorem dX12_cut_19 : decode cX12_cut 19 = .ok (.iconst 0, 1) := by decide +kernel
theorem dX12_cut_20 : decode cX12_cut 20 = .ok (.ireturn, 1) := by decide +kernel
theorem dX12_cut_21 : decode cX12_cut 21 = .ok (.aload_n 0, 1) := by decide +kernel
theorem dX12_cut_22 : decode cX12_cut 22 = .ok (.getfield 400, 3) := by decide +kernel
theorem dX12_cut_25 : decode cX12_cut 25 = .ok (.iload_n 1, 1) := by decide +kernel
theorem dX12_cut_26 : decode cX12_cut 26 = .ok (.iload_n 2, 1) := by decide +kernel
theorem dX12_cut_27 : decode cX12_cut 27 = .ok (.iastore, 1) := by decide +kernel
theorem dX12_cut_28 : decode cX12_cut 28 = .ok (.iconst 1, 1) := by decide +kernel
theorem dX12_cut_29 : decode cX12_cut 29 = .ok (.ireturn, 1) := by decide +kernel
theorem dX12_restart_0 : decode cX12_restart 0 = .ok (.aload_n 0, 1) := by decide +kernel
theorem dX12_restart_1 : decode cX12_restart 1 = .ok (.iload_n 1, 1) := by decide +kernel
theorem dX12_restart_2 : decode cX12_restart 2 = .ok (.invokevirtual 155, 3) := by decide +kernel
theorem dX12_restart_5 : decode cX12_restart 5 = .ok (.ifCond .eq 12, 3) := by decide +kernel
theorem dX12_restart_8 : decode cX12_restart 8 = .ok (.aload_n 0, 1) := by decide +kernel
theorem dX12_restart_9 : decode cX12_restart 9 = .ok (.getfield 305, 3) := by decide +kernel
theorem dX12_restart_12 : decode cX12_restart 12 = .ok (.iload_n 1, 1) := by decide +kernel
theorem dX12_restart_13 : decode cX12_restart 13 = .ok (.baload, 1) := by decide +kernel
theorem dX12_restart_14 : decode cX12_restart 14 = .ok (.ifCond .eq 5, 3) := by decide +kernel
theorem dX12_restart_17 : decode cX12_restart 17 = .ok (.iconst 0, 1) := by decide +kernel
theorem dX12_restart_18 : decode cX12_restart 18 = .ok (.ireturn, 1) := by decide +kernel
theorem dX12_restart_19 : decode cX12_restart 19 = .ok (.aload_n 0, 1) := by decide +kernel
theorem dX12_restart_20 : decode cX12_restart 20 = .ok (.getfield 305, 3) := by decide +kernel
theorem dX12_restart_23 : decode cX12_restart 23 = .ok (.iload_n 1, 1) := by decide +kernel
theorem dX12_restart_24 : decode cX12_restart 24 = .ok (.iconst 1, 1) := by decide +kernel
theorem dX12_restart_25 : decode cX12_restart 25 = .ok (.bastore, 1) := by decide +kernel
theorem dX12_restart_26 : decode cX12_restart 26 = .ok (.aload_n 0, 1) := by decide +kernel
theorem dX12_restart_27 : decode cX12_restart 27 = .ok (.iload_n 1, 1) := by decide +kernel
theorem dX12_restart_28 : decode cX12_restart 28 = .ok (.invokevirtual 569, 3) := by decide +kernel
theorem dX12_restart_31 : decode cX12_restart 31 = .ok (.iconst 0, 1) := by decide +kernel
theorem dX12_restart_32 : decode cX12_restart 32 = .ok (.istore_n 2, 1) := by decide +kernel
theorem dX12_restart_33 : decode cX12_restart 33 = .ok (.iload_n 2, 1) := by decide +kernel
theorem dX12_restart_34 : decode cX12_restart 34 = .ok (.aload_n 0, 1) := by decide +kernel
theorem dX12_restart_35 : decode cX12_restart 35 = .ok (.getfield 372, 3) := by decide +kernel
theorem dX12_restart_38 : decode cX12_restart 38 = .ok (.iload_n 1, 1) := by decide +kernel
theorem dX12_restart_39 : decode cX12_restart 39 = .ok (.iaload, 1) := by decide +kernel
theorem dX12_restart_40 : decode cX12_restart 40 = .ok (.if_icmp .ge 15, 3) := by decide +kernel
theorem dX12_restart_43 : decode cX12_restart 43 = .ok (.aload_n 0, 1) := by decide +kernel
theorem dX12_restart_44 : decode cX12_restart 44 = .ok (.iload_n 1, 1) := by decide +kernel
theorem dX12_restart_45 : decode cX12_restart 45 = .ok (.iload_n 2, 1) := by decide +kernel
theorem dX12_restart_46 : decode cX12_restart 46 = .ok (.invokevirtual 517, 3) := by decide +kernel
theorem dX12_restart_49 : decode cX12_restart 49 = .ok (.iinc 2 1, 3) := by decide +kernel
theorem dX12_restart_52 : decode cX12_restart 52 = .ok (.goto (-19), 3) := by decide +kernel
theorem dX12_restart_55 : decode cX12_restart 55 = .ok (.aload_n 0, 1) := by decide +kernel
theorem dX12_restart_56 : decode cX12_restart 56 = .ok (.getfield 309, 3) := by decide +kernel
theorem dX12_restart_59 : decode cX12_restart 59 = .ok (.iload_n 1, 1) := by decide +kernel
theorem dX12_restart_60 : decode cX12_restart 60 = .ok (.iaload, 1) := by decide +kernel
theorem dX12_restart_61 : decode cX12_restart 61 = .ok (.bipush 40, 2) := by decide +kernel
theorem dX12_restart_63 : decode cX12_restart 63 = .ok (.if_icmp .gt 14, 3) := by decide +kernel
theorem dX12_restart_66 : decode cX12_restart 66 = .ok (.aload_n 0, 1) := by decide +kernel
theorem dX12_restart_67 : decode cX12_restart 67 = .ok (.iload_n 1, 1) := by decide +kernel
theorem dX12_restart_68 : decode cX12_restart 68 = .ok (.aload_n 0, 1) := by decide +kernel
theorem dX12_restart_69 : decode cX12_restart 69 = .ok (.getfield 315, 3) := by decide +kernel
theorem dX12_restart_72 : decode cX12_restart 72 = .ok (.iload_n 1, 1) := by decide +kernel
theorem dX12_restart_73 : decode cX12_restart 73 = .ok (.iaload, 1) := by decide +kernel
theorem dX12_restart_74 : decode cX12_restart 74 = .ok (.invokevirtual 572, 3) := by decide +kernel
theorem dX12_restart_77 : decode cX12_restart 77 = .ok (.aload_n 0, 1) := by decide +kernel
theorem dX12_restart_78 : decode cX12_restart 78 = .ok (.iload_n 1, 1) := by decide +kernel
theorem dX12_restart_79 : decode cX12_restart 79 = .ok (.invokevirtual 676, 3) := by decide +kernel
theorem dX12_restart_82 : decode cX12_restart 82 = .ok (.aload_n 0, 1) := by decide +kernel
theorem dX12_restart_83 : decode cX12_restart 83 = .ok (.iload_n 1, 1) := by decide +kernel
theorem dX12_restart_84 : decode cX12_restart 84 = .ok (.invokevirtual 514, 3) := by decide +kernel
theorem dX12_restart_87 : decode cX12_restart 87 = .ok (.aload_n 0, 1) := by decide +kernel
theorem dX12_restart_88 : decode cX12_restart 88 = .ok (.iload_n 1, 1) := by decide +kernel
theorem dX12_restart_89 : decode cX12_restart 89 = .ok (.invokevirtual 460, 3) := by decide +kernel
theorem dX12_restart_92 : decode cX12_restart 92 = .ok (.iconst 1, 1) := by decide +kernel
theorem dX12_restart_93 : decode cX12_restart 93 = .ok (.ireturn, 1) := by decide +kernel
theorem dX12_state_0 : decode cX12_state 0 = .ok (.aload_n 0, 1) := by decide +kernel
theorem dX12_state_1 : decode cX12_state 1 = .ok (.iload_n 1, 1) := by decide +kernel
theorem dX12_state_2 : decode cX12_state 2 = .ok (.invokevirtual 155, 3) := by decide +kernel
theorem dX12_state_5 : decode cX12_state 5 = .ok (.ifCond .ne 5, 3) := by decide +kernel
theorem dX12_state_8 : decode cX12_state 8 = .ok (.iconst (-1), 1) := by decide +kernel
theorem dX12_state_9 : decode cX12_state 9 = .ok (.ireturn, 1) := by decide +kernel
theorem dX12_state_10 : decode cX12_state 10 = .ok (.iconst 0, 1) := by decide +kernel
theorem dX12_state_11 : decode cX12_state 11 = .ok (.istore_n 3, 1) := by decide +kernel
theorem dX12_state_12 : decode cX12_state 12 = .ok (.iconst 0, 1) := by decide +kernel
theorem dX12_state_13 : decode cX12_state 13 = .ok (.istore 4, 2) := by decide +kernel
theorem dX12_state_15 : decode cX12_state 15 = .ok (.iload 4, 2) := by decide +kernel
theorem dX12_state_17 : decode cX12_state 17 = .ok (.aload_n 0, 1) := by decide +kernel
theorem dX12_state_18 : decode cX12_state 18 = .ok (.getfield 219, 3) := by decide +kernel
theorem dX12_state_21 : decode cX12_state 21 = .ok (.if_icmp .ge 32, 3) := by decide +kernel
theorem dX12_state_24 : decode cX12_state 24 = .ok (.aload_n 0, 1) := by decide +kernel
theorem dX12_state_25 : decode cX12_state 25 = .ok (.getfield 342, 3) := by decide +kernel
theorem dX12_state_28 : decode cX12_state 28 = .ok (.bipush 13, 2) := by decide +kernel
theorem dX12_state_30 : decode cX12_state 30 = .ok (.iload_n 1, 1) := by decide +kernel
theorem dX12_state_31 : decode cX12_state 31 = .ok (.imul, 1) := by decide +kernel
theorem dX12_state_32 : decode cX12_state 32 = .ok (.iload 4, 2) := by decide +kernel
theorem dX12_state_34 : decode cX12_state 34 = .ok (.iadd, 1) := by decide +kernel
theorem dX12_state_35 : decode cX12_state 35 = .ok (.iaload, 1) := by decide +kernel
theorem dX12_state_36 : decode cX12_state 36 = .ok (.ifCond .le 9, 3) := by decide +kernel
theorem dX12_state_39 : decode cX12_state 39 = .ok (.iload_n 3, 1) := by decide +kernel
theorem dX12_state_40 : decode cX12_state 40 = .ok (.iconst 1, 1) := by decide +kernel
theorem dX12_state_41 : decode cX12_state 41 = .ok (.iadd, 1) := by decide +kernel
theorem dX12_state_42 : decode cX12_state 42 = .ok (.goto 4, 3) := by decide +kernel
theorem dX12_state_45 : decode cX12_state 45 = .ok (.iload_n 3, 1) := by decide +kernel
theorem dX12_state_46 : decode cX12_state 46 = .ok (.istore_n 3, 1) := by decide +kernel
theorem dX12_state_47 : decode cX12_state 47 = .ok (.iinc 4 1, 3) := by decide +kernel
theorem dX12_state_50 : decode cX12_state 50 = .ok (.goto (-35), 3) := by decide +kernel
theorem dX12_state_53 : decode cX12_state 53 = .ok (.iload_n 2, 1) := by decide +kernel
theorem dX12_state_54 : decode cX12_state 54 = .ok (.tableswitch 200 0 11 #[62, 69, 76, 83, 90, 97, 112, 119, 177, 184, 191, 198], 62) := by decide +kernel
theorem dX12_state_116 : decode cX12_state 116 = .ok (.aload_n 0, 1) := by decide +kernel
theorem dX12_state_117 : decode cX12_state 117 = .ok (.getfield 309, 3) := by decide +kernel
theorem dX12_state_120 : decode cX12_state 120 = .ok (.iload_n 1, 1) := by decide +kernel
theorem dX12_state_121 : decode cX12_state 121 = .ok (.iaload, 1) := by decide +kernel
theorem dX12_state_122 : decode cX12_state 122 = .ok (.ireturn, 1) := by decide +kernel
theorem dX12_state_123 : decode cX12_state 123 = .ok (.aload_n 0, 1) := by decide +kernel
theorem dX12_state_124 : decode cX12_state 124 = .ok (.getfield 312, 3) := by decide +kernel
theorem dX12_state_127 : decode cX12_state 127 = .ok (.iload_n 1, 1) := by decide +kernel
theorem dX12_state_128 : decode cX12_state 128 = .ok (.iaload, 1) := by decide +kernel
theorem dX12_state_129 : decode cX12_state 129 = .ok (.ireturn, 1) := by decide +kernel
theorem dX12_state_130 : decode cX12_state 130 = .ok (.aload_n 0, 1) := by decide +kernel
theorem dX12_state_131 : decode cX12_state 131 = .ok (.getfield 315, 3) := by decide +kernel
theorem dX12_state_134 : decode cX12_state 134 = .ok (.iload_n 1, 1) := by decide +kernel
theorem dX12_state_135 : decode cX12_state 135 = .ok (.iaload, 1) := by decide +kernel
theorem dX12_state_136 : decode cX12_state 136 = .ok (.ireturn, 1) := by decide +kernel
theorem dX12_state_137 : decode cX12_state 137 = .ok (.aload_n 0, 1) := by decide +kernel
theorem dX12_state_138 : decode cX12_state 138 = .ok (.getfield 318, 3) := by decide +kernel
theorem dX12_state_141 : decode cX12_state 141 = .ok (.iload_n 1, 1) := by decide +kernel
theorem dX12_state_142 : decode cX12_state 142 = .ok (.iaload, 1) := by decide +kernel
theorem dX12_state_143 : decode cX12_state 143 = .ok (.ireturn, 1) := by decide +kernel
theorem dX12_state_144 : decode cX12_state 144 = .ok (.aload_n 0, 1) := by decide +kernel
theorem dX12_state_145 : decode cX12_state 145 = .ok (.getfield 321, 3) := by decide +kernel
theorem dX12_state_148 : decode cX12_state 148 = .ok (.iload_n 1, 1) := by decide +kernel
theorem dX12_state_149 : decode cX12_state 149 = .ok (.iaload, 1) := by decide +kernel
theorem dX12_state_150 : decode cX12_state 150 = .ok (.ireturn, 1) := by decide +kernel
theorem dX12_state_151 : decode cX12_state 151 = .ok (.aload_n 0, 1) := by decide +kernel
theorem dX12_state_152 : decode cX12_state 152 = .ok (.getfield 305, 3) := by decide +kernel
theorem dX12_state_155 : decode cX12_state 155 = .ok (.iload_n 1, 1) := by decide +kernel
theorem dX12_state_156 : decode cX12_state 156 = .ok (.baload, 1) := by decide +kernel
theorem dX12_state_157 : decode cX12_state 157 = .ok (.ifCond .eq 7, 3) := by decide +kernel
theorem dX12_state_160 : decode cX12_state 160 = .ok (.iconst 1, 1) := by decide +kernel
theorem dX12_state_161 : decode cX12_state 161 = .ok (.goto 4, 3) := by decide +kernel
theorem dX12_state_164 : decode cX12_state 164 = .ok (.iconst 0, 1) := by decide +kernel
theorem dX12_state_165 : decode cX12_state 165 = .ok (.ireturn, 1) := by decide +kernel
theorem dX12_state_166 : decode cX12_state 166 = .ok (.aload_n 0, 1) := by decide +kernel
theorem dX12_state_167 : decode cX12_state 167 = .ok (.getfield 336, 3) := by decide +kernel
theorem dX12_state_170 : decode cX12_state 170 = .ok (.iload_n 1, 1) := by decide +kernel
theorem dX12_state_171 : decode cX12_state 171 = .ok (.iaload, 1) := by decide +kernel
theorem dX12_state_172 : decode cX12_state 172 = .ok (.ireturn, 1) := by decide +kernel
theorem dX12_state_173 : decode cX12_state 173 = .ok (.aload_n 0, 1) := by decide +kernel
theorem dX12_state_174 : decode cX12_state 174 = .ok (.getfield 333, 3) := by decide +kernel
theorem dX12_state_177 : decode cX12_state 177 = .ok (.iconst 3, 1) := by decide +kernel
theorem dX12_state_178 : decode cX12_state 178 = .ok (.iload_n 1, 1) := by decide +kernel
theorem dX12_state_179 : decode cX12_state 179 = .ok (.imul, 1) := by decide +kernel
theorem dX12_state_180 : decode cX12_state 180 = .ok (.iaload, 1) := by decide +kernel
theorem dX12_state_181 : decode cX12_state 181 = .ok (.iconst (-1), 1) := by decide +kernel
theorem dX12_state_182 : decode cX12_state 182 = .ok (.if_icmp .eq 7, 3) := by decide +kernel
theorem dX12_state_185 : decode cX12_state 185 = .ok (.iconst 1, 1) := by decide +kernel
theorem dX12_state_186 : decode cX12_state 186 = .ok (.goto 4, 3) := by decide +kernel
theorem dX12_state_189 : decode cX12_state 189 = .ok (.iconst 0, 1) := by decide +kernel
theorem dX12_state_190 : decode cX12_state 190 = .ok (.aload_n 0, 1) := by decide +kernel
theorem dX12_state_191 : decode cX12_state 191 = .ok (.getfield 333, 3) := by decide +kernel
theorem dX12_state_194 : decode cX12_state 194 = .ok (.iconst 3, 1) := by decide +kernel
theorem dX12_state_195 : decode cX12_state 195 = .ok (.iload_n 1, 1) := by decide +kernel
theorem dX12_state_196 : decode cX12_state 196 = .ok (.imul, 1) := by decide +kernel
theorem dX12_state_197 : decode cX12_state 197 = .ok (.iconst 1, 1) := by decide +kernel
theorem dX12_state_198 : decode cX12_state 198 = .ok (.iadd, 1) := by decide +kernel
theorem dX12_state_199 : decode cX12_state 199 = .ok (.iaload, 1) := by decide +kernel
theorem dX12_state_200 : decode cX12_state 200 = .ok (.iconst (-1), 1) := by decide +kernel
theorem dX12_state_201 : decode cX12_state 201 = .ok (.if_icmp .eq 7, 3) := by decide +kernel
theorem dX12_state_204 : decode cX12_state 204 = .ok (.iconst 2, 1) := by decide +kernel
theorem dX12_state_205 : decode cX12_state 205 = .ok (.goto 4, 3) := by decide +kernel
theorem dX12_state_208 : decode cX12_state 208 = .ok (.iconst 0, 1) := by decide +kernel
theorem dX12_state_209 : decode cX12_state 209 = .ok (.iadd, 1) := by decide +kernel
theorem dX12_state_210 : decode cX12_state 210 = .ok (.aload_n 0, 1) := by decide +kernel
theorem dX12_state_211 : decode cX12_state 211 = .ok (.getfield 333, 3) := by decide +kernel
theorem dX12_state_214 : decode cX12_state 214 = .ok (.iconst 3, 1) := by decide +kernel
theorem dX12_state_215 : decode cX12_state 215 = .ok (.iload_n 1, 1) := by decide +kernel
theorem dX12_state_216 : decode cX12_state 216 = .ok (.imul, 1) := by decide +kernel
theorem dX12_state_217 : decode cX12_state 217 = .ok (.iconst 2, 1) := by decide +kernel
theorem dX12_state_218 : decode cX12_state 218 = .ok (.iadd, 1) := by decide +kernel
theorem dX12_state_219 : decode cX12_state 219 = .ok (.iaload, 1) := by decide +kernel
theorem dX12_state_220 : decode cX12_state 220 = .ok (.iconst (-1), 1) := by decide +kernel
theorem dX12_state_221 : decode cX12_state 221 = .ok (.if_icmp .eq 7, 3) := by decide +kernel
theorem dX12_state_224 : decode cX12_state 224 = .ok (.iconst 4, 1) := by decide +kernel
theorem dX12_state_225 : decode cX12_state 225 = .ok (.goto 4, 3) := by decide +kernel
theorem dX12_state_228 : decode cX12_state 228 = .ok (.iconst 0, 1) := by decide +kernel
theorem dX12_state_229 : decode cX12_state 229 = .ok (.iadd, 1) := by decide +kernel
theorem dX12_state_230 : decode cX12_state 230 = .ok (.ireturn, 1) := by decide +kernel
theorem dX12_state_231 : decode cX12_state 231 = .ok (.aload_n 0, 1) := by decide +kernel
theorem dX12_state_232 : decode cX12_state 232 = .ok (.getfield 372, 3) := by decide +kernel
theorem dX12_state_235 : decode cX12_state 235 = .ok (.iload_n 1, 1) := by decide +kernel
theorem dX12_state_236 : decode cX12_state 236 = .ok (.iaload, 1) := by decide +kernel
theorem dX12_state_237 : decode cX12_state 237 = .ok (.ireturn, 1) := by decide +kernel
theorem dX12_state_238 : decode cX12_state 238 = .ok (.aload_n 0, 1) := by decide +kernel
theorem dX12_state_239 : decode cX12_state 239 = .ok (.getfield 403, 3) := by decide +kernel
theorem dX12_state_242 : decode cX12_state 242 = .ok (.iload_n 1, 1) := by decide +kernel
theorem dX12_state_243 : decode cX12_state 243 = .ok (.iaload, 1) := by decide +kernel
theorem dX12_state_244 : decode cX12_state 244 = .ok (.ireturn, 1) := by decide +kernel
theorem dX12_state_245 : decode cX12_state 245 = .ok (.aload_n 0, 1) := by decide +kernel
theorem dX12_state_246 : decode cX12_state 246 = .ok (.getfield 406, 3) := by decide +kernel
theorem dX12_state_249 : decode cX12_state 249 = .ok (.iload_n 1, 1) := by decide +kernel
theorem dX12_state_250 : decode cX12_state 250 = .ok (.iaload, 1) := by decide +kernel
theorem dX12_state_251 : decode cX12_state 251 = .ok (.ireturn, 1) := by decide +kernel
theorem dX12_state_252 : decode cX12_state 252 = .ok (.iload_n 3, 1) := by decide +kernel
theorem dX12_state_253 : decode cX12_state 253 = .ok (.ireturn, 1) := by decide +kernel
theorem dX12_state_254 : decode cX12_state 254 = .ok (.iconst (-1), 1) := by decide +kernel
theorem dX12_state_255 : decode cX12_state 255 = .ok (.ireturn, 1) := by decide +kernel
theorem dX12_block_0 : decode cX12_block 0 = .ok (.aload_n 0, 1) := by decide +kernel
theorem dX12_block_1 : decode cX12_block 1 = .ok (.iload_n 1, 1) := by decide +kernel
theorem dX12_block_2 : decode cX12_block 2 = .ok (.invokevirtual 155, 3) := by decide +kernel
theorem dX12_block_5 : decode cX12_block 5 = .ok (.ifCond .eq 18, 3) := by decide +kernel
theorem dX12_block_8 : decode cX12_block 8 = .ok (.iload_n 3, 1) := by decide +kernel
theorem dX12_block_9 : decode cX12_block 9 = .ok (.ifCond .lt 14, 3) := by decide +kernel
theorem dX12_block_12 : decode cX12_block 12 = .ok (.iload_n 2, 1) := by decide +kernel
theorem dX12_block_13 : decode cX12_block 13 = .ok (.iconst (-1), 1) := by decide +kernel
theorem dX12_block_14 : decode cX12_block 14 = .ok (.if_icmp .lt 9, 3) := by decide +kernel
theorem dX12_block_17 : decode cX12_block 17 = .ok (.iload_n 2, 1) := by decide +kernel
theorem dX12_block_18 : decode cX12_block 18 = .ok (.bipush 40, 2) := by decide +kernel
theorem dX12_block_20 : decode cX12_block 20 = .ok (.if_icmp .le 7, 3) := by decide +kernel
theorem dX12_block_23 : decode cX12_block 23 = .ok (.ldc2_w 55, 3) := by decide +kernel
theorem dX12_block_26 : decode cX12_block 26 = .ok (.lreturn, 1) := by decide +kernel
theorem dX12_block_27 : decode cX12_block 27 = .ok (.iload_n 2, 1) := by decide +kernel
theorem dX12_block_28 : decode cX12_block 28 = .ok (.ifCond .ne 11, 3) := by decide +kernel
theorem dX12_block_31 : decode cX12_block 31 = .ok (.sipush 1118, 3) := by decide +kernel
theorem dX12_block_34 : decode cX12_block 34 = .ok (.iload_n 1, 1) := by decide +kernel
theorem dX12_block_35 : decode cX12_block 35 = .ok (.iadd, 1) := by decide +kernel
theorem dX12_block_36 : decode cX12_block 36 = .ok (.goto 26, 3) := by decide +kernel
theorem dX12_block_39 : decode cX12_block 39 = .ok (.iload_n 2, 1) := by decide +kernel
theorem dX12_block_40 : decode cX12_block 40 = .ok (.iconst (-1), 1) := by decide +kernel
theorem dX12_block_41 : decode cX12_block 41 = .ok (.if_icmp .ne 11, 3) := by decide +kernel
theorem dX12_block_44 : decode cX12_block 44 = .ok (.sipush 1131, 3) := by decide +kernel
theorem dX12_block_47 : decode cX12_block 47 = .ok (.iload_n 1, 1) := by decide +kernel
theorem dX12_block_48 : decode cX12_block 48 = .ok (.iadd, 1) := by decide +kernel
theorem dX12_block_49 : decode cX12_block 49 = .ok (.goto 13, 3) := by decide +kernel
theorem dX12_block_52 : decode cX12_block 52 = .ok (.sipush 585, 3) := by decide +kernel
theorem dX12_block_55 : decode cX12_block 55 = .ok (.bipush 41, 2) := by decide +kernel
theorem dX12_block_57 : decode cX12_block 57 = .ok (.iload_n 1, 1) := by decide +kernel
theorem dX12_block_58 : decode cX12_block 58 = .ok (.imul, 1) := by decide +kernel
theorem dX12_block_59 : decode cX12_block 59 = .ok (.iadd, 1) := by decide +kernel
theorem dX12_block_60 : decode cX12_block 60 = .ok (.iload_n 2, 1) := by decide +kernel
theorem dX12_block_61 : decode cX12_block 61 = .ok (.iadd, 1) := by decide +kernel
theorem dX12_block_62 : decode cX12_block 62 = .ok (.istore 4, 2) := by decide +kernel
theorem dX12_block_64 : decode cX12_block 64 = .ok (.aload_n 0, 1) := by decide +kernel
theorem dX12_block_65 : decode cX12_block 65 = .ok (.iload 4, 2) := by decide +kernel
theorem dX12_block_67 : decode cX12_block 67 = .ok (.invokevirtual 63, 3) := by decide +kernel
theorem dX12_block_70 : decode cX12_block 70 = .ok (.ifCond .ne 7, 3) := by decide +kernel
theorem dX12_block_73 : decode cX12_block 73 = .ok (.ldc2_w 55, 3) := by decide +kernel
theorem dX12_block_76 : decode cX12_block 76 = .ok (.lreturn, 1) := by decide +kernel
theorem dX12_block_77 : decode cX12_block 77 = .ok (.lconst 0, 1) := by decide +kernel
theorem dX12_block_78 : decode cX12_block 78 = .ok (.lstore 5, 2) := by decide +kernel
theorem dX12_block_80 : decode cX12_block 80 = .ok (.iconst 0, 1) := by decide +kernel
theorem dX12_block_81 : decode cX12_block 81 = .ok (.istore 7, 2) := by decide +kernel
theorem dX12_block_83 : decode cX12_block 83 = .ok (.iload 7, 2) := by decide +kernel
theorem dX12_block_85 : decode cX12_block 85 = .ok (.bipush 8, 2) := by decide +kernel
theorem dX12_block_87 : decode cX12_block 87 = .ok (.if_icmp .ge 57, 3) := by decide +kernel
theorem dX12_block_90 : decode cX12_block 90 = .ok (.lload 5, 2) := by decide +kernel
theorem dX12_block_92 : decode cX12_block 92 = .ok (.bipush 8, 2) := by decide +kernel
theorem dX12_block_94 : decode cX12_block 94 = .ok (.lshl, 1) := by decide +kernel
theorem dX12_block_95 : decode cX12_block 95 = .ok (.iload_n 3, 1) := by decide +kernel
theorem dX12_block_96 : decode cX12_block 96 = .ok (.aload_n 0, 1) := by decide +kernel
theorem dX12_block_97 : decode cX12_block 97 = .ok (.getfield 57, 3) := by decide +kernel
theorem dX12_block_100 : decode cX12_block 100 = .ok (.iload 4, 2) := by decide +kernel
theorem dX12_block_102 : decode cX12_block 102 = .ok (.iaload, 1) := by decide +kernel
theorem dX12_block_103 : decode cX12_block 103 = .ok (.if_icmp .ge 30, 3) := by decide +kernel
theorem dX12_block_106 : decode cX12_block 106 = .ok (.iload 7, 2) := by decide +kernel
theorem dX12_block_108 : decode cX12_block 108 = .ok (.aload_n 0, 1) := by decide +kernel
theorem dX12_block_109 : decode cX12_block 109 = .ok (.getfield 57, 3) := by decide +kernel
theorem dX12_block_112 : decode cX12_block 112 = .ok (.iload 4, 2) := by decide +kernel
theorem dX12_block_114 : decode cX12_block 114 = .ok (.iaload, 1) := by decide +kernel
theorem dX12_block_115 : decode cX12_block 115 = .ok (.iload_n 3, 1) := by decide +kernel
theorem dX12_block_116 : decode cX12_block 116 = .ok (.isub, 1) := by decide +kernel
theorem dX12_block_117 : decode cX12_block 117 = .ok (.if_icmp .ge 16, 3) := by decide +kernel
theorem dX12_block_120 : decode cX12_block 120 = .ok (.aload_n 0, 1) := by decide +kernel
theorem dX12_block_121 : decode cX12_block 121 = .ok (.iload 4, 2) := by decide +kernel
theorem dX12_block_123 : decode cX12_block 123 = .ok (.iload_n 3, 1) := by decide +kernel
theorem dX12_block_124 : decode cX12_block 124 = .ok (.iload 7, 2) := by decide +kernel
theorem dX12_block_126 : decode cX12_block 126 = .ok (.iadd, 1) := by decide +kernel
theorem dX12_block_127 : decode cX12_block 127 = .ok (.invokevirtual 67, 3) := by decide +kernel
theorem dX12_block_130 : decode cX12_block 130 = .ok (.goto 4, 3) := by decide +kernel
theorem dX12_block_133 : decode cX12_block 133 = .ok (.iconst 0, 1) := by decide +kernel
theorem dX12_block_134 : decode cX12_block 134 = .ok (.i2l, 1) := by decide +kernel
theorem dX12_block_135 : decode cX12_block 135 = .ok (.lor, 1) := by decide +kernel
theorem dX12_block_136 : decode cX12_block 136 = .ok (.lstore 5, 2) := by decide +kernel
theorem dX12_block_138 : decode cX12_block 138 = .ok (.iinc 7 1, 3) := by decide +kernel
theorem dX12_block_141 : decode cX12_block 141 = .ok (.goto (-58), 3) := by decide +kernel
theorem dX12_block_144 : decode cX12_block 144 = .ok (.lload 5, 2) := by decide +kernel
theorem dX12_block_146 : decode cX12_block 146 = .ok (.lreturn, 1) := by decide +kernel
theorem dX12_paid_0 : decode cX12_paid 0 = .ok (.aload_n 0, 1) := by decide +kernel
theorem dX12_paid_1 : decode cX12_paid 1 = .ok (.iload_n 1, 1) := by decide +kernel
theorem dX12_paid_2 : decode cX12_paid 2 = .ok (.invokevirtual 155, 3) := by decide +kernel
theorem dX12_paid_5 : decode cX12_paid 5 = .ok (.ifCond .eq 15, 3) := by decide +kernel
theorem dX12_paid_8 : decode cX12_paid 8 = .ok (.iload_n 2, 1) := by decide +kernel
theorem dX12_paid_9 : decode cX12_paid 9 = .ok (.ifCond .lt 11, 3) := by decide +kernel
theorem dX12_paid_12 : decode cX12_paid 12 = .ok (.iload_n 2, 1) := by decide +kernel
theorem dX12_paid_13 : decode cX12_paid 13 = .ok (.aload_n 0, 1) := by decide +kernel
theorem dX12_paid_14 : decode cX12_paid 14 = .ok (.getfield 219, 3) := by decide +kernel
theorem dX12_paid_17 : decode cX12_paid 17 = .ok (.if_icmp .lt 5, 3) := by decide +kernel
theorem dX12_paid_20 : decode cX12_paid 20 = .ok (.iconst (-1), 1) := by decide +kernel
theorem dX12_paid_21 : decode cX12_paid 21 = .ok (.ireturn, 1) := by decide +kernel
theorem dX12_paid_22 : decode cX12_paid 22 = .ok (.aload_n 0, 1) := by decide +kernel
theorem dX12_paid_23 : decode cX12_paid 23 = .ok (.iload_n 1, 1) := by decide +kernel
theorem dX12_paid_24 : decode cX12_paid 24 = .ok (.invokevirtual 161, 3) := by decide +kernel
theorem dX12_paid_27 : decode cX12_paid 27 = .ok (.aload_n 0, 1) := by decide +kernel
theorem dX12_paid_28 : decode cX12_paid 28 = .ok (.getfield 436, 3) := by decide +kernel
theorem dX12_paid_31 : decode cX12_paid 31 = .ok (.iload_n 2, 1) := by decide +kernel
theorem dX12_paid_32 : decode cX12_paid 32 = .ok (.baload, 1) := by decide +kernel
theorem dX12_paid_33 : decode cX12_paid 33 = .ok (.ifCond .eq 7, 3) := by decide +kernel
theorem dX12_paid_36 : decode cX12_paid 36 = .ok (.iconst 1, 1) := by decide +kernel
theorem dX12_paid_37 : decode cX12_paid 37 = .ok (.goto 4, 3) := by decide +kernel
theorem dX12_paid_40 : decode cX12_paid 40 = .ok (.iconst 0, 1) := by decide +kernel
theorem dX12_paid_41 : decode cX12_paid 41 = .ok (.aload_n 0, 1) := by decide +kernel
theorem dX12_paid_42 : decode cX12_paid 42 = .ok (.getfield 342, 3) := by decide +kernel
theorem dX12_paid_45 : decode cX12_paid 45 = .ok (.bipush 13, 2) := by decide +kernel
theorem dX12_paid_47 : decode cX12_paid 47 = .ok (.iload_n 1, 1) := by decide +kernel
theorem dX12_paid_48 : decode cX12_paid 48 = .ok (.imul, 1) := by decide +kernel
theorem dX12_paid_49 : decode cX12_paid 49 = .ok (.iload_n 2, 1) := by decide +kernel
theorem dX12_paid_50 : decode cX12_paid 50 = .ok (.iadd, 1) := by decide +kernel
theorem dX12_paid_51 : decode cX12_paid 51 = .ok (.iaload, 1) := by decide +kernel
theorem dX12_paid_52 : decode cX12_paid 52 = .ok (.ifCond .le 7, 3) := by decide +kernel
theorem dX12_paid_55 : decode cX12_paid 55 = .ok (.iconst 2, 1) := by decide +kernel
theorem dX12_paid_56 : decode cX12_paid 56 = .ok (.goto 4, 3) := by decide +kernel
theorem dX12_paid_59 : decode cX12_paid 59 = .ok (.iconst 0, 1) := by decide +kernel
theorem dX12_paid_60 : decode cX12_paid 60 = .ok (.iadd, 1) := by decide +kernel
theorem dX12_paid_61 : decode cX12_paid 61 = .ok (.ireturn, 1) := by decide +kernel
theorem dX12_path__0 : decode cX12_path_ 0 = .ok (.aload_n 0, 1) := by decide +kernel
theorem dX12_path__1 : decode cX12_path_ 1 = .ok (.iload_n 1, 1) := by decide +kernel
theorem dX12_path__2 : decode cX12_path_ 2 = .ok (.invokevirtual 155, 3) := by decide +kernel
theorem dX12_path__5 : decode cX12_path_ 5 = .ok (.ifCond .eq 36, 3) := by decide +kernel
theorem dX12_path__8 : decode cX12_path_ 8 = .ok (.iload 4, 2) := by decide +kernel
theorem dX12_path__10 : decode cX12_path_ 10 = .ok (.ifCond .lt 31, 3) := by decide +kernel
theorem dX12_path__13 : decode cX12_path_ 13 = .ok (.iload_n 2, 1) := by decide +kernel
theorem dX12_path__14 : decode cX12_path_ 14 = .ok (.iconst 1, 1) := by decide +kernel
theorem dX12_path__15 : decode cX12_path_ 15 = .ok (.if_icmp .lt 26, 3) := by decide +kernel
theorem dX12_path__18 : decode cX12_path_ 18 = .ok (.iload_n 2, 1) := by decide +kernel
theorem dX12_path__19 : decode cX12_path_ 19 = .ok (.bipush 40, 2) := by decide +kernel
theorem dX12_path__21 : decode cX12_path_ 21 = .ok (.if_icmp .gt 20, 3) := by decide +kernel
theorem dX12_path__24 : decode cX12_path_ 24 = .ok (.aload_n 0, 1) := by decide +kernel
theorem dX12_path__25 : decode cX12_path_ 25 = .ok (.sipush 585, 3) := by decide +kernel
theorem dX12_path__28 : decode cX12_path_ 28 = .ok (.bipush 41, 2) := by decide +kernel
theorem dX12_path__30 : decode cX12_path_ 30 = .ok (.iload_n 1, 1) := by decide +kernel
theorem dX12_path__31 : decode cX12_path_ 31 = .ok (.imul, 1) := by decide +kernel
theorem dX12_path__32 : decode cX12_path_ 32 = .ok (.iadd, 1) := by decide +kernel
theorem dX12_path__33 : decode cX12_path_ 33 = .ok (.iload_n 2, 1) := by decide +kernel
theorem dX12_path__34 : decode cX12_path_ 34 = .ok (.iadd, 1) := by decide +kernel
theorem dX12_path__35 : decode cX12_path_ 35 = .ok (.invokevirtual 63, 3) := by decide +kernel
theorem dX12_path__38 : decode cX12_path_ 38 = .ok (.ifCond .ne 7, 3) := by decide +kernel
theorem dX12_path__41 : decode cX12_path_ 41 = .ok (.ldc2_w 55, 3) := by decide +kernel
theorem dX12_path__44 : decode cX12_path_ 44 = .ok (.lreturn, 1) := by decide +kernel
theorem dX12_path__45 : decode cX12_path_ 45 = .ok (.aload_n 0, 1) := by decide +kernel
theorem dX12_path__46 : decode cX12_path_ 46 = .ok (.sipush 585, 3) := by decide +kernel
theorem dX12_path__49 : decode cX12_path_ 49 = .ok (.bipush 41, 2) := by decide +kernel
theorem dX12_path__51 : decode cX12_path_ 51 = .ok (.iload_n 1, 1) := by decide +kernel
theorem dX12_path__52 : decode cX12_path_ 52 = .ok (.imul, 1) := by decide +kernel
theorem dX12_path__53 : decode cX12_path_ 53 = .ok (.iadd, 1) := by decide +kernel
theorem dX12_path__54 : decode cX12_path_ 54 = .ok (.iload_n 2, 1) := by decide +kernel
theorem dX12_path__55 : decode cX12_path_ 55 = .ok (.iadd, 1) := by decide +kernel
theorem dX12_path__56 : decode cX12_path_ 56 = .ok (.invokevirtual 722, 3) := by decide +kernel
theorem dX12_path__59 : decode cX12_path_ 59 = .ok (.iload_n 3, 1) := by decide +kernel
theorem dX12_path__60 : decode cX12_path_ 60 = .ok (.ifCond .lt 11, 3) := by decide +kernel
theorem dX12_path__63 : decode cX12_path_ 63 = .ok (.iload_n 3, 1) := by decide +kernel
theorem dX12_path__64 : decode cX12_path_ 64 = .ok (.aload_n 0, 1) := by decide +kernel
theorem dX12_path__65 : decode cX12_path_ 65 = .ok (.getfield 78, 3) := by decide +kernel
theorem dX12_path__68 : decode cX12_path_ 68 = .ok (.if_icmp .lt 7, 3) := by decide +kernel
theorem dX12_path__71 : decode cX12_path_ 71 = .ok (.ldc2_w 55, 3) := by decide +kernel
theorem dX12_path__74 : decode cX12_path_ 74 = .ok (.lreturn, 1) := by decide +kernel
theorem dX12_path__75 : decode cX12_path_ 75 = .ok (.aload_n 0, 1) := by decide +kernel
theorem dX12_path__76 : decode cX12_path_ 76 = .ok (.iconst 0, 1) := by decide +kernel
theorem dX12_path__77 : decode cX12_path_ 77 = .ok (.putfield 106, 3) := by decide +kernel
theorem dX12_path__80 : decode cX12_path_ 80 = .ok (.aload_n 0, 1) := by decide +kernel
theorem dX12_path__81 : decode cX12_path_ 81 = .ok (.iload_n 3, 1) := by decide +kernel
theorem dX12_path__82 : decode cX12_path_ 82 = .ok (.invokevirtual 725, 3) := by decide +kernel
theorem dX12_path__85 : decode cX12_path_ 85 = .ok (.aload_n 0, 1) := by decide +kernel
theorem dX12_path__86 : decode cX12_path_ 86 = .ok (.iload 4, 2) := by decide +kernel
theorem dX12_path__88 : decode cX12_path_ 88 = .ok (.invokevirtual 728, 3) := by decide +kernel
theorem dX12_path__91 : decode cX12_path_ 91 = .ok (.lreturn, 1) := by decide +kernel
theorem dX12_account_0 : decode cX12_account 0 = .ok (.aload_n 0, 1) := by decide +kernel
theorem dX12_account_1 : decode cX12_account 1 = .ok (.iload_n 1, 1) := by decide +kernel
theorem dX12_account_2 : decode cX12_account 2 = .ok (.invokevirtual 155, 3) := by decide +kernel
theorem dX12_account_5 : decode cX12_account 5 = .ok (.ifCond .eq 17, 3) := by decide +kernel
theorem dX12_account_8 : decode cX12_account 8 = .ok (.iload_n 2, 1) := by decide +kernel
theorem dX12_account_9 : decode cX12_account 9 = .ok (.ifCond .lt 13, 3) := by decide +kernel
theorem dX12_account_12 : decode cX12_account 12 = .ok (.iload_n 2, 1) := by decide +kernel
theorem dX12_account_13 : decode cX12_account 13 = .ok (.bipush 15, 2) := by decide +kernel
theorem dX12_account_15 : decode cX12_account 15 = .ok (.if_icmp .gt 7, 3) := by decide +kernel
theorem dX12_account_18 : decode cX12_account 18 = .ok (.iload_n 3, 1) := by decide +kernel
theorem dX12_account_19 : decode cX12_account 19 = .ok (.ifCond .ge 7, 3) := by decide +kernel
theorem dX12_account_22 : decode cX12_account 22 = .ok (.ldc2_w 55, 3) := by decide +kernel
theorem dX12_account_25 : decode cX12_account 25 = .ok (.lreturn, 1) := by decide +kernel
theorem dX12_account_26 : decode cX12_account 26 = .ok (.aload_n 0, 1) := by decide +kernel
theorem dX12_account_27 : decode cX12_account 27 = .ok (.iload_n 1, 1) := by decide +kernel
theorem dX12_account_28 : decode cX12_account 28 = .ok (.invokevirtual 161, 3) := by decide +kernel
theorem dX12_account_31 : decode cX12_account 31 = .ok (.aload_n 0, 1) := by decide +kernel
theorem dX12_account_32 : decode cX12_account 32 = .ok (.invokevirtual 557, 3) := by decide +kernel
theorem dX12_account_35 : decode cX12_account 35 = .ok (.aload_n 0, 1) := by decide +kernel
theorem dX12_account_36 : decode cX12_account 36 = .ok (.iconst 0, 1) := by decide +kernel
theorem dX12_account_37 : decode cX12_account 37 = .ok (.putfield 106, 3) := by decide +kernel
theorem dX12_account_40 : decode cX12_account 40 = .ok (.iconst 0, 1) := by decide +kernel
theorem dX12_account_41 : decode cX12_account 41 = .ok (.istore 4, 2) := by decide +kernel
theorem dX12_account_43 : decode cX12_account 43 = .ok (.iload 4, 2) := by decide +kernel
theorem dX12_account_45 : decode cX12_account 45 = .ok (.bipush 6, 2) := by decide +kernel
theorem dX12_account_47 : decode cX12_account 47 = .ok (.if_icmp .ge 25, 3) := by decide +kernel
theorem dX12_account_50 : decode cX12_account 50 = .ok (.aload_n 0, 1) := by decide +kernel
theorem dX12_account_51 : decode cX12_account 51 = .ok (.aload_n 0, 1) := by decide +kernel
theorem dX12_account_52 : decode cX12_account 52 = .ok (.getfield 84, 3) := by decide +kernel
theorem dX12_account_55 : decode cX12_account 55 = .ok (.bipush 6, 2) := by decide +kernel
theorem dX12_account_57 : decode cX12_account 57 = .ok (.iload_n 2, 1) := by decide +kernel
theorem dX12_account_58 : decode cX12_account 58 = .ok (.imul, 1) := by decide +kernel
theorem dX12_account_59 : decode cX12_account 59 = .ok (.iload 4, 2) := by decide +kernel
theorem dX12_account_61 : decode cX12_account 61 = .ok (.iadd, 1) := by decide +kernel
theorem dX12_account_62 : decode cX12_account 62 = .ok (.iaload, 1) := by decide +kernel
theorem dX12_account_63 : decode cX12_account 63 = .ok (.invokevirtual 109, 3) := by decide +kernel
theorem dX12_account_66 : decode cX12_account 66 = .ok (.iinc 4 1, 3) := by decide +kernel
theorem dX12_account_69 : decode cX12_account 69 = .ok (.goto (-26), 3) := by decide +kernel
theorem dX12_account_72 : decode cX12_account 72 = .ok (.aload_n 0, 1) := by decide +kernel
theorem dX12_account_73 : decode cX12_account 73 = .ok (.iload_n 2, 1) := by decide +kernel
theorem dX12_account_74 : decode cX12_account 74 = .ok (.invokevirtual 725, 3) := by decide +kernel
theorem dX12_account_77 : decode cX12_account 77 = .ok (.aload_n 0, 1) := by decide +kernel
theorem dX12_account_78 : decode cX12_account 78 = .ok (.iload_n 3, 1) := by decide +kernel
theorem dX12_account_79 : decode cX12_account 79 = .ok (.invokevirtual 728, 3) := by decide +kernel
theorem dX12_account_82 : decode cX12_account 82 = .ok (.lreturn, 1) := by decide +kernel
theorem dX12_sector_0 : decode cX12_sector 0 = .ok (.aload_n 0, 1) := by decide +kernel
theorem dX12_sector_1 : decode cX12_sector 1 = .ok (.iload_n 1, 1) := by decide +kernel
theorem dX12_sector_2 : decode cX12_sector 2 = .ok (.invokevirtual 155, 3) := by decide +kernel
theorem dX12_sector_5 : decode cX12_sector 5 = .ok (.ifCond .eq 33, 3) := by decide +kernel
theorem dX12_sector_8 : decode cX12_sector 8 = .ok (.iload_n 2, 1) := by decide +kernel
theorem dX12_sector_9 : decode cX12_sector 9 = .ok (.ifCond .lt 29, 3) := by decide +kernel
theorem dX12_sector_12 : decode cX12_sector 12 = .ok (.iload_n 2, 1) := by decide +kernel
theorem dX12_sector_13 : decode cX12_sector 13 = .ok (.sipush 284, 3) := by decide +kernel
theorem dX12_sector_16 : decode cX12_sector 16 = .ok (.if_icmp .ge 22, 3) := by decide +kernel
theorem dX12_sector_19 : decode cX12_sector 19 = .ok (.iload_n 3, 1) := by decide +kernel
theorem dX12_sector_20 : decode cX12_sector 20 = .ok (.ifCond .lt 18, 3) := by decide +kernel
theorem dX12_sector_23 : decode cX12_sector 23 = .ok (.aload_n 0, 1) := by decide +kernel
theorem dX12_sector_24 : decode cX12_sector 24 = .ok (.getfield 397, 3) := by decide +kernel
theorem dX12_sector_27 : decode cX12_sector 27 = .ok (.sipush 284, 3) := by decide +kernel
theorem dX12_sector_30 : decode cX12_sector 30 = .ok (.iload_n 1, 1) := by decide +kernel
theorem dX12_sector_31 : decode cX12_sector 31 = .ok (.imul, 1) := by decide +kernel
theorem dX12_sector_32 : decode cX12_sector 32 = .ok (.iload_n 2, 1) := by decide +kernel
theorem dX12_sector_33 : decode cX12_sector 33 = .ok (.iadd, 1) := by decide +kernel
theorem dX12_sector_34 : decode cX12_sector 34 = .ok (.baload, 1) := by decide +kernel
theorem dX12_sector_35 : decode cX12_sector 35 = .ok (.ifCond .ne 7, 3) := by decide +kernel
theorem dX12_sector_38 : decode cX12_sector 38 = .ok (.ldc2_w 55, 3) := by decide +kernel
theorem dX12_sector_41 : decode cX12_sector 41 = .ok (.lreturn, 1) := by decide +kernel
theorem dX12_sector_42 : decode cX12_sector 42 = .ok (.lconst 0, 1) := by decide +kernel
theorem dX12_sector_43 : decode cX12_sector 43 = .ok (.lstore 4, 2) := by decide +kernel
theorem dX12_sector_45 : decode cX12_sector 45 = .ok (.iconst 0, 1) := by decide +kernel
theorem dX12_sector_46 : decode cX12_sector 46 = .ok (.istore 6, 2) := by decide +kernel
theorem dX12_sector_48 : decode cX12_sector 48 = .ok (.iload 6, 2) := by decide +kernel
theorem dX12_sector_50 : decode cX12_sector 50 = .ok (.bipush 8, 2) := by decide +kernel
theorem dX12_sector_52 : decode cX12_sector 52 = .ok (.if_icmp .ge 72, 3) := by decide +kernel
theorem dX12_sector_55 : decode cX12_sector 55 = .ok (.lload 4, 2) := by decide +kernel
theorem dX12_sector_57 : decode cX12_sector 57 = .ok (.bipush 8, 2) := by decide +kernel
theorem dX12_sector_59 : decode cX12_sector 59 = .ok (.lshl, 1) := by decide +kernel
theorem dX12_sector_60 : decode cX12_sector 60 = .ok (.iload_n 3, 1) := by decide +kernel
theorem dX12_sector_61 : decode cX12_sector 61 = .ok (.sipush 512, 3) := by decide +kernel
theorem dX12_sector_64 : decode cX12_sector 64 = .ok (.if_icmp .ge 49, 3) := by decide +kernel
theorem dX12_sector_67 : decode cX12_sector 67 = .ok (.iload 6, 2) := by decide +kernel
theorem dX12_sector_69 : decode cX12_sector 69 = .ok (.sipush 512, 3) := by decide +kernel
theorem dX12_sector_72 : decode cX12_sector 72 = .ok (.iload_n 3, 1) := by decide +kernel
theorem dX12_sector_73 : decode cX12_sector 73 = .ok (.isub, 1) := by decide +kernel
theorem dX12_sector_74 : decode cX12_sector 74 = .ok (.if_icmp .ge 39, 3) := by decide +kernel
theorem dX12_sector_77 : decode cX12_sector 77 = .ok (.aload_n 0, 1) := by decide +kernel
theorem dX12_sector_78 : decode cX12_sector 78 = .ok (.getfield 394, 3) := by decide +kernel
theorem dX12_sector_81 : decode cX12_sector 81 = .ok (.bipush 64, 2) := by decide +kernel
theorem dX12_sector_83 : decode cX12_sector 83 = .ok (.sipush 284, 3) := by decide +kernel
theorem dX12_sector_86 : decode cX12_sector 86 = .ok (.iload_n 1, 1) := by decide +kernel
theorem dX12_sector_87 : decode cX12_sector 87 = .ok (.imul, 1) := by decide +kernel
theorem dX12_sector_88 : decode cX12_sector 88 = .ok (.iload_n 2, 1) := by decide +kernel
theorem dX12_sector_89 : decode cX12_sector 89 = .ok (.iadd, 1) := by decide +kernel
theorem dX12_sector_90 : decode cX12_sector 90 = .ok (.imul, 1) := by decide +kernel
theorem dX12_sector_91 : decode cX12_sector 91 = .ok (.iload_n 3, 1) := by decide +kernel
theorem dX12_sector_92 : decode cX12_sector 92 = .ok (.iload 6, 2) := by decide +kernel
theorem dX12_sector_94 : decode cX12_sector 94 = .ok (.iadd, 1) := by decide +kernel
theorem dX12_sector_95 : decode cX12_sector 95 = .ok (.bipush 8, 2) := by decide +kernel
theorem dX12_sector_97 : decode cX12_sector 97 = .ok (.idiv, 1) := by decide +kernel
theorem dX12_sector_98 : decode cX12_sector 98 = .ok (.iadd, 1) := by decide +kernel
theorem dX12_sector_99 : decode cX12_sector 99 = .ok (.laload, 1) := by decide +kernel
theorem dX12_sector_100 : decode cX12_sector 100 = .ok (.iload_n 3, 1) := by decide +kernel
theorem dX12_sector_101 : decode cX12_sector 101 = .ok (.iload 6, 2) := by decide +kernel
theorem dX12_sector_103 : decode cX12_sector 103 = .ok (.iadd, 1) := by decide +kernel
theorem dX12_sector_104 : decode cX12_sector 104 = .ok (.bipush 8, 2) := by decide +kernel
theorem dX12_sector_106 : decode cX12_sector 106 = .ok (.irem, 1) := by decide +kernel
theorem dX12_sector_107 : decode cX12_sector 107 = .ok (.invokestatic 49, 3) := by decide +kernel
theorem dX12_sector_110 : decode cX12_sector 110 = .ok (.goto 4, 3) := by decide +kernel
theorem dX12_sector_113 : decode cX12_sector 113 = .ok (.iconst 0, 1) := by decide +kernel
theorem dX12_sector_114 : decode cX12_sector 114 = .ok (.i2l, 1) := by decide +kernel
theorem dX12_sector_115 : decode cX12_sector 115 = .ok (.lor, 1) := by decide +kernel
theorem dX12_sector_116 : decode cX12_sector 116 = .ok (.lstore 4, 2) := by decide +kernel
theorem dX12_sector_118 : decode cX12_sector 118 = .ok (.iinc 6 1, 3) := by decide +kernel
theorem dX12_sector_121 : decode cX12_sector 121 = .ok (.goto (-73), 3) := by decide +kernel
theorem dX12_sector_124 : decode cX12_sector 124 = .ok (.lload 4, 2) := by decide +kernel
theorem dX12_sector_126 : decode cX12_sector 126 = .ok (.lreturn, 1) := by decide +kernel
theorem dX12_balance_0 : decode cX12_balance 0 = .ok (.aload_n 0, 1) := by decide +kernel
theorem dX12_balance_1 : decode cX12_balance 1 = .ok (.iload_n 1, 1) := by decide +kernel
theorem dX12_balance_2 : decode cX12_balance 2 = .ok (.invokevirtual 155, 3) := by decide +kernel
theorem dX12_balance_5 : decode cX12_balance 5 = .ok (.ifCond .eq 13, 3) := by decide +kernel
theorem dX12_balance_8 : decode cX12_balance 8 = .ok (.iload_n 2, 1) := by decide +kernel
theorem dX12_balance_9 : decode cX12_balance 9 = .ok (.ifCond .lt 9, 3) := by decide +kernel
theorem dX12_balance_12 : decode cX12_balance 12 = .ok (.iload_n 2, 1) := by decide +kernel
theorem dX12_balance_13 : decode cX12_balance 13 = .ok (.bipush 15, 2) := by decide +kernel
theorem dX12_balance_15 : decode cX12_balance 15 = .ok (.if_icmp .le 5, 3) := by decide +kernel
theorem dX12_balance_18 : decode cX12_balance 18 = .ok (.iconst (-1), 1) := by decide +kernel
theorem dX12_balance_19 : decode cX12_balance 19 = .ok (.ireturn, 1) := by decide +kernel
theorem dX12_balance_20 : decode cX12_balance 20 = .ok (.aload_n 0, 1) := by decide +kernel
theorem dX12_balance_21 : decode cX12_balance 21 = .ok (.iload_n 1, 1) := by decide +kernel
theorem dX12_balance_22 : decode cX12_balance 22 = .ok (.invokevirtual 161, 3) := by decide +kernel
theorem dX12_balance_25 : decode cX12_balance 25 = .ok (.aload_n 0, 1) := by decide +kernel
theorem dX12_balance_26 : decode cX12_balance 26 = .ok (.getfield 430, 3) := by decide +kernel
theorem dX12_balance_29 : decode cX12_balance 29 = .ok (.iload_n 2, 1) := by decide +kernel
theorem dX12_balance_30 : decode cX12_balance 30 = .ok (.iaload, 1) := by decide +kernel
theorem dX12_balance_31 : decode cX12_balance 31 = .ok (.ireturn, 1) := by decide +kernel
theorem dX12_count_0 : decode cX12_count 0 = .ok (.iload_n 1, 1) := by decide +kernel
theorem dX12_count_1 : decode cX12_count 1 = .ok (.tableswitch 78 0 6 #[43, 48, 53, 58, 63, 68, 73], 43) := by decide +kernel
theorem dX12_count_44 : decode cX12_count 44 = .ok (.aload_n 0, 1) := by decide +kernel
theorem dX12_count_45 : decode cX12_count 45 = .ok (.getfield 182, 3) := by decide +kernel
theorem dX12_count_48 : decode cX12_count 48 = .ok (.ireturn, 1) := by decide +kernel
theorem dX12_count_49 : decode cX12_count 49 = .ok (.aload_n 0, 1) := by decide +kernel
theorem dX12_count_50 : decode cX12_count 50 = .ok (.getfield 219, 3) := by decide +kernel
theorem dX12_count_53 : decode cX12_count 53 = .ok (.ireturn, 1) := by decide +kernel
theorem dX12_count_54 : decode cX12_count 54 = .ok (.aload_n 0, 1) := by decide +kernel
theorem dX12_count_55 : decode cX12_count 55 = .ok (.getfield 216, 3) := by decide +kernel
theorem dX12_count_58 : decode cX12_count 58 = .ok (.ireturn, 1) := by decide +kernel
theorem dX12_count_59 : decode cX12_count 59 = .ok (.aload_n 0, 1) := by decide +kernel
theorem dX12_count_60 : decode cX12_count 60 = .ok (.getfield 185, 3) := by decide +kernel
theorem dX12_count_63 : decode cX12_count 63 = .ok (.ireturn, 1) := by decide +kernel
theorem dX12_count_64 : decode cX12_count 64 = .ok (.aload_n 0, 1) := by decide +kernel
theorem dX12_count_65 : decode cX12_count 65 = .ok (.getfield 188, 3) := by decide +kernel
theorem dX12_count_68 : decode cX12_count 68 = .ok (.ireturn, 1) := by decide +kernel
theorem dX12_count_69 : decode cX12_count 69 = .ok (.aload_n 0, 1) := by decide +kernel
theorem dX12_count_70 : decode cX12_count 70 = .ok (.getfield 133, 3) := by decide +kernel
theorem dX12_count_73 : decode cX12_count 73 = .ok (.ireturn, 1) := by decide +kernel
theorem dX12_count_74 : decode cX12_count 74 = .ok (.aload_n 0, 1) := by decide +kernel
theorem dX12_count_75 : decode cX12_count 75 = .ok (.getfield 445, 3) := by decide +kernel
theorem dX12_count_78 : decode cX12_count 78 = .ok (.ireturn, 1) := by decide +kernel
theorem dX12_count_79 : decode cX12_count 79 = .ok (.iconst (-1), 1) := by decide +kernel
theorem dX12_count_80 : decode cX12_count 80 = .ok (.ireturn, 1) := by decide +kernel
