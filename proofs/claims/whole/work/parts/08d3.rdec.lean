theorem dX12_readSnapshot_80 : decode cX12_readSnapshot 80 = .ok (.iconst 5, 1) := by decide +kernel
theorem dX12_readSnapshot_81 : decode cX12_readSnapshot 81 = .ok (.iload_n 2, 1) := by decide +kernel
theorem dX12_readSnapshot_82 : decode cX12_readSnapshot 82 = .ok (.imul, 1) := by decide +kernel
theorem dX12_readSnapshot_83 : decode cX12_readSnapshot 83 = .ok (.iadd, 1) := by decide +kernel
theorem dX12_readSnapshot_84 : decode cX12_readSnapshot 84 = .ok (.iaload, 1) := by decide +kernel
theorem dX12_readSnapshot_85 : decode cX12_readSnapshot 85 = .ok (.iconst 1, 1) := by decide +kernel
theorem dX12_readSnapshot_86 : decode cX12_readSnapshot 86 = .ok (.if_icmp .gt 7, 3) := by decide +kernel
theorem dX12_readSnapshot_89 : decode cX12_readSnapshot 89 = .ok (.iconst 1, 1) := by decide +kernel
theorem dX12_readSnapshot_90 : decode cX12_readSnapshot 90 = .ok (.goto 4, 3) := by decide +kernel
theorem dX12_readSnapshot_93 : decode cX12_readSnapshot 93 = .ok (.iconst 0, 1) := by decide +kernel
theorem dX12_readSnapshot_94 : decode cX12_readSnapshot 94 = .ok (.istore_n 1, 1) := by decide +kernel
theorem dX12_readSnapshot_95 : decode cX12_readSnapshot 95 = .ok (.iinc 2 1, 3) := by decide +kernel
theorem dX12_readSnapshot_98 : decode cX12_readSnapshot 98 = .ok (.goto (-66), 3) := by decide +kernel
theorem dX12_readSnapshot_101 : decode cX12_readSnapshot 101 = .ok (.iload_n 1, 1) := by decide +kernel
theorem dX12_readSnapshot_102 : decode cX12_readSnapshot 102 = .ok (.ireturn, 1) := by decide +kernel
theorem dX12_read_0 : decode cX12_read 0 = .ok (.aload_n 0, 1) := by decide +kernel
theorem dX12_read_1 : decode cX12_read 1 = .ok (.aload_n 0, 1) := by decide +kernel
theorem dX12_read_2 : decode cX12_read 2 = .ok (.getfield 204, 3) := by decide +kernel
theorem dX12_read_5 : decode cX12_read 5 = .ok (.iconst 0, 1) := by decide +kernel
theorem dX12_read_6 : decode cX12_read 6 = .ok (.iaload, 1) := by decide +kernel
theorem dX12_read_7 : decode cX12_read 7 = .ok (.putfield 282, 3) := by decide +kernel
theorem dX12_read_10 : decode cX12_read 10 = .ok (.aload_n 0, 1) := by decide +kernel
theorem dX12_read_11 : decode cX12_read 11 = .ok (.iconst (-1), 1) := by decide +kernel
theorem dX12_read_12 : decode cX12_read 12 = .ok (.putfield 260, 3) := by decide +kernel
theorem dX12_read_15 : decode cX12_read 15 = .ok (.aload_n 0, 1) := by decide +kernel
theorem dX12_read_16 : decode cX12_read 16 = .ok (.getfield 282, 3) := by decide +kernel
theorem dX12_read_19 : decode cX12_read 19 = .ok (.tableswitch 186 0 7 #[45, 68, 73, 73, 78, 101, 131, 181], 45) := by decide +kernel
theorem dX12_read_64 : decode cX12_read 64 = .ok (.aload_n 0, 1) := by decide +kernel
theorem dX12_read_65 : decode cX12_read 65 = .ok (.getfield 201, 3) := by decide +kernel
theorem dX12_read_68 : decode cX12_read 68 = .ok (.bipush 8, 2) := by decide +kernel
theorem dX12_read_70 : decode cX12_read 70 = .ok (.if_icmp .ne 15, 3) := by decide +kernel
theorem dX12_read_73 : decode cX12_read 73 = .ok (.aload_n 0, 1) := by decide +kernel
theorem dX12_read_74 : decode cX12_read 74 = .ok (.iconst 1, 1) := by decide +kernel
theorem dX12_read_75 : decode cX12_read 75 = .ok (.invokevirtual 247, 3) := by decide +kernel
theorem dX12_read_78 : decode cX12_read 78 = .ok (.ifCond .eq 7, 3) := by decide +kernel
theorem dX12_read_81 : decode cX12_read 81 = .ok (.iconst 1, 1) := by decide +kernel
theorem dX12_read_82 : decode cX12_read 82 = .ok (.goto 4, 3) := by decide +kernel
theorem dX12_read_85 : decode cX12_read 85 = .ok (.iconst 0, 1) := by decide +kernel
theorem dX12_read_86 : decode cX12_read 86 = .ok (.ireturn, 1) := by decide +kernel
theorem dX12_read_87 : decode cX12_read 87 = .ok (.aload_n 0, 1) := by decide +kernel
theorem dX12_read_88 : decode cX12_read 88 = .ok (.invokevirtual 285, 3) := by decide +kernel
theorem dX12_read_91 : decode cX12_read 91 = .ok (.ireturn, 1) := by decide +kernel
theorem dX12_read_92 : decode cX12_read 92 = .ok (.aload_n 0, 1) := by decide +kernel
theorem dX12_read_93 : decode cX12_read 93 = .ok (.invokevirtual 289, 3) := by decide +kernel
theorem dX12_read_96 : decode cX12_read 96 = .ok (.ireturn, 1) := by decide +kernel
theorem dX12_read_97 : decode cX12_read 97 = .ok (.aload_n 0, 1) := by decide +kernel
theorem dX12_read_98 : decode cX12_read 98 = .ok (.iconst 1, 1) := by decide +kernel
theorem dX12_read_99 : decode cX12_read 99 = .ok (.invokevirtual 276, 3) := by decide +kernel
theorem dX12_read_102 : decode cX12_read 102 = .ok (.ifCond .ne 5, 3) := by decide +kernel
theorem dX12_read_105 : decode cX12_read 105 = .ok (.iconst 0, 1) := by decide +kernel
theorem dX12_read_106 : decode cX12_read 106 = .ok (.ireturn, 1) := by decide +kernel
theorem dX12_read_107 : decode cX12_read 107 = .ok (.aload_n 0, 1) := by decide +kernel
theorem dX12_read_108 : decode cX12_read 108 = .ok (.aload_n 0, 1) := by decide +kernel
theorem dX12_read_109 : decode cX12_read 109 = .ok (.sipush 1352, 3) := by decide +kernel
theorem dX12_read_112 : decode cX12_read 112 = .ok (.invokevirtual 279, 3) := by decide +kernel
theorem dX12_read_115 : decode cX12_read 115 = .ok (.putfield 257, 3) := by decide +kernel
theorem dX12_read_118 : decode cX12_read 118 = .ok (.iconst 1, 1) := by decide +kernel
theorem dX12_read_119 : decode cX12_read 119 = .ok (.ireturn, 1) := by decide +kernel
theorem dX12_read_120 : decode cX12_read 120 = .ok (.aload_n 0, 1) := by decide +kernel
theorem dX12_read_121 : decode cX12_read 121 = .ok (.aload_n 0, 1) := by decide +kernel
theorem dX12_read_122 : decode cX12_read 122 = .ok (.iconst 1, 1) := by decide +kernel
theorem dX12_read_123 : decode cX12_read 123 = .ok (.invokevirtual 232, 3) := by decide +kernel
theorem dX12_read_126 : decode cX12_read 126 = .ok (.putfield 257, 3) := by decide +kernel
theorem dX12_read_129 : decode cX12_read 129 = .ok (.aload_n 0, 1) := by decide +kernel
theorem dX12_read_130 : decode cX12_read 130 = .ok (.getfield 201, 3) := by decide +kernel
theorem dX12_read_133 : decode cX12_read 133 = .ok (.iconst 3, 1) := by decide +kernel
theorem dX12_read_134 : decode cX12_read 134 = .ok (.if_icmp .ne 14, 3) := by decide +kernel
theorem dX12_read_137 : decode cX12_read 137 = .ok (.aload_n 0, 1) := by decide +kernel
theorem dX12_read_138 : decode cX12_read 138 = .ok (.getfield 257, 3) := by decide +kernel
theorem dX12_read_141 : decode cX12_read 141 = .ok (.ifCond .le 7, 3) := by decide +kernel
theorem dX12_read_144 : decode cX12_read 144 = .ok (.iconst 1, 1) := by decide +kernel
theorem dX12_read_145 : decode cX12_read 145 = .ok (.goto 4, 3) := by decide +kernel
theorem dX12_read_148 : decode cX12_read 148 = .ok (.iconst 0, 1) := by decide +kernel
theorem dX12_read_149 : decode cX12_read 149 = .ok (.ireturn, 1) := by decide +kernel
theorem dX12_read_150 : decode cX12_read 150 = .ok (.aload_n 0, 1) := by decide +kernel
theorem dX12_read_151 : decode cX12_read 151 = .ok (.aload_n 0, 1) := by decide +kernel
theorem dX12_read_152 : decode cX12_read 152 = .ok (.getfield 201, 3) := by decide +kernel
theorem dX12_read_155 : decode cX12_read 155 = .ok (.iconst 1, 1) := by decide +kernel
theorem dX12_read_156 : decode cX12_read 156 = .ok (.if_icmp .le 12, 3) := by decide +kernel
theorem dX12_read_159 : decode cX12_read 159 = .ok (.aload_n 0, 1) := by decide +kernel
theorem dX12_read_160 : decode cX12_read 160 = .ok (.getfield 204, 3) := by decide +kernel
theorem dX12_read_163 : decode cX12_read 163 = .ok (.iconst 1, 1) := by decide +kernel
theorem dX12_read_164 : decode cX12_read 164 = .ok (.iaload, 1) := by decide +kernel
theorem dX12_read_165 : decode cX12_read 165 = .ok (.goto 4, 3) := by decide +kernel
theorem dX12_read_168 : decode cX12_read 168 = .ok (.iconst (-1), 1) := by decide +kernel
theorem dX12_read_169 : decode cX12_read 169 = .ok (.putfield 260, 3) := by decide +kernel
theorem dX12_read_172 : decode cX12_read 172 = .ok (.aload_n 0, 1) := by decide +kernel
theorem dX12_read_173 : decode cX12_read 173 = .ok (.iconst 1, 1) := by decide +kernel
theorem dX12_read_174 : decode cX12_read 174 = .ok (.invokevirtual 241, 3) := by decide +kernel
theorem dX12_read_177 : decode cX12_read 177 = .ok (.ifCond .le 21, 3) := by decide +kernel
theorem dX12_read_180 : decode cX12_read 180 = .ok (.aload_n 0, 1) := by decide +kernel
theorem dX12_read_181 : decode cX12_read 181 = .ok (.iconst 1, 1) := by decide +kernel
theorem dX12_read_182 : decode cX12_read 182 = .ok (.invokevirtual 241, 3) := by decide +kernel
theorem dX12_read_185 : decode cX12_read 185 = .ok (.aload_n 0, 1) := by decide +kernel
theorem dX12_read_186 : decode cX12_read 186 = .ok (.getfield 201, 3) := by decide +kernel
theorem dX12_read_189 : decode cX12_read 189 = .ok (.iconst 1, 1) := by decide +kernel
theorem dX12_read_190 : decode cX12_read 190 = .ok (.isub, 1) := by decide +kernel
theorem dX12_read_191 : decode cX12_read 191 = .ok (.if_icmp .ne 7, 3) := by decide +kernel
theorem dX12_read_194 : decode cX12_read 194 = .ok (.iconst 1, 1) := by decide +kernel
theorem dX12_read_195 : decode cX12_read 195 = .ok (.goto 4, 3) := by decide +kernel
theorem dX12_read_198 : decode cX12_read 198 = .ok (.iconst 0, 1) := by decide +kernel
theorem dX12_read_199 : decode cX12_read 199 = .ok (.ireturn, 1) := by decide +kernel
theorem dX12_read_200 : decode cX12_read 200 = .ok (.aload_n 0, 1) := by decide +kernel
theorem dX12_read_201 : decode cX12_read 201 = .ok (.invokevirtual 292, 3) := by decide +kernel
theorem dX12_read_204 : decode cX12_read 204 = .ok (.ireturn, 1) := by decide +kernel
theorem dX12_read_205 : decode cX12_read 205 = .ok (.iconst 0, 1) := by decide +kernel
theorem dX12_read_206 : decode cX12_read 206 = .ok (.ireturn, 1) := by decide +kernel
theorem dX12_tellsHonest_0 : decode cX12_tellsHonest 0 = .ok (.aload_n 0, 1) := by decide +kernel
theorem dX12_tellsHonest_1 : decode cX12_tellsHonest 1 = .ok (.getfield 260, 3) := by decide +kernel
theorem dX12_tellsHonest_4 : decode cX12_tellsHonest 4 = .ok (.iconst (-1), 1) := by decide +kernel
theorem dX12_tellsHonest_5 : decode cX12_tellsHonest 5 = .ok (.if_icmp .eq 18, 3) := by decide +kernel
theorem dX12_tellsHonest_8 : decode cX12_tellsHonest 8 = .ok (.aload_n 0, 1) := by decide +kernel
theorem dX12_tellsHonest_9 : decode cX12_tellsHonest 9 = .ok (.aload_n 0, 1) := by decide +kernel
theorem dX12_tellsHonest_10 : decode cX12_tellsHonest 10 = .ok (.getfield 260, 3) := by decide +kernel
theorem dX12_tellsHonest_13 : decode cX12_tellsHonest 13 = .ok (.invokevirtual 155, 3) := by decide +kernel
theorem dX12_tellsHonest_16 : decode cX12_tellsHonest 16 = .ok (.ifCond .eq 7, 3) := by decide +kernel
theorem dX12_tellsHonest_19 : decode cX12_tellsHonest 19 = .ok (.iconst 1, 1) := by decide +kernel
theorem dX12_tellsHonest_20 : decode cX12_tellsHonest 20 = .ok (.goto 4, 3) := by decide +kernel
theorem dX12_tellsHonest_23 : decode cX12_tellsHonest 23 = .ok (.iconst 0, 1) := by decide +kernel
theorem dX12_tellsHonest_24 : decode cX12_tellsHonest 24 = .ok (.istore_n 1, 1) := by decide +kernel
theorem dX12_tellsHonest_25 : decode cX12_tellsHonest 25 = .ok (.aload_n 0, 1) := by decide +kernel
theorem dX12_tellsHonest_26 : decode cX12_tellsHonest 26 = .ok (.getfield 282, 3) := by decide +kernel
theorem dX12_tellsHonest_29 : decode cX12_tellsHonest 29 = .ok (.iconst 1, 1) := by decide +kernel
theorem dX12_tellsHonest_30 : decode cX12_tellsHonest 30 = .ok (.if_icmp .eq 13, 3) := by decide +kernel
theorem dX12_tellsHonest_33 : decode cX12_tellsHonest 33 = .ok (.aload_n 0, 1) := by decide +kernel
theorem dX12_tellsHonest_34 : decode cX12_tellsHonest 34 = .ok (.getfield 282, 3) := by decide +kernel
theorem dX12_tellsHonest_37 : decode cX12_tellsHonest 37 = .ok (.iconst 4, 1) := by decide +kernel
theorem dX12_tellsHonest_38 : decode cX12_tellsHonest 38 = .ok (.if_icmp .eq 5, 3) := by decide +kernel
theorem dX12_tellsHonest_41 : decode cX12_tellsHonest 41 = .ok (.iload_n 1, 1) := by decide +kernel
theorem dX12_tellsHonest_42 : decode cX12_tellsHonest 42 = .ok (.ireturn, 1) := by decide +kernel
theorem dX12_tellsHonest_43 : decode cX12_tellsHonest 43 = .ok (.bipush 101, 2) := by decide +kernel
theorem dX12_tellsHonest_45 : decode cX12_tellsHonest 45 = .ok (.istore_n 2, 1) := by decide +kernel
theorem dX12_tellsHonest_46 : decode cX12_tellsHonest 46 = .ok (.iconst 0, 1) := by decide +kernel
theorem dX12_tellsHonest_47 : decode cX12_tellsHonest 47 = .ok (.istore_n 3, 1) := by decide +kernel
theorem dX12_tellsHonest_48 : decode cX12_tellsHonest 48 = .ok (.iload_n 3, 1) := by decide +kernel
theorem dX12_tellsHonest_49 : decode cX12_tellsHonest 49 = .ok (.aload_n 0, 1) := by decide +kernel
theorem dX12_tellsHonest_50 : decode cX12_tellsHonest 50 = .ok (.sipush 1352, 3) := by decide +kernel
theorem dX12_tellsHonest_53 : decode cX12_tellsHonest 53 = .ok (.invokevirtual 115, 3) := by decide +kernel
theorem dX12_tellsHonest_56 : decode cX12_tellsHonest 56 = .ok (.if_icmp .ge 45, 3) := by decide +kernel
theorem dX12_tellsHonest_59 : decode cX12_tellsHonest 59 = .ok (.iload_n 1, 1) := by decide +kernel
theorem dX12_tellsHonest_60 : decode cX12_tellsHonest 60 = .ok (.ifCond .ne 18, 3) := by decide +kernel
theorem dX12_tellsHonest_63 : decode cX12_tellsHonest 63 = .ok (.aload_n 0, 1) := by decide +kernel
theorem dX12_tellsHonest_64 : decode cX12_tellsHonest 64 = .ok (.aload_n 0, 1) := by decide +kernel
theorem dX12_tellsHonest_65 : decode cX12_tellsHonest 65 = .ok (.sipush 1352, 3) := by decide +kernel
theorem dX12_tellsHonest_68 : decode cX12_tellsHonest 68 = .ok (.iload_n 2, 1) := by decide +kernel
theorem dX12_tellsHonest_69 : decode cX12_tellsHonest 69 = .ok (.invokevirtual 67, 3) := by decide +kernel
theorem dX12_tellsHonest_72 : decode cX12_tellsHonest 72 = .ok (.invokevirtual 155, 3) := by decide +kernel
theorem dX12_tellsHonest_75 : decode cX12_tellsHonest 75 = .ok (.ifCond .eq 7, 3) := by decide +kernel
theorem dX12_tellsHonest_78 : decode cX12_tellsHonest 78 = .ok (.iconst 1, 1) := by decide +kernel
theorem dX12_tellsHonest_79 : decode cX12_tellsHonest 79 = .ok (.goto 4, 3) := by decide +kernel
theorem dX12_tellsHonest_82 : decode cX12_tellsHonest 82 = .ok (.iconst 0, 1) := by decide +kernel
theorem dX12_tellsHonest_83 : decode cX12_tellsHonest 83 = .ok (.istore_n 1, 1) := by decide +kernel
theorem dX12_tellsHonest_84 : decode cX12_tellsHonest 84 = .ok (.iload_n 2, 1) := by decide +kernel
theorem dX12_tellsHonest_85 : decode cX12_tellsHonest 85 = .ok (.aload_n 0, 1) := by decide +kernel
theorem dX12_tellsHonest_86 : decode cX12_tellsHonest 86 = .ok (.sipush 1352, 3) := by decide +kernel
theorem dX12_tellsHonest_89 : decode cX12_tellsHonest 89 = .ok (.iload_n 2, 1) := by decide +kernel
theorem dX12_tellsHonest_90 : decode cX12_tellsHonest 90 = .ok (.invokevirtual 121, 3) := by decide +kernel
theorem dX12_tellsHonest_93 : decode cX12_tellsHonest 93 = .ok (.iadd, 1) := by decide +kernel
theorem dX12_tellsHonest_94 : decode cX12_tellsHonest 94 = .ok (.istore_n 2, 1) := by decide +kernel
theorem dX12_tellsHonest_95 : decode cX12_tellsHonest 95 = .ok (.iinc 3 1, 3) := by decide +kernel
theorem dX12_tellsHonest_98 : decode cX12_tellsHonest 98 = .ok (.goto (-50), 3) := by decide +kernel
theorem dX12_tellsHonest_101 : decode cX12_tellsHonest 101 = .ok (.iload_n 1, 1) := by decide +kernel
theorem dX12_tellsHonest_102 : decode cX12_tellsHonest 102 = .ok (.ireturn, 1) := by decide +kernel
theorem dX12_init_0 : decode cX12_init 0 = .ok (.aload_n 0, 1) := by decide +kernel
theorem dX12_init_1 : decode cX12_init 1 = .ok (.invokespecial 295, 3) := by decide +kernel
theorem dX12_init_4 : decode cX12_init 4 = .ok (.aload_n 0, 1) := by decide +kernel
theorem dX12_init_5 : decode cX12_init 5 = .ok (.sipush 1100, 3) := by decide +kernel
theorem dX12_init_8 : decode cX12_init 8 = .ok (.newarray .int, 2) := by decide +kernel
theorem dX12_init_10 : decode cX12_init 10 = .ok (.putfield 22, 3) := by decide +kernel
theorem dX12_init_13 : decode cX12_init 13 = .ok (.aload_n 0, 1) := by decide +kernel
theorem dX12_init_14 : decode cX12_init 14 = .ok (.bipush 8, 2) := by decide +kernel
theorem dX12_init_16 : decode cX12_init 16 = .ok (.newarray .int, 2) := by decide +kernel
theorem dX12_init_18 : decode cX12_init 18 = .ok (.putfield 33, 3) := by decide +kernel
theorem dX12_init_21 : decode cX12_init 21 = .ok (.aload_n 0, 1) := by decide +kernel
theorem dX12_init_22 : decode cX12_init 22 = .ok (.bipush 64, 2) := by decide +kernel
theorem dX12_init_24 : decode cX12_init 24 = .ok (.newarray .int, 2) := by decide +kernel
theorem dX12_init_26 : decode cX12_init 26 = .ok (.putfield 39, 3) := by decide +kernel
theorem dX12_init_29 : decode cX12_init 29 = .ok (.aload_n 0, 1) := by decide +kernel
theorem dX12_init_30 : decode cX12_init 30 = .ok (.bipush 64, 2) := by decide +kernel
theorem dX12_init_32 : decode cX12_init 32 = .ok (.newarray .int, 2) := by decide +kernel
theorem dX12_init_34 : decode cX12_init 34 = .ok (.putfield 11, 3) := by decide +kernel
theorem dX12_init_37 : decode cX12_init 37 = .ok (.aload_n 0, 1) := by decide +kernel
theorem dX12_init_38 : decode cX12_init 38 = .ok (.bipush 8, 2) := by decide +kernel
theorem dX12_init_40 : decode cX12_init 40 = .ok (.newarray .int, 2) := by decide +kernel
theorem dX12_init_42 : decode cX12_init 42 = .ok (.putfield 1, 3) := by decide +kernel
theorem dX12_init_45 : decode cX12_init 45 = .ok (.aload_n 0, 1) := by decide +kernel
theorem dX12_init_46 : decode cX12_init 46 = .ok (.ldc_w 300, 3) := by decide +kernel
theorem dX12_init_49 : decode cX12_init 49 = .ok (.newarray .long, 2) := by decide +kernel
theorem dX12_init_51 : decode cX12_init 51 = .ok (.putfield 45, 3) := by decide +kernel
theorem dX12_init_54 : decode cX12_init 54 = .ok (.aload_n 0, 1) := by decide +kernel
theorem dX12_init_55 : decode cX12_init 55 = .ok (.sipush 5416, 3) := by decide +kernel
theorem dX12_init_58 : decode cX12_init 58 = .ok (.newarray .long, 2) := by decide +kernel
theorem dX12_init_60 : decode cX12_init 60 = .ok (.putfield 60, 3) := by decide +kernel
theorem dX12_init_63 : decode cX12_init 63 = .ok (.aload_n 0, 1) := by decide +kernel
theorem dX12_init_64 : decode cX12_init 64 = .ok (.sipush 1354, 3) := by decide +kernel
theorem dX12_init_67 : decode cX12_init 67 = .ok (.newarray .int, 2) := by decide +kernel
theorem dX12_init_69 : decode cX12_init 69 = .ok (.putfield 57, 3) := by decide +kernel
theorem dX12_init_72 : decode cX12_init 72 = .ok (.aload_n 0, 1) := by decide +kernel
theorem dX12_init_73 : decode cX12_init 73 = .ok (.sipush 600, 3) := by decide +kernel
theorem dX12_init_76 : decode cX12_init 76 = .ok (.newarray .int, 2) := by decide +kernel
theorem dX12_init_78 : decode cX12_init 78 = .ok (.putfield 84, 3) := by decide +kernel
theorem dX12_init_81 : decode cX12_init 81 = .ok (.aload_n 0, 1) := by decide +kernel
theorem dX12_init_82 : decode cX12_init 82 = .ok (.bipush 68, 2) := by decide +kernel
theorem dX12_init_84 : decode cX12_init 84 = .ok (.newarray .int, 2) := by decide +kernel
theorem dX12_init_86 : decode cX12_init 86 = .ok (.putfield 81, 3) := by decide +kernel
theorem dX12_init_89 : decode cX12_init 89 = .ok (.aload_n 0, 1) := by decide +kernel
theorem dX12_init_90 : decode cX12_init 90 = .ok (.sipush 272, 3) := by decide +kernel
theorem dX12_init_93 : decode cX12_init 93 = .ok (.newarray .long, 2) := by decide +kernel
theorem dX12_init_95 : decode cX12_init 95 = .ok (.putfield 87, 3) := by decide +kernel
theorem dX12_init_98 : decode cX12_init 98 = .ok (.aload_n 0, 1) := by decide +kernel
theorem dX12_init_99 : decode cX12_init 99 = .ok (.sipush 260, 3) := by decide +kernel
theorem dX12_init_102 : decode cX12_init 102 = .ok (.newarray .int, 2) := by decide +kernel
theorem dX12_init_104 : decode cX12_init 104 = .ok (.putfield 103, 3) := by decide +kernel
theorem dX12_init_107 : decode cX12_init 107 = .ok (.aload_n 0, 1) := by decide +kernel
theorem dX12_init_108 : decode cX12_init 108 = .ok (.sipush 1000, 3) := by decide +kernel
theorem dX12_init_111 : decode cX12_init 111 = .ok (.newarray .int, 2) := by decide +kernel
theorem dX12_init_113 : decode cX12_init 113 = .ok (.putfield 130, 3) := by decide +kernel
theorem dX12_init_116 : decode cX12_init 116 = .ok (.aload_n 0, 1) := by decide +kernel
theorem dX12_init_117 : decode cX12_init 117 = .ok (.sipush 1000, 3) := by decide +kernel
theorem dX12_init_120 : decode cX12_init 120 = .ok (.newarray .int, 2) := by decide +kernel
theorem dX12_init_122 : decode cX12_init 122 = .ok (.putfield 176, 3) := by decide +kernel
theorem dX12_init_125 : decode cX12_init 125 = .ok (.aload_n 0, 1) := by decide +kernel
theorem dX12_init_126 : decode cX12_init 126 = .ok (.sipush 1000, 3) := by decide +kernel
theorem dX12_init_129 : decode cX12_init 129 = .ok (.newarray .int, 2) := by decide +kernel
theorem dX12_init_131 : decode cX12_init 131 = .ok (.putfield 210, 3) := by decide +kernel
theorem dX12_init_134 : decode cX12_init 134 = .ok (.aload_n 0, 1) := by decide +kernel
theorem dX12_init_135 : decode cX12_init 135 = .ok (.sipush 1000, 3) := by decide +kernel
theorem dX12_init_138 : decode cX12_init 138 = .ok (.newarray .int, 2) := by decide +kernel
theorem dX12_init_140 : decode cX12_init 140 = .ok (.putfield 195, 3) := by decide +kernel
theorem dX12_init_143 : decode cX12_init 143 = .ok (.aload_n 0, 1) := by decide +kernel
theorem dX12_init_144 : decode cX12_init 144 = .ok (.sipush 1000, 3) := by decide +kernel
theorem dX12_init_147 : decode cX12_init 147 = .ok (.newarray .int, 2) := by decide +kernel
theorem dX12_init_149 : decode cX12_init 149 = .ok (.putfield 198, 3) := by decide +kernel
theorem dX12_init_152 : decode cX12_init 152 = .ok (.aload_n 0, 1) := by decide +kernel
theorem dX12_init_153 : decode cX12_init 153 = .ok (.sipush 1000, 3) := by decide +kernel
theorem dX12_init_156 : decode cX12_init 156 = .ok (.newarray .int, 2) := by decide +kernel
theorem dX12_init_158 : decode cX12_init 158 = .ok (.putfield 173, 3) := by decide +kernel
theorem dX12_init_161 : decode cX12_init 161 = .ok (.aload_n 0, 1) := by decide +kernel
theorem dX12_init_162 : decode cX12_init 162 = .ok (.sipush 1000, 3) := by decide +kernel
theorem dX12_init_165 : decode cX12_init 165 = .ok (.newarray .int, 2) := by decide +kernel
theorem dX12_init_167 : decode cX12_init 167 = .ok (.putfield 213, 3) := by decide +kernel
theorem dX12_init_170 : decode cX12_init 170 = .ok (.aload_n 0, 1) := by decide +kernel
theorem dX12_init_171 : decode cX12_init 171 = .ok (.ldc_w 301, 3) := by decide +kernel
theorem dX12_init_174 : decode cX12_init 174 = .ok (.newarray .long, 2) := by decide +kernel
theorem dX12_init_176 : decode cX12_init 176 = .ok (.putfield 179, 3) := by decide +kernel
theorem dX12_init_179 : decode cX12_init 179 = .ok (.aload_n 0, 1) := by decide +kernel
theorem dX12_init_180 : decode cX12_init 180 = .ok (.sipush 1010, 3) := by decide +kernel
theorem dX12_init_183 : decode cX12_init 183 = .ok (.newarray .int, 2) := by decide +kernel
theorem dX12_init_185 : decode cX12_init 185 = .ok (.putfield 204, 3) := by decide +kernel
theorem dX12_init_188 : decode cX12_init 188 = .ok (.aload_n 0, 1) := by decide +kernel
theorem dX12_init_189 : decode cX12_init 189 = .ok (.sipush 1010, 3) := by decide +kernel
theorem dX12_init_192 : decode cX12_init 192 = .ok (.newarray .int, 2) := by decide +kernel
theorem dX12_init_194 : decode cX12_init 194 = .ok (.putfield 302, 3) := by decide +kernel
theorem dX12_init_197 : decode cX12_init 197 = .ok (.aload_n 0, 1) := by decide +kernel
theorem dX12_init_198 : decode cX12_init 198 = .ok (.iconst 4, 1) := by decide +kernel
theorem dX12_init_199 : decode cX12_init 199 = .ok (.newarray .long, 2) := by decide +kernel
theorem dX12_init_201 : decode cX12_init 201 = .ok (.putfield 270, 3) := by decide +kernel
theorem dX12_init_204 : decode cX12_init 204 = .ok (.aload_n 0, 1) := by decide +kernel
theorem dX12_init_205 : decode cX12_init 205 = .ok (.bipush 13, 2) := by decide +kernel
theorem dX12_init_207 : decode cX12_init 207 = .ok (.newarray .boolean, 2) := by decide +kernel
theorem dX12_init_209 : decode cX12_init 209 = .ok (.putfield 305, 3) := by decide +kernel
theorem dX12_init_212 : decode cX12_init 212 = .ok (.aload_n 0, 1) := by decide +kernel
theorem dX12_init_213 : decode cX12_init 213 = .ok (.bipush 13, 2) := by decide +kernel
theorem dX12_init_215 : decode cX12_init 215 = .ok (.newarray .int, 2) := by decide +kernel
theorem dX12_init_217 : decode cX12_init 217 = .ok (.putfield 309, 3) := by decide +kernel
theorem dX12_init_220 : decode cX12_init 220 = .ok (.aload_n 0, 1) := by decide +kernel
theorem dX12_init_221 : decode cX12_init 221 = .ok (.bipush 13, 2) := by decide +kernel
theorem dX12_init_223 : decode cX12_init 223 = .ok (.newarray .int, 2) := by decide +kernel
theorem dX12_init_225 : decode cX12_init 225 = .ok (.putfield 312, 3) := by decide +kernel
theorem dX12_init_228 : decode cX12_init 228 = .ok (.aload_n 0, 1) := by decide +kernel
theorem dX12_init_229 : decode cX12_init 229 = .ok (.bipush 13, 2) := by decide +kernel
theorem dX12_init_231 : decode cX12_init 231 = .ok (.newarray .int, 2) := by decide +kernel
theorem dX12_init_233 : decode cX12_init 233 = .ok (.putfield 315, 3) := by decide +kernel
theorem dX12_init_236 : decode cX12_init 236 = .ok (.aload_n 0, 1) := by decide +kernel
theorem dX12_init_237 : decode cX12_init 237 = .ok (.bipush 13, 2) := by decide +kernel
theorem dX12_init_239 : decode cX12_init 239 = .ok (.newarray .int, 2) := by decide +kernel
theorem dX12_init_241 : decode cX12_init 241 = .ok (.putfield 318, 3) := by decide +kernel
theorem dX12_init_244 : decode cX12_init 244 = .ok (.aload_n 0, 1) := by decide +kernel
theorem dX12_init_245 : decode cX12_init 245 = .ok (.bipush 13, 2) := by decide +kernel
theorem dX12_init_247 : decode cX12_init 247 = .ok (.newarray .int, 2) := by decide +kernel
theorem dX12_init_249 : decode cX12_init 249 = .ok (.putfield 321, 3) := by decide +kernel
theorem dX12_init_252 : decode cX12_init 252 = .ok (.aload_n 0, 1) := by decide +kernel
theorem dX12_init_253 : decode cX12_init 253 = .ok (.bipush 13, 2) := by decide +kernel
theorem dX12_init_255 : decode cX12_init 255 = .ok (.newarray .boolean, 2) := by decide +kernel
theorem dX12_init_257 : decode cX12_init 257 = .ok (.putfield 324, 3) := by decide +kernel
theorem dX12_init_260 : decode cX12_init 260 = .ok (.aload_n 0, 1) := by decide +kernel
theorem dX12_init_261 : decode cX12_init 261 = .ok (.bipush 13, 2) := by decide +kernel
theorem dX12_init_263 : decode cX12_init 263 = .ok (.newarray .boolean, 2) := by decide +kernel
theorem dX12_init_265 : decode cX12_init 265 = .ok (.putfield 327, 3) := by decide +kernel
theorem dX12_init_268 : decode cX12_init 268 = .ok (.aload_n 0, 1) := by decide +kernel
theorem dX12_init_269 : decode cX12_init 269 = .ok (.bipush 13, 2) := by decide +kernel
theorem dX12_init_271 : decode cX12_init 271 = .ok (.newarray .boolean, 2) := by decide +kernel
theorem dX12_init_273 : decode cX12_init 273 = .ok (.putfield 330, 3) := by decide +kernel
theorem dX12_init_276 : decode cX12_init 276 = .ok (.aload_n 0, 1) := by decide +kernel
theorem dX12_init_277 : decode cX12_init 277 = .ok (.bipush 39, 2) := by decide +kernel
theorem dX12_init_279 : decode cX12_init 279 = .ok (.newarray .int, 2) := by decide +kernel
theorem dX12_init_281 : decode cX12_init 281 = .ok (.putfield 333, 3) := by decide +kernel
theorem dX12_init_284 : decode cX12_init 284 = .ok (.aload_n 0, 1) := by decide +kernel
theorem dX12_init_285 : decode cX12_init 285 = .ok (.bipush 13, 2) := by decide +kernel
theorem dX12_init_287 : decode cX12_init 287 = .ok (.newarray .int, 2) := by decide +kernel
theorem dX12_init_289 : decode cX12_init 289 = .ok (.putfield 336, 3) := by decide +kernel
theorem dX12_init_292 : decode cX12_init 292 = .ok (.aload_n 0, 1) := by decide +kernel
theorem dX12_init_293 : decode cX12_init 293 = .ok (.sipush 7280, 3) := by decide +kernel
theorem dX12_init_296 : decode cX12_init 296 = .ok (.newarray .int, 2) := by decide +kernel
theorem dX12_init_298 : decode cX12_init 298 = .ok (.putfield 339, 3) := by decide +kernel
theorem dX12_init_301 : decode cX12_init 301 = .ok (.aload_n 0, 1) := by decide +kernel
theorem dX12_init_302 : decode cX12_init 302 = .ok (.sipush 169, 3) := by decide +kernel
theorem dX12_init_305 : decode cX12_init 305 = .ok (.newarray .int, 2) := by decide +kernel
theorem dX12_init_307 : decode cX12_init 307 = .ok (.putfield 342, 3) := by decide +kernel
theorem dX12_init_310 : decode cX12_init 310 = .ok (.aload_n 0, 1) := by decide +kernel
theorem dX12_init_311 : decode cX12_init 311 = .ok (.sipush 12000, 3) := by decide +kernel
theorem dX12_init_314 : decode cX12_init 314 = .ok (.newarray .int, 2) := by decide +kernel
theorem dX12_init_316 : decode cX12_init 316 = .ok (.putfield 345, 3) := by decide +kernel
theorem dX12_init_319 : decode cX12_init 319 = .ok (.aload_n 0, 1) := by decide +kernel
theorem dX12_init_320 : decode cX12_init 320 = .ok (.sipush 169, 3) := by decide +kernel
theorem dX12_init_323 : decode cX12_init 323 = .ok (.newarray .int, 2) := by decide +kernel
theorem dX12_init_325 : decode cX12_init 325 = .ok (.putfield 348, 3) := by decide +kernel
theorem dX12_init_328 : decode cX12_init 328 = .ok (.aload_n 0, 1) := by decide +kernel
theorem dX12_init_329 : decode cX12_init 329 = .ok (.sipush 19440, 3) := by decide +kernel
theorem dX12_init_332 : decode cX12_init 332 = .ok (.newarray .int, 2) := by decide +kernel
theorem dX12_init_334 : decode cX12_init 334 = .ok (.putfield 351, 3) := by decide +kernel
theorem dX12_init_337 : decode cX12_init 337 = .ok (.aload_n 0, 1) := by decide +kernel
theorem dX12_init_338 : decode cX12_init 338 = .ok (.sipush 416, 3) := by decide +kernel
theorem dX12_init_341 : decode cX12_init 341 = .ok (.newarray .int, 2) := by decide +kernel
theorem dX12_init_343 : decode cX12_init 343 = .ok (.putfield 354, 3) := by decide +kernel
theorem dX12_init_346 : decode cX12_init 346 = .ok (.aload_n 0, 1) := by decide +kernel
theorem dX12_init_347 : decode cX12_init 347 = .ok (.sipush 10816, 3) := by decide +kernel
theorem dX12_init_350 : decode cX12_init 350 = .ok (.newarray .int, 2) := by decide +kernel
theorem dX12_init_352 : decode cX12_init 352 = .ok (.putfield 357, 3) := by decide +kernel
theorem dX12_init_355 : decode cX12_init 355 = .ok (.aload_n 0, 1) := by decide +kernel
theorem dX12_init_356 : decode cX12_init 356 = .ok (.sipush 10816, 3) := by decide +kernel
theorem dX12_init_359 : decode cX12_init 359 = .ok (.newarray .long, 2) := by decide +kernel
theorem dX12_init_361 : decode cX12_init 361 = .ok (.putfield 360, 3) := by decide +kernel
theorem dX12_init_364 : decode cX12_init 364 = .ok (.aload_n 0, 1) := by decide +kernel
theorem dX12_init_365 : decode cX12_init 365 = .ok (.sipush 10816, 3) := by decide +kernel
theorem dX12_init_368 : decode cX12_init 368 = .ok (.newarray .long, 2) := by decide +kernel
theorem dX12_init_370 : decode cX12_init 370 = .ok (.putfield 363, 3) := by decide +kernel
theorem dX12_init_373 : decode cX12_init 373 = .ok (.aload_n 0, 1) := by decide +kernel
theorem dX12_init_374 : decode cX12_init 374 = .ok (.sipush 10816, 3) := by decide +kernel
theorem dX12_init_377 : decode cX12_init 377 = .ok (.newarray .long, 2) := by decide +kernel
theorem dX12_init_379 : decode cX12_init 379 = .ok (.putfield 366, 3) := by decide +kernel
theorem dX12_init_382 : decode cX12_init 382 = .ok (.aload_n 0, 1) := by decide +kernel
theorem dX12_init_383 : decode cX12_init 383 = .ok (.sipush 10816, 3) := by decide +kernel
theorem dX12_init_386 : decode cX12_init 386 = .ok (.newarray .long, 2) := by decide +kernel
theorem dX12_init_388 : decode cX12_init 388 = .ok (.putfield 369, 3) := by decide +kernel
theorem dX12_init_391 : decode cX12_init 391 = .ok (.aload_n 0, 1) := by decide +kernel
theorem dX12_init_392 : decode cX12_init 392 = .ok (.bipush 13, 2) := by decide +kernel
theorem dX12_init_394 : decode cX12_init 394 = .ok (.newarray .int, 2) := by decide +kernel
theorem dX12_init_396 : decode cX12_init 396 = .ok (.putfield 372, 3) := by decide +kernel
theorem dX12_init_399 : decode cX12_init 399 = .ok (.aload_n 0, 1) := by decide +kernel
theorem dX12_init_400 : decode cX12_init 400 = .ok (.sipush 832, 3) := by decide +kernel
theorem dX12_init_403 : decode cX12_init 403 = .ok (.newarray .int, 2) := by decide +kernel
theorem dX12_init_405 : decode cX12_init 405 = .ok (.putfield 375, 3) := by decide +kernel
theorem dX12_init_408 : decode cX12_init 408 = .ok (.aload_n 0, 1) := by decide +kernel
theorem dX12_init_409 : decode cX12_init 409 = .ok (.sipush 832, 3) := by decide +kernel
theorem dX12_init_412 : decode cX12_init 412 = .ok (.newarray .int, 2) := by decide +kernel
theorem dX12_init_414 : decode cX12_init 414 = .ok (.putfield 378, 3) := by decide +kernel
theorem dX12_init_417 : decode cX12_init 417 = .ok (.aload_n 0, 1) := by decide +kernel
theorem dX12_init_418 : decode cX12_init 418 = .ok (.sipush 832, 3) := by decide +kernel
theorem dX12_init_421 : decode cX12_init 421 = .ok (.newarray .int, 2) := by decide +kernel
theorem dX12_init_423 : decode cX12_init 423 = .ok (.putfield 381, 3) := by decide +kernel
theorem dX12_init_426 : decode cX12_init 426 = .ok (.aload_n 0, 1) := by decide +kernel
theorem dX12_init_427 : decode cX12_init 427 = .ok (.sipush 832, 3) := by decide +kernel
theorem dX12_init_430 : decode cX12_init 430 = .ok (.newarray .boolean, 2) := by decide +kernel
theorem dX12_init_432 : decode cX12_init 432 = .ok (.putfield 384, 3) := by decide +kernel
theorem dX12_init_435 : decode cX12_init 435 = .ok (.aload_n 0, 1) := by decide +kernel
theorem dX12_init_436 : decode cX12_init 436 = .ok (.sipush 3328, 3) := by decide +kernel
theorem dX12_init_439 : decode cX12_init 439 = .ok (.newarray .long, 2) := by decide +kernel
theorem dX12_init_441 : decode cX12_init 441 = .ok (.putfield 387, 3) := by decide +kernel
theorem dX12_init_444 : decode cX12_init 444 = .ok (.aload_n 0, 1) := by decide +kernel
theorem dX12_init_445 : decode cX12_init 445 = .ok (.sipush 1100, 3) := by decide +kernel
theorem dX12_init_448 : decode cX12_init 448 = .ok (.newarray .int, 2) := by decide +kernel
theorem dX12_init_450 : decode cX12_init 450 = .ok (.putfield 390, 3) := by decide +kernel
theorem dX12_init_453 : decode cX12_init 453 = .ok (.aload_n 0, 1) := by decide +kernel
theorem dX12_init_454 : decode cX12_init 454 = .ok (.ldc_w 393, 3) := by decide +kernel
theorem dX12_init_457 : decode cX12_init 457 = .ok (.newarray .long, 2) := by decide +kernel
theorem dX12_init_459 : decode cX12_init 459 = .ok (.putfield 394, 3) := by decide +kernel
theorem dX12_init_462 : decode cX12_init 462 = .ok (.aload_n 0, 1) := by decide +kernel
theorem dX12_init_463 : decode cX12_init 463 = .ok (.sipush 3692, 3) := by decide +kernel
theorem dX12_init_466 : decode cX12_init 466 = .ok (.newarray .boolean, 2) := by decide +kernel
theorem dX12_init_468 : decode cX12_init 468 = .ok (.putfield 397, 3) := by decide +kernel
theorem dX12_init_471 : decode cX12_init 471 = .ok (.aload_n 0, 1) := by decide +kernel
theorem dX12_init_472 : decode cX12_init 472 = .ok (.bipush 13, 2) := by decide +kernel
theorem dX12_init_474 : decode cX12_init 474 = .ok (.newarray .int, 2) := by decide +kernel
theorem dX12_init_476 : decode cX12_init 476 = .ok (.putfield 400, 3) := by decide +kernel
theorem dX12_init_479 : decode cX12_init 479 = .ok (.aload_n 0, 1) := by decide +kernel
theorem dX12_init_480 : decode cX12_init 480 = .ok (.bipush 13, 2) := by decide +kernel
theorem dX12_init_482 : decode cX12_init 482 = .ok (.newarray .int, 2) := by decide +kernel
theorem dX12_init_484 : decode cX12_init 484 = .ok (.putfield 403, 3) := by decide +kernel
theorem dX12_init_487 : decode cX12_init 487 = .ok (.aload_n 0, 1) := by decide +kernel
theorem dX12_init_488 : decode cX12_init 488 = .ok (.bipush 13, 2) := by decide +kernel
theorem dX12_init_490 : decode cX12_init 490 = .ok (.newarray .int, 2) := by decide +kernel
theorem dX12_init_492 : decode cX12_init 492 = .ok (.putfield 406, 3) := by decide +kernel
theorem dX12_init_495 : decode cX12_init 495 = .ok (.aload_n 0, 1) := by decide +kernel
theorem dX12_init_496 : decode cX12_init 496 = .ok (.bipush 13, 2) := by decide +kernel
theorem dX12_init_498 : decode cX12_init 498 = .ok (.newarray .int, 2) := by decide +kernel
theorem dX12_init_500 : decode cX12_init 500 = .ok (.putfield 409, 3) := by decide +kernel
theorem dX12_init_503 : decode cX12_init 503 = .ok (.aload_n 0, 1) := by decide +kernel
theorem dX12_init_504 : decode cX12_init 504 = .ok (.bipush 13, 2) := by decide +kernel
theorem dX12_init_506 : decode cX12_init 506 = .ok (.newarray .int, 2) := by decide +kernel
theorem dX12_init_508 : decode cX12_init 508 = .ok (.putfield 412, 3) := by decide +kernel
theorem dX12_init_511 : decode cX12_init 511 = .ok (.aload_n 0, 1) := by decide +kernel
theorem dX12_init_512 : decode cX12_init 512 = .ok (.bipush 13, 2) := by decide +kernel
theorem dX12_init_514 : decode cX12_init 514 = .ok (.newarray .int, 2) := by decide +kernel
theorem dX12_init_516 : decode cX12_init 516 = .ok (.putfield 415, 3) := by decide +kernel
theorem dX12_init_519 : decode cX12_init 519 = .ok (.aload_n 0, 1) := by decide +kernel
theorem dX12_init_520 : decode cX12_init 520 = .ok (.bipush 52, 2) := by decide +kernel
theorem dX12_init_522 : decode cX12_init 522 = .ok (.newarray .long, 2) := by decide +kernel
theorem dX12_init_524 : decode cX12_init 524 = .ok (.putfield 418, 3) := by decide +kernel
theorem dX12_init_527 : decode cX12_init 527 = .ok (.aload_n 0, 1) := by decide +kernel
theorem dX12_init_528 : decode cX12_init 528 = .ok (.sipush 208, 3) := by decide +kernel
theorem dX12_init_531 : decode cX12_init 531 = .ok (.newarray .int, 2) := by decide +kernel
theorem dX12_init_533 : decode cX12_init 533 = .ok (.putfield 421, 3) := by decide +kernel
theorem dX12_init_536 : decode cX12_init 536 = .ok (.aload_n 0, 1) := by decide +kernel
theorem dX12_init_537 : decode cX12_init 537 = .ok (.sipush 208, 3) := by decide +kernel
theorem dX12_init_540 : decode cX12_init 540 = .ok (.newarray .int, 2) := by decide +kernel
theorem dX12_init_542 : decode cX12_init 542 = .ok (.putfield 424, 3) := by decide +kernel
theorem dX12_init_545 : decode cX12_init 545 = .ok (.aload_n 0, 1) := by decide +kernel
theorem dX12_init_546 : decode cX12_init 546 = .ok (.sipush 208, 3) := by decide +kernel
theorem dX12_init_549 : decode cX12_init 549 = .ok (.newarray .boolean, 2) := by decide +kernel
theorem dX12_init_551 : decode cX12_init 551 = .ok (.putfield 427, 3) := by decide +kernel
theorem dX12_init_554 : decode cX12_init 554 = .ok (.aload_n 0, 1) := by decide +kernel
theorem dX12_init_555 : decode cX12_init 555 = .ok (.bipush 16, 2) := by decide +kernel
theorem dX12_init_557 : decode cX12_init 557 = .ok (.newarray .int, 2) := by decide +kernel
theorem dX12_init_559 : decode cX12_init 559 = .ok (.putfield 430, 3) := by decide +kernel
theorem dX12_init_562 : decode cX12_init 562 = .ok (.aload_n 0, 1) := by decide +kernel
theorem dX12_init_563 : decode cX12_init 563 = .ok (.bipush 16, 2) := by decide +kernel
theorem dX12_init_565 : decode cX12_init 565 = .ok (.newarray .int, 2) := by decide +kernel
theorem dX12_init_567 : decode cX12_init 567 = .ok (.putfield 433, 3) := by decide +kernel
theorem dX12_init_570 : decode cX12_init 570 = .ok (.aload_n 0, 1) := by decide +kernel
theorem dX12_init_571 : decode cX12_init 571 = .ok (.bipush 16, 2) := by decide +kernel
theorem dX12_init_573 : decode cX12_init 573 = .ok (.newarray .boolean, 2) := by decide +kernel
theorem dX12_init_575 : decode cX12_init 575 = .ok (.putfield 436, 3) := by decide +kernel
theorem dX12_init_578 : decode cX12_init 578 = .ok (.aload_n 0, 1) := by decide +kernel
theorem dX12_init_579 : decode cX12_init 579 = .ok (.iconst 4, 1) := by decide +kernel
theorem dX12_init_580 : decode cX12_init 580 = .ok (.newarray .long, 2) := by decide +kernel
theorem dX12_init_582 : decode cX12_init 582 = .ok (.putfield 439, 3) := by decide +kernel
theorem dX12_init_585 : decode cX12_init 585 = .ok (.aload_n 0, 1) := by decide +kernel
theorem dX12_init_586 : decode cX12_init 586 = .ok (.iload_n 1, 1) := by decide +kernel
theorem dX12_init_587 : decode cX12_init 587 = .ok (.iconst 1, 1) := by decide +kernel
theorem dX12_init_588 : decode cX12_init 588 = .ok (.if_icmp .lt 12, 3) := by decide +kernel
theorem dX12_init_591 : decode cX12_init 591 = .ok (.iload_n 1, 1) := by decide +kernel
theorem dX12_init_592 : decode cX12_init 592 = .ok (.iconst 4, 1) := by decide +kernel
theorem dX12_init_593 : decode cX12_init 593 = .ok (.if_icmp .gt 7, 3) := by decide +kernel
theorem dX12_init_596 : decode cX12_init 596 = .ok (.iload_n 1, 1) := by decide +kernel
theorem dX12_init_597 : decode cX12_init 597 = .ok (.goto 4, 3) := by decide +kernel
theorem dX12_init_600 : decode cX12_init 600 = .ok (.iconst 1, 1) := by decide +kernel
theorem dX12_init_601 : decode cX12_init 601 = .ok (.putfield 442, 3) := by decide +kernel
theorem dX12_init_604 : decode cX12_init 604 = .ok (.aload_n 0, 1) := by decide +kernel
theorem dX12_init_605 : decode cX12_init 605 = .ok (.iconst 3, 1) := by decide +kernel
theorem dX12_init_606 : decode cX12_init 606 = .ok (.aload_n 0, 1) := by decide +kernel
theorem dX12_init_607 : decode cX12_init 607 = .ok (.getfield 442, 3) := by decide +kernel
theorem dX12_init_610 : decode cX12_init 610 = .ok (.imul, 1) := by decide +kernel
theorem dX12_init_611 : decode cX12_init 611 = .ok (.iconst 1, 1) := by decide +kernel
theorem dX12_init_612 : decode cX12_init 612 = .ok (.iadd, 1) := by decide +kernel
theorem dX12_init_613 : decode cX12_init 613 = .ok (.putfield 219, 3) := by decide +kernel
theorem dX12_init_616 : decode cX12_init 616 = .ok (.aload_n 0, 1) := by decide +kernel
theorem dX12_init_617 : decode cX12_init 617 = .ok (.iload_n 2, 1) := by decide +kernel
theorem dX12_init_618 : decode cX12_init 618 = .ok (.ifCond .lt 15, 3) := by decide +kernel
theorem dX12_init_621 : decode cX12_init 621 = .ok (.iload_n 2, 1) := by decide +kernel
theorem dX12_init_622 : decode cX12_init 622 = .ok (.aload_n 0, 1) := by decide +kernel
theorem dX12_init_623 : decode cX12_init 623 = .ok (.getfield 442, 3) := by decide +kernel
theorem dX12_init_626 : decode cX12_init 626 = .ok (.if_icmp .gt 7, 3) := by decide +kernel
theorem dX12_init_629 : decode cX12_init 629 = .ok (.iload_n 2, 1) := by decide +kernel
theorem dX12_init_630 : decode cX12_init 630 = .ok (.goto 4, 3) := by decide +kernel
theorem dX12_init_633 : decode cX12_init 633 = .ok (.iconst 0, 1) := by decide +kernel
theorem dX12_init_634 : decode cX12_init 634 = .ok (.putfield 445, 3) := by decide +kernel
theorem dX12_init_637 : decode cX12_init 637 = .ok (.aload_n 0, 1) := by decide +kernel
theorem dX12_init_638 : decode cX12_init 638 = .ok (.invokevirtual 448, 3) := by decide +kernel
theorem dX12_init_641 : decode cX12_init 641 = .ok (.aload_n 0, 1) := by decide +kernel
theorem dX12_init_642 : decode cX12_init 642 = .ok (.sipush 1000, 3) := by decide +kernel
theorem dX12_init_645 : decode cX12_init 645 = .ok (.putfield 207, 3) := by decide +kernel
theorem dX12_init_648 : decode cX12_init 648 = .ok (.iconst 0, 1) := by decide +kernel
theorem dX12_init_649 : decode cX12_init 649 = .ok (.istore_n 3, 1) := by decide +kernel
theorem dX12_init_650 : decode cX12_init 650 = .ok (.iload_n 3, 1) := by decide +kernel
theorem dX12_init_651 : decode cX12_init 651 = .ok (.sipush 1000, 3) := by decide +kernel
theorem dX12_init_654 : decode cX12_init 654 = .ok (.if_icmp .ge 16, 3) := by decide +kernel
theorem dX12_init_657 : decode cX12_init 657 = .ok (.aload_n 0, 1) := by decide +kernel
theorem dX12_init_658 : decode cX12_init 658 = .ok (.getfield 210, 3) := by decide +kernel
theorem dX12_init_661 : decode cX12_init 661 = .ok (.iload_n 3, 1) := by decide +kernel
theorem dX12_init_662 : decode cX12_init 662 = .ok (.iload_n 3, 1) := by decide +kernel
theorem dX12_init_663 : decode cX12_init 663 = .ok (.iastore, 1) := by decide +kernel
theorem dX12_init_664 : decode cX12_init 664 = .ok (.iinc 3 1, 3) := by decide +kernel
theorem dX12_init_667 : decode cX12_init 667 = .ok (.goto (-17), 3) := by decide +kernel
theorem dX12_init_670 : decode cX12_init 670 = .ok (.iconst 0, 1) := by decide +kernel
theorem dX12_init_671 : decode cX12_init 671 = .ok (.istore_n 3, 1) := by decide +kernel
theorem dX12_init_672 : decode cX12_init 672 = .ok (.iload_n 3, 1) := by decide +kernel
theorem dX12_init_673 : decode cX12_init 673 = .ok (.bipush 13, 2) := by decide +kernel
theorem dX12_init_675 : decode cX12_init 675 = .ok (.if_icmp .ge 75, 3) := by decide +kernel
theorem dX12_init_678 : decode cX12_init 678 = .ok (.aload_n 0, 1) := by decide +kernel
theorem dX12_init_679 : decode cX12_init 679 = .ok (.getfield 305, 3) := by decide +kernel
theorem dX12_init_682 : decode cX12_init 682 = .ok (.iload_n 3, 1) := by decide +kernel
theorem dX12_init_683 : decode cX12_init 683 = .ok (.aload_n 0, 1) := by decide +kernel
theorem dX12_init_684 : decode cX12_init 684 = .ok (.iload_n 3, 1) := by decide +kernel
theorem dX12_init_685 : decode cX12_init 685 = .ok (.invokevirtual 155, 3) := by decide +kernel
theorem dX12_init_688 : decode cX12_init 688 = .ok (.bastore, 1) := by decide +kernel
theorem dX12_init_689 : decode cX12_init 689 = .ok (.aload_n 0, 1) := by decide +kernel
theorem dX12_init_690 : decode cX12_init 690 = .ok (.getfield 309, 3) := by decide +kernel
theorem dX12_init_693 : decode cX12_init 693 = .ok (.iload_n 3, 1) := by decide +kernel
theorem dX12_init_694 : decode cX12_init 694 = .ok (.iconst 1, 1) := by decide +kernel
theorem dX12_init_695 : decode cX12_init 695 = .ok (.iastore, 1) := by decide +kernel
theorem dX12_init_696 : decode cX12_init 696 = .ok (.aload_n 0, 1) := by decide +kernel
theorem dX12_init_697 : decode cX12_init 697 = .ok (.getfield 415, 3) := by decide +kernel
theorem dX12_init_700 : decode cX12_init 700 = .ok (.iload_n 3, 1) := by decide +kernel
theorem dX12_init_701 : decode cX12_init 701 = .ok (.iconst 1, 1) := by decide +kernel
theorem dX12_init_702 : decode cX12_init 702 = .ok (.iastore, 1) := by decide +kernel
theorem dX12_init_703 : decode cX12_init 703 = .ok (.iconst 0, 1) := by decide +kernel
theorem dX12_init_704 : decode cX12_init 704 = .ok (.istore 4, 2) := by decide +kernel
theorem dX12_init_706 : decode cX12_init 706 = .ok (.iload 4, 2) := by decide +kernel
theorem dX12_init_708 : decode cX12_init 708 = .ok (.bipush 16, 2) := by decide +kernel
theorem dX12_init_710 : decode cX12_init 710 = .ok (.if_icmp .ge 24, 3) := by decide +kernel
theorem dX12_init_713 : decode cX12_init 713 = .ok (.aload_n 0, 1) := by decide +kernel
theorem dX12_init_714 : decode cX12_init 714 = .ok (.getfield 421, 3) := by decide +kernel
theorem dX12_init_717 : decode cX12_init 717 = .ok (.bipush 16, 2) := by decide +kernel
theorem dX12_init_719 : decode cX12_init 719 = .ok (.iload_n 3, 1) := by decide +kernel
theorem dX12_init_720 : decode cX12_init 720 = .ok (.imul, 1) := by decide +kernel
theorem dX12_init_721 : decode cX12_init 721 = .ok (.iload 4, 2) := by decide +kernel
theorem dX12_init_723 : decode cX12_init 723 = .ok (.iadd, 1) := by decide +kernel
theorem dX12_init_724 : decode cX12_init 724 = .ok (.sipush 1000, 3) := by decide +kernel
theorem dX12_init_727 : decode cX12_init 727 = .ok (.iastore, 1) := by decide +kernel
theorem dX12_init_728 : decode cX12_init 728 = .ok (.iinc 4 1, 3) := by decide +kernel
theorem dX12_init_731 : decode cX12_init 731 = .ok (.goto (-25), 3) := by decide +kernel
theorem dX12_init_734 : decode cX12_init 734 = .ok (.aload_n 0, 1) := by decide +kernel
theorem dX12_init_735 : decode cX12_init 735 = .ok (.iload_n 3, 1) := by decide +kernel
theorem dX12_init_736 : decode cX12_init 736 = .ok (.invokevirtual 451, 3) := by decide +kernel
theorem dX12_init_739 : decode cX12_init 739 = .ok (.aload_n 0, 1) := by decide +kernel
theorem dX12_init_740 : decode cX12_init 740 = .ok (.iload_n 3, 1) := by decide +kernel
theorem dX12_init_741 : decode cX12_init 741 = .ok (.invokevirtual 454, 3) := by decide +kernel
theorem dX12_init_744 : decode cX12_init 744 = .ok (.iinc 3 1, 3) := by decide +kernel
theorem dX12_init_747 : decode cX12_init 747 = .ok (.goto (-75), 3) := by decide +kernel
theorem dX12_init_750 : decode cX12_init 750 = .ok (.iconst 0, 1) := by decide +kernel
theorem dX12_init_751 : decode cX12_init 751 = .ok (.istore_n 3, 1) := by decide +kernel
theorem dX12_init_752 : decode cX12_init 752 = .ok (.iload_n 3, 1) := by decide +kernel
theorem dX12_init_753 : decode cX12_init 753 = .ok (.aload_n 0, 1) := by decide +kernel
theorem dX12_init_754 : decode cX12_init 754 = .ok (.getfield 219, 3) := by decide +kernel
theorem dX12_init_757 : decode cX12_init 757 = .ok (.if_icmp .ge 31, 3) := by decide +kernel
theorem dX12_init_760 : decode cX12_init 760 = .ok (.aload_n 0, 1) := by decide +kernel
theorem dX12_init_761 : decode cX12_init 761 = .ok (.iload_n 3, 1) := by decide +kernel
theorem dX12_init_762 : decode cX12_init 762 = .ok (.invokevirtual 155, 3) := by decide +kernel
theorem dX12_init_765 : decode cX12_init 765 = .ok (.ifCond .ne 6, 3) := by decide +kernel
theorem dX12_init_768 : decode cX12_init 768 = .ok (.goto 14, 3) := by decide +kernel
theorem dX12_init_771 : decode cX12_init 771 = .ok (.aload_n 0, 1) := by decide +kernel
theorem dX12_init_772 : decode cX12_init 772 = .ok (.iload_n 3, 1) := by decide +kernel
theorem dX12_init_773 : decode cX12_init 773 = .ok (.iconst 0, 1) := by decide +kernel
theorem dX12_init_774 : decode cX12_init 774 = .ok (.invokevirtual 457, 3) := by decide +kernel
theorem dX12_init_777 : decode cX12_init 777 = .ok (.aload_n 0, 1) := by decide +kernel
theorem dX12_init_778 : decode cX12_init 778 = .ok (.iload_n 3, 1) := by decide +kernel
theorem dX12_init_779 : decode cX12_init 779 = .ok (.invokevirtual 460, 3) := by decide +kernel
theorem dX12_init_782 : decode cX12_init 782 = .ok (.iinc 3 1, 3) := by decide +kernel
theorem dX12_init_785 : decode cX12_init 785 = .ok (.goto (-33), 3) := by decide +kernel
theorem dX12_init_788 : decode cX12_init 788 = .ok (.return_, 1) := by decide +kernel
theorem dX12_isHonest_0 : decode cX12_isHonest 0 = .ok (.iload_n 1, 1) := by decide +kernel
theorem dX12_isHonest_1 : decode cX12_isHonest 1 = .ok (.ifCond .lt 20, 3) := by decide +kernel
theorem dX12_isHonest_4 : decode cX12_isHonest 4 = .ok (.iload_n 1, 1) := by decide +kernel
theorem dX12_isHonest_5 : decode cX12_isHonest 5 = .ok (.aload_n 0, 1) := by decide +kernel
theorem dX12_isHonest_6 : decode cX12_isHonest 6 = .ok (.getfield 219, 3) := by decide +kernel
theorem dX12_isHonest_9 : decode cX12_isHonest 9 = .ok (.aload_n 0, 1) := by decide +kernel
theorem dX12_isHonest_10 : decode cX12_isHonest 10 = .ok (.getfield 445, 3) := by decide +kernel
theorem dX12_isHonest_13 : decode cX12_isHonest 13 = .ok (.isub, 1) := by decide +kernel
theorem dX12_isHonest_14 : decode cX12_isHonest 14 = .ok (.if_icmp .ge 7, 3) := by decide +kernel
theorem dX12_isHonest_17 : decode cX12_isHonest 17 = .ok (.iconst 1, 1) := by decide +kernel
theorem dX12_isHonest_18 : decode cX12_isHonest 18 = .ok (.goto 4, 3) := by decide +kernel
theorem dX12_isHonest_21 : decode cX12_isHonest 21 = .ok (.iconst 0, 1) := by decide +kernel
theorem dX12_isHonest_22 : decode cX12_isHonest 22 = .ok (.ireturn, 1) := by decide +kernel
theorem dX12_isUp_0 : decode cX12_isUp 0 = .ok (.aload_n 0, 1) := by decide +kernel
theorem dX12_isUp_1 : decode cX12_isUp 1 = .ok (.iload_n 1, 1) := by decide +kernel
theorem dX12_isUp_2 : decode cX12_isUp 2 = .ok (.invokevirtual 155, 3) := by decide +kernel
theorem dX12_isUp_5 : decode cX12_isUp 5 = .ok (.ifCond .eq 16, 3) := by decide +kernel
theorem dX12_isUp_8 : decode cX12_isUp 8 = .ok (.aload_n 0, 1) := by decide +kernel
theorem dX12_isUp_9 : decode cX12_isUp 9 = .ok (.getfield 305, 3) := by decide +kernel
theorem dX12_isUp_12 : decode cX12_isUp 12 = .ok (.iload_n 1, 1) := by decide +kernel
theorem dX12_isUp_13 : decode cX12_isUp 13 = .ok (.baload, 1) := by decide +kernel
theorem dX12_isUp_14 : decode cX12_isUp 14 = .ok (.ifCond .eq 7, 3) := by decide +kernel
theorem dX12_isUp_17 : decode cX12_isUp 17 = .ok (.iconst 1, 1) := by decide +kernel
theorem dX12_isUp_18 : decode cX12_isUp 18 = .ok (.goto 4, 3) := by decide +kernel
theorem dX12_isUp_21 : decode cX12_isUp 21 = .ok (.iconst 0, 1) := by decide +kernel
theorem dX12_isUp_22 : decode cX12_isUp 22 = .ok (.ireturn, 1) := by decide +kernel
theorem dX12_unlock_0 : decode cX12_unlock 0 = .ok (.aload_n 0, 1) := by decide +kernel
theorem dX12_unlock_1 : decode cX12_unlock 1 = .ok (.sipush 1118, 3) := by decide +kernel
theorem dX12_unlock_4 : decode cX12_unlock 4 = .ok (.iload_n 1, 1) := by decide +kernel
theorem dX12_unlock_5 : decode cX12_unlock 5 = .ok (.iadd, 1) := by decide +kernel
theorem dX12_unlock_6 : decode cX12_unlock 6 = .ok (.invokevirtual 463, 3) := by decide +kernel
theorem dX12_unlock_9 : decode cX12_unlock 9 = .ok (.aload_n 0, 1) := by decide +kernel
theorem dX12_unlock_10 : decode cX12_unlock 10 = .ok (.sipush 1131, 3) := by decide +kernel
theorem dX12_unlock_13 : decode cX12_unlock 13 = .ok (.iload_n 1, 1) := by decide +kernel
theorem dX12_unlock_14 : decode cX12_unlock 14 = .ok (.iadd, 1) := by decide +kernel
theorem dX12_unlock_15 : decode cX12_unlock 15 = .ok (.invokevirtual 463, 3) := by decide +kernel
theorem dX12_unlock_18 : decode cX12_unlock 18 = .ok (.aload_n 0, 1) := by decide +kernel
theorem dX12_unlock_19 : decode cX12_unlock 19 = .ok (.getfield 318, 3) := by decide +kernel
theorem dX12_unlock_22 : decode cX12_unlock 22 = .ok (.iload_n 1, 1) := by decide +kernel
theorem dX12_unlock_23 : decode cX12_unlock 23 = .ok (.iconst (-1), 1) := by decide +kernel
theorem dX12_unlock_24 : decode cX12_unlock 24 = .ok (.iastore, 1) := by decide +kernel
theorem dX12_unlock_25 : decode cX12_unlock 25 = .ok (.aload_n 0, 1) := by decide +kernel
theorem dX12_unlock_26 : decode cX12_unlock 26 = .ok (.getfield 321, 3) := by decide +kernel
theorem dX12_unlock_29 : decode cX12_unlock 29 = .ok (.iload_n 1, 1) := by decide +kernel
theorem dX12_unlock_30 : decode cX12_unlock 30 = .ok (.iconst (-1), 1) := by decide +kernel
theorem dX12_unlock_31 : decode cX12_unlock 31 = .ok (.iastore, 1) := by decide +kernel
theorem dX12_unlock_32 : decode cX12_unlock 32 = .ok (.return_, 1) := by decide +kernel
theorem dX12_noTimers_0 : decode cX12_noTimers 0 = .ok (.iconst 0, 1) := by decide +kernel
theorem dX12_noTimers_1 : decode cX12_noTimers 1 = .ok (.istore_n 2, 1) := by decide +kernel
theorem dX12_noTimers_2 : decode cX12_noTimers 2 = .ok (.iload_n 2, 1) := by decide +kernel
theorem dX12_noTimers_3 : decode cX12_noTimers 3 = .ok (.iconst 3, 1) := by decide +kernel
theorem dX12_noTimers_4 : decode cX12_noTimers 4 = .ok (.if_icmp .ge 20, 3) := by decide +kernel
theorem dX12_noTimers_7 : decode cX12_noTimers 7 = .ok (.aload_n 0, 1) := by decide +kernel
theorem dX12_noTimers_8 : decode cX12_noTimers 8 = .ok (.getfield 333, 3) := by decide +kernel
theorem dX12_noTimers_11 : decode cX12_noTimers 11 = .ok (.iconst 3, 1) := by decide +kernel
theorem dX12_noTimers_12 : decode cX12_noTimers 12 = .ok (.iload_n 1, 1) := by decide +kernel
theorem dX12_noTimers_13 : decode cX12_noTimers 13 = .ok (.imul, 1) := by decide +kernel
theorem dX12_noTimers_14 : decode cX12_noTimers 14 = .ok (.iload_n 2, 1) := by decide +kernel
theorem dX12_noTimers_15 : decode cX12_noTimers 15 = .ok (.iadd, 1) := by decide +kernel
theorem dX12_noTimers_16 : decode cX12_noTimers 16 = .ok (.iconst (-1), 1) := by decide +kernel
theorem dX12_noTimers_17 : decode cX12_noTimers 17 = .ok (.iastore, 1) := by decide +kernel
theorem dX12_noTimers_18 : decode cX12_noTimers 18 = .ok (.iinc 2 1, 3) := by decide +kernel
theorem dX12_noTimers_21 : decode cX12_noTimers 21 = .ok (.goto (-19), 3) := by decide +kernel
theorem dX12_noTimers_24 : decode cX12_noTimers 24 = .ok (.return_, 1) := by decide +kernel
theorem dX12_heldAt_0 : decode cX12_heldAt 0 = .ok (.bipush 32, 2) := by decide +kernel
theorem dX12_heldAt_2 : decode cX12_heldAt 2 = .ok (.iload_n 0, 1) := by decide +kernel
theorem dX12_heldAt_3 : decode cX12_heldAt 3 = .ok (.imul, 1) := by decide +kernel
theorem dX12_heldAt_4 : decode cX12_heldAt 4 = .ok (.bipush 16, 2) := by decide +kernel
theorem dX12_heldAt_6 : decode cX12_heldAt 6 = .ok (.iload_n 1, 1) := by decide +kernel
theorem dX12_heldAt_7 : decode cX12_heldAt 7 = .ok (.iconst 2, 1) := by decide +kernel
theorem dX12_heldAt_8 : decode cX12_heldAt 8 = .ok (.irem, 1) := by decide +kernel
theorem dX12_heldAt_9 : decode cX12_heldAt 9 = .ok (.imul, 1) := by decide +kernel
theorem dX12_heldAt_10 : decode cX12_heldAt 10 = .ok (.iadd, 1) := by decide +kernel
theorem dX12_heldAt_11 : decode cX12_heldAt 11 = .ok (.iload_n 2, 1) := by decide +kernel
theorem dX12_heldAt_12 : decode cX12_heldAt 12 = .ok (.iadd, 1) := by decide +kernel
theorem dX12_heldAt_13 : decode cX12_heldAt 13 = .ok (.ireturn, 1) := by decide +kernel
theorem dX12_voteAt_0 : decode cX12_voteAt 0 = .ok (.bipush 13, 2) := by decide +kernel
theorem dX12_voteAt_2 : decode cX12_voteAt 2 = .ok (.iload_n 1, 1) := by decide +kernel
theorem dX12_voteAt_3 : decode cX12_voteAt 3 = .ok (.iload_n 2, 1) := by decide +kernel
theorem dX12_voteAt_4 : decode cX12_voteAt 4 = .ok (.iload_n 3, 1) := by decide +kernel
theorem dX12_voteAt_5 : decode cX12_voteAt 5 = .ok (.invokestatic 466, 3) := by decide +kernel
theorem dX12_voteAt_8 : decode cX12_voteAt 8 = .ok (.imul, 1) := by decide +kernel
theorem dX12_voteAt_9 : decode cX12_voteAt 9 = .ok (.iload 4, 2) := by decide +kernel
theorem dX12_voteAt_11 : decode cX12_voteAt 11 = .ok (.iadd, 1) := by decide +kernel
theorem dX12_voteAt_12 : decode cX12_voteAt 12 = .ok (.iload_n 0, 1) := by decide +kernel
theorem dX12_voteAt_13 : decode cX12_voteAt 13 = .ok (.ifCond .eq 9, 3) := by decide +kernel
theorem dX12_voteAt_16 : decode cX12_voteAt 16 = .ok (.sipush 5408, 3) := by decide +kernel
theorem dX12_voteAt_19 : decode cX12_voteAt 19 = .ok (.goto 4, 3) := by decide +kernel
theorem dX12_voteAt_22 : decode cX12_voteAt 22 = .ok (.iconst 0, 1) := by decide +kernel
theorem dX12_voteAt_23 : decode cX12_voteAt 23 = .ok (.iadd, 1) := by decide +kernel
theorem dX12_voteAt_24 : decode cX12_voteAt 24 = .ok (.ireturn, 1) := by decide +kernel
theorem dX12_forgetHeight_0 : decode cX12_forgetHeight 0 = .ok (.iconst 0, 1) := by decide +kernel
theorem dX12_forgetHeight_1 : decode cX12_forgetHeight 1 = .ok (.istore_n 3, 1) := by decide +kernel
theorem dX12_forgetHeight_2 : decode cX12_forgetHeight 2 = .ok (.iload_n 3, 1) := by decide +kernel
theorem dX12_forgetHeight_3 : decode cX12_forgetHeight 3 = .ok (.bipush 16, 2) := by decide +kernel
theorem dX12_forgetHeight_5 : decode cX12_forgetHeight 5 = .ok (.if_icmp .ge 67, 3) := by decide +kernel
theorem dX12_forgetHeight_8 : decode cX12_forgetHeight 8 = .ok (.aload_n 0, 1) := by decide +kernel
theorem dX12_forgetHeight_9 : decode cX12_forgetHeight 9 = .ok (.iconst 0, 1) := by decide +kernel
theorem dX12_forgetHeight_10 : decode cX12_forgetHeight 10 = .ok (.iload_n 1, 1) := by decide +kernel
theorem dX12_forgetHeight_11 : decode cX12_forgetHeight 11 = .ok (.iload_n 2, 1) := by decide +kernel
theorem dX12_forgetHeight_12 : decode cX12_forgetHeight 12 = .ok (.iload_n 3, 1) := by decide +kernel
theorem dX12_forgetHeight_13 : decode cX12_forgetHeight 13 = .ok (.invokestatic 466, 3) := by decide +kernel
theorem dX12_forgetHeight_16 : decode cX12_forgetHeight 16 = .ok (.iadd, 1) := by decide +kernel
theorem dX12_forgetHeight_17 : decode cX12_forgetHeight 17 = .ok (.invokevirtual 463, 3) := by decide +kernel
theorem dX12_forgetHeight_20 : decode cX12_forgetHeight 20 = .ok (.iconst 0, 1) := by decide +kernel
theorem dX12_forgetHeight_21 : decode cX12_forgetHeight 21 = .ok (.istore 4, 2) := by decide +kernel
theorem dX12_forgetHeight_23 : decode cX12_forgetHeight 23 = .ok (.iload 4, 2) := by decide +kernel
theorem dX12_forgetHeight_25 : decode cX12_forgetHeight 25 = .ok (.bipush 13, 2) := by decide +kernel
theorem dX12_forgetHeight_27 : decode cX12_forgetHeight 27 = .ok (.if_icmp .ge 39, 3) := by decide +kernel
theorem dX12_forgetHeight_30 : decode cX12_forgetHeight 30 = .ok (.aload_n 0, 1) := by decide +kernel
theorem dX12_forgetHeight_31 : decode cX12_forgetHeight 31 = .ok (.getfield 357, 3) := by decide +kernel
theorem dX12_forgetHeight_34 : decode cX12_forgetHeight 34 = .ok (.iconst 0, 1) := by decide +kernel
theorem dX12_forgetHeight_35 : decode cX12_forgetHeight 35 = .ok (.iload_n 1, 1) := by decide +kernel
theorem dX12_forgetHeight_36 : decode cX12_forgetHeight 36 = .ok (.iload_n 2, 1) := by decide +kernel
theorem dX12_forgetHeight_37 : decode cX12_forgetHeight 37 = .ok (.iload_n 3, 1) := by decide +kernel
theorem dX12_forgetHeight_38 : decode cX12_forgetHeight 38 = .ok (.iload 4, 2) := by decide +kernel
theorem dX12_forgetHeight_40 : decode cX12_forgetHeight 40 = .ok (.invokestatic 470, 3) := by decide +kernel
theorem dX12_forgetHeight_43 : decode cX12_forgetHeight 43 = .ok (.iconst 0, 1) := by decide +kernel
theorem dX12_forgetHeight_44 : decode cX12_forgetHeight 44 = .ok (.iastore, 1) := by decide +kernel
theorem dX12_forgetHeight_45 : decode cX12_forgetHeight 45 = .ok (.aload_n 0, 1) := by decide +kernel
theorem dX12_forgetHeight_46 : decode cX12_forgetHeight 46 = .ok (.getfield 357, 3) := by decide +kernel
theorem dX12_forgetHeight_49 : decode cX12_forgetHeight 49 = .ok (.iconst 1, 1) := by decide +kernel
theorem dX12_forgetHeight_50 : decode cX12_forgetHeight 50 = .ok (.iload_n 1, 1) := by decide +kernel
theorem dX12_forgetHeight_51 : decode cX12_forgetHeight 51 = .ok (.iload_n 2, 1) := by decide +kernel
theorem dX12_forgetHeight_52 : decode cX12_forgetHeight 52 = .ok (.iload_n 3, 1) := by decide +kernel
theorem dX12_forgetHeight_53 : decode cX12_forgetHeight 53 = .ok (.iload 4, 2) := by decide +kernel
theorem dX12_forgetHeight_55 : decode cX12_forgetHeight 55 = .ok (.invokestatic 470, 3) := by decide +kernel
theorem dX12_forgetHeight_58 : decode cX12_forgetHeight 58 = .ok (.iconst 0, 1) := by decide +kernel
theorem dX12_forgetHeight_59 : decode cX12_forgetHeight 59 = .ok (.iastore, 1) := by decide +kernel
theorem dX12_forgetHeight_60 : decode cX12_forgetHeight 60 = .ok (.iinc 4 1, 3) := by decide +kernel
theorem dX12_forgetHeight_63 : decode cX12_forgetHeight 63 = .ok (.goto (-40), 3) := by decide +kernel
theorem dX12_forgetHeight_66 : decode cX12_forgetHeight 66 = .ok (.iinc 3 1, 3) := by decide +kernel
theorem dX12_forgetHeight_69 : decode cX12_forgetHeight 69 = .ok (.goto (-67), 3) := by decide +kernel
theorem dX12_forgetHeight_72 : decode cX12_forgetHeight 72 = .ok (.return_, 1) := by decide +kernel
theorem dX12_forgetSaid_0 : decode cX12_forgetSaid 0 = .ok (.iconst 0, 1) := by decide +kernel
theorem dX12_forgetSaid_1 : decode cX12_forgetSaid 1 = .ok (.istore_n 2, 1) := by decide +kernel
theorem dX12_forgetSaid_2 : decode cX12_forgetSaid 2 = .ok (.iload_n 2, 1) := by decide +kernel
theorem dX12_forgetSaid_3 : decode cX12_forgetSaid 3 = .ok (.bipush 13, 2) := by decide +kernel
theorem dX12_forgetSaid_5 : decode cX12_forgetSaid 5 = .ok (.if_icmp .ge 23, 3) := by decide +kernel
theorem dX12_forgetSaid_8 : decode cX12_forgetSaid 8 = .ok (.aload_n 0, 1) := by decide +kernel
theorem dX12_forgetSaid_9 : decode cX12_forgetSaid 9 = .ok (.sipush 416, 3) := by decide +kernel
theorem dX12_forgetSaid_12 : decode cX12_forgetSaid 12 = .ok (.bipush 13, 2) := by decide +kernel
theorem dX12_forgetSaid_14 : decode cX12_forgetSaid 14 = .ok (.iload_n 1, 1) := by decide +kernel
theorem dX12_forgetSaid_15 : decode cX12_forgetSaid 15 = .ok (.imul, 1) := by decide +kernel
theorem dX12_forgetSaid_16 : decode cX12_forgetSaid 16 = .ok (.iadd, 1) := by decide +kernel
theorem dX12_forgetSaid_17 : decode cX12_forgetSaid 17 = .ok (.iload_n 2, 1) := by decide +kernel
theorem dX12_forgetSaid_18 : decode cX12_forgetSaid 18 = .ok (.iadd, 1) := by decide +kernel
theorem dX12_forgetSaid_19 : decode cX12_forgetSaid 19 = .ok (.invokevirtual 463, 3) := by decide +kernel
theorem dX12_forgetSaid_22 : decode cX12_forgetSaid 22 = .ok (.iinc 2 1, 3) := by decide +kernel
theorem dX12_forgetSaid_25 : decode cX12_forgetSaid 25 = .ok (.goto (-23), 3) := by decide +kernel
theorem dX12_forgetSaid_28 : decode cX12_forgetSaid 28 = .ok (.return_, 1) := by decide +kernel
theorem dX12_proposer_0 : decode cX12_proposer 0 = .ok (.iload_n 1, 1) := by decide +kernel
theorem dX12_proposer_1 : decode cX12_proposer 1 = .ok (.iload_n 2, 1) := by decide +kernel
theorem dX12_proposer_2 : decode cX12_proposer 2 = .ok (.iadd, 1) := by decide +kernel
theorem dX12_proposer_3 : decode cX12_proposer 3 = .ok (.aload_n 0, 1) := by decide +kernel
theorem dX12_proposer_4 : decode cX12_proposer 4 = .ok (.getfield 219, 3) := by decide +kernel
theorem dX12_proposer_7 : decode cX12_proposer 7 = .ok (.irem, 1) := by decide +kernel
theorem dX12_proposer_8 : decode cX12_proposer 8 = .ok (.ireturn, 1) := by decide +kernel
theorem dX12_fall_0 : decode cX12_fall 0 = .ok (.aload_n 0, 1) := by decide +kernel
theorem dX12_fall_1 : decode cX12_fall 1 = .ok (.getfield 305, 3) := by decide +kernel
theorem dX12_fall_4 : decode cX12_fall 4 = .ok (.iload_n 1, 1) := by decide +kernel
theorem dX12_fall_5 : decode cX12_fall 5 = .ok (.iconst 0, 1) := by decide +kernel
theorem dX12_fall_6 : decode cX12_fall 6 = .ok (.bastore, 1) := by decide +kernel
theorem dX12_fall_7 : decode cX12_fall 7 = .ok (.aload_n 0, 1) := by decide +kernel
theorem dX12_fall_8 : decode cX12_fall 8 = .ok (.getfield 336, 3) := by decide +kernel
theorem dX12_fall_11 : decode cX12_fall 11 = .ok (.iload_n 1, 1) := by decide +kernel
theorem dX12_fall_12 : decode cX12_fall 12 = .ok (.iconst 0, 1) := by decide +kernel
theorem dX12_fall_13 : decode cX12_fall 13 = .ok (.iastore, 1) := by decide +kernel
theorem dX12_fall_14 : decode cX12_fall 14 = .ok (.aload_n 0, 1) := by decide +kernel
theorem dX12_fall_15 : decode cX12_fall 15 = .ok (.iload_n 1, 1) := by decide +kernel
theorem dX12_fall_16 : decode cX12_fall 16 = .ok (.invokevirtual 454, 3) := by decide +kernel
theorem dX12_fall_19 : decode cX12_fall 19 = .ok (.aload_n 0, 1) := by decide +kernel
theorem dX12_fall_20 : decode cX12_fall 20 = .ok (.iload_n 1, 1) := by decide +kernel
theorem dX12_fall_21 : decode cX12_fall 21 = .ok (.iconst 0, 1) := by decide +kernel
theorem dX12_fall_22 : decode cX12_fall 22 = .ok (.invokevirtual 474, 3) := by decide +kernel
theorem dX12_fall_25 : decode cX12_fall 25 = .ok (.aload_n 0, 1) := by decide +kernel
theorem dX12_fall_26 : decode cX12_fall 26 = .ok (.iload_n 1, 1) := by decide +kernel
theorem dX12_fall_27 : decode cX12_fall 27 = .ok (.iconst 1, 1) := by decide +kernel
theorem dX12_fall_28 : decode cX12_fall 28 = .ok (.invokevirtual 474, 3) := by decide +kernel
theorem dX12_fall_31 : decode cX12_fall 31 = .ok (.aload_n 0, 1) := by decide +kernel
theorem dX12_fall_32 : decode cX12_fall 32 = .ok (.iload_n 1, 1) := by decide +kernel
theorem dX12_fall_33 : decode cX12_fall 33 = .ok (.invokevirtual 477, 3) := by decide +kernel
theorem dX12_fall_36 : decode cX12_fall 36 = .ok (.iconst 0, 1) := by decide +kernel
theorem dX12_fall_37 : decode cX12_fall 37 = .ok (.istore_n 2, 1) := by decide +kernel
theorem dX12_fall_38 : decode cX12_fall 38 = .ok (.iload_n 2, 1) := by decide +kernel
theorem dX12_fall_39 : decode cX12_fall 39 = .ok (.bipush 13, 2) := by decide +kernel
theorem dX12_fall_41 : decode cX12_fall 41 = .ok (.if_icmp .ge 33, 3) := by decide +kernel
theorem dX12_fall_44 : decode cX12_fall 44 = .ok (.aload_n 0, 1) := by decide +kernel
theorem dX12_fall_45 : decode cX12_fall 45 = .ok (.getfield 342, 3) := by decide +kernel
theorem dX12_fall_48 : decode cX12_fall 48 = .ok (.bipush 13, 2) := by decide +kernel
theorem dX12_fall_50 : decode cX12_fall 50 = .ok (.iload_n 1, 1) := by decide +kernel
theorem dX12_fall_51 : decode cX12_fall 51 = .ok (.imul, 1) := by decide +kernel
theorem dX12_fall_52 : decode cX12_fall 52 = .ok (.iload_n 2, 1) := by decide +kernel
theorem dX12_fall_53 : decode cX12_fall 53 = .ok (.iadd, 1) := by decide +kernel
theorem dX12_fall_54 : decode cX12_fall 54 = .ok (.iconst 0, 1) := by decide +kernel
theorem dX12_fall_55 : decode cX12_fall 55 = .ok (.iastore, 1) := by decide +kernel
theorem dX12_fall_56 : decode cX12_fall 56 = .ok (.aload_n 0, 1) := by decide +kernel
theorem dX12_fall_57 : decode cX12_fall 57 = .ok (.getfield 348, 3) := by decide +kernel
theorem dX12_fall_60 : decode cX12_fall 60 = .ok (.bipush 13, 2) := by decide +kernel
theorem dX12_fall_62 : decode cX12_fall 62 = .ok (.iload_n 1, 1) := by decide +kernel
theorem dX12_fall_63 : decode cX12_fall 63 = .ok (.imul, 1) := by decide +kernel
theorem dX12_fall_64 : decode cX12_fall 64 = .ok (.iload_n 2, 1) := by decide +kernel
theorem dX12_fall_65 : decode cX12_fall 65 = .ok (.iadd, 1) := by decide +kernel
theorem dX12_fall_66 : decode cX12_fall 66 = .ok (.iconst 0, 1) := by decide +kernel
theorem dX12_fall_67 : decode cX12_fall 67 = .ok (.iastore, 1) := by decide +kernel
theorem dX12_fall_68 : decode cX12_fall 68 = .ok (.iinc 2 1, 3) := by decide +kernel
theorem dX12_fall_71 : decode cX12_fall 71 = .ok (.goto (-33), 3) := by decide +kernel
theorem dX12_fall_74 : decode cX12_fall 74 = .ok (.return_, 1) := by decide +kernel
theorem dX12_noteByte_0 : decode cX12_noteByte 0 = .ok (.aload_n 0, 1) := by decide +kernel
theorem dX12_noteByte_1 : decode cX12_noteByte 1 = .ok (.getfield 390, 3) := by decide +kernel
theorem dX12_noteByte_4 : decode cX12_noteByte 4 = .ok (.aload_n 0, 1) := by decide +kernel
theorem dX12_noteByte_5 : decode cX12_noteByte 5 = .ok (.getfield 480, 3) := by decide +kernel
theorem dX12_noteByte_8 : decode cX12_noteByte 8 = .ok (.iload_n 1, 1) := by decide +kernel
theorem dX12_noteByte_9 : decode cX12_noteByte 9 = .ok (.sipush 255, 3) := by decide +kernel
theorem dX12_noteByte_12 : decode cX12_noteByte 12 = .ok (.iand, 1) := by decide +kernel
theorem dX12_noteByte_13 : decode cX12_noteByte 13 = .ok (.iastore, 1) := by decide +kernel
theorem dX12_noteByte_14 : decode cX12_noteByte 14 = .ok (.aload_n 0, 1) := by decide +kernel
theorem dX12_noteByte_15 : decode cX12_noteByte 15 = .ok (.aload_n 0, 1) := by decide +kernel
theorem dX12_noteByte_16 : decode cX12_noteByte 16 = .ok (.getfield 480, 3) := by decide +kernel
theorem dX12_noteByte_19 : decode cX12_noteByte 19 = .ok (.iconst 1, 1) := by decide +kernel
theorem dX12_noteByte_20 : decode cX12_noteByte 20 = .ok (.iadd, 1) := by decide +kernel
theorem dX12_noteByte_21 : decode cX12_noteByte 21 = .ok (.putfield 480, 3) := by decide +kernel
theorem dX12_noteByte_24 : decode cX12_noteByte 24 = .ok (.return_, 1) := by decide +kernel
theorem dX12_openNote_0 : decode cX12_openNote 0 = .ok (.aload_n 0, 1) := by decide +kernel
theorem dX12_openNote_1 : decode cX12_openNote 1 = .ok (.iconst 0, 1) := by decide +kernel
theorem dX12_openNote_2 : decode cX12_openNote 2 = .ok (.putfield 480, 3) := by decide +kernel
theorem dX12_openNote_5 : decode cX12_openNote 5 = .ok (.aload_n 0, 1) := by decide +kernel
theorem dX12_openNote_6 : decode cX12_openNote 6 = .ok (.iload_n 1, 1) := by decide +kernel
theorem dX12_openNote_7 : decode cX12_openNote 7 = .ok (.invokevirtual 483, 3) := by decide +kernel
theorem dX12_openNote_10 : decode cX12_openNote 10 = .ok (.aload_n 0, 1) := by decide +kernel
theorem dX12_openNote_11 : decode cX12_openNote 11 = .ok (.iload_n 2, 1) := by decide +kernel
theorem dX12_openNote_12 : decode cX12_openNote 12 = .ok (.bipush 8, 2) := by decide +kernel
theorem dX12_openNote_14 : decode cX12_openNote 14 = .ok (.ishr, 1) := by decide +kernel
theorem dX12_openNote_15 : decode cX12_openNote 15 = .ok (.invokevirtual 483, 3) := by decide +kernel
theorem dX12_openNote_18 : decode cX12_openNote 18 = .ok (.aload_n 0, 1) := by decide +kernel
theorem dX12_openNote_19 : decode cX12_openNote 19 = .ok (.iload_n 2, 1) := by decide +kernel
theorem dX12_openNote_20 : decode cX12_openNote 20 = .ok (.invokevirtual 483, 3) := by decide +kernel
theorem dX12_openNote_23 : decode cX12_openNote 23 = .ok (.aload_n 0, 1) := by decide +kernel
theorem dX12_openNote_24 : decode cX12_openNote 24 = .ok (.iload_n 3, 1) := by decide +kernel
theorem dX12_openNote_25 : decode cX12_openNote 25 = .ok (.invokevirtual 483, 3) := by decide +kernel
theorem dX12_openNote_28 : decode cX12_openNote 28 = .ok (.iconst 0, 1) := by decide +kernel
theorem dX12_openNote_29 : decode cX12_openNote 29 = .ok (.istore 4, 2) := by decide +kernel
theorem dX12_openNote_31 : decode cX12_openNote 31 = .ok (.iload 4, 2) := by decide +kernel
theorem dX12_openNote_33 : decode cX12_openNote 33 = .ok (.iconst 4, 1) := by decide +kernel
theorem dX12_openNote_34 : decode cX12_openNote 34 = .ok (.if_icmp .ge 14, 3) := by decide +kernel
theorem dX12_openNote_37 : decode cX12_openNote 37 = .ok (.aload_n 0, 1) := by decide +kernel
theorem dX12_openNote_38 : decode cX12_openNote 38 = .ok (.iconst 0, 1) := by decide +kernel
theorem dX12_openNote_39 : decode cX12_openNote 39 = .ok (.invokevirtual 483, 3) := by decide +kernel
theorem dX12_openNote_42 : decode cX12_openNote 42 = .ok (.iinc 4 1, 3) := by decide +kernel
theorem dX12_openNote_45 : decode cX12_openNote 45 = .ok (.goto (-14), 3) := by decide +kernel
theorem dX12_openNote_48 : decode cX12_openNote 48 = .ok (.return_, 1) := by decide +kernel
theorem dX12_noteBlock_0 : decode cX12_noteBlock 0 = .ok (.iconst 0, 1) := by decide +kernel
theorem dX12_noteBlock_1 : decode cX12_noteBlock 1 = .ok (.istore_n 2, 1) := by decide +kernel
theorem dX12_noteBlock_2 : decode cX12_noteBlock 2 = .ok (.iload_n 2, 1) := by decide +kernel
theorem dX12_noteBlock_3 : decode cX12_noteBlock 3 = .ok (.aload_n 0, 1) := by decide +kernel
theorem dX12_noteBlock_4 : decode cX12_noteBlock 4 = .ok (.getfield 57, 3) := by decide +kernel
theorem dX12_noteBlock_7 : decode cX12_noteBlock 7 = .ok (.iload_n 1, 1) := by decide +kernel
theorem dX12_noteBlock_8 : decode cX12_noteBlock 8 = .ok (.iaload, 1) := by decide +kernel
theorem dX12_noteBlock_9 : decode cX12_noteBlock 9 = .ok (.if_icmp .ge 19, 3) := by decide +kernel
theorem dX12_noteBlock_12 : decode cX12_noteBlock 12 = .ok (.aload_n 0, 1) := by decide +kernel
theorem dX12_noteBlock_13 : decode cX12_noteBlock 13 = .ok (.aload_n 0, 1) := by decide +kernel
theorem dX12_noteBlock_14 : decode cX12_noteBlock 14 = .ok (.iload_n 1, 1) := by decide +kernel
theorem dX12_noteBlock_15 : decode cX12_noteBlock 15 = .ok (.iload_n 2, 1) := by decide +kernel
theorem dX12_noteBlock_16 : decode cX12_noteBlock 16 = .ok (.invokevirtual 67, 3) := by decide +kernel
theorem dX12_noteBlock_19 : decode cX12_noteBlock 19 = .ok (.invokevirtual 483, 3) := by decide +kernel
theorem dX12_noteBlock_22 : decode cX12_noteBlock 22 = .ok (.iinc 2 1, 3) := by decide +kernel
theorem dX12_noteBlock_25 : decode cX12_noteBlock 25 = .ok (.goto (-23), 3) := by decide +kernel
theorem dX12_noteBlock_28 : decode cX12_noteBlock 28 = .ok (.return_, 1) := by decide +kernel
theorem dX12_setSectorByte_0 : decode cX12_setSectorByte 0 = .ok (.bipush 56, 2) := by decide +kernel
theorem dX12_setSectorByte_2 : decode cX12_setSectorByte 2 = .ok (.bipush 8, 2) := by decide +kernel
theorem dX12_setSectorByte_4 : decode cX12_setSectorByte 4 = .ok (.iload_n 2, 1) := by decide +kernel
theorem dX12_setSectorByte_5 : decode cX12_setSectorByte 5 = .ok (.bipush 8, 2) := by decide +kernel
theorem dX12_setSectorByte_7 : decode cX12_setSectorByte 7 = .ok (.irem, 1) := by decide +kernel
theorem dX12_setSectorByte_8 : decode cX12_setSectorByte 8 = .ok (.imul, 1) := by decide +kernel
theorem dX12_setSectorByte_9 : decode cX12_setSectorByte 9 = .ok (.isub, 1) := by decide +kernel
theorem dX12_setSectorByte_10 : decode cX12_setSectorByte 10 = .ok (.istore 4, 2) := by decide +kernel
theorem dX12_setSectorByte_12 : decode cX12_setSectorByte 12 = .ok (.bipush 64, 2) := by decide +kernel
theorem dX12_setSectorByte_14 : decode cX12_setSectorByte 14 = .ok (.iload_n 1, 1) := by decide +kernel
theorem dX12_setSectorByte_15 : decode cX12_setSectorByte 15 = .ok (.imul, 1) := by decide +kernel
theorem dX12_setSectorByte_16 : decode cX12_setSectorByte 16 = .ok (.iload_n 2, 1) := by decide +kernel
theorem dX12_setSectorByte_17 : decode cX12_setSectorByte 17 = .ok (.bipush 8, 2) := by decide +kernel
theorem dX12_setSectorByte_19 : decode cX12_setSectorByte 19 = .ok (.idiv, 1) := by decide +kernel
theorem dX12_setSectorByte_20 : decode cX12_setSectorByte 20 = .ok (.iadd, 1) := by decide +kernel
theorem dX12_setSectorByte_21 : decode cX12_setSectorByte 21 = .ok (.istore 5, 2) := by decide +kernel
theorem dX12_setSectorByte_23 : decode cX12_setSectorByte 23 = .ok (.aload_n 0, 1) := by decide +kernel
theorem dX12_setSectorByte_24 : decode cX12_setSectorByte 24 = .ok (.getfield 394, 3) := by decide +kernel
theorem dX12_setSectorByte_27 : decode cX12_setSectorByte 27 = .ok (.iload 5, 2) := by decide +kernel
theorem dX12_setSectorByte_29 : decode cX12_setSectorByte 29 = .ok (.aload_n 0, 1) := by decide +kernel
theorem dX12_setSectorByte_30 : decode cX12_setSectorByte 30 = .ok (.getfield 394, 3) := by decide +kernel
theorem dX12_setSectorByte_33 : decode cX12_setSectorByte 33 = .ok (.iload 5, 2) := by decide +kernel
theorem dX12_setSectorByte_35 : decode cX12_setSectorByte 35 = .ok (.laload, 1) := by decide +kernel
theorem dX12_setSectorByte_36 : decode cX12_setSectorByte 36 = .ok (.ldc2_w 53, 3) := by decide +kernel
theorem dX12_setSectorByte_39 : decode cX12_setSectorByte 39 = .ok (.iload 4, 2) := by decide +kernel
theorem dX12_setSectorByte_41 : decode cX12_setSectorByte 41 = .ok (.lshl, 1) := by decide +kernel
theorem dX12_setSectorByte_42 : decode cX12_setSectorByte 42 = .ok (.ldc2_w 55, 3) := by decide +kernel
theorem dX12_setSectorByte_45 : decode cX12_setSectorByte 45 = .ok (.lxor, 1) := by decide +kernel
theorem dX12_setSectorByte_46 : decode cX12_setSectorByte 46 = .ok (.land, 1) := by decide +kernel
theorem dX12_setSectorByte_47 : decode cX12_setSectorByte 47 = .ok (.iload_n 3, 1) := by decide +kernel
theorem dX12_setSectorByte_48 : decode cX12_setSectorByte 48 = .ok (.i2l, 1) := by decide +kernel
theorem dX12_setSectorByte_49 : decode cX12_setSectorByte 49 = .ok (.iload 4, 2) := by decide +kernel
theorem dX12_setSectorByte_51 : decode cX12_setSectorByte 51 = .ok (.lshl, 1) := by decide +kernel
theorem dX12_setSectorByte_52 : decode cX12_setSectorByte 52 = .ok (.lor, 1) := by decide +kernel
theorem dX12_setSectorByte_53 : decode cX12_setSectorByte 53 = .ok (.lastore, 1) := by decide +kernel
theorem dX12_setSectorByte_54 : decode cX12_setSectorByte 54 = .ok (.return_, 1) := by decide +kernel
theorem dX12_closeNote_0 : decode cX12_closeNote 0 = .ok (.aload_n 0, 1) := by decide +kernel
theorem dX12_closeNote_1 : decode cX12_closeNote 1 = .ok (.getfield 390, 3) := by decide +kernel
theorem dX12_closeNote_4 : decode cX12_closeNote 4 = .ok (.iconst 4, 1) := by decide +kernel
theorem dX12_closeNote_5 : decode cX12_closeNote 5 = .ok (.aload_n 0, 1) := by decide +kernel
theorem dX12_closeNote_6 : decode cX12_closeNote 6 = .ok (.getfield 480, 3) := by decide +kernel
theorem dX12_closeNote_9 : decode cX12_closeNote 9 = .ok (.bipush 8, 2) := by decide +kernel
theorem dX12_closeNote_11 : decode cX12_closeNote 11 = .ok (.ishr, 1) := by decide +kernel
theorem dX12_closeNote_12 : decode cX12_closeNote 12 = .ok (.iastore, 1) := by decide +kernel
theorem dX12_closeNote_13 : decode cX12_closeNote 13 = .ok (.aload_n 0, 1) := by decide +kernel
theorem dX12_closeNote_14 : decode cX12_closeNote 14 = .ok (.getfield 390, 3) := by decide +kernel
theorem dX12_closeNote_17 : decode cX12_closeNote 17 = .ok (.iconst 5, 1) := by decide +kernel
theorem dX12_closeNote_18 : decode cX12_closeNote 18 = .ok (.aload_n 0, 1) := by decide +kernel
theorem dX12_closeNote_19 : decode cX12_closeNote 19 = .ok (.getfield 480, 3) := by decide +kernel
theorem dX12_closeNote_22 : decode cX12_closeNote 22 = .ok (.sipush 255, 3) := by decide +kernel
theorem dX12_closeNote_25 : decode cX12_closeNote 25 = .ok (.iand, 1) := by decide +kernel
theorem dX12_closeNote_26 : decode cX12_closeNote 26 = .ok (.iastore, 1) := by decide +kernel
theorem dX12_closeNote_27 : decode cX12_closeNote 27 = .ok (.aload_n 0, 1) := by decide +kernel
theorem dX12_closeNote_28 : decode cX12_closeNote 28 = .ok (.getfield 400, 3) := by decide +kernel
theorem dX12_closeNote_31 : decode cX12_closeNote 31 = .ok (.iload_n 1, 1) := by decide +kernel
theorem dX12_closeNote_32 : decode cX12_closeNote 32 = .ok (.iaload, 1) := by decide +kernel
theorem dX12_closeNote_33 : decode cX12_closeNote 33 = .ok (.iconst 1, 1) := by decide +kernel
theorem dX12_closeNote_34 : decode cX12_closeNote 34 = .ok (.if_icmp .ne 7, 3) := by decide +kernel
theorem dX12_closeNote_37 : decode cX12_closeNote 37 = .ok (.iconst 1, 1) := by decide +kernel
theorem dX12_closeNote_38 : decode cX12_closeNote 38 = .ok (.goto 4, 3) := by decide +kernel
theorem dX12_closeNote_41 : decode cX12_closeNote 41 = .ok (.iconst 0, 1) := by decide +kernel
theorem dX12_closeNote_42 : decode cX12_closeNote 42 = .ok (.istore_n 3, 1) := by decide +kernel
theorem dX12_closeNote_43 : decode cX12_closeNote 43 = .ok (.aload_n 0, 1) := by decide +kernel
theorem dX12_closeNote_44 : decode cX12_closeNote 44 = .ok (.getfield 400, 3) := by decide +kernel
theorem dX12_closeNote_47 : decode cX12_closeNote 47 = .ok (.iload_n 1, 1) := by decide +kernel
theorem dX12_closeNote_48 : decode cX12_closeNote 48 = .ok (.aload_n 0, 1) := by decide +kernel
theorem dX12_closeNote_49 : decode cX12_closeNote 49 = .ok (.getfield 400, 3) := by decide +kernel
theorem dX12_closeNote_52 : decode cX12_closeNote 52 = .ok (.iload_n 1, 1) := by decide +kernel
theorem dX12_closeNote_53 : decode cX12_closeNote 53 = .ok (.iaload, 1) := by decide +kernel
theorem dX12_closeNote_54 : decode cX12_closeNote 54 = .ok (.ifCond .le 14, 3) := by decide +kernel
theorem dX12_closeNote_57 : decode cX12_closeNote 57 = .ok (.aload_n 0, 1) := by decide +kernel
theorem dX12_closeNote_58 : decode cX12_closeNote 58 = .ok (.getfield 400, 3) := by decide +kernel
theorem dX12_closeNote_61 : decode cX12_closeNote 61 = .ok (.iload_n 1, 1) := by decide +kernel
theorem dX12_closeNote_62 : decode cX12_closeNote 62 = .ok (.iaload, 1) := by decide +kernel
theorem dX12_closeNote_63 : decode cX12_closeNote 63 = .ok (.iconst 1, 1) := by decide +kernel
theorem dX12_closeNote_64 : decode cX12_closeNote 64 = .ok (.isub, 1) := by decide +kernel
theorem dX12_closeNote_65 : decode cX12_closeNote 65 = .ok (.goto 4, 3) := by decide +kernel
theorem dX12_closeNote_68 : decode cX12_closeNote 68 = .ok (.iconst 0, 1) := by decide +kernel
theorem dX12_closeNote_69 : decode cX12_closeNote 69 = .ok (.iastore, 1) := by decide +kernel
theorem dX12_closeNote_70 : decode cX12_closeNote 70 = .ok (.aload_n 0, 1) := by decide +kernel
theorem dX12_closeNote_71 : decode cX12_closeNote 71 = .ok (.getfield 480, 3) := by decide +kernel
theorem dX12_closeNote_74 : decode cX12_closeNote 74 = .ok (.sipush 511, 3) := by decide +kernel
theorem dX12_closeNote_77 : decode cX12_closeNote 77 = .ok (.iadd, 1) := by decide +kernel
theorem dX12_closeNote_78 : decode cX12_closeNote 78 = .ok (.sipush 512, 3) := by decide +kernel
theorem dX12_closeNote_81 : decode cX12_closeNote 81 = .ok (.idiv, 1) := by decide +kernel
theorem dX12_closeNote_82 : decode cX12_closeNote 82 = .ok (.istore 4, 2) := by decide +kernel
theorem dX12_closeNote_84 : decode cX12_closeNote 84 = .ok (.iconst 0, 1) := by decide +kernel
theorem dX12_closeNote_85 : decode cX12_closeNote 85 = .ok (.istore 5, 2) := by decide +kernel
theorem dX12_closeNote_87 : decode cX12_closeNote 87 = .ok (.iload 5, 2) := by decide +kernel
theorem dX12_closeNote_89 : decode cX12_closeNote 89 = .ok (.iload 4, 2) := by decide +kernel
theorem dX12_closeNote_91 : decode cX12_closeNote 91 = .ok (.if_icmp .ge 176, 3) := by decide +kernel
theorem dX12_closeNote_94 : decode cX12_closeNote 94 = .ok (.sipush 284, 3) := by decide +kernel
theorem dX12_closeNote_97 : decode cX12_closeNote 97 = .ok (.iload_n 1, 1) := by decide +kernel
theorem dX12_closeNote_98 : decode cX12_closeNote 98 = .ok (.imul, 1) := by decide +kernel
theorem dX12_closeNote_99 : decode cX12_closeNote 99 = .ok (.iload_n 2, 1) := by decide +kernel
theorem dX12_closeNote_100 : decode cX12_closeNote 100 = .ok (.iadd, 1) := by decide +kernel
theorem dX12_closeNote_101 : decode cX12_closeNote 101 = .ok (.iload 5, 2) := by decide +kernel
theorem dX12_closeNote_103 : decode cX12_closeNote 103 = .ok (.iadd, 1) := by decide +kernel
theorem dX12_closeNote_104 : decode cX12_closeNote 104 = .ok (.istore 6, 2) := by decide +kernel
theorem dX12_closeNote_106 : decode cX12_closeNote 106 = .ok (.iload_n 3, 1) := by decide +kernel
theorem dX12_closeNote_107 : decode cX12_closeNote 107 = .ok (.ifCond .eq 16, 3) := by decide +kernel
theorem dX12_closeNote_110 : decode cX12_closeNote 110 = .ok (.iload 5, 2) := by decide +kernel
theorem dX12_closeNote_112 : decode cX12_closeNote 112 = .ok (.iload 4, 2) := by decide +kernel
theorem dX12_closeNote_114 : decode cX12_closeNote 114 = .ok (.iconst 1, 1) := by decide +kernel
theorem dX12_closeNote_115 : decode cX12_closeNote 115 = .ok (.isub, 1) := by decide +kernel
theorem dX12_closeNote_116 : decode cX12_closeNote 116 = .ok (.if_icmp .ne 7, 3) := by decide +kernel
theorem dX12_closeNote_119 : decode cX12_closeNote 119 = .ok (.iconst 1, 1) := by decide +kernel
theorem dX12_closeNote_120 : decode cX12_closeNote 120 = .ok (.goto 4, 3) := by decide +kernel
theorem dX12_closeNote_123 : decode cX12_closeNote 123 = .ok (.iconst 0, 1) := by decide +kernel
theorem dX12_closeNote_124 : decode cX12_closeNote 124 = .ok (.istore 7, 2) := by decide +kernel
theorem dX12_closeNote_126 : decode cX12_closeNote 126 = .ok (.aload_n 0, 1) := by decide +kernel
theorem dX12_closeNote_127 : decode cX12_closeNote 127 = .ok (.getfield 480, 3) := by decide +kernel
theorem dX12_closeNote_130 : decode cX12_closeNote 130 = .ok (.sipush 512, 3) := by decide +kernel
theorem dX12_closeNote_133 : decode cX12_closeNote 133 = .ok (.iload 5, 2) := by decide +kernel
theorem dX12_closeNote_135 : decode cX12_closeNote 135 = .ok (.imul, 1) := by decide +kernel
theorem dX12_closeNote_136 : decode cX12_closeNote 136 = .ok (.isub, 1) := by decide +kernel
theorem dX12_closeNote_137 : decode cX12_closeNote 137 = .ok (.sipush 512, 3) := by decide +kernel
theorem dX12_closeNote_140 : decode cX12_closeNote 140 = .ok (.if_icmp .ge 17, 3) := by decide +kernel
theorem dX12_closeNote_143 : decode cX12_closeNote 143 = .ok (.aload_n 0, 1) := by decide +kernel
theorem dX12_closeNote_144 : decode cX12_closeNote 144 = .ok (.getfield 480, 3) := by decide +kernel
theorem dX12_closeNote_147 : decode cX12_closeNote 147 = .ok (.sipush 512, 3) := by decide +kernel
theorem dX12_closeNote_150 : decode cX12_closeNote 150 = .ok (.iload 5, 2) := by decide +kernel
theorem dX12_closeNote_152 : decode cX12_closeNote 152 = .ok (.imul, 1) := by decide +kernel
theorem dX12_closeNote_153 : decode cX12_closeNote 153 = .ok (.isub, 1) := by decide +kernel
theorem dX12_closeNote_154 : decode cX12_closeNote 154 = .ok (.goto 6, 3) := by decide +kernel
theorem dX12_closeNote_157 : decode cX12_closeNote 157 = .ok (.sipush 512, 3) := by decide +kernel
theorem dX12_closeNote_160 : decode cX12_closeNote 160 = .ok (.istore 8, 2) := by decide +kernel
theorem dX12_closeNote_162 : decode cX12_closeNote 162 = .ok (.iload 7, 2) := by decide +kernel
theorem dX12_closeNote_164 : decode cX12_closeNote 164 = .ok (.ifCond .eq 10, 3) := by decide +kernel
theorem dX12_closeNote_167 : decode cX12_closeNote 167 = .ok (.iload 8, 2) := by decide +kernel
theorem dX12_closeNote_169 : decode cX12_closeNote 169 = .ok (.iconst 2, 1) := by decide +kernel
theorem dX12_closeNote_170 : decode cX12_closeNote 170 = .ok (.idiv, 1) := by decide +kernel
theorem dX12_closeNote_171 : decode cX12_closeNote 171 = .ok (.goto 5, 3) := by decide +kernel
theorem dX12_closeNote_174 : decode cX12_closeNote 174 = .ok (.iload 8, 2) := by decide +kernel
theorem dX12_closeNote_176 : decode cX12_closeNote 176 = .ok (.istore 8, 2) := by decide +kernel
theorem dX12_closeNote_178 : decode cX12_closeNote 178 = .ok (.iconst 0, 1) := by decide +kernel
theorem dX12_closeNote_179 : decode cX12_closeNote 179 = .ok (.istore 9, 2) := by decide +kernel
theorem dX12_closeNote_181 : decode cX12_closeNote 181 = .ok (.iload 9, 2) := by decide +kernel
theorem dX12_closeNote_183 : decode cX12_closeNote 183 = .ok (.iload 8, 2) := by decide +kernel
theorem dX12_closeNote_185 : decode cX12_closeNote 185 = .ok (.if_icmp .ge 31, 3) := by decide +kernel
theorem dX12_closeNote_188 : decode cX12_closeNote 188 = .ok (.aload_n 0, 1) := by decide +kernel
theorem dX12_closeNote_189 : decode cX12_closeNote 189 = .ok (.iload 6, 2) := by decide +kernel
theorem dX12_closeNote_191 : decode cX12_closeNote 191 = .ok (.iload 9, 2) := by decide +kernel
theorem dX12_closeNote_193 : decode cX12_closeNote 193 = .ok (.aload_n 0, 1) := by decide +kernel
theorem dX12_closeNote_194 : decode cX12_closeNote 194 = .ok (.getfield 390, 3) := by decide +kernel
theorem dX12_closeNote_197 : decode cX12_closeNote 197 = .ok (.sipush 512, 3) := by decide +kernel
theorem dX12_closeNote_200 : decode cX12_closeNote 200 = .ok (.iload 5, 2) := by decide +kernel
theorem dX12_closeNote_202 : decode cX12_closeNote 202 = .ok (.imul, 1) := by decide +kernel
theorem dX12_closeNote_203 : decode cX12_closeNote 203 = .ok (.iload 9, 2) := by decide +kernel
theorem dX12_closeNote_205 : decode cX12_closeNote 205 = .ok (.iadd, 1) := by decide +kernel
theorem dX12_closeNote_206 : decode cX12_closeNote 206 = .ok (.iaload, 1) := by decide +kernel
theorem dX12_closeNote_207 : decode cX12_closeNote 207 = .ok (.invokevirtual 486, 3) := by decide +kernel
theorem dX12_closeNote_210 : decode cX12_closeNote 210 = .ok (.iinc 9 1, 3) := by decide +kernel
theorem dX12_closeNote_213 : decode cX12_closeNote 213 = .ok (.goto (-32), 3) := by decide +kernel
theorem dX12_closeNote_216 : decode cX12_closeNote 216 = .ok (.aload_n 0, 1) := by decide +kernel
theorem dX12_closeNote_217 : decode cX12_closeNote 217 = .ok (.getfield 397, 3) := by decide +kernel
theorem dX12_closeNote_220 : decode cX12_closeNote 220 = .ok (.iload 6, 2) := by decide +kernel
theorem dX12_closeNote_222 : decode cX12_closeNote 222 = .ok (.iload 7, 2) := by decide +kernel
theorem dX12_closeNote_224 : decode cX12_closeNote 224 = .ok (.ifCond .ne 7, 3) := by decide +kernel
theorem dX12_closeNote_227 : decode cX12_closeNote 227 = .ok (.iconst 1, 1) := by decide +kernel
theorem dX12_closeNote_228 : decode cX12_closeNote 228 = .ok (.goto 4, 3) := by decide +kernel
theorem dX12_closeNote_231 : decode cX12_closeNote 231 = .ok (.iconst 0, 1) := by decide +kernel
theorem dX12_closeNote_232 : decode cX12_closeNote 232 = .ok (.bastore, 1) := by decide +kernel
theorem dX12_closeNote_233 : decode cX12_closeNote 233 = .ok (.aload_n 0, 1) := by decide +kernel
theorem dX12_closeNote_234 : decode cX12_closeNote 234 = .ok (.getfield 406, 3) := by decide +kernel
theorem dX12_closeNote_237 : decode cX12_closeNote 237 = .ok (.iload_n 1, 1) := by decide +kernel
theorem dX12_closeNote_238 : decode cX12_closeNote 238 = .ok (.iload 7, 2) := by decide +kernel
theorem dX12_closeNote_240 : decode cX12_closeNote 240 = .ok (.ifCond .eq 12, 3) := by decide +kernel
theorem dX12_closeNote_243 : decode cX12_closeNote 243 = .ok (.aload_n 0, 1) := by decide +kernel
theorem dX12_closeNote_244 : decode cX12_closeNote 244 = .ok (.getfield 406, 3) := by decide +kernel
theorem dX12_closeNote_247 : decode cX12_closeNote 247 = .ok (.iload_n 1, 1) := by decide +kernel
theorem dX12_closeNote_248 : decode cX12_closeNote 248 = .ok (.iaload, 1) := by decide +kernel
theorem dX12_closeNote_249 : decode cX12_closeNote 249 = .ok (.goto 11, 3) := by decide +kernel
theorem dX12_closeNote_252 : decode cX12_closeNote 252 = .ok (.aload_n 0, 1) := by decide +kernel
theorem dX12_closeNote_253 : decode cX12_closeNote 253 = .ok (.getfield 406, 3) := by decide +kernel
theorem dX12_closeNote_256 : decode cX12_closeNote 256 = .ok (.iload_n 1, 1) := by decide +kernel
theorem dX12_closeNote_257 : decode cX12_closeNote 257 = .ok (.iaload, 1) := by decide +kernel
theorem dX12_closeNote_258 : decode cX12_closeNote 258 = .ok (.iconst 1, 1) := by decide +kernel
theorem dX12_closeNote_259 : decode cX12_closeNote 259 = .ok (.iadd, 1) := by decide +kernel
theorem dX12_closeNote_260 : decode cX12_closeNote 260 = .ok (.iastore, 1) := by decide +kernel
theorem dX12_closeNote_261 : decode cX12_closeNote 261 = .ok (.iinc 5 1, 3) := by decide +kernel
theorem dX12_closeNote_264 : decode cX12_closeNote 264 = .ok (.goto (-177), 3) := by decide +kernel
theorem dX12_closeNote_267 : decode cX12_closeNote 267 = .ok (.iload_n 3, 1) := by decide +kernel
theorem dX12_closeNote_268 : decode cX12_closeNote 268 = .ok (.ifCond .eq 10, 3) := by decide +kernel
theorem dX12_closeNote_271 : decode cX12_closeNote 271 = .ok (.aload_n 0, 1) := by decide +kernel
theorem dX12_closeNote_272 : decode cX12_closeNote 272 = .ok (.iload_n 1, 1) := by decide +kernel
theorem dX12_closeNote_273 : decode cX12_closeNote 273 = .ok (.invokevirtual 489, 3) := by decide +kernel
theorem dX12_closeNote_276 : decode cX12_closeNote 276 = .ok (.iconst 0, 1) := by decide +kernel
theorem dX12_closeNote_277 : decode cX12_closeNote 277 = .ok (.ireturn, 1) := by decide +kernel
theorem dX12_closeNote_278 : decode cX12_closeNote 278 = .ok (.aload_n 0, 1) := by decide +kernel
theorem dX12_closeNote_279 : decode cX12_closeNote 279 = .ok (.getfield 403, 3) := by decide +kernel
theorem dX12_closeNote_282 : decode cX12_closeNote 282 = .ok (.iload_n 1, 1) := by decide +kernel
theorem dX12_closeNote_283 : decode cX12_closeNote 283 = .ok (.aload_n 0, 1) := by decide +kernel
theorem dX12_closeNote_284 : decode cX12_closeNote 284 = .ok (.getfield 403, 3) := by decide +kernel
theorem dX12_closeNote_287 : decode cX12_closeNote 287 = .ok (.iload_n 1, 1) := by decide +kernel
theorem dX12_closeNote_288 : decode cX12_closeNote 288 = .ok (.iaload, 1) := by decide +kernel
theorem dX12_closeNote_289 : decode cX12_closeNote 289 = .ok (.iconst 1, 1) := by decide +kernel
theorem dX12_closeNote_290 : decode cX12_closeNote 290 = .ok (.iadd, 1) := by decide +kernel
theorem dX12_closeNote_291 : decode cX12_closeNote 291 = .ok (.iastore, 1) := by decide +kernel
theorem dX12_closeNote_292 : decode cX12_closeNote 292 = .ok (.iconst 1, 1) := by decide +kernel
theorem dX12_closeNote_293 : decode cX12_closeNote 293 = .ok (.ireturn, 1) := by decide +kernel
theorem dX12_openOwn_0 : decode cX12_openOwn 0 = .ok (.aload_n 0, 1) := by decide +kernel
theorem dX12_openOwn_1 : decode cX12_openOwn 1 = .ok (.iload_n 2, 1) := by decide +kernel
theorem dX12_openOwn_2 : decode cX12_openOwn 2 = .ok (.aload_n 0, 1) := by decide +kernel
theorem dX12_openOwn_3 : decode cX12_openOwn 3 = .ok (.getfield 309, 3) := by decide +kernel
theorem dX12_openOwn_6 : decode cX12_openOwn 6 = .ok (.iload_n 1, 1) := by decide +kernel
theorem dX12_openOwn_7 : decode cX12_openOwn 7 = .ok (.iaload, 1) := by decide +kernel
theorem dX12_openOwn_8 : decode cX12_openOwn 8 = .ok (.aload_n 0, 1) := by decide +kernel
theorem dX12_openOwn_9 : decode cX12_openOwn 9 = .ok (.getfield 409, 3) := by decide +kernel
theorem dX12_openOwn_12 : decode cX12_openOwn 12 = .ok (.iload_n 1, 1) := by decide +kernel
theorem dX12_openOwn_13 : decode cX12_openOwn 13 = .ok (.iaload, 1) := by decide +kernel
theorem dX12_openOwn_14 : decode cX12_openOwn 14 = .ok (.invokevirtual 492, 3) := by decide +kernel
theorem dX12_openOwn_17 : decode cX12_openOwn 17 = .ok (.return_, 1) := by decide +kernel
theorem dX12_closeOwn_0 : decode cX12_closeOwn 0 = .ok (.aload_n 0, 1) := by decide +kernel
theorem dX12_closeOwn_1 : decode cX12_closeOwn 1 = .ok (.iload_n 1, 1) := by decide +kernel
theorem dX12_closeOwn_2 : decode cX12_closeOwn 2 = .ok (.bipush 80, 2) := by decide +kernel
theorem dX12_closeOwn_4 : decode cX12_closeOwn 4 = .ok (.iconst 2, 1) := by decide +kernel
theorem dX12_closeOwn_5 : decode cX12_closeOwn 5 = .ok (.aload_n 0, 1) := by decide +kernel
theorem dX12_closeOwn_6 : decode cX12_closeOwn 6 = .ok (.getfield 409, 3) := by decide +kernel
theorem dX12_closeOwn_9 : decode cX12_closeOwn 9 = .ok (.iload_n 1, 1) := by decide +kernel
theorem dX12_closeOwn_10 : decode cX12_closeOwn 10 = .ok (.iaload, 1) := by decide +kernel
theorem dX12_closeOwn_11 : decode cX12_closeOwn 11 = .ok (.imul, 1) := by decide +kernel
theorem dX12_closeOwn_12 : decode cX12_closeOwn 12 = .ok (.iadd, 1) := by decide +kernel
theorem dX12_closeOwn_13 : decode cX12_closeOwn 13 = .ok (.invokevirtual 495, 3) := by decide +kernel
theorem dX12_closeOwn_16 : decode cX12_closeOwn 16 = .ok (.istore_n 2, 1) := by decide +kernel
theorem dX12_closeOwn_17 : decode cX12_closeOwn 17 = .ok (.aload_n 0, 1) := by decide +kernel
theorem dX12_closeOwn_18 : decode cX12_closeOwn 18 = .ok (.getfield 409, 3) := by decide +kernel
theorem dX12_closeOwn_21 : decode cX12_closeOwn 21 = .ok (.iload_n 1, 1) := by decide +kernel
theorem dX12_closeOwn_22 : decode cX12_closeOwn 22 = .ok (.iload_n 2, 1) := by decide +kernel
theorem dX12_closeOwn_23 : decode cX12_closeOwn 23 = .ok (.ifCond .eq 14, 3) := by decide +kernel
theorem dX12_closeOwn_26 : decode cX12_closeOwn 26 = .ok (.aload_n 0, 1) := by decide +kernel
theorem dX12_closeOwn_27 : decode cX12_closeOwn 27 = .ok (.getfield 409, 3) := by decide +kernel
theorem dX12_closeOwn_30 : decode cX12_closeOwn 30 = .ok (.iload_n 1, 1) := by decide +kernel
theorem dX12_closeOwn_31 : decode cX12_closeOwn 31 = .ok (.iaload, 1) := by decide +kernel
theorem dX12_closeOwn_32 : decode cX12_closeOwn 32 = .ok (.iconst 1, 1) := by decide +kernel
theorem dX12_closeOwn_33 : decode cX12_closeOwn 33 = .ok (.iadd, 1) := by decide +kernel
theorem dX12_closeOwn_34 : decode cX12_closeOwn 34 = .ok (.goto 9, 3) := by decide +kernel
theorem dX12_closeOwn_37 : decode cX12_closeOwn 37 = .ok (.aload_n 0, 1) := by decide +kernel
theorem dX12_closeOwn_38 : decode cX12_closeOwn 38 = .ok (.getfield 409, 3) := by decide +kernel
theorem dX12_closeOwn_41 : decode cX12_closeOwn 41 = .ok (.iload_n 1, 1) := by decide +kernel
theorem dX12_closeOwn_42 : decode cX12_closeOwn 42 = .ok (.iaload, 1) := by decide +kernel
theorem dX12_closeOwn_43 : decode cX12_closeOwn 43 = .ok (.iastore, 1) := by decide +kernel
theorem dX12_closeOwn_44 : decode cX12_closeOwn 44 = .ok (.iload_n 2, 1) := by decide +kernel
theorem dX12_closeOwn_45 : decode cX12_closeOwn 45 = .ok (.ireturn, 1) := by decide +kernel
theorem dX12_noteRound_0 : decode cX12_noteRound 0 = .ok (.aload_n 0, 1) := by decide +kernel
theorem dX12_noteRound_1 : decode cX12_noteRound 1 = .ok (.iload_n 1, 1) := by decide +kernel
theorem dX12_noteRound_2 : decode cX12_noteRound 2 = .ok (.iconst 2, 1) := by decide +kernel
theorem dX12_noteRound_3 : decode cX12_noteRound 3 = .ok (.invokevirtual 498, 3) := by decide +kernel
theorem dX12_noteRound_6 : decode cX12_noteRound 6 = .ok (.aload_n 0, 1) := by decide +kernel
theorem dX12_noteRound_7 : decode cX12_noteRound 7 = .ok (.iload_n 2, 1) := by decide +kernel
theorem dX12_noteRound_8 : decode cX12_noteRound 8 = .ok (.invokevirtual 483, 3) := by decide +kernel
theorem dX12_noteRound_11 : decode cX12_noteRound 11 = .ok (.aload_n 0, 1) := by decide +kernel
theorem dX12_noteRound_12 : decode cX12_noteRound 12 = .ok (.iload_n 1, 1) := by decide +kernel
theorem dX12_noteRound_13 : decode cX12_noteRound 13 = .ok (.invokevirtual 501, 3) := by decide +kernel
theorem dX12_noteRound_16 : decode cX12_noteRound 16 = .ok (.ireturn, 1) := by decide +kernel
theorem dX12_noteSent_0 : decode cX12_noteSent 0 = .ok (.aload_n 0, 1) := by decide +kernel
theorem dX12_noteSent_1 : decode cX12_noteSent 1 = .ok (.iload_n 1, 1) := by decide +kernel
theorem dX12_noteSent_2 : decode cX12_noteSent 2 = .ok (.iconst 3, 1) := by decide +kernel
theorem dX12_noteSent_3 : decode cX12_noteSent 3 = .ok (.invokevirtual 498, 3) := by decide +kernel
theorem dX12_noteSent_6 : decode cX12_noteSent 6 = .ok (.aload_n 0, 1) := by decide +kernel
theorem dX12_noteSent_7 : decode cX12_noteSent 7 = .ok (.iload_n 2, 1) := by decide +kernel
theorem dX12_noteSent_8 : decode cX12_noteSent 8 = .ok (.invokevirtual 483, 3) := by decide +kernel
theorem dX12_noteSent_11 : decode cX12_noteSent 11 = .ok (.iconst 0, 1) := by decide +kernel
theorem dX12_noteSent_12 : decode cX12_noteSent 12 = .ok (.istore_n 3, 1) := by decide +kernel
theorem dX12_noteSent_13 : decode cX12_noteSent 13 = .ok (.iload_n 3, 1) := by decide +kernel
theorem dX12_noteSent_14 : decode cX12_noteSent 14 = .ok (.aload_n 0, 1) := by decide +kernel
theorem dX12_noteSent_15 : decode cX12_noteSent 15 = .ok (.getfield 201, 3) := by decide +kernel
theorem dX12_noteSent_18 : decode cX12_noteSent 18 = .ok (.if_icmp .ge 19, 3) := by decide +kernel
theorem dX12_noteSent_21 : decode cX12_noteSent 21 = .ok (.aload_n 0, 1) := by decide +kernel
theorem dX12_noteSent_22 : decode cX12_noteSent 22 = .ok (.aload_n 0, 1) := by decide +kernel
theorem dX12_noteSent_23 : decode cX12_noteSent 23 = .ok (.getfield 204, 3) := by decide +kernel
theorem dX12_noteSent_26 : decode cX12_noteSent 26 = .ok (.iload_n 3, 1) := by decide +kernel
theorem dX12_noteSent_27 : decode cX12_noteSent 27 = .ok (.iaload, 1) := by decide +kernel
theorem dX12_noteSent_28 : decode cX12_noteSent 28 = .ok (.invokevirtual 483, 3) := by decide +kernel
theorem dX12_noteSent_31 : decode cX12_noteSent 31 = .ok (.iinc 3 1, 3) := by decide +kernel
theorem dX12_noteSent_34 : decode cX12_noteSent 34 = .ok (.goto (-21), 3) := by decide +kernel
theorem dX12_noteSent_37 : decode cX12_noteSent 37 = .ok (.aload_n 0, 1) := by decide +kernel
theorem dX12_noteSent_38 : decode cX12_noteSent 38 = .ok (.iload_n 1, 1) := by decide +kernel
theorem dX12_noteSent_39 : decode cX12_noteSent 39 = .ok (.invokevirtual 501, 3) := by decide +kernel
theorem dX12_noteSent_42 : decode cX12_noteSent 42 = .ok (.ireturn, 1) := by decide +kernel
theorem dX12_noteLock_0 : decode cX12_noteLock 0 = .ok (.aload_n 0, 1) := by decide +kernel
theorem dX12_noteLock_1 : decode cX12_noteLock 1 = .ok (.iload_n 1, 1) := by decide +kernel
theorem dX12_noteLock_2 : decode cX12_noteLock 2 = .ok (.iload_n 2, 1) := by decide +kernel
theorem dX12_noteLock_3 : decode cX12_noteLock 3 = .ok (.invokevirtual 498, 3) := by decide +kernel
theorem dX12_noteLock_6 : decode cX12_noteLock 6 = .ok (.aload_n 0, 1) := by decide +kernel
theorem dX12_noteLock_7 : decode cX12_noteLock 7 = .ok (.aload_n 0, 1) := by decide +kernel
theorem dX12_noteLock_8 : decode cX12_noteLock 8 = .ok (.getfield 312, 3) := by decide +kernel
theorem dX12_noteLock_11 : decode cX12_noteLock 11 = .ok (.iload_n 1, 1) := by decide +kernel
theorem dX12_noteLock_12 : decode cX12_noteLock 12 = .ok (.iaload, 1) := by decide +kernel
theorem dX12_noteLock_13 : decode cX12_noteLock 13 = .ok (.invokevirtual 483, 3) := by decide +kernel
theorem dX12_noteLock_16 : decode cX12_noteLock 16 = .ok (.aload_n 0, 1) := by decide +kernel
theorem dX12_noteLock_17 : decode cX12_noteLock 17 = .ok (.iload_n 3, 1) := by decide +kernel
theorem dX12_noteLock_18 : decode cX12_noteLock 18 = .ok (.invokevirtual 504, 3) := by decide +kernel
theorem dX12_noteLock_21 : decode cX12_noteLock 21 = .ok (.aload_n 0, 1) := by decide +kernel
theorem dX12_noteLock_22 : decode cX12_noteLock 22 = .ok (.iload_n 1, 1) := by decide +kernel
theorem dX12_noteLock_23 : decode cX12_noteLock 23 = .ok (.invokevirtual 501, 3) := by decide +kernel
theorem dX12_noteLock_26 : decode cX12_noteLock 26 = .ok (.ireturn, 1) := by decide +kernel
theorem dX12_noteChain_0 : decode cX12_noteChain 0 = .ok (.aload_n 0, 1) := by decide +kernel
theorem dX12_noteChain_1 : decode cX12_noteChain 1 = .ok (.iconst 1, 1) := by decide +kernel
theorem dX12_noteChain_2 : decode cX12_noteChain 2 = .ok (.aload_n 0, 1) := by decide +kernel
theorem dX12_noteChain_3 : decode cX12_noteChain 3 = .ok (.getfield 309, 3) := by decide +kernel
theorem dX12_noteChain_6 : decode cX12_noteChain 6 = .ok (.iload_n 1, 1) := by decide +kernel
theorem dX12_noteChain_7 : decode cX12_noteChain 7 = .ok (.iaload, 1) := by decide +kernel
theorem dX12_noteChain_8 : decode cX12_noteChain 8 = .ok (.iconst 0, 1) := by decide +kernel
theorem dX12_noteChain_9 : decode cX12_noteChain 9 = .ok (.invokevirtual 492, 3) := by decide +kernel
theorem dX12_noteChain_12 : decode cX12_noteChain 12 = .ok (.aload_n 0, 1) := by decide +kernel
theorem dX12_noteChain_13 : decode cX12_noteChain 13 = .ok (.iload_n 2, 1) := by decide +kernel
theorem dX12_noteChain_14 : decode cX12_noteChain 14 = .ok (.invokevirtual 504, 3) := by decide +kernel
theorem dX12_noteChain_17 : decode cX12_noteChain 17 = .ok (.aload_n 0, 1) := by decide +kernel
theorem dX12_noteChain_18 : decode cX12_noteChain 18 = .ok (.iload_n 1, 1) := by decide +kernel
theorem dX12_noteChain_19 : decode cX12_noteChain 19 = .ok (.iconst 2, 1) := by decide +kernel
theorem dX12_noteChain_20 : decode cX12_noteChain 20 = .ok (.aload_n 0, 1) := by decide +kernel
theorem dX12_noteChain_21 : decode cX12_noteChain 21 = .ok (.getfield 309, 3) := by decide +kernel
theorem dX12_noteChain_24 : decode cX12_noteChain 24 = .ok (.iload_n 1, 1) := by decide +kernel
theorem dX12_noteChain_25 : decode cX12_noteChain 25 = .ok (.iaload, 1) := by decide +kernel
theorem dX12_noteChain_26 : decode cX12_noteChain 26 = .ok (.imul, 1) := by decide +kernel
theorem dX12_noteChain_27 : decode cX12_noteChain 27 = .ok (.iconst 2, 1) := by decide +kernel
theorem dX12_noteChain_28 : decode cX12_noteChain 28 = .ok (.isub, 1) := by decide +kernel
theorem dX12_noteChain_29 : decode cX12_noteChain 29 = .ok (.invokevirtual 495, 3) := by decide +kernel
theorem dX12_noteChain_32 : decode cX12_noteChain 32 = .ok (.ireturn, 1) := by decide +kernel
theorem dX12_noteSnap_0 : decode cX12_noteSnap 0 = .ok (.aload_n 0, 1) := by decide +kernel
theorem dX12_noteSnap_1 : decode cX12_noteSnap 1 = .ok (.bipush 6, 2) := by decide +kernel
theorem dX12_noteSnap_3 : decode cX12_noteSnap 3 = .ok (.aload_n 0, 1) := by decide +kernel
theorem dX12_noteSnap_4 : decode cX12_noteSnap 4 = .ok (.getfield 348, 3) := by decide +kernel
theorem dX12_noteSnap_7 : decode cX12_noteSnap 7 = .ok (.iload_n 2, 1) := by decide +kernel
theorem dX12_noteSnap_8 : decode cX12_noteSnap 8 = .ok (.iaload, 1) := by decide +kernel
theorem dX12_noteSnap_9 : decode cX12_noteSnap 9 = .ok (.iconst 0, 1) := by decide +kernel
theorem dX12_noteSnap_10 : decode cX12_noteSnap 10 = .ok (.invokevirtual 492, 3) := by decide +kernel
theorem dX12_noteSnap_13 : decode cX12_noteSnap 13 = .ok (.iconst 0, 1) := by decide +kernel
theorem dX12_noteSnap_14 : decode cX12_noteSnap 14 = .ok (.istore_n 3, 1) := by decide +kernel
theorem dX12_noteSnap_15 : decode cX12_noteSnap 15 = .ok (.iload_n 3, 1) := by decide +kernel
theorem dX12_noteSnap_16 : decode cX12_noteSnap 16 = .ok (.bipush 115, 2) := by decide +kernel
theorem dX12_noteSnap_18 : decode cX12_noteSnap 18 = .ok (.if_icmp .ge 24, 3) := by decide +kernel
theorem dX12_noteSnap_21 : decode cX12_noteSnap 21 = .ok (.aload_n 0, 1) := by decide +kernel
theorem dX12_noteSnap_22 : decode cX12_noteSnap 22 = .ok (.aload_n 0, 1) := by decide +kernel
theorem dX12_noteSnap_23 : decode cX12_noteSnap 23 = .ok (.getfield 351, 3) := by decide +kernel
theorem dX12_noteSnap_26 : decode cX12_noteSnap 26 = .ok (.bipush 115, 2) := by decide +kernel
theorem dX12_noteSnap_28 : decode cX12_noteSnap 28 = .ok (.iload_n 2, 1) := by decide +kernel
theorem dX12_noteSnap_29 : decode cX12_noteSnap 29 = .ok (.imul, 1) := by decide +kernel
theorem dX12_noteSnap_30 : decode cX12_noteSnap 30 = .ok (.iload_n 3, 1) := by decide +kernel
theorem dX12_noteSnap_31 : decode cX12_noteSnap 31 = .ok (.iadd, 1) := by decide +kernel
theorem dX12_noteSnap_32 : decode cX12_noteSnap 32 = .ok (.iaload, 1) := by decide +kernel
theorem dX12_noteSnap_33 : decode cX12_noteSnap 33 = .ok (.invokevirtual 483, 3) := by decide +kernel
theorem dX12_noteSnap_36 : decode cX12_noteSnap 36 = .ok (.iinc 3 1, 3) := by decide +kernel
theorem dX12_noteSnap_39 : decode cX12_noteSnap 39 = .ok (.goto (-24), 3) := by decide +kernel
theorem dX12_noteSnap_42 : decode cX12_noteSnap 42 = .ok (.aload_n 0, 1) := by decide +kernel
theorem dX12_noteSnap_43 : decode cX12_noteSnap 43 = .ok (.getfield 412, 3) := by decide +kernel
theorem dX12_noteSnap_46 : decode cX12_noteSnap 46 = .ok (.iload_n 1, 1) := by decide +kernel
theorem dX12_noteSnap_47 : decode cX12_noteSnap 47 = .ok (.iaload, 1) := by decide +kernel
theorem dX12_noteSnap_48 : decode cX12_noteSnap 48 = .ok (.sipush 280, 3) := by decide +kernel
theorem dX12_noteSnap_51 : decode cX12_noteSnap 51 = .ok (.if_icmp .ne 9, 3) := by decide +kernel
theorem dX12_noteSnap_54 : decode cX12_noteSnap 54 = .ok (.sipush 282, 3) := by decide +kernel
theorem dX12_noteSnap_57 : decode cX12_noteSnap 57 = .ok (.goto 6, 3) := by decide +kernel
theorem dX12_noteSnap_60 : decode cX12_noteSnap 60 = .ok (.sipush 280, 3) := by decide +kernel
theorem dX12_noteSnap_63 : decode cX12_noteSnap 63 = .ok (.istore_n 3, 1) := by decide +kernel
theorem dX12_noteSnap_64 : decode cX12_noteSnap 64 = .ok (.aload_n 0, 1) := by decide +kernel
theorem dX12_noteSnap_65 : decode cX12_noteSnap 65 = .ok (.iload_n 1, 1) := by decide +kernel
theorem dX12_noteSnap_66 : decode cX12_noteSnap 66 = .ok (.iload_n 3, 1) := by decide +kernel
theorem dX12_noteSnap_67 : decode cX12_noteSnap 67 = .ok (.invokevirtual 495, 3) := by decide +kernel
theorem dX12_noteSnap_70 : decode cX12_noteSnap 70 = .ok (.ifCond .ne 5, 3) := by decide +kernel
theorem dX12_noteSnap_73 : decode cX12_noteSnap 73 = .ok (.iconst 0, 1) := by decide +kernel
theorem dX12_noteSnap_74 : decode cX12_noteSnap 74 = .ok (.ireturn, 1) := by decide +kernel
theorem dX12_noteSnap_75 : decode cX12_noteSnap 75 = .ok (.aload_n 0, 1) := by decide +kernel
theorem dX12_noteSnap_76 : decode cX12_noteSnap 76 = .ok (.getfield 412, 3) := by decide +kernel
theorem dX12_noteSnap_79 : decode cX12_noteSnap 79 = .ok (.iload_n 1, 1) := by decide +kernel
theorem dX12_noteSnap_80 : decode cX12_noteSnap 80 = .ok (.iload_n 3, 1) := by decide +kernel
theorem dX12_noteSnap_81 : decode cX12_noteSnap 81 = .ok (.iastore, 1) := by decide +kernel
theorem dX12_noteSnap_82 : decode cX12_noteSnap 82 = .ok (.iconst 1, 1) := by decide +kernel
theorem dX12_noteSnap_83 : decode cX12_noteSnap 83 = .ok (.ireturn, 1) := by decide +kernel
theorem dX12_setVote_0 : decode cX12_setVote 0 = .ok (.aload_n 0, 1) := by decide +kernel
theorem dX12_setVote_1 : decode cX12_setVote 1 = .ok (.getfield 357, 3) := by decide +kernel
theorem dX12_setVote_4 : decode cX12_setVote 4 = .ok (.iload_n 1, 1) := by decide +kernel
theorem dX12_setVote_5 : decode cX12_setVote 5 = .ok (.iload_n 2, 1) := by decide +kernel
theorem dX12_setVote_6 : decode cX12_setVote 6 = .ok (.ifCond .eq 7, 3) := by decide +kernel
theorem dX12_setVote_9 : decode cX12_setVote 9 = .ok (.iconst 2, 1) := by decide +kernel
theorem dX12_setVote_10 : decode cX12_setVote 10 = .ok (.goto 4, 3) := by decide +kernel
theorem dX12_setVote_13 : decode cX12_setVote 13 = .ok (.iconst 1, 1) := by decide +kernel
theorem dX12_setVote_14 : decode cX12_setVote 14 = .ok (.iastore, 1) := by decide +kernel
theorem dX12_setVote_15 : decode cX12_setVote 15 = .ok (.aload_n 0, 1) := by decide +kernel
theorem dX12_setVote_16 : decode cX12_setVote 16 = .ok (.getfield 360, 3) := by decide +kernel
theorem dX12_setVote_19 : decode cX12_setVote 19 = .ok (.iload_n 1, 1) := by decide +kernel
theorem dX12_setVote_20 : decode cX12_setVote 20 = .ok (.lload_n 3, 1) := by decide +kernel
theorem dX12_setVote_21 : decode cX12_setVote 21 = .ok (.lastore, 1) := by decide +kernel
theorem dX12_setVote_22 : decode cX12_setVote 22 = .ok (.aload_n 0, 1) := by decide +kernel
theorem dX12_setVote_23 : decode cX12_setVote 23 = .ok (.getfield 363, 3) := by decide +kernel
theorem dX12_setVote_26 : decode cX12_setVote 26 = .ok (.iload_n 1, 1) := by decide +kernel
theorem dX12_setVote_27 : decode cX12_setVote 27 = .ok (.lload 5, 2) := by decide +kernel
theorem dX12_setVote_29 : decode cX12_setVote 29 = .ok (.lastore, 1) := by decide +kernel
theorem dX12_setVote_30 : decode cX12_setVote 30 = .ok (.aload_n 0, 1) := by decide +kernel
theorem dX12_setVote_31 : decode cX12_setVote 31 = .ok (.getfield 366, 3) := by decide +kernel
theorem dX12_setVote_34 : decode cX12_setVote 34 = .ok (.iload_n 1, 1) := by decide +kernel
theorem dX12_setVote_35 : decode cX12_setVote 35 = .ok (.lload 7, 2) := by decide +kernel
theorem dX12_setVote_37 : decode cX12_setVote 37 = .ok (.lastore, 1) := by decide +kernel
theorem dX12_setVote_38 : decode cX12_setVote 38 = .ok (.aload_n 0, 1) := by decide +kernel
theorem dX12_setVote_39 : decode cX12_setVote 39 = .ok (.getfield 369, 3) := by decide +kernel
theorem dX12_setVote_42 : decode cX12_setVote 42 = .ok (.iload_n 1, 1) := by decide +kernel
theorem dX12_setVote_43 : decode cX12_setVote 43 = .ok (.lload 9, 2) := by decide +kernel
theorem dX12_setVote_45 : decode cX12_setVote 45 = .ok (.lastore, 1) := by decide +kernel
theorem dX12_setVote_46 : decode cX12_setVote 46 = .ok (.return_, 1) := by decide +kernel
theorem dX12_count0_0 : decode cX12_count0 0 = .ok (.iconst 0, 1) := by decide +kernel
theorem dX12_count0_1 : decode cX12_count0 1 = .ok (.istore 6, 2) := by decide +kernel
theorem dX12_count0_3 : decode cX12_count0 3 = .ok (.iconst 0, 1) := by decide +kernel
theorem dX12_count0_4 : decode cX12_count0 4 = .ok (.istore 7, 2) := by decide +kernel
theorem dX12_count0_6 : decode cX12_count0 6 = .ok (.iload 7, 2) := by decide +kernel
theorem dX12_count0_8 : decode cX12_count0 8 = .ok (.aload_n 0, 1) := by decide +kernel
theorem dX12_count0_9 : decode cX12_count0 9 = .ok (.getfield 219, 3) := by decide +kernel
theorem dX12_count0_12 : decode cX12_count0 12 = .ok (.if_icmp .ge 187, 3) := by decide +kernel
theorem dX12_count0_15 : decode cX12_count0 15 = .ok (.iload_n 1, 1) := by decide +kernel
theorem dX12_count0_16 : decode cX12_count0 16 = .ok (.iload_n 2, 1) := by decide +kernel
theorem dX12_count0_17 : decode cX12_count0 17 = .ok (.aload_n 0, 1) := by decide +kernel
theorem dX12_count0_18 : decode cX12_count0 18 = .ok (.getfield 309, 3) := by decide +kernel
theorem dX12_count0_21 : decode cX12_count0 21 = .ok (.iload_n 2, 1) := by decide +kernel
theorem dX12_count0_22 : decode cX12_count0 22 = .ok (.iaload, 1) := by decide +kernel
theorem dX12_count0_23 : decode cX12_count0 23 = .ok (.iload_n 3, 1) := by decide +kernel
theorem dX12_count0_24 : decode cX12_count0 24 = .ok (.iload 7, 2) := by decide +kernel
theorem dX12_count0_26 : decode cX12_count0 26 = .ok (.invokestatic 470, 3) := by decide +kernel
theorem dX12_count0_29 : decode cX12_count0 29 = .ok (.istore 8, 2) := by decide +kernel
theorem dX12_count0_31 : decode cX12_count0 31 = .ok (.iload 4, 2) := by decide +kernel
theorem dX12_count0_33 : decode cX12_count0 33 = .ok (.ifCond .ne 21, 3) := by decide +kernel
theorem dX12_count0_36 : decode cX12_count0 36 = .ok (.aload_n 0, 1) := by decide +kernel
theorem dX12_count0_37 : decode cX12_count0 37 = .ok (.getfield 357, 3) := by decide +kernel
theorem dX12_count0_40 : decode cX12_count0 40 = .ok (.iload 8, 2) := by decide +kernel
theorem dX12_count0_42 : decode cX12_count0 42 = .ok (.iaload, 1) := by decide +kernel
theorem dX12_count0_43 : decode cX12_count0 43 = .ok (.ifCond .eq 7, 3) := by decide +kernel
theorem dX12_count0_46 : decode cX12_count0 46 = .ok (.iconst 1, 1) := by decide +kernel
theorem dX12_count0_47 : decode cX12_count0 47 = .ok (.goto 24, 3) := by decide +kernel
theorem dX12_count0_50 : decode cX12_count0 50 = .ok (.iconst 0, 1) := by decide +kernel
theorem dX12_count0_51 : decode cX12_count0 51 = .ok (.goto 20, 3) := by decide +kernel
theorem dX12_count0_54 : decode cX12_count0 54 = .ok (.aload_n 0, 1) := by decide +kernel
theorem dX12_count0_55 : decode cX12_count0 55 = .ok (.getfield 357, 3) := by decide +kernel
theorem dX12_count0_58 : decode cX12_count0 58 = .ok (.iload 8, 2) := by decide +kernel
theorem dX12_count0_60 : decode cX12_count0 60 = .ok (.iaload, 1) := by decide +kernel
theorem dX12_count0_61 : decode cX12_count0 61 = .ok (.iload 4, 2) := by decide +kernel
theorem dX12_count0_63 : decode cX12_count0 63 = .ok (.if_icmp .ne 7, 3) := by decide +kernel
theorem dX12_count0_66 : decode cX12_count0 66 = .ok (.iconst 1, 1) := by decide +kernel
theorem dX12_count0_67 : decode cX12_count0 67 = .ok (.goto 4, 3) := by decide +kernel
theorem dX12_count0_70 : decode cX12_count0 70 = .ok (.iconst 0, 1) := by decide +kernel
theorem dX12_count0_71 : decode cX12_count0 71 = .ok (.istore 9, 2) := by decide +kernel
theorem dX12_count0_73 : decode cX12_count0 73 = .ok (.iload 4, 2) := by decide +kernel
theorem dX12_count0_75 : decode cX12_count0 75 = .ok (.iconst 2, 1) := by decide +kernel
theorem dX12_count0_76 : decode cX12_count0 76 = .ok (.if_icmp .ne 101, 3) := by decide +kernel
theorem dX12_count0_79 : decode cX12_count0 79 = .ok (.iload 9, 2) := by decide +kernel
theorem dX12_count0_81 : decode cX12_count0 81 = .ok (.ifCond .eq 96, 3) := by decide +kernel
theorem dX12_count0_84 : decode cX12_count0 84 = .ok (.aload_n 0, 1) := by decide +kernel
theorem dX12_count0_85 : decode cX12_count0 85 = .ok (.getfield 360, 3) := by decide +kernel
theorem dX12_count0_88 : decode cX12_count0 88 = .ok (.iload 8, 2) := by decide +kernel
theorem dX12_count0_90 : decode cX12_count0 90 = .ok (.laload, 1) := by decide +kernel
theorem dX12_count0_91 : decode cX12_count0 91 = .ok (.aload_n 0, 1) := by decide +kernel
theorem dX12_count0_92 : decode cX12_count0 92 = .ok (.getfield 60, 3) := by decide +kernel
theorem dX12_count0_95 : decode cX12_count0 95 = .ok (.iconst 4, 1) := by decide +kernel
theorem dX12_count0_96 : decode cX12_count0 96 = .ok (.iload 5, 2) := by decide +kernel
theorem dX12_count0_98 : decode cX12_count0 98 = .ok (.imul, 1) := by decide +kernel
theorem dX12_count0_99 : decode cX12_count0 99 = .ok (.laload, 1) := by decide +kernel
theorem dX12_count0_100 : decode cX12_count0 100 = .ok (.lcmp, 1) := by decide +kernel
theorem dX12_count0_101 : decode cX12_count0 101 = .ok (.ifCond .ne 73, 3) := by decide +kernel
theorem dX12_count0_104 : decode cX12_count0 104 = .ok (.aload_n 0, 1) := by decide +kernel
theorem dX12_count0_105 : decode cX12_count0 105 = .ok (.getfield 363, 3) := by decide +kernel
theorem dX12_count0_108 : decode cX12_count0 108 = .ok (.iload 8, 2) := by decide +kernel
theorem dX12_count0_110 : decode cX12_count0 110 = .ok (.laload, 1) := by decide +kernel
theorem dX12_count0_111 : decode cX12_count0 111 = .ok (.aload_n 0, 1) := by decide +kernel
theorem dX12_count0_112 : decode cX12_count0 112 = .ok (.getfield 60, 3) := by decide +kernel
theorem dX12_count0_115 : decode cX12_count0 115 = .ok (.iconst 4, 1) := by decide +kernel
theorem dX12_count0_116 : decode cX12_count0 116 = .ok (.iload 5, 2) := by decide +kernel
theorem dX12_count0_118 : decode cX12_count0 118 = .ok (.imul, 1) := by decide +kernel
theorem dX12_count0_119 : decode cX12_count0 119 = .ok (.iconst 1, 1) := by decide +kernel
theorem dX12_count0_120 : decode cX12_count0 120 = .ok (.iadd, 1) := by decide +kernel
theorem dX12_count0_121 : decode cX12_count0 121 = .ok (.laload, 1) := by decide +kernel
theorem dX12_count0_122 : decode cX12_count0 122 = .ok (.lcmp, 1) := by decide +kernel
theorem dX12_count0_123 : decode cX12_count0 123 = .ok (.ifCond .ne 51, 3) := by decide +kernel
theorem dX12_count0_126 : decode cX12_count0 126 = .ok (.aload_n 0, 1) := by decide +kernel
theorem dX12_count0_127 : decode cX12_count0 127 = .ok (.getfield 366, 3) := by decide +kernel
theorem dX12_count0_130 : decode cX12_count0 130 = .ok (.iload 8, 2) := by decide +kernel
theorem dX12_count0_132 : decode cX12_count0 132 = .ok (.laload, 1) := by decide +kernel
theorem dX12_count0_133 : decode cX12_count0 133 = .ok (.aload_n 0, 1) := by decide +kernel
theorem dX12_count0_134 : decode cX12_count0 134 = .ok (.getfield 60, 3) := by decide +kernel
theorem dX12_count0_137 : decode cX12_count0 137 = .ok (.iconst 4, 1) := by decide +kernel
theorem dX12_count0_138 : decode cX12_count0 138 = .ok (.iload 5, 2) := by decide +kernel
theorem dX12_count0_140 : decode cX12_count0 140 = .ok (.imul, 1) := by decide +kernel
theorem dX12_count0_141 : decode cX12_count0 141 = .ok (.iconst 2, 1) := by decide +kernel
theorem dX12_count0_142 : decode cX12_count0 142 = .ok (.iadd, 1) := by decide +kernel
theorem dX12_count0_143 : decode cX12_count0 143 = .ok (.laload, 1) := by decide +kernel
theorem dX12_count0_144 : decode cX12_count0 144 = .ok (.lcmp, 1) := by decide +kernel
theorem dX12_count0_145 : decode cX12_count0 145 = .ok (.ifCond .ne 29, 3) := by decide +kernel
theorem dX12_count0_148 : decode cX12_count0 148 = .ok (.aload_n 0, 1) := by decide +kernel
theorem dX12_count0_149 : decode cX12_count0 149 = .ok (.getfield 369, 3) := by decide +kernel
theorem dX12_count0_152 : decode cX12_count0 152 = .ok (.iload 8, 2) := by decide +kernel
theorem dX12_count0_154 : decode cX12_count0 154 = .ok (.laload, 1) := by decide +kernel
theorem dX12_count0_155 : decode cX12_count0 155 = .ok (.aload_n 0, 1) := by decide +kernel
theorem dX12_count0_156 : decode cX12_count0 156 = .ok (.getfield 60, 3) := by decide +kernel
theorem dX12_count0_159 : decode cX12_count0 159 = .ok (.iconst 4, 1) := by decide +kernel
theorem dX12_count0_160 : decode cX12_count0 160 = .ok (.iload 5, 2) := by decide +kernel
theorem dX12_count0_162 : decode cX12_count0 162 = .ok (.imul, 1) := by decide +kernel
theorem dX12_count0_163 : decode cX12_count0 163 = .ok (.iconst 3, 1) := by decide +kernel
theorem dX12_count0_164 : decode cX12_count0 164 = .ok (.iadd, 1) := by decide +kernel
theorem dX12_count0_165 : decode cX12_count0 165 = .ok (.laload, 1) := by decide +kernel
theorem dX12_count0_166 : decode cX12_count0 166 = .ok (.lcmp, 1) := by decide +kernel
theorem dX12_count0_167 : decode cX12_count0 167 = .ok (.ifCond .ne 7, 3) := by decide +kernel
theorem dX12_count0_170 : decode cX12_count0 170 = .ok (.iconst 1, 1) := by decide +kernel
theorem dX12_count0_171 : decode cX12_count0 171 = .ok (.goto 4, 3) := by decide +kernel
theorem dX12_count0_174 : decode cX12_count0 174 = .ok (.iconst 0, 1) := by decide +kernel
theorem dX12_count0_175 : decode cX12_count0 175 = .ok (.istore 9, 2) := by decide +kernel
theorem dX12_count0_177 : decode cX12_count0 177 = .ok (.iload 9, 2) := by decide +kernel
theorem dX12_count0_179 : decode cX12_count0 179 = .ok (.ifCond .eq 10, 3) := by decide +kernel
theorem dX12_count0_182 : decode cX12_count0 182 = .ok (.iload 6, 2) := by decide +kernel
theorem dX12_count0_184 : decode cX12_count0 184 = .ok (.iconst 1, 1) := by decide +kernel
theorem dX12_count0_185 : decode cX12_count0 185 = .ok (.iadd, 1) := by decide +kernel
theorem dX12_count0_186 : decode cX12_count0 186 = .ok (.goto 5, 3) := by decide +kernel
theorem dX12_count0_189 : decode cX12_count0 189 = .ok (.iload 6, 2) := by decide +kernel
theorem dX12_count0_191 : decode cX12_count0 191 = .ok (.istore 6, 2) := by decide +kernel
theorem dX12_count0_193 : decode cX12_count0 193 = .ok (.iinc 7 1, 3) := by decide +kernel
theorem dX12_count0_196 : decode cX12_count0 196 = .ok (.goto (-190), 3) := by decide +kernel
theorem dX12_count0_199 : decode cX12_count0 199 = .ok (.iload 6, 2) := by decide +kernel
theorem dX12_count0_201 : decode cX12_count0 201 = .ok (.ireturn, 1) := by decide +kernel
theorem dX12_quorum_0 : decode cX12_quorum 0 = .ok (.iconst 2, 1) := by decide +kernel
theorem dX12_quorum_1 : decode cX12_quorum 1 = .ok (.aload_n 0, 1) := by decide +kernel
theorem dX12_quorum_2 : decode cX12_quorum 2 = .ok (.getfield 442, 3) := by decide +kernel
theorem dX12_quorum_5 : decode cX12_quorum 5 = .ok (.imul, 1) := by decide +kernel
theorem dX12_quorum_6 : decode cX12_quorum 6 = .ok (.iconst 1, 1) := by decide +kernel
theorem dX12_quorum_7 : decode cX12_quorum 7 = .ok (.iadd, 1) := by decide +kernel
theorem dX12_quorum_8 : decode cX12_quorum 8 = .ok (.ireturn, 1) := by decide +kernel
theorem dX12_holdLogged_0 : decode cX12_holdLogged 0 = .ok (.bipush 64, 2) := by decide +kernel
theorem dX12_holdLogged_2 : decode cX12_holdLogged 2 = .ok (.iload_n 1, 1) := by decide +kernel
theorem dX12_holdLogged_3 : decode cX12_holdLogged 3 = .ok (.imul, 1) := by decide +kernel
theorem dX12_holdLogged_4 : decode cX12_holdLogged 4 = .ok (.iload_n 2, 1) := by decide +kernel
theorem dX12_holdLogged_5 : decode cX12_holdLogged 5 = .ok (.iadd, 1) := by decide +kernel
theorem dX12_holdLogged_6 : decode cX12_holdLogged 6 = .ok (.istore_n 3, 1) := by decide +kernel
theorem dX12_holdLogged_7 : decode cX12_holdLogged 7 = .ok (.aload_n 0, 1) := by decide +kernel
theorem dX12_holdLogged_8 : decode cX12_holdLogged 8 = .ok (.getfield 378, 3) := by decide +kernel
theorem dX12_holdLogged_11 : decode cX12_holdLogged 11 = .ok (.iload_n 3, 1) := by decide +kernel
theorem dX12_holdLogged_12 : decode cX12_holdLogged 12 = .ok (.iaload, 1) := by decide +kernel
theorem dX12_holdLogged_13 : decode cX12_holdLogged 13 = .ok (.istore 4, 2) := by decide +kernel
theorem dX12_holdLogged_15 : decode cX12_holdLogged 15 = .ok (.aload_n 0, 1) := by decide +kernel
theorem dX12_holdLogged_16 : decode cX12_holdLogged 16 = .ok (.getfield 375, 3) := by decide +kernel
theorem dX12_holdLogged_19 : decode cX12_holdLogged 19 = .ok (.iload_n 3, 1) := by decide +kernel
theorem dX12_holdLogged_20 : decode cX12_holdLogged 20 = .ok (.iaload, 1) := by decide +kernel
theorem dX12_holdLogged_21 : decode cX12_holdLogged 21 = .ok (.iconst 1, 1) := by decide +kernel
theorem dX12_holdLogged_22 : decode cX12_holdLogged 22 = .ok (.if_icmp .ne 62, 3) := by decide +kernel
theorem dX12_holdLogged_25 : decode cX12_holdLogged 25 = .ok (.iconst 0, 1) := by decide +kernel
theorem dX12_holdLogged_26 : decode cX12_holdLogged 26 = .ok (.iload_n 1, 1) := by decide +kernel
theorem dX12_holdLogged_27 : decode cX12_holdLogged 27 = .ok (.aload_n 0, 1) := by decide +kernel
theorem dX12_holdLogged_28 : decode cX12_holdLogged 28 = .ok (.getfield 309, 3) := by decide +kernel
theorem dX12_holdLogged_31 : decode cX12_holdLogged 31 = .ok (.iload_n 1, 1) := by decide +kernel
theorem dX12_holdLogged_32 : decode cX12_holdLogged 32 = .ok (.iaload, 1) := by decide +kernel
theorem dX12_holdLogged_33 : decode cX12_holdLogged 33 = .ok (.iload 4, 2) := by decide +kernel
theorem dX12_holdLogged_35 : decode cX12_holdLogged 35 = .ok (.invokestatic 466, 3) := by decide +kernel
theorem dX12_holdLogged_38 : decode cX12_holdLogged 38 = .ok (.iadd, 1) := by decide +kernel
theorem dX12_holdLogged_39 : decode cX12_holdLogged 39 = .ok (.istore 5, 2) := by decide +kernel
theorem dX12_holdLogged_41 : decode cX12_holdLogged 41 = .ok (.aload_n 0, 1) := by decide +kernel
theorem dX12_holdLogged_42 : decode cX12_holdLogged 42 = .ok (.iload 5, 2) := by decide +kernel
theorem dX12_holdLogged_44 : decode cX12_holdLogged 44 = .ok (.invokevirtual 63, 3) := by decide +kernel
theorem dX12_holdLogged_47 : decode cX12_holdLogged 47 = .ok (.ifCond .eq 4, 3) := by decide +kernel
theorem dX12_holdLogged_50 : decode cX12_holdLogged 50 = .ok (.return_, 1) := by decide +kernel
theorem dX12_holdLogged_51 : decode cX12_holdLogged 51 = .ok (.aload_n 0, 1) := by decide +kernel
theorem dX12_holdLogged_52 : decode cX12_holdLogged 52 = .ok (.sipush 1144, 3) := by decide +kernel
theorem dX12_holdLogged_55 : decode cX12_holdLogged 55 = .ok (.bipush 16, 2) := by decide +kernel
theorem dX12_holdLogged_57 : decode cX12_holdLogged 57 = .ok (.iload_n 1, 1) := by decide +kernel
theorem dX12_holdLogged_58 : decode cX12_holdLogged 58 = .ok (.imul, 1) := by decide +kernel
theorem dX12_holdLogged_59 : decode cX12_holdLogged 59 = .ok (.iadd, 1) := by decide +kernel
theorem dX12_holdLogged_60 : decode cX12_holdLogged 60 = .ok (.iload 4, 2) := by decide +kernel
theorem dX12_holdLogged_62 : decode cX12_holdLogged 62 = .ok (.iadd, 1) := by decide +kernel
theorem dX12_holdLogged_63 : decode cX12_holdLogged 63 = .ok (.iload 5, 2) := by decide +kernel
theorem dX12_holdLogged_65 : decode cX12_holdLogged 65 = .ok (.invokevirtual 507, 3) := by decide +kernel
theorem dX12_holdLogged_68 : decode cX12_holdLogged 68 = .ok (.aload_n 0, 1) := by decide +kernel
theorem dX12_holdLogged_69 : decode cX12_holdLogged 69 = .ok (.getfield 354, 3) := by decide +kernel
theorem dX12_holdLogged_72 : decode cX12_holdLogged 72 = .ok (.iload 5, 2) := by decide +kernel
theorem dX12_holdLogged_74 : decode cX12_holdLogged 74 = .ok (.iconst 0, 1) := by decide +kernel
theorem dX12_holdLogged_75 : decode cX12_holdLogged 75 = .ok (.isub, 1) := by decide +kernel
theorem dX12_holdLogged_76 : decode cX12_holdLogged 76 = .ok (.aload_n 0, 1) := by decide +kernel
theorem dX12_holdLogged_77 : decode cX12_holdLogged 77 = .ok (.getfield 381, 3) := by decide +kernel
theorem dX12_holdLogged_80 : decode cX12_holdLogged 80 = .ok (.iload_n 3, 1) := by decide +kernel
theorem dX12_holdLogged_81 : decode cX12_holdLogged 81 = .ok (.iaload, 1) := by decide +kernel
theorem dX12_holdLogged_82 : decode cX12_holdLogged 82 = .ok (.iastore, 1) := by decide +kernel
theorem dX12_holdLogged_83 : decode cX12_holdLogged 83 = .ok (.return_, 1) := by decide +kernel
theorem dX12_holdLogged_84 : decode cX12_holdLogged 84 = .ok (.aload_n 0, 1) := by decide +kernel
theorem dX12_holdLogged_85 : decode cX12_holdLogged 85 = .ok (.getfield 375, 3) := by decide +kernel
theorem dX12_holdLogged_88 : decode cX12_holdLogged 88 = .ok (.iload_n 3, 1) := by decide +kernel
theorem dX12_holdLogged_89 : decode cX12_holdLogged 89 = .ok (.iaload, 1) := by decide +kernel
theorem dX12_holdLogged_90 : decode cX12_holdLogged 90 = .ok (.iconst 3, 1) := by decide +kernel
theorem dX12_holdLogged_91 : decode cX12_holdLogged 91 = .ok (.if_icmp .ne 7, 3) := by decide +kernel
theorem dX12_holdLogged_94 : decode cX12_holdLogged 94 = .ok (.iconst 1, 1) := by decide +kernel
theorem dX12_holdLogged_95 : decode cX12_holdLogged 95 = .ok (.goto 4, 3) := by decide +kernel
theorem dX12_holdLogged_98 : decode cX12_holdLogged 98 = .ok (.iconst 0, 1) := by decide +kernel
theorem dX12_holdLogged_99 : decode cX12_holdLogged 99 = .ok (.iload_n 1, 1) := by decide +kernel
theorem dX12_holdLogged_100 : decode cX12_holdLogged 100 = .ok (.aload_n 0, 1) := by decide +kernel
theorem dX12_holdLogged_101 : decode cX12_holdLogged 101 = .ok (.getfield 309, 3) := by decide +kernel
theorem dX12_holdLogged_104 : decode cX12_holdLogged 104 = .ok (.iload_n 1, 1) := by decide +kernel
theorem dX12_holdLogged_105 : decode cX12_holdLogged 105 = .ok (.iaload, 1) := by decide +kernel
theorem dX12_holdLogged_106 : decode cX12_holdLogged 106 = .ok (.iload 4, 2) := by decide +kernel
theorem dX12_holdLogged_108 : decode cX12_holdLogged 108 = .ok (.iload_n 1, 1) := by decide +kernel
theorem dX12_holdLogged_109 : decode cX12_holdLogged 109 = .ok (.invokestatic 470, 3) := by decide +kernel
theorem dX12_holdLogged_112 : decode cX12_holdLogged 112 = .ok (.istore 5, 2) := by decide +kernel
theorem dX12_holdLogged_114 : decode cX12_holdLogged 114 = .ok (.aload_n 0, 1) := by decide +kernel
theorem dX12_holdLogged_115 : decode cX12_holdLogged 115 = .ok (.getfield 357, 3) := by decide +kernel
theorem dX12_holdLogged_118 : decode cX12_holdLogged 118 = .ok (.iload 5, 2) := by decide +kernel
theorem dX12_holdLogged_120 : decode cX12_holdLogged 120 = .ok (.iaload, 1) := by decide +kernel
theorem dX12_holdLogged_121 : decode cX12_holdLogged 121 = .ok (.ifCond .ne 53, 3) := by decide +kernel
theorem dX12_holdLogged_124 : decode cX12_holdLogged 124 = .ok (.aload_n 0, 1) := by decide +kernel
theorem dX12_holdLogged_125 : decode cX12_holdLogged 125 = .ok (.iload 5, 2) := by decide +kernel
theorem dX12_holdLogged_127 : decode cX12_holdLogged 127 = .ok (.aload_n 0, 1) := by decide +kernel
theorem dX12_holdLogged_128 : decode cX12_holdLogged 128 = .ok (.getfield 384, 3) := by decide +kernel
theorem dX12_holdLogged_131 : decode cX12_holdLogged 131 = .ok (.iload_n 3, 1) := by decide +kernel
theorem dX12_holdLogged_132 : decode cX12_holdLogged 132 = .ok (.baload, 1) := by decide +kernel
theorem dX12_holdLogged_133 : decode cX12_holdLogged 133 = .ok (.aload_n 0, 1) := by decide +kernel
theorem dX12_holdLogged_134 : decode cX12_holdLogged 134 = .ok (.getfield 387, 3) := by decide +kernel
theorem dX12_holdLogged_137 : decode cX12_holdLogged 137 = .ok (.iconst 4, 1) := by decide +kernel
theorem dX12_holdLogged_138 : decode cX12_holdLogged 138 = .ok (.iload_n 3, 1) := by decide +kernel
theorem dX12_holdLogged_139 : decode cX12_holdLogged 139 = .ok (.imul, 1) := by decide +kernel
theorem dX12_holdLogged_140 : decode cX12_holdLogged 140 = .ok (.laload, 1) := by decide +kernel
theorem dX12_holdLogged_141 : decode cX12_holdLogged 141 = .ok (.aload_n 0, 1) := by decide +kernel
theorem dX12_holdLogged_142 : decode cX12_holdLogged 142 = .ok (.getfield 387, 3) := by decide +kernel
theorem dX12_holdLogged_145 : decode cX12_holdLogged 145 = .ok (.iconst 4, 1) := by decide +kernel
theorem dX12_holdLogged_146 : decode cX12_holdLogged 146 = .ok (.iload_n 3, 1) := by decide +kernel
theorem dX12_holdLogged_147 : decode cX12_holdLogged 147 = .ok (.imul, 1) := by decide +kernel
theorem dX12_holdLogged_148 : decode cX12_holdLogged 148 = .ok (.iconst 1, 1) := by decide +kernel
theorem dX12_holdLogged_149 : decode cX12_holdLogged 149 = .ok (.iadd, 1) := by decide +kernel
theorem dX12_holdLogged_150 : decode cX12_holdLogged 150 = .ok (.laload, 1) := by decide +kernel
theorem dX12_holdLogged_151 : decode cX12_holdLogged 151 = .ok (.aload_n 0, 1) := by decide +kernel
theorem dX12_holdLogged_152 : decode cX12_holdLogged 152 = .ok (.getfield 387, 3) := by decide +kernel
theorem dX12_holdLogged_155 : decode cX12_holdLogged 155 = .ok (.iconst 4, 1) := by decide +kernel
theorem dX12_holdLogged_156 : decode cX12_holdLogged 156 = .ok (.iload_n 3, 1) := by decide +kernel
theorem dX12_holdLogged_157 : decode cX12_holdLogged 157 = .ok (.imul, 1) := by decide +kernel
theorem dX12_holdLogged_158 : decode cX12_holdLogged 158 = .ok (.iconst 2, 1) := by decide +kernel
theorem dX12_holdLogged_159 : decode cX12_holdLogged 159 = .ok (.iadd, 1) := by decide +kernel
theorem dX12_holdLogged_160 : decode cX12_holdLogged 160 = .ok (.laload, 1) := by decide +kernel
theorem dX12_holdLogged_161 : decode cX12_holdLogged 161 = .ok (.aload_n 0, 1) := by decide +kernel
theorem dX12_holdLogged_162 : decode cX12_holdLogged 162 = .ok (.getfield 387, 3) := by decide +kernel
theorem dX12_holdLogged_165 : decode cX12_holdLogged 165 = .ok (.iconst 4, 1) := by decide +kernel
theorem dX12_holdLogged_166 : decode cX12_holdLogged 166 = .ok (.iload_n 3, 1) := by decide +kernel
theorem dX12_holdLogged_167 : decode cX12_holdLogged 167 = .ok (.imul, 1) := by decide +kernel
theorem dX12_holdLogged_168 : decode cX12_holdLogged 168 = .ok (.iconst 3, 1) := by decide +kernel
theorem dX12_holdLogged_169 : decode cX12_holdLogged 169 = .ok (.iadd, 1) := by decide +kernel
theorem dX12_holdLogged_170 : decode cX12_holdLogged 170 = .ok (.laload, 1) := by decide +kernel
theorem dX12_holdLogged_171 : decode cX12_holdLogged 171 = .ok (.invokevirtual 510, 3) := by decide +kernel
theorem dX12_holdLogged_174 : decode cX12_holdLogged 174 = .ok (.return_, 1) := by decide +kernel
theorem dX12_sendLogged_0 : decode cX12_sendLogged 0 = .ok (.aload_n 0, 1) := by decide +kernel
theorem dX12_sendLogged_1 : decode cX12_sendLogged 1 = .ok (.getfield 372, 3) := by decide +kernel
theorem dX12_sendLogged_4 : decode cX12_sendLogged 4 = .ok (.iload_n 1, 1) := by decide +kernel
theorem dX12_sendLogged_5 : decode cX12_sendLogged 5 = .ok (.iaload, 1) := by decide +kernel
theorem dX12_sendLogged_6 : decode cX12_sendLogged 6 = .ok (.istore_n 2, 1) := by decide +kernel
theorem dX12_sendLogged_7 : decode cX12_sendLogged 7 = .ok (.aload_n 0, 1) := by decide +kernel
theorem dX12_sendLogged_8 : decode cX12_sendLogged 8 = .ok (.getfield 372, 3) := by decide +kernel
theorem dX12_sendLogged_11 : decode cX12_sendLogged 11 = .ok (.iload_n 1, 1) := by decide +kernel
theorem dX12_sendLogged_12 : decode cX12_sendLogged 12 = .ok (.iload_n 2, 1) := by decide +kernel
theorem dX12_sendLogged_13 : decode cX12_sendLogged 13 = .ok (.iconst 1, 1) := by decide +kernel
theorem dX12_sendLogged_14 : decode cX12_sendLogged 14 = .ok (.iadd, 1) := by decide +kernel
theorem dX12_sendLogged_15 : decode cX12_sendLogged 15 = .ok (.iastore, 1) := by decide +kernel
theorem dX12_sendLogged_16 : decode cX12_sendLogged 16 = .ok (.aload_n 0, 1) := by decide +kernel
theorem dX12_sendLogged_17 : decode cX12_sendLogged 17 = .ok (.iload_n 1, 1) := by decide +kernel
theorem dX12_sendLogged_18 : decode cX12_sendLogged 18 = .ok (.invokevirtual 514, 3) := by decide +kernel
theorem dX12_sendLogged_21 : decode cX12_sendLogged 21 = .ok (.aload_n 0, 1) := by decide +kernel
theorem dX12_sendLogged_22 : decode cX12_sendLogged 22 = .ok (.iload_n 1, 1) := by decide +kernel
theorem dX12_sendLogged_23 : decode cX12_sendLogged 23 = .ok (.iload_n 2, 1) := by decide +kernel
theorem dX12_sendLogged_24 : decode cX12_sendLogged 24 = .ok (.invokevirtual 517, 3) := by decide +kernel
theorem dX12_sendLogged_27 : decode cX12_sendLogged 27 = .ok (.return_, 1) := by decide +kernel
theorem dX12_writeProposal_0 : decode cX12_writeProposal 0 = .ok (.aload_n 0, 1) := by decide +kernel
theorem dX12_writeProposal_1 : decode cX12_writeProposal 1 = .ok (.iconst 1, 1) := by decide +kernel
theorem dX12_writeProposal_2 : decode cX12_writeProposal 2 = .ok (.iload_n 1, 1) := by decide +kernel
