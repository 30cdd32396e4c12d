theorem dX2_add_18 : decode cX2_add 18 = .ok (.iload_n 1, 1) := by decide +kernel
theorem dX2_add_19 : decode cX2_add 19 = .ok (.i2b, 1) := by decide +kernel
theorem dX2_add_20 : decode cX2_add 20 = .ok (.bastore, 1) := by decide +kernel
theorem dX2_add_21 : decode cX2_add 21 = .ok (.aload_n 0, 1) := by decide +kernel
theorem dX2_add_22 : decode cX2_add 22 = .ok (.dup, 1) := by decide +kernel
theorem dX2_add_23 : decode cX2_add 23 = .ok (.getfield 25, 3) := by decide +kernel
theorem dX2_add_26 : decode cX2_add 26 = .ok (.iconst 1, 1) := by decide +kernel
theorem dX2_add_27 : decode cX2_add 27 = .ok (.iadd, 1) := by decide +kernel
theorem dX2_add_28 : decode cX2_add 28 = .ok (.putfield 25, 3) := by decide +kernel
theorem dX2_add_31 : decode cX2_add 31 = .ok (.return_, 1) := by decide +kernel
theorem dX2_add__0 : decode cX2_add_ 0 = .ok (.iload_n 2, 1) := by decide +kernel
theorem dX2_add__1 : decode cX2_add_ 1 = .ok (.ifCond .lt 56, 3) := by decide +kernel
theorem dX2_add__4 : decode cX2_add_ 4 = .ok (.iload_n 3, 1) := by decide +kernel
theorem dX2_add__5 : decode cX2_add_ 5 = .ok (.iload_n 2, 1) := by decide +kernel
theorem dX2_add__6 : decode cX2_add_ 6 = .ok (.if_icmp .lt 51, 3) := by decide +kernel
theorem dX2_add__9 : decode cX2_add_ 9 = .ok (.iload_n 3, 1) := by decide +kernel
theorem dX2_add__10 : decode cX2_add_ 10 = .ok (.aload_n 1, 1) := by decide +kernel
theorem dX2_add__11 : decode cX2_add_ 11 = .ok (.arraylength, 1) := by decide +kernel
theorem dX2_add__12 : decode cX2_add_ 12 = .ok (.if_icmp .gt 45, 3) := by decide +kernel
theorem dX2_add__15 : decode cX2_add_ 15 = .ok (.aload_n 0, 1) := by decide +kernel
theorem dX2_add__16 : decode cX2_add_ 16 = .ok (.getfield 25, 3) := by decide +kernel
theorem dX2_add__19 : decode cX2_add_ 19 = .ok (.iload_n 3, 1) := by decide +kernel
theorem dX2_add__20 : decode cX2_add_ 20 = .ok (.iadd, 1) := by decide +kernel
theorem dX2_add__21 : decode cX2_add_ 21 = .ok (.iload_n 2, 1) := by decide +kernel
theorem dX2_add__22 : decode cX2_add_ 22 = .ok (.isub, 1) := by decide +kernel
theorem dX2_add__23 : decode cX2_add_ 23 = .ok (.sipush 1024, 3) := by decide +kernel
theorem dX2_add__26 : decode cX2_add_ 26 = .ok (.if_icmp .gt 31, 3) := by decide +kernel
theorem dX2_add__29 : decode cX2_add_ 29 = .ok (.aload_n 1, 1) := by decide +kernel
theorem dX2_add__30 : decode cX2_add_ 30 = .ok (.iload_n 2, 1) := by decide +kernel
theorem dX2_add__31 : decode cX2_add_ 31 = .ok (.aload_n 0, 1) := by decide +kernel
theorem dX2_add__32 : decode cX2_add_ 32 = .ok (.getfield 11, 3) := by decide +kernel
theorem dX2_add__35 : decode cX2_add_ 35 = .ok (.aload_n 0, 1) := by decide +kernel
theorem dX2_add__36 : decode cX2_add_ 36 = .ok (.getfield 25, 3) := by decide +kernel
theorem dX2_add__39 : decode cX2_add_ 39 = .ok (.iload_n 3, 1) := by decide +kernel
theorem dX2_add__40 : decode cX2_add_ 40 = .ok (.iload_n 2, 1) := by decide +kernel
theorem dX2_add__41 : decode cX2_add_ 41 = .ok (.isub, 1) := by decide +kernel
theorem dX2_add__42 : decode cX2_add_ 42 = .ok (.invokestatic 29, 3) := by decide +kernel
theorem dX2_add__45 : decode cX2_add_ 45 = .ok (.aload_n 0, 1) := by decide +kernel
theorem dX2_add__46 : decode cX2_add_ 46 = .ok (.dup, 1) := by decide +kernel
theorem dX2_add__47 : decode cX2_add_ 47 = .ok (.getfield 25, 3) := by decide +kernel
theorem dX2_add__50 : decode cX2_add_ 50 = .ok (.iload_n 3, 1) := by decide +kernel
theorem dX2_add__51 : decode cX2_add_ 51 = .ok (.iload_n 2, 1) := by decide +kernel
theorem dX2_add__52 : decode cX2_add_ 52 = .ok (.isub, 1) := by decide +kernel
theorem dX2_add__53 : decode cX2_add_ 53 = .ok (.iadd, 1) := by decide +kernel
theorem dX2_add__54 : decode cX2_add_ 54 = .ok (.putfield 25, 3) := by decide +kernel
theorem dX2_add__57 : decode cX2_add_ 57 = .ok (.return_, 1) := by decide +kernel
theorem dX2_close_0 : decode cX2_close 0 = .ok (.bipush 8, 2) := by decide +kernel
theorem dX2_close_2 : decode cX2_close 2 = .ok (.aload_n 0, 1) := by decide +kernel
theorem dX2_close_3 : decode cX2_close 3 = .ok (.getfield 25, 3) := by decide +kernel
theorem dX2_close_6 : decode cX2_close 6 = .ok (.imul, 1) := by decide +kernel
theorem dX2_close_7 : decode cX2_close 7 = .ok (.istore_n 3, 1) := by decide +kernel
theorem dX2_close_8 : decode cX2_close 8 = .ok (.aload_n 0, 1) := by decide +kernel
theorem dX2_close_9 : decode cX2_close 9 = .ok (.getfield 25, 3) := by decide +kernel
theorem dX2_close_12 : decode cX2_close 12 = .ok (.bipush 72, 2) := by decide +kernel
theorem dX2_close_14 : decode cX2_close 14 = .ok (.iadd, 1) := by decide +kernel
theorem dX2_close_15 : decode cX2_close 15 = .ok (.bipush 64, 2) := by decide +kernel
theorem dX2_close_17 : decode cX2_close 17 = .ok (.idiv, 1) := by decide +kernel
theorem dX2_close_18 : decode cX2_close 18 = .ok (.bipush 64, 2) := by decide +kernel
theorem dX2_close_20 : decode cX2_close 20 = .ok (.imul, 1) := by decide +kernel
theorem dX2_close_21 : decode cX2_close 21 = .ok (.istore 4, 2) := by decide +kernel
theorem dX2_close_23 : decode cX2_close 23 = .ok (.aload_n 0, 1) := by decide +kernel
theorem dX2_close_24 : decode cX2_close 24 = .ok (.getfield 11, 3) := by decide +kernel
theorem dX2_close_27 : decode cX2_close 27 = .ok (.aload_n 0, 1) := by decide +kernel
theorem dX2_close_28 : decode cX2_close 28 = .ok (.getfield 25, 3) := by decide +kernel
theorem dX2_close_31 : decode cX2_close 31 = .ok (.iload 4, 2) := by decide +kernel
theorem dX2_close_33 : decode cX2_close 33 = .ok (.iconst 0, 1) := by decide +kernel
theorem dX2_close_34 : decode cX2_close 34 = .ok (.invokestatic 35, 3) := by decide +kernel
theorem dX2_close_37 : decode cX2_close 37 = .ok (.aload_n 0, 1) := by decide +kernel
theorem dX2_close_38 : decode cX2_close 38 = .ok (.getfield 11, 3) := by decide +kernel
theorem dX2_close_41 : decode cX2_close 41 = .ok (.aload_n 0, 1) := by decide +kernel
theorem dX2_close_42 : decode cX2_close 42 = .ok (.getfield 25, 3) := by decide +kernel
theorem dX2_close_45 : decode cX2_close 45 = .ok (.bipush (-128), 2) := by decide +kernel
theorem dX2_close_47 : decode cX2_close 47 = .ok (.bastore, 1) := by decide +kernel
theorem dX2_close_48 : decode cX2_close 48 = .ok (.aload_n 0, 1) := by decide +kernel
theorem dX2_close_49 : decode cX2_close 49 = .ok (.getfield 11, 3) := by decide +kernel
theorem dX2_close_52 : decode cX2_close 52 = .ok (.iload 4, 2) := by decide +kernel
theorem dX2_close_54 : decode cX2_close 54 = .ok (.iconst 2, 1) := by decide +kernel
theorem dX2_close_55 : decode cX2_close 55 = .ok (.isub, 1) := by decide +kernel
theorem dX2_close_56 : decode cX2_close 56 = .ok (.iload_n 3, 1) := by decide +kernel
theorem dX2_close_57 : decode cX2_close 57 = .ok (.bipush 8, 2) := by decide +kernel
theorem dX2_close_59 : decode cX2_close 59 = .ok (.ishr, 1) := by decide +kernel
theorem dX2_close_60 : decode cX2_close 60 = .ok (.i2b, 1) := by decide +kernel
theorem dX2_close_61 : decode cX2_close 61 = .ok (.bastore, 1) := by decide +kernel
theorem dX2_close_62 : decode cX2_close 62 = .ok (.aload_n 0, 1) := by decide +kernel
theorem dX2_close_63 : decode cX2_close 63 = .ok (.getfield 11, 3) := by decide +kernel
theorem dX2_close_66 : decode cX2_close 66 = .ok (.iload 4, 2) := by decide +kernel
theorem dX2_close_68 : decode cX2_close 68 = .ok (.iconst 1, 1) := by decide +kernel
theorem dX2_close_69 : decode cX2_close 69 = .ok (.isub, 1) := by decide +kernel
theorem dX2_close_70 : decode cX2_close 70 = .ok (.iload_n 3, 1) := by decide +kernel
theorem dX2_close_71 : decode cX2_close 71 = .ok (.i2b, 1) := by decide +kernel
theorem dX2_close_72 : decode cX2_close 72 = .ok (.bastore, 1) := by decide +kernel
theorem dX2_close_73 : decode cX2_close 73 = .ok (.getstatic 41, 3) := by decide +kernel
theorem dX2_close_76 : decode cX2_close 76 = .ok (.iconst 0, 1) := by decide +kernel
theorem dX2_close_77 : decode cX2_close 77 = .ok (.aload_n 0, 1) := by decide +kernel
theorem dX2_close_78 : decode cX2_close 78 = .ok (.getfield 19, 3) := by decide +kernel
theorem dX2_close_81 : decode cX2_close 81 = .ok (.iconst 0, 1) := by decide +kernel
theorem dX2_close_82 : decode cX2_close 82 = .ok (.bipush 8, 2) := by decide +kernel
theorem dX2_close_84 : decode cX2_close 84 = .ok (.invokestatic 29, 3) := by decide +kernel
theorem dX2_close_87 : decode cX2_close 87 = .ok (.iconst 0, 1) := by decide +kernel
theorem dX2_close_88 : decode cX2_close 88 = .ok (.istore 5, 2) := by decide +kernel
theorem dX2_close_90 : decode cX2_close 90 = .ok (.iload 5, 2) := by decide +kernel
theorem dX2_close_92 : decode cX2_close 92 = .ok (.iload 4, 2) := by decide +kernel
theorem dX2_close_94 : decode cX2_close 94 = .ok (.if_icmp .ge 15, 3) := by decide +kernel
theorem dX2_close_97 : decode cX2_close 97 = .ok (.aload_n 0, 1) := by decide +kernel
theorem dX2_close_98 : decode cX2_close 98 = .ok (.iload 5, 2) := by decide +kernel
theorem dX2_close_100 : decode cX2_close 100 = .ok (.invokevirtual 44, 3) := by decide +kernel
theorem dX2_close_103 : decode cX2_close 103 = .ok (.iinc 5 64, 3) := by decide +kernel
theorem dX2_close_106 : decode cX2_close 106 = .ok (.goto (-16), 3) := by decide +kernel
theorem dX2_close_109 : decode cX2_close 109 = .ok (.iload_n 2, 1) := by decide +kernel
theorem dX2_close_110 : decode cX2_close 110 = .ok (.ifCond .lt 55, 3) := by decide +kernel
theorem dX2_close_113 : decode cX2_close 113 = .ok (.iload_n 2, 1) := by decide +kernel
theorem dX2_close_114 : decode cX2_close 114 = .ok (.aload_n 1, 1) := by decide +kernel
theorem dX2_close_115 : decode cX2_close 115 = .ok (.arraylength, 1) := by decide +kernel
theorem dX2_close_116 : decode cX2_close 116 = .ok (.bipush 32, 2) := by decide +kernel
theorem dX2_close_118 : decode cX2_close 118 = .ok (.isub, 1) := by decide +kernel
theorem dX2_close_119 : decode cX2_close 119 = .ok (.if_icmp .gt 46, 3) := by decide +kernel
theorem dX2_close_122 : decode cX2_close 122 = .ok (.iconst 0, 1) := by decide +kernel
theorem dX2_close_123 : decode cX2_close 123 = .ok (.istore 5, 2) := by decide +kernel
theorem dX2_close_125 : decode cX2_close 125 = .ok (.iload 5, 2) := by decide +kernel
theorem dX2_close_127 : decode cX2_close 127 = .ok (.bipush 32, 2) := by decide +kernel
theorem dX2_close_129 : decode cX2_close 129 = .ok (.if_icmp .ge 36, 3) := by decide +kernel
theorem dX2_close_132 : decode cX2_close 132 = .ok (.aload_n 1, 1) := by decide +kernel
theorem dX2_close_133 : decode cX2_close 133 = .ok (.iload_n 2, 1) := by decide +kernel
theorem dX2_close_134 : decode cX2_close 134 = .ok (.iload 5, 2) := by decide +kernel
theorem dX2_close_136 : decode cX2_close 136 = .ok (.iadd, 1) := by decide +kernel
theorem dX2_close_137 : decode cX2_close 137 = .ok (.aload_n 0, 1) := by decide +kernel
theorem dX2_close_138 : decode cX2_close 138 = .ok (.getfield 19, 3) := by decide +kernel
theorem dX2_close_141 : decode cX2_close 141 = .ok (.iload 5, 2) := by decide +kernel
theorem dX2_close_143 : decode cX2_close 143 = .ok (.iconst 2, 1) := by decide +kernel
theorem dX2_close_144 : decode cX2_close 144 = .ok (.ishr, 1) := by decide +kernel
theorem dX2_close_145 : decode cX2_close 145 = .ok (.iaload, 1) := by decide +kernel
theorem dX2_close_146 : decode cX2_close 146 = .ok (.bipush 24, 2) := by decide +kernel
theorem dX2_close_148 : decode cX2_close 148 = .ok (.bipush 8, 2) := by decide +kernel
theorem dX2_close_150 : decode cX2_close 150 = .ok (.iload 5, 2) := by decide +kernel
theorem dX2_close_152 : decode cX2_close 152 = .ok (.iconst 3, 1) := by decide +kernel
theorem dX2_close_153 : decode cX2_close 153 = .ok (.iand, 1) := by decide +kernel
theorem dX2_close_154 : decode cX2_close 154 = .ok (.imul, 1) := by decide +kernel
theorem dX2_close_155 : decode cX2_close 155 = .ok (.isub, 1) := by decide +kernel
theorem dX2_close_156 : decode cX2_close 156 = .ok (.ishr, 1) := by decide +kernel
theorem dX2_close_157 : decode cX2_close 157 = .ok (.i2b, 1) := by decide +kernel
theorem dX2_close_158 : decode cX2_close 158 = .ok (.bastore, 1) := by decide +kernel
theorem dX2_close_159 : decode cX2_close 159 = .ok (.iinc 5 1, 3) := by decide +kernel
theorem dX2_close_162 : decode cX2_close 162 = .ok (.goto (-37), 3) := by decide +kernel
theorem dX2_close_165 : decode cX2_close 165 = .ok (.return_, 1) := by decide +kernel
theorem dX2_squeeze_0 : decode cX2_squeeze 0 = .ok (.aload_n 0, 1) := by decide +kernel
theorem dX2_squeeze_1 : decode cX2_squeeze 1 = .ok (.getfield 15, 3) := by decide +kernel
theorem dX2_squeeze_4 : decode cX2_squeeze 4 = .ok (.astore_n 2, 1) := by decide +kernel
theorem dX2_squeeze_5 : decode cX2_squeeze 5 = .ok (.iconst 0, 1) := by decide +kernel
theorem dX2_squeeze_6 : decode cX2_squeeze 6 = .ok (.istore_n 3, 1) := by decide +kernel
theorem dX2_squeeze_7 : decode cX2_squeeze 7 = .ok (.iload_n 1, 1) := by decide +kernel
theorem dX2_squeeze_8 : decode cX2_squeeze 8 = .ok (.istore 4, 2) := by decide +kernel
theorem dX2_squeeze_10 : decode cX2_squeeze 10 = .ok (.iload_n 3, 1) := by decide +kernel
theorem dX2_squeeze_11 : decode cX2_squeeze 11 = .ok (.bipush 16, 2) := by decide +kernel
theorem dX2_squeeze_13 : decode cX2_squeeze 13 = .ok (.if_icmp .ge 73, 3) := by decide +kernel
theorem dX2_squeeze_16 : decode cX2_squeeze 16 = .ok (.aload_n 2, 1) := by decide +kernel
theorem dX2_squeeze_17 : decode cX2_squeeze 17 = .ok (.iload_n 3, 1) := by decide +kernel
theorem dX2_squeeze_18 : decode cX2_squeeze 18 = .ok (.aload_n 0, 1) := by decide +kernel
theorem dX2_squeeze_19 : decode cX2_squeeze 19 = .ok (.getfield 11, 3) := by decide +kernel
theorem dX2_squeeze_22 : decode cX2_squeeze 22 = .ok (.iload 4, 2) := by decide +kernel
theorem dX2_squeeze_24 : decode cX2_squeeze 24 = .ok (.baload, 1) := by decide +kernel
theorem dX2_squeeze_25 : decode cX2_squeeze 25 = .ok (.bipush 24, 2) := by decide +kernel
theorem dX2_squeeze_27 : decode cX2_squeeze 27 = .ok (.ishl, 1) := by decide +kernel
theorem dX2_squeeze_28 : decode cX2_squeeze 28 = .ok (.aload_n 0, 1) := by decide +kernel
theorem dX2_squeeze_29 : decode cX2_squeeze 29 = .ok (.getfield 11, 3) := by decide +kernel
theorem dX2_squeeze_32 : decode cX2_squeeze 32 = .ok (.iload 4, 2) := by decide +kernel
theorem dX2_squeeze_34 : decode cX2_squeeze 34 = .ok (.iconst 1, 1) := by decide +kernel
theorem dX2_squeeze_35 : decode cX2_squeeze 35 = .ok (.iadd, 1) := by decide +kernel
theorem dX2_squeeze_36 : decode cX2_squeeze 36 = .ok (.baload, 1) := by decide +kernel
theorem dX2_squeeze_37 : decode cX2_squeeze 37 = .ok (.sipush 255, 3) := by decide +kernel
theorem dX2_squeeze_40 : decode cX2_squeeze 40 = .ok (.iand, 1) := by decide +kernel
theorem dX2_squeeze_41 : decode cX2_squeeze 41 = .ok (.bipush 16, 2) := by decide +kernel
theorem dX2_squeeze_43 : decode cX2_squeeze 43 = .ok (.ishl, 1) := by decide +kernel
theorem dX2_squeeze_44 : decode cX2_squeeze 44 = .ok (.ior, 1) := by decide +kernel
theorem dX2_squeeze_45 : decode cX2_squeeze 45 = .ok (.aload_n 0, 1) := by decide +kernel
theorem dX2_squeeze_46 : decode cX2_squeeze 46 = .ok (.getfield 11, 3) := by decide +kernel
theorem dX2_squeeze_49 : decode cX2_squeeze 49 = .ok (.iload 4, 2) := by decide +kernel
theorem dX2_squeeze_51 : decode cX2_squeeze 51 = .ok (.iconst 2, 1) := by decide +kernel
theorem dX2_squeeze_52 : decode cX2_squeeze 52 = .ok (.iadd, 1) := by decide +kernel
theorem dX2_squeeze_53 : decode cX2_squeeze 53 = .ok (.baload, 1) := by decide +kernel
theorem dX2_squeeze_54 : decode cX2_squeeze 54 = .ok (.sipush 255, 3) := by decide +kernel
theorem dX2_squeeze_57 : decode cX2_squeeze 57 = .ok (.iand, 1) := by decide +kernel
theorem dX2_squeeze_58 : decode cX2_squeeze 58 = .ok (.bipush 8, 2) := by decide +kernel
theorem dX2_squeeze_60 : decode cX2_squeeze 60 = .ok (.ishl, 1) := by decide +kernel
theorem dX2_squeeze_61 : decode cX2_squeeze 61 = .ok (.ior, 1) := by decide +kernel
theorem dX2_squeeze_62 : decode cX2_squeeze 62 = .ok (.aload_n 0, 1) := by decide +kernel
theorem dX2_squeeze_63 : decode cX2_squeeze 63 = .ok (.getfield 11, 3) := by decide +kernel
theorem dX2_squeeze_66 : decode cX2_squeeze 66 = .ok (.iload 4, 2) := by decide +kernel
theorem dX2_squeeze_68 : decode cX2_squeeze 68 = .ok (.iconst 3, 1) := by decide +kernel
theorem dX2_squeeze_69 : decode cX2_squeeze 69 = .ok (.iadd, 1) := by decide +kernel
theorem dX2_squeeze_70 : decode cX2_squeeze 70 = .ok (.baload, 1) := by decide +kernel
theorem dX2_squeeze_71 : decode cX2_squeeze 71 = .ok (.sipush 255, 3) := by decide +kernel
theorem dX2_squeeze_74 : decode cX2_squeeze 74 = .ok (.iand, 1) := by decide +kernel
theorem dX2_squeeze_75 : decode cX2_squeeze 75 = .ok (.ior, 1) := by decide +kernel
theorem dX2_squeeze_76 : decode cX2_squeeze 76 = .ok (.iastore, 1) := by decide +kernel
theorem dX2_squeeze_77 : decode cX2_squeeze 77 = .ok (.iinc 3 1, 3) := by decide +kernel
theorem dX2_squeeze_80 : decode cX2_squeeze 80 = .ok (.iinc 4 4, 3) := by decide +kernel
theorem dX2_squeeze_83 : decode cX2_squeeze 83 = .ok (.goto (-73), 3) := by decide +kernel
theorem dX2_squeeze_86 : decode cX2_squeeze 86 = .ok (.bipush 16, 2) := by decide +kernel
theorem dX2_squeeze_88 : decode cX2_squeeze 88 = .ok (.istore_n 3, 1) := by decide +kernel
theorem dX2_squeeze_89 : decode cX2_squeeze 89 = .ok (.iload_n 3, 1) := by decide +kernel
theorem dX2_squeeze_90 : decode cX2_squeeze 90 = .ok (.bipush 64, 2) := by decide +kernel
theorem dX2_squeeze_92 : decode cX2_squeeze 92 = .ok (.if_icmp .ge 99, 3) := by decide +kernel
theorem dX2_squeeze_95 : decode cX2_squeeze 95 = .ok (.aload_n 2, 1) := by decide +kernel
theorem dX2_squeeze_96 : decode cX2_squeeze 96 = .ok (.iload_n 3, 1) := by decide +kernel
theorem dX2_squeeze_97 : decode cX2_squeeze 97 = .ok (.bipush 15, 2) := by decide +kernel
theorem dX2_squeeze_99 : decode cX2_squeeze 99 = .ok (.isub, 1) := by decide +kernel
theorem dX2_squeeze_100 : decode cX2_squeeze 100 = .ok (.iaload, 1) := by decide +kernel
theorem dX2_squeeze_101 : decode cX2_squeeze 101 = .ok (.istore 4, 2) := by decide +kernel
theorem dX2_squeeze_103 : decode cX2_squeeze 103 = .ok (.aload_n 2, 1) := by decide +kernel
theorem dX2_squeeze_104 : decode cX2_squeeze 104 = .ok (.iload_n 3, 1) := by decide +kernel
theorem dX2_squeeze_105 : decode cX2_squeeze 105 = .ok (.iconst 2, 1) := by decide +kernel
theorem dX2_squeeze_106 : decode cX2_squeeze 106 = .ok (.isub, 1) := by decide +kernel
theorem dX2_squeeze_107 : decode cX2_squeeze 107 = .ok (.iaload, 1) := by decide +kernel
theorem dX2_squeeze_108 : decode cX2_squeeze 108 = .ok (.istore 5, 2) := by decide +kernel
theorem dX2_squeeze_110 : decode cX2_squeeze 110 = .ok (.aload_n 2, 1) := by decide +kernel
theorem dX2_squeeze_111 : decode cX2_squeeze 111 = .ok (.iload_n 3, 1) := by decide +kernel
theorem dX2_squeeze_112 : decode cX2_squeeze 112 = .ok (.aload_n 2, 1) := by decide +kernel
theorem dX2_squeeze_113 : decode cX2_squeeze 113 = .ok (.iload_n 3, 1) := by decide +kernel
theorem dX2_squeeze_114 : decode cX2_squeeze 114 = .ok (.bipush 16, 2) := by decide +kernel
theorem dX2_squeeze_116 : decode cX2_squeeze 116 = .ok (.isub, 1) := by decide +kernel
theorem dX2_squeeze_117 : decode cX2_squeeze 117 = .ok (.iaload, 1) := by decide +kernel
theorem dX2_squeeze_118 : decode cX2_squeeze 118 = .ok (.aload_n 2, 1) := by decide +kernel
theorem dX2_squeeze_119 : decode cX2_squeeze 119 = .ok (.iload_n 3, 1) := by decide +kernel
theorem dX2_squeeze_120 : decode cX2_squeeze 120 = .ok (.bipush 7, 2) := by decide +kernel
theorem dX2_squeeze_122 : decode cX2_squeeze 122 = .ok (.isub, 1) := by decide +kernel
theorem dX2_squeeze_123 : decode cX2_squeeze 123 = .ok (.iaload, 1) := by decide +kernel
theorem dX2_squeeze_124 : decode cX2_squeeze 124 = .ok (.iadd, 1) := by decide +kernel
theorem dX2_squeeze_125 : decode cX2_squeeze 125 = .ok (.iload 4, 2) := by decide +kernel
theorem dX2_squeeze_127 : decode cX2_squeeze 127 = .ok (.bipush 7, 2) := by decide +kernel
theorem dX2_squeeze_129 : decode cX2_squeeze 129 = .ok (.iushr, 1) := by decide +kernel
theorem dX2_squeeze_130 : decode cX2_squeeze 130 = .ok (.iload 4, 2) := by decide +kernel
theorem dX2_squeeze_132 : decode cX2_squeeze 132 = .ok (.bipush 25, 2) := by decide +kernel
theorem dX2_squeeze_134 : decode cX2_squeeze 134 = .ok (.ishl, 1) := by decide +kernel
theorem dX2_squeeze_135 : decode cX2_squeeze 135 = .ok (.ior, 1) := by decide +kernel
theorem dX2_squeeze_136 : decode cX2_squeeze 136 = .ok (.iload 4, 2) := by decide +kernel
theorem dX2_squeeze_138 : decode cX2_squeeze 138 = .ok (.bipush 18, 2) := by decide +kernel
theorem dX2_squeeze_140 : decode cX2_squeeze 140 = .ok (.iushr, 1) := by decide +kernel
theorem dX2_squeeze_141 : decode cX2_squeeze 141 = .ok (.iload 4, 2) := by decide +kernel
theorem dX2_squeeze_143 : decode cX2_squeeze 143 = .ok (.bipush 14, 2) := by decide +kernel
theorem dX2_squeeze_145 : decode cX2_squeeze 145 = .ok (.ishl, 1) := by decide +kernel
theorem dX2_squeeze_146 : decode cX2_squeeze 146 = .ok (.ior, 1) := by decide +kernel
theorem dX2_squeeze_147 : decode cX2_squeeze 147 = .ok (.ixor, 1) := by decide +kernel
theorem dX2_squeeze_148 : decode cX2_squeeze 148 = .ok (.iload 4, 2) := by decide +kernel
theorem dX2_squeeze_150 : decode cX2_squeeze 150 = .ok (.iconst 3, 1) := by decide +kernel
theorem dX2_squeeze_151 : decode cX2_squeeze 151 = .ok (.iushr, 1) := by decide +kernel
theorem dX2_squeeze_152 : decode cX2_squeeze 152 = .ok (.ixor, 1) := by decide +kernel
theorem dX2_squeeze_153 : decode cX2_squeeze 153 = .ok (.iadd, 1) := by decide +kernel
theorem dX2_squeeze_154 : decode cX2_squeeze 154 = .ok (.iload 5, 2) := by decide +kernel
theorem dX2_squeeze_156 : decode cX2_squeeze 156 = .ok (.bipush 17, 2) := by decide +kernel
theorem dX2_squeeze_158 : decode cX2_squeeze 158 = .ok (.iushr, 1) := by decide +kernel
theorem dX2_squeeze_159 : decode cX2_squeeze 159 = .ok (.iload 5, 2) := by decide +kernel
theorem dX2_squeeze_161 : decode cX2_squeeze 161 = .ok (.bipush 15, 2) := by decide +kernel
theorem dX2_squeeze_163 : decode cX2_squeeze 163 = .ok (.ishl, 1) := by decide +kernel
theorem dX2_squeeze_164 : decode cX2_squeeze 164 = .ok (.ior, 1) := by decide +kernel
theorem dX2_squeeze_165 : decode cX2_squeeze 165 = .ok (.iload 5, 2) := by decide +kernel
theorem dX2_squeeze_167 : decode cX2_squeeze 167 = .ok (.bipush 19, 2) := by decide +kernel
theorem dX2_squeeze_169 : decode cX2_squeeze 169 = .ok (.iushr, 1) := by decide +kernel
theorem dX2_squeeze_170 : decode cX2_squeeze 170 = .ok (.iload 5, 2) := by decide +kernel
theorem dX2_squeeze_172 : decode cX2_squeeze 172 = .ok (.bipush 13, 2) := by decide +kernel
theorem dX2_squeeze_174 : decode cX2_squeeze 174 = .ok (.ishl, 1) := by decide +kernel
theorem dX2_squeeze_175 : decode cX2_squeeze 175 = .ok (.ior, 1) := by decide +kernel
theorem dX2_squeeze_176 : decode cX2_squeeze 176 = .ok (.ixor, 1) := by decide +kernel
theorem dX2_squeeze_177 : decode cX2_squeeze 177 = .ok (.iload 5, 2) := by decide +kernel
theorem dX2_squeeze_179 : decode cX2_squeeze 179 = .ok (.bipush 10, 2) := by decide +kernel
theorem dX2_squeeze_181 : decode cX2_squeeze 181 = .ok (.iushr, 1) := by decide +kernel
theorem dX2_squeeze_182 : decode cX2_squeeze 182 = .ok (.ixor, 1) := by decide +kernel
theorem dX2_squeeze_183 : decode cX2_squeeze 183 = .ok (.iadd, 1) := by decide +kernel
theorem dX2_squeeze_184 : decode cX2_squeeze 184 = .ok (.iastore, 1) := by decide +kernel
theorem dX2_squeeze_185 : decode cX2_squeeze 185 = .ok (.iinc 3 1, 3) := by decide +kernel
theorem dX2_squeeze_188 : decode cX2_squeeze 188 = .ok (.goto (-99), 3) := by decide +kernel
theorem dX2_squeeze_191 : decode cX2_squeeze 191 = .ok (.aload_n 0, 1) := by decide +kernel
theorem dX2_squeeze_192 : decode cX2_squeeze 192 = .ok (.getfield 19, 3) := by decide +kernel
theorem dX2_squeeze_195 : decode cX2_squeeze 195 = .ok (.iconst 0, 1) := by decide +kernel
theorem dX2_squeeze_196 : decode cX2_squeeze 196 = .ok (.iaload, 1) := by decide +kernel
theorem dX2_squeeze_197 : decode cX2_squeeze 197 = .ok (.istore_n 3, 1) := by decide +kernel
theorem dX2_squeeze_198 : decode cX2_squeeze 198 = .ok (.aload_n 0, 1) := by decide +kernel
theorem dX2_squeeze_199 : decode cX2_squeeze 199 = .ok (.getfield 19, 3) := by decide +kernel
theorem dX2_squeeze_202 : decode cX2_squeeze 202 = .ok (.iconst 1, 1) := by decide +kernel
theorem dX2_squeeze_203 : decode cX2_squeeze 203 = .ok (.iaload, 1) := by decide +kernel
theorem dX2_squeeze_204 : decode cX2_squeeze 204 = .ok (.istore 4, 2) := by decide +kernel
theorem dX2_squeeze_206 : decode cX2_squeeze 206 = .ok (.aload_n 0, 1) := by decide +kernel
theorem dX2_squeeze_207 : decode cX2_squeeze 207 = .ok (.getfield 19, 3) := by decide +kernel
theorem dX2_squeeze_210 : decode cX2_squeeze 210 = .ok (.iconst 2, 1) := by decide +kernel
theorem dX2_squeeze_211 : decode cX2_squeeze 211 = .ok (.iaload, 1) := by decide +kernel
theorem dX2_squeeze_212 : decode cX2_squeeze 212 = .ok (.istore 5, 2) := by decide +kernel
theorem dX2_squeeze_214 : decode cX2_squeeze 214 = .ok (.aload_n 0, 1) := by decide +kernel
theorem dX2_squeeze_215 : decode cX2_squeeze 215 = .ok (.getfield 19, 3) := by decide +kernel
theorem dX2_squeeze_218 : decode cX2_squeeze 218 = .ok (.iconst 3, 1) := by decide +kernel
theorem dX2_squeeze_219 : decode cX2_squeeze 219 = .ok (.iaload, 1) := by decide +kernel
theorem dX2_squeeze_220 : decode cX2_squeeze 220 = .ok (.istore 6, 2) := by decide +kernel
theorem dX2_squeeze_222 : decode cX2_squeeze 222 = .ok (.aload_n 0, 1) := by decide +kernel
theorem dX2_squeeze_223 : decode cX2_squeeze 223 = .ok (.getfield 19, 3) := by decide +kernel
theorem dX2_squeeze_226 : decode cX2_squeeze 226 = .ok (.iconst 4, 1) := by decide +kernel
theorem dX2_squeeze_227 : decode cX2_squeeze 227 = .ok (.iaload, 1) := by decide +kernel
theorem dX2_squeeze_228 : decode cX2_squeeze 228 = .ok (.istore 7, 2) := by decide +kernel
theorem dX2_squeeze_230 : decode cX2_squeeze 230 = .ok (.aload_n 0, 1) := by decide +kernel
theorem dX2_squeeze_231 : decode cX2_squeeze 231 = .ok (.getfield 19, 3) := by decide +kernel
theorem dX2_squeeze_234 : decode cX2_squeeze 234 = .ok (.iconst 5, 1) := by decide +kernel
theorem dX2_squeeze_235 : decode cX2_squeeze 235 = .ok (.iaload, 1) := by decide +kernel
theorem dX2_squeeze_236 : decode cX2_squeeze 236 = .ok (.istore 8, 2) := by decide +kernel
theorem dX2_squeeze_238 : decode cX2_squeeze 238 = .ok (.aload_n 0, 1) := by decide +kernel
theorem dX2_squeeze_239 : decode cX2_squeeze 239 = .ok (.getfield 19, 3) := by decide +kernel
theorem dX2_squeeze_242 : decode cX2_squeeze 242 = .ok (.bipush 6, 2) := by decide +kernel
theorem dX2_squeeze_244 : decode cX2_squeeze 244 = .ok (.iaload, 1) := by decide +kernel
theorem dX2_squeeze_245 : decode cX2_squeeze 245 = .ok (.istore 9, 2) := by decide +kernel
theorem dX2_squeeze_247 : decode cX2_squeeze 247 = .ok (.aload_n 0, 1) := by decide +kernel
theorem dX2_squeeze_248 : decode cX2_squeeze 248 = .ok (.getfield 19, 3) := by decide +kernel
theorem dX2_squeeze_251 : decode cX2_squeeze 251 = .ok (.bipush 7, 2) := by decide +kernel
theorem dX2_squeeze_253 : decode cX2_squeeze 253 = .ok (.iaload, 1) := by decide +kernel
theorem dX2_squeeze_254 : decode cX2_squeeze 254 = .ok (.istore 10, 2) := by decide +kernel
theorem dX2_squeeze_256 : decode cX2_squeeze 256 = .ok (.iconst 0, 1) := by decide +kernel
theorem dX2_squeeze_257 : decode cX2_squeeze 257 = .ok (.istore 11, 2) := by decide +kernel
theorem dX2_squeeze_259 : decode cX2_squeeze 259 = .ok (.iload 11, 2) := by decide +kernel
theorem dX2_squeeze_261 : decode cX2_squeeze 261 = .ok (.bipush 64, 2) := by decide +kernel
theorem dX2_squeeze_263 : decode cX2_squeeze 263 = .ok (.if_icmp .ge 152, 3) := by decide +kernel
theorem dX2_squeeze_266 : decode cX2_squeeze 266 = .ok (.iload 10, 2) := by decide +kernel
theorem dX2_squeeze_268 : decode cX2_squeeze 268 = .ok (.iload 7, 2) := by decide +kernel
theorem dX2_squeeze_270 : decode cX2_squeeze 270 = .ok (.bipush 6, 2) := by decide +kernel
theorem dX2_squeeze_272 : decode cX2_squeeze 272 = .ok (.iushr, 1) := by decide +kernel
theorem dX2_squeeze_273 : decode cX2_squeeze 273 = .ok (.iload 7, 2) := by decide +kernel
theorem dX2_squeeze_275 : decode cX2_squeeze 275 = .ok (.bipush 26, 2) := by decide +kernel
theorem dX2_squeeze_277 : decode cX2_squeeze 277 = .ok (.ishl, 1) := by decide +kernel
theorem dX2_squeeze_278 : decode cX2_squeeze 278 = .ok (.ior, 1) := by decide +kernel
theorem dX2_squeeze_279 : decode cX2_squeeze 279 = .ok (.iload 7, 2) := by decide +kernel
theorem dX2_squeeze_281 : decode cX2_squeeze 281 = .ok (.bipush 11, 2) := by decide +kernel
theorem dX2_squeeze_283 : decode cX2_squeeze 283 = .ok (.iushr, 1) := by decide +kernel
theorem dX2_squeeze_284 : decode cX2_squeeze 284 = .ok (.iload 7, 2) := by decide +kernel
theorem dX2_squeeze_286 : decode cX2_squeeze 286 = .ok (.bipush 21, 2) := by decide +kernel
theorem dX2_squeeze_288 : decode cX2_squeeze 288 = .ok (.ishl, 1) := by decide +kernel
theorem dX2_squeeze_289 : decode cX2_squeeze 289 = .ok (.ior, 1) := by decide +kernel
theorem dX2_squeeze_290 : decode cX2_squeeze 290 = .ok (.ixor, 1) := by decide +kernel
theorem dX2_squeeze_291 : decode cX2_squeeze 291 = .ok (.iload 7, 2) := by decide +kernel
theorem dX2_squeeze_293 : decode cX2_squeeze 293 = .ok (.bipush 25, 2) := by decide +kernel
theorem dX2_squeeze_295 : decode cX2_squeeze 295 = .ok (.iushr, 1) := by decide +kernel
theorem dX2_squeeze_296 : decode cX2_squeeze 296 = .ok (.iload 7, 2) := by decide +kernel
theorem dX2_squeeze_298 : decode cX2_squeeze 298 = .ok (.bipush 7, 2) := by decide +kernel
theorem dX2_squeeze_300 : decode cX2_squeeze 300 = .ok (.ishl, 1) := by decide +kernel
theorem dX2_squeeze_301 : decode cX2_squeeze 301 = .ok (.ior, 1) := by decide +kernel
theorem dX2_squeeze_302 : decode cX2_squeeze 302 = .ok (.ixor, 1) := by decide +kernel
theorem dX2_squeeze_303 : decode cX2_squeeze 303 = .ok (.iadd, 1) := by decide +kernel
theorem dX2_squeeze_304 : decode cX2_squeeze 304 = .ok (.iload 9, 2) := by decide +kernel
theorem dX2_squeeze_306 : decode cX2_squeeze 306 = .ok (.iload 7, 2) := by decide +kernel
theorem dX2_squeeze_308 : decode cX2_squeeze 308 = .ok (.iload 8, 2) := by decide +kernel
theorem dX2_squeeze_310 : decode cX2_squeeze 310 = .ok (.iload 9, 2) := by decide +kernel
theorem dX2_squeeze_312 : decode cX2_squeeze 312 = .ok (.ixor, 1) := by decide +kernel
theorem dX2_squeeze_313 : decode cX2_squeeze 313 = .ok (.iand, 1) := by decide +kernel
theorem dX2_squeeze_314 : decode cX2_squeeze 314 = .ok (.ixor, 1) := by decide +kernel
theorem dX2_squeeze_315 : decode cX2_squeeze 315 = .ok (.iadd, 1) := by decide +kernel
theorem dX2_squeeze_316 : decode cX2_squeeze 316 = .ok (.getstatic 48, 3) := by decide +kernel
theorem dX2_squeeze_319 : decode cX2_squeeze 319 = .ok (.iload 11, 2) := by decide +kernel
theorem dX2_squeeze_321 : decode cX2_squeeze 321 = .ok (.iaload, 1) := by decide +kernel
theorem dX2_squeeze_322 : decode cX2_squeeze 322 = .ok (.iadd, 1) := by decide +kernel
theorem dX2_squeeze_323 : decode cX2_squeeze 323 = .ok (.aload_n 2, 1) := by decide +kernel
theorem dX2_squeeze_324 : decode cX2_squeeze 324 = .ok (.iload 11, 2) := by decide +kernel
theorem dX2_squeeze_326 : decode cX2_squeeze 326 = .ok (.iaload, 1) := by decide +kernel
theorem dX2_squeeze_327 : decode cX2_squeeze 327 = .ok (.iadd, 1) := by decide +kernel
theorem dX2_squeeze_328 : decode cX2_squeeze 328 = .ok (.istore 12, 2) := by decide +kernel
theorem dX2_squeeze_330 : decode cX2_squeeze 330 = .ok (.iload_n 3, 1) := by decide +kernel
theorem dX2_squeeze_331 : decode cX2_squeeze 331 = .ok (.iconst 2, 1) := by decide +kernel
theorem dX2_squeeze_332 : decode cX2_squeeze 332 = .ok (.iushr, 1) := by decide +kernel
theorem dX2_squeeze_333 : decode cX2_squeeze 333 = .ok (.iload_n 3, 1) := by decide +kernel
theorem dX2_squeeze_334 : decode cX2_squeeze 334 = .ok (.bipush 30, 2) := by decide +kernel
theorem dX2_squeeze_336 : decode cX2_squeeze 336 = .ok (.ishl, 1) := by decide +kernel
theorem dX2_squeeze_337 : decode cX2_squeeze 337 = .ok (.ior, 1) := by decide +kernel
theorem dX2_squeeze_338 : decode cX2_squeeze 338 = .ok (.iload_n 3, 1) := by decide +kernel
theorem dX2_squeeze_339 : decode cX2_squeeze 339 = .ok (.bipush 13, 2) := by decide +kernel
theorem dX2_squeeze_341 : decode cX2_squeeze 341 = .ok (.iushr, 1) := by decide +kernel
theorem dX2_squeeze_342 : decode cX2_squeeze 342 = .ok (.iload_n 3, 1) := by decide +kernel
theorem dX2_squeeze_343 : decode cX2_squeeze 343 = .ok (.bipush 19, 2) := by decide +kernel
theorem dX2_squeeze_345 : decode cX2_squeeze 345 = .ok (.ishl, 1) := by decide +kernel
theorem dX2_squeeze_346 : decode cX2_squeeze 346 = .ok (.ior, 1) := by decide +kernel
theorem dX2_squeeze_347 : decode cX2_squeeze 347 = .ok (.ixor, 1) := by decide +kernel
theorem dX2_squeeze_348 : decode cX2_squeeze 348 = .ok (.iload_n 3, 1) := by decide +kernel
theorem dX2_squeeze_349 : decode cX2_squeeze 349 = .ok (.bipush 22, 2) := by decide +kernel
theorem dX2_squeeze_351 : decode cX2_squeeze 351 = .ok (.iushr, 1) := by decide +kernel
theorem dX2_squeeze_352 : decode cX2_squeeze 352 = .ok (.iload_n 3, 1) := by decide +kernel
theorem dX2_squeeze_353 : decode cX2_squeeze 353 = .ok (.bipush 10, 2) := by decide +kernel
theorem dX2_squeeze_355 : decode cX2_squeeze 355 = .ok (.ishl, 1) := by decide +kernel
theorem dX2_squeeze_356 : decode cX2_squeeze 356 = .ok (.ior, 1) := by decide +kernel
theorem dX2_squeeze_357 : decode cX2_squeeze 357 = .ok (.ixor, 1) := by decide +kernel
theorem dX2_squeeze_358 : decode cX2_squeeze 358 = .ok (.iload_n 3, 1) := by decide +kernel
theorem dX2_squeeze_359 : decode cX2_squeeze 359 = .ok (.iload 4, 2) := by decide +kernel
theorem dX2_squeeze_361 : decode cX2_squeeze 361 = .ok (.iand, 1) := by decide +kernel
theorem dX2_squeeze_362 : decode cX2_squeeze 362 = .ok (.iload 5, 2) := by decide +kernel
theorem dX2_squeeze_364 : decode cX2_squeeze 364 = .ok (.iload_n 3, 1) := by decide +kernel
theorem dX2_squeeze_365 : decode cX2_squeeze 365 = .ok (.iload 4, 2) := by decide +kernel
theorem dX2_squeeze_367 : decode cX2_squeeze 367 = .ok (.ior, 1) := by decide +kernel
theorem dX2_squeeze_368 : decode cX2_squeeze 368 = .ok (.iand, 1) := by decide +kernel
theorem dX2_squeeze_369 : decode cX2_squeeze 369 = .ok (.ior, 1) := by decide +kernel
theorem dX2_squeeze_370 : decode cX2_squeeze 370 = .ok (.iadd, 1) := by decide +kernel
theorem dX2_squeeze_371 : decode cX2_squeeze 371 = .ok (.istore 13, 2) := by decide +kernel
theorem dX2_squeeze_373 : decode cX2_squeeze 373 = .ok (.iload 9, 2) := by decide +kernel
theorem dX2_squeeze_375 : decode cX2_squeeze 375 = .ok (.istore 10, 2) := by decide +kernel
theorem dX2_squeeze_377 : decode cX2_squeeze 377 = .ok (.iload 8, 2) := by decide +kernel
theorem dX2_squeeze_379 : decode cX2_squeeze 379 = .ok (.istore 9, 2) := by decide +kernel
theorem dX2_squeeze_381 : decode cX2_squeeze 381 = .ok (.iload 7, 2) := by decide +kernel
theorem dX2_squeeze_383 : decode cX2_squeeze 383 = .ok (.istore 8, 2) := by decide +kernel
theorem dX2_squeeze_385 : decode cX2_squeeze 385 = .ok (.iload 6, 2) := by decide +kernel
theorem dX2_squeeze_387 : decode cX2_squeeze 387 = .ok (.iload 12, 2) := by decide +kernel
theorem dX2_squeeze_389 : decode cX2_squeeze 389 = .ok (.iadd, 1) := by decide +kernel
theorem dX2_squeeze_390 : decode cX2_squeeze 390 = .ok (.istore 7, 2) := by decide +kernel
theorem dX2_squeeze_392 : decode cX2_squeeze 392 = .ok (.iload 5, 2) := by decide +kernel
theorem dX2_squeeze_394 : decode cX2_squeeze 394 = .ok (.istore 6, 2) := by decide +kernel
theorem dX2_squeeze_396 : decode cX2_squeeze 396 = .ok (.iload 4, 2) := by decide +kernel
theorem dX2_squeeze_398 : decode cX2_squeeze 398 = .ok (.istore 5, 2) := by decide +kernel
theorem dX2_squeeze_400 : decode cX2_squeeze 400 = .ok (.iload_n 3, 1) := by decide +kernel
theorem dX2_squeeze_401 : decode cX2_squeeze 401 = .ok (.istore 4, 2) := by decide +kernel
theorem dX2_squeeze_403 : decode cX2_squeeze 403 = .ok (.iload 12, 2) := by decide +kernel
theorem dX2_squeeze_405 : decode cX2_squeeze 405 = .ok (.iload 13, 2) := by decide +kernel
theorem dX2_squeeze_407 : decode cX2_squeeze 407 = .ok (.iadd, 1) := by decide +kernel
theorem dX2_squeeze_408 : decode cX2_squeeze 408 = .ok (.istore_n 3, 1) := by decide +kernel
theorem dX2_squeeze_409 : decode cX2_squeeze 409 = .ok (.iinc 11 1, 3) := by decide +kernel
theorem dX2_squeeze_412 : decode cX2_squeeze 412 = .ok (.goto (-153), 3) := by decide +kernel
theorem dX2_squeeze_415 : decode cX2_squeeze 415 = .ok (.aload_n 0, 1) := by decide +kernel
theorem dX2_squeeze_416 : decode cX2_squeeze 416 = .ok (.getfield 19, 3) := by decide +kernel
theorem dX2_squeeze_419 : decode cX2_squeeze 419 = .ok (.iconst 0, 1) := by decide +kernel
theorem dX2_squeeze_420 : decode cX2_squeeze 420 = .ok (.dup2, 1) := by decide +kernel
theorem dX2_squeeze_421 : decode cX2_squeeze 421 = .ok (.iaload, 1) := by decide +kernel
theorem dX2_squeeze_422 : decode cX2_squeeze 422 = .ok (.iload_n 3, 1) := by decide +kernel
theorem dX2_squeeze_423 : decode cX2_squeeze 423 = .ok (.iadd, 1) := by decide +kernel
theorem dX2_squeeze_424 : decode cX2_squeeze 424 = .ok (.iastore, 1) := by decide +kernel
theorem dX2_squeeze_425 : decode cX2_squeeze 425 = .ok (.aload_n 0, 1) := by decide +kernel
theorem dX2_squeeze_426 : decode cX2_squeeze 426 = .ok (.getfield 19, 3) := by decide +kernel
theorem dX2_squeeze_429 : decode cX2_squeeze 429 = .ok (.iconst 1, 1) := by decide +kernel
theorem dX2_squeeze_430 : decode cX2_squeeze 430 = .ok (.dup2, 1) := by decide +kernel
theorem dX2_squeeze_431 : decode cX2_squeeze 431 = .ok (.iaload, 1) := by decide +kernel
theorem dX2_squeeze_432 : decode cX2_squeeze 432 = .ok (.iload 4, 2) := by decide +kernel
theorem dX2_squeeze_434 : decode cX2_squeeze 434 = .ok (.iadd, 1) := by decide +kernel
theorem dX2_squeeze_435 : decode cX2_squeeze 435 = .ok (.iastore, 1) := by decide +kernel
theorem dX2_squeeze_436 : decode cX2_squeeze 436 = .ok (.aload_n 0, 1) := by decide +kernel
theorem dX2_squeeze_437 : decode cX2_squeeze 437 = .ok (.getfield 19, 3) := by decide +kernel
theorem dX2_squeeze_440 : decode cX2_squeeze 440 = .ok (.iconst 2, 1) := by decide +kernel
theorem dX2_squeeze_441 : decode cX2_squeeze 441 = .ok (.dup2, 1) := by decide +kernel
theorem dX2_squeeze_442 : decode cX2_squeeze 442 = .ok (.iaload, 1) := by decide +kernel
theorem dX2_squeeze_443 : decode cX2_squeeze 443 = .ok (.iload 5, 2) := by decide +kernel
theorem dX2_squeeze_445 : decode cX2_squeeze 445 = .ok (.iadd, 1) := by decide +kernel
theorem dX2_squeeze_446 : decode cX2_squeeze 446 = .ok (.iastore, 1) := by decide +kernel
theorem dX2_squeeze_447 : decode cX2_squeeze 447 = .ok (.aload_n 0, 1) := by decide +kernel
theorem dX2_squeeze_448 : decode cX2_squeeze 448 = .ok (.getfield 19, 3) := by decide +kernel
theorem dX2_squeeze_451 : decode cX2_squeeze 451 = .ok (.iconst 3, 1) := by decide +kernel
theorem dX2_squeeze_452 : decode cX2_squeeze 452 = .ok (.dup2, 1) := by decide +kernel
theorem dX2_squeeze_453 : decode cX2_squeeze 453 = .ok (.iaload, 1) := by decide +kernel
theorem dX2_squeeze_454 : decode cX2_squeeze 454 = .ok (.iload 6, 2) := by decide +kernel
theorem dX2_squeeze_456 : decode cX2_squeeze 456 = .ok (.iadd, 1) := by decide +kernel
theorem dX2_squeeze_457 : decode cX2_squeeze 457 = .ok (.iastore, 1) := by decide +kernel
theorem dX2_squeeze_458 : decode cX2_squeeze 458 = .ok (.aload_n 0, 1) := by decide +kernel
theorem dX2_squeeze_459 : decode cX2_squeeze 459 = .ok (.getfield 19, 3) := by decide +kernel
theorem dX2_squeeze_462 : decode cX2_squeeze 462 = .ok (.iconst 4, 1) := by decide +kernel
theorem dX2_squeeze_463 : decode cX2_squeeze 463 = .ok (.dup2, 1) := by decide +kernel
theorem dX2_squeeze_464 : decode cX2_squeeze 464 = .ok (.iaload, 1) := by decide +kernel
theorem dX2_squeeze_465 : decode cX2_squeeze 465 = .ok (.iload 7, 2) := by decide +kernel
theorem dX2_squeeze_467 : decode cX2_squeeze 467 = .ok (.iadd, 1) := by decide +kernel
theorem dX2_squeeze_468 : decode cX2_squeeze 468 = .ok (.iastore, 1) := by decide +kernel
theorem dX2_squeeze_469 : decode cX2_squeeze 469 = .ok (.aload_n 0, 1) := by decide +kernel
theorem dX2_squeeze_470 : decode cX2_squeeze 470 = .ok (.getfield 19, 3) := by decide +kernel
theorem dX2_squeeze_473 : decode cX2_squeeze 473 = .ok (.iconst 5, 1) := by decide +kernel
theorem dX2_squeeze_474 : decode cX2_squeeze 474 = .ok (.dup2, 1) := by decide +kernel
theorem dX2_squeeze_475 : decode cX2_squeeze 475 = .ok (.iaload, 1) := by decide +kernel
theorem dX2_squeeze_476 : decode cX2_squeeze 476 = .ok (.iload 8, 2) := by decide +kernel
theorem dX2_squeeze_478 : decode cX2_squeeze 478 = .ok (.iadd, 1) := by decide +kernel
theorem dX2_squeeze_479 : decode cX2_squeeze 479 = .ok (.iastore, 1) := by decide +kernel
theorem dX2_squeeze_480 : decode cX2_squeeze 480 = .ok (.aload_n 0, 1) := by decide +kernel
theorem dX2_squeeze_481 : decode cX2_squeeze 481 = .ok (.getfield 19, 3) := by decide +kernel
theorem dX2_squeeze_484 : decode cX2_squeeze 484 = .ok (.bipush 6, 2) := by decide +kernel
theorem dX2_squeeze_486 : decode cX2_squeeze 486 = .ok (.dup2, 1) := by decide +kernel
theorem dX2_squeeze_487 : decode cX2_squeeze 487 = .ok (.iaload, 1) := by decide +kernel
theorem dX2_squeeze_488 : decode cX2_squeeze 488 = .ok (.iload 9, 2) := by decide +kernel
theorem dX2_squeeze_490 : decode cX2_squeeze 490 = .ok (.iadd, 1) := by decide +kernel
theorem dX2_squeeze_491 : decode cX2_squeeze 491 = .ok (.iastore, 1) := by decide +kernel
theorem dX2_squeeze_492 : decode cX2_squeeze 492 = .ok (.aload_n 0, 1) := by decide +kernel
theorem dX2_squeeze_493 : decode cX2_squeeze 493 = .ok (.getfield 19, 3) := by decide +kernel
theorem dX2_squeeze_496 : decode cX2_squeeze 496 = .ok (.bipush 7, 2) := by decide +kernel
theorem dX2_squeeze_498 : decode cX2_squeeze 498 = .ok (.dup2, 1) := by decide +kernel
theorem dX2_squeeze_499 : decode cX2_squeeze 499 = .ok (.iaload, 1) := by decide +kernel
theorem dX2_squeeze_500 : decode cX2_squeeze 500 = .ok (.iload 10, 2) := by decide +kernel
theorem dX2_squeeze_502 : decode cX2_squeeze 502 = .ok (.iadd, 1) := by decide +kernel
theorem dX2_squeeze_503 : decode cX2_squeeze 503 = .ok (.iastore, 1) := by decide +kernel
theorem dX2_squeeze_504 : decode cX2_squeeze 504 = .ok (.return_, 1) := by decide +kernel
theorem dX2_digest_0 : decode cX2_digest 0 = .ok (.aload_n 0, 1) := by decide +kernel
theorem dX2_digest_1 : decode cX2_digest 1 = .ok (.invokevirtual 51, 3) := by decide +kernel
theorem dX2_digest_4 : decode cX2_digest 4 = .ok (.aload_n 0, 1) := by decide +kernel
theorem dX2_digest_5 : decode cX2_digest 5 = .ok (.aload_n 1, 1) := by decide +kernel
theorem dX2_digest_6 : decode cX2_digest 6 = .ok (.iload_n 2, 1) := by decide +kernel
theorem dX2_digest_7 : decode cX2_digest 7 = .ok (.iload_n 3, 1) := by decide +kernel
theorem dX2_digest_8 : decode cX2_digest 8 = .ok (.invokevirtual 54, 3) := by decide +kernel
theorem dX2_digest_11 : decode cX2_digest 11 = .ok (.aload_n 0, 1) := by decide +kernel
theorem dX2_digest_12 : decode cX2_digest 12 = .ok (.aload 4, 2) := by decide +kernel
theorem dX2_digest_14 : decode cX2_digest 14 = .ok (.iload 5, 2) := by decide +kernel
theorem dX2_digest_16 : decode cX2_digest 16 = .ok (.invokevirtual 58, 3) := by decide +kernel
theorem dX2_digest_19 : decode cX2_digest 19 = .ok (.return_, 1) := by decide +kernel
theorem dX2_clear_0 : decode cX2_clear 0 = .ok (.aload_n 0, 1) := by decide +kernel
theorem dX2_clear_1 : decode cX2_clear 1 = .ok (.iconst 0, 1) := by decide +kernel
theorem dX2_clear_2 : decode cX2_clear 2 = .ok (.putfield 62, 3) := by decide +kernel
theorem dX2_clear_5 : decode cX2_clear 5 = .ok (.return_, 1) := by decide +kernel
theorem dX2_leaf_0 : decode cX2_leaf 0 = .ok (.aload_n 0, 1) := by decide +kernel
theorem dX2_leaf_1 : decode cX2_leaf 1 = .ok (.getfield 62, 3) := by decide +kernel
theorem dX2_leaf_4 : decode cX2_leaf 4 = .ok (.bipush 66, 2) := by decide +kernel
theorem dX2_leaf_6 : decode cX2_leaf 6 = .ok (.if_icmp .ge 44, 3) := by decide +kernel
theorem dX2_leaf_9 : decode cX2_leaf 9 = .ok (.aload_n 0, 1) := by decide +kernel
theorem dX2_leaf_10 : decode cX2_leaf 10 = .ok (.invokevirtual 51, 3) := by decide +kernel
theorem dX2_leaf_13 : decode cX2_leaf 13 = .ok (.aload_n 0, 1) := by decide +kernel
theorem dX2_leaf_14 : decode cX2_leaf 14 = .ok (.iconst 0, 1) := by decide +kernel
theorem dX2_leaf_15 : decode cX2_leaf 15 = .ok (.invokevirtual 65, 3) := by decide +kernel
theorem dX2_leaf_18 : decode cX2_leaf 18 = .ok (.aload_n 0, 1) := by decide +kernel
theorem dX2_leaf_19 : decode cX2_leaf 19 = .ok (.aload_n 1, 1) := by decide +kernel
theorem dX2_leaf_20 : decode cX2_leaf 20 = .ok (.iload_n 2, 1) := by decide +kernel
theorem dX2_leaf_21 : decode cX2_leaf 21 = .ok (.iload_n 3, 1) := by decide +kernel
theorem dX2_leaf_22 : decode cX2_leaf 22 = .ok (.invokevirtual 54, 3) := by decide +kernel
theorem dX2_leaf_25 : decode cX2_leaf 25 = .ok (.aload_n 0, 1) := by decide +kernel
theorem dX2_leaf_26 : decode cX2_leaf 26 = .ok (.aload_n 0, 1) := by decide +kernel
theorem dX2_leaf_27 : decode cX2_leaf 27 = .ok (.getfield 22, 3) := by decide +kernel
theorem dX2_leaf_30 : decode cX2_leaf 30 = .ok (.aload_n 0, 1) := by decide +kernel
theorem dX2_leaf_31 : decode cX2_leaf 31 = .ok (.getfield 62, 3) := by decide +kernel
theorem dX2_leaf_34 : decode cX2_leaf 34 = .ok (.bipush 32, 2) := by decide +kernel
theorem dX2_leaf_36 : decode cX2_leaf 36 = .ok (.imul, 1) := by decide +kernel
theorem dX2_leaf_37 : decode cX2_leaf 37 = .ok (.invokevirtual 58, 3) := by decide +kernel
theorem dX2_leaf_40 : decode cX2_leaf 40 = .ok (.aload_n 0, 1) := by decide +kernel
theorem dX2_leaf_41 : decode cX2_leaf 41 = .ok (.dup, 1) := by decide +kernel
theorem dX2_leaf_42 : decode cX2_leaf 42 = .ok (.getfield 62, 3) := by decide +kernel
theorem dX2_leaf_45 : decode cX2_leaf 45 = .ok (.iconst 1, 1) := by decide +kernel
theorem dX2_leaf_46 : decode cX2_leaf 46 = .ok (.iadd, 1) := by decide +kernel
theorem dX2_leaf_47 : decode cX2_leaf 47 = .ok (.putfield 62, 3) := by decide +kernel
theorem dX2_leaf_50 : decode cX2_leaf 50 = .ok (.return_, 1) := by decide +kernel
theorem dX2_plant_0 : decode cX2_plant 0 = .ok (.aload_n 0, 1) := by decide +kernel
theorem dX2_plant_1 : decode cX2_plant 1 = .ok (.iconst 0, 1) := by decide +kernel
theorem dX2_plant_2 : decode cX2_plant 2 = .ok (.putfield 62, 3) := by decide +kernel
theorem dX2_plant_5 : decode cX2_plant 5 = .ok (.iload_n 2, 1) := by decide +kernel
theorem dX2_plant_6 : decode cX2_plant 6 = .ok (.ifCond .lt 12, 3) := by decide +kernel
theorem dX2_plant_9 : decode cX2_plant 9 = .ok (.iload_n 2, 1) := by decide +kernel
theorem dX2_plant_10 : decode cX2_plant 10 = .ok (.aload_n 1, 1) := by decide +kernel
theorem dX2_plant_11 : decode cX2_plant 11 = .ok (.arraylength, 1) := by decide +kernel
theorem dX2_plant_12 : decode cX2_plant 12 = .ok (.bipush 101, 2) := by decide +kernel
theorem dX2_plant_14 : decode cX2_plant 14 = .ok (.isub, 1) := by decide +kernel
theorem dX2_plant_15 : decode cX2_plant 15 = .ok (.if_icmp .le 4, 3) := by decide +kernel
theorem dX2_plant_18 : decode cX2_plant 18 = .ok (.return_, 1) := by decide +kernel
theorem dX2_plant_19 : decode cX2_plant 19 = .ok (.aload_n 1, 1) := by decide +kernel
theorem dX2_plant_20 : decode cX2_plant 20 = .ok (.iload_n 2, 1) := by decide +kernel
theorem dX2_plant_21 : decode cX2_plant 21 = .ok (.bipush 100, 2) := by decide +kernel
theorem dX2_plant_23 : decode cX2_plant 23 = .ok (.iadd, 1) := by decide +kernel
theorem dX2_plant_24 : decode cX2_plant 24 = .ok (.baload, 1) := by decide +kernel
theorem dX2_plant_25 : decode cX2_plant 25 = .ok (.sipush 255, 3) := by decide +kernel
theorem dX2_plant_28 : decode cX2_plant 28 = .ok (.iand, 1) := by decide +kernel
theorem dX2_plant_29 : decode cX2_plant 29 = .ok (.istore_n 3, 1) := by decide +kernel
theorem dX2_plant_30 : decode cX2_plant 30 = .ok (.iload_n 3, 1) := by decide +kernel
theorem dX2_plant_31 : decode cX2_plant 31 = .ok (.aload_n 1, 1) := by decide +kernel
theorem dX2_plant_32 : decode cX2_plant 32 = .ok (.iload_n 2, 1) := by decide +kernel
theorem dX2_plant_33 : decode cX2_plant 33 = .ok (.bipush 99, 2) := by decide +kernel
theorem dX2_plant_35 : decode cX2_plant 35 = .ok (.iadd, 1) := by decide +kernel
theorem dX2_plant_36 : decode cX2_plant 36 = .ok (.baload, 1) := by decide +kernel
theorem dX2_plant_37 : decode cX2_plant 37 = .ok (.sipush 255, 3) := by decide +kernel
theorem dX2_plant_40 : decode cX2_plant 40 = .ok (.iand, 1) := by decide +kernel
theorem dX2_plant_41 : decode cX2_plant 41 = .ok (.iadd, 1) := by decide +kernel
theorem dX2_plant_42 : decode cX2_plant 42 = .ok (.istore 4, 2) := by decide +kernel
theorem dX2_plant_44 : decode cX2_plant 44 = .ok (.iload_n 2, 1) := by decide +kernel
theorem dX2_plant_45 : decode cX2_plant 45 = .ok (.bipush 101, 2) := by decide +kernel
theorem dX2_plant_47 : decode cX2_plant 47 = .ok (.iadd, 1) := by decide +kernel
theorem dX2_plant_48 : decode cX2_plant 48 = .ok (.istore 5, 2) := by decide +kernel
theorem dX2_plant_50 : decode cX2_plant 50 = .ok (.iconst 0, 1) := by decide +kernel
theorem dX2_plant_51 : decode cX2_plant 51 = .ok (.istore 6, 2) := by decide +kernel
theorem dX2_plant_53 : decode cX2_plant 53 = .ok (.iload 6, 2) := by decide +kernel
theorem dX2_plant_55 : decode cX2_plant 55 = .ok (.iload 4, 2) := by decide +kernel
theorem dX2_plant_57 : decode cX2_plant 57 = .ok (.if_icmp .ge 88, 3) := by decide +kernel
theorem dX2_plant_60 : decode cX2_plant 60 = .ok (.iload 6, 2) := by decide +kernel
theorem dX2_plant_62 : decode cX2_plant 62 = .ok (.bipush 66, 2) := by decide +kernel
theorem dX2_plant_64 : decode cX2_plant 64 = .ok (.if_icmp .ge 81, 3) := by decide +kernel
theorem dX2_plant_67 : decode cX2_plant 67 = .ok (.iload 6, 2) := by decide +kernel
theorem dX2_plant_69 : decode cX2_plant 69 = .ok (.iload_n 3, 1) := by decide +kernel
theorem dX2_plant_70 : decode cX2_plant 70 = .ok (.if_icmp .ge 14, 3) := by decide +kernel
theorem dX2_plant_73 : decode cX2_plant 73 = .ok (.aload_n 1, 1) := by decide +kernel
theorem dX2_plant_74 : decode cX2_plant 74 = .ok (.iload 5, 2) := by decide +kernel
theorem dX2_plant_76 : decode cX2_plant 76 = .ok (.aload_n 1, 1) := by decide +kernel
theorem dX2_plant_77 : decode cX2_plant 77 = .ok (.arraylength, 1) := by decide +kernel
theorem dX2_plant_78 : decode cX2_plant 78 = .ok (.invokestatic 67, 3) := by decide +kernel
theorem dX2_plant_81 : decode cX2_plant 81 = .ok (.goto 5, 3) := by decide +kernel
theorem dX2_plant_84 : decode cX2_plant 84 = .ok (.bipush 7, 2) := by decide +kernel
theorem dX2_plant_86 : decode cX2_plant 86 = .ok (.istore 7, 2) := by decide +kernel
theorem dX2_plant_88 : decode cX2_plant 88 = .ok (.aload_n 0, 1) := by decide +kernel
theorem dX2_plant_89 : decode cX2_plant 89 = .ok (.invokevirtual 51, 3) := by decide +kernel
theorem dX2_plant_92 : decode cX2_plant 92 = .ok (.aload_n 0, 1) := by decide +kernel
theorem dX2_plant_93 : decode cX2_plant 93 = .ok (.iconst 0, 1) := by decide +kernel
theorem dX2_plant_94 : decode cX2_plant 94 = .ok (.invokevirtual 65, 3) := by decide +kernel
theorem dX2_plant_97 : decode cX2_plant 97 = .ok (.aload_n 0, 1) := by decide +kernel
theorem dX2_plant_98 : decode cX2_plant 98 = .ok (.aload_n 1, 1) := by decide +kernel
theorem dX2_plant_99 : decode cX2_plant 99 = .ok (.iload 5, 2) := by decide +kernel
theorem dX2_plant_101 : decode cX2_plant 101 = .ok (.iload 5, 2) := by decide +kernel
theorem dX2_plant_103 : decode cX2_plant 103 = .ok (.iload 7, 2) := by decide +kernel
theorem dX2_plant_105 : decode cX2_plant 105 = .ok (.iadd, 1) := by decide +kernel
theorem dX2_plant_106 : decode cX2_plant 106 = .ok (.invokevirtual 54, 3) := by decide +kernel
theorem dX2_plant_109 : decode cX2_plant 109 = .ok (.aload_n 0, 1) := by decide +kernel
theorem dX2_plant_110 : decode cX2_plant 110 = .ok (.aload_n 0, 1) := by decide +kernel
theorem dX2_plant_111 : decode cX2_plant 111 = .ok (.getfield 22, 3) := by decide +kernel
theorem dX2_plant_114 : decode cX2_plant 114 = .ok (.iload 6, 2) := by decide +kernel
theorem dX2_plant_116 : decode cX2_plant 116 = .ok (.bipush 32, 2) := by decide +kernel
theorem dX2_plant_118 : decode cX2_plant 118 = .ok (.imul, 1) := by decide +kernel
theorem dX2_plant_119 : decode cX2_plant 119 = .ok (.invokevirtual 58, 3) := by decide +kernel
theorem dX2_plant_122 : decode cX2_plant 122 = .ok (.aload_n 0, 1) := by decide +kernel
theorem dX2_plant_123 : decode cX2_plant 123 = .ok (.dup, 1) := by decide +kernel
theorem dX2_plant_124 : decode cX2_plant 124 = .ok (.getfield 62, 3) := by decide +kernel
theorem dX2_plant_127 : decode cX2_plant 127 = .ok (.iconst 1, 1) := by decide +kernel
theorem dX2_plant_128 : decode cX2_plant 128 = .ok (.iadd, 1) := by decide +kernel
theorem dX2_plant_129 : decode cX2_plant 129 = .ok (.putfield 62, 3) := by decide +kernel
theorem dX2_plant_132 : decode cX2_plant 132 = .ok (.iload 5, 2) := by decide +kernel
theorem dX2_plant_134 : decode cX2_plant 134 = .ok (.iload 7, 2) := by decide +kernel
theorem dX2_plant_136 : decode cX2_plant 136 = .ok (.iadd, 1) := by decide +kernel
theorem dX2_plant_137 : decode cX2_plant 137 = .ok (.istore 5, 2) := by decide +kernel
theorem dX2_plant_139 : decode cX2_plant 139 = .ok (.iinc 6 1, 3) := by decide +kernel
theorem dX2_plant_142 : decode cX2_plant 142 = .ok (.goto (-89), 3) := by decide +kernel
theorem dX2_plant_145 : decode cX2_plant 145 = .ok (.return_, 1) := by decide +kernel
theorem dX2_climb_0 : decode cX2_climb 0 = .ok (.iload_n 1, 1) := by decide +kernel
theorem dX2_climb_1 : decode cX2_climb 1 = .ok (.istore 4, 2) := by decide +kernel
theorem dX2_climb_3 : decode cX2_climb 3 = .ok (.iload_n 3, 1) := by decide +kernel
theorem dX2_climb_4 : decode cX2_climb 4 = .ok (.istore 5, 2) := by decide +kernel
theorem dX2_climb_6 : decode cX2_climb 6 = .ok (.aload_n 0, 1) := by decide +kernel
theorem dX2_climb_7 : decode cX2_climb 7 = .ok (.getfield 62, 3) := by decide +kernel
theorem dX2_climb_10 : decode cX2_climb 10 = .ok (.istore 6, 2) := by decide +kernel
theorem dX2_climb_12 : decode cX2_climb 12 = .ok (.iload 6, 2) := by decide +kernel
theorem dX2_climb_14 : decode cX2_climb 14 = .ok (.iconst 1, 1) := by decide +kernel
theorem dX2_climb_15 : decode cX2_climb 15 = .ok (.if_icmp .le 137, 3) := by decide +kernel
theorem dX2_climb_18 : decode cX2_climb 18 = .ok (.iload 4, 2) := by decide +kernel
theorem dX2_climb_20 : decode cX2_climb 20 = .ok (.ifCond .lt 22, 3) := by decide +kernel
theorem dX2_climb_23 : decode cX2_climb 23 = .ok (.aload_n 0, 1) := by decide +kernel
theorem dX2_climb_24 : decode cX2_climb 24 = .ok (.iload 4, 2) := by decide +kernel
theorem dX2_climb_26 : decode cX2_climb 26 = .ok (.iload 6, 2) := by decide +kernel
theorem dX2_climb_28 : decode cX2_climb 28 = .ok (.aload_n 2, 1) := by decide +kernel
theorem dX2_climb_29 : decode cX2_climb 29 = .ok (.iload 5, 2) := by decide +kernel
theorem dX2_climb_31 : decode cX2_climb 31 = .ok (.invokevirtual 73, 3) := by decide +kernel
theorem dX2_climb_34 : decode cX2_climb 34 = .ok (.istore 5, 2) := by decide +kernel
theorem dX2_climb_36 : decode cX2_climb 36 = .ok (.iload 4, 2) := by decide +kernel
theorem dX2_climb_38 : decode cX2_climb 38 = .ok (.iconst 2, 1) := by decide +kernel
theorem dX2_climb_39 : decode cX2_climb 39 = .ok (.idiv, 1) := by decide +kernel
theorem dX2_climb_40 : decode cX2_climb 40 = .ok (.istore 4, 2) := by decide +kernel
theorem dX2_climb_42 : decode cX2_climb 42 = .ok (.iconst 0, 1) := by decide +kernel
theorem dX2_climb_43 : decode cX2_climb 43 = .ok (.istore 7, 2) := by decide +kernel
theorem dX2_climb_45 : decode cX2_climb 45 = .ok (.iload 7, 2) := by decide +kernel
theorem dX2_climb_47 : decode cX2_climb 47 = .ok (.iload 6, 2) := by decide +kernel
theorem dX2_climb_49 : decode cX2_climb 49 = .ok (.iconst 2, 1) := by decide +kernel
theorem dX2_climb_50 : decode cX2_climb 50 = .ok (.idiv, 1) := by decide +kernel
theorem dX2_climb_51 : decode cX2_climb 51 = .ok (.if_icmp .ge 55, 3) := by decide +kernel
theorem dX2_climb_54 : decode cX2_climb 54 = .ok (.aload_n 0, 1) := by decide +kernel
theorem dX2_climb_55 : decode cX2_climb 55 = .ok (.invokevirtual 51, 3) := by decide +kernel
theorem dX2_climb_58 : decode cX2_climb 58 = .ok (.aload_n 0, 1) := by decide +kernel
theorem dX2_climb_59 : decode cX2_climb 59 = .ok (.iconst 1, 1) := by decide +kernel
theorem dX2_climb_60 : decode cX2_climb 60 = .ok (.invokevirtual 65, 3) := by decide +kernel
theorem dX2_climb_63 : decode cX2_climb 63 = .ok (.aload_n 0, 1) := by decide +kernel
theorem dX2_climb_64 : decode cX2_climb 64 = .ok (.aload_n 0, 1) := by decide +kernel
theorem dX2_climb_65 : decode cX2_climb 65 = .ok (.getfield 22, 3) := by decide +kernel
theorem dX2_climb_68 : decode cX2_climb 68 = .ok (.iconst 2, 1) := by decide +kernel
theorem dX2_climb_69 : decode cX2_climb 69 = .ok (.iload 7, 2) := by decide +kernel
theorem dX2_climb_71 : decode cX2_climb 71 = .ok (.imul, 1) := by decide +kernel
theorem dX2_climb_72 : decode cX2_climb 72 = .ok (.bipush 32, 2) := by decide +kernel
theorem dX2_climb_74 : decode cX2_climb 74 = .ok (.imul, 1) := by decide +kernel
theorem dX2_climb_75 : decode cX2_climb 75 = .ok (.iconst 2, 1) := by decide +kernel
theorem dX2_climb_76 : decode cX2_climb 76 = .ok (.iload 7, 2) := by decide +kernel
theorem dX2_climb_78 : decode cX2_climb 78 = .ok (.imul, 1) := by decide +kernel
theorem dX2_climb_79 : decode cX2_climb 79 = .ok (.iconst 2, 1) := by decide +kernel
theorem dX2_climb_80 : decode cX2_climb 80 = .ok (.iadd, 1) := by decide +kernel
theorem dX2_climb_81 : decode cX2_climb 81 = .ok (.bipush 32, 2) := by decide +kernel
theorem dX2_climb_83 : decode cX2_climb 83 = .ok (.imul, 1) := by decide +kernel
theorem dX2_climb_84 : decode cX2_climb 84 = .ok (.invokevirtual 54, 3) := by decide +kernel
theorem dX2_climb_87 : decode cX2_climb 87 = .ok (.aload_n 0, 1) := by decide +kernel
theorem dX2_climb_88 : decode cX2_climb 88 = .ok (.aload_n 0, 1) := by decide +kernel
theorem dX2_climb_89 : decode cX2_climb 89 = .ok (.getfield 22, 3) := by decide +kernel
theorem dX2_climb_92 : decode cX2_climb 92 = .ok (.iload 7, 2) := by decide +kernel
theorem dX2_climb_94 : decode cX2_climb 94 = .ok (.bipush 32, 2) := by decide +kernel
theorem dX2_climb_96 : decode cX2_climb 96 = .ok (.imul, 1) := by decide +kernel
theorem dX2_climb_97 : decode cX2_climb 97 = .ok (.invokevirtual 58, 3) := by decide +kernel
theorem dX2_climb_100 : decode cX2_climb 100 = .ok (.iinc 7 1, 3) := by decide +kernel
theorem dX2_climb_103 : decode cX2_climb 103 = .ok (.goto (-58), 3) := by decide +kernel
theorem dX2_climb_106 : decode cX2_climb 106 = .ok (.iload 6, 2) := by decide +kernel
theorem dX2_climb_108 : decode cX2_climb 108 = .ok (.iconst 1, 1) := by decide +kernel
theorem dX2_climb_109 : decode cX2_climb 109 = .ok (.iand, 1) := by decide +kernel
theorem dX2_climb_110 : decode cX2_climb 110 = .ok (.iconst 1, 1) := by decide +kernel
theorem dX2_climb_111 : decode cX2_climb 111 = .ok (.if_icmp .ne 30, 3) := by decide +kernel
theorem dX2_climb_114 : decode cX2_climb 114 = .ok (.aload_n 0, 1) := by decide +kernel
theorem dX2_climb_115 : decode cX2_climb 115 = .ok (.getfield 22, 3) := by decide +kernel
theorem dX2_climb_118 : decode cX2_climb 118 = .ok (.iload 6, 2) := by decide +kernel
theorem dX2_climb_120 : decode cX2_climb 120 = .ok (.iconst 1, 1) := by decide +kernel
theorem dX2_climb_121 : decode cX2_climb 121 = .ok (.isub, 1) := by decide +kernel
theorem dX2_climb_122 : decode cX2_climb 122 = .ok (.bipush 32, 2) := by decide +kernel
theorem dX2_climb_124 : decode cX2_climb 124 = .ok (.imul, 1) := by decide +kernel
theorem dX2_climb_125 : decode cX2_climb 125 = .ok (.aload_n 0, 1) := by decide +kernel
theorem dX2_climb_126 : decode cX2_climb 126 = .ok (.getfield 22, 3) := by decide +kernel
theorem dX2_climb_129 : decode cX2_climb 129 = .ok (.iload 6, 2) := by decide +kernel
theorem dX2_climb_131 : decode cX2_climb 131 = .ok (.iconst 2, 1) := by decide +kernel
theorem dX2_climb_132 : decode cX2_climb 132 = .ok (.idiv, 1) := by decide +kernel
theorem dX2_climb_133 : decode cX2_climb 133 = .ok (.bipush 32, 2) := by decide +kernel
theorem dX2_climb_135 : decode cX2_climb 135 = .ok (.imul, 1) := by decide +kernel
theorem dX2_climb_136 : decode cX2_climb 136 = .ok (.bipush 32, 2) := by decide +kernel
theorem dX2_climb_138 : decode cX2_climb 138 = .ok (.invokestatic 29, 3) := by decide +kernel
theorem dX2_climb_141 : decode cX2_climb 141 = .ok (.iload 6, 2) := by decide +kernel
theorem dX2_climb_143 : decode cX2_climb 143 = .ok (.iconst 1, 1) := by decide +kernel
theorem dX2_climb_144 : decode cX2_climb 144 = .ok (.iadd, 1) := by decide +kernel
theorem dX2_climb_145 : decode cX2_climb 145 = .ok (.iconst 2, 1) := by decide +kernel
theorem dX2_climb_146 : decode cX2_climb 146 = .ok (.idiv, 1) := by decide +kernel
theorem dX2_climb_147 : decode cX2_climb 147 = .ok (.istore 6, 2) := by decide +kernel
theorem dX2_climb_149 : decode cX2_climb 149 = .ok (.goto (-137), 3) := by decide +kernel
theorem dX2_climb_152 : decode cX2_climb 152 = .ok (.iload 5, 2) := by decide +kernel
theorem dX2_climb_154 : decode cX2_climb 154 = .ok (.iload_n 3, 1) := by decide +kernel
theorem dX2_climb_155 : decode cX2_climb 155 = .ok (.isub, 1) := by decide +kernel
theorem dX2_climb_156 : decode cX2_climb 156 = .ok (.ireturn, 1) := by decide +kernel
theorem dX2_step_0 : decode cX2_step 0 = .ok (.iload_n 1, 1) := by decide +kernel
theorem dX2_step_1 : decode cX2_step 1 = .ok (.iconst 1, 1) := by decide +kernel
theorem dX2_step_2 : decode cX2_step 2 = .ok (.iand, 1) := by decide +kernel
theorem dX2_step_3 : decode cX2_step 3 = .ok (.iconst 1, 1) := by decide +kernel
theorem dX2_step_4 : decode cX2_step 4 = .ok (.if_icmp .ne 7, 3) := by decide +kernel
theorem dX2_step_7 : decode cX2_step 7 = .ok (.iconst 1, 1) := by decide +kernel
theorem dX2_step_8 : decode cX2_step 8 = .ok (.goto 4, 3) := by decide +kernel
theorem dX2_step_11 : decode cX2_step 11 = .ok (.iconst 0, 1) := by decide +kernel
theorem dX2_step_12 : decode cX2_step 12 = .ok (.istore 5, 2) := by decide +kernel
theorem dX2_step_14 : decode cX2_step 14 = .ok (.iload 5, 2) := by decide +kernel
theorem dX2_step_16 : decode cX2_step 16 = .ok (.ifCond .eq 9, 3) := by decide +kernel
theorem dX2_step_19 : decode cX2_step 19 = .ok (.iload_n 1, 1) := by decide +kernel
theorem dX2_step_20 : decode cX2_step 20 = .ok (.iconst 1, 1) := by decide +kernel
theorem dX2_step_21 : decode cX2_step 21 = .ok (.isub, 1) := by decide +kernel
theorem dX2_step_22 : decode cX2_step 22 = .ok (.goto 6, 3) := by decide +kernel
theorem dX2_step_25 : decode cX2_step 25 = .ok (.iload_n 1, 1) := by decide +kernel
theorem dX2_step_26 : decode cX2_step 26 = .ok (.iconst 1, 1) := by decide +kernel
theorem dX2_step_27 : decode cX2_step 27 = .ok (.iadd, 1) := by decide +kernel
theorem dX2_step_28 : decode cX2_step 28 = .ok (.istore 6, 2) := by decide +kernel
theorem dX2_step_30 : decode cX2_step 30 = .ok (.iload 4, 2) := by decide +kernel
theorem dX2_step_32 : decode cX2_step 32 = .ok (.ifCond .lt 25, 3) := by decide +kernel
theorem dX2_step_35 : decode cX2_step 35 = .ok (.iload 4, 2) := by decide +kernel
theorem dX2_step_37 : decode cX2_step 37 = .ok (.aload_n 3, 1) := by decide +kernel
theorem dX2_step_38 : decode cX2_step 38 = .ok (.arraylength, 1) := by decide +kernel
theorem dX2_step_39 : decode cX2_step 39 = .ok (.iconst 1, 1) := by decide +kernel
theorem dX2_step_40 : decode cX2_step 40 = .ok (.isub, 1) := by decide +kernel
theorem dX2_step_41 : decode cX2_step 41 = .ok (.bipush 32, 2) := by decide +kernel
theorem dX2_step_43 : decode cX2_step 43 = .ok (.isub, 1) := by decide +kernel
theorem dX2_step_44 : decode cX2_step 44 = .ok (.if_icmp .gt 13, 3) := by decide +kernel
theorem dX2_step_47 : decode cX2_step 47 = .ok (.iload 6, 2) := by decide +kernel
theorem dX2_step_49 : decode cX2_step 49 = .ok (.ifCond .lt 8, 3) := by decide +kernel
theorem dX2_step_52 : decode cX2_step 52 = .ok (.iload_n 1, 1) := by decide +kernel
theorem dX2_step_53 : decode cX2_step 53 = .ok (.iload_n 2, 1) := by decide +kernel
theorem dX2_step_54 : decode cX2_step 54 = .ok (.if_icmp .lt 6, 3) := by decide +kernel
theorem dX2_step_57 : decode cX2_step 57 = .ok (.iload 4, 2) := by decide +kernel
theorem dX2_step_59 : decode cX2_step 59 = .ok (.ireturn, 1) := by decide +kernel
theorem dX2_step_60 : decode cX2_step 60 = .ok (.iload 6, 2) := by decide +kernel
theorem dX2_step_62 : decode cX2_step 62 = .ok (.iload_n 2, 1) := by decide +kernel
theorem dX2_step_63 : decode cX2_step 63 = .ok (.if_icmp .lt 13, 3) := by decide +kernel
theorem dX2_step_66 : decode cX2_step 66 = .ok (.aload_n 3, 1) := by decide +kernel
theorem dX2_step_67 : decode cX2_step 67 = .ok (.iload 4, 2) := by decide +kernel
theorem dX2_step_69 : decode cX2_step 69 = .ok (.iconst 0, 1) := by decide +kernel
theorem dX2_step_70 : decode cX2_step 70 = .ok (.bastore, 1) := by decide +kernel
theorem dX2_step_71 : decode cX2_step 71 = .ok (.iload 4, 2) := by decide +kernel
theorem dX2_step_73 : decode cX2_step 73 = .ok (.iconst 1, 1) := by decide +kernel
theorem dX2_step_74 : decode cX2_step 74 = .ok (.iadd, 1) := by decide +kernel
theorem dX2_step_75 : decode cX2_step 75 = .ok (.ireturn, 1) := by decide +kernel
theorem dX2_step_76 : decode cX2_step 76 = .ok (.aload_n 3, 1) := by decide +kernel
theorem dX2_step_77 : decode cX2_step 77 = .ok (.iload 4, 2) := by decide +kernel
theorem dX2_step_79 : decode cX2_step 79 = .ok (.iload 5, 2) := by decide +kernel
theorem dX2_step_81 : decode cX2_step 81 = .ok (.ifCond .eq 7, 3) := by decide +kernel
theorem dX2_step_84 : decode cX2_step 84 = .ok (.iconst 1, 1) := by decide +kernel
theorem dX2_step_85 : decode cX2_step 85 = .ok (.goto 4, 3) := by decide +kernel
theorem dX2_step_88 : decode cX2_step 88 = .ok (.iconst 2, 1) := by decide +kernel
theorem dX2_step_89 : decode cX2_step 89 = .ok (.i2b, 1) := by decide +kernel
theorem dX2_step_90 : decode cX2_step 90 = .ok (.bastore, 1) := by decide +kernel
theorem dX2_step_91 : decode cX2_step 91 = .ok (.aload_n 0, 1) := by decide +kernel
theorem dX2_step_92 : decode cX2_step 92 = .ok (.getfield 22, 3) := by decide +kernel
theorem dX2_step_95 : decode cX2_step 95 = .ok (.iload 6, 2) := by decide +kernel
theorem dX2_step_97 : decode cX2_step 97 = .ok (.bipush 32, 2) := by decide +kernel
theorem dX2_step_99 : decode cX2_step 99 = .ok (.imul, 1) := by decide +kernel
theorem dX2_step_100 : decode cX2_step 100 = .ok (.aload_n 3, 1) := by decide +kernel
theorem dX2_step_101 : decode cX2_step 101 = .ok (.iload 4, 2) := by decide +kernel
theorem dX2_step_103 : decode cX2_step 103 = .ok (.iconst 1, 1) := by decide +kernel
theorem dX2_step_104 : decode cX2_step 104 = .ok (.iadd, 1) := by decide +kernel
theorem dX2_step_105 : decode cX2_step 105 = .ok (.bipush 32, 2) := by decide +kernel
theorem dX2_step_107 : decode cX2_step 107 = .ok (.invokestatic 29, 3) := by decide +kernel
theorem dX2_step_110 : decode cX2_step 110 = .ok (.iload 4, 2) := by decide +kernel
theorem dX2_step_112 : decode cX2_step 112 = .ok (.iconst 1, 1) := by decide +kernel
theorem dX2_step_113 : decode cX2_step 113 = .ok (.iadd, 1) := by decide +kernel
theorem dX2_step_114 : decode cX2_step 114 = .ok (.bipush 32, 2) := by decide +kernel
theorem dX2_step_116 : decode cX2_step 116 = .ok (.iadd, 1) := by decide +kernel
theorem dX2_step_117 : decode cX2_step 117 = .ok (.ireturn, 1) := by decide +kernel
theorem dX2_top_0 : decode cX2_top 0 = .ok (.iload_n 2, 1) := by decide +kernel
theorem dX2_top_1 : decode cX2_top 1 = .ok (.ifCond .lt 12, 3) := by decide +kernel
theorem dX2_top_4 : decode cX2_top 4 = .ok (.iload_n 2, 1) := by decide +kernel
theorem dX2_top_5 : decode cX2_top 5 = .ok (.aload_n 1, 1) := by decide +kernel
theorem dX2_top_6 : decode cX2_top 6 = .ok (.arraylength, 1) := by decide +kernel
theorem dX2_top_7 : decode cX2_top 7 = .ok (.bipush 32, 2) := by decide +kernel
theorem dX2_top_9 : decode cX2_top 9 = .ok (.isub, 1) := by decide +kernel
theorem dX2_top_10 : decode cX2_top 10 = .ok (.if_icmp .le 4, 3) := by decide +kernel
theorem dX2_top_13 : decode cX2_top 13 = .ok (.return_, 1) := by decide +kernel
theorem dX2_top_14 : decode cX2_top 14 = .ok (.aload_n 0, 1) := by decide +kernel
theorem dX2_top_15 : decode cX2_top 15 = .ok (.getfield 62, 3) := by decide +kernel
theorem dX2_top_18 : decode cX2_top 18 = .ok (.ifCond .ne 16, 3) := by decide +kernel
theorem dX2_top_21 : decode cX2_top 21 = .ok (.aload_n 1, 1) := by decide +kernel
theorem dX2_top_22 : decode cX2_top 22 = .ok (.iload_n 2, 1) := by decide +kernel
theorem dX2_top_23 : decode cX2_top 23 = .ok (.iload_n 2, 1) := by decide +kernel
theorem dX2_top_24 : decode cX2_top 24 = .ok (.bipush 32, 2) := by decide +kernel
theorem dX2_top_26 : decode cX2_top 26 = .ok (.iadd, 1) := by decide +kernel
theorem dX2_top_27 : decode cX2_top 27 = .ok (.iconst 0, 1) := by decide +kernel
theorem dX2_top_28 : decode cX2_top 28 = .ok (.invokestatic 35, 3) := by decide +kernel
theorem dX2_top_31 : decode cX2_top 31 = .ok (.goto 15, 3) := by decide +kernel
theorem dX2_top_34 : decode cX2_top 34 = .ok (.aload_n 0, 1) := by decide +kernel
theorem dX2_top_35 : decode cX2_top 35 = .ok (.getfield 22, 3) := by decide +kernel
theorem dX2_top_38 : decode cX2_top 38 = .ok (.iconst 0, 1) := by decide +kernel
theorem dX2_top_39 : decode cX2_top 39 = .ok (.aload_n 1, 1) := by decide +kernel
theorem dX2_top_40 : decode cX2_top 40 = .ok (.iload_n 2, 1) := by decide +kernel
theorem dX2_top_41 : decode cX2_top 41 = .ok (.bipush 32, 2) := by decide +kernel
theorem dX2_top_43 : decode cX2_top 43 = .ok (.invokestatic 29, 3) := by decide +kernel
theorem dX2_top_46 : decode cX2_top 46 = .ok (.return_, 1) := by decide +kernel
theorem dX3_receive_0 : decode cX3_receive 0 = .ok (.aload_n 2, 1) := by decide +kernel
theorem dX3_receive_1 : decode cX3_receive 1 = .ok (.invokevirtual 9, 3) := by decide +kernel
theorem dX3_receive_4 : decode cX3_receive 4 = .ok (.istore_n 3, 1) := by decide +kernel
theorem dX3_receive_5 : decode cX3_receive 5 = .ok (.iload_n 3, 1) := by decide +kernel
theorem dX3_receive_6 : decode cX3_receive 6 = .ok (.ifCond .ne 11, 3) := by decide +kernel
theorem dX3_receive_9 : decode cX3_receive 9 = .ok (.aload_n 0, 1) := by decide +kernel
theorem dX3_receive_10 : decode cX3_receive 10 = .ok (.iload_n 1, 1) := by decide +kernel
theorem dX3_receive_11 : decode cX3_receive 11 = .ok (.aload_n 2, 1) := by decide +kernel
theorem dX3_receive_12 : decode cX3_receive 12 = .ok (.invokestatic 15, 3) := by decide +kernel
theorem dX3_receive_15 : decode cX3_receive 15 = .ok (.iconst 0, 1) := by decide +kernel
theorem dX3_receive_16 : decode cX3_receive 16 = .ok (.ireturn, 1) := by decide +kernel
theorem dX3_receive_17 : decode cX3_receive 17 = .ok (.iload_n 3, 1) := by decide +kernel
theorem dX3_receive_18 : decode cX3_receive 18 = .ok (.bipush 6, 2) := by decide +kernel
theorem dX3_receive_20 : decode cX3_receive 20 = .ok (.if_icmp .ne 33, 3) := by decide +kernel
theorem dX3_receive_23 : decode cX3_receive 23 = .ok (.aload_n 0, 1) := by decide +kernel
theorem dX3_receive_24 : decode cX3_receive 24 = .ok (.getfield 21, 3) := by decide +kernel
theorem dX3_receive_27 : decode cX3_receive 27 = .ok (.aload_n 2, 1) := by decide +kernel
theorem dX3_receive_28 : decode cX3_receive 28 = .ok (.invokevirtual 27, 3) := by decide +kernel
theorem dX3_receive_31 : decode cX3_receive 31 = .ok (.ifCond .eq 20, 3) := by decide +kernel
theorem dX3_receive_34 : decode cX3_receive 34 = .ok (.aload_n 0, 1) := by decide +kernel
theorem dX3_receive_35 : decode cX3_receive 35 = .ok (.getfield 33, 3) := by decide +kernel
theorem dX3_receive_38 : decode cX3_receive 38 = .ok (.aload_n 0, 1) := by decide +kernel
theorem dX3_receive_39 : decode cX3_receive 39 = .ok (.getfield 37, 3) := by decide +kernel
theorem dX3_receive_42 : decode cX3_receive 42 = .ok (.aload_n 2, 1) := by decide +kernel
theorem dX3_receive_43 : decode cX3_receive 43 = .ok (.iload_n 1, 1) := by decide +kernel
theorem dX3_receive_44 : decode cX3_receive 44 = .ok (.aload_n 2, 1) := by decide +kernel
theorem dX3_receive_45 : decode cX3_receive 45 = .ok (.invokevirtual 41, 3) := by decide +kernel
theorem dX3_receive_48 : decode cX3_receive 48 = .ok (.invokevirtual 44, 3) := by decide +kernel
theorem dX3_receive_51 : decode cX3_receive 51 = .ok (.iconst 0, 1) := by decide +kernel
theorem dX3_receive_52 : decode cX3_receive 52 = .ok (.ireturn, 1) := by decide +kernel
theorem dX3_receive_53 : decode cX3_receive 53 = .ok (.iload_n 3, 1) := by decide +kernel
theorem dX3_receive_54 : decode cX3_receive 54 = .ok (.bipush 7, 2) := by decide +kernel
theorem dX3_receive_56 : decode cX3_receive 56 = .ok (.if_icmp .ne 33, 3) := by decide +kernel
theorem dX3_receive_59 : decode cX3_receive 59 = .ok (.aload_n 2, 1) := by decide +kernel
theorem dX3_receive_60 : decode cX3_receive 60 = .ok (.iconst 1, 1) := by decide +kernel
theorem dX3_receive_61 : decode cX3_receive 61 = .ok (.invokevirtual 50, 3) := by decide +kernel
theorem dX3_receive_64 : decode cX3_receive 64 = .ok (.aload_n 0, 1) := by decide +kernel
theorem dX3_receive_65 : decode cX3_receive 65 = .ok (.getfield 54, 3) := by decide +kernel
theorem dX3_receive_68 : decode cX3_receive 68 = .ok (.if_icmp .le 19, 3) := by decide +kernel
theorem dX3_receive_71 : decode cX3_receive 71 = .ok (.aload_n 0, 1) := by decide +kernel
theorem dX3_receive_72 : decode cX3_receive 72 = .ok (.getfield 21, 3) := by decide +kernel
theorem dX3_receive_75 : decode cX3_receive 75 = .ok (.iload_n 1, 1) := by decide +kernel
theorem dX3_receive_76 : decode cX3_receive 76 = .ok (.aload_n 2, 1) := by decide +kernel
theorem dX3_receive_77 : decode cX3_receive 77 = .ok (.invokevirtual 57, 3) := by decide +kernel
theorem dX3_receive_80 : decode cX3_receive 80 = .ok (.ifCond .eq 7, 3) := by decide +kernel
theorem dX3_receive_83 : decode cX3_receive 83 = .ok (.iconst 1, 1) := by decide +kernel
theorem dX3_receive_84 : decode cX3_receive 84 = .ok (.goto 4, 3) := by decide +kernel
theorem dX3_receive_87 : decode cX3_receive 87 = .ok (.iconst 0, 1) := by decide +kernel
theorem dX3_receive_88 : decode cX3_receive 88 = .ok (.ireturn, 1) := by decide +kernel
theorem dX3_receive_89 : decode cX3_receive 89 = .ok (.iload_n 3, 1) := by decide +kernel
theorem dX3_receive_90 : decode cX3_receive 90 = .ok (.iconst 1, 1) := by decide +kernel
theorem dX3_receive_91 : decode cX3_receive 91 = .ok (.if_icmp .eq 13, 3) := by decide +kernel
theorem dX3_receive_94 : decode cX3_receive 94 = .ok (.iload_n 3, 1) := by decide +kernel
theorem dX3_receive_95 : decode cX3_receive 95 = .ok (.iconst 2, 1) := by decide +kernel
theorem dX3_receive_96 : decode cX3_receive 96 = .ok (.if_icmp .eq 8, 3) := by decide +kernel
theorem dX3_receive_99 : decode cX3_receive 99 = .ok (.iload_n 3, 1) := by decide +kernel
theorem dX3_receive_100 : decode cX3_receive 100 = .ok (.iconst 3, 1) := by decide +kernel
theorem dX3_receive_101 : decode cX3_receive 101 = .ok (.if_icmp .ne 7, 3) := by decide +kernel
theorem dX3_receive_104 : decode cX3_receive 104 = .ok (.iconst 1, 1) := by decide +kernel
theorem dX3_receive_105 : decode cX3_receive 105 = .ok (.goto 4, 3) := by decide +kernel
theorem dX3_receive_108 : decode cX3_receive 108 = .ok (.iconst 0, 1) := by decide +kernel
theorem dX3_receive_109 : decode cX3_receive 109 = .ok (.istore 4, 2) := by decide +kernel
theorem dX3_receive_111 : decode cX3_receive 111 = .ok (.aload_n 2, 1) := by decide +kernel
theorem dX3_receive_112 : decode cX3_receive 112 = .ok (.iload 4, 2) := by decide +kernel
theorem dX3_receive_114 : decode cX3_receive 114 = .ok (.ifCond .eq 7, 3) := by decide +kernel
theorem dX3_receive_117 : decode cX3_receive 117 = .ok (.iconst 2, 1) := by decide +kernel
theorem dX3_receive_118 : decode cX3_receive 118 = .ok (.goto 4, 3) := by decide +kernel
theorem dX3_receive_121 : decode cX3_receive 121 = .ok (.iconst 1, 1) := by decide +kernel
theorem dX3_receive_122 : decode cX3_receive 122 = .ok (.invokevirtual 50, 3) := by decide +kernel
theorem dX3_receive_125 : decode cX3_receive 125 = .ok (.istore 5, 2) := by decide +kernel
theorem dX3_receive_127 : decode cX3_receive 127 = .ok (.iload 5, 2) := by decide +kernel
theorem dX3_receive_129 : decode cX3_receive 129 = .ok (.aload_n 0, 1) := by decide +kernel
theorem dX3_receive_130 : decode cX3_receive 130 = .ok (.getfield 54, 3) := by decide +kernel
theorem dX3_receive_133 : decode cX3_receive 133 = .ok (.if_icmp .ge 30, 3) := by decide +kernel
theorem dX3_receive_136 : decode cX3_receive 136 = .ok (.iload_n 3, 1) := by decide +kernel
theorem dX3_receive_137 : decode cX3_receive 137 = .ok (.iconst 5, 1) := by decide +kernel
theorem dX3_receive_138 : decode cX3_receive 138 = .ok (.if_icmp .eq 16, 3) := by decide +kernel
theorem dX3_receive_141 : decode cX3_receive 141 = .ok (.iload 4, 2) := by decide +kernel
theorem dX3_receive_143 : decode cX3_receive 143 = .ok (.ifCond .eq 18, 3) := by decide +kernel
theorem dX3_receive_146 : decode cX3_receive 146 = .ok (.aload_n 2, 1) := by decide +kernel
theorem dX3_receive_147 : decode cX3_receive 147 = .ok (.invokevirtual 41, 3) := by decide +kernel
theorem dX3_receive_150 : decode cX3_receive 150 = .ok (.iload_n 1, 1) := by decide +kernel
theorem dX3_receive_151 : decode cX3_receive 151 = .ok (.if_icmp .ne 10, 3) := by decide +kernel
theorem dX3_receive_154 : decode cX3_receive 154 = .ok (.aload_n 0, 1) := by decide +kernel
theorem dX3_receive_155 : decode cX3_receive 155 = .ok (.iload_n 1, 1) := by decide +kernel
theorem dX3_receive_156 : decode cX3_receive 156 = .ok (.iload 5, 2) := by decide +kernel
theorem dX3_receive_158 : decode cX3_receive 158 = .ok (.invokestatic 61, 3) := by decide +kernel
theorem dX3_receive_161 : decode cX3_receive 161 = .ok (.iconst 0, 1) := by decide +kernel
theorem dX3_receive_162 : decode cX3_receive 162 = .ok (.ireturn, 1) := by decide +kernel
theorem dX3_receive_163 : decode cX3_receive 163 = .ok (.iload_n 3, 1) := by decide +kernel
theorem dX3_receive_164 : decode cX3_receive 164 = .ok (.iconst 5, 1) := by decide +kernel
theorem dX3_receive_165 : decode cX3_receive 165 = .ok (.if_icmp .ne 19, 3) := by decide +kernel
theorem dX3_receive_168 : decode cX3_receive 168 = .ok (.iload 5, 2) := by decide +kernel
theorem dX3_receive_170 : decode cX3_receive 170 = .ok (.aload_n 0, 1) := by decide +kernel
theorem dX3_receive_171 : decode cX3_receive 171 = .ok (.getfield 54, 3) := by decide +kernel
theorem dX3_receive_174 : decode cX3_receive 174 = .ok (.if_icmp .ne 8, 3) := by decide +kernel
theorem dX3_receive_177 : decode cX3_receive 177 = .ok (.aload_n 0, 1) := by decide +kernel
theorem dX3_receive_178 : decode cX3_receive 178 = .ok (.iload_n 1, 1) := by decide +kernel
theorem dX3_receive_179 : decode cX3_receive 179 = .ok (.invokestatic 65, 3) := by decide +kernel
theorem dX3_receive_182 : decode cX3_receive 182 = .ok (.iconst 0, 1) := by decide +kernel
theorem dX3_receive_183 : decode cX3_receive 183 = .ok (.ireturn, 1) := by decide +kernel
theorem dX3_receive_184 : decode cX3_receive 184 = .ok (.iload 5, 2) := by decide +kernel
theorem dX3_receive_186 : decode cX3_receive 186 = .ok (.aload_n 0, 1) := by decide +kernel
theorem dX3_receive_187 : decode cX3_receive 187 = .ok (.getfield 54, 3) := by decide +kernel
theorem dX3_receive_190 : decode cX3_receive 190 = .ok (.if_icmp .le 38, 3) := by decide +kernel
theorem dX3_receive_193 : decode cX3_receive 193 = .ok (.aload_n 0, 1) := by decide +kernel
theorem dX3_receive_194 : decode cX3_receive 194 = .ok (.invokevirtual 69, 3) := by decide +kernel
theorem dX3_receive_197 : decode cX3_receive 197 = .ok (.astore 6, 2) := by decide +kernel
theorem dX3_receive_199 : decode cX3_receive 199 = .ok (.aload_n 0, 1) := by decide +kernel
theorem dX3_receive_200 : decode cX3_receive 200 = .ok (.getfield 33, 3) := by decide +kernel
theorem dX3_receive_203 : decode cX3_receive 203 = .ok (.getfield 73, 3) := by decide +kernel
theorem dX3_receive_206 : decode cX3_receive 206 = .ok (.aload_n 0, 1) := by decide +kernel
theorem dX3_receive_207 : decode cX3_receive 207 = .ok (.getfield 37, 3) := by decide +kernel
theorem dX3_receive_210 : decode cX3_receive 210 = .ok (.iload_n 1, 1) := by decide +kernel
theorem dX3_receive_211 : decode cX3_receive 211 = .ok (.aload 6, 2) := by decide +kernel
theorem dX3_receive_213 : decode cX3_receive 213 = .ok (.invokevirtual 77, 3) := by decide +kernel
theorem dX3_receive_216 : decode cX3_receive 216 = .ok (.aload_n 0, 1) := by decide +kernel
theorem dX3_receive_217 : decode cX3_receive 217 = .ok (.getfield 33, 3) := by decide +kernel
theorem dX3_receive_220 : decode cX3_receive 220 = .ok (.getfield 73, 3) := by decide +kernel
theorem dX3_receive_223 : decode cX3_receive 223 = .ok (.aload 6, 2) := by decide +kernel
theorem dX3_receive_225 : decode cX3_receive 225 = .ok (.invokevirtual 83, 3) := by decide +kernel
theorem dX3_receive_228 : decode cX3_receive 228 = .ok (.iload 4, 2) := by decide +kernel
theorem dX3_receive_230 : decode cX3_receive 230 = .ok (.ifCond .ne 30, 3) := by decide +kernel
theorem dX3_receive_233 : decode cX3_receive 233 = .ok (.iload 5, 2) := by decide +kernel
theorem dX3_receive_235 : decode cX3_receive 235 = .ok (.aload_n 0, 1) := by decide +kernel
theorem dX3_receive_236 : decode cX3_receive 236 = .ok (.getfield 54, 3) := by decide +kernel
theorem dX3_receive_239 : decode cX3_receive 239 = .ok (.if_icmp .ne 19, 3) := by decide +kernel
theorem dX3_receive_242 : decode cX3_receive 242 = .ok (.aload_n 0, 1) := by decide +kernel
theorem dX3_receive_243 : decode cX3_receive 243 = .ok (.getfield 21, 3) := by decide +kernel
theorem dX3_receive_246 : decode cX3_receive 246 = .ok (.iload_n 1, 1) := by decide +kernel
theorem dX3_receive_247 : decode cX3_receive 247 = .ok (.aload_n 2, 1) := by decide +kernel
theorem dX3_receive_248 : decode cX3_receive 248 = .ok (.invokevirtual 87, 3) := by decide +kernel
theorem dX3_receive_251 : decode cX3_receive 251 = .ok (.ifCond .eq 7, 3) := by decide +kernel
theorem dX3_receive_254 : decode cX3_receive 254 = .ok (.iconst 1, 1) := by decide +kernel
theorem dX3_receive_255 : decode cX3_receive 255 = .ok (.goto 4, 3) := by decide +kernel
theorem dX3_receive_258 : decode cX3_receive 258 = .ok (.iconst 0, 1) := by decide +kernel
theorem dX3_receive_259 : decode cX3_receive 259 = .ok (.ireturn, 1) := by decide +kernel
theorem dX3_receive_260 : decode cX3_receive 260 = .ok (.iload 5, 2) := by decide +kernel
theorem dX3_receive_262 : decode cX3_receive 262 = .ok (.aload_n 0, 1) := by decide +kernel
theorem dX3_receive_263 : decode cX3_receive 263 = .ok (.getfield 54, 3) := by decide +kernel
theorem dX3_receive_266 : decode cX3_receive 266 = .ok (.iconst 1, 1) := by decide +kernel
theorem dX3_receive_267 : decode cX3_receive 267 = .ok (.iadd, 1) := by decide +kernel
theorem dX3_receive_268 : decode cX3_receive 268 = .ok (.if_icmp .gt 16, 3) := by decide +kernel
theorem dX3_receive_271 : decode cX3_receive 271 = .ok (.aload_n 0, 1) := by decide +kernel
theorem dX3_receive_272 : decode cX3_receive 272 = .ok (.iload_n 1, 1) := by decide +kernel
theorem dX3_receive_273 : decode cX3_receive 273 = .ok (.aload_n 2, 1) := by decide +kernel
theorem dX3_receive_274 : decode cX3_receive 274 = .ok (.invokestatic 90, 3) := by decide +kernel
theorem dX3_receive_277 : decode cX3_receive 277 = .ok (.ifCond .eq 7, 3) := by decide +kernel
theorem dX3_receive_280 : decode cX3_receive 280 = .ok (.iconst 1, 1) := by decide +kernel
theorem dX3_receive_281 : decode cX3_receive 281 = .ok (.goto 4, 3) := by decide +kernel
theorem dX3_receive_284 : decode cX3_receive 284 = .ok (.iconst 0, 1) := by decide +kernel
theorem dX3_receive_285 : decode cX3_receive 285 = .ok (.ireturn, 1) := by decide +kernel
theorem dX3_takePayment_0 : decode cX3_takePayment 0 = .ok (.aload_n 0, 1) := by decide +kernel
theorem dX3_takePayment_1 : decode cX3_takePayment 1 = .ok (.getfield 21, 3) := by decide +kernel
theorem dX3_takePayment_4 : decode cX3_takePayment 4 = .ok (.aload_n 2, 1) := by decide +kernel
theorem dX3_takePayment_5 : decode cX3_takePayment 5 = .ok (.getfield 94, 3) := by decide +kernel
theorem dX3_takePayment_8 : decode cX3_takePayment 8 = .ok (.iconst 1, 1) := by decide +kernel
theorem dX3_takePayment_9 : decode cX3_takePayment 9 = .ok (.invokestatic 98, 3) := by decide +kernel
theorem dX3_takePayment_12 : decode cX3_takePayment 12 = .ok (.invokevirtual 104, 3) := by decide +kernel
theorem dX3_takePayment_15 : decode cX3_takePayment 15 = .ok (.ifCond .eq 17, 3) := by decide +kernel
theorem dX3_takePayment_18 : decode cX3_takePayment 18 = .ok (.aload_n 0, 1) := by decide +kernel
theorem dX3_takePayment_19 : decode cX3_takePayment 19 = .ok (.getfield 33, 3) := by decide +kernel
theorem dX3_takePayment_22 : decode cX3_takePayment 22 = .ok (.aload_n 0, 1) := by decide +kernel
theorem dX3_takePayment_23 : decode cX3_takePayment 23 = .ok (.getfield 37, 3) := by decide +kernel
theorem dX3_takePayment_26 : decode cX3_takePayment 26 = .ok (.aload_n 2, 1) := by decide +kernel
theorem dX3_takePayment_27 : decode cX3_takePayment 27 = .ok (.iload_n 1, 1) := by decide +kernel
theorem dX3_takePayment_28 : decode cX3_takePayment 28 = .ok (.iload_n 1, 1) := by decide +kernel
theorem dX3_takePayment_29 : decode cX3_takePayment 29 = .ok (.invokevirtual 44, 3) := by decide +kernel
theorem dX3_takePayment_32 : decode cX3_takePayment 32 = .ok (.return_, 1) := by decide +kernel
theorem dX3_answerBelow_0 : decode cX3_answerBelow 0 = .ok (.aload_n 0, 1) := by decide +kernel
theorem dX3_answerBelow_1 : decode cX3_answerBelow 1 = .ok (.getfield 33, 3) := by decide +kernel
theorem dX3_answerBelow_4 : decode cX3_answerBelow 4 = .ok (.getfield 73, 3) := by decide +kernel
theorem dX3_answerBelow_7 : decode cX3_answerBelow 7 = .ok (.astore_n 3, 1) := by decide +kernel
theorem dX3_answerBelow_8 : decode cX3_answerBelow 8 = .ok (.aload_n 0, 1) := by decide +kernel
theorem dX3_answerBelow_9 : decode cX3_answerBelow 9 = .ok (.iload_n 2, 1) := by decide +kernel
theorem dX3_answerBelow_10 : decode cX3_answerBelow 10 = .ok (.invokevirtual 108, 3) := by decide +kernel
theorem dX3_answerBelow_13 : decode cX3_answerBelow 13 = .ok (.astore 4, 2) := by decide +kernel
theorem dX3_answerBelow_15 : decode cX3_answerBelow 15 = .ok (.aload 4, 2) := by decide +kernel
theorem dX3_answerBelow_17 : decode cX3_answerBelow 17 = .ok (.ifnull 15, 3) := by decide +kernel
theorem dX3_answerBelow_20 : decode cX3_answerBelow 20 = .ok (.aload_n 3, 1) := by decide +kernel
theorem dX3_answerBelow_21 : decode cX3_answerBelow 21 = .ok (.aload_n 0, 1) := by decide +kernel
theorem dX3_answerBelow_22 : decode cX3_answerBelow 22 = .ok (.getfield 37, 3) := by decide +kernel
theorem dX3_answerBelow_25 : decode cX3_answerBelow 25 = .ok (.iload_n 1, 1) := by decide +kernel
theorem dX3_answerBelow_26 : decode cX3_answerBelow 26 = .ok (.aload 4, 2) := by decide +kernel
theorem dX3_answerBelow_28 : decode cX3_answerBelow 28 = .ok (.invokevirtual 77, 3) := by decide +kernel
theorem dX3_answerBelow_31 : decode cX3_answerBelow 31 = .ok (.return_, 1) := by decide +kernel
theorem dX3_answerBelow_32 : decode cX3_answerBelow 32 = .ok (.aload_n 0, 1) := by decide +kernel
theorem dX3_answerBelow_33 : decode cX3_answerBelow 33 = .ok (.invokevirtual 112, 3) := by decide +kernel
theorem dX3_answerBelow_36 : decode cX3_answerBelow 36 = .ok (.astore 5, 2) := by decide +kernel
theorem dX3_answerBelow_38 : decode cX3_answerBelow 38 = .ok (.aload_n 3, 1) := by decide +kernel
theorem dX3_answerBelow_39 : decode cX3_answerBelow 39 = .ok (.aload_n 0, 1) := by decide +kernel
theorem dX3_answerBelow_40 : decode cX3_answerBelow 40 = .ok (.getfield 37, 3) := by decide +kernel
theorem dX3_answerBelow_43 : decode cX3_answerBelow 43 = .ok (.iload_n 1, 1) := by decide +kernel
theorem dX3_answerBelow_44 : decode cX3_answerBelow 44 = .ok (.aload 5, 2) := by decide +kernel
theorem dX3_answerBelow_46 : decode cX3_answerBelow 46 = .ok (.invokevirtual 77, 3) := by decide +kernel
theorem dX3_answerBelow_49 : decode cX3_answerBelow 49 = .ok (.aload_n 3, 1) := by decide +kernel
theorem dX3_answerBelow_50 : decode cX3_answerBelow 50 = .ok (.aload 5, 2) := by decide +kernel
theorem dX3_answerBelow_52 : decode cX3_answerBelow 52 = .ok (.invokevirtual 83, 3) := by decide +kernel
theorem dX3_answerBelow_55 : decode cX3_answerBelow 55 = .ok (.return_, 1) := by decide +kernel
theorem dX3_answerAll_0 : decode cX3_answerAll 0 = .ok (.iconst 1, 1) := by decide +kernel
theorem dX3_answerAll_1 : decode cX3_answerAll 1 = .ok (.iconst 2, 1) := by decide +kernel
theorem dX3_answerAll_2 : decode cX3_answerAll 2 = .ok (.aload_n 0, 1) := by decide +kernel
theorem dX3_answerAll_3 : decode cX3_answerAll 3 = .ok (.getfield 33, 3) := by decide +kernel
theorem dX3_answerAll_6 : decode cX3_answerAll 6 = .ok (.getfield 115, 3) := by decide +kernel
theorem dX3_answerAll_9 : decode cX3_answerAll 9 = .ok (.imul, 1) := by decide +kernel
theorem dX3_answerAll_10 : decode cX3_answerAll 10 = .ok (.iadd, 1) := by decide +kernel
theorem dX3_answerAll_11 : decode cX3_answerAll 11 = .ok (.istore_n 2, 1) := by decide +kernel
theorem dX3_answerAll_12 : decode cX3_answerAll 12 = .ok (.iconst 0, 1) := by decide +kernel
theorem dX3_answerAll_13 : decode cX3_answerAll 13 = .ok (.istore_n 3, 1) := by decide +kernel
theorem dX3_answerAll_14 : decode cX3_answerAll 14 = .ok (.iload_n 3, 1) := by decide +kernel
theorem dX3_answerAll_15 : decode cX3_answerAll 15 = .ok (.aload_n 0, 1) := by decide +kernel
theorem dX3_answerAll_16 : decode cX3_answerAll 16 = .ok (.getfield 21, 3) := by decide +kernel
theorem dX3_answerAll_19 : decode cX3_answerAll 19 = .ok (.aload_n 0, 1) := by decide +kernel
theorem dX3_answerAll_20 : decode cX3_answerAll 20 = .ok (.getfield 54, 3) := by decide +kernel
theorem dX3_answerAll_23 : decode cX3_answerAll 23 = .ok (.invokevirtual 118, 3) := by decide +kernel
theorem dX3_answerAll_26 : decode cX3_answerAll 26 = .ok (.if_icmp .ge 62, 3) := by decide +kernel
theorem dX3_answerAll_29 : decode cX3_answerAll 29 = .ok (.iconst 0, 1) := by decide +kernel
theorem dX3_answerAll_30 : decode cX3_answerAll 30 = .ok (.istore 4, 2) := by decide +kernel
theorem dX3_answerAll_32 : decode cX3_answerAll 32 = .ok (.iload 4, 2) := by decide +kernel
theorem dX3_answerAll_34 : decode cX3_answerAll 34 = .ok (.iload_n 2, 1) := by decide +kernel
theorem dX3_answerAll_35 : decode cX3_answerAll 35 = .ok (.if_icmp .ge 47, 3) := by decide +kernel
theorem dX3_answerAll_38 : decode cX3_answerAll 38 = .ok (.aload_n 0, 1) := by decide +kernel
theorem dX3_answerAll_39 : decode cX3_answerAll 39 = .ok (.getfield 21, 3) := by decide +kernel
theorem dX3_answerAll_42 : decode cX3_answerAll 42 = .ok (.aload_n 0, 1) := by decide +kernel
theorem dX3_answerAll_43 : decode cX3_answerAll 43 = .ok (.getfield 54, 3) := by decide +kernel
theorem dX3_answerAll_46 : decode cX3_answerAll 46 = .ok (.iload_n 3, 1) := by decide +kernel
theorem dX3_answerAll_47 : decode cX3_answerAll 47 = .ok (.iload 4, 2) := by decide +kernel
theorem dX3_answerAll_49 : decode cX3_answerAll 49 = .ok (.invokevirtual 121, 3) := by decide +kernel
theorem dX3_answerAll_52 : decode cX3_answerAll 52 = .ok (.astore 5, 2) := by decide +kernel
theorem dX3_answerAll_54 : decode cX3_answerAll 54 = .ok (.aload 5, 2) := by decide +kernel
theorem dX3_answerAll_56 : decode cX3_answerAll 56 = .ok (.ifnull 20, 3) := by decide +kernel
theorem dX3_answerAll_59 : decode cX3_answerAll 59 = .ok (.aload_n 0, 1) := by decide +kernel
theorem dX3_answerAll_60 : decode cX3_answerAll 60 = .ok (.getfield 33, 3) := by decide +kernel
theorem dX3_answerAll_63 : decode cX3_answerAll 63 = .ok (.getfield 73, 3) := by decide +kernel
theorem dX3_answerAll_66 : decode cX3_answerAll 66 = .ok (.aload_n 0, 1) := by decide +kernel
theorem dX3_answerAll_67 : decode cX3_answerAll 67 = .ok (.getfield 37, 3) := by decide +kernel
theorem dX3_answerAll_70 : decode cX3_answerAll 70 = .ok (.iload_n 1, 1) := by decide +kernel
theorem dX3_answerAll_71 : decode cX3_answerAll 71 = .ok (.aload 5, 2) := by decide +kernel
theorem dX3_answerAll_73 : decode cX3_answerAll 73 = .ok (.invokevirtual 77, 3) := by decide +kernel
theorem dX3_answerAll_76 : decode cX3_answerAll 76 = .ok (.iinc 4 1, 3) := by decide +kernel
theorem dX3_answerAll_79 : decode cX3_answerAll 79 = .ok (.goto (-47), 3) := by decide +kernel
theorem dX3_answerAll_82 : decode cX3_answerAll 82 = .ok (.iinc 3 1, 3) := by decide +kernel
theorem dX3_answerAll_85 : decode cX3_answerAll 85 = .ok (.goto (-71), 3) := by decide +kernel
theorem dX3_answerAll_88 : decode cX3_answerAll 88 = .ok (.return_, 1) := by decide +kernel
theorem dX3_takeSigned_0 : decode cX3_takeSigned 0 = .ok (.aload_n 2, 1) := by decide +kernel
theorem dX3_takeSigned_1 : decode cX3_takeSigned 1 = .ok (.invokevirtual 9, 3) := by decide +kernel
theorem dX3_takeSigned_4 : decode cX3_takeSigned 4 = .ok (.iconst 1, 1) := by decide +kernel
theorem dX3_takeSigned_5 : decode cX3_takeSigned 5 = .ok (.if_icmp .ne 29, 3) := by decide +kernel
theorem dX3_takeSigned_8 : decode cX3_takeSigned 8 = .ok (.aload_n 0, 1) := by decide +kernel
theorem dX3_takeSigned_9 : decode cX3_takeSigned 9 = .ok (.getfield 33, 3) := by decide +kernel
theorem dX3_takeSigned_12 : decode cX3_takeSigned 12 = .ok (.aload_n 2, 1) := by decide +kernel
theorem dX3_takeSigned_13 : decode cX3_takeSigned 13 = .ok (.iconst 2, 1) := by decide +kernel
theorem dX3_takeSigned_14 : decode cX3_takeSigned 14 = .ok (.invokevirtual 50, 3) := by decide +kernel
theorem dX3_takeSigned_17 : decode cX3_takeSigned 17 = .ok (.aload_n 2, 1) := by decide +kernel
theorem dX3_takeSigned_18 : decode cX3_takeSigned 18 = .ok (.iconst 4, 1) := by decide +kernel
theorem dX3_takeSigned_19 : decode cX3_takeSigned 19 = .ok (.invokevirtual 125, 3) := by decide +kernel
theorem dX3_takeSigned_22 : decode cX3_takeSigned 22 = .ok (.invokevirtual 128, 3) := by decide +kernel
theorem dX3_takeSigned_25 : decode cX3_takeSigned 25 = .ok (.aload_n 2, 1) := by decide +kernel
theorem dX3_takeSigned_26 : decode cX3_takeSigned 26 = .ok (.invokevirtual 41, 3) := by decide +kernel
theorem dX3_takeSigned_29 : decode cX3_takeSigned 29 = .ok (.if_icmp .eq 5, 3) := by decide +kernel
theorem dX3_takeSigned_32 : decode cX3_takeSigned 32 = .ok (.iconst 0, 1) := by decide +kernel
theorem dX3_takeSigned_33 : decode cX3_takeSigned 33 = .ok (.ireturn, 1) := by decide +kernel
theorem dX3_takeSigned_34 : decode cX3_takeSigned 34 = .ok (.aload_n 0, 1) := by decide +kernel
theorem dX3_takeSigned_35 : decode cX3_takeSigned 35 = .ok (.getfield 21, 3) := by decide +kernel
theorem dX3_takeSigned_38 : decode cX3_takeSigned 38 = .ok (.aload_n 2, 1) := by decide +kernel
theorem dX3_takeSigned_39 : decode cX3_takeSigned 39 = .ok (.invokevirtual 132, 3) := by decide +kernel
theorem dX3_takeSigned_42 : decode cX3_takeSigned 42 = .ok (.astore_n 3, 1) := by decide +kernel
theorem dX3_takeSigned_43 : decode cX3_takeSigned 43 = .ok (.aload_n 3, 1) := by decide +kernel
theorem dX3_takeSigned_44 : decode cX3_takeSigned 44 = .ok (.ifnonnull 30, 3) := by decide +kernel
theorem dX3_takeSigned_47 : decode cX3_takeSigned 47 = .ok (.aload_n 0, 1) := by decide +kernel
theorem dX3_takeSigned_48 : decode cX3_takeSigned 48 = .ok (.getfield 21, 3) := by decide +kernel
theorem dX3_takeSigned_51 : decode cX3_takeSigned 51 = .ok (.aload_n 2, 1) := by decide +kernel
theorem dX3_takeSigned_52 : decode cX3_takeSigned 52 = .ok (.invokevirtual 136, 3) := by decide +kernel
theorem dX3_takeSigned_55 : decode cX3_takeSigned 55 = .ok (.aload_n 0, 1) := by decide +kernel
theorem dX3_takeSigned_56 : decode cX3_takeSigned 56 = .ok (.getfield 33, 3) := by decide +kernel
theorem dX3_takeSigned_59 : decode cX3_takeSigned 59 = .ok (.aload_n 0, 1) := by decide +kernel
theorem dX3_takeSigned_60 : decode cX3_takeSigned 60 = .ok (.getfield 37, 3) := by decide +kernel
theorem dX3_takeSigned_63 : decode cX3_takeSigned 63 = .ok (.aload_n 2, 1) := by decide +kernel
theorem dX3_takeSigned_64 : decode cX3_takeSigned 64 = .ok (.iload_n 1, 1) := by decide +kernel
theorem dX3_takeSigned_65 : decode cX3_takeSigned 65 = .ok (.aload_n 2, 1) := by decide +kernel
theorem dX3_takeSigned_66 : decode cX3_takeSigned 66 = .ok (.invokevirtual 41, 3) := by decide +kernel
theorem dX3_takeSigned_69 : decode cX3_takeSigned 69 = .ok (.invokevirtual 44, 3) := by decide +kernel
theorem dX3_takeSigned_72 : decode cX3_takeSigned 72 = .ok (.iconst 1, 1) := by decide +kernel
theorem dX3_takeSigned_73 : decode cX3_takeSigned 73 = .ok (.ireturn, 1) := by decide +kernel
theorem dX3_takeSigned_74 : decode cX3_takeSigned 74 = .ok (.aload_n 3, 1) := by decide +kernel
theorem dX3_takeSigned_75 : decode cX3_takeSigned 75 = .ok (.aload_n 2, 1) := by decide +kernel
theorem dX3_takeSigned_76 : decode cX3_takeSigned 76 = .ok (.invokevirtual 139, 3) := by decide +kernel
theorem dX3_takeSigned_79 : decode cX3_takeSigned 79 = .ok (.ifCond .ne 23, 3) := by decide +kernel
theorem dX3_takeSigned_82 : decode cX3_takeSigned 82 = .ok (.aload_n 0, 1) := by decide +kernel
theorem dX3_takeSigned_83 : decode cX3_takeSigned 83 = .ok (.getfield 21, 3) := by decide +kernel
theorem dX3_takeSigned_86 : decode cX3_takeSigned 86 = .ok (.aload_n 2, 1) := by decide +kernel
theorem dX3_takeSigned_87 : decode cX3_takeSigned 87 = .ok (.invokevirtual 41, 3) := by decide +kernel
theorem dX3_takeSigned_90 : decode cX3_takeSigned 90 = .ok (.invokevirtual 142, 3) := by decide +kernel
theorem dX3_takeSigned_93 : decode cX3_takeSigned 93 = .ok (.ifnonnull 9, 3) := by decide +kernel
theorem dX3_takeSigned_96 : decode cX3_takeSigned 96 = .ok (.aload_n 0, 1) := by decide +kernel
theorem dX3_takeSigned_97 : decode cX3_takeSigned 97 = .ok (.aload_n 3, 1) := by decide +kernel
theorem dX3_takeSigned_98 : decode cX3_takeSigned 98 = .ok (.aload_n 2, 1) := by decide +kernel
theorem dX3_takeSigned_99 : decode cX3_takeSigned 99 = .ok (.invokestatic 145, 3) := by decide +kernel
theorem dX3_takeSigned_102 : decode cX3_takeSigned 102 = .ok (.iconst 0, 1) := by decide +kernel
theorem dX3_takeSigned_103 : decode cX3_takeSigned 103 = .ok (.ireturn, 1) := by decide +kernel
theorem dX3_accuse_0 : decode cX3_accuse 0 = .ok (.aload_n 1, 1) := by decide +kernel
theorem dX3_accuse_1 : decode cX3_accuse 1 = .ok (.aload_n 2, 1) := by decide +kernel
theorem dX3_accuse_2 : decode cX3_accuse 2 = .ok (.invokevirtual 149, 3) := by decide +kernel
theorem dX3_accuse_5 : decode cX3_accuse 5 = .ok (.ifCond .eq 7, 3) := by decide +kernel
theorem dX3_accuse_8 : decode cX3_accuse 8 = .ok (.aload_n 1, 1) := by decide +kernel
theorem dX3_accuse_9 : decode cX3_accuse 9 = .ok (.goto 4, 3) := by decide +kernel
theorem dX3_accuse_12 : decode cX3_accuse 12 = .ok (.aload_n 2, 1) := by decide +kernel
theorem dX3_accuse_13 : decode cX3_accuse 13 = .ok (.astore_n 3, 1) := by decide +kernel
theorem dX3_accuse_14 : decode cX3_accuse 14 = .ok (.aload_n 3, 1) := by decide +kernel
theorem dX3_accuse_15 : decode cX3_accuse 15 = .ok (.aload_n 1, 1) := by decide +kernel
theorem dX3_accuse_16 : decode cX3_accuse 16 = .ok (.if_acmp .ne 7, 3) := by decide +kernel
theorem dX3_accuse_19 : decode cX3_accuse 19 = .ok (.aload_n 2, 1) := by decide +kernel
theorem dX3_accuse_20 : decode cX3_accuse 20 = .ok (.goto 4, 3) := by decide +kernel
theorem dX3_accuse_23 : decode cX3_accuse 23 = .ok (.aload_n 1, 1) := by decide +kernel
theorem dX3_accuse_24 : decode cX3_accuse 24 = .ok (.astore 4, 2) := by decide +kernel
theorem dX3_accuse_26 : decode cX3_accuse 26 = .ok (.aload_n 0, 1) := by decide +kernel
theorem dX3_accuse_27 : decode cX3_accuse 27 = .ok (.getfield 33, 3) := by decide +kernel
theorem dX3_accuse_30 : decode cX3_accuse 30 = .ok (.getfield 73, 3) := by decide +kernel
theorem dX3_accuse_33 : decode cX3_accuse 33 = .ok (.iconst 1, 1) := by decide +kernel
theorem dX3_accuse_34 : decode cX3_accuse 34 = .ok (.aload_n 3, 1) := by decide +kernel
theorem dX3_accuse_35 : decode cX3_accuse 35 = .ok (.getfield 152, 3) := by decide +kernel
theorem dX3_accuse_38 : decode cX3_accuse 38 = .ok (.ifCond .eq 8, 3) := by decide +kernel
theorem dX3_accuse_41 : decode cX3_accuse 41 = .ok (.bipush 71, 2) := by decide +kernel
theorem dX3_accuse_43 : decode cX3_accuse 43 = .ok (.goto 5, 3) := by decide +kernel
theorem dX3_accuse_46 : decode cX3_accuse 46 = .ok (.bipush 39, 2) := by decide +kernel
theorem dX3_accuse_48 : decode cX3_accuse 48 = .ok (.iadd, 1) := by decide +kernel
theorem dX3_accuse_49 : decode cX3_accuse 49 = .ok (.invokevirtual 156, 3) := by decide +kernel
theorem dX3_accuse_52 : decode cX3_accuse 52 = .ok (.astore 5, 2) := by decide +kernel
theorem dX3_accuse_54 : decode cX3_accuse 54 = .ok (.aload 5, 2) := by decide +kernel
theorem dX3_accuse_56 : decode cX3_accuse 56 = .ok (.getfield 94, 3) := by decide +kernel
theorem dX3_accuse_59 : decode cX3_accuse 59 = .ok (.iconst 0, 1) := by decide +kernel
theorem dX3_accuse_60 : decode cX3_accuse 60 = .ok (.bipush 6, 2) := by decide +kernel
theorem dX3_accuse_62 : decode cX3_accuse 62 = .ok (.bastore, 1) := by decide +kernel
theorem dX3_accuse_63 : decode cX3_accuse 63 = .ok (.aload 5, 2) := by decide +kernel
theorem dX3_accuse_65 : decode cX3_accuse 65 = .ok (.getfield 94, 3) := by decide +kernel
theorem dX3_accuse_68 : decode cX3_accuse 68 = .ok (.iconst 1, 1) := by decide +kernel
theorem dX3_accuse_69 : decode cX3_accuse 69 = .ok (.aload_n 1, 1) := by decide +kernel
theorem dX3_accuse_70 : decode cX3_accuse 70 = .ok (.invokevirtual 41, 3) := by decide +kernel
theorem dX3_accuse_73 : decode cX3_accuse 73 = .ok (.i2b, 1) := by decide +kernel
theorem dX3_accuse_74 : decode cX3_accuse 74 = .ok (.bastore, 1) := by decide +kernel
theorem dX3_accuse_75 : decode cX3_accuse 75 = .ok (.aload 5, 2) := by decide +kernel
theorem dX3_accuse_77 : decode cX3_accuse 77 = .ok (.getfield 94, 3) := by decide +kernel
theorem dX3_accuse_80 : decode cX3_accuse 80 = .ok (.iconst 2, 1) := by decide +kernel
theorem dX3_accuse_81 : decode cX3_accuse 81 = .ok (.aload_n 1, 1) := by decide +kernel
theorem dX3_accuse_82 : decode cX3_accuse 82 = .ok (.invokevirtual 9, 3) := by decide +kernel
theorem dX3_accuse_85 : decode cX3_accuse 85 = .ok (.i2b, 1) := by decide +kernel
theorem dX3_accuse_86 : decode cX3_accuse 86 = .ok (.bastore, 1) := by decide +kernel
theorem dX3_accuse_87 : decode cX3_accuse 87 = .ok (.aload 5, 2) := by decide +kernel
theorem dX3_accuse_89 : decode cX3_accuse 89 = .ok (.getfield 94, 3) := by decide +kernel
theorem dX3_accuse_92 : decode cX3_accuse 92 = .ok (.iconst 3, 1) := by decide +kernel
theorem dX3_accuse_93 : decode cX3_accuse 93 = .ok (.aload_n 1, 1) := by decide +kernel
theorem dX3_accuse_94 : decode cX3_accuse 94 = .ok (.iconst 2, 1) := by decide +kernel
theorem dX3_accuse_95 : decode cX3_accuse 95 = .ok (.invokevirtual 50, 3) := by decide +kernel
theorem dX3_accuse_98 : decode cX3_accuse 98 = .ok (.invokestatic 159, 3) := by decide +kernel
theorem dX3_accuse_101 : decode cX3_accuse 101 = .ok (.aload 5, 2) := by decide +kernel
theorem dX3_accuse_103 : decode cX3_accuse 103 = .ok (.getfield 94, 3) := by decide +kernel
theorem dX3_accuse_106 : decode cX3_accuse 106 = .ok (.iconst 5, 1) := by decide +kernel
theorem dX3_accuse_107 : decode cX3_accuse 107 = .ok (.aload_n 1, 1) := by decide +kernel
theorem dX3_accuse_108 : decode cX3_accuse 108 = .ok (.iconst 4, 1) := by decide +kernel
theorem dX3_accuse_109 : decode cX3_accuse 109 = .ok (.invokevirtual 125, 3) := by decide +kernel
theorem dX3_accuse_112 : decode cX3_accuse 112 = .ok (.i2b, 1) := by decide +kernel
theorem dX3_accuse_113 : decode cX3_accuse 113 = .ok (.bastore, 1) := by decide +kernel
theorem dX3_accuse_114 : decode cX3_accuse 114 = .ok (.aload 5, 2) := by decide +kernel
theorem dX3_accuse_116 : decode cX3_accuse 116 = .ok (.getfield 94, 3) := by decide +kernel
theorem dX3_accuse_119 : decode cX3_accuse 119 = .ok (.bipush 6, 2) := by decide +kernel
theorem dX3_accuse_121 : decode cX3_accuse 121 = .ok (.aload_n 3, 1) := by decide +kernel
theorem dX3_accuse_122 : decode cX3_accuse 122 = .ok (.getfield 152, 3) := by decide +kernel
theorem dX3_accuse_125 : decode cX3_accuse 125 = .ok (.ifCond .eq 7, 3) := by decide +kernel
theorem dX3_accuse_128 : decode cX3_accuse 128 = .ok (.iconst 1, 1) := by decide +kernel
theorem dX3_accuse_129 : decode cX3_accuse 129 = .ok (.goto 4, 3) := by decide +kernel
theorem dX3_accuse_132 : decode cX3_accuse 132 = .ok (.iconst 0, 1) := by decide +kernel
theorem dX3_accuse_133 : decode cX3_accuse 133 = .ok (.i2b, 1) := by decide +kernel
theorem dX3_accuse_134 : decode cX3_accuse 134 = .ok (.bastore, 1) := by decide +kernel
theorem dX3_accuse_135 : decode cX3_accuse 135 = .ok (.aload_n 3, 1) := by decide +kernel
theorem dX3_accuse_136 : decode cX3_accuse 136 = .ok (.getfield 152, 3) := by decide +kernel
theorem dX3_accuse_139 : decode cX3_accuse 139 = .ok (.ifCond .eq 14, 3) := by decide +kernel
theorem dX3_accuse_142 : decode cX3_accuse 142 = .ok (.aload_n 3, 1) := by decide +kernel
theorem dX3_accuse_143 : decode cX3_accuse 143 = .ok (.aload 5, 2) := by decide +kernel
theorem dX3_accuse_145 : decode cX3_accuse 145 = .ok (.getfield 94, 3) := by decide +kernel
theorem dX3_accuse_148 : decode cX3_accuse 148 = .ok (.bipush 7, 2) := by decide +kernel
theorem dX3_accuse_150 : decode cX3_accuse 150 = .ok (.invokevirtual 163, 3) := by decide +kernel
theorem dX3_accuse_153 : decode cX3_accuse 153 = .ok (.aload_n 3, 1) := by decide +kernel
theorem dX3_accuse_154 : decode cX3_accuse 154 = .ok (.getfield 152, 3) := by decide +kernel
theorem dX3_accuse_157 : decode cX3_accuse 157 = .ok (.ifCond .eq 8, 3) := by decide +kernel
theorem dX3_accuse_160 : decode cX3_accuse 160 = .ok (.bipush 39, 2) := by decide +kernel
theorem dX3_accuse_162 : decode cX3_accuse 162 = .ok (.goto 5, 3) := by decide +kernel
theorem dX3_accuse_165 : decode cX3_accuse 165 = .ok (.bipush 7, 2) := by decide +kernel
theorem dX3_accuse_167 : decode cX3_accuse 167 = .ok (.istore 6, 2) := by decide +kernel
theorem dX3_accuse_169 : decode cX3_accuse 169 = .ok (.aload 5, 2) := by decide +kernel
theorem dX3_accuse_171 : decode cX3_accuse 171 = .ok (.getfield 94, 3) := by decide +kernel
theorem dX3_accuse_174 : decode cX3_accuse 174 = .ok (.iload 6, 2) := by decide +kernel
theorem dX3_accuse_176 : decode cX3_accuse 176 = .ok (.iconst 1, 1) := by decide +kernel
theorem dX3_accuse_177 : decode cX3_accuse 177 = .ok (.bastore, 1) := by decide +kernel
theorem dX3_accuse_178 : decode cX3_accuse 178 = .ok (.aload 4, 2) := by decide +kernel
theorem dX3_accuse_180 : decode cX3_accuse 180 = .ok (.aload 5, 2) := by decide +kernel
theorem dX3_accuse_182 : decode cX3_accuse 182 = .ok (.getfield 94, 3) := by decide +kernel
theorem dX3_accuse_185 : decode cX3_accuse 185 = .ok (.iload 6, 2) := by decide +kernel
theorem dX3_accuse_187 : decode cX3_accuse 187 = .ok (.iconst 1, 1) := by decide +kernel
theorem dX3_accuse_188 : decode cX3_accuse 188 = .ok (.iadd, 1) := by decide +kernel
theorem dX3_accuse_189 : decode cX3_accuse 189 = .ok (.invokevirtual 163, 3) := by decide +kernel
theorem dX3_accuse_192 : decode cX3_accuse 192 = .ok (.aload_n 0, 1) := by decide +kernel
theorem dX3_accuse_193 : decode cX3_accuse 193 = .ok (.getfield 21, 3) := by decide +kernel
theorem dX3_accuse_196 : decode cX3_accuse 196 = .ok (.aload 5, 2) := by decide +kernel
theorem dX3_accuse_198 : decode cX3_accuse 198 = .ok (.invokevirtual 27, 3) := by decide +kernel
theorem dX3_accuse_201 : decode cX3_accuse 201 = .ok (.pop, 1) := by decide +kernel
theorem dX3_accuse_202 : decode cX3_accuse 202 = .ok (.aload_n 0, 1) := by decide +kernel
theorem dX3_accuse_203 : decode cX3_accuse 203 = .ok (.getfield 33, 3) := by decide +kernel
theorem dX3_accuse_206 : decode cX3_accuse 206 = .ok (.aload_n 0, 1) := by decide +kernel
theorem dX3_accuse_207 : decode cX3_accuse 207 = .ok (.getfield 37, 3) := by decide +kernel
theorem dX3_accuse_210 : decode cX3_accuse 210 = .ok (.aload 5, 2) := by decide +kernel
theorem dX3_accuse_212 : decode cX3_accuse 212 = .ok (.aload_n 0, 1) := by decide +kernel
theorem dX3_accuse_213 : decode cX3_accuse 213 = .ok (.getfield 37, 3) := by decide +kernel
theorem dX3_accuse_216 : decode cX3_accuse 216 = .ok (.aload_n 0, 1) := by decide +kernel
theorem dX3_accuse_217 : decode cX3_accuse 217 = .ok (.getfield 37, 3) := by decide +kernel
theorem dX3_accuse_220 : decode cX3_accuse 220 = .ok (.invokevirtual 44, 3) := by decide +kernel
theorem dX3_accuse_223 : decode cX3_accuse 223 = .ok (.aload_n 0, 1) := by decide +kernel
theorem dX3_accuse_224 : decode cX3_accuse 224 = .ok (.getfield 33, 3) := by decide +kernel
theorem dX3_accuse_227 : decode cX3_accuse 227 = .ok (.getfield 73, 3) := by decide +kernel
theorem dX3_accuse_230 : decode cX3_accuse 230 = .ok (.aload 5, 2) := by decide +kernel
theorem dX3_accuse_232 : decode cX3_accuse 232 = .ok (.invokevirtual 83, 3) := by decide +kernel
theorem dX3_accuse_235 : decode cX3_accuse 235 = .ok (.return_, 1) := by decide +kernel
theorem dX4_init_0 : decode cX4_init 0 = .ok (.aload_n 0, 1) := by decide +kernel
theorem dX4_init_1 : decode cX4_init 1 = .ok (.invokespecial 3, 3) := by decide +kernel
theorem dX4_init_4 : decode cX4_init 4 = .ok (.aload_n 0, 1) := by decide +kernel
theorem dX4_init_5 : decode cX4_init 5 = .ok (.sipush 284, 3) := by decide +kernel
theorem dX4_init_8 : decode cX4_init 8 = .ok (.anewarray 11, 3) := by decide +kernel
theorem dX4_init_11 : decode cX4_init 11 = .ok (.putfield 13, 3) := by decide +kernel
theorem dX4_init_14 : decode cX4_init 14 = .ok (.aload_n 0, 1) := by decide +kernel
theorem dX4_init_15 : decode cX4_init 15 = .ok (.sipush 284, 3) := by decide +kernel
theorem dX4_init_18 : decode cX4_init 18 = .ok (.newarray .boolean, 2) := by decide +kernel
theorem dX4_init_20 : decode cX4_init 20 = .ok (.putfield 17, 3) := by decide +kernel
theorem dX4_init_23 : decode cX4_init 23 = .ok (.aload_n 0, 1) := by decide +kernel
theorem dX4_init_24 : decode cX4_init 24 = .ok (.sipush 1024, 3) := by decide +kernel
theorem dX4_init_27 : decode cX4_init 27 = .ok (.newarray .byte, 2) := by decide +kernel
theorem dX4_init_29 : decode cX4_init 29 = .ok (.putfield 21, 3) := by decide +kernel
theorem dX4_init_32 : decode cX4_init 32 = .ok (.aload_n 0, 1) := by decide +kernel
theorem dX4_init_33 : decode cX4_init 33 = .ok (.bipush 41, 2) := by decide +kernel
theorem dX4_init_35 : decode cX4_init 35 = .ok (.newarray .int, 2) := by decide +kernel
theorem dX4_init_37 : decode cX4_init 37 = .ok (.putfield 24, 3) := by decide +kernel
theorem dX4_init_40 : decode cX4_init 40 = .ok (.return_, 1) := by decide +kernel
theorem dX4_open_0 : decode cX4_open 0 = .ok (.aload_n 0, 1) := by decide +kernel
theorem dX4_open_1 : decode cX4_open 1 = .ok (.getfield 21, 3) := by decide +kernel
theorem dX4_open_4 : decode cX4_open 4 = .ok (.iconst 0, 1) := by decide +kernel
theorem dX4_open_5 : decode cX4_open 5 = .ok (.iload_n 1, 1) := by decide +kernel
theorem dX4_open_6 : decode cX4_open 6 = .ok (.i2b, 1) := by decide +kernel
theorem dX4_open_7 : decode cX4_open 7 = .ok (.bastore, 1) := by decide +kernel
theorem dX4_open_8 : decode cX4_open 8 = .ok (.aload_n 0, 1) := by decide +kernel
theorem dX4_open_9 : decode cX4_open 9 = .ok (.getfield 21, 3) := by decide +kernel
theorem dX4_open_12 : decode cX4_open 12 = .ok (.iconst 1, 1) := by decide +kernel
theorem dX4_open_13 : decode cX4_open 13 = .ok (.iload_n 2, 1) := by decide +kernel
theorem dX4_open_14 : decode cX4_open 14 = .ok (.invokestatic 28, 3) := by decide +kernel
theorem dX4_open_17 : decode cX4_open 17 = .ok (.aload_n 0, 1) := by decide +kernel
theorem dX4_open_18 : decode cX4_open 18 = .ok (.getfield 21, 3) := by decide +kernel
theorem dX4_open_21 : decode cX4_open 21 = .ok (.iconst 3, 1) := by decide +kernel
theorem dX4_open_22 : decode cX4_open 22 = .ok (.iload_n 3, 1) := by decide +kernel
theorem dX4_open_23 : decode cX4_open 23 = .ok (.i2b, 1) := by decide +kernel
theorem dX4_open_24 : decode cX4_open 24 = .ok (.bastore, 1) := by decide +kernel
theorem dX4_open_25 : decode cX4_open 25 = .ok (.aload_n 0, 1) := by decide +kernel
theorem dX4_open_26 : decode cX4_open 26 = .ok (.bipush 8, 2) := by decide +kernel
theorem dX4_open_28 : decode cX4_open 28 = .ok (.putfield 32, 3) := by decide +kernel
theorem dX4_open_31 : decode cX4_open 31 = .ok (.return_, 1) := by decide +kernel
theorem dX4_add_0 : decode cX4_add 0 = .ok (.iload_n 2, 1) := by decide +kernel
theorem dX4_add_1 : decode cX4_add 1 = .ok (.ifCond .lt 58, 3) := by decide +kernel
theorem dX4_add_4 : decode cX4_add 4 = .ok (.iload_n 3, 1) := by decide +kernel
theorem dX4_add_5 : decode cX4_add 5 = .ok (.iload_n 2, 1) := by decide +kernel
theorem dX4_add_6 : decode cX4_add 6 = .ok (.if_icmp .lt 53, 3) := by decide +kernel
theorem dX4_add_9 : decode cX4_add 9 = .ok (.iload_n 3, 1) := by decide +kernel
theorem dX4_add_10 : decode cX4_add 10 = .ok (.aload_n 1, 1) := by decide +kernel
theorem dX4_add_11 : decode cX4_add 11 = .ok (.arraylength, 1) := by decide +kernel
theorem dX4_add_12 : decode cX4_add 12 = .ok (.if_icmp .gt 47, 3) := by decide +kernel
theorem dX4_add_15 : decode cX4_add 15 = .ok (.aload_n 0, 1) := by decide +kernel
theorem dX4_add_16 : decode cX4_add 16 = .ok (.getfield 32, 3) := by decide +kernel
theorem dX4_add_19 : decode cX4_add 19 = .ok (.iload_n 3, 1) := by decide +kernel
theorem dX4_add_20 : decode cX4_add 20 = .ok (.iadd, 1) := by decide +kernel
theorem dX4_add_21 : decode cX4_add 21 = .ok (.iload_n 2, 1) := by decide +kernel
theorem dX4_add_22 : decode cX4_add 22 = .ok (.isub, 1) := by decide +kernel
theorem dX4_add_23 : decode cX4_add 23 = .ok (.aload_n 0, 1) := by decide +kernel
theorem dX4_add_24 : decode cX4_add 24 = .ok (.getfield 21, 3) := by decide +kernel
theorem dX4_add_27 : decode cX4_add 27 = .ok (.arraylength, 1) := by decide +kernel
theorem dX4_add_28 : decode cX4_add 28 = .ok (.if_icmp .gt 31, 3) := by decide +kernel
theorem dX4_add_31 : decode cX4_add 31 = .ok (.aload_n 1, 1) := by decide +kernel
theorem dX4_add_32 : decode cX4_add 32 = .ok (.iload_n 2, 1) := by decide +kernel
theorem dX4_add_33 : decode cX4_add 33 = .ok (.aload_n 0, 1) := by decide +kernel
theorem dX4_add_34 : decode cX4_add 34 = .ok (.getfield 21, 3) := by decide +kernel
theorem dX4_add_37 : decode cX4_add 37 = .ok (.aload_n 0, 1) := by decide +kernel
theorem dX4_add_38 : decode cX4_add 38 = .ok (.getfield 32, 3) := by decide +kernel
theorem dX4_add_41 : decode cX4_add 41 = .ok (.iload_n 3, 1) := by decide +kernel
theorem dX4_add_42 : decode cX4_add 42 = .ok (.iload_n 2, 1) := by decide +kernel
theorem dX4_add_43 : decode cX4_add 43 = .ok (.isub, 1) := by decide +kernel
theorem dX4_add_44 : decode cX4_add 44 = .ok (.invokestatic 36, 3) := by decide +kernel
theorem dX4_add_47 : decode cX4_add 47 = .ok (.aload_n 0, 1) := by decide +kernel
theorem dX4_add_48 : decode cX4_add 48 = .ok (.dup, 1) := by decide +kernel
theorem dX4_add_49 : decode cX4_add 49 = .ok (.getfield 32, 3) := by decide +kernel
theorem dX4_add_52 : decode cX4_add 52 = .ok (.iload_n 3, 1) := by decide +kernel
theorem dX4_add_53 : decode cX4_add 53 = .ok (.iload_n 2, 1) := by decide +kernel
theorem dX4_add_54 : decode cX4_add 54 = .ok (.isub, 1) := by decide +kernel
theorem dX4_add_55 : decode cX4_add 55 = .ok (.iadd, 1) := by decide +kernel
theorem dX4_add_56 : decode cX4_add 56 = .ok (.putfield 32, 3) := by decide +kernel
theorem dX4_add_59 : decode cX4_add 59 = .ok (.return_, 1) := by decide +kernel
theorem dX4_write_0 : decode cX4_write 0 = .ok (.aload_n 0, 1) := by decide +kernel
theorem dX4_write_1 : decode cX4_write 1 = .ok (.getfield 42, 3) := by decide +kernel
theorem dX4_write_4 : decode cX4_write 4 = .ok (.iconst 1, 1) := by decide +kernel
theorem dX4_write_5 : decode cX4_write 5 = .ok (.if_icmp .ne 7, 3) := by decide +kernel
theorem dX4_write_8 : decode cX4_write 8 = .ok (.iconst 1, 1) := by decide +kernel
theorem dX4_write_9 : decode cX4_write 9 = .ok (.goto 4, 3) := by decide +kernel
theorem dX4_write_12 : decode cX4_write 12 = .ok (.iconst 0, 1) := by decide +kernel
theorem dX4_write_13 : decode cX4_write 13 = .ok (.istore_n 2, 1) := by decide +kernel
theorem dX4_write_14 : decode cX4_write 14 = .ok (.aload_n 0, 1) := by decide +kernel
theorem dX4_write_15 : decode cX4_write 15 = .ok (.getfield 42, 3) := by decide +kernel
theorem dX4_write_18 : decode cX4_write 18 = .ok (.ifCond .le 13, 3) := by decide +kernel
theorem dX4_write_21 : decode cX4_write 21 = .ok (.aload_n 0, 1) := by decide +kernel
theorem dX4_write_22 : decode cX4_write 22 = .ok (.dup, 1) := by decide +kernel
theorem dX4_write_23 : decode cX4_write 23 = .ok (.getfield 42, 3) := by decide +kernel
theorem dX4_write_26 : decode cX4_write 26 = .ok (.iconst 1, 1) := by decide +kernel
theorem dX4_write_27 : decode cX4_write 27 = .ok (.isub, 1) := by decide +kernel
theorem dX4_write_28 : decode cX4_write 28 = .ok (.putfield 42, 3) := by decide +kernel
theorem dX4_write_31 : decode cX4_write 31 = .ok (.aload_n 0, 1) := by decide +kernel
theorem dX4_write_32 : decode cX4_write 32 = .ok (.getfield 21, 3) := by decide +kernel
theorem dX4_write_35 : decode cX4_write 35 = .ok (.iconst 4, 1) := by decide +kernel
