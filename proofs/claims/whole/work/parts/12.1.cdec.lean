theorem dX0_init_0 : decode cX0_init 0 = .ok (.aload_n 0, 1) := by decide +kernel
theorem dX0_init_1 : decode cX0_init 1 = .ok (.invokespecial 3, 3) := by decide +kernel
theorem dX0_init_4 : decode cX0_init 4 = .ok (.aload_n 0, 1) := by decide +kernel
theorem dX0_init_5 : decode cX0_init 5 = .ok (.bipush 16, 2) := by decide +kernel
theorem dX0_init_7 : decode cX0_init 7 = .ok (.newarray .int, 2) := by decide +kernel
theorem dX0_init_9 : decode cX0_init 9 = .ok (.putfield 9, 3) := by decide +kernel
theorem dX0_init_12 : decode cX0_init 12 = .ok (.aload_n 0, 1) := by decide +kernel
theorem dX0_init_13 : decode cX0_init 13 = .ok (.bipush 16, 2) := by decide +kernel
theorem dX0_init_15 : decode cX0_init 15 = .ok (.newarray .int, 2) := by decide +kernel
theorem dX0_init_17 : decode cX0_init 17 = .ok (.putfield 15, 3) := by decide +kernel
theorem dX0_init_20 : decode cX0_init 20 = .ok (.aload_n 0, 1) := by decide +kernel
theorem dX0_init_21 : decode cX0_init 21 = .ok (.bipush 32, 2) := by decide +kernel
theorem dX0_init_23 : decode cX0_init 23 = .ok (.newarray .byte, 2) := by decide +kernel
theorem dX0_init_25 : decode cX0_init 25 = .ok (.putfield 18, 3) := by decide +kernel
theorem dX0_init_28 : decode cX0_init 28 = .ok (.aload_n 0, 1) := by decide +kernel
theorem dX0_init_29 : decode cX0_init 29 = .ok (.bipush 6, 2) := by decide +kernel
theorem dX0_init_31 : decode cX0_init 31 = .ok (.newarray .byte, 2) := by decide +kernel
theorem dX0_init_33 : decode cX0_init 33 = .ok (.putfield 22, 3) := by decide +kernel
theorem dX0_init_36 : decode cX0_init 36 = .ok (.aload_n 0, 1) := by decide +kernel
theorem dX0_init_37 : decode cX0_init 37 = .ok (.iconst 1, 1) := by decide +kernel
theorem dX0_init_38 : decode cX0_init 38 = .ok (.putfield 25, 3) := by decide +kernel
theorem dX0_init_41 : decode cX0_init 41 = .ok (.aload_n 0, 1) := by decide +kernel
theorem dX0_init_42 : decode cX0_init 42 = .ok (.getfield 9, 3) := by decide +kernel
theorem dX0_init_45 : decode cX0_init 45 = .ok (.sipush 1000, 3) := by decide +kernel
theorem dX0_init_48 : decode cX0_init 48 = .ok (.invokestatic 29, 3) := by decide +kernel
theorem dX0_init_51 : decode cX0_init 51 = .ok (.return_, 1) := by decide +kernel
theorem dX0_mirror_0 : decode cX0_mirror 0 = .ok (.aload_n 1, 1) := by decide +kernel
theorem dX0_mirror_1 : decode cX0_mirror 1 = .ok (.getfield 9, 3) := by decide +kernel
theorem dX0_mirror_4 : decode cX0_mirror 4 = .ok (.iconst 0, 1) := by decide +kernel
theorem dX0_mirror_5 : decode cX0_mirror 5 = .ok (.aload_n 0, 1) := by decide +kernel
theorem dX0_mirror_6 : decode cX0_mirror 6 = .ok (.getfield 9, 3) := by decide +kernel
theorem dX0_mirror_9 : decode cX0_mirror 9 = .ok (.iconst 0, 1) := by decide +kernel
theorem dX0_mirror_10 : decode cX0_mirror 10 = .ok (.bipush 16, 2) := by decide +kernel
theorem dX0_mirror_12 : decode cX0_mirror 12 = .ok (.invokestatic 35, 3) := by decide +kernel
theorem dX0_mirror_15 : decode cX0_mirror 15 = .ok (.aload_n 1, 1) := by decide +kernel
theorem dX0_mirror_16 : decode cX0_mirror 16 = .ok (.getfield 15, 3) := by decide +kernel
theorem dX0_mirror_19 : decode cX0_mirror 19 = .ok (.iconst 0, 1) := by decide +kernel
theorem dX0_mirror_20 : decode cX0_mirror 20 = .ok (.aload_n 0, 1) := by decide +kernel
theorem dX0_mirror_21 : decode cX0_mirror 21 = .ok (.getfield 15, 3) := by decide +kernel
theorem dX0_mirror_24 : decode cX0_mirror 24 = .ok (.iconst 0, 1) := by decide +kernel
theorem dX0_mirror_25 : decode cX0_mirror 25 = .ok (.bipush 16, 2) := by decide +kernel
theorem dX0_mirror_27 : decode cX0_mirror 27 = .ok (.invokestatic 35, 3) := by decide +kernel
theorem dX0_mirror_30 : decode cX0_mirror 30 = .ok (.aload_n 0, 1) := by decide +kernel
theorem dX0_mirror_31 : decode cX0_mirror 31 = .ok (.aload_n 1, 1) := by decide +kernel
theorem dX0_mirror_32 : decode cX0_mirror 32 = .ok (.getfield 41, 3) := by decide +kernel
theorem dX0_mirror_35 : decode cX0_mirror 35 = .ok (.putfield 41, 3) := by decide +kernel
theorem dX0_mirror_38 : decode cX0_mirror 38 = .ok (.return_, 1) := by decide +kernel
theorem dX0_hasPaid_0 : decode cX0_hasPaid 0 = .ok (.aload_n 0, 1) := by decide +kernel
theorem dX0_hasPaid_1 : decode cX0_hasPaid 1 = .ok (.getfield 41, 3) := by decide +kernel
theorem dX0_hasPaid_4 : decode cX0_hasPaid 4 = .ok (.iload_n 1, 1) := by decide +kernel
theorem dX0_hasPaid_5 : decode cX0_hasPaid 5 = .ok (.ishr, 1) := by decide +kernel
theorem dX0_hasPaid_6 : decode cX0_hasPaid 6 = .ok (.iconst 1, 1) := by decide +kernel
theorem dX0_hasPaid_7 : decode cX0_hasPaid 7 = .ok (.iand, 1) := by decide +kernel
theorem dX0_hasPaid_8 : decode cX0_hasPaid 8 = .ok (.iconst 1, 1) := by decide +kernel
theorem dX0_hasPaid_9 : decode cX0_hasPaid 9 = .ok (.if_icmp .ne 7, 3) := by decide +kernel
theorem dX0_hasPaid_12 : decode cX0_hasPaid 12 = .ok (.iconst 1, 1) := by decide +kernel
theorem dX0_hasPaid_13 : decode cX0_hasPaid 13 = .ok (.goto 4, 3) := by decide +kernel
theorem dX0_hasPaid_16 : decode cX0_hasPaid 16 = .ok (.iconst 0, 1) := by decide +kernel
theorem dX0_hasPaid_17 : decode cX0_hasPaid 17 = .ok (.ireturn, 1) := by decide +kernel
theorem dX0_punish_0 : decode cX0_punish 0 = .ok (.iload_n 1, 1) := by decide +kernel
theorem dX0_punish_1 : decode cX0_punish 1 = .ok (.ifCond .lt 19, 3) := by decide +kernel
theorem dX0_punish_4 : decode cX0_punish 4 = .ok (.iload_n 1, 1) := by decide +kernel
theorem dX0_punish_5 : decode cX0_punish 5 = .ok (.bipush 16, 2) := by decide +kernel
theorem dX0_punish_7 : decode cX0_punish 7 = .ok (.if_icmp .ge 13, 3) := by decide +kernel
theorem dX0_punish_10 : decode cX0_punish 10 = .ok (.iload_n 2, 1) := by decide +kernel
theorem dX0_punish_11 : decode cX0_punish 11 = .ok (.ifCond .lt 9, 3) := by decide +kernel
theorem dX0_punish_14 : decode cX0_punish 14 = .ok (.iload_n 2, 1) := by decide +kernel
theorem dX0_punish_15 : decode cX0_punish 15 = .ok (.bipush 16, 2) := by decide +kernel
theorem dX0_punish_17 : decode cX0_punish 17 = .ok (.if_icmp .lt 5, 3) := by decide +kernel
theorem dX0_punish_20 : decode cX0_punish 20 = .ok (.iconst 0, 1) := by decide +kernel
theorem dX0_punish_21 : decode cX0_punish 21 = .ok (.ireturn, 1) := by decide +kernel
theorem dX0_punish_22 : decode cX0_punish 22 = .ok (.aload_n 0, 1) := by decide +kernel
theorem dX0_punish_23 : decode cX0_punish 23 = .ok (.getfield 41, 3) := by decide +kernel
theorem dX0_punish_26 : decode cX0_punish 26 = .ok (.iload_n 1, 1) := by decide +kernel
theorem dX0_punish_27 : decode cX0_punish 27 = .ok (.ishr, 1) := by decide +kernel
theorem dX0_punish_28 : decode cX0_punish 28 = .ok (.iconst 1, 1) := by decide +kernel
theorem dX0_punish_29 : decode cX0_punish 29 = .ok (.iand, 1) := by decide +kernel
theorem dX0_punish_30 : decode cX0_punish 30 = .ok (.iconst 1, 1) := by decide +kernel
theorem dX0_punish_31 : decode cX0_punish 31 = .ok (.if_icmp .ne 5, 3) := by decide +kernel
theorem dX0_punish_34 : decode cX0_punish 34 = .ok (.iconst 0, 1) := by decide +kernel
theorem dX0_punish_35 : decode cX0_punish 35 = .ok (.ireturn, 1) := by decide +kernel
theorem dX0_punish_36 : decode cX0_punish 36 = .ok (.aload_n 0, 1) := by decide +kernel
theorem dX0_punish_37 : decode cX0_punish 37 = .ok (.getfield 9, 3) := by decide +kernel
theorem dX0_punish_40 : decode cX0_punish 40 = .ok (.iload_n 1, 1) := by decide +kernel
theorem dX0_punish_41 : decode cX0_punish 41 = .ok (.iaload, 1) := by decide +kernel
theorem dX0_punish_42 : decode cX0_punish 42 = .ok (.bipush 100, 2) := by decide +kernel
theorem dX0_punish_44 : decode cX0_punish 44 = .ok (.if_icmp .ge 12, 3) := by decide +kernel
theorem dX0_punish_47 : decode cX0_punish 47 = .ok (.aload_n 0, 1) := by decide +kernel
theorem dX0_punish_48 : decode cX0_punish 48 = .ok (.getfield 9, 3) := by decide +kernel
theorem dX0_punish_51 : decode cX0_punish 51 = .ok (.iload_n 1, 1) := by decide +kernel
theorem dX0_punish_52 : decode cX0_punish 52 = .ok (.iaload, 1) := by decide +kernel
theorem dX0_punish_53 : decode cX0_punish 53 = .ok (.goto 5, 3) := by decide +kernel
theorem dX0_punish_56 : decode cX0_punish 56 = .ok (.bipush 100, 2) := by decide +kernel
theorem dX0_punish_58 : decode cX0_punish 58 = .ok (.istore_n 3, 1) := by decide +kernel
theorem dX0_punish_59 : decode cX0_punish 59 = .ok (.aload_n 0, 1) := by decide +kernel
theorem dX0_punish_60 : decode cX0_punish 60 = .ok (.dup, 1) := by decide +kernel
theorem dX0_punish_61 : decode cX0_punish 61 = .ok (.getfield 41, 3) := by decide +kernel
theorem dX0_punish_64 : decode cX0_punish 64 = .ok (.iconst 1, 1) := by decide +kernel
theorem dX0_punish_65 : decode cX0_punish 65 = .ok (.iload_n 1, 1) := by decide +kernel
theorem dX0_punish_66 : decode cX0_punish 66 = .ok (.ishl, 1) := by decide +kernel
theorem dX0_punish_67 : decode cX0_punish 67 = .ok (.ior, 1) := by decide +kernel
theorem dX0_punish_68 : decode cX0_punish 68 = .ok (.putfield 41, 3) := by decide +kernel
theorem dX0_punish_71 : decode cX0_punish 71 = .ok (.aload_n 0, 1) := by decide +kernel
theorem dX0_punish_72 : decode cX0_punish 72 = .ok (.getfield 9, 3) := by decide +kernel
theorem dX0_punish_75 : decode cX0_punish 75 = .ok (.iload_n 1, 1) := by decide +kernel
theorem dX0_punish_76 : decode cX0_punish 76 = .ok (.dup2, 1) := by decide +kernel
theorem dX0_punish_77 : decode cX0_punish 77 = .ok (.iaload, 1) := by decide +kernel
theorem dX0_punish_78 : decode cX0_punish 78 = .ok (.iload_n 3, 1) := by decide +kernel
theorem dX0_punish_79 : decode cX0_punish 79 = .ok (.isub, 1) := by decide +kernel
theorem dX0_punish_80 : decode cX0_punish 80 = .ok (.iastore, 1) := by decide +kernel
theorem dX0_punish_81 : decode cX0_punish 81 = .ok (.aload_n 0, 1) := by decide +kernel
theorem dX0_punish_82 : decode cX0_punish 82 = .ok (.getfield 9, 3) := by decide +kernel
theorem dX0_punish_85 : decode cX0_punish 85 = .ok (.iload_n 2, 1) := by decide +kernel
theorem dX0_punish_86 : decode cX0_punish 86 = .ok (.dup2, 1) := by decide +kernel
theorem dX0_punish_87 : decode cX0_punish 87 = .ok (.iaload, 1) := by decide +kernel
theorem dX0_punish_88 : decode cX0_punish 88 = .ok (.iload_n 3, 1) := by decide +kernel
theorem dX0_punish_89 : decode cX0_punish 89 = .ok (.iadd, 1) := by decide +kernel
theorem dX0_punish_90 : decode cX0_punish 90 = .ok (.iastore, 1) := by decide +kernel
theorem dX0_punish_91 : decode cX0_punish 91 = .ok (.iconst 1, 1) := by decide +kernel
theorem dX0_punish_92 : decode cX0_punish 92 = .ok (.ireturn, 1) := by decide +kernel
theorem dX0_pay_0 : decode cX0_pay 0 = .ok (.lload_n 1, 1) := by decide +kernel
theorem dX0_pay_1 : decode cX0_pay 1 = .ok (.bipush 48, 2) := by decide +kernel
theorem dX0_pay_3 : decode cX0_pay 3 = .ok (.lshr, 1) := by decide +kernel
theorem dX0_pay_4 : decode cX0_pay 4 = .ok (.l2i, 1) := by decide +kernel
theorem dX0_pay_5 : decode cX0_pay 5 = .ok (.sipush 255, 3) := by decide +kernel
theorem dX0_pay_8 : decode cX0_pay 8 = .ok (.iand, 1) := by decide +kernel
theorem dX0_pay_9 : decode cX0_pay 9 = .ok (.istore 4, 2) := by decide +kernel
theorem dX0_pay_11 : decode cX0_pay 11 = .ok (.lload_n 1, 1) := by decide +kernel
theorem dX0_pay_12 : decode cX0_pay 12 = .ok (.bipush 40, 2) := by decide +kernel
theorem dX0_pay_14 : decode cX0_pay 14 = .ok (.lshr, 1) := by decide +kernel
theorem dX0_pay_15 : decode cX0_pay 15 = .ok (.l2i, 1) := by decide +kernel
theorem dX0_pay_16 : decode cX0_pay 16 = .ok (.sipush 255, 3) := by decide +kernel
theorem dX0_pay_19 : decode cX0_pay 19 = .ok (.iand, 1) := by decide +kernel
theorem dX0_pay_20 : decode cX0_pay 20 = .ok (.istore 5, 2) := by decide +kernel
theorem dX0_pay_22 : decode cX0_pay 22 = .ok (.lload_n 1, 1) := by decide +kernel
theorem dX0_pay_23 : decode cX0_pay 23 = .ok (.bipush 24, 2) := by decide +kernel
theorem dX0_pay_25 : decode cX0_pay 25 = .ok (.lshr, 1) := by decide +kernel
theorem dX0_pay_26 : decode cX0_pay 26 = .ok (.l2i, 1) := by decide +kernel
theorem dX0_pay_27 : decode cX0_pay 27 = .ok (.ldc 45, 2) := by decide +kernel
theorem dX0_pay_29 : decode cX0_pay 29 = .ok (.iand, 1) := by decide +kernel
theorem dX0_pay_30 : decode cX0_pay 30 = .ok (.istore 6, 2) := by decide +kernel
theorem dX0_pay_32 : decode cX0_pay 32 = .ok (.lload_n 1, 1) := by decide +kernel
theorem dX0_pay_33 : decode cX0_pay 33 = .ok (.bipush 8, 2) := by decide +kernel
theorem dX0_pay_35 : decode cX0_pay 35 = .ok (.lshr, 1) := by decide +kernel
theorem dX0_pay_36 : decode cX0_pay 36 = .ok (.l2i, 1) := by decide +kernel
theorem dX0_pay_37 : decode cX0_pay 37 = .ok (.ldc 45, 2) := by decide +kernel
theorem dX0_pay_39 : decode cX0_pay 39 = .ok (.iand, 1) := by decide +kernel
theorem dX0_pay_40 : decode cX0_pay 40 = .ok (.istore 7, 2) := by decide +kernel
theorem dX0_pay_42 : decode cX0_pay 42 = .ok (.lload_n 1, 1) := by decide +kernel
theorem dX0_pay_43 : decode cX0_pay 43 = .ok (.l2i, 1) := by decide +kernel
theorem dX0_pay_44 : decode cX0_pay 44 = .ok (.sipush 255, 3) := by decide +kernel
theorem dX0_pay_47 : decode cX0_pay 47 = .ok (.iand, 1) := by decide +kernel
theorem dX0_pay_48 : decode cX0_pay 48 = .ok (.istore 8, 2) := by decide +kernel
theorem dX0_pay_50 : decode cX0_pay 50 = .ok (.iload 4, 2) := by decide +kernel
theorem dX0_pay_52 : decode cX0_pay 52 = .ok (.bipush 16, 2) := by decide +kernel
theorem dX0_pay_54 : decode cX0_pay 54 = .ok (.if_icmp .ge 20, 3) := by decide +kernel
theorem dX0_pay_57 : decode cX0_pay 57 = .ok (.iload 5, 2) := by decide +kernel
theorem dX0_pay_59 : decode cX0_pay 59 = .ok (.bipush 16, 2) := by decide +kernel
theorem dX0_pay_61 : decode cX0_pay 61 = .ok (.if_icmp .ge 13, 3) := by decide +kernel
theorem dX0_pay_64 : decode cX0_pay 64 = .ok (.iload_n 3, 1) := by decide +kernel
theorem dX0_pay_65 : decode cX0_pay 65 = .ok (.ifCond .lt 9, 3) := by decide +kernel
theorem dX0_pay_68 : decode cX0_pay 68 = .ok (.iload_n 3, 1) := by decide +kernel
theorem dX0_pay_69 : decode cX0_pay 69 = .ok (.bipush 16, 2) := by decide +kernel
theorem dX0_pay_71 : decode cX0_pay 71 = .ok (.if_icmp .lt 5, 3) := by decide +kernel
theorem dX0_pay_74 : decode cX0_pay 74 = .ok (.iconst 0, 1) := by decide +kernel
theorem dX0_pay_75 : decode cX0_pay 75 = .ok (.ireturn, 1) := by decide +kernel
theorem dX0_pay_76 : decode cX0_pay 76 = .ok (.iload 7, 2) := by decide +kernel
theorem dX0_pay_78 : decode cX0_pay 78 = .ok (.aload_n 0, 1) := by decide +kernel
theorem dX0_pay_79 : decode cX0_pay 79 = .ok (.getfield 15, 3) := by decide +kernel
theorem dX0_pay_82 : decode cX0_pay 82 = .ok (.iload 4, 2) := by decide +kernel
theorem dX0_pay_84 : decode cX0_pay 84 = .ok (.iaload, 1) := by decide +kernel
theorem dX0_pay_85 : decode cX0_pay 85 = .ok (.if_icmp .ne 18, 3) := by decide +kernel
theorem dX0_pay_88 : decode cX0_pay 88 = .ok (.aload_n 0, 1) := by decide +kernel
theorem dX0_pay_89 : decode cX0_pay 89 = .ok (.getfield 9, 3) := by decide +kernel
theorem dX0_pay_92 : decode cX0_pay 92 = .ok (.iload 4, 2) := by decide +kernel
theorem dX0_pay_94 : decode cX0_pay 94 = .ok (.iaload, 1) := by decide +kernel
theorem dX0_pay_95 : decode cX0_pay 95 = .ok (.iload 6, 2) := by decide +kernel
theorem dX0_pay_97 : decode cX0_pay 97 = .ok (.iload 8, 2) := by decide +kernel
theorem dX0_pay_99 : decode cX0_pay 99 = .ok (.iadd, 1) := by decide +kernel
theorem dX0_pay_100 : decode cX0_pay 100 = .ok (.if_icmp .ge 5, 3) := by decide +kernel
theorem dX0_pay_103 : decode cX0_pay 103 = .ok (.iconst 0, 1) := by decide +kernel
theorem dX0_pay_104 : decode cX0_pay 104 = .ok (.ireturn, 1) := by decide +kernel
theorem dX0_pay_105 : decode cX0_pay 105 = .ok (.aload_n 0, 1) := by decide +kernel
theorem dX0_pay_106 : decode cX0_pay 106 = .ok (.getfield 15, 3) := by decide +kernel
theorem dX0_pay_109 : decode cX0_pay 109 = .ok (.iload 4, 2) := by decide +kernel
theorem dX0_pay_111 : decode cX0_pay 111 = .ok (.dup2, 1) := by decide +kernel
theorem dX0_pay_112 : decode cX0_pay 112 = .ok (.iaload, 1) := by decide +kernel
theorem dX0_pay_113 : decode cX0_pay 113 = .ok (.iconst 1, 1) := by decide +kernel
theorem dX0_pay_114 : decode cX0_pay 114 = .ok (.iadd, 1) := by decide +kernel
theorem dX0_pay_115 : decode cX0_pay 115 = .ok (.iastore, 1) := by decide +kernel
theorem dX0_pay_116 : decode cX0_pay 116 = .ok (.aload_n 0, 1) := by decide +kernel
theorem dX0_pay_117 : decode cX0_pay 117 = .ok (.getfield 9, 3) := by decide +kernel
theorem dX0_pay_120 : decode cX0_pay 120 = .ok (.iload 4, 2) := by decide +kernel
theorem dX0_pay_122 : decode cX0_pay 122 = .ok (.dup2, 1) := by decide +kernel
theorem dX0_pay_123 : decode cX0_pay 123 = .ok (.iaload, 1) := by decide +kernel
theorem dX0_pay_124 : decode cX0_pay 124 = .ok (.iload 6, 2) := by decide +kernel
theorem dX0_pay_126 : decode cX0_pay 126 = .ok (.iload 8, 2) := by decide +kernel
theorem dX0_pay_128 : decode cX0_pay 128 = .ok (.iadd, 1) := by decide +kernel
theorem dX0_pay_129 : decode cX0_pay 129 = .ok (.isub, 1) := by decide +kernel
theorem dX0_pay_130 : decode cX0_pay 130 = .ok (.iastore, 1) := by decide +kernel
theorem dX0_pay_131 : decode cX0_pay 131 = .ok (.aload_n 0, 1) := by decide +kernel
theorem dX0_pay_132 : decode cX0_pay 132 = .ok (.getfield 9, 3) := by decide +kernel
theorem dX0_pay_135 : decode cX0_pay 135 = .ok (.iload 5, 2) := by decide +kernel
theorem dX0_pay_137 : decode cX0_pay 137 = .ok (.dup2, 1) := by decide +kernel
theorem dX0_pay_138 : decode cX0_pay 138 = .ok (.iaload, 1) := by decide +kernel
theorem dX0_pay_139 : decode cX0_pay 139 = .ok (.iload 6, 2) := by decide +kernel
theorem dX0_pay_141 : decode cX0_pay 141 = .ok (.iadd, 1) := by decide +kernel
theorem dX0_pay_142 : decode cX0_pay 142 = .ok (.iastore, 1) := by decide +kernel
theorem dX0_pay_143 : decode cX0_pay 143 = .ok (.aload_n 0, 1) := by decide +kernel
theorem dX0_pay_144 : decode cX0_pay 144 = .ok (.getfield 9, 3) := by decide +kernel
theorem dX0_pay_147 : decode cX0_pay 147 = .ok (.iload_n 3, 1) := by decide +kernel
theorem dX0_pay_148 : decode cX0_pay 148 = .ok (.dup2, 1) := by decide +kernel
theorem dX0_pay_149 : decode cX0_pay 149 = .ok (.iaload, 1) := by decide +kernel
theorem dX0_pay_150 : decode cX0_pay 150 = .ok (.iload 8, 2) := by decide +kernel
theorem dX0_pay_152 : decode cX0_pay 152 = .ok (.iadd, 1) := by decide +kernel
theorem dX0_pay_153 : decode cX0_pay 153 = .ok (.iastore, 1) := by decide +kernel
theorem dX0_pay_154 : decode cX0_pay 154 = .ok (.iconst 1, 1) := by decide +kernel
theorem dX0_pay_155 : decode cX0_pay 155 = .ok (.ireturn, 1) := by decide +kernel
theorem dX0_play_0 : decode cX0_play 0 = .ok (.aload_n 0, 1) := by decide +kernel
theorem dX0_play_1 : decode cX0_play 1 = .ok (.iconst 1, 1) := by decide +kernel
theorem dX0_play_2 : decode cX0_play 2 = .ok (.putfield 25, 3) := by decide +kernel
theorem dX0_play_5 : decode cX0_play 5 = .ok (.iload_n 2, 1) := by decide +kernel
theorem dX0_play_6 : decode cX0_play 6 = .ok (.ifCond .lt 17, 3) := by decide +kernel
theorem dX0_play_9 : decode cX0_play 9 = .ok (.iload_n 3, 1) := by decide +kernel
theorem dX0_play_10 : decode cX0_play 10 = .ok (.aload_n 1, 1) := by decide +kernel
theorem dX0_play_11 : decode cX0_play 11 = .ok (.arraylength, 1) := by decide +kernel
theorem dX0_play_12 : decode cX0_play 12 = .ok (.if_icmp .gt 11, 3) := by decide +kernel
theorem dX0_play_15 : decode cX0_play 15 = .ok (.iload_n 3, 1) := by decide +kernel
theorem dX0_play_16 : decode cX0_play 16 = .ok (.iload_n 2, 1) := by decide +kernel
theorem dX0_play_17 : decode cX0_play 17 = .ok (.isub, 1) := by decide +kernel
theorem dX0_play_18 : decode cX0_play 18 = .ok (.bipush 101, 2) := by decide +kernel
theorem dX0_play_20 : decode cX0_play 20 = .ok (.if_icmp .ge 5, 3) := by decide +kernel
theorem dX0_play_23 : decode cX0_play 23 = .ok (.iconst 0, 1) := by decide +kernel
theorem dX0_play_24 : decode cX0_play 24 = .ok (.ireturn, 1) := by decide +kernel
theorem dX0_play_25 : decode cX0_play 25 = .ok (.aload_n 1, 1) := by decide +kernel
theorem dX0_play_26 : decode cX0_play 26 = .ok (.iload_n 2, 1) := by decide +kernel
theorem dX0_play_27 : decode cX0_play 27 = .ok (.iconst 2, 1) := by decide +kernel
theorem dX0_play_28 : decode cX0_play 28 = .ok (.iadd, 1) := by decide +kernel
theorem dX0_play_29 : decode cX0_play 29 = .ok (.baload, 1) := by decide +kernel
theorem dX0_play_30 : decode cX0_play 30 = .ok (.sipush 255, 3) := by decide +kernel
theorem dX0_play_33 : decode cX0_play 33 = .ok (.iand, 1) := by decide +kernel
theorem dX0_play_34 : decode cX0_play 34 = .ok (.istore 4, 2) := by decide +kernel
theorem dX0_play_36 : decode cX0_play 36 = .ok (.iload_n 2, 1) := by decide +kernel
theorem dX0_play_37 : decode cX0_play 37 = .ok (.bipush 101, 2) := by decide +kernel
theorem dX0_play_39 : decode cX0_play 39 = .ok (.iadd, 1) := by decide +kernel
theorem dX0_play_40 : decode cX0_play 40 = .ok (.istore 5, 2) := by decide +kernel
theorem dX0_play_42 : decode cX0_play 42 = .ok (.aload_n 1, 1) := by decide +kernel
theorem dX0_play_43 : decode cX0_play 43 = .ok (.iload_n 2, 1) := by decide +kernel
theorem dX0_play_44 : decode cX0_play 44 = .ok (.bipush 100, 2) := by decide +kernel
theorem dX0_play_46 : decode cX0_play 46 = .ok (.iadd, 1) := by decide +kernel
theorem dX0_play_47 : decode cX0_play 47 = .ok (.baload, 1) := by decide +kernel
theorem dX0_play_48 : decode cX0_play 48 = .ok (.sipush 255, 3) := by decide +kernel
theorem dX0_play_51 : decode cX0_play 51 = .ok (.iand, 1) := by decide +kernel
theorem dX0_play_52 : decode cX0_play 52 = .ok (.istore 6, 2) := by decide +kernel
theorem dX0_play_54 : decode cX0_play 54 = .ok (.iconst 0, 1) := by decide +kernel
theorem dX0_play_55 : decode cX0_play 55 = .ok (.istore 7, 2) := by decide +kernel
theorem dX0_play_57 : decode cX0_play 57 = .ok (.iload 7, 2) := by decide +kernel
theorem dX0_play_59 : decode cX0_play 59 = .ok (.iload 6, 2) := by decide +kernel
theorem dX0_play_61 : decode cX0_play 61 = .ok (.if_icmp .ge 55, 3) := by decide +kernel
theorem dX0_play_64 : decode cX0_play 64 = .ok (.iload 7, 2) := by decide +kernel
theorem dX0_play_66 : decode cX0_play 66 = .ok (.iconst 2, 1) := by decide +kernel
theorem dX0_play_67 : decode cX0_play 67 = .ok (.if_icmp .ge 49, 3) := by decide +kernel
theorem dX0_play_70 : decode cX0_play 70 = .ok (.aload_n 1, 1) := by decide +kernel
theorem dX0_play_71 : decode cX0_play 71 = .ok (.iload 5, 2) := by decide +kernel
theorem dX0_play_73 : decode cX0_play 73 = .ok (.iload_n 3, 1) := by decide +kernel
theorem dX0_play_74 : decode cX0_play 74 = .ok (.invokestatic 46, 3) := by decide +kernel
theorem dX0_play_77 : decode cX0_play 77 = .ok (.istore 8, 2) := by decide +kernel
theorem dX0_play_79 : decode cX0_play 79 = .ok (.iload 8, 2) := by decide +kernel
theorem dX0_play_81 : decode cX0_play 81 = .ok (.ifCond .lt 20, 3) := by decide +kernel
theorem dX0_play_84 : decode cX0_play 84 = .ok (.aload_n 0, 1) := by decide +kernel
theorem dX0_play_85 : decode cX0_play 85 = .ok (.aload_n 1, 1) := by decide +kernel
theorem dX0_play_86 : decode cX0_play 86 = .ok (.iload 5, 2) := by decide +kernel
theorem dX0_play_88 : decode cX0_play 88 = .ok (.baload, 1) := by decide +kernel
theorem dX0_play_89 : decode cX0_play 89 = .ok (.sipush 255, 3) := by decide +kernel
theorem dX0_play_92 : decode cX0_play 92 = .ok (.iand, 1) := by decide +kernel
theorem dX0_play_93 : decode cX0_play 93 = .ok (.iload 4, 2) := by decide +kernel
theorem dX0_play_95 : decode cX0_play 95 = .ok (.invokevirtual 52, 3) := by decide +kernel
theorem dX0_play_98 : decode cX0_play 98 = .ok (.ifCond .ne 5, 3) := by decide +kernel
theorem dX0_play_101 : decode cX0_play 101 = .ok (.iconst 0, 1) := by decide +kernel
theorem dX0_play_102 : decode cX0_play 102 = .ok (.ireturn, 1) := by decide +kernel
theorem dX0_play_103 : decode cX0_play 103 = .ok (.iload 5, 2) := by decide +kernel
theorem dX0_play_105 : decode cX0_play 105 = .ok (.iload 8, 2) := by decide +kernel
theorem dX0_play_107 : decode cX0_play 107 = .ok (.iadd, 1) := by decide +kernel
theorem dX0_play_108 : decode cX0_play 108 = .ok (.istore 5, 2) := by decide +kernel
theorem dX0_play_110 : decode cX0_play 110 = .ok (.iinc 7 1, 3) := by decide +kernel
theorem dX0_play_113 : decode cX0_play 113 = .ok (.goto (-56), 3) := by decide +kernel
theorem dX0_play_116 : decode cX0_play 116 = .ok (.iload 5, 2) := by decide +kernel
theorem dX0_play_118 : decode cX0_play 118 = .ok (.iload_n 3, 1) := by decide +kernel
theorem dX0_play_119 : decode cX0_play 119 = .ok (.bipush 7, 2) := by decide +kernel
theorem dX0_play_121 : decode cX0_play 121 = .ok (.isub, 1) := by decide +kernel
theorem dX0_play_122 : decode cX0_play 122 = .ok (.if_icmp .gt 26, 3) := by decide +kernel
theorem dX0_play_125 : decode cX0_play 125 = .ok (.aload_n 0, 1) := by decide +kernel
theorem dX0_play_126 : decode cX0_play 126 = .ok (.aload_n 1, 1) := by decide +kernel
theorem dX0_play_127 : decode cX0_play 127 = .ok (.iload 5, 2) := by decide +kernel
theorem dX0_play_129 : decode cX0_play 129 = .ok (.invokestatic 56, 3) := by decide +kernel
theorem dX0_play_132 : decode cX0_play 132 = .ok (.iload 4, 2) := by decide +kernel
theorem dX0_play_134 : decode cX0_play 134 = .ok (.invokevirtual 60, 3) := by decide +kernel
theorem dX0_play_137 : decode cX0_play 137 = .ok (.ifCond .ne 5, 3) := by decide +kernel
theorem dX0_play_140 : decode cX0_play 140 = .ok (.iconst 0, 1) := by decide +kernel
theorem dX0_play_141 : decode cX0_play 141 = .ok (.ireturn, 1) := by decide +kernel
theorem dX0_play_142 : decode cX0_play 142 = .ok (.iinc 5 7, 3) := by decide +kernel
theorem dX0_play_145 : decode cX0_play 145 = .ok (.goto (-29), 3) := by decide +kernel
theorem dX0_play_148 : decode cX0_play 148 = .ok (.iconst 1, 1) := by decide +kernel
theorem dX0_play_149 : decode cX0_play 149 = .ok (.ireturn, 1) := by decide +kernel
theorem dX0_codeAt_0 : decode cX0_codeAt 0 = .ok (.lconst 0, 1) := by decide +kernel
theorem dX0_codeAt_1 : decode cX0_codeAt 1 = .ok (.lstore_n 2, 1) := by decide +kernel
theorem dX0_codeAt_2 : decode cX0_codeAt 2 = .ok (.iload_n 1, 1) := by decide +kernel
theorem dX0_codeAt_3 : decode cX0_codeAt 3 = .ok (.istore 4, 2) := by decide +kernel
theorem dX0_codeAt_5 : decode cX0_codeAt 5 = .ok (.iload 4, 2) := by decide +kernel
theorem dX0_codeAt_7 : decode cX0_codeAt 7 = .ok (.ifCond .lt 40, 3) := by decide +kernel
theorem dX0_codeAt_10 : decode cX0_codeAt 10 = .ok (.iload 4, 2) := by decide +kernel
theorem dX0_codeAt_12 : decode cX0_codeAt 12 = .ok (.iload_n 1, 1) := by decide +kernel
theorem dX0_codeAt_13 : decode cX0_codeAt 13 = .ok (.bipush 7, 2) := by decide +kernel
theorem dX0_codeAt_15 : decode cX0_codeAt 15 = .ok (.iadd, 1) := by decide +kernel
theorem dX0_codeAt_16 : decode cX0_codeAt 16 = .ok (.if_icmp .ge 31, 3) := by decide +kernel
theorem dX0_codeAt_19 : decode cX0_codeAt 19 = .ok (.iload 4, 2) := by decide +kernel
theorem dX0_codeAt_21 : decode cX0_codeAt 21 = .ok (.aload_n 0, 1) := by decide +kernel
theorem dX0_codeAt_22 : decode cX0_codeAt 22 = .ok (.arraylength, 1) := by decide +kernel
theorem dX0_codeAt_23 : decode cX0_codeAt 23 = .ok (.if_icmp .ge 24, 3) := by decide +kernel
theorem dX0_codeAt_26 : decode cX0_codeAt 26 = .ok (.lload_n 2, 1) := by decide +kernel
theorem dX0_codeAt_27 : decode cX0_codeAt 27 = .ok (.bipush 8, 2) := by decide +kernel
theorem dX0_codeAt_29 : decode cX0_codeAt 29 = .ok (.lshl, 1) := by decide +kernel
theorem dX0_codeAt_30 : decode cX0_codeAt 30 = .ok (.aload_n 0, 1) := by decide +kernel
theorem dX0_codeAt_31 : decode cX0_codeAt 31 = .ok (.iload 4, 2) := by decide +kernel
theorem dX0_codeAt_33 : decode cX0_codeAt 33 = .ok (.baload, 1) := by decide +kernel
theorem dX0_codeAt_34 : decode cX0_codeAt 34 = .ok (.sipush 255, 3) := by decide +kernel
theorem dX0_codeAt_37 : decode cX0_codeAt 37 = .ok (.iand, 1) := by decide +kernel
theorem dX0_codeAt_38 : decode cX0_codeAt 38 = .ok (.i2l, 1) := by decide +kernel
theorem dX0_codeAt_39 : decode cX0_codeAt 39 = .ok (.lor, 1) := by decide +kernel
theorem dX0_codeAt_40 : decode cX0_codeAt 40 = .ok (.lstore_n 2, 1) := by decide +kernel
theorem dX0_codeAt_41 : decode cX0_codeAt 41 = .ok (.iinc 4 1, 3) := by decide +kernel
theorem dX0_codeAt_44 : decode cX0_codeAt 44 = .ok (.goto (-39), 3) := by decide +kernel
theorem dX0_codeAt_47 : decode cX0_codeAt 47 = .ok (.lload_n 2, 1) := by decide +kernel
theorem dX0_codeAt_48 : decode cX0_codeAt 48 = .ok (.lreturn, 1) := by decide +kernel
theorem dX0_putCode_0 : decode cX0_putCode 0 = .ok (.iconst 0, 1) := by decide +kernel
theorem dX0_putCode_1 : decode cX0_putCode 1 = .ok (.istore 4, 2) := by decide +kernel
theorem dX0_putCode_3 : decode cX0_putCode 3 = .ok (.iload 4, 2) := by decide +kernel
theorem dX0_putCode_5 : decode cX0_putCode 5 = .ok (.bipush 7, 2) := by decide +kernel
theorem dX0_putCode_7 : decode cX0_putCode 7 = .ok (.if_icmp .ge 40, 3) := by decide +kernel
theorem dX0_putCode_10 : decode cX0_putCode 10 = .ok (.iload_n 3, 1) := by decide +kernel
theorem dX0_putCode_11 : decode cX0_putCode 11 = .ok (.ifCond .lt 36, 3) := by decide +kernel
theorem dX0_putCode_14 : decode cX0_putCode 14 = .ok (.iload_n 3, 1) := by decide +kernel
theorem dX0_putCode_15 : decode cX0_putCode 15 = .ok (.iload 4, 2) := by decide +kernel
theorem dX0_putCode_17 : decode cX0_putCode 17 = .ok (.iadd, 1) := by decide +kernel
theorem dX0_putCode_18 : decode cX0_putCode 18 = .ok (.aload_n 2, 1) := by decide +kernel
theorem dX0_putCode_19 : decode cX0_putCode 19 = .ok (.arraylength, 1) := by decide +kernel
theorem dX0_putCode_20 : decode cX0_putCode 20 = .ok (.if_icmp .ge 27, 3) := by decide +kernel
theorem dX0_putCode_23 : decode cX0_putCode 23 = .ok (.aload_n 2, 1) := by decide +kernel
theorem dX0_putCode_24 : decode cX0_putCode 24 = .ok (.iload_n 3, 1) := by decide +kernel
theorem dX0_putCode_25 : decode cX0_putCode 25 = .ok (.iload 4, 2) := by decide +kernel
theorem dX0_putCode_27 : decode cX0_putCode 27 = .ok (.iadd, 1) := by decide +kernel
theorem dX0_putCode_28 : decode cX0_putCode 28 = .ok (.lload_n 0, 1) := by decide +kernel
theorem dX0_putCode_29 : decode cX0_putCode 29 = .ok (.bipush 48, 2) := by decide +kernel
theorem dX0_putCode_31 : decode cX0_putCode 31 = .ok (.bipush 8, 2) := by decide +kernel
theorem dX0_putCode_33 : decode cX0_putCode 33 = .ok (.iload 4, 2) := by decide +kernel
theorem dX0_putCode_35 : decode cX0_putCode 35 = .ok (.imul, 1) := by decide +kernel
theorem dX0_putCode_36 : decode cX0_putCode 36 = .ok (.isub, 1) := by decide +kernel
theorem dX0_putCode_37 : decode cX0_putCode 37 = .ok (.lshr, 1) := by decide +kernel
theorem dX0_putCode_38 : decode cX0_putCode 38 = .ok (.l2i, 1) := by decide +kernel
theorem dX0_putCode_39 : decode cX0_putCode 39 = .ok (.i2b, 1) := by decide +kernel
theorem dX0_putCode_40 : decode cX0_putCode 40 = .ok (.bastore, 1) := by decide +kernel
theorem dX0_putCode_41 : decode cX0_putCode 41 = .ok (.iinc 4 1, 3) := by decide +kernel
theorem dX0_putCode_44 : decode cX0_putCode 44 = .ok (.goto (-41), 3) := by decide +kernel
theorem dX0_putCode_47 : decode cX0_putCode 47 = .ok (.return_, 1) := by decide +kernel
theorem dX0_encode_0 : decode cX0_encode 0 = .ok (.iload_n 1, 1) := by decide +kernel
theorem dX0_encode_1 : decode cX0_encode 1 = .ok (.ifCond .lt 22, 3) := by decide +kernel
theorem dX0_encode_4 : decode cX0_encode 4 = .ok (.iload_n 1, 1) := by decide +kernel
theorem dX0_encode_5 : decode cX0_encode 5 = .ok (.bipush 16, 2) := by decide +kernel
theorem dX0_encode_7 : decode cX0_encode 7 = .ok (.if_icmp .ge 16, 3) := by decide +kernel
theorem dX0_encode_10 : decode cX0_encode 10 = .ok (.iload_n 3, 1) := by decide +kernel
theorem dX0_encode_11 : decode cX0_encode 11 = .ok (.ifCond .lt 12, 3) := by decide +kernel
theorem dX0_encode_14 : decode cX0_encode 14 = .ok (.iload_n 3, 1) := by decide +kernel
theorem dX0_encode_15 : decode cX0_encode 15 = .ok (.aload_n 2, 1) := by decide +kernel
theorem dX0_encode_16 : decode cX0_encode 16 = .ok (.arraylength, 1) := by decide +kernel
theorem dX0_encode_17 : decode cX0_encode 17 = .ok (.bipush 6, 2) := by decide +kernel
theorem dX0_encode_19 : decode cX0_encode 19 = .ok (.isub, 1) := by decide +kernel
theorem dX0_encode_20 : decode cX0_encode 20 = .ok (.if_icmp .le 4, 3) := by decide +kernel
theorem dX0_encode_23 : decode cX0_encode 23 = .ok (.return_, 1) := by decide +kernel
theorem dX0_encode_24 : decode cX0_encode 24 = .ok (.aload_n 2, 1) := by decide +kernel
theorem dX0_encode_25 : decode cX0_encode 25 = .ok (.iload_n 3, 1) := by decide +kernel
theorem dX0_encode_26 : decode cX0_encode 26 = .ok (.iload_n 1, 1) := by decide +kernel
theorem dX0_encode_27 : decode cX0_encode 27 = .ok (.i2b, 1) := by decide +kernel
theorem dX0_encode_28 : decode cX0_encode 28 = .ok (.bastore, 1) := by decide +kernel
theorem dX0_encode_29 : decode cX0_encode 29 = .ok (.aload_n 2, 1) := by decide +kernel
theorem dX0_encode_30 : decode cX0_encode 30 = .ok (.iload_n 3, 1) := by decide +kernel
theorem dX0_encode_31 : decode cX0_encode 31 = .ok (.iconst 1, 1) := by decide +kernel
theorem dX0_encode_32 : decode cX0_encode 32 = .ok (.iadd, 1) := by decide +kernel
theorem dX0_encode_33 : decode cX0_encode 33 = .ok (.aload_n 0, 1) := by decide +kernel
theorem dX0_encode_34 : decode cX0_encode 34 = .ok (.getfield 9, 3) := by decide +kernel
theorem dX0_encode_37 : decode cX0_encode 37 = .ok (.iload_n 1, 1) := by decide +kernel
theorem dX0_encode_38 : decode cX0_encode 38 = .ok (.iaload, 1) := by decide +kernel
theorem dX0_encode_39 : decode cX0_encode 39 = .ok (.invokestatic 64, 3) := by decide +kernel
theorem dX0_encode_42 : decode cX0_encode 42 = .ok (.aload_n 2, 1) := by decide +kernel
theorem dX0_encode_43 : decode cX0_encode 43 = .ok (.iload_n 3, 1) := by decide +kernel
theorem dX0_encode_44 : decode cX0_encode 44 = .ok (.iconst 3, 1) := by decide +kernel
theorem dX0_encode_45 : decode cX0_encode 45 = .ok (.iadd, 1) := by decide +kernel
theorem dX0_encode_46 : decode cX0_encode 46 = .ok (.aload_n 0, 1) := by decide +kernel
theorem dX0_encode_47 : decode cX0_encode 47 = .ok (.getfield 15, 3) := by decide +kernel
theorem dX0_encode_50 : decode cX0_encode 50 = .ok (.iload_n 1, 1) := by decide +kernel
theorem dX0_encode_51 : decode cX0_encode 51 = .ok (.iaload, 1) := by decide +kernel
theorem dX0_encode_52 : decode cX0_encode 52 = .ok (.invokestatic 64, 3) := by decide +kernel
theorem dX0_encode_55 : decode cX0_encode 55 = .ok (.aload_n 2, 1) := by decide +kernel
theorem dX0_encode_56 : decode cX0_encode 56 = .ok (.iload_n 3, 1) := by decide +kernel
theorem dX0_encode_57 : decode cX0_encode 57 = .ok (.iconst 5, 1) := by decide +kernel
theorem dX0_encode_58 : decode cX0_encode 58 = .ok (.iadd, 1) := by decide +kernel
theorem dX0_encode_59 : decode cX0_encode 59 = .ok (.aload_n 0, 1) := by decide +kernel
theorem dX0_encode_60 : decode cX0_encode 60 = .ok (.iload_n 1, 1) := by decide +kernel
theorem dX0_encode_61 : decode cX0_encode 61 = .ok (.invokevirtual 68, 3) := by decide +kernel
theorem dX0_encode_64 : decode cX0_encode 64 = .ok (.ifCond .eq 7, 3) := by decide +kernel
theorem dX0_encode_67 : decode cX0_encode 67 = .ok (.iconst 1, 1) := by decide +kernel
theorem dX0_encode_68 : decode cX0_encode 68 = .ok (.goto 4, 3) := by decide +kernel
theorem dX0_encode_71 : decode cX0_encode 71 = .ok (.iconst 0, 1) := by decide +kernel
theorem dX0_encode_72 : decode cX0_encode 72 = .ok (.i2b, 1) := by decide +kernel
theorem dX0_encode_73 : decode cX0_encode 73 = .ok (.bastore, 1) := by decide +kernel
theorem dX0_encode_74 : decode cX0_encode 74 = .ok (.return_, 1) := by decide +kernel
theorem dX0_load_0 : decode cX0_load 0 = .ok (.aload_n 0, 1) := by decide +kernel
theorem dX0_load_1 : decode cX0_load 1 = .ok (.iconst 1, 1) := by decide +kernel
theorem dX0_load_2 : decode cX0_load 2 = .ok (.putfield 25, 3) := by decide +kernel
theorem dX0_load_5 : decode cX0_load 5 = .ok (.aload_n 0, 1) := by decide +kernel
theorem dX0_load_6 : decode cX0_load 6 = .ok (.iconst 0, 1) := by decide +kernel
theorem dX0_load_7 : decode cX0_load 7 = .ok (.putfield 41, 3) := by decide +kernel
theorem dX0_load_10 : decode cX0_load 10 = .ok (.iconst 0, 1) := by decide +kernel
theorem dX0_load_11 : decode cX0_load 11 = .ok (.istore_n 2, 1) := by decide +kernel
theorem dX0_load_12 : decode cX0_load 12 = .ok (.bipush 35, 2) := by decide +kernel
theorem dX0_load_14 : decode cX0_load 14 = .ok (.istore_n 3, 1) := by decide +kernel
theorem dX0_load_15 : decode cX0_load 15 = .ok (.iload_n 2, 1) := by decide +kernel
theorem dX0_load_16 : decode cX0_load 16 = .ok (.bipush 16, 2) := by decide +kernel
theorem dX0_load_18 : decode cX0_load 18 = .ok (.if_icmp .ge 69, 3) := by decide +kernel
theorem dX0_load_21 : decode cX0_load 21 = .ok (.iload_n 3, 1) := by decide +kernel
theorem dX0_load_22 : decode cX0_load 22 = .ok (.aload_n 1, 1) := by decide +kernel
theorem dX0_load_23 : decode cX0_load 23 = .ok (.arraylength, 1) := by decide +kernel
theorem dX0_load_24 : decode cX0_load 24 = .ok (.iconst 5, 1) := by decide +kernel
theorem dX0_load_25 : decode cX0_load 25 = .ok (.isub, 1) := by decide +kernel
theorem dX0_load_26 : decode cX0_load 26 = .ok (.if_icmp .gt 61, 3) := by decide +kernel
theorem dX0_load_29 : decode cX0_load 29 = .ok (.aload_n 0, 1) := by decide +kernel
theorem dX0_load_30 : decode cX0_load 30 = .ok (.getfield 9, 3) := by decide +kernel
theorem dX0_load_33 : decode cX0_load 33 = .ok (.iload_n 2, 1) := by decide +kernel
theorem dX0_load_34 : decode cX0_load 34 = .ok (.aload_n 1, 1) := by decide +kernel
theorem dX0_load_35 : decode cX0_load 35 = .ok (.iload_n 3, 1) := by decide +kernel
theorem dX0_load_36 : decode cX0_load 36 = .ok (.invokestatic 72, 3) := by decide +kernel
theorem dX0_load_39 : decode cX0_load 39 = .ok (.iastore, 1) := by decide +kernel
theorem dX0_load_40 : decode cX0_load 40 = .ok (.aload_n 0, 1) := by decide +kernel
theorem dX0_load_41 : decode cX0_load 41 = .ok (.getfield 15, 3) := by decide +kernel
theorem dX0_load_44 : decode cX0_load 44 = .ok (.iload_n 2, 1) := by decide +kernel
theorem dX0_load_45 : decode cX0_load 45 = .ok (.aload_n 1, 1) := by decide +kernel
theorem dX0_load_46 : decode cX0_load 46 = .ok (.iload_n 3, 1) := by decide +kernel
theorem dX0_load_47 : decode cX0_load 47 = .ok (.iconst 2, 1) := by decide +kernel
theorem dX0_load_48 : decode cX0_load 48 = .ok (.iadd, 1) := by decide +kernel
theorem dX0_load_49 : decode cX0_load 49 = .ok (.invokestatic 72, 3) := by decide +kernel
theorem dX0_load_52 : decode cX0_load 52 = .ok (.iastore, 1) := by decide +kernel
theorem dX0_load_53 : decode cX0_load 53 = .ok (.aload_n 0, 1) := by decide +kernel
theorem dX0_load_54 : decode cX0_load 54 = .ok (.dup, 1) := by decide +kernel
theorem dX0_load_55 : decode cX0_load 55 = .ok (.getfield 41, 3) := by decide +kernel
theorem dX0_load_58 : decode cX0_load 58 = .ok (.aload_n 1, 1) := by decide +kernel
theorem dX0_load_59 : decode cX0_load 59 = .ok (.iload_n 3, 1) := by decide +kernel
theorem dX0_load_60 : decode cX0_load 60 = .ok (.iconst 4, 1) := by decide +kernel
theorem dX0_load_61 : decode cX0_load 61 = .ok (.iadd, 1) := by decide +kernel
theorem dX0_load_62 : decode cX0_load 62 = .ok (.baload, 1) := by decide +kernel
theorem dX0_load_63 : decode cX0_load 63 = .ok (.iconst 1, 1) := by decide +kernel
theorem dX0_load_64 : decode cX0_load 64 = .ok (.if_icmp .ne 9, 3) := by decide +kernel
theorem dX0_load_67 : decode cX0_load 67 = .ok (.iconst 1, 1) := by decide +kernel
theorem dX0_load_68 : decode cX0_load 68 = .ok (.iload_n 2, 1) := by decide +kernel
theorem dX0_load_69 : decode cX0_load 69 = .ok (.ishl, 1) := by decide +kernel
theorem dX0_load_70 : decode cX0_load 70 = .ok (.goto 4, 3) := by decide +kernel
theorem dX0_load_73 : decode cX0_load 73 = .ok (.iconst 0, 1) := by decide +kernel
theorem dX0_load_74 : decode cX0_load 74 = .ok (.ior, 1) := by decide +kernel
theorem dX0_load_75 : decode cX0_load 75 = .ok (.putfield 41, 3) := by decide +kernel
theorem dX0_load_78 : decode cX0_load 78 = .ok (.iinc 2 1, 3) := by decide +kernel
theorem dX0_load_81 : decode cX0_load 81 = .ok (.iinc 3 5, 3) := by decide +kernel
theorem dX0_load_84 : decode cX0_load 84 = .ok (.goto (-69), 3) := by decide +kernel
theorem dX0_load_87 : decode cX0_load 87 = .ok (.return_, 1) := by decide +kernel
theorem dX0_plant_0 : decode cX0_plant 0 = .ok (.aload_n 1, 1) := by decide +kernel
theorem dX0_plant_1 : decode cX0_plant 1 = .ok (.invokevirtual 76, 3) := by decide +kernel
theorem dX0_plant_4 : decode cX0_plant 4 = .ok (.iconst 0, 1) := by decide +kernel
theorem dX0_plant_5 : decode cX0_plant 5 = .ok (.istore_n 2, 1) := by decide +kernel
theorem dX0_plant_6 : decode cX0_plant 6 = .ok (.iload_n 2, 1) := by decide +kernel
theorem dX0_plant_7 : decode cX0_plant 7 = .ok (.bipush 16, 2) := by decide +kernel
theorem dX0_plant_9 : decode cX0_plant 9 = .ok (.if_icmp .ge 30, 3) := by decide +kernel
theorem dX0_plant_12 : decode cX0_plant 12 = .ok (.aload_n 0, 1) := by decide +kernel
theorem dX0_plant_13 : decode cX0_plant 13 = .ok (.iload_n 2, 1) := by decide +kernel
theorem dX0_plant_14 : decode cX0_plant 14 = .ok (.aload_n 0, 1) := by decide +kernel
theorem dX0_plant_15 : decode cX0_plant 15 = .ok (.getfield 22, 3) := by decide +kernel
theorem dX0_plant_18 : decode cX0_plant 18 = .ok (.iconst 0, 1) := by decide +kernel
theorem dX0_plant_19 : decode cX0_plant 19 = .ok (.invokevirtual 81, 3) := by decide +kernel
theorem dX0_plant_22 : decode cX0_plant 22 = .ok (.aload_n 1, 1) := by decide +kernel
theorem dX0_plant_23 : decode cX0_plant 23 = .ok (.aload_n 0, 1) := by decide +kernel
theorem dX0_plant_24 : decode cX0_plant 24 = .ok (.getfield 22, 3) := by decide +kernel
theorem dX0_plant_27 : decode cX0_plant 27 = .ok (.iconst 0, 1) := by decide +kernel
theorem dX0_plant_28 : decode cX0_plant 28 = .ok (.bipush 6, 2) := by decide +kernel
theorem dX0_plant_30 : decode cX0_plant 30 = .ok (.invokevirtual 85, 3) := by decide +kernel
theorem dX0_plant_33 : decode cX0_plant 33 = .ok (.iinc 2 1, 3) := by decide +kernel
theorem dX0_plant_36 : decode cX0_plant 36 = .ok (.goto (-30), 3) := by decide +kernel
theorem dX0_plant_39 : decode cX0_plant 39 = .ok (.return_, 1) := by decide +kernel
theorem dX0_isLike_0 : decode cX0_isLike 0 = .ok (.iconst 0, 1) := by decide +kernel
theorem dX0_isLike_1 : decode cX0_isLike 1 = .ok (.istore_n 2, 1) := by decide +kernel
theorem dX0_isLike_2 : decode cX0_isLike 2 = .ok (.iload_n 2, 1) := by decide +kernel
theorem dX0_isLike_3 : decode cX0_isLike 3 = .ok (.bipush 16, 2) := by decide +kernel
theorem dX0_isLike_5 : decode cX0_isLike 5 = .ok (.if_icmp .ge 41, 3) := by decide +kernel
theorem dX0_isLike_8 : decode cX0_isLike 8 = .ok (.aload_n 0, 1) := by decide +kernel
theorem dX0_isLike_9 : decode cX0_isLike 9 = .ok (.getfield 9, 3) := by decide +kernel
theorem dX0_isLike_12 : decode cX0_isLike 12 = .ok (.iload_n 2, 1) := by decide +kernel
theorem dX0_isLike_13 : decode cX0_isLike 13 = .ok (.iaload, 1) := by decide +kernel
theorem dX0_isLike_14 : decode cX0_isLike 14 = .ok (.aload_n 1, 1) := by decide +kernel
theorem dX0_isLike_15 : decode cX0_isLike 15 = .ok (.getfield 9, 3) := by decide +kernel
theorem dX0_isLike_18 : decode cX0_isLike 18 = .ok (.iload_n 2, 1) := by decide +kernel
theorem dX0_isLike_19 : decode cX0_isLike 19 = .ok (.iaload, 1) := by decide +kernel
theorem dX0_isLike_20 : decode cX0_isLike 20 = .ok (.if_icmp .ne 18, 3) := by decide +kernel
theorem dX0_isLike_23 : decode cX0_isLike 23 = .ok (.aload_n 0, 1) := by decide +kernel
theorem dX0_isLike_24 : decode cX0_isLike 24 = .ok (.getfield 15, 3) := by decide +kernel
theorem dX0_isLike_27 : decode cX0_isLike 27 = .ok (.iload_n 2, 1) := by decide +kernel
theorem dX0_isLike_28 : decode cX0_isLike 28 = .ok (.iaload, 1) := by decide +kernel
theorem dX0_isLike_29 : decode cX0_isLike 29 = .ok (.aload_n 1, 1) := by decide +kernel
theorem dX0_isLike_30 : decode cX0_isLike 30 = .ok (.getfield 15, 3) := by decide +kernel
theorem dX0_isLike_33 : decode cX0_isLike 33 = .ok (.iload_n 2, 1) := by decide +kernel
theorem dX0_isLike_34 : decode cX0_isLike 34 = .ok (.iaload, 1) := by decide +kernel
theorem dX0_isLike_35 : decode cX0_isLike 35 = .ok (.if_icmp .eq 5, 3) := by decide +kernel
theorem dX0_isLike_38 : decode cX0_isLike 38 = .ok (.iconst 0, 1) := by decide +kernel
theorem dX0_isLike_39 : decode cX0_isLike 39 = .ok (.ireturn, 1) := by decide +kernel
theorem dX0_isLike_40 : decode cX0_isLike 40 = .ok (.iinc 2 1, 3) := by decide +kernel
theorem dX0_isLike_43 : decode cX0_isLike 43 = .ok (.goto (-41), 3) := by decide +kernel
theorem dX0_isLike_46 : decode cX0_isLike 46 = .ok (.aload_n 0, 1) := by decide +kernel
theorem dX0_isLike_47 : decode cX0_isLike 47 = .ok (.getfield 41, 3) := by decide +kernel
theorem dX0_isLike_50 : decode cX0_isLike 50 = .ok (.aload_n 1, 1) := by decide +kernel
theorem dX0_isLike_51 : decode cX0_isLike 51 = .ok (.getfield 41, 3) := by decide +kernel
theorem dX0_isLike_54 : decode cX0_isLike 54 = .ok (.if_icmp .ne 7, 3) := by decide +kernel
theorem dX0_isLike_57 : decode cX0_isLike 57 = .ok (.iconst 1, 1) := by decide +kernel
theorem dX0_isLike_58 : decode cX0_isLike 58 = .ok (.goto 4, 3) := by decide +kernel
theorem dX0_isLike_61 : decode cX0_isLike 61 = .ok (.iconst 0, 1) := by decide +kernel
theorem dX0_isLike_62 : decode cX0_isLike 62 = .ok (.ireturn, 1) := by decide +kernel
theorem dX0_refresh_0 : decode cX0_refresh 0 = .ok (.aload_n 0, 1) := by decide +kernel
theorem dX0_refresh_1 : decode cX0_refresh 1 = .ok (.getfield 25, 3) := by decide +kernel
theorem dX0_refresh_4 : decode cX0_refresh 4 = .ok (.ifCond .ne 4, 3) := by decide +kernel
theorem dX0_refresh_7 : decode cX0_refresh 7 = .ok (.return_, 1) := by decide +kernel
theorem dX0_refresh_8 : decode cX0_refresh 8 = .ok (.aload_n 2, 1) := by decide +kernel
theorem dX0_refresh_9 : decode cX0_refresh 9 = .ok (.getfield 25, 3) := by decide +kernel
theorem dX0_refresh_12 : decode cX0_refresh 12 = .ok (.ifCond .ne 11, 3) := by decide +kernel
theorem dX0_refresh_15 : decode cX0_refresh 15 = .ok (.aload_n 0, 1) := by decide +kernel
theorem dX0_refresh_16 : decode cX0_refresh 16 = .ok (.aload_n 2, 1) := by decide +kernel
theorem dX0_refresh_17 : decode cX0_refresh 17 = .ok (.invokevirtual 88, 3) := by decide +kernel
theorem dX0_refresh_20 : decode cX0_refresh 20 = .ok (.ifCond .ne 38, 3) := by decide +kernel
theorem dX0_refresh_23 : decode cX0_refresh 23 = .ok (.aload_n 2, 1) := by decide +kernel
theorem dX0_refresh_24 : decode cX0_refresh 24 = .ok (.aload_n 0, 1) := by decide +kernel
theorem dX0_refresh_25 : decode cX0_refresh 25 = .ok (.invokevirtual 92, 3) := by decide +kernel
theorem dX0_refresh_28 : decode cX0_refresh 28 = .ok (.aload_n 2, 1) := by decide +kernel
theorem dX0_refresh_29 : decode cX0_refresh 29 = .ok (.aload_n 1, 1) := by decide +kernel
theorem dX0_refresh_30 : decode cX0_refresh 30 = .ok (.invokevirtual 96, 3) := by decide +kernel
theorem dX0_refresh_33 : decode cX0_refresh 33 = .ok (.aload_n 1, 1) := by decide +kernel
theorem dX0_refresh_34 : decode cX0_refresh 34 = .ok (.iconst (-1), 1) := by decide +kernel
theorem dX0_refresh_35 : decode cX0_refresh 35 = .ok (.aload_n 2, 1) := by decide +kernel
theorem dX0_refresh_36 : decode cX0_refresh 36 = .ok (.getfield 18, 3) := by decide +kernel
theorem dX0_refresh_39 : decode cX0_refresh 39 = .ok (.iconst 0, 1) := by decide +kernel
theorem dX0_refresh_40 : decode cX0_refresh 40 = .ok (.invokevirtual 100, 3) := by decide +kernel
theorem dX0_refresh_43 : decode cX0_refresh 43 = .ok (.pop, 1) := by decide +kernel
theorem dX0_refresh_44 : decode cX0_refresh 44 = .ok (.aload_n 1, 1) := by decide +kernel
theorem dX0_refresh_45 : decode cX0_refresh 45 = .ok (.aload_n 2, 1) := by decide +kernel
theorem dX0_refresh_46 : decode cX0_refresh 46 = .ok (.getfield 18, 3) := by decide +kernel
theorem dX0_refresh_49 : decode cX0_refresh 49 = .ok (.iconst 0, 1) := by decide +kernel
theorem dX0_refresh_50 : decode cX0_refresh 50 = .ok (.invokevirtual 104, 3) := by decide +kernel
theorem dX0_refresh_53 : decode cX0_refresh 53 = .ok (.aload_n 2, 1) := by decide +kernel
theorem dX0_refresh_54 : decode cX0_refresh 54 = .ok (.iconst 0, 1) := by decide +kernel
theorem dX0_refresh_55 : decode cX0_refresh 55 = .ok (.putfield 25, 3) := by decide +kernel
theorem dX0_refresh_58 : decode cX0_refresh 58 = .ok (.aload_n 2, 1) := by decide +kernel
theorem dX0_refresh_59 : decode cX0_refresh 59 = .ok (.getfield 18, 3) := by decide +kernel
theorem dX0_refresh_62 : decode cX0_refresh 62 = .ok (.iconst 0, 1) := by decide +kernel
theorem dX0_refresh_63 : decode cX0_refresh 63 = .ok (.aload_n 0, 1) := by decide +kernel
theorem dX0_refresh_64 : decode cX0_refresh 64 = .ok (.getfield 18, 3) := by decide +kernel
theorem dX0_refresh_67 : decode cX0_refresh 67 = .ok (.iconst 0, 1) := by decide +kernel
theorem dX0_refresh_68 : decode cX0_refresh 68 = .ok (.bipush 32, 2) := by decide +kernel
theorem dX0_refresh_70 : decode cX0_refresh 70 = .ok (.invokestatic 35, 3) := by decide +kernel
theorem dX0_refresh_73 : decode cX0_refresh 73 = .ok (.aload_n 0, 1) := by decide +kernel
theorem dX0_refresh_74 : decode cX0_refresh 74 = .ok (.iconst 0, 1) := by decide +kernel
theorem dX0_refresh_75 : decode cX0_refresh 75 = .ok (.putfield 25, 3) := by decide +kernel
theorem dX0_refresh_78 : decode cX0_refresh 78 = .ok (.return_, 1) := by decide +kernel
theorem dX1_init_0 : decode cX1_init 0 = .ok (.aload_n 0, 1) := by decide +kernel
theorem dX1_init_1 : decode cX1_init 1 = .ok (.invokespecial 3, 3) := by decide +kernel
theorem dX1_init_4 : decode cX1_init 4 = .ok (.aload_n 0, 1) := by decide +kernel
theorem dX1_init_5 : decode cX1_init 5 = .ok (.bipush 32, 2) := by decide +kernel
theorem dX1_init_7 : decode cX1_init 7 = .ok (.newarray .byte, 2) := by decide +kernel
theorem dX1_init_9 : decode cX1_init 9 = .ok (.putfield 9, 3) := by decide +kernel
theorem dX1_init_12 : decode cX1_init 12 = .ok (.aload_n 0, 1) := by decide +kernel
theorem dX1_init_13 : decode cX1_init 13 = .ok (.aload_n 1, 1) := by decide +kernel
theorem dX1_init_14 : decode cX1_init 14 = .ok (.putfield 15, 3) := by decide +kernel
theorem dX1_init_17 : decode cX1_init 17 = .ok (.aload_n 0, 1) := by decide +kernel
theorem dX1_init_18 : decode cX1_init 18 = .ok (.iload_n 2, 1) := by decide +kernel
theorem dX1_init_19 : decode cX1_init 19 = .ok (.putfield 19, 3) := by decide +kernel
theorem dX1_init_22 : decode cX1_init 22 = .ok (.return_, 1) := by decide +kernel
theorem dX1_look_0 : decode cX1_look 0 = .ok (.aload_n 1, 1) := by decide +kernel
theorem dX1_look_1 : decode cX1_look 1 = .ok (.getfield 23, 3) := by decide +kernel
theorem dX1_look_4 : decode cX1_look 4 = .ok (.ifCond .ne 47, 3) := by decide +kernel
theorem dX1_look_7 : decode cX1_look 7 = .ok (.aload_n 1, 1) := by decide +kernel
theorem dX1_look_8 : decode cX1_look 8 = .ok (.aload_n 1, 1) := by decide +kernel
theorem dX1_look_9 : decode cX1_look 9 = .ok (.getfield 28, 3) := by decide +kernel
theorem dX1_look_12 : decode cX1_look 12 = .ok (.ifCond .le 22, 3) := by decide +kernel
theorem dX1_look_15 : decode cX1_look 15 = .ok (.aload_n 0, 1) := by decide +kernel
theorem dX1_look_16 : decode cX1_look 16 = .ok (.aload_n 1, 1) := by decide +kernel
theorem dX1_look_17 : decode cX1_look 17 = .ok (.getfield 31, 3) := by decide +kernel
theorem dX1_look_20 : decode cX1_look 20 = .ok (.aload_n 1, 1) := by decide +kernel
theorem dX1_look_21 : decode cX1_look 21 = .ok (.getfield 28, 3) := by decide +kernel
theorem dX1_look_24 : decode cX1_look 24 = .ok (.invokevirtual 34, 3) := by decide +kernel
theorem dX1_look_27 : decode cX1_look 27 = .ok (.ifCond .eq 7, 3) := by decide +kernel
theorem dX1_look_30 : decode cX1_look 30 = .ok (.iconst 1, 1) := by decide +kernel
theorem dX1_look_31 : decode cX1_look 31 = .ok (.goto 4, 3) := by decide +kernel
theorem dX1_look_34 : decode cX1_look 34 = .ok (.iconst 2, 1) := by decide +kernel
theorem dX1_look_35 : decode cX1_look 35 = .ok (.putfield 23, 3) := by decide +kernel
theorem dX1_look_38 : decode cX1_look 38 = .ok (.aload_n 1, 1) := by decide +kernel
theorem dX1_look_39 : decode cX1_look 39 = .ok (.getfield 23, 3) := by decide +kernel
theorem dX1_look_42 : decode cX1_look 42 = .ok (.iconst 1, 1) := by decide +kernel
theorem dX1_look_43 : decode cX1_look 43 = .ok (.if_icmp .ne 8, 3) := by decide +kernel
theorem dX1_look_46 : decode cX1_look 46 = .ok (.aload_n 0, 1) := by decide +kernel
theorem dX1_look_47 : decode cX1_look 47 = .ok (.aload_n 1, 1) := by decide +kernel
theorem dX1_look_48 : decode cX1_look 48 = .ok (.invokevirtual 38, 3) := by decide +kernel
theorem dX1_look_51 : decode cX1_look 51 = .ok (.aload_n 1, 1) := by decide +kernel
theorem dX1_look_52 : decode cX1_look 52 = .ok (.getfield 23, 3) := by decide +kernel
theorem dX1_look_55 : decode cX1_look 55 = .ok (.iconst 1, 1) := by decide +kernel
theorem dX1_look_56 : decode cX1_look 56 = .ok (.if_icmp .ne 7, 3) := by decide +kernel
theorem dX1_look_59 : decode cX1_look 59 = .ok (.iconst 1, 1) := by decide +kernel
theorem dX1_look_60 : decode cX1_look 60 = .ok (.goto 4, 3) := by decide +kernel
theorem dX1_look_63 : decode cX1_look 63 = .ok (.iconst 0, 1) := by decide +kernel
theorem dX1_look_64 : decode cX1_look 64 = .ok (.ireturn, 1) := by decide +kernel
theorem dX1_name_0 : decode cX1_name 0 = .ok (.aload_n 1, 1) := by decide +kernel
theorem dX1_name_1 : decode cX1_name 1 = .ok (.invokevirtual 42, 3) := by decide +kernel
theorem dX1_name_4 : decode cX1_name 4 = .ok (.istore_n 2, 1) := by decide +kernel
theorem dX1_name_5 : decode cX1_name 5 = .ok (.iload_n 2, 1) := by decide +kernel
theorem dX1_name_6 : decode cX1_name 6 = .ok (.ifCond .lt 36, 3) := by decide +kernel
theorem dX1_name_9 : decode cX1_name 9 = .ok (.aload_n 0, 1) := by decide +kernel
theorem dX1_name_10 : decode cX1_name 10 = .ok (.getfield 15, 3) := by decide +kernel
theorem dX1_name_13 : decode cX1_name 13 = .ok (.aload_n 1, 1) := by decide +kernel
theorem dX1_name_14 : decode cX1_name 14 = .ok (.getfield 31, 3) := by decide +kernel
theorem dX1_name_17 : decode cX1_name 17 = .ok (.iload_n 2, 1) := by decide +kernel
theorem dX1_name_18 : decode cX1_name 18 = .ok (.iload_n 2, 1) := by decide +kernel
theorem dX1_name_19 : decode cX1_name 19 = .ok (.bipush 101, 2) := by decide +kernel
theorem dX1_name_21 : decode cX1_name 21 = .ok (.iadd, 1) := by decide +kernel
theorem dX1_name_22 : decode cX1_name 22 = .ok (.aload_n 0, 1) := by decide +kernel
theorem dX1_name_23 : decode cX1_name 23 = .ok (.getfield 9, 3) := by decide +kernel
theorem dX1_name_26 : decode cX1_name 26 = .ok (.iconst 0, 1) := by decide +kernel
theorem dX1_name_27 : decode cX1_name 27 = .ok (.invokevirtual 46, 3) := by decide +kernel
theorem dX1_name_30 : decode cX1_name 30 = .ok (.aload_n 1, 1) := by decide +kernel
theorem dX1_name_31 : decode cX1_name 31 = .ok (.aload_n 0, 1) := by decide +kernel
theorem dX1_name_32 : decode cX1_name 32 = .ok (.getfield 9, 3) := by decide +kernel
theorem dX1_name_35 : decode cX1_name 35 = .ok (.iconst 0, 1) := by decide +kernel
theorem dX1_name_36 : decode cX1_name 36 = .ok (.invokevirtual 51, 3) := by decide +kernel
theorem dX1_name_39 : decode cX1_name 39 = .ok (.goto 38, 3) := by decide +kernel
theorem dX1_name_42 : decode cX1_name 42 = .ok (.aload_n 1, 1) := by decide +kernel
theorem dX1_name_43 : decode cX1_name 43 = .ok (.invokevirtual 55, 3) := by decide +kernel
theorem dX1_name_46 : decode cX1_name 46 = .ok (.iconst 2, 1) := by decide +kernel
theorem dX1_name_47 : decode cX1_name 47 = .ok (.if_icmp .eq 11, 3) := by decide +kernel
theorem dX1_name_50 : decode cX1_name 50 = .ok (.aload_n 1, 1) := by decide +kernel
theorem dX1_name_51 : decode cX1_name 51 = .ok (.invokevirtual 55, 3) := by decide +kernel
theorem dX1_name_54 : decode cX1_name 54 = .ok (.iconst 3, 1) := by decide +kernel
theorem dX1_name_55 : decode cX1_name 55 = .ok (.if_icmp .ne 22, 3) := by decide +kernel
theorem dX1_name_58 : decode cX1_name 58 = .ok (.aload_n 1, 1) := by decide +kernel
theorem dX1_name_59 : decode cX1_name 59 = .ok (.iconst 5, 1) := by decide +kernel
theorem dX1_name_60 : decode cX1_name 60 = .ok (.invokevirtual 58, 3) := by decide +kernel
theorem dX1_name_63 : decode cX1_name 63 = .ok (.iconst 1, 1) := by decide +kernel
theorem dX1_name_64 : decode cX1_name 64 = .ok (.if_icmp .ne 13, 3) := by decide +kernel
theorem dX1_name_67 : decode cX1_name 67 = .ok (.aload_n 1, 1) := by decide +kernel
theorem dX1_name_68 : decode cX1_name 68 = .ok (.aload_n 1, 1) := by decide +kernel
theorem dX1_name_69 : decode cX1_name 69 = .ok (.getfield 31, 3) := by decide +kernel
theorem dX1_name_72 : decode cX1_name 72 = .ok (.bipush 6, 2) := by decide +kernel
theorem dX1_name_74 : decode cX1_name 74 = .ok (.invokevirtual 51, 3) := by decide +kernel
theorem dX1_name_77 : decode cX1_name 77 = .ok (.return_, 1) := by decide +kernel
theorem dX1_fits_0 : decode cX1_fits 0 = .ok (.aload_n 1, 1) := by decide +kernel
theorem dX1_fits_1 : decode cX1_fits 1 = .ok (.iconst 0, 1) := by decide +kernel
theorem dX1_fits_2 : decode cX1_fits 2 = .ok (.baload, 1) := by decide +kernel
theorem dX1_fits_3 : decode cX1_fits 3 = .ok (.tableswitch 237 0 7 #[45, 65, 135, 135, 174, 182, 201, 218], 45) := by decide +kernel
theorem dX1_fits_48 : decode cX1_fits 48 = .ok (.iload_n 2, 1) := by decide +kernel
theorem dX1_fits_49 : decode cX1_fits 49 = .ok (.bipush 8, 2) := by decide +kernel
theorem dX1_fits_51 : decode cX1_fits 51 = .ok (.if_icmp .ne 15, 3) := by decide +kernel
theorem dX1_fits_54 : decode cX1_fits 54 = .ok (.aload_n 1, 1) := by decide +kernel
theorem dX1_fits_55 : decode cX1_fits 55 = .ok (.iconst 1, 1) := by decide +kernel
theorem dX1_fits_56 : decode cX1_fits 56 = .ok (.invokestatic 62, 3) := by decide +kernel
theorem dX1_fits_59 : decode cX1_fits 59 = .ok (.ifCond .eq 7, 3) := by decide +kernel
theorem dX1_fits_62 : decode cX1_fits 62 = .ok (.iconst 1, 1) := by decide +kernel
theorem dX1_fits_63 : decode cX1_fits 63 = .ok (.goto 4, 3) := by decide +kernel
theorem dX1_fits_66 : decode cX1_fits 66 = .ok (.iconst 0, 1) := by decide +kernel
theorem dX1_fits_67 : decode cX1_fits 67 = .ok (.ireturn, 1) := by decide +kernel
theorem dX1_fits_68 : decode cX1_fits 68 = .ok (.iload_n 2, 1) := by decide +kernel
theorem dX1_fits_69 : decode cX1_fits 69 = .ok (.bipush 107, 2) := by decide +kernel
theorem dX1_fits_71 : decode cX1_fits 71 = .ok (.if_icmp .lt 65, 3) := by decide +kernel
theorem dX1_fits_74 : decode cX1_fits 74 = .ok (.aload_n 0, 1) := by decide +kernel
theorem dX1_fits_75 : decode cX1_fits 75 = .ok (.aload_n 1, 1) := by decide +kernel
theorem dX1_fits_76 : decode cX1_fits 76 = .ok (.invokevirtual 65, 3) := by decide +kernel
theorem dX1_fits_79 : decode cX1_fits 79 = .ok (.ifCond .eq 57, 3) := by decide +kernel
theorem dX1_fits_82 : decode cX1_fits 82 = .ok (.aload_n 1, 1) := by decide +kernel
theorem dX1_fits_83 : decode cX1_fits 83 = .ok (.iconst 5, 1) := by decide +kernel
theorem dX1_fits_84 : decode cX1_fits 84 = .ok (.baload, 1) := by decide +kernel
theorem dX1_fits_85 : decode cX1_fits 85 = .ok (.sipush 255, 3) := by decide +kernel
theorem dX1_fits_88 : decode cX1_fits 88 = .ok (.iand, 1) := by decide +kernel
theorem dX1_fits_89 : decode cX1_fits 89 = .ok (.bipush 16, 2) := by decide +kernel
theorem dX1_fits_91 : decode cX1_fits 91 = .ok (.if_icmp .lt 16, 3) := by decide +kernel
theorem dX1_fits_94 : decode cX1_fits 94 = .ok (.aload_n 1, 1) := by decide +kernel
theorem dX1_fits_95 : decode cX1_fits 95 = .ok (.iconst 5, 1) := by decide +kernel
theorem dX1_fits_96 : decode cX1_fits 96 = .ok (.baload, 1) := by decide +kernel
theorem dX1_fits_97 : decode cX1_fits 97 = .ok (.sipush 255, 3) := by decide +kernel
theorem dX1_fits_100 : decode cX1_fits 100 = .ok (.iand, 1) := by decide +kernel
theorem dX1_fits_101 : decode cX1_fits 101 = .ok (.sipush 255, 3) := by decide +kernel
theorem dX1_fits_104 : decode cX1_fits 104 = .ok (.if_icmp .ne 32, 3) := by decide +kernel
theorem dX1_fits_107 : decode cX1_fits 107 = .ok (.aload_n 1, 1) := by decide +kernel
theorem dX1_fits_108 : decode cX1_fits 108 = .ok (.iconst 2, 1) := by decide +kernel
theorem dX1_fits_109 : decode cX1_fits 109 = .ok (.invokestatic 69, 3) := by decide +kernel
theorem dX1_fits_112 : decode cX1_fits 112 = .ok (.aload_n 1, 1) := by decide +kernel
theorem dX1_fits_113 : decode cX1_fits 113 = .ok (.bipush 6, 2) := by decide +kernel
theorem dX1_fits_115 : decode cX1_fits 115 = .ok (.invokestatic 69, 3) := by decide +kernel
theorem dX1_fits_118 : decode cX1_fits 118 = .ok (.if_icmp .ne 18, 3) := by decide +kernel
theorem dX1_fits_121 : decode cX1_fits 121 = .ok (.aload_n 0, 1) := by decide +kernel
theorem dX1_fits_122 : decode cX1_fits 122 = .ok (.aload_n 1, 1) := by decide +kernel
theorem dX1_fits_123 : decode cX1_fits 123 = .ok (.bipush 6, 2) := by decide +kernel
theorem dX1_fits_125 : decode cX1_fits 125 = .ok (.iload_n 2, 1) := by decide +kernel
theorem dX1_fits_126 : decode cX1_fits 126 = .ok (.invokevirtual 73, 3) := by decide +kernel
theorem dX1_fits_129 : decode cX1_fits 129 = .ok (.ifCond .eq 7, 3) := by decide +kernel
theorem dX1_fits_132 : decode cX1_fits 132 = .ok (.iconst 1, 1) := by decide +kernel
theorem dX1_fits_133 : decode cX1_fits 133 = .ok (.goto 4, 3) := by decide +kernel
theorem dX1_fits_136 : decode cX1_fits 136 = .ok (.iconst 0, 1) := by decide +kernel
theorem dX1_fits_137 : decode cX1_fits 137 = .ok (.ireturn, 1) := by decide +kernel
theorem dX1_fits_138 : decode cX1_fits 138 = .ok (.iload_n 2, 1) := by decide +kernel
theorem dX1_fits_139 : decode cX1_fits 139 = .ok (.bipush 6, 2) := by decide +kernel
theorem dX1_fits_141 : decode cX1_fits 141 = .ok (.if_icmp .ne 9, 3) := by decide +kernel
theorem dX1_fits_144 : decode cX1_fits 144 = .ok (.aload_n 1, 1) := by decide +kernel
theorem dX1_fits_145 : decode cX1_fits 145 = .ok (.iconst 5, 1) := by decide +kernel
theorem dX1_fits_146 : decode cX1_fits 146 = .ok (.baload, 1) := by decide +kernel
theorem dX1_fits_147 : decode cX1_fits 147 = .ok (.ifCond .eq 16, 3) := by decide +kernel
theorem dX1_fits_150 : decode cX1_fits 150 = .ok (.iload_n 2, 1) := by decide +kernel
theorem dX1_fits_151 : decode cX1_fits 151 = .ok (.bipush 38, 2) := by decide +kernel
theorem dX1_fits_153 : decode cX1_fits 153 = .ok (.if_icmp .ne 22, 3) := by decide +kernel
theorem dX1_fits_156 : decode cX1_fits 156 = .ok (.aload_n 1, 1) := by decide +kernel
theorem dX1_fits_157 : decode cX1_fits 157 = .ok (.iconst 5, 1) := by decide +kernel
theorem dX1_fits_158 : decode cX1_fits 158 = .ok (.baload, 1) := by decide +kernel
theorem dX1_fits_159 : decode cX1_fits 159 = .ok (.iconst 1, 1) := by decide +kernel
theorem dX1_fits_160 : decode cX1_fits 160 = .ok (.if_icmp .ne 15, 3) := by decide +kernel
theorem dX1_fits_163 : decode cX1_fits 163 = .ok (.aload_n 0, 1) := by decide +kernel
theorem dX1_fits_164 : decode cX1_fits 164 = .ok (.aload_n 1, 1) := by decide +kernel
theorem dX1_fits_165 : decode cX1_fits 165 = .ok (.invokevirtual 65, 3) := by decide +kernel
theorem dX1_fits_168 : decode cX1_fits 168 = .ok (.ifCond .eq 7, 3) := by decide +kernel
theorem dX1_fits_171 : decode cX1_fits 171 = .ok (.iconst 1, 1) := by decide +kernel
theorem dX1_fits_172 : decode cX1_fits 172 = .ok (.goto 4, 3) := by decide +kernel
theorem dX1_fits_175 : decode cX1_fits 175 = .ok (.iconst 0, 1) := by decide +kernel
theorem dX1_fits_176 : decode cX1_fits 176 = .ok (.ireturn, 1) := by decide +kernel
theorem dX1_fits_177 : decode cX1_fits 177 = .ok (.aload_n 0, 1) := by decide +kernel
theorem dX1_fits_178 : decode cX1_fits 178 = .ok (.aload_n 1, 1) := by decide +kernel
theorem dX1_fits_179 : decode cX1_fits 179 = .ok (.iconst 1, 1) := by decide +kernel
theorem dX1_fits_180 : decode cX1_fits 180 = .ok (.iload_n 2, 1) := by decide +kernel
theorem dX1_fits_181 : decode cX1_fits 181 = .ok (.invokevirtual 73, 3) := by decide +kernel
theorem dX1_fits_184 : decode cX1_fits 184 = .ok (.ireturn, 1) := by decide +kernel
theorem dX1_fits_185 : decode cX1_fits 185 = .ok (.iload_n 2, 1) := by decide +kernel
theorem dX1_fits_186 : decode cX1_fits 186 = .ok (.iconst 3, 1) := by decide +kernel
theorem dX1_fits_187 : decode cX1_fits 187 = .ok (.if_icmp .ne 15, 3) := by decide +kernel
theorem dX1_fits_190 : decode cX1_fits 190 = .ok (.aload_n 1, 1) := by decide +kernel
theorem dX1_fits_191 : decode cX1_fits 191 = .ok (.iconst 1, 1) := by decide +kernel
theorem dX1_fits_192 : decode cX1_fits 192 = .ok (.invokestatic 77, 3) := by decide +kernel
theorem dX1_fits_195 : decode cX1_fits 195 = .ok (.ifCond .eq 7, 3) := by decide +kernel
theorem dX1_fits_198 : decode cX1_fits 198 = .ok (.iconst 1, 1) := by decide +kernel
theorem dX1_fits_199 : decode cX1_fits 199 = .ok (.goto 4, 3) := by decide +kernel
theorem dX1_fits_202 : decode cX1_fits 202 = .ok (.iconst 0, 1) := by decide +kernel
theorem dX1_fits_203 : decode cX1_fits 203 = .ok (.ireturn, 1) := by decide +kernel
theorem dX1_fits_204 : decode cX1_fits 204 = .ok (.aload_n 0, 1) := by decide +kernel
theorem dX1_fits_205 : decode cX1_fits 205 = .ok (.aload_n 1, 1) := by decide +kernel
theorem dX1_fits_206 : decode cX1_fits 206 = .ok (.iconst 1, 1) := by decide +kernel
theorem dX1_fits_207 : decode cX1_fits 207 = .ok (.iload_n 2, 1) := by decide +kernel
theorem dX1_fits_208 : decode cX1_fits 208 = .ok (.invokevirtual 80, 3) := by decide +kernel
theorem dX1_fits_211 : decode cX1_fits 211 = .ok (.iload_n 2, 1) := by decide +kernel
theorem dX1_fits_212 : decode cX1_fits 212 = .ok (.if_icmp .ne 7, 3) := by decide +kernel
theorem dX1_fits_215 : decode cX1_fits 215 = .ok (.iconst 1, 1) := by decide +kernel
theorem dX1_fits_216 : decode cX1_fits 216 = .ok (.goto 4, 3) := by decide +kernel
theorem dX1_fits_219 : decode cX1_fits 219 = .ok (.iconst 0, 1) := by decide +kernel
theorem dX1_fits_220 : decode cX1_fits 220 = .ok (.ireturn, 1) := by decide +kernel
theorem dX1_fits_221 : decode cX1_fits 221 = .ok (.iload_n 2, 1) := by decide +kernel
theorem dX1_fits_222 : decode cX1_fits 222 = .ok (.bipush 115, 2) := by decide +kernel
theorem dX1_fits_224 : decode cX1_fits 224 = .ok (.if_icmp .ne 14, 3) := by decide +kernel
theorem dX1_fits_227 : decode cX1_fits 227 = .ok (.aload_n 1, 1) := by decide +kernel
theorem dX1_fits_228 : decode cX1_fits 228 = .ok (.invokestatic 84, 3) := by decide +kernel
theorem dX1_fits_231 : decode cX1_fits 231 = .ok (.ifCond .eq 7, 3) := by decide +kernel
theorem dX1_fits_234 : decode cX1_fits 234 = .ok (.iconst 1, 1) := by decide +kernel
theorem dX1_fits_235 : decode cX1_fits 235 = .ok (.goto 4, 3) := by decide +kernel
theorem dX1_fits_238 : decode cX1_fits 238 = .ok (.iconst 0, 1) := by decide +kernel
theorem dX1_fits_239 : decode cX1_fits 239 = .ok (.ireturn, 1) := by decide +kernel
theorem dX1_fits_240 : decode cX1_fits 240 = .ok (.iconst 0, 1) := by decide +kernel
theorem dX1_fits_241 : decode cX1_fits 241 = .ok (.ireturn, 1) := by decide +kernel
theorem dX1_signFits_0 : decode cX1_signFits 0 = .ok (.aload_n 1, 1) := by decide +kernel
theorem dX1_signFits_1 : decode cX1_signFits 1 = .ok (.iconst 1, 1) := by decide +kernel
theorem dX1_signFits_2 : decode cX1_signFits 2 = .ok (.baload, 1) := by decide +kernel
theorem dX1_signFits_3 : decode cX1_signFits 3 = .ok (.sipush 255, 3) := by decide +kernel
theorem dX1_signFits_6 : decode cX1_signFits 6 = .ok (.iand, 1) := by decide +kernel
theorem dX1_signFits_7 : decode cX1_signFits 7 = .ok (.aload_n 0, 1) := by decide +kernel
theorem dX1_signFits_8 : decode cX1_signFits 8 = .ok (.getfield 19, 3) := by decide +kernel
theorem dX1_signFits_11 : decode cX1_signFits 11 = .ok (.if_icmp .ge 27, 3) := by decide +kernel
theorem dX1_signFits_14 : decode cX1_signFits 14 = .ok (.aload_n 1, 1) := by decide +kernel
theorem dX1_signFits_15 : decode cX1_signFits 15 = .ok (.iconst 2, 1) := by decide +kernel
theorem dX1_signFits_16 : decode cX1_signFits 16 = .ok (.invokestatic 77, 3) := by decide +kernel
theorem dX1_signFits_19 : decode cX1_signFits 19 = .ok (.ifCond .eq 19, 3) := by decide +kernel
theorem dX1_signFits_22 : decode cX1_signFits 22 = .ok (.aload_n 1, 1) := by decide +kernel
theorem dX1_signFits_23 : decode cX1_signFits 23 = .ok (.iconst 4, 1) := by decide +kernel
theorem dX1_signFits_24 : decode cX1_signFits 24 = .ok (.baload, 1) := by decide +kernel
theorem dX1_signFits_25 : decode cX1_signFits 25 = .ok (.sipush 255, 3) := by decide +kernel
theorem dX1_signFits_28 : decode cX1_signFits 28 = .ok (.iand, 1) := by decide +kernel
theorem dX1_signFits_29 : decode cX1_signFits 29 = .ok (.bipush 16, 2) := by decide +kernel
theorem dX1_signFits_31 : decode cX1_signFits 31 = .ok (.if_icmp .ge 7, 3) := by decide +kernel
theorem dX1_signFits_34 : decode cX1_signFits 34 = .ok (.iconst 1, 1) := by decide +kernel
theorem dX1_signFits_35 : decode cX1_signFits 35 = .ok (.goto 4, 3) := by decide +kernel
theorem dX1_signFits_38 : decode cX1_signFits 38 = .ok (.iconst 0, 1) := by decide +kernel
theorem dX1_signFits_39 : decode cX1_signFits 39 = .ok (.ireturn, 1) := by decide +kernel
theorem dX1_heightFits_0 : decode cX1_heightFits 0 = .ok (.aload_n 0, 1) := by decide +kernel
theorem dX1_heightFits_1 : decode cX1_heightFits 1 = .ok (.iload_n 1, 1) := by decide +kernel
theorem dX1_heightFits_2 : decode cX1_heightFits 2 = .ok (.invokestatic 69, 3) := by decide +kernel
theorem dX1_heightFits_5 : decode cX1_heightFits 5 = .ok (.istore_n 2, 1) := by decide +kernel
theorem dX1_heightFits_6 : decode cX1_heightFits 6 = .ok (.iload_n 2, 1) := by decide +kernel
theorem dX1_heightFits_7 : decode cX1_heightFits 7 = .ok (.iconst 1, 1) := by decide +kernel
theorem dX1_heightFits_8 : decode cX1_heightFits 8 = .ok (.if_icmp .lt 13, 3) := by decide +kernel
theorem dX1_heightFits_11 : decode cX1_heightFits 11 = .ok (.iload_n 2, 1) := by decide +kernel
theorem dX1_heightFits_12 : decode cX1_heightFits 12 = .ok (.bipush 41, 2) := by decide +kernel
theorem dX1_heightFits_14 : decode cX1_heightFits 14 = .ok (.if_icmp .gt 7, 3) := by decide +kernel
theorem dX1_heightFits_17 : decode cX1_heightFits 17 = .ok (.iconst 1, 1) := by decide +kernel
theorem dX1_heightFits_18 : decode cX1_heightFits 18 = .ok (.goto 4, 3) := by decide +kernel
theorem dX1_heightFits_21 : decode cX1_heightFits 21 = .ok (.iconst 0, 1) := by decide +kernel
theorem dX1_heightFits_22 : decode cX1_heightFits 22 = .ok (.ireturn, 1) := by decide +kernel
theorem dX1_paymentFits_0 : decode cX1_paymentFits 0 = .ok (.iload_n 1, 1) := by decide +kernel
theorem dX1_paymentFits_1 : decode cX1_paymentFits 1 = .ok (.ifCond .lt 12, 3) := by decide +kernel
theorem dX1_paymentFits_4 : decode cX1_paymentFits 4 = .ok (.iload_n 1, 1) := by decide +kernel
theorem dX1_paymentFits_5 : decode cX1_paymentFits 5 = .ok (.aload_n 0, 1) := by decide +kernel
theorem dX1_paymentFits_6 : decode cX1_paymentFits 6 = .ok (.arraylength, 1) := by decide +kernel
theorem dX1_paymentFits_7 : decode cX1_paymentFits 7 = .ok (.bipush 7, 2) := by decide +kernel
theorem dX1_paymentFits_9 : decode cX1_paymentFits 9 = .ok (.isub, 1) := by decide +kernel
theorem dX1_paymentFits_10 : decode cX1_paymentFits 10 = .ok (.if_icmp .le 5, 3) := by decide +kernel
theorem dX1_paymentFits_13 : decode cX1_paymentFits 13 = .ok (.iconst 0, 1) := by decide +kernel
theorem dX1_paymentFits_14 : decode cX1_paymentFits 14 = .ok (.ireturn, 1) := by decide +kernel
theorem dX1_paymentFits_15 : decode cX1_paymentFits 15 = .ok (.aload_n 0, 1) := by decide +kernel
theorem dX1_paymentFits_16 : decode cX1_paymentFits 16 = .ok (.iload_n 1, 1) := by decide +kernel
theorem dX1_paymentFits_17 : decode cX1_paymentFits 17 = .ok (.baload, 1) := by decide +kernel
theorem dX1_paymentFits_18 : decode cX1_paymentFits 18 = .ok (.sipush 255, 3) := by decide +kernel
theorem dX1_paymentFits_21 : decode cX1_paymentFits 21 = .ok (.iand, 1) := by decide +kernel
theorem dX1_paymentFits_22 : decode cX1_paymentFits 22 = .ok (.istore_n 2, 1) := by decide +kernel
theorem dX1_paymentFits_23 : decode cX1_paymentFits 23 = .ok (.aload_n 0, 1) := by decide +kernel
theorem dX1_paymentFits_24 : decode cX1_paymentFits 24 = .ok (.iload_n 1, 1) := by decide +kernel
theorem dX1_paymentFits_25 : decode cX1_paymentFits 25 = .ok (.iconst 1, 1) := by decide +kernel
theorem dX1_paymentFits_26 : decode cX1_paymentFits 26 = .ok (.iadd, 1) := by decide +kernel
theorem dX1_paymentFits_27 : decode cX1_paymentFits 27 = .ok (.baload, 1) := by decide +kernel
theorem dX1_paymentFits_28 : decode cX1_paymentFits 28 = .ok (.sipush 255, 3) := by decide +kernel
theorem dX1_paymentFits_31 : decode cX1_paymentFits 31 = .ok (.iand, 1) := by decide +kernel
theorem dX1_paymentFits_32 : decode cX1_paymentFits 32 = .ok (.istore_n 3, 1) := by decide +kernel
theorem dX1_paymentFits_33 : decode cX1_paymentFits 33 = .ok (.aload_n 0, 1) := by decide +kernel
theorem dX1_paymentFits_34 : decode cX1_paymentFits 34 = .ok (.iload_n 1, 1) := by decide +kernel
theorem dX1_paymentFits_35 : decode cX1_paymentFits 35 = .ok (.iconst 2, 1) := by decide +kernel
theorem dX1_paymentFits_36 : decode cX1_paymentFits 36 = .ok (.iadd, 1) := by decide +kernel
theorem dX1_paymentFits_37 : decode cX1_paymentFits 37 = .ok (.invokestatic 69, 3) := by decide +kernel
theorem dX1_paymentFits_40 : decode cX1_paymentFits 40 = .ok (.istore 4, 2) := by decide +kernel
theorem dX1_paymentFits_42 : decode cX1_paymentFits 42 = .ok (.iload_n 2, 1) := by decide +kernel
theorem dX1_paymentFits_43 : decode cX1_paymentFits 43 = .ok (.bipush 16, 2) := by decide +kernel
theorem dX1_paymentFits_45 : decode cX1_paymentFits 45 = .ok (.if_icmp .ge 53, 3) := by decide +kernel
theorem dX1_paymentFits_48 : decode cX1_paymentFits 48 = .ok (.iload_n 3, 1) := by decide +kernel
theorem dX1_paymentFits_49 : decode cX1_paymentFits 49 = .ok (.bipush 16, 2) := by decide +kernel
theorem dX1_paymentFits_51 : decode cX1_paymentFits 51 = .ok (.if_icmp .ge 47, 3) := by decide +kernel
theorem dX1_paymentFits_54 : decode cX1_paymentFits 54 = .ok (.iload_n 2, 1) := by decide +kernel
theorem dX1_paymentFits_55 : decode cX1_paymentFits 55 = .ok (.iload_n 3, 1) := by decide +kernel
theorem dX1_paymentFits_56 : decode cX1_paymentFits 56 = .ok (.if_icmp .eq 42, 3) := by decide +kernel
theorem dX1_paymentFits_59 : decode cX1_paymentFits 59 = .ok (.iload 4, 2) := by decide +kernel
theorem dX1_paymentFits_61 : decode cX1_paymentFits 61 = .ok (.iconst 1, 1) := by decide +kernel
theorem dX1_paymentFits_62 : decode cX1_paymentFits 62 = .ok (.if_icmp .lt 36, 3) := by decide +kernel
theorem dX1_paymentFits_65 : decode cX1_paymentFits 65 = .ok (.iload 4, 2) := by decide +kernel
theorem dX1_paymentFits_67 : decode cX1_paymentFits 67 = .ok (.sipush 1000, 3) := by decide +kernel
theorem dX1_paymentFits_70 : decode cX1_paymentFits 70 = .ok (.if_icmp .gt 28, 3) := by decide +kernel
theorem dX1_paymentFits_73 : decode cX1_paymentFits 73 = .ok (.aload_n 0, 1) := by decide +kernel
theorem dX1_paymentFits_74 : decode cX1_paymentFits 74 = .ok (.iload_n 1, 1) := by decide +kernel
theorem dX1_paymentFits_75 : decode cX1_paymentFits 75 = .ok (.bipush 6, 2) := by decide +kernel
theorem dX1_paymentFits_77 : decode cX1_paymentFits 77 = .ok (.iadd, 1) := by decide +kernel
theorem dX1_paymentFits_78 : decode cX1_paymentFits 78 = .ok (.baload, 1) := by decide +kernel
theorem dX1_paymentFits_79 : decode cX1_paymentFits 79 = .ok (.iconst 1, 1) := by decide +kernel
theorem dX1_paymentFits_80 : decode cX1_paymentFits 80 = .ok (.if_icmp .lt 18, 3) := by decide +kernel
theorem dX1_paymentFits_83 : decode cX1_paymentFits 83 = .ok (.aload_n 0, 1) := by decide +kernel
theorem dX1_paymentFits_84 : decode cX1_paymentFits 84 = .ok (.iload_n 1, 1) := by decide +kernel
theorem dX1_paymentFits_85 : decode cX1_paymentFits 85 = .ok (.bipush 6, 2) := by decide +kernel
theorem dX1_paymentFits_87 : decode cX1_paymentFits 87 = .ok (.iadd, 1) := by decide +kernel
theorem dX1_paymentFits_88 : decode cX1_paymentFits 88 = .ok (.baload, 1) := by decide +kernel
theorem dX1_paymentFits_89 : decode cX1_paymentFits 89 = .ok (.bipush 9, 2) := by decide +kernel
theorem dX1_paymentFits_91 : decode cX1_paymentFits 91 = .ok (.if_icmp .gt 7, 3) := by decide +kernel
theorem dX1_paymentFits_94 : decode cX1_paymentFits 94 = .ok (.iconst 1, 1) := by decide +kernel
theorem dX1_paymentFits_95 : decode cX1_paymentFits 95 = .ok (.goto 4, 3) := by decide +kernel
theorem dX1_paymentFits_98 : decode cX1_paymentFits 98 = .ok (.iconst 0, 1) := by decide +kernel
theorem dX1_paymentFits_99 : decode cX1_paymentFits 99 = .ok (.ireturn, 1) := by decide +kernel
theorem dX1_evidenceSize_0 : decode cX1_evidenceSize 0 = .ok (.iload_n 1, 1) := by decide +kernel
theorem dX1_evidenceSize_1 : decode cX1_evidenceSize 1 = .ok (.ifCond .lt 17, 3) := by decide +kernel
theorem dX1_evidenceSize_4 : decode cX1_evidenceSize 4 = .ok (.iload_n 2, 1) := by decide +kernel
theorem dX1_evidenceSize_5 : decode cX1_evidenceSize 5 = .ok (.aload_n 0, 1) := by decide +kernel
theorem dX1_evidenceSize_6 : decode cX1_evidenceSize 6 = .ok (.arraylength, 1) := by decide +kernel
theorem dX1_evidenceSize_7 : decode cX1_evidenceSize 7 = .ok (.if_icmp .gt 11, 3) := by decide +kernel
theorem dX1_evidenceSize_10 : decode cX1_evidenceSize 10 = .ok (.iload_n 2, 1) := by decide +kernel
theorem dX1_evidenceSize_11 : decode cX1_evidenceSize 11 = .ok (.iload_n 1, 1) := by decide +kernel
theorem dX1_evidenceSize_12 : decode cX1_evidenceSize 12 = .ok (.isub, 1) := by decide +kernel
theorem dX1_evidenceSize_13 : decode cX1_evidenceSize 13 = .ok (.bipush 39, 2) := by decide +kernel
theorem dX1_evidenceSize_15 : decode cX1_evidenceSize 15 = .ok (.if_icmp .ge 5, 3) := by decide +kernel
theorem dX1_evidenceSize_18 : decode cX1_evidenceSize 18 = .ok (.iconst (-1), 1) := by decide +kernel
theorem dX1_evidenceSize_19 : decode cX1_evidenceSize 19 = .ok (.ireturn, 1) := by decide +kernel
theorem dX1_evidenceSize_20 : decode cX1_evidenceSize 20 = .ok (.aload_n 0, 1) := by decide +kernel
theorem dX1_evidenceSize_21 : decode cX1_evidenceSize 21 = .ok (.iload_n 1, 1) := by decide +kernel
theorem dX1_evidenceSize_22 : decode cX1_evidenceSize 22 = .ok (.iconst 5, 1) := by decide +kernel
theorem dX1_evidenceSize_23 : decode cX1_evidenceSize 23 = .ok (.iadd, 1) := by decide +kernel
theorem dX1_evidenceSize_24 : decode cX1_evidenceSize 24 = .ok (.baload, 1) := by decide +kernel
theorem dX1_evidenceSize_25 : decode cX1_evidenceSize 25 = .ok (.ifCond .ne 20, 3) := by decide +kernel
theorem dX1_evidenceSize_28 : decode cX1_evidenceSize 28 = .ok (.aload_n 0, 1) := by decide +kernel
theorem dX1_evidenceSize_29 : decode cX1_evidenceSize 29 = .ok (.iload_n 1, 1) := by decide +kernel
theorem dX1_evidenceSize_30 : decode cX1_evidenceSize 30 = .ok (.bipush 6, 2) := by decide +kernel
theorem dX1_evidenceSize_32 : decode cX1_evidenceSize 32 = .ok (.iadd, 1) := by decide +kernel
theorem dX1_evidenceSize_33 : decode cX1_evidenceSize 33 = .ok (.baload, 1) := by decide +kernel
theorem dX1_evidenceSize_34 : decode cX1_evidenceSize 34 = .ok (.iconst 1, 1) := by decide +kernel
theorem dX1_evidenceSize_35 : decode cX1_evidenceSize 35 = .ok (.if_icmp .ne 8, 3) := by decide +kernel
theorem dX1_evidenceSize_38 : decode cX1_evidenceSize 38 = .ok (.bipush 39, 2) := by decide +kernel
theorem dX1_evidenceSize_40 : decode cX1_evidenceSize 40 = .ok (.goto 4, 3) := by decide +kernel
theorem dX1_evidenceSize_43 : decode cX1_evidenceSize 43 = .ok (.iconst (-1), 1) := by decide +kernel
theorem dX1_evidenceSize_44 : decode cX1_evidenceSize 44 = .ok (.ireturn, 1) := by decide +kernel
theorem dX1_evidenceSize_45 : decode cX1_evidenceSize 45 = .ok (.aload_n 0, 1) := by decide +kernel
theorem dX1_evidenceSize_46 : decode cX1_evidenceSize 46 = .ok (.iload_n 1, 1) := by decide +kernel
theorem dX1_evidenceSize_47 : decode cX1_evidenceSize 47 = .ok (.iconst 5, 1) := by decide +kernel
theorem dX1_evidenceSize_48 : decode cX1_evidenceSize 48 = .ok (.iadd, 1) := by decide +kernel
theorem dX1_evidenceSize_49 : decode cX1_evidenceSize 49 = .ok (.baload, 1) := by decide +kernel
theorem dX1_evidenceSize_50 : decode cX1_evidenceSize 50 = .ok (.iconst 1, 1) := by decide +kernel
theorem dX1_evidenceSize_51 : decode cX1_evidenceSize 51 = .ok (.if_icmp .ne 28, 3) := by decide +kernel
theorem dX1_evidenceSize_54 : decode cX1_evidenceSize 54 = .ok (.iload_n 2, 1) := by decide +kernel
theorem dX1_evidenceSize_55 : decode cX1_evidenceSize 55 = .ok (.iload_n 1, 1) := by decide +kernel
theorem dX1_evidenceSize_56 : decode cX1_evidenceSize 56 = .ok (.isub, 1) := by decide +kernel
theorem dX1_evidenceSize_57 : decode cX1_evidenceSize 57 = .ok (.bipush 71, 2) := by decide +kernel
theorem dX1_evidenceSize_59 : decode cX1_evidenceSize 59 = .ok (.if_icmp .lt 20, 3) := by decide +kernel
theorem dX1_evidenceSize_62 : decode cX1_evidenceSize 62 = .ok (.aload_n 0, 1) := by decide +kernel
theorem dX1_evidenceSize_63 : decode cX1_evidenceSize 63 = .ok (.iload_n 1, 1) := by decide +kernel
theorem dX1_evidenceSize_64 : decode cX1_evidenceSize 64 = .ok (.bipush 6, 2) := by decide +kernel
theorem dX1_evidenceSize_66 : decode cX1_evidenceSize 66 = .ok (.iadd, 1) := by decide +kernel
theorem dX1_evidenceSize_67 : decode cX1_evidenceSize 67 = .ok (.bipush 32, 2) := by decide +kernel
theorem dX1_evidenceSize_69 : decode cX1_evidenceSize 69 = .ok (.iadd, 1) := by decide +kernel
theorem dX1_evidenceSize_70 : decode cX1_evidenceSize 70 = .ok (.baload, 1) := by decide +kernel
theorem dX1_evidenceSize_71 : decode cX1_evidenceSize 71 = .ok (.iconst 1, 1) := by decide +kernel
theorem dX1_evidenceSize_72 : decode cX1_evidenceSize 72 = .ok (.if_icmp .ne 7, 3) := by decide +kernel
theorem dX1_evidenceSize_75 : decode cX1_evidenceSize 75 = .ok (.iconst 1, 1) := by decide +kernel
theorem dX1_evidenceSize_76 : decode cX1_evidenceSize 76 = .ok (.goto 4, 3) := by decide +kernel
theorem dX1_evidenceSize_79 : decode cX1_evidenceSize 79 = .ok (.iconst 0, 1) := by decide +kernel
theorem dX1_evidenceSize_80 : decode cX1_evidenceSize 80 = .ok (.istore_n 3, 1) := by decide +kernel
theorem dX1_evidenceSize_81 : decode cX1_evidenceSize 81 = .ok (.iload_n 3, 1) := by decide +kernel
theorem dX1_evidenceSize_82 : decode cX1_evidenceSize 82 = .ok (.ifCond .eq 8, 3) := by decide +kernel
theorem dX1_evidenceSize_85 : decode cX1_evidenceSize 85 = .ok (.bipush 71, 2) := by decide +kernel
theorem dX1_evidenceSize_87 : decode cX1_evidenceSize 87 = .ok (.goto 4, 3) := by decide +kernel
theorem dX1_evidenceSize_90 : decode cX1_evidenceSize 90 = .ok (.iconst (-1), 1) := by decide +kernel
theorem dX1_evidenceSize_91 : decode cX1_evidenceSize 91 = .ok (.ireturn, 1) := by decide +kernel
theorem dX1_evidenceFits_0 : decode cX1_evidenceFits 0 = .ok (.aload_n 1, 1) := by decide +kernel
theorem dX1_evidenceFits_1 : decode cX1_evidenceFits 1 = .ok (.iload_n 2, 1) := by decide +kernel
theorem dX1_evidenceFits_2 : decode cX1_evidenceFits 2 = .ok (.iload_n 3, 1) := by decide +kernel
theorem dX1_evidenceFits_3 : decode cX1_evidenceFits 3 = .ok (.invokestatic 87, 3) := by decide +kernel
theorem dX1_evidenceFits_6 : decode cX1_evidenceFits 6 = .ok (.istore 4, 2) := by decide +kernel
theorem dX1_evidenceFits_8 : decode cX1_evidenceFits 8 = .ok (.iload 4, 2) := by decide +kernel
theorem dX1_evidenceFits_10 : decode cX1_evidenceFits 10 = .ok (.ifCond .lt 35, 3) := by decide +kernel
theorem dX1_evidenceFits_13 : decode cX1_evidenceFits 13 = .ok (.aload_n 1, 1) := by decide +kernel
theorem dX1_evidenceFits_14 : decode cX1_evidenceFits 14 = .ok (.iload_n 2, 1) := by decide +kernel
theorem dX1_evidenceFits_15 : decode cX1_evidenceFits 15 = .ok (.baload, 1) := by decide +kernel
theorem dX1_evidenceFits_16 : decode cX1_evidenceFits 16 = .ok (.sipush 255, 3) := by decide +kernel
theorem dX1_evidenceFits_19 : decode cX1_evidenceFits 19 = .ok (.iand, 1) := by decide +kernel
theorem dX1_evidenceFits_20 : decode cX1_evidenceFits 20 = .ok (.aload_n 0, 1) := by decide +kernel
theorem dX1_evidenceFits_21 : decode cX1_evidenceFits 21 = .ok (.getfield 19, 3) := by decide +kernel
theorem dX1_evidenceFits_24 : decode cX1_evidenceFits 24 = .ok (.if_icmp .ge 21, 3) := by decide +kernel
theorem dX1_evidenceFits_27 : decode cX1_evidenceFits 27 = .ok (.aload_n 1, 1) := by decide +kernel
theorem dX1_evidenceFits_28 : decode cX1_evidenceFits 28 = .ok (.iload_n 2, 1) := by decide +kernel
theorem dX1_evidenceFits_29 : decode cX1_evidenceFits 29 = .ok (.iconst 1, 1) := by decide +kernel
theorem dX1_evidenceFits_30 : decode cX1_evidenceFits 30 = .ok (.iadd, 1) := by decide +kernel
theorem dX1_evidenceFits_31 : decode cX1_evidenceFits 31 = .ok (.baload, 1) := by decide +kernel
theorem dX1_evidenceFits_32 : decode cX1_evidenceFits 32 = .ok (.iconst 1, 1) := by decide +kernel
theorem dX1_evidenceFits_33 : decode cX1_evidenceFits 33 = .ok (.if_icmp .lt 12, 3) := by decide +kernel
theorem dX1_evidenceFits_36 : decode cX1_evidenceFits 36 = .ok (.aload_n 1, 1) := by decide +kernel
theorem dX1_evidenceFits_37 : decode cX1_evidenceFits 37 = .ok (.iload_n 2, 1) := by decide +kernel
theorem dX1_evidenceFits_38 : decode cX1_evidenceFits 38 = .ok (.iconst 1, 1) := by decide +kernel
theorem dX1_evidenceFits_39 : decode cX1_evidenceFits 39 = .ok (.iadd, 1) := by decide +kernel
theorem dX1_evidenceFits_40 : decode cX1_evidenceFits 40 = .ok (.baload, 1) := by decide +kernel
theorem dX1_evidenceFits_41 : decode cX1_evidenceFits 41 = .ok (.iconst 3, 1) := by decide +kernel
theorem dX1_evidenceFits_42 : decode cX1_evidenceFits 42 = .ok (.if_icmp .le 5, 3) := by decide +kernel
theorem dX1_evidenceFits_45 : decode cX1_evidenceFits 45 = .ok (.iconst (-1), 1) := by decide +kernel
theorem dX1_evidenceFits_46 : decode cX1_evidenceFits 46 = .ok (.ireturn, 1) := by decide +kernel
theorem dX1_evidenceFits_47 : decode cX1_evidenceFits 47 = .ok (.aload_n 1, 1) := by decide +kernel
theorem dX1_evidenceFits_48 : decode cX1_evidenceFits 48 = .ok (.iload_n 2, 1) := by decide +kernel
theorem dX1_evidenceFits_49 : decode cX1_evidenceFits 49 = .ok (.iconst 2, 1) := by decide +kernel
theorem dX1_evidenceFits_50 : decode cX1_evidenceFits 50 = .ok (.iadd, 1) := by decide +kernel
theorem dX1_evidenceFits_51 : decode cX1_evidenceFits 51 = .ok (.invokestatic 77, 3) := by decide +kernel
theorem dX1_evidenceFits_54 : decode cX1_evidenceFits 54 = .ok (.ifCond .eq 17, 3) := by decide +kernel
theorem dX1_evidenceFits_57 : decode cX1_evidenceFits 57 = .ok (.aload_n 1, 1) := by decide +kernel
theorem dX1_evidenceFits_58 : decode cX1_evidenceFits 58 = .ok (.iload_n 2, 1) := by decide +kernel
theorem dX1_evidenceFits_59 : decode cX1_evidenceFits 59 = .ok (.iconst 4, 1) := by decide +kernel
theorem dX1_evidenceFits_60 : decode cX1_evidenceFits 60 = .ok (.iadd, 1) := by decide +kernel
theorem dX1_evidenceFits_61 : decode cX1_evidenceFits 61 = .ok (.baload, 1) := by decide +kernel
theorem dX1_evidenceFits_62 : decode cX1_evidenceFits 62 = .ok (.sipush 255, 3) := by decide +kernel
theorem dX1_evidenceFits_65 : decode cX1_evidenceFits 65 = .ok (.iand, 1) := by decide +kernel
theorem dX1_evidenceFits_66 : decode cX1_evidenceFits 66 = .ok (.bipush 16, 2) := by decide +kernel
theorem dX1_evidenceFits_68 : decode cX1_evidenceFits 68 = .ok (.if_icmp .lt 5, 3) := by decide +kernel
theorem dX1_evidenceFits_71 : decode cX1_evidenceFits 71 = .ok (.iconst (-1), 1) := by decide +kernel
theorem dX1_evidenceFits_72 : decode cX1_evidenceFits 72 = .ok (.ireturn, 1) := by decide +kernel
theorem dX1_evidenceFits_73 : decode cX1_evidenceFits 73 = .ok (.iload 4, 2) := by decide +kernel
theorem dX1_evidenceFits_75 : decode cX1_evidenceFits 75 = .ok (.bipush 39, 2) := by decide +kernel
theorem dX1_evidenceFits_77 : decode cX1_evidenceFits 77 = .ok (.if_icmp .ne 20, 3) := by decide +kernel
theorem dX1_evidenceFits_80 : decode cX1_evidenceFits 80 = .ok (.aload_n 1, 1) := by decide +kernel
theorem dX1_evidenceFits_81 : decode cX1_evidenceFits 81 = .ok (.iload_n 2, 1) := by decide +kernel
theorem dX1_evidenceFits_82 : decode cX1_evidenceFits 82 = .ok (.iconst 1, 1) := by decide +kernel
theorem dX1_evidenceFits_83 : decode cX1_evidenceFits 83 = .ok (.iadd, 1) := by decide +kernel
theorem dX1_evidenceFits_84 : decode cX1_evidenceFits 84 = .ok (.baload, 1) := by decide +kernel
theorem dX1_evidenceFits_85 : decode cX1_evidenceFits 85 = .ok (.iconst 1, 1) := by decide +kernel
theorem dX1_evidenceFits_86 : decode cX1_evidenceFits 86 = .ok (.if_icmp .eq 7, 3) := by decide +kernel
theorem dX1_evidenceFits_89 : decode cX1_evidenceFits 89 = .ok (.iconst 1, 1) := by decide +kernel
theorem dX1_evidenceFits_90 : decode cX1_evidenceFits 90 = .ok (.goto 22, 3) := by decide +kernel
theorem dX1_evidenceFits_93 : decode cX1_evidenceFits 93 = .ok (.iconst 0, 1) := by decide +kernel
theorem dX1_evidenceFits_94 : decode cX1_evidenceFits 94 = .ok (.goto 18, 3) := by decide +kernel
theorem dX1_evidenceFits_97 : decode cX1_evidenceFits 97 = .ok (.aload_n 1, 1) := by decide +kernel
theorem dX1_evidenceFits_98 : decode cX1_evidenceFits 98 = .ok (.iload_n 2, 1) := by decide +kernel
theorem dX1_evidenceFits_99 : decode cX1_evidenceFits 99 = .ok (.bipush 6, 2) := by decide +kernel
theorem dX1_evidenceFits_101 : decode cX1_evidenceFits 101 = .ok (.iadd, 1) := by decide +kernel
theorem dX1_evidenceFits_102 : decode cX1_evidenceFits 102 = .ok (.iload_n 2, 1) := by decide +kernel
theorem dX1_evidenceFits_103 : decode cX1_evidenceFits 103 = .ok (.bipush 7, 2) := by decide +kernel
theorem dX1_evidenceFits_105 : decode cX1_evidenceFits 105 = .ok (.iadd, 1) := by decide +kernel
theorem dX1_evidenceFits_106 : decode cX1_evidenceFits 106 = .ok (.bipush 32, 2) := by decide +kernel
theorem dX1_evidenceFits_108 : decode cX1_evidenceFits 108 = .ok (.iadd, 1) := by decide +kernel
theorem dX1_evidenceFits_109 : decode cX1_evidenceFits 109 = .ok (.invokestatic 90, 3) := by decide +kernel
theorem dX1_evidenceFits_112 : decode cX1_evidenceFits 112 = .ok (.istore 5, 2) := by decide +kernel
theorem dX1_evidenceFits_114 : decode cX1_evidenceFits 114 = .ok (.iload 5, 2) := by decide +kernel
theorem dX1_evidenceFits_116 : decode cX1_evidenceFits 116 = .ok (.ifCond .eq 10, 3) := by decide +kernel
theorem dX1_evidenceFits_119 : decode cX1_evidenceFits 119 = .ok (.iload_n 2, 1) := by decide +kernel
theorem dX1_evidenceFits_120 : decode cX1_evidenceFits 120 = .ok (.iload 4, 2) := by decide +kernel
theorem dX1_evidenceFits_122 : decode cX1_evidenceFits 122 = .ok (.iadd, 1) := by decide +kernel
theorem dX1_evidenceFits_123 : decode cX1_evidenceFits 123 = .ok (.goto 4, 3) := by decide +kernel
theorem dX1_evidenceFits_126 : decode cX1_evidenceFits 126 = .ok (.iconst (-1), 1) := by decide +kernel
theorem dX1_evidenceFits_127 : decode cX1_evidenceFits 127 = .ok (.ireturn, 1) := by decide +kernel
theorem dX1_isLess_0 : decode cX1_isLess 0 = .ok (.iconst 0, 1) := by decide +kernel
theorem dX1_isLess_1 : decode cX1_isLess 1 = .ok (.istore_n 3, 1) := by decide +kernel
theorem dX1_isLess_2 : decode cX1_isLess 2 = .ok (.iload_n 3, 1) := by decide +kernel
theorem dX1_isLess_3 : decode cX1_isLess 3 = .ok (.bipush 32, 2) := by decide +kernel
theorem dX1_isLess_5 : decode cX1_isLess 5 = .ok (.if_icmp .ge 49, 3) := by decide +kernel
theorem dX1_isLess_8 : decode cX1_isLess 8 = .ok (.aload_n 0, 1) := by decide +kernel
theorem dX1_isLess_9 : decode cX1_isLess 9 = .ok (.iload_n 1, 1) := by decide +kernel
theorem dX1_isLess_10 : decode cX1_isLess 10 = .ok (.iload_n 3, 1) := by decide +kernel
theorem dX1_isLess_11 : decode cX1_isLess 11 = .ok (.iadd, 1) := by decide +kernel
theorem dX1_isLess_12 : decode cX1_isLess 12 = .ok (.baload, 1) := by decide +kernel
theorem dX1_isLess_13 : decode cX1_isLess 13 = .ok (.aload_n 0, 1) := by decide +kernel
theorem dX1_isLess_14 : decode cX1_isLess 14 = .ok (.iload_n 2, 1) := by decide +kernel
theorem dX1_isLess_15 : decode cX1_isLess 15 = .ok (.iload_n 3, 1) := by decide +kernel
theorem dX1_isLess_16 : decode cX1_isLess 16 = .ok (.iadd, 1) := by decide +kernel
theorem dX1_isLess_17 : decode cX1_isLess 17 = .ok (.baload, 1) := by decide +kernel
theorem dX1_isLess_18 : decode cX1_isLess 18 = .ok (.if_icmp .eq 30, 3) := by decide +kernel
theorem dX1_isLess_21 : decode cX1_isLess 21 = .ok (.aload_n 0, 1) := by decide +kernel
theorem dX1_isLess_22 : decode cX1_isLess 22 = .ok (.iload_n 1, 1) := by decide +kernel
theorem dX1_isLess_23 : decode cX1_isLess 23 = .ok (.iload_n 3, 1) := by decide +kernel
theorem dX1_isLess_24 : decode cX1_isLess 24 = .ok (.iadd, 1) := by decide +kernel
theorem dX1_isLess_25 : decode cX1_isLess 25 = .ok (.baload, 1) := by decide +kernel
theorem dX1_isLess_26 : decode cX1_isLess 26 = .ok (.sipush 255, 3) := by decide +kernel
theorem dX1_isLess_29 : decode cX1_isLess 29 = .ok (.iand, 1) := by decide +kernel
theorem dX1_isLess_30 : decode cX1_isLess 30 = .ok (.aload_n 0, 1) := by decide +kernel
theorem dX1_isLess_31 : decode cX1_isLess 31 = .ok (.iload_n 2, 1) := by decide +kernel
theorem dX1_isLess_32 : decode cX1_isLess 32 = .ok (.iload_n 3, 1) := by decide +kernel
theorem dX1_isLess_33 : decode cX1_isLess 33 = .ok (.iadd, 1) := by decide +kernel
theorem dX1_isLess_34 : decode cX1_isLess 34 = .ok (.baload, 1) := by decide +kernel
theorem dX1_isLess_35 : decode cX1_isLess 35 = .ok (.sipush 255, 3) := by decide +kernel
theorem dX1_isLess_38 : decode cX1_isLess 38 = .ok (.iand, 1) := by decide +kernel
theorem dX1_isLess_39 : decode cX1_isLess 39 = .ok (.if_icmp .ge 7, 3) := by decide +kernel
theorem dX1_isLess_42 : decode cX1_isLess 42 = .ok (.iconst 1, 1) := by decide +kernel
theorem dX1_isLess_43 : decode cX1_isLess 43 = .ok (.goto 4, 3) := by decide +kernel
theorem dX1_isLess_46 : decode cX1_isLess 46 = .ok (.iconst 0, 1) := by decide +kernel
theorem dX1_isLess_47 : decode cX1_isLess 47 = .ok (.ireturn, 1) := by decide +kernel
theorem dX1_isLess_48 : decode cX1_isLess 48 = .ok (.iinc 3 1, 3) := by decide +kernel
theorem dX1_isLess_51 : decode cX1_isLess 51 = .ok (.goto (-49), 3) := by decide +kernel
theorem dX1_isLess_54 : decode cX1_isLess 54 = .ok (.iconst 0, 1) := by decide +kernel
theorem dX1_isLess_55 : decode cX1_isLess 55 = .ok (.ireturn, 1) := by decide +kernel
theorem dX1_blockFits_0 : decode cX1_blockFits 0 = .ok (.iload_n 3, 1) := by decide +kernel
theorem dX1_blockFits_1 : decode cX1_blockFits 1 = .ok (.iload_n 2, 1) := by decide +kernel
theorem dX1_blockFits_2 : decode cX1_blockFits 2 = .ok (.isub, 1) := by decide +kernel
theorem dX1_blockFits_3 : decode cX1_blockFits 3 = .ok (.bipush 101, 2) := by decide +kernel
theorem dX1_blockFits_5 : decode cX1_blockFits 5 = .ok (.if_icmp .lt 27, 3) := by decide +kernel
theorem dX1_blockFits_8 : decode cX1_blockFits 8 = .ok (.aload_n 1, 1) := by decide +kernel
theorem dX1_blockFits_9 : decode cX1_blockFits 9 = .ok (.iload_n 2, 1) := by decide +kernel
theorem dX1_blockFits_10 : decode cX1_blockFits 10 = .ok (.invokestatic 77, 3) := by decide +kernel
theorem dX1_blockFits_13 : decode cX1_blockFits 13 = .ok (.ifCond .eq 19, 3) := by decide +kernel
theorem dX1_blockFits_16 : decode cX1_blockFits 16 = .ok (.aload_n 1, 1) := by decide +kernel
theorem dX1_blockFits_17 : decode cX1_blockFits 17 = .ok (.iload_n 2, 1) := by decide +kernel
theorem dX1_blockFits_18 : decode cX1_blockFits 18 = .ok (.iconst 2, 1) := by decide +kernel
theorem dX1_blockFits_19 : decode cX1_blockFits 19 = .ok (.iadd, 1) := by decide +kernel
theorem dX1_blockFits_20 : decode cX1_blockFits 20 = .ok (.baload, 1) := by decide +kernel
theorem dX1_blockFits_21 : decode cX1_blockFits 21 = .ok (.sipush 255, 3) := by decide +kernel
theorem dX1_blockFits_24 : decode cX1_blockFits 24 = .ok (.iand, 1) := by decide +kernel
theorem dX1_blockFits_25 : decode cX1_blockFits 25 = .ok (.aload_n 0, 1) := by decide +kernel
theorem dX1_blockFits_26 : decode cX1_blockFits 26 = .ok (.getfield 19, 3) := by decide +kernel
theorem dX1_blockFits_29 : decode cX1_blockFits 29 = .ok (.if_icmp .lt 5, 3) := by decide +kernel
theorem dX1_blockFits_32 : decode cX1_blockFits 32 = .ok (.iconst 0, 1) := by decide +kernel
theorem dX1_blockFits_33 : decode cX1_blockFits 33 = .ok (.ireturn, 1) := by decide +kernel
theorem dX1_blockFits_34 : decode cX1_blockFits 34 = .ok (.aload_n 1, 1) := by decide +kernel
theorem dX1_blockFits_35 : decode cX1_blockFits 35 = .ok (.iload_n 2, 1) := by decide +kernel
theorem dX1_blockFits_36 : decode cX1_blockFits 36 = .ok (.bipush 99, 2) := by decide +kernel
theorem dX1_blockFits_38 : decode cX1_blockFits 38 = .ok (.iadd, 1) := by decide +kernel
theorem dX1_blockFits_39 : decode cX1_blockFits 39 = .ok (.baload, 1) := by decide +kernel
theorem dX1_blockFits_40 : decode cX1_blockFits 40 = .ok (.sipush 255, 3) := by decide +kernel
theorem dX1_blockFits_43 : decode cX1_blockFits 43 = .ok (.iand, 1) := by decide +kernel
theorem dX1_blockFits_44 : decode cX1_blockFits 44 = .ok (.istore 4, 2) := by decide +kernel
theorem dX1_blockFits_46 : decode cX1_blockFits 46 = .ok (.aload_n 1, 1) := by decide +kernel
theorem dX1_blockFits_47 : decode cX1_blockFits 47 = .ok (.iload_n 2, 1) := by decide +kernel
theorem dX1_blockFits_48 : decode cX1_blockFits 48 = .ok (.bipush 100, 2) := by decide +kernel
theorem dX1_blockFits_50 : decode cX1_blockFits 50 = .ok (.iadd, 1) := by decide +kernel
theorem dX1_blockFits_51 : decode cX1_blockFits 51 = .ok (.baload, 1) := by decide +kernel
theorem dX1_blockFits_52 : decode cX1_blockFits 52 = .ok (.sipush 255, 3) := by decide +kernel
theorem dX1_blockFits_55 : decode cX1_blockFits 55 = .ok (.iand, 1) := by decide +kernel
theorem dX1_blockFits_56 : decode cX1_blockFits 56 = .ok (.istore 5, 2) := by decide +kernel
theorem dX1_blockFits_58 : decode cX1_blockFits 58 = .ok (.iload 4, 2) := by decide +kernel
theorem dX1_blockFits_60 : decode cX1_blockFits 60 = .ok (.bipush 64, 2) := by decide +kernel
theorem dX1_blockFits_62 : decode cX1_blockFits 62 = .ok (.if_icmp .gt 9, 3) := by decide +kernel
theorem dX1_blockFits_65 : decode cX1_blockFits 65 = .ok (.iload 5, 2) := by decide +kernel
theorem dX1_blockFits_67 : decode cX1_blockFits 67 = .ok (.iconst 2, 1) := by decide +kernel
theorem dX1_blockFits_68 : decode cX1_blockFits 68 = .ok (.if_icmp .le 5, 3) := by decide +kernel
theorem dX1_blockFits_71 : decode cX1_blockFits 71 = .ok (.iconst 0, 1) := by decide +kernel
theorem dX1_blockFits_72 : decode cX1_blockFits 72 = .ok (.ireturn, 1) := by decide +kernel
theorem dX1_blockFits_73 : decode cX1_blockFits 73 = .ok (.iload_n 2, 1) := by decide +kernel
theorem dX1_blockFits_74 : decode cX1_blockFits 74 = .ok (.bipush 101, 2) := by decide +kernel
theorem dX1_blockFits_76 : decode cX1_blockFits 76 = .ok (.iadd, 1) := by decide +kernel
theorem dX1_blockFits_77 : decode cX1_blockFits 77 = .ok (.istore 6, 2) := by decide +kernel
theorem dX1_blockFits_79 : decode cX1_blockFits 79 = .ok (.iconst 0, 1) := by decide +kernel
theorem dX1_blockFits_80 : decode cX1_blockFits 80 = .ok (.istore 7, 2) := by decide +kernel
theorem dX1_blockFits_82 : decode cX1_blockFits 82 = .ok (.iload 7, 2) := by decide +kernel
theorem dX1_blockFits_84 : decode cX1_blockFits 84 = .ok (.iload 5, 2) := by decide +kernel
theorem dX1_blockFits_86 : decode cX1_blockFits 86 = .ok (.if_icmp .ge 26, 3) := by decide +kernel
theorem dX1_blockFits_89 : decode cX1_blockFits 89 = .ok (.aload_n 0, 1) := by decide +kernel
theorem dX1_blockFits_90 : decode cX1_blockFits 90 = .ok (.aload_n 1, 1) := by decide +kernel
theorem dX1_blockFits_91 : decode cX1_blockFits 91 = .ok (.iload 6, 2) := by decide +kernel
theorem dX1_blockFits_93 : decode cX1_blockFits 93 = .ok (.iload_n 3, 1) := by decide +kernel
theorem dX1_blockFits_94 : decode cX1_blockFits 94 = .ok (.invokevirtual 80, 3) := by decide +kernel
theorem dX1_blockFits_97 : decode cX1_blockFits 97 = .ok (.istore 6, 2) := by decide +kernel
theorem dX1_blockFits_99 : decode cX1_blockFits 99 = .ok (.iload 6, 2) := by decide +kernel
theorem dX1_blockFits_101 : decode cX1_blockFits 101 = .ok (.ifCond .ge 5, 3) := by decide +kernel
theorem dX1_blockFits_104 : decode cX1_blockFits 104 = .ok (.iconst 0, 1) := by decide +kernel
theorem dX1_blockFits_105 : decode cX1_blockFits 105 = .ok (.ireturn, 1) := by decide +kernel
theorem dX1_blockFits_106 : decode cX1_blockFits 106 = .ok (.iinc 7 1, 3) := by decide +kernel
theorem dX1_blockFits_109 : decode cX1_blockFits 109 = .ok (.goto (-27), 3) := by decide +kernel
theorem dX1_blockFits_112 : decode cX1_blockFits 112 = .ok (.iload_n 3, 1) := by decide +kernel
theorem dX1_blockFits_113 : decode cX1_blockFits 113 = .ok (.iload 6, 2) := by decide +kernel
theorem dX1_blockFits_115 : decode cX1_blockFits 115 = .ok (.isub, 1) := by decide +kernel
theorem dX1_blockFits_116 : decode cX1_blockFits 116 = .ok (.iload 4, 2) := by decide +kernel
theorem dX1_blockFits_118 : decode cX1_blockFits 118 = .ok (.bipush 7, 2) := by decide +kernel
theorem dX1_blockFits_120 : decode cX1_blockFits 120 = .ok (.imul, 1) := by decide +kernel
theorem dX1_blockFits_121 : decode cX1_blockFits 121 = .ok (.if_icmp .eq 5, 3) := by decide +kernel
theorem dX1_blockFits_124 : decode cX1_blockFits 124 = .ok (.iconst 0, 1) := by decide +kernel
theorem dX1_blockFits_125 : decode cX1_blockFits 125 = .ok (.ireturn, 1) := by decide +kernel
theorem dX1_blockFits_126 : decode cX1_blockFits 126 = .ok (.iconst 0, 1) := by decide +kernel
theorem dX1_blockFits_127 : decode cX1_blockFits 127 = .ok (.istore 7, 2) := by decide +kernel
theorem dX1_blockFits_129 : decode cX1_blockFits 129 = .ok (.iload 7, 2) := by decide +kernel
theorem dX1_blockFits_131 : decode cX1_blockFits 131 = .ok (.iload 4, 2) := by decide +kernel
theorem dX1_blockFits_133 : decode cX1_blockFits 133 = .ok (.if_icmp .ge 26, 3) := by decide +kernel
theorem dX1_blockFits_136 : decode cX1_blockFits 136 = .ok (.aload_n 1, 1) := by decide +kernel
theorem dX1_blockFits_137 : decode cX1_blockFits 137 = .ok (.iload 6, 2) := by decide +kernel
theorem dX1_blockFits_139 : decode cX1_blockFits 139 = .ok (.iload 7, 2) := by decide +kernel
theorem dX1_blockFits_141 : decode cX1_blockFits 141 = .ok (.bipush 7, 2) := by decide +kernel
theorem dX1_blockFits_143 : decode cX1_blockFits 143 = .ok (.imul, 1) := by decide +kernel
theorem dX1_blockFits_144 : decode cX1_blockFits 144 = .ok (.iadd, 1) := by decide +kernel
theorem dX1_blockFits_145 : decode cX1_blockFits 145 = .ok (.invokestatic 62, 3) := by decide +kernel
theorem dX1_blockFits_148 : decode cX1_blockFits 148 = .ok (.ifCond .ne 5, 3) := by decide +kernel
theorem dX1_blockFits_151 : decode cX1_blockFits 151 = .ok (.iconst 0, 1) := by decide +kernel
theorem dX1_blockFits_152 : decode cX1_blockFits 152 = .ok (.ireturn, 1) := by decide +kernel
theorem dX1_blockFits_153 : decode cX1_blockFits 153 = .ok (.iinc 7 1, 3) := by decide +kernel
theorem dX1_blockFits_156 : decode cX1_blockFits 156 = .ok (.goto (-27), 3) := by decide +kernel
theorem dX1_blockFits_159 : decode cX1_blockFits 159 = .ok (.aload_n 0, 1) := by decide +kernel
theorem dX1_blockFits_160 : decode cX1_blockFits 160 = .ok (.getfield 15, 3) := by decide +kernel
theorem dX1_blockFits_163 : decode cX1_blockFits 163 = .ok (.aload_n 1, 1) := by decide +kernel
theorem dX1_blockFits_164 : decode cX1_blockFits 164 = .ok (.iload_n 2, 1) := by decide +kernel
theorem dX1_blockFits_165 : decode cX1_blockFits 165 = .ok (.invokevirtual 93, 3) := by decide +kernel
theorem dX1_blockFits_168 : decode cX1_blockFits 168 = .ok (.aload_n 0, 1) := by decide +kernel
theorem dX1_blockFits_169 : decode cX1_blockFits 169 = .ok (.getfield 15, 3) := by decide +kernel
theorem dX1_blockFits_172 : decode cX1_blockFits 172 = .ok (.iconst (-1), 1) := by decide +kernel
theorem dX1_blockFits_173 : decode cX1_blockFits 173 = .ok (.aload_n 0, 1) := by decide +kernel
theorem dX1_blockFits_174 : decode cX1_blockFits 174 = .ok (.getfield 9, 3) := by decide +kernel
theorem dX1_blockFits_177 : decode cX1_blockFits 177 = .ok (.iconst 0, 1) := by decide +kernel
theorem dX1_blockFits_178 : decode cX1_blockFits 178 = .ok (.invokevirtual 96, 3) := by decide +kernel
theorem dX1_blockFits_181 : decode cX1_blockFits 181 = .ok (.pop, 1) := by decide +kernel
theorem dX1_blockFits_182 : decode cX1_blockFits 182 = .ok (.aload_n 0, 1) := by decide +kernel
theorem dX1_blockFits_183 : decode cX1_blockFits 183 = .ok (.getfield 15, 3) := by decide +kernel
theorem dX1_blockFits_186 : decode cX1_blockFits 186 = .ok (.aload_n 0, 1) := by decide +kernel
theorem dX1_blockFits_187 : decode cX1_blockFits 187 = .ok (.getfield 9, 3) := by decide +kernel
theorem dX1_blockFits_190 : decode cX1_blockFits 190 = .ok (.iconst 0, 1) := by decide +kernel
theorem dX1_blockFits_191 : decode cX1_blockFits 191 = .ok (.invokevirtual 100, 3) := by decide +kernel
theorem dX1_blockFits_194 : decode cX1_blockFits 194 = .ok (.aload_n 0, 1) := by decide +kernel
theorem dX1_blockFits_195 : decode cX1_blockFits 195 = .ok (.getfield 9, 3) := by decide +kernel
theorem dX1_blockFits_198 : decode cX1_blockFits 198 = .ok (.iconst 0, 1) := by decide +kernel
theorem dX1_blockFits_199 : decode cX1_blockFits 199 = .ok (.aload_n 1, 1) := by decide +kernel
theorem dX1_blockFits_200 : decode cX1_blockFits 200 = .ok (.iload_n 2, 1) := by decide +kernel
theorem dX1_blockFits_201 : decode cX1_blockFits 201 = .ok (.bipush 67, 2) := by decide +kernel
theorem dX1_blockFits_203 : decode cX1_blockFits 203 = .ok (.iadd, 1) := by decide +kernel
theorem dX1_blockFits_204 : decode cX1_blockFits 204 = .ok (.bipush 32, 2) := by decide +kernel
theorem dX1_blockFits_206 : decode cX1_blockFits 206 = .ok (.invokestatic 103, 3) := by decide +kernel
theorem dX1_blockFits_209 : decode cX1_blockFits 209 = .ok (.ireturn, 1) := by decide +kernel
theorem dX1_snapshotFits_0 : decode cX1_snapshotFits 0 = .ok (.aload_n 0, 1) := by decide +kernel
theorem dX1_snapshotFits_1 : decode cX1_snapshotFits 1 = .ok (.iconst 1, 1) := by decide +kernel
theorem dX1_snapshotFits_2 : decode cX1_snapshotFits 2 = .ok (.invokestatic 69, 3) := by decide +kernel
theorem dX1_snapshotFits_5 : decode cX1_snapshotFits 5 = .ok (.istore_n 1, 1) := by decide +kernel
theorem dX1_snapshotFits_6 : decode cX1_snapshotFits 6 = .ok (.iload_n 1, 1) := by decide +kernel
theorem dX1_snapshotFits_7 : decode cX1_snapshotFits 7 = .ok (.iconst 2, 1) := by decide +kernel
theorem dX1_snapshotFits_8 : decode cX1_snapshotFits 8 = .ok (.if_icmp .lt 9, 3) := by decide +kernel
theorem dX1_snapshotFits_11 : decode cX1_snapshotFits 11 = .ok (.iload_n 1, 1) := by decide +kernel
theorem dX1_snapshotFits_12 : decode cX1_snapshotFits 12 = .ok (.bipush 41, 2) := by decide +kernel
theorem dX1_snapshotFits_14 : decode cX1_snapshotFits 14 = .ok (.if_icmp .le 5, 3) := by decide +kernel
theorem dX1_snapshotFits_17 : decode cX1_snapshotFits 17 = .ok (.iconst 0, 1) := by decide +kernel
theorem dX1_snapshotFits_18 : decode cX1_snapshotFits 18 = .ok (.ireturn, 1) := by decide +kernel
theorem dX1_snapshotFits_19 : decode cX1_snapshotFits 19 = .ok (.iconst 0, 1) := by decide +kernel
theorem dX1_snapshotFits_20 : decode cX1_snapshotFits 20 = .ok (.istore_n 2, 1) := by decide +kernel
theorem dX1_snapshotFits_21 : decode cX1_snapshotFits 21 = .ok (.bipush 35, 2) := by decide +kernel
theorem dX1_snapshotFits_23 : decode cX1_snapshotFits 23 = .ok (.istore_n 3, 1) := by decide +kernel
theorem dX1_snapshotFits_24 : decode cX1_snapshotFits 24 = .ok (.iload_n 2, 1) := by decide +kernel
theorem dX1_snapshotFits_25 : decode cX1_snapshotFits 25 = .ok (.bipush 16, 2) := by decide +kernel
theorem dX1_snapshotFits_27 : decode cX1_snapshotFits 27 = .ok (.if_icmp .ge 42, 3) := by decide +kernel
theorem dX1_snapshotFits_30 : decode cX1_snapshotFits 30 = .ok (.aload_n 0, 1) := by decide +kernel
theorem dX1_snapshotFits_31 : decode cX1_snapshotFits 31 = .ok (.iload_n 3, 1) := by decide +kernel
theorem dX1_snapshotFits_32 : decode cX1_snapshotFits 32 = .ok (.invokestatic 69, 3) := by decide +kernel
theorem dX1_snapshotFits_35 : decode cX1_snapshotFits 35 = .ok (.sipush 16000, 3) := by decide +kernel
theorem dX1_snapshotFits_38 : decode cX1_snapshotFits 38 = .ok (.if_icmp .gt 20, 3) := by decide +kernel
theorem dX1_snapshotFits_41 : decode cX1_snapshotFits 41 = .ok (.aload_n 0, 1) := by decide +kernel
theorem dX1_snapshotFits_42 : decode cX1_snapshotFits 42 = .ok (.iload_n 3, 1) := by decide +kernel
theorem dX1_snapshotFits_43 : decode cX1_snapshotFits 43 = .ok (.iconst 4, 1) := by decide +kernel
theorem dX1_snapshotFits_44 : decode cX1_snapshotFits 44 = .ok (.iadd, 1) := by decide +kernel
theorem dX1_snapshotFits_45 : decode cX1_snapshotFits 45 = .ok (.baload, 1) := by decide +kernel
theorem dX1_snapshotFits_46 : decode cX1_snapshotFits 46 = .ok (.ifCond .eq 14, 3) := by decide +kernel
theorem dX1_snapshotFits_49 : decode cX1_snapshotFits 49 = .ok (.aload_n 0, 1) := by decide +kernel
theorem dX1_snapshotFits_50 : decode cX1_snapshotFits 50 = .ok (.iload_n 3, 1) := by decide +kernel
theorem dX1_snapshotFits_51 : decode cX1_snapshotFits 51 = .ok (.iconst 4, 1) := by decide +kernel
theorem dX1_snapshotFits_52 : decode cX1_snapshotFits 52 = .ok (.iadd, 1) := by decide +kernel
theorem dX1_snapshotFits_53 : decode cX1_snapshotFits 53 = .ok (.baload, 1) := by decide +kernel
theorem dX1_snapshotFits_54 : decode cX1_snapshotFits 54 = .ok (.iconst 1, 1) := by decide +kernel
theorem dX1_snapshotFits_55 : decode cX1_snapshotFits 55 = .ok (.if_icmp .eq 5, 3) := by decide +kernel
theorem dX1_snapshotFits_58 : decode cX1_snapshotFits 58 = .ok (.iconst 0, 1) := by decide +kernel
theorem dX1_snapshotFits_59 : decode cX1_snapshotFits 59 = .ok (.ireturn, 1) := by decide +kernel
theorem dX1_snapshotFits_60 : decode cX1_snapshotFits 60 = .ok (.iinc 2 1, 3) := by decide +kernel
theorem dX1_snapshotFits_63 : decode cX1_snapshotFits 63 = .ok (.iinc 3 5, 3) := by decide +kernel
theorem dX1_snapshotFits_66 : decode cX1_snapshotFits 66 = .ok (.goto (-42), 3) := by decide +kernel
theorem dX1_snapshotFits_69 : decode cX1_snapshotFits 69 = .ok (.iconst 1, 1) := by decide +kernel
theorem dX1_snapshotFits_70 : decode cX1_snapshotFits 70 = .ok (.ireturn, 1) := by decide +kernel
theorem dX1_tellsBelow_0 : decode cX1_tellsBelow 0 = .ok (.aload_n 1, 1) := by decide +kernel
theorem dX1_tellsBelow_1 : decode cX1_tellsBelow 1 = .ok (.invokevirtual 55, 3) := by decide +kernel
theorem dX1_tellsBelow_4 : decode cX1_tellsBelow 4 = .ok (.istore_n 3, 1) := by decide +kernel
theorem dX1_tellsBelow_5 : decode cX1_tellsBelow 5 = .ok (.iload_n 3, 1) := by decide +kernel
theorem dX1_tellsBelow_6 : decode cX1_tellsBelow 6 = .ok (.iconst 1, 1) := by decide +kernel
theorem dX1_tellsBelow_7 : decode cX1_tellsBelow 7 = .ok (.if_icmp .eq 19, 3) := by decide +kernel
theorem dX1_tellsBelow_10 : decode cX1_tellsBelow 10 = .ok (.iload_n 3, 1) := by decide +kernel
theorem dX1_tellsBelow_11 : decode cX1_tellsBelow 11 = .ok (.iconst 2, 1) := by decide +kernel
theorem dX1_tellsBelow_12 : decode cX1_tellsBelow 12 = .ok (.if_icmp .eq 14, 3) := by decide +kernel
theorem dX1_tellsBelow_15 : decode cX1_tellsBelow 15 = .ok (.iload_n 3, 1) := by decide +kernel
theorem dX1_tellsBelow_16 : decode cX1_tellsBelow 16 = .ok (.iconst 3, 1) := by decide +kernel
theorem dX1_tellsBelow_17 : decode cX1_tellsBelow 17 = .ok (.if_icmp .eq 9, 3) := by decide +kernel
theorem dX1_tellsBelow_20 : decode cX1_tellsBelow 20 = .ok (.iload_n 3, 1) := by decide +kernel
theorem dX1_tellsBelow_21 : decode cX1_tellsBelow 21 = .ok (.bipush 6, 2) := by decide +kernel
theorem dX1_tellsBelow_23 : decode cX1_tellsBelow 23 = .ok (.if_icmp .ne 13, 3) := by decide +kernel
theorem dX1_tellsBelow_26 : decode cX1_tellsBelow 26 = .ok (.aload_n 1, 1) := by decide +kernel
theorem dX1_tellsBelow_27 : decode cX1_tellsBelow 27 = .ok (.invokevirtual 107, 3) := by decide +kernel
theorem dX1_tellsBelow_30 : decode cX1_tellsBelow 30 = .ok (.iload_n 2, 1) := by decide +kernel
theorem dX1_tellsBelow_31 : decode cX1_tellsBelow 31 = .ok (.if_icmp .ge 5, 3) := by decide +kernel
theorem dX1_tellsBelow_34 : decode cX1_tellsBelow 34 = .ok (.iconst 1, 1) := by decide +kernel
theorem dX1_tellsBelow_35 : decode cX1_tellsBelow 35 = .ok (.ireturn, 1) := by decide +kernel
theorem dX1_tellsBelow_36 : decode cX1_tellsBelow 36 = .ok (.aload_n 1, 1) := by decide +kernel
theorem dX1_tellsBelow_37 : decode cX1_tellsBelow 37 = .ok (.invokevirtual 42, 3) := by decide +kernel
theorem dX1_tellsBelow_40 : decode cX1_tellsBelow 40 = .ok (.istore 4, 2) := by decide +kernel
theorem dX1_tellsBelow_42 : decode cX1_tellsBelow 42 = .ok (.iload 4, 2) := by decide +kernel
theorem dX1_tellsBelow_44 : decode cX1_tellsBelow 44 = .ok (.ifCond .ge 7, 3) := by decide +kernel
theorem dX1_tellsBelow_47 : decode cX1_tellsBelow 47 = .ok (.iconst 0, 1) := by decide +kernel
theorem dX1_tellsBelow_48 : decode cX1_tellsBelow 48 = .ok (.goto 12, 3) := by decide +kernel
theorem dX1_tellsBelow_51 : decode cX1_tellsBelow 51 = .ok (.aload_n 1, 1) := by decide +kernel
theorem dX1_tellsBelow_52 : decode cX1_tellsBelow 52 = .ok (.iload 4, 2) := by decide +kernel
theorem dX1_tellsBelow_54 : decode cX1_tellsBelow 54 = .ok (.bipush 100, 2) := by decide +kernel
theorem dX1_tellsBelow_56 : decode cX1_tellsBelow 56 = .ok (.iadd, 1) := by decide +kernel
theorem dX1_tellsBelow_57 : decode cX1_tellsBelow 57 = .ok (.invokevirtual 58, 3) := by decide +kernel
theorem dX1_tellsBelow_60 : decode cX1_tellsBelow 60 = .ok (.istore 5, 2) := by decide +kernel
theorem dX1_tellsBelow_62 : decode cX1_tellsBelow 62 = .ok (.iload 4, 2) := by decide +kernel
theorem dX1_tellsBelow_64 : decode cX1_tellsBelow 64 = .ok (.bipush 101, 2) := by decide +kernel
theorem dX1_tellsBelow_66 : decode cX1_tellsBelow 66 = .ok (.iadd, 1) := by decide +kernel
theorem dX1_tellsBelow_67 : decode cX1_tellsBelow 67 = .ok (.istore 6, 2) := by decide +kernel
theorem dX1_tellsBelow_69 : decode cX1_tellsBelow 69 = .ok (.iconst 0, 1) := by decide +kernel
theorem dX1_tellsBelow_70 : decode cX1_tellsBelow 70 = .ok (.istore 7, 2) := by decide +kernel
theorem dX1_tellsBelow_72 : decode cX1_tellsBelow 72 = .ok (.iload 7, 2) := by decide +kernel
theorem dX1_tellsBelow_74 : decode cX1_tellsBelow 74 = .ok (.iload 5, 2) := by decide +kernel
theorem dX1_tellsBelow_76 : decode cX1_tellsBelow 76 = .ok (.if_icmp .ge 45, 3) := by decide +kernel
theorem dX1_tellsBelow_79 : decode cX1_tellsBelow 79 = .ok (.iload 7, 2) := by decide +kernel
theorem dX1_tellsBelow_81 : decode cX1_tellsBelow 81 = .ok (.iconst 2, 1) := by decide +kernel
theorem dX1_tellsBelow_82 : decode cX1_tellsBelow 82 = .ok (.if_icmp .ge 39, 3) := by decide +kernel
theorem dX1_tellsBelow_85 : decode cX1_tellsBelow 85 = .ok (.aload_n 1, 1) := by decide +kernel
theorem dX1_tellsBelow_86 : decode cX1_tellsBelow 86 = .ok (.iload 6, 2) := by decide +kernel
theorem dX1_tellsBelow_88 : decode cX1_tellsBelow 88 = .ok (.invokevirtual 58, 3) := by decide +kernel
theorem dX1_tellsBelow_91 : decode cX1_tellsBelow 91 = .ok (.iload_n 2, 1) := by decide +kernel
theorem dX1_tellsBelow_92 : decode cX1_tellsBelow 92 = .ok (.if_icmp .ge 5, 3) := by decide +kernel
theorem dX1_tellsBelow_95 : decode cX1_tellsBelow 95 = .ok (.iconst 1, 1) := by decide +kernel
theorem dX1_tellsBelow_96 : decode cX1_tellsBelow 96 = .ok (.ireturn, 1) := by decide +kernel
theorem dX1_tellsBelow_97 : decode cX1_tellsBelow 97 = .ok (.iload 6, 2) := by decide +kernel
theorem dX1_tellsBelow_99 : decode cX1_tellsBelow 99 = .ok (.aload_n 1, 1) := by decide +kernel
theorem dX1_tellsBelow_100 : decode cX1_tellsBelow 100 = .ok (.getfield 31, 3) := by decide +kernel
theorem dX1_tellsBelow_103 : decode cX1_tellsBelow 103 = .ok (.iload 6, 2) := by decide +kernel
theorem dX1_tellsBelow_105 : decode cX1_tellsBelow 105 = .ok (.aload_n 1, 1) := by decide +kernel
theorem dX1_tellsBelow_106 : decode cX1_tellsBelow 106 = .ok (.getfield 28, 3) := by decide +kernel
theorem dX1_tellsBelow_109 : decode cX1_tellsBelow 109 = .ok (.invokestatic 87, 3) := by decide +kernel
theorem dX1_tellsBelow_112 : decode cX1_tellsBelow 112 = .ok (.iadd, 1) := by decide +kernel
theorem dX1_tellsBelow_113 : decode cX1_tellsBelow 113 = .ok (.istore 6, 2) := by decide +kernel
theorem dX1_tellsBelow_115 : decode cX1_tellsBelow 115 = .ok (.iinc 7 1, 3) := by decide +kernel
theorem dX1_tellsBelow_118 : decode cX1_tellsBelow 118 = .ok (.goto (-46), 3) := by decide +kernel
theorem dX1_tellsBelow_121 : decode cX1_tellsBelow 121 = .ok (.iconst 0, 1) := by decide +kernel
theorem dX1_tellsBelow_122 : decode cX1_tellsBelow 122 = .ok (.ireturn, 1) := by decide +kernel
theorem dX2_init_0 : decode cX2_init 0 = .ok (.aload_n 0, 1) := by decide +kernel
theorem dX2_init_1 : decode cX2_init 1 = .ok (.invokespecial 3, 3) := by decide +kernel
theorem dX2_init_4 : decode cX2_init 4 = .ok (.aload_n 0, 1) := by decide +kernel
theorem dX2_init_5 : decode cX2_init 5 = .ok (.sipush 1088, 3) := by decide +kernel
theorem dX2_init_8 : decode cX2_init 8 = .ok (.newarray .byte, 2) := by decide +kernel
theorem dX2_init_10 : decode cX2_init 10 = .ok (.putfield 11, 3) := by decide +kernel
theorem dX2_init_13 : decode cX2_init 13 = .ok (.aload_n 0, 1) := by decide +kernel
theorem dX2_init_14 : decode cX2_init 14 = .ok (.bipush 64, 2) := by decide +kernel
theorem dX2_init_16 : decode cX2_init 16 = .ok (.newarray .int, 2) := by decide +kernel
theorem dX2_init_18 : decode cX2_init 18 = .ok (.putfield 15, 3) := by decide +kernel
theorem dX2_init_21 : decode cX2_init 21 = .ok (.aload_n 0, 1) := by decide +kernel
theorem dX2_init_22 : decode cX2_init 22 = .ok (.bipush 8, 2) := by decide +kernel
theorem dX2_init_24 : decode cX2_init 24 = .ok (.newarray .int, 2) := by decide +kernel
theorem dX2_init_26 : decode cX2_init 26 = .ok (.putfield 19, 3) := by decide +kernel
theorem dX2_init_29 : decode cX2_init 29 = .ok (.aload_n 0, 1) := by decide +kernel
theorem dX2_init_30 : decode cX2_init 30 = .ok (.sipush 2112, 3) := by decide +kernel
theorem dX2_init_33 : decode cX2_init 33 = .ok (.newarray .byte, 2) := by decide +kernel
theorem dX2_init_35 : decode cX2_init 35 = .ok (.putfield 22, 3) := by decide +kernel
theorem dX2_init_38 : decode cX2_init 38 = .ok (.return_, 1) := by decide +kernel
theorem dX2_open_0 : decode cX2_open 0 = .ok (.aload_n 0, 1) := by decide +kernel
theorem dX2_open_1 : decode cX2_open 1 = .ok (.iconst 0, 1) := by decide +kernel
theorem dX2_open_2 : decode cX2_open 2 = .ok (.putfield 25, 3) := by decide +kernel
theorem dX2_open_5 : decode cX2_open 5 = .ok (.return_, 1) := by decide +kernel
theorem dX2_add_0 : decode cX2_add 0 = .ok (.aload_n 0, 1) := by decide +kernel
theorem dX2_add_1 : decode cX2_add 1 = .ok (.getfield 25, 3) := by decide +kernel
theorem dX2_add_4 : decode cX2_add 4 = .ok (.sipush 1024, 3) := by decide +kernel
theorem dX2_add_7 : decode cX2_add 7 = .ok (.if_icmp .ge 24, 3) := by decide +kernel
theorem dX2_add_10 : decode cX2_add 10 = .ok (.aload_n 0, 1) := by decide +kernel
theorem dX2_add_11 : decode cX2_add 11 = .ok (.getfield 11, 3) := by decide +kernel
theorem dX2_add_14 : decode cX2_add 14 = .ok (.aload_n 0, 1) := by decide +kernel
theorem dX2_add_15 : decode cX2_add 15 = .ok (.getfield 25, 3) := by decide +kernel
