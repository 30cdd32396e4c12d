theorem dX12_writeProposal_3 : decode cX12_writeProposal 3 = .ok (.iload_n 2, 1) := by decide +kernel
theorem dX12_writeProposal_4 : decode cX12_writeProposal 4 = .ok (.iload_n 3, 1) := by decide +kernel
theorem dX12_writeProposal_5 : decode cX12_writeProposal 5 = .ok (.invokevirtual 520, 3) := by decide +kernel
theorem dX12_writeProposal_8 : decode cX12_writeProposal 8 = .ok (.aload_n 0, 1) := by decide +kernel
theorem dX12_writeProposal_9 : decode cX12_writeProposal 9 = .ok (.iload 4, 2) := by decide +kernel
theorem dX12_writeProposal_11 : decode cX12_writeProposal 11 = .ok (.iconst (-1), 1) := by decide +kernel
theorem dX12_writeProposal_12 : decode cX12_writeProposal 12 = .ok (.if_icmp .ne 9, 3) := by decide +kernel
theorem dX12_writeProposal_15 : decode cX12_writeProposal 15 = .ok (.sipush 255, 3) := by decide +kernel
theorem dX12_writeProposal_18 : decode cX12_writeProposal 18 = .ok (.goto 5, 3) := by decide +kernel
theorem dX12_writeProposal_21 : decode cX12_writeProposal 21 = .ok (.iload 4, 2) := by decide +kernel
theorem dX12_writeProposal_23 : decode cX12_writeProposal 23 = .ok (.invokevirtual 226, 3) := by decide +kernel
theorem dX12_writeProposal_26 : decode cX12_writeProposal 26 = .ok (.aload_n 0, 1) := by decide +kernel
theorem dX12_writeProposal_27 : decode cX12_writeProposal 27 = .ok (.iload 5, 2) := by decide +kernel
theorem dX12_writeProposal_29 : decode cX12_writeProposal 29 = .ok (.invokevirtual 524, 3) := by decide +kernel
theorem dX12_writeProposal_32 : decode cX12_writeProposal 32 = .ok (.return_, 1) := by decide +kernel
theorem dX12_writeId_0 : decode cX12_writeId 0 = .ok (.aload_n 0, 1) := by decide +kernel
theorem dX12_writeId_1 : decode cX12_writeId 1 = .ok (.iconst 1, 1) := by decide +kernel
theorem dX12_writeId_2 : decode cX12_writeId 2 = .ok (.invokevirtual 226, 3) := by decide +kernel
theorem dX12_writeId_5 : decode cX12_writeId 5 = .ok (.iconst 0, 1) := by decide +kernel
theorem dX12_writeId_6 : decode cX12_writeId 6 = .ok (.istore 9, 2) := by decide +kernel
theorem dX12_writeId_8 : decode cX12_writeId 8 = .ok (.iload 9, 2) := by decide +kernel
theorem dX12_writeId_10 : decode cX12_writeId 10 = .ok (.bipush 32, 2) := by decide +kernel
theorem dX12_writeId_12 : decode cX12_writeId 12 = .ok (.if_icmp .ge 57, 3) := by decide +kernel
theorem dX12_writeId_15 : decode cX12_writeId 15 = .ok (.aload_n 0, 1) := by decide +kernel
theorem dX12_writeId_16 : decode cX12_writeId 16 = .ok (.iload 9, 2) := by decide +kernel
theorem dX12_writeId_18 : decode cX12_writeId 18 = .ok (.bipush 8, 2) := by decide +kernel
theorem dX12_writeId_20 : decode cX12_writeId 20 = .ok (.if_icmp .ge 7, 3) := by decide +kernel
theorem dX12_writeId_23 : decode cX12_writeId 23 = .ok (.lload_n 1, 1) := by decide +kernel
theorem dX12_writeId_24 : decode cX12_writeId 24 = .ok (.goto 28, 3) := by decide +kernel
theorem dX12_writeId_27 : decode cX12_writeId 27 = .ok (.iload 9, 2) := by decide +kernel
theorem dX12_writeId_29 : decode cX12_writeId 29 = .ok (.bipush 16, 2) := by decide +kernel
theorem dX12_writeId_31 : decode cX12_writeId 31 = .ok (.if_icmp .ge 7, 3) := by decide +kernel
theorem dX12_writeId_34 : decode cX12_writeId 34 = .ok (.lload_n 3, 1) := by decide +kernel
theorem dX12_writeId_35 : decode cX12_writeId 35 = .ok (.goto 17, 3) := by decide +kernel
theorem dX12_writeId_38 : decode cX12_writeId 38 = .ok (.iload 9, 2) := by decide +kernel
theorem dX12_writeId_40 : decode cX12_writeId 40 = .ok (.bipush 24, 2) := by decide +kernel
theorem dX12_writeId_42 : decode cX12_writeId 42 = .ok (.if_icmp .ge 8, 3) := by decide +kernel
theorem dX12_writeId_45 : decode cX12_writeId 45 = .ok (.lload 5, 2) := by decide +kernel
theorem dX12_writeId_47 : decode cX12_writeId 47 = .ok (.goto 5, 3) := by decide +kernel
theorem dX12_writeId_50 : decode cX12_writeId 50 = .ok (.lload 7, 2) := by decide +kernel
theorem dX12_writeId_52 : decode cX12_writeId 52 = .ok (.iload 9, 2) := by decide +kernel
theorem dX12_writeId_54 : decode cX12_writeId 54 = .ok (.bipush 8, 2) := by decide +kernel
theorem dX12_writeId_56 : decode cX12_writeId 56 = .ok (.irem, 1) := by decide +kernel
theorem dX12_writeId_57 : decode cX12_writeId 57 = .ok (.invokestatic 49, 3) := by decide +kernel
theorem dX12_writeId_60 : decode cX12_writeId 60 = .ok (.invokevirtual 226, 3) := by decide +kernel
theorem dX12_writeId_63 : decode cX12_writeId 63 = .ok (.iinc 9 1, 3) := by decide +kernel
theorem dX12_writeId_66 : decode cX12_writeId 66 = .ok (.goto (-58), 3) := by decide +kernel
theorem dX12_writeId_69 : decode cX12_writeId 69 = .ok (.return_, 1) := by decide +kernel
theorem dX12_propose_0 : decode cX12_propose 0 = .ok (.aload_n 0, 1) := by decide +kernel
theorem dX12_propose_1 : decode cX12_propose 1 = .ok (.iload_n 1, 1) := by decide +kernel
theorem dX12_propose_2 : decode cX12_propose 2 = .ok (.aload_n 0, 1) := by decide +kernel
theorem dX12_propose_3 : decode cX12_propose 3 = .ok (.getfield 309, 3) := by decide +kernel
theorem dX12_propose_6 : decode cX12_propose 6 = .ok (.iload_n 1, 1) := by decide +kernel
theorem dX12_propose_7 : decode cX12_propose 7 = .ok (.iaload, 1) := by decide +kernel
theorem dX12_propose_8 : decode cX12_propose 8 = .ok (.aload_n 0, 1) := by decide +kernel
theorem dX12_propose_9 : decode cX12_propose 9 = .ok (.getfield 312, 3) := by decide +kernel
theorem dX12_propose_12 : decode cX12_propose 12 = .ok (.iload_n 1, 1) := by decide +kernel
theorem dX12_propose_13 : decode cX12_propose 13 = .ok (.iaload, 1) := by decide +kernel
theorem dX12_propose_14 : decode cX12_propose 14 = .ok (.iload_n 2, 1) := by decide +kernel
theorem dX12_propose_15 : decode cX12_propose 15 = .ok (.iload_n 3, 1) := by decide +kernel
theorem dX12_propose_16 : decode cX12_propose 16 = .ok (.invokevirtual 527, 3) := by decide +kernel
theorem dX12_propose_19 : decode cX12_propose 19 = .ok (.aload_n 0, 1) := by decide +kernel
theorem dX12_propose_20 : decode cX12_propose 20 = .ok (.iload_n 1, 1) := by decide +kernel
theorem dX12_propose_21 : decode cX12_propose 21 = .ok (.iconst 0, 1) := by decide +kernel
theorem dX12_propose_22 : decode cX12_propose 22 = .ok (.invokevirtual 531, 3) := by decide +kernel
theorem dX12_propose_25 : decode cX12_propose 25 = .ok (.ifCond .ne 5, 3) := by decide +kernel
theorem dX12_propose_28 : decode cX12_propose 28 = .ok (.iconst 0, 1) := by decide +kernel
theorem dX12_propose_29 : decode cX12_propose 29 = .ok (.ireturn, 1) := by decide +kernel
theorem dX12_propose_30 : decode cX12_propose 30 = .ok (.bipush 64, 2) := by decide +kernel
theorem dX12_propose_32 : decode cX12_propose 32 = .ok (.iload_n 1, 1) := by decide +kernel
theorem dX12_propose_33 : decode cX12_propose 33 = .ok (.imul, 1) := by decide +kernel
theorem dX12_propose_34 : decode cX12_propose 34 = .ok (.aload_n 0, 1) := by decide +kernel
theorem dX12_propose_35 : decode cX12_propose 35 = .ok (.getfield 372, 3) := by decide +kernel
theorem dX12_propose_38 : decode cX12_propose 38 = .ok (.iload_n 1, 1) := by decide +kernel
theorem dX12_propose_39 : decode cX12_propose 39 = .ok (.iaload, 1) := by decide +kernel
theorem dX12_propose_40 : decode cX12_propose 40 = .ok (.iadd, 1) := by decide +kernel
theorem dX12_propose_41 : decode cX12_propose 41 = .ok (.istore 4, 2) := by decide +kernel
theorem dX12_propose_43 : decode cX12_propose 43 = .ok (.aload_n 0, 1) := by decide +kernel
theorem dX12_propose_44 : decode cX12_propose 44 = .ok (.getfield 375, 3) := by decide +kernel
theorem dX12_propose_47 : decode cX12_propose 47 = .ok (.iload 4, 2) := by decide +kernel
theorem dX12_propose_49 : decode cX12_propose 49 = .ok (.iconst 1, 1) := by decide +kernel
theorem dX12_propose_50 : decode cX12_propose 50 = .ok (.iastore, 1) := by decide +kernel
theorem dX12_propose_51 : decode cX12_propose 51 = .ok (.aload_n 0, 1) := by decide +kernel
theorem dX12_propose_52 : decode cX12_propose 52 = .ok (.getfield 378, 3) := by decide +kernel
theorem dX12_propose_55 : decode cX12_propose 55 = .ok (.iload 4, 2) := by decide +kernel
theorem dX12_propose_57 : decode cX12_propose 57 = .ok (.aload_n 0, 1) := by decide +kernel
theorem dX12_propose_58 : decode cX12_propose 58 = .ok (.getfield 312, 3) := by decide +kernel
theorem dX12_propose_61 : decode cX12_propose 61 = .ok (.iload_n 1, 1) := by decide +kernel
theorem dX12_propose_62 : decode cX12_propose 62 = .ok (.iaload, 1) := by decide +kernel
theorem dX12_propose_63 : decode cX12_propose 63 = .ok (.iastore, 1) := by decide +kernel
theorem dX12_propose_64 : decode cX12_propose 64 = .ok (.aload_n 0, 1) := by decide +kernel
theorem dX12_propose_65 : decode cX12_propose 65 = .ok (.getfield 381, 3) := by decide +kernel
theorem dX12_propose_68 : decode cX12_propose 68 = .ok (.iload 4, 2) := by decide +kernel
theorem dX12_propose_70 : decode cX12_propose 70 = .ok (.iload_n 2, 1) := by decide +kernel
theorem dX12_propose_71 : decode cX12_propose 71 = .ok (.iastore, 1) := by decide +kernel
theorem dX12_propose_72 : decode cX12_propose 72 = .ok (.aload_n 0, 1) := by decide +kernel
theorem dX12_propose_73 : decode cX12_propose 73 = .ok (.iload_n 3, 1) := by decide +kernel
theorem dX12_propose_74 : decode cX12_propose 74 = .ok (.sipush 1144, 3) := by decide +kernel
theorem dX12_propose_77 : decode cX12_propose 77 = .ok (.bipush 16, 2) := by decide +kernel
theorem dX12_propose_79 : decode cX12_propose 79 = .ok (.iload_n 1, 1) := by decide +kernel
theorem dX12_propose_80 : decode cX12_propose 80 = .ok (.imul, 1) := by decide +kernel
theorem dX12_propose_81 : decode cX12_propose 81 = .ok (.iadd, 1) := by decide +kernel
theorem dX12_propose_82 : decode cX12_propose 82 = .ok (.aload_n 0, 1) := by decide +kernel
theorem dX12_propose_83 : decode cX12_propose 83 = .ok (.getfield 312, 3) := by decide +kernel
theorem dX12_propose_86 : decode cX12_propose 86 = .ok (.iload_n 1, 1) := by decide +kernel
theorem dX12_propose_87 : decode cX12_propose 87 = .ok (.iaload, 1) := by decide +kernel
theorem dX12_propose_88 : decode cX12_propose 88 = .ok (.iadd, 1) := by decide +kernel
theorem dX12_propose_89 : decode cX12_propose 89 = .ok (.invokevirtual 507, 3) := by decide +kernel
theorem dX12_propose_92 : decode cX12_propose 92 = .ok (.aload_n 0, 1) := by decide +kernel
theorem dX12_propose_93 : decode cX12_propose 93 = .ok (.iload_n 1, 1) := by decide +kernel
theorem dX12_propose_94 : decode cX12_propose 94 = .ok (.invokevirtual 534, 3) := by decide +kernel
theorem dX12_propose_97 : decode cX12_propose 97 = .ok (.iconst 1, 1) := by decide +kernel
theorem dX12_propose_98 : decode cX12_propose 98 = .ok (.ireturn, 1) := by decide +kernel
theorem dX12_vote_0 : decode cX12_vote 0 = .ok (.aload_n 0, 1) := by decide +kernel
theorem dX12_vote_1 : decode cX12_vote 1 = .ok (.iload_n 2, 1) := by decide +kernel
theorem dX12_vote_2 : decode cX12_vote 2 = .ok (.iload_n 1, 1) := by decide +kernel
theorem dX12_vote_3 : decode cX12_vote 3 = .ok (.aload_n 0, 1) := by decide +kernel
theorem dX12_vote_4 : decode cX12_vote 4 = .ok (.getfield 309, 3) := by decide +kernel
theorem dX12_vote_7 : decode cX12_vote 7 = .ok (.iload_n 1, 1) := by decide +kernel
theorem dX12_vote_8 : decode cX12_vote 8 = .ok (.iaload, 1) := by decide +kernel
theorem dX12_vote_9 : decode cX12_vote 9 = .ok (.aload_n 0, 1) := by decide +kernel
theorem dX12_vote_10 : decode cX12_vote 10 = .ok (.getfield 312, 3) := by decide +kernel
theorem dX12_vote_13 : decode cX12_vote 13 = .ok (.iload_n 1, 1) := by decide +kernel
theorem dX12_vote_14 : decode cX12_vote 14 = .ok (.iaload, 1) := by decide +kernel
theorem dX12_vote_15 : decode cX12_vote 15 = .ok (.invokevirtual 520, 3) := by decide +kernel
theorem dX12_vote_18 : decode cX12_vote 18 = .ok (.iload_n 3, 1) := by decide +kernel
theorem dX12_vote_19 : decode cX12_vote 19 = .ok (.ifCond .lt 48, 3) := by decide +kernel
theorem dX12_vote_22 : decode cX12_vote 22 = .ok (.aload_n 0, 1) := by decide +kernel
theorem dX12_vote_23 : decode cX12_vote 23 = .ok (.aload_n 0, 1) := by decide +kernel
theorem dX12_vote_24 : decode cX12_vote 24 = .ok (.getfield 60, 3) := by decide +kernel
theorem dX12_vote_27 : decode cX12_vote 27 = .ok (.iconst 4, 1) := by decide +kernel
theorem dX12_vote_28 : decode cX12_vote 28 = .ok (.iload_n 3, 1) := by decide +kernel
theorem dX12_vote_29 : decode cX12_vote 29 = .ok (.imul, 1) := by decide +kernel
theorem dX12_vote_30 : decode cX12_vote 30 = .ok (.laload, 1) := by decide +kernel
theorem dX12_vote_31 : decode cX12_vote 31 = .ok (.aload_n 0, 1) := by decide +kernel
theorem dX12_vote_32 : decode cX12_vote 32 = .ok (.getfield 60, 3) := by decide +kernel
theorem dX12_vote_35 : decode cX12_vote 35 = .ok (.iconst 4, 1) := by decide +kernel
theorem dX12_vote_36 : decode cX12_vote 36 = .ok (.iload_n 3, 1) := by decide +kernel
theorem dX12_vote_37 : decode cX12_vote 37 = .ok (.imul, 1) := by decide +kernel
theorem dX12_vote_38 : decode cX12_vote 38 = .ok (.iconst 1, 1) := by decide +kernel
theorem dX12_vote_39 : decode cX12_vote 39 = .ok (.iadd, 1) := by decide +kernel
theorem dX12_vote_40 : decode cX12_vote 40 = .ok (.laload, 1) := by decide +kernel
theorem dX12_vote_41 : decode cX12_vote 41 = .ok (.aload_n 0, 1) := by decide +kernel
theorem dX12_vote_42 : decode cX12_vote 42 = .ok (.getfield 60, 3) := by decide +kernel
theorem dX12_vote_45 : decode cX12_vote 45 = .ok (.iconst 4, 1) := by decide +kernel
theorem dX12_vote_46 : decode cX12_vote 46 = .ok (.iload_n 3, 1) := by decide +kernel
theorem dX12_vote_47 : decode cX12_vote 47 = .ok (.imul, 1) := by decide +kernel
theorem dX12_vote_48 : decode cX12_vote 48 = .ok (.iconst 2, 1) := by decide +kernel
theorem dX12_vote_49 : decode cX12_vote 49 = .ok (.iadd, 1) := by decide +kernel
theorem dX12_vote_50 : decode cX12_vote 50 = .ok (.laload, 1) := by decide +kernel
theorem dX12_vote_51 : decode cX12_vote 51 = .ok (.aload_n 0, 1) := by decide +kernel
theorem dX12_vote_52 : decode cX12_vote 52 = .ok (.getfield 60, 3) := by decide +kernel
theorem dX12_vote_55 : decode cX12_vote 55 = .ok (.iconst 4, 1) := by decide +kernel
theorem dX12_vote_56 : decode cX12_vote 56 = .ok (.iload_n 3, 1) := by decide +kernel
theorem dX12_vote_57 : decode cX12_vote 57 = .ok (.imul, 1) := by decide +kernel
theorem dX12_vote_58 : decode cX12_vote 58 = .ok (.iconst 3, 1) := by decide +kernel
theorem dX12_vote_59 : decode cX12_vote 59 = .ok (.iadd, 1) := by decide +kernel
theorem dX12_vote_60 : decode cX12_vote 60 = .ok (.laload, 1) := by decide +kernel
theorem dX12_vote_61 : decode cX12_vote 61 = .ok (.invokevirtual 537, 3) := by decide +kernel
theorem dX12_vote_64 : decode cX12_vote 64 = .ok (.goto 8, 3) := by decide +kernel
theorem dX12_vote_67 : decode cX12_vote 67 = .ok (.aload_n 0, 1) := by decide +kernel
theorem dX12_vote_68 : decode cX12_vote 68 = .ok (.iconst 0, 1) := by decide +kernel
theorem dX12_vote_69 : decode cX12_vote 69 = .ok (.invokevirtual 226, 3) := by decide +kernel
theorem dX12_vote_72 : decode cX12_vote 72 = .ok (.aload_n 0, 1) := by decide +kernel
theorem dX12_vote_73 : decode cX12_vote 73 = .ok (.iload_n 1, 1) := by decide +kernel
theorem dX12_vote_74 : decode cX12_vote 74 = .ok (.iload 4, 2) := by decide +kernel
theorem dX12_vote_76 : decode cX12_vote 76 = .ok (.invokevirtual 531, 3) := by decide +kernel
theorem dX12_vote_79 : decode cX12_vote 79 = .ok (.ifCond .ne 5, 3) := by decide +kernel
theorem dX12_vote_82 : decode cX12_vote 82 = .ok (.iconst 0, 1) := by decide +kernel
theorem dX12_vote_83 : decode cX12_vote 83 = .ok (.ireturn, 1) := by decide +kernel
theorem dX12_vote_84 : decode cX12_vote 84 = .ok (.aload_n 0, 1) := by decide +kernel
theorem dX12_vote_85 : decode cX12_vote 85 = .ok (.getfield 315, 3) := by decide +kernel
theorem dX12_vote_88 : decode cX12_vote 88 = .ok (.iload_n 1, 1) := by decide +kernel
theorem dX12_vote_89 : decode cX12_vote 89 = .ok (.iload 4, 2) := by decide +kernel
theorem dX12_vote_91 : decode cX12_vote 91 = .ok (.iastore, 1) := by decide +kernel
theorem dX12_vote_92 : decode cX12_vote 92 = .ok (.bipush 64, 2) := by decide +kernel
theorem dX12_vote_94 : decode cX12_vote 94 = .ok (.iload_n 1, 1) := by decide +kernel
theorem dX12_vote_95 : decode cX12_vote 95 = .ok (.imul, 1) := by decide +kernel
theorem dX12_vote_96 : decode cX12_vote 96 = .ok (.aload_n 0, 1) := by decide +kernel
theorem dX12_vote_97 : decode cX12_vote 97 = .ok (.getfield 372, 3) := by decide +kernel
theorem dX12_vote_100 : decode cX12_vote 100 = .ok (.iload_n 1, 1) := by decide +kernel
theorem dX12_vote_101 : decode cX12_vote 101 = .ok (.iaload, 1) := by decide +kernel
theorem dX12_vote_102 : decode cX12_vote 102 = .ok (.iadd, 1) := by decide +kernel
theorem dX12_vote_103 : decode cX12_vote 103 = .ok (.istore 5, 2) := by decide +kernel
theorem dX12_vote_105 : decode cX12_vote 105 = .ok (.aload_n 0, 1) := by decide +kernel
theorem dX12_vote_106 : decode cX12_vote 106 = .ok (.getfield 375, 3) := by decide +kernel
theorem dX12_vote_109 : decode cX12_vote 109 = .ok (.iload 5, 2) := by decide +kernel
theorem dX12_vote_111 : decode cX12_vote 111 = .ok (.iload_n 2, 1) := by decide +kernel
theorem dX12_vote_112 : decode cX12_vote 112 = .ok (.iastore, 1) := by decide +kernel
theorem dX12_vote_113 : decode cX12_vote 113 = .ok (.aload_n 0, 1) := by decide +kernel
theorem dX12_vote_114 : decode cX12_vote 114 = .ok (.getfield 378, 3) := by decide +kernel
theorem dX12_vote_117 : decode cX12_vote 117 = .ok (.iload 5, 2) := by decide +kernel
theorem dX12_vote_119 : decode cX12_vote 119 = .ok (.aload_n 0, 1) := by decide +kernel
theorem dX12_vote_120 : decode cX12_vote 120 = .ok (.getfield 312, 3) := by decide +kernel
theorem dX12_vote_123 : decode cX12_vote 123 = .ok (.iload_n 1, 1) := by decide +kernel
theorem dX12_vote_124 : decode cX12_vote 124 = .ok (.iaload, 1) := by decide +kernel
theorem dX12_vote_125 : decode cX12_vote 125 = .ok (.iastore, 1) := by decide +kernel
theorem dX12_vote_126 : decode cX12_vote 126 = .ok (.aload_n 0, 1) := by decide +kernel
theorem dX12_vote_127 : decode cX12_vote 127 = .ok (.getfield 384, 3) := by decide +kernel
theorem dX12_vote_130 : decode cX12_vote 130 = .ok (.iload 5, 2) := by decide +kernel
theorem dX12_vote_132 : decode cX12_vote 132 = .ok (.iload_n 3, 1) := by decide +kernel
theorem dX12_vote_133 : decode cX12_vote 133 = .ok (.ifCond .lt 7, 3) := by decide +kernel
theorem dX12_vote_136 : decode cX12_vote 136 = .ok (.iconst 1, 1) := by decide +kernel
theorem dX12_vote_137 : decode cX12_vote 137 = .ok (.goto 4, 3) := by decide +kernel
theorem dX12_vote_140 : decode cX12_vote 140 = .ok (.iconst 0, 1) := by decide +kernel
theorem dX12_vote_141 : decode cX12_vote 141 = .ok (.bastore, 1) := by decide +kernel
theorem dX12_vote_142 : decode cX12_vote 142 = .ok (.iconst 0, 1) := by decide +kernel
theorem dX12_vote_143 : decode cX12_vote 143 = .ok (.istore 6, 2) := by decide +kernel
theorem dX12_vote_145 : decode cX12_vote 145 = .ok (.iload 6, 2) := by decide +kernel
theorem dX12_vote_147 : decode cX12_vote 147 = .ok (.iconst 4, 1) := by decide +kernel
theorem dX12_vote_148 : decode cX12_vote 148 = .ok (.if_icmp .ge 40, 3) := by decide +kernel
theorem dX12_vote_151 : decode cX12_vote 151 = .ok (.aload_n 0, 1) := by decide +kernel
theorem dX12_vote_152 : decode cX12_vote 152 = .ok (.getfield 387, 3) := by decide +kernel
theorem dX12_vote_155 : decode cX12_vote 155 = .ok (.iconst 4, 1) := by decide +kernel
theorem dX12_vote_156 : decode cX12_vote 156 = .ok (.iload 5, 2) := by decide +kernel
theorem dX12_vote_158 : decode cX12_vote 158 = .ok (.imul, 1) := by decide +kernel
theorem dX12_vote_159 : decode cX12_vote 159 = .ok (.iload 6, 2) := by decide +kernel
theorem dX12_vote_161 : decode cX12_vote 161 = .ok (.iadd, 1) := by decide +kernel
theorem dX12_vote_162 : decode cX12_vote 162 = .ok (.iload_n 3, 1) := by decide +kernel
theorem dX12_vote_163 : decode cX12_vote 163 = .ok (.ifCond .lt 17, 3) := by decide +kernel
theorem dX12_vote_166 : decode cX12_vote 166 = .ok (.aload_n 0, 1) := by decide +kernel
theorem dX12_vote_167 : decode cX12_vote 167 = .ok (.getfield 60, 3) := by decide +kernel
theorem dX12_vote_170 : decode cX12_vote 170 = .ok (.iconst 4, 1) := by decide +kernel
theorem dX12_vote_171 : decode cX12_vote 171 = .ok (.iload_n 3, 1) := by decide +kernel
theorem dX12_vote_172 : decode cX12_vote 172 = .ok (.imul, 1) := by decide +kernel
theorem dX12_vote_173 : decode cX12_vote 173 = .ok (.iload 6, 2) := by decide +kernel
theorem dX12_vote_175 : decode cX12_vote 175 = .ok (.iadd, 1) := by decide +kernel
theorem dX12_vote_176 : decode cX12_vote 176 = .ok (.laload, 1) := by decide +kernel
theorem dX12_vote_177 : decode cX12_vote 177 = .ok (.goto 4, 3) := by decide +kernel
theorem dX12_vote_180 : decode cX12_vote 180 = .ok (.lconst 0, 1) := by decide +kernel
theorem dX12_vote_181 : decode cX12_vote 181 = .ok (.lastore, 1) := by decide +kernel
theorem dX12_vote_182 : decode cX12_vote 182 = .ok (.iinc 6 1, 3) := by decide +kernel
theorem dX12_vote_185 : decode cX12_vote 185 = .ok (.goto (-40), 3) := by decide +kernel
theorem dX12_vote_188 : decode cX12_vote 188 = .ok (.aload_n 0, 1) := by decide +kernel
theorem dX12_vote_189 : decode cX12_vote 189 = .ok (.iload_n 1, 1) := by decide +kernel
theorem dX12_vote_190 : decode cX12_vote 190 = .ok (.invokevirtual 534, 3) := by decide +kernel
theorem dX12_vote_193 : decode cX12_vote 193 = .ok (.iconst 1, 1) := by decide +kernel
theorem dX12_vote_194 : decode cX12_vote 194 = .ok (.ireturn, 1) := by decide +kernel
theorem dX12_pay_0 : decode cX12_pay 0 = .ok (.aload_n 0, 1) := by decide +kernel
theorem dX12_pay_1 : decode cX12_pay 1 = .ok (.getfield 433, 3) := by decide +kernel
theorem dX12_pay_4 : decode cX12_pay 4 = .ok (.iload_n 1, 1) := by decide +kernel
theorem dX12_pay_5 : decode cX12_pay 5 = .ok (.iaload, 1) := by decide +kernel
theorem dX12_pay_6 : decode cX12_pay 6 = .ok (.iload 4, 2) := by decide +kernel
theorem dX12_pay_8 : decode cX12_pay 8 = .ok (.if_icmp .ne 16, 3) := by decide +kernel
theorem dX12_pay_11 : decode cX12_pay 11 = .ok (.aload_n 0, 1) := by decide +kernel
theorem dX12_pay_12 : decode cX12_pay 12 = .ok (.getfield 430, 3) := by decide +kernel
theorem dX12_pay_15 : decode cX12_pay 15 = .ok (.iload_n 1, 1) := by decide +kernel
theorem dX12_pay_16 : decode cX12_pay 16 = .ok (.iaload, 1) := by decide +kernel
theorem dX12_pay_17 : decode cX12_pay 17 = .ok (.iload_n 3, 1) := by decide +kernel
theorem dX12_pay_18 : decode cX12_pay 18 = .ok (.iload 5, 2) := by decide +kernel
theorem dX12_pay_20 : decode cX12_pay 20 = .ok (.iadd, 1) := by decide +kernel
theorem dX12_pay_21 : decode cX12_pay 21 = .ok (.if_icmp .ge 5, 3) := by decide +kernel
theorem dX12_pay_24 : decode cX12_pay 24 = .ok (.iconst 0, 1) := by decide +kernel
theorem dX12_pay_25 : decode cX12_pay 25 = .ok (.ireturn, 1) := by decide +kernel
theorem dX12_pay_26 : decode cX12_pay 26 = .ok (.aload_n 0, 1) := by decide +kernel
theorem dX12_pay_27 : decode cX12_pay 27 = .ok (.getfield 430, 3) := by decide +kernel
theorem dX12_pay_30 : decode cX12_pay 30 = .ok (.iload_n 1, 1) := by decide +kernel
theorem dX12_pay_31 : decode cX12_pay 31 = .ok (.aload_n 0, 1) := by decide +kernel
theorem dX12_pay_32 : decode cX12_pay 32 = .ok (.getfield 430, 3) := by decide +kernel
theorem dX12_pay_35 : decode cX12_pay 35 = .ok (.iload_n 1, 1) := by decide +kernel
theorem dX12_pay_36 : decode cX12_pay 36 = .ok (.iaload, 1) := by decide +kernel
theorem dX12_pay_37 : decode cX12_pay 37 = .ok (.iload_n 3, 1) := by decide +kernel
theorem dX12_pay_38 : decode cX12_pay 38 = .ok (.isub, 1) := by decide +kernel
theorem dX12_pay_39 : decode cX12_pay 39 = .ok (.iload 5, 2) := by decide +kernel
theorem dX12_pay_41 : decode cX12_pay 41 = .ok (.isub, 1) := by decide +kernel
theorem dX12_pay_42 : decode cX12_pay 42 = .ok (.iastore, 1) := by decide +kernel
theorem dX12_pay_43 : decode cX12_pay 43 = .ok (.aload_n 0, 1) := by decide +kernel
theorem dX12_pay_44 : decode cX12_pay 44 = .ok (.getfield 430, 3) := by decide +kernel
theorem dX12_pay_47 : decode cX12_pay 47 = .ok (.iload_n 2, 1) := by decide +kernel
theorem dX12_pay_48 : decode cX12_pay 48 = .ok (.aload_n 0, 1) := by decide +kernel
theorem dX12_pay_49 : decode cX12_pay 49 = .ok (.getfield 430, 3) := by decide +kernel
theorem dX12_pay_52 : decode cX12_pay 52 = .ok (.iload_n 2, 1) := by decide +kernel
theorem dX12_pay_53 : decode cX12_pay 53 = .ok (.iaload, 1) := by decide +kernel
theorem dX12_pay_54 : decode cX12_pay 54 = .ok (.iload_n 3, 1) := by decide +kernel
theorem dX12_pay_55 : decode cX12_pay 55 = .ok (.iadd, 1) := by decide +kernel
theorem dX12_pay_56 : decode cX12_pay 56 = .ok (.iastore, 1) := by decide +kernel
theorem dX12_pay_57 : decode cX12_pay 57 = .ok (.aload_n 0, 1) := by decide +kernel
theorem dX12_pay_58 : decode cX12_pay 58 = .ok (.getfield 430, 3) := by decide +kernel
theorem dX12_pay_61 : decode cX12_pay 61 = .ok (.iload 6, 2) := by decide +kernel
theorem dX12_pay_63 : decode cX12_pay 63 = .ok (.aload_n 0, 1) := by decide +kernel
theorem dX12_pay_64 : decode cX12_pay 64 = .ok (.getfield 430, 3) := by decide +kernel
theorem dX12_pay_67 : decode cX12_pay 67 = .ok (.iload 6, 2) := by decide +kernel
theorem dX12_pay_69 : decode cX12_pay 69 = .ok (.iaload, 1) := by decide +kernel
theorem dX12_pay_70 : decode cX12_pay 70 = .ok (.iload 5, 2) := by decide +kernel
theorem dX12_pay_72 : decode cX12_pay 72 = .ok (.iadd, 1) := by decide +kernel
theorem dX12_pay_73 : decode cX12_pay 73 = .ok (.iastore, 1) := by decide +kernel
theorem dX12_pay_74 : decode cX12_pay 74 = .ok (.aload_n 0, 1) := by decide +kernel
theorem dX12_pay_75 : decode cX12_pay 75 = .ok (.getfield 433, 3) := by decide +kernel
theorem dX12_pay_78 : decode cX12_pay 78 = .ok (.iload_n 1, 1) := by decide +kernel
theorem dX12_pay_79 : decode cX12_pay 79 = .ok (.aload_n 0, 1) := by decide +kernel
theorem dX12_pay_80 : decode cX12_pay 80 = .ok (.getfield 433, 3) := by decide +kernel
theorem dX12_pay_83 : decode cX12_pay 83 = .ok (.iload_n 1, 1) := by decide +kernel
theorem dX12_pay_84 : decode cX12_pay 84 = .ok (.iaload, 1) := by decide +kernel
theorem dX12_pay_85 : decode cX12_pay 85 = .ok (.iconst 1, 1) := by decide +kernel
theorem dX12_pay_86 : decode cX12_pay 86 = .ok (.iadd, 1) := by decide +kernel
theorem dX12_pay_87 : decode cX12_pay 87 = .ok (.iastore, 1) := by decide +kernel
theorem dX12_pay_88 : decode cX12_pay 88 = .ok (.iconst 1, 1) := by decide +kernel
theorem dX12_pay_89 : decode cX12_pay 89 = .ok (.ireturn, 1) := by decide +kernel
theorem dX12_fine_0 : decode cX12_fine 0 = .ok (.aload_n 0, 1) := by decide +kernel
theorem dX12_fine_1 : decode cX12_fine 1 = .ok (.getfield 436, 3) := by decide +kernel
theorem dX12_fine_4 : decode cX12_fine 4 = .ok (.iload_n 1, 1) := by decide +kernel
theorem dX12_fine_5 : decode cX12_fine 5 = .ok (.baload, 1) := by decide +kernel
theorem dX12_fine_6 : decode cX12_fine 6 = .ok (.ifCond .eq 5, 3) := by decide +kernel
theorem dX12_fine_9 : decode cX12_fine 9 = .ok (.iconst 0, 1) := by decide +kernel
theorem dX12_fine_10 : decode cX12_fine 10 = .ok (.ireturn, 1) := by decide +kernel
theorem dX12_fine_11 : decode cX12_fine 11 = .ok (.aload_n 0, 1) := by decide +kernel
theorem dX12_fine_12 : decode cX12_fine 12 = .ok (.getfield 436, 3) := by decide +kernel
theorem dX12_fine_15 : decode cX12_fine 15 = .ok (.iload_n 1, 1) := by decide +kernel
theorem dX12_fine_16 : decode cX12_fine 16 = .ok (.iconst 1, 1) := by decide +kernel
theorem dX12_fine_17 : decode cX12_fine 17 = .ok (.bastore, 1) := by decide +kernel
theorem dX12_fine_18 : decode cX12_fine 18 = .ok (.aload_n 0, 1) := by decide +kernel
theorem dX12_fine_19 : decode cX12_fine 19 = .ok (.getfield 430, 3) := by decide +kernel
theorem dX12_fine_22 : decode cX12_fine 22 = .ok (.iload_n 1, 1) := by decide +kernel
theorem dX12_fine_23 : decode cX12_fine 23 = .ok (.iaload, 1) := by decide +kernel
theorem dX12_fine_24 : decode cX12_fine 24 = .ok (.bipush 100, 2) := by decide +kernel
theorem dX12_fine_26 : decode cX12_fine 26 = .ok (.if_icmp .ge 12, 3) := by decide +kernel
theorem dX12_fine_29 : decode cX12_fine 29 = .ok (.aload_n 0, 1) := by decide +kernel
theorem dX12_fine_30 : decode cX12_fine 30 = .ok (.getfield 430, 3) := by decide +kernel
theorem dX12_fine_33 : decode cX12_fine 33 = .ok (.iload_n 1, 1) := by decide +kernel
theorem dX12_fine_34 : decode cX12_fine 34 = .ok (.iaload, 1) := by decide +kernel
theorem dX12_fine_35 : decode cX12_fine 35 = .ok (.goto 5, 3) := by decide +kernel
theorem dX12_fine_38 : decode cX12_fine 38 = .ok (.bipush 100, 2) := by decide +kernel
theorem dX12_fine_40 : decode cX12_fine 40 = .ok (.istore_n 3, 1) := by decide +kernel
theorem dX12_fine_41 : decode cX12_fine 41 = .ok (.aload_n 0, 1) := by decide +kernel
theorem dX12_fine_42 : decode cX12_fine 42 = .ok (.getfield 430, 3) := by decide +kernel
theorem dX12_fine_45 : decode cX12_fine 45 = .ok (.iload_n 1, 1) := by decide +kernel
theorem dX12_fine_46 : decode cX12_fine 46 = .ok (.aload_n 0, 1) := by decide +kernel
theorem dX12_fine_47 : decode cX12_fine 47 = .ok (.getfield 430, 3) := by decide +kernel
theorem dX12_fine_50 : decode cX12_fine 50 = .ok (.iload_n 1, 1) := by decide +kernel
theorem dX12_fine_51 : decode cX12_fine 51 = .ok (.iaload, 1) := by decide +kernel
theorem dX12_fine_52 : decode cX12_fine 52 = .ok (.iload_n 3, 1) := by decide +kernel
theorem dX12_fine_53 : decode cX12_fine 53 = .ok (.isub, 1) := by decide +kernel
theorem dX12_fine_54 : decode cX12_fine 54 = .ok (.iastore, 1) := by decide +kernel
theorem dX12_fine_55 : decode cX12_fine 55 = .ok (.aload_n 0, 1) := by decide +kernel
theorem dX12_fine_56 : decode cX12_fine 56 = .ok (.getfield 430, 3) := by decide +kernel
theorem dX12_fine_59 : decode cX12_fine 59 = .ok (.iload_n 2, 1) := by decide +kernel
theorem dX12_fine_60 : decode cX12_fine 60 = .ok (.aload_n 0, 1) := by decide +kernel
theorem dX12_fine_61 : decode cX12_fine 61 = .ok (.getfield 430, 3) := by decide +kernel
theorem dX12_fine_64 : decode cX12_fine 64 = .ok (.iload_n 2, 1) := by decide +kernel
theorem dX12_fine_65 : decode cX12_fine 65 = .ok (.iaload, 1) := by decide +kernel
theorem dX12_fine_66 : decode cX12_fine 66 = .ok (.iload_n 3, 1) := by decide +kernel
theorem dX12_fine_67 : decode cX12_fine 67 = .ok (.iadd, 1) := by decide +kernel
theorem dX12_fine_68 : decode cX12_fine 68 = .ok (.iastore, 1) := by decide +kernel
theorem dX12_fine_69 : decode cX12_fine 69 = .ok (.iconst 1, 1) := by decide +kernel
theorem dX12_fine_70 : decode cX12_fine 70 = .ok (.ireturn, 1) := by decide +kernel
theorem dX12_doParts_0 : decode cX12_doParts 0 = .ok (.bipush 101, 2) := by decide +kernel
theorem dX12_doParts_2 : decode cX12_doParts 2 = .ok (.istore_n 2, 1) := by decide +kernel
theorem dX12_doParts_3 : decode cX12_doParts 3 = .ok (.iconst 1, 1) := by decide +kernel
theorem dX12_doParts_4 : decode cX12_doParts 4 = .ok (.istore_n 3, 1) := by decide +kernel
theorem dX12_doParts_5 : decode cX12_doParts 5 = .ok (.iconst 0, 1) := by decide +kernel
theorem dX12_doParts_6 : decode cX12_doParts 6 = .ok (.istore 4, 2) := by decide +kernel
theorem dX12_doParts_8 : decode cX12_doParts 8 = .ok (.iload 4, 2) := by decide +kernel
theorem dX12_doParts_10 : decode cX12_doParts 10 = .ok (.aload_n 0, 1) := by decide +kernel
theorem dX12_doParts_11 : decode cX12_doParts 11 = .ok (.iload_n 1, 1) := by decide +kernel
theorem dX12_doParts_12 : decode cX12_doParts 12 = .ok (.invokevirtual 115, 3) := by decide +kernel
theorem dX12_doParts_15 : decode cX12_doParts 15 = .ok (.if_icmp .ge 38, 3) := by decide +kernel
theorem dX12_doParts_18 : decode cX12_doParts 18 = .ok (.iload_n 3, 1) := by decide +kernel
theorem dX12_doParts_19 : decode cX12_doParts 19 = .ok (.ifCond .eq 34, 3) := by decide +kernel
theorem dX12_doParts_22 : decode cX12_doParts 22 = .ok (.aload_n 0, 1) := by decide +kernel
theorem dX12_doParts_23 : decode cX12_doParts 23 = .ok (.aload_n 0, 1) := by decide +kernel
theorem dX12_doParts_24 : decode cX12_doParts 24 = .ok (.iload_n 1, 1) := by decide +kernel
theorem dX12_doParts_25 : decode cX12_doParts 25 = .ok (.iload_n 2, 1) := by decide +kernel
theorem dX12_doParts_26 : decode cX12_doParts 26 = .ok (.invokevirtual 67, 3) := by decide +kernel
theorem dX12_doParts_29 : decode cX12_doParts 29 = .ok (.aload_n 0, 1) := by decide +kernel
theorem dX12_doParts_30 : decode cX12_doParts 30 = .ok (.iload_n 1, 1) := by decide +kernel
theorem dX12_doParts_31 : decode cX12_doParts 31 = .ok (.invokevirtual 541, 3) := by decide +kernel
theorem dX12_doParts_34 : decode cX12_doParts 34 = .ok (.invokevirtual 544, 3) := by decide +kernel
theorem dX12_doParts_37 : decode cX12_doParts 37 = .ok (.istore_n 3, 1) := by decide +kernel
theorem dX12_doParts_38 : decode cX12_doParts 38 = .ok (.iload_n 2, 1) := by decide +kernel
theorem dX12_doParts_39 : decode cX12_doParts 39 = .ok (.aload_n 0, 1) := by decide +kernel
theorem dX12_doParts_40 : decode cX12_doParts 40 = .ok (.iload_n 1, 1) := by decide +kernel
theorem dX12_doParts_41 : decode cX12_doParts 41 = .ok (.iload_n 2, 1) := by decide +kernel
theorem dX12_doParts_42 : decode cX12_doParts 42 = .ok (.invokevirtual 121, 3) := by decide +kernel
theorem dX12_doParts_45 : decode cX12_doParts 45 = .ok (.iadd, 1) := by decide +kernel
theorem dX12_doParts_46 : decode cX12_doParts 46 = .ok (.istore_n 2, 1) := by decide +kernel
theorem dX12_doParts_47 : decode cX12_doParts 47 = .ok (.iinc 4 1, 3) := by decide +kernel
theorem dX12_doParts_50 : decode cX12_doParts 50 = .ok (.goto (-42), 3) := by decide +kernel
theorem dX12_doParts_53 : decode cX12_doParts 53 = .ok (.iconst 0, 1) := by decide +kernel
theorem dX12_doParts_54 : decode cX12_doParts 54 = .ok (.istore 4, 2) := by decide +kernel
theorem dX12_doParts_56 : decode cX12_doParts 56 = .ok (.iload 4, 2) := by decide +kernel
theorem dX12_doParts_58 : decode cX12_doParts 58 = .ok (.aload_n 0, 1) := by decide +kernel
theorem dX12_doParts_59 : decode cX12_doParts 59 = .ok (.iload_n 1, 1) := by decide +kernel
theorem dX12_doParts_60 : decode cX12_doParts 60 = .ok (.invokevirtual 118, 3) := by decide +kernel
theorem dX12_doParts_63 : decode cX12_doParts 63 = .ok (.if_icmp .ge 91, 3) := by decide +kernel
theorem dX12_doParts_66 : decode cX12_doParts 66 = .ok (.iload_n 3, 1) := by decide +kernel
theorem dX12_doParts_67 : decode cX12_doParts 67 = .ok (.ifCond .eq 87, 3) := by decide +kernel
theorem dX12_doParts_70 : decode cX12_doParts 70 = .ok (.aload_n 0, 1) := by decide +kernel
theorem dX12_doParts_71 : decode cX12_doParts 71 = .ok (.aload_n 0, 1) := by decide +kernel
theorem dX12_doParts_72 : decode cX12_doParts 72 = .ok (.iload_n 1, 1) := by decide +kernel
theorem dX12_doParts_73 : decode cX12_doParts 73 = .ok (.iload_n 2, 1) := by decide +kernel
theorem dX12_doParts_74 : decode cX12_doParts 74 = .ok (.invokevirtual 67, 3) := by decide +kernel
theorem dX12_doParts_77 : decode cX12_doParts 77 = .ok (.aload_n 0, 1) := by decide +kernel
theorem dX12_doParts_78 : decode cX12_doParts 78 = .ok (.iload_n 1, 1) := by decide +kernel
theorem dX12_doParts_79 : decode cX12_doParts 79 = .ok (.iload_n 2, 1) := by decide +kernel
theorem dX12_doParts_80 : decode cX12_doParts 80 = .ok (.iconst 1, 1) := by decide +kernel
theorem dX12_doParts_81 : decode cX12_doParts 81 = .ok (.iadd, 1) := by decide +kernel
theorem dX12_doParts_82 : decode cX12_doParts 82 = .ok (.invokevirtual 67, 3) := by decide +kernel
theorem dX12_doParts_85 : decode cX12_doParts 85 = .ok (.aload_n 0, 1) := by decide +kernel
theorem dX12_doParts_86 : decode cX12_doParts 86 = .ok (.iload_n 1, 1) := by decide +kernel
theorem dX12_doParts_87 : decode cX12_doParts 87 = .ok (.iload_n 2, 1) := by decide +kernel
theorem dX12_doParts_88 : decode cX12_doParts 88 = .ok (.iconst 2, 1) := by decide +kernel
theorem dX12_doParts_89 : decode cX12_doParts 89 = .ok (.iadd, 1) := by decide +kernel
theorem dX12_doParts_90 : decode cX12_doParts 90 = .ok (.invokevirtual 67, 3) := by decide +kernel
theorem dX12_doParts_93 : decode cX12_doParts 93 = .ok (.bipush 8, 2) := by decide +kernel
theorem dX12_doParts_95 : decode cX12_doParts 95 = .ok (.ishl, 1) := by decide +kernel
theorem dX12_doParts_96 : decode cX12_doParts 96 = .ok (.aload_n 0, 1) := by decide +kernel
theorem dX12_doParts_97 : decode cX12_doParts 97 = .ok (.iload_n 1, 1) := by decide +kernel
theorem dX12_doParts_98 : decode cX12_doParts 98 = .ok (.iload_n 2, 1) := by decide +kernel
theorem dX12_doParts_99 : decode cX12_doParts 99 = .ok (.iconst 3, 1) := by decide +kernel
theorem dX12_doParts_100 : decode cX12_doParts 100 = .ok (.iadd, 1) := by decide +kernel
theorem dX12_doParts_101 : decode cX12_doParts 101 = .ok (.invokevirtual 67, 3) := by decide +kernel
theorem dX12_doParts_104 : decode cX12_doParts 104 = .ok (.ior, 1) := by decide +kernel
theorem dX12_doParts_105 : decode cX12_doParts 105 = .ok (.aload_n 0, 1) := by decide +kernel
theorem dX12_doParts_106 : decode cX12_doParts 106 = .ok (.iload_n 1, 1) := by decide +kernel
theorem dX12_doParts_107 : decode cX12_doParts 107 = .ok (.iload_n 2, 1) := by decide +kernel
theorem dX12_doParts_108 : decode cX12_doParts 108 = .ok (.iconst 4, 1) := by decide +kernel
theorem dX12_doParts_109 : decode cX12_doParts 109 = .ok (.iadd, 1) := by decide +kernel
theorem dX12_doParts_110 : decode cX12_doParts 110 = .ok (.invokevirtual 67, 3) := by decide +kernel
theorem dX12_doParts_113 : decode cX12_doParts 113 = .ok (.bipush 8, 2) := by decide +kernel
theorem dX12_doParts_115 : decode cX12_doParts 115 = .ok (.ishl, 1) := by decide +kernel
theorem dX12_doParts_116 : decode cX12_doParts 116 = .ok (.aload_n 0, 1) := by decide +kernel
theorem dX12_doParts_117 : decode cX12_doParts 117 = .ok (.iload_n 1, 1) := by decide +kernel
theorem dX12_doParts_118 : decode cX12_doParts 118 = .ok (.iload_n 2, 1) := by decide +kernel
theorem dX12_doParts_119 : decode cX12_doParts 119 = .ok (.iconst 5, 1) := by decide +kernel
theorem dX12_doParts_120 : decode cX12_doParts 120 = .ok (.iadd, 1) := by decide +kernel
theorem dX12_doParts_121 : decode cX12_doParts 121 = .ok (.invokevirtual 67, 3) := by decide +kernel
theorem dX12_doParts_124 : decode cX12_doParts 124 = .ok (.ior, 1) := by decide +kernel
theorem dX12_doParts_125 : decode cX12_doParts 125 = .ok (.aload_n 0, 1) := by decide +kernel
theorem dX12_doParts_126 : decode cX12_doParts 126 = .ok (.iload_n 1, 1) := by decide +kernel
theorem dX12_doParts_127 : decode cX12_doParts 127 = .ok (.iload_n 2, 1) := by decide +kernel
theorem dX12_doParts_128 : decode cX12_doParts 128 = .ok (.bipush 6, 2) := by decide +kernel
theorem dX12_doParts_130 : decode cX12_doParts 130 = .ok (.iadd, 1) := by decide +kernel
theorem dX12_doParts_131 : decode cX12_doParts 131 = .ok (.invokevirtual 67, 3) := by decide +kernel
theorem dX12_doParts_134 : decode cX12_doParts 134 = .ok (.aload_n 0, 1) := by decide +kernel
theorem dX12_doParts_135 : decode cX12_doParts 135 = .ok (.iload_n 1, 1) := by decide +kernel
theorem dX12_doParts_136 : decode cX12_doParts 136 = .ok (.invokevirtual 541, 3) := by decide +kernel
theorem dX12_doParts_139 : decode cX12_doParts 139 = .ok (.invokevirtual 547, 3) := by decide +kernel
theorem dX12_doParts_142 : decode cX12_doParts 142 = .ok (.istore_n 3, 1) := by decide +kernel
theorem dX12_doParts_143 : decode cX12_doParts 143 = .ok (.iload_n 2, 1) := by decide +kernel
theorem dX12_doParts_144 : decode cX12_doParts 144 = .ok (.bipush 7, 2) := by decide +kernel
theorem dX12_doParts_146 : decode cX12_doParts 146 = .ok (.iadd, 1) := by decide +kernel
theorem dX12_doParts_147 : decode cX12_doParts 147 = .ok (.istore_n 2, 1) := by decide +kernel
theorem dX12_doParts_148 : decode cX12_doParts 148 = .ok (.iinc 4 1, 3) := by decide +kernel
theorem dX12_doParts_151 : decode cX12_doParts 151 = .ok (.goto (-95), 3) := by decide +kernel
theorem dX12_doParts_154 : decode cX12_doParts 154 = .ok (.iload_n 3, 1) := by decide +kernel
theorem dX12_doParts_155 : decode cX12_doParts 155 = .ok (.ireturn, 1) := by decide +kernel
theorem dX12_reckon_0 : decode cX12_reckon 0 = .ok (.iconst 0, 1) := by decide +kernel
theorem dX12_reckon_1 : decode cX12_reckon 1 = .ok (.istore_n 2, 1) := by decide +kernel
theorem dX12_reckon_2 : decode cX12_reckon 2 = .ok (.iload_n 2, 1) := by decide +kernel
theorem dX12_reckon_3 : decode cX12_reckon 3 = .ok (.bipush 16, 2) := by decide +kernel
theorem dX12_reckon_5 : decode cX12_reckon 5 = .ok (.if_icmp .ge 60, 3) := by decide +kernel
theorem dX12_reckon_8 : decode cX12_reckon 8 = .ok (.aload_n 0, 1) := by decide +kernel
theorem dX12_reckon_9 : decode cX12_reckon 9 = .ok (.getfield 430, 3) := by decide +kernel
theorem dX12_reckon_12 : decode cX12_reckon 12 = .ok (.iload_n 2, 1) := by decide +kernel
theorem dX12_reckon_13 : decode cX12_reckon 13 = .ok (.aload_n 0, 1) := by decide +kernel
theorem dX12_reckon_14 : decode cX12_reckon 14 = .ok (.getfield 421, 3) := by decide +kernel
theorem dX12_reckon_17 : decode cX12_reckon 17 = .ok (.bipush 16, 2) := by decide +kernel
theorem dX12_reckon_19 : decode cX12_reckon 19 = .ok (.iload_n 1, 1) := by decide +kernel
theorem dX12_reckon_20 : decode cX12_reckon 20 = .ok (.imul, 1) := by decide +kernel
theorem dX12_reckon_21 : decode cX12_reckon 21 = .ok (.iload_n 2, 1) := by decide +kernel
theorem dX12_reckon_22 : decode cX12_reckon 22 = .ok (.iadd, 1) := by decide +kernel
theorem dX12_reckon_23 : decode cX12_reckon 23 = .ok (.iaload, 1) := by decide +kernel
theorem dX12_reckon_24 : decode cX12_reckon 24 = .ok (.iastore, 1) := by decide +kernel
theorem dX12_reckon_25 : decode cX12_reckon 25 = .ok (.aload_n 0, 1) := by decide +kernel
theorem dX12_reckon_26 : decode cX12_reckon 26 = .ok (.getfield 433, 3) := by decide +kernel
theorem dX12_reckon_29 : decode cX12_reckon 29 = .ok (.iload_n 2, 1) := by decide +kernel
theorem dX12_reckon_30 : decode cX12_reckon 30 = .ok (.aload_n 0, 1) := by decide +kernel
theorem dX12_reckon_31 : decode cX12_reckon 31 = .ok (.getfield 424, 3) := by decide +kernel
theorem dX12_reckon_34 : decode cX12_reckon 34 = .ok (.bipush 16, 2) := by decide +kernel
theorem dX12_reckon_36 : decode cX12_reckon 36 = .ok (.iload_n 1, 1) := by decide +kernel
theorem dX12_reckon_37 : decode cX12_reckon 37 = .ok (.imul, 1) := by decide +kernel
theorem dX12_reckon_38 : decode cX12_reckon 38 = .ok (.iload_n 2, 1) := by decide +kernel
theorem dX12_reckon_39 : decode cX12_reckon 39 = .ok (.iadd, 1) := by decide +kernel
theorem dX12_reckon_40 : decode cX12_reckon 40 = .ok (.iaload, 1) := by decide +kernel
theorem dX12_reckon_41 : decode cX12_reckon 41 = .ok (.iastore, 1) := by decide +kernel
theorem dX12_reckon_42 : decode cX12_reckon 42 = .ok (.aload_n 0, 1) := by decide +kernel
theorem dX12_reckon_43 : decode cX12_reckon 43 = .ok (.getfield 436, 3) := by decide +kernel
theorem dX12_reckon_46 : decode cX12_reckon 46 = .ok (.iload_n 2, 1) := by decide +kernel
theorem dX12_reckon_47 : decode cX12_reckon 47 = .ok (.aload_n 0, 1) := by decide +kernel
theorem dX12_reckon_48 : decode cX12_reckon 48 = .ok (.getfield 427, 3) := by decide +kernel
theorem dX12_reckon_51 : decode cX12_reckon 51 = .ok (.bipush 16, 2) := by decide +kernel
theorem dX12_reckon_53 : decode cX12_reckon 53 = .ok (.iload_n 1, 1) := by decide +kernel
theorem dX12_reckon_54 : decode cX12_reckon 54 = .ok (.imul, 1) := by decide +kernel
theorem dX12_reckon_55 : decode cX12_reckon 55 = .ok (.iload_n 2, 1) := by decide +kernel
theorem dX12_reckon_56 : decode cX12_reckon 56 = .ok (.iadd, 1) := by decide +kernel
theorem dX12_reckon_57 : decode cX12_reckon 57 = .ok (.baload, 1) := by decide +kernel
theorem dX12_reckon_58 : decode cX12_reckon 58 = .ok (.bastore, 1) := by decide +kernel
theorem dX12_reckon_59 : decode cX12_reckon 59 = .ok (.iinc 2 1, 3) := by decide +kernel
theorem dX12_reckon_62 : decode cX12_reckon 62 = .ok (.goto (-60), 3) := by decide +kernel
theorem dX12_reckon_65 : decode cX12_reckon 65 = .ok (.aload_n 0, 1) := by decide +kernel
theorem dX12_reckon_66 : decode cX12_reckon 66 = .ok (.getfield 415, 3) := by decide +kernel
theorem dX12_reckon_69 : decode cX12_reckon 69 = .ok (.iload_n 1, 1) := by decide +kernel
theorem dX12_reckon_70 : decode cX12_reckon 70 = .ok (.iaload, 1) := by decide +kernel
theorem dX12_reckon_71 : decode cX12_reckon 71 = .ok (.istore_n 2, 1) := by decide +kernel
theorem dX12_reckon_72 : decode cX12_reckon 72 = .ok (.iload_n 2, 1) := by decide +kernel
theorem dX12_reckon_73 : decode cX12_reckon 73 = .ok (.aload_n 0, 1) := by decide +kernel
theorem dX12_reckon_74 : decode cX12_reckon 74 = .ok (.getfield 309, 3) := by decide +kernel
theorem dX12_reckon_77 : decode cX12_reckon 77 = .ok (.iload_n 1, 1) := by decide +kernel
theorem dX12_reckon_78 : decode cX12_reckon 78 = .ok (.iaload, 1) := by decide +kernel
theorem dX12_reckon_79 : decode cX12_reckon 79 = .ok (.if_icmp .ge 24, 3) := by decide +kernel
theorem dX12_reckon_82 : decode cX12_reckon 82 = .ok (.aload_n 0, 1) := by decide +kernel
theorem dX12_reckon_83 : decode cX12_reckon 83 = .ok (.sipush 585, 3) := by decide +kernel
theorem dX12_reckon_86 : decode cX12_reckon 86 = .ok (.bipush 41, 2) := by decide +kernel
theorem dX12_reckon_88 : decode cX12_reckon 88 = .ok (.iload_n 1, 1) := by decide +kernel
theorem dX12_reckon_89 : decode cX12_reckon 89 = .ok (.imul, 1) := by decide +kernel
theorem dX12_reckon_90 : decode cX12_reckon 90 = .ok (.iadd, 1) := by decide +kernel
theorem dX12_reckon_91 : decode cX12_reckon 91 = .ok (.iload_n 2, 1) := by decide +kernel
theorem dX12_reckon_92 : decode cX12_reckon 92 = .ok (.iadd, 1) := by decide +kernel
theorem dX12_reckon_93 : decode cX12_reckon 93 = .ok (.invokevirtual 551, 3) := by decide +kernel
theorem dX12_reckon_96 : decode cX12_reckon 96 = .ok (.pop, 1) := by decide +kernel
theorem dX12_reckon_97 : decode cX12_reckon 97 = .ok (.iinc 2 1, 3) := by decide +kernel
theorem dX12_reckon_100 : decode cX12_reckon 100 = .ok (.goto (-28), 3) := by decide +kernel
theorem dX12_reckon_103 : decode cX12_reckon 103 = .ok (.return_, 1) := by decide +kernel
theorem dX12_statePart_0 : decode cX12_statePart 0 = .ok (.aload_n 0, 1) := by decide +kernel
theorem dX12_statePart_1 : decode cX12_statePart 1 = .ok (.iload_n 1, 1) := by decide +kernel
theorem dX12_statePart_2 : decode cX12_statePart 2 = .ok (.invokevirtual 124, 3) := by decide +kernel
theorem dX12_statePart_5 : decode cX12_statePart 5 = .ok (.aload_n 0, 1) := by decide +kernel
theorem dX12_statePart_6 : decode cX12_statePart 6 = .ok (.aload_n 0, 1) := by decide +kernel
theorem dX12_statePart_7 : decode cX12_statePart 7 = .ok (.getfield 430, 3) := by decide +kernel
theorem dX12_statePart_10 : decode cX12_statePart 10 = .ok (.iload_n 1, 1) := by decide +kernel
theorem dX12_statePart_11 : decode cX12_statePart 11 = .ok (.iaload, 1) := by decide +kernel
theorem dX12_statePart_12 : decode cX12_statePart 12 = .ok (.bipush 8, 2) := by decide +kernel
theorem dX12_statePart_14 : decode cX12_statePart 14 = .ok (.ishr, 1) := by decide +kernel
theorem dX12_statePart_15 : decode cX12_statePart 15 = .ok (.invokevirtual 124, 3) := by decide +kernel
theorem dX12_statePart_18 : decode cX12_statePart 18 = .ok (.aload_n 0, 1) := by decide +kernel
theorem dX12_statePart_19 : decode cX12_statePart 19 = .ok (.aload_n 0, 1) := by decide +kernel
theorem dX12_statePart_20 : decode cX12_statePart 20 = .ok (.getfield 430, 3) := by decide +kernel
theorem dX12_statePart_23 : decode cX12_statePart 23 = .ok (.iload_n 1, 1) := by decide +kernel
theorem dX12_statePart_24 : decode cX12_statePart 24 = .ok (.iaload, 1) := by decide +kernel
theorem dX12_statePart_25 : decode cX12_statePart 25 = .ok (.sipush 255, 3) := by decide +kernel
theorem dX12_statePart_28 : decode cX12_statePart 28 = .ok (.iand, 1) := by decide +kernel
theorem dX12_statePart_29 : decode cX12_statePart 29 = .ok (.invokevirtual 124, 3) := by decide +kernel
theorem dX12_statePart_32 : decode cX12_statePart 32 = .ok (.aload_n 0, 1) := by decide +kernel
theorem dX12_statePart_33 : decode cX12_statePart 33 = .ok (.aload_n 0, 1) := by decide +kernel
theorem dX12_statePart_34 : decode cX12_statePart 34 = .ok (.getfield 433, 3) := by decide +kernel
theorem dX12_statePart_37 : decode cX12_statePart 37 = .ok (.iload_n 1, 1) := by decide +kernel
theorem dX12_statePart_38 : decode cX12_statePart 38 = .ok (.iaload, 1) := by decide +kernel
theorem dX12_statePart_39 : decode cX12_statePart 39 = .ok (.bipush 8, 2) := by decide +kernel
theorem dX12_statePart_41 : decode cX12_statePart 41 = .ok (.ishr, 1) := by decide +kernel
theorem dX12_statePart_42 : decode cX12_statePart 42 = .ok (.sipush 255, 3) := by decide +kernel
theorem dX12_statePart_45 : decode cX12_statePart 45 = .ok (.iand, 1) := by decide +kernel
theorem dX12_statePart_46 : decode cX12_statePart 46 = .ok (.invokevirtual 124, 3) := by decide +kernel
theorem dX12_statePart_49 : decode cX12_statePart 49 = .ok (.aload_n 0, 1) := by decide +kernel
theorem dX12_statePart_50 : decode cX12_statePart 50 = .ok (.aload_n 0, 1) := by decide +kernel
theorem dX12_statePart_51 : decode cX12_statePart 51 = .ok (.getfield 433, 3) := by decide +kernel
theorem dX12_statePart_54 : decode cX12_statePart 54 = .ok (.iload_n 1, 1) := by decide +kernel
theorem dX12_statePart_55 : decode cX12_statePart 55 = .ok (.iaload, 1) := by decide +kernel
theorem dX12_statePart_56 : decode cX12_statePart 56 = .ok (.sipush 255, 3) := by decide +kernel
theorem dX12_statePart_59 : decode cX12_statePart 59 = .ok (.iand, 1) := by decide +kernel
theorem dX12_statePart_60 : decode cX12_statePart 60 = .ok (.invokevirtual 124, 3) := by decide +kernel
theorem dX12_statePart_63 : decode cX12_statePart 63 = .ok (.aload_n 0, 1) := by decide +kernel
theorem dX12_statePart_64 : decode cX12_statePart 64 = .ok (.aload_n 0, 1) := by decide +kernel
theorem dX12_statePart_65 : decode cX12_statePart 65 = .ok (.getfield 436, 3) := by decide +kernel
theorem dX12_statePart_68 : decode cX12_statePart 68 = .ok (.iload_n 1, 1) := by decide +kernel
theorem dX12_statePart_69 : decode cX12_statePart 69 = .ok (.baload, 1) := by decide +kernel
theorem dX12_statePart_70 : decode cX12_statePart 70 = .ok (.ifCond .eq 7, 3) := by decide +kernel
theorem dX12_statePart_73 : decode cX12_statePart 73 = .ok (.iconst 1, 1) := by decide +kernel
theorem dX12_statePart_74 : decode cX12_statePart 74 = .ok (.goto 4, 3) := by decide +kernel
theorem dX12_statePart_77 : decode cX12_statePart 77 = .ok (.iconst 0, 1) := by decide +kernel
theorem dX12_statePart_78 : decode cX12_statePart 78 = .ok (.invokevirtual 124, 3) := by decide +kernel
theorem dX12_statePart_81 : decode cX12_statePart 81 = .ok (.aload_n 0, 1) := by decide +kernel
theorem dX12_statePart_82 : decode cX12_statePart 82 = .ok (.invokevirtual 127, 3) := by decide +kernel
theorem dX12_statePart_85 : decode cX12_statePart 85 = .ok (.return_, 1) := by decide +kernel
theorem dX12_accountParts_0 : decode cX12_accountParts 0 = .ok (.aload_n 0, 1) := by decide +kernel
theorem dX12_accountParts_1 : decode cX12_accountParts 1 = .ok (.invokevirtual 112, 3) := by decide +kernel
theorem dX12_accountParts_4 : decode cX12_accountParts 4 = .ok (.iconst 0, 1) := by decide +kernel
theorem dX12_accountParts_5 : decode cX12_accountParts 5 = .ok (.istore_n 1, 1) := by decide +kernel
theorem dX12_accountParts_6 : decode cX12_accountParts 6 = .ok (.iload_n 1, 1) := by decide +kernel
theorem dX12_accountParts_7 : decode cX12_accountParts 7 = .ok (.bipush 16, 2) := by decide +kernel
theorem dX12_accountParts_9 : decode cX12_accountParts 9 = .ok (.if_icmp .ge 14, 3) := by decide +kernel
theorem dX12_accountParts_12 : decode cX12_accountParts 12 = .ok (.aload_n 0, 1) := by decide +kernel
theorem dX12_accountParts_13 : decode cX12_accountParts 13 = .ok (.iload_n 1, 1) := by decide +kernel
theorem dX12_accountParts_14 : decode cX12_accountParts 14 = .ok (.invokevirtual 554, 3) := by decide +kernel
theorem dX12_accountParts_17 : decode cX12_accountParts 17 = .ok (.iinc 1 1, 3) := by decide +kernel
theorem dX12_accountParts_20 : decode cX12_accountParts 20 = .ok (.goto (-14), 3) := by decide +kernel
theorem dX12_accountParts_23 : decode cX12_accountParts 23 = .ok (.return_, 1) := by decide +kernel
theorem dX12_accountsRoot_0 : decode cX12_accountsRoot 0 = .ok (.aload_n 0, 1) := by decide +kernel
theorem dX12_accountsRoot_1 : decode cX12_accountsRoot 1 = .ok (.invokevirtual 557, 3) := by decide +kernel
theorem dX12_accountsRoot_4 : decode cX12_accountsRoot 4 = .ok (.aload_n 0, 1) := by decide +kernel
theorem dX12_accountsRoot_5 : decode cX12_accountsRoot 5 = .ok (.invokevirtual 150, 3) := by decide +kernel
theorem dX12_accountsRoot_8 : decode cX12_accountsRoot 8 = .ok (.return_, 1) := by decide +kernel
theorem dX12_lastByte_0 : decode cX12_lastByte 0 = .ok (.aload_n 0, 1) := by decide +kernel
theorem dX12_lastByte_1 : decode cX12_lastByte 1 = .ok (.getfield 309, 3) := by decide +kernel
theorem dX12_lastByte_4 : decode cX12_lastByte 4 = .ok (.iload_n 1, 1) := by decide +kernel
theorem dX12_lastByte_5 : decode cX12_lastByte 5 = .ok (.iaload, 1) := by decide +kernel
theorem dX12_lastByte_6 : decode cX12_lastByte 6 = .ok (.iconst 1, 1) := by decide +kernel
theorem dX12_lastByte_7 : decode cX12_lastByte 7 = .ok (.if_icmp .ne 5, 3) := by decide +kernel
theorem dX12_lastByte_10 : decode cX12_lastByte 10 = .ok (.iconst 0, 1) := by decide +kernel
theorem dX12_lastByte_11 : decode cX12_lastByte 11 = .ok (.ireturn, 1) := by decide +kernel
theorem dX12_lastByte_12 : decode cX12_lastByte 12 = .ok (.aload_n 0, 1) := by decide +kernel
theorem dX12_lastByte_13 : decode cX12_lastByte 13 = .ok (.getfield 309, 3) := by decide +kernel
theorem dX12_lastByte_16 : decode cX12_lastByte 16 = .ok (.iload_n 1, 1) := by decide +kernel
theorem dX12_lastByte_17 : decode cX12_lastByte 17 = .ok (.iaload, 1) := by decide +kernel
theorem dX12_lastByte_18 : decode cX12_lastByte 18 = .ok (.aload_n 0, 1) := by decide +kernel
theorem dX12_lastByte_19 : decode cX12_lastByte 19 = .ok (.getfield 415, 3) := by decide +kernel
theorem dX12_lastByte_22 : decode cX12_lastByte 22 = .ok (.iload_n 1, 1) := by decide +kernel
theorem dX12_lastByte_23 : decode cX12_lastByte 23 = .ok (.iaload, 1) := by decide +kernel
theorem dX12_lastByte_24 : decode cX12_lastByte 24 = .ok (.if_icmp .ne 19, 3) := by decide +kernel
theorem dX12_lastByte_27 : decode cX12_lastByte 27 = .ok (.aload_n 0, 1) := by decide +kernel
theorem dX12_lastByte_28 : decode cX12_lastByte 28 = .ok (.getfield 418, 3) := by decide +kernel
theorem dX12_lastByte_31 : decode cX12_lastByte 31 = .ok (.iconst 4, 1) := by decide +kernel
theorem dX12_lastByte_32 : decode cX12_lastByte 32 = .ok (.iload_n 1, 1) := by decide +kernel
theorem dX12_lastByte_33 : decode cX12_lastByte 33 = .ok (.imul, 1) := by decide +kernel
theorem dX12_lastByte_34 : decode cX12_lastByte 34 = .ok (.iload_n 2, 1) := by decide +kernel
theorem dX12_lastByte_35 : decode cX12_lastByte 35 = .ok (.bipush 8, 2) := by decide +kernel
theorem dX12_lastByte_37 : decode cX12_lastByte 37 = .ok (.idiv, 1) := by decide +kernel
theorem dX12_lastByte_38 : decode cX12_lastByte 38 = .ok (.iadd, 1) := by decide +kernel
theorem dX12_lastByte_39 : decode cX12_lastByte 39 = .ok (.laload, 1) := by decide +kernel
theorem dX12_lastByte_40 : decode cX12_lastByte 40 = .ok (.goto 32, 3) := by decide +kernel
theorem dX12_lastByte_43 : decode cX12_lastByte 43 = .ok (.aload_n 0, 1) := by decide +kernel
theorem dX12_lastByte_44 : decode cX12_lastByte 44 = .ok (.getfield 60, 3) := by decide +kernel
theorem dX12_lastByte_47 : decode cX12_lastByte 47 = .ok (.iconst 4, 1) := by decide +kernel
theorem dX12_lastByte_48 : decode cX12_lastByte 48 = .ok (.sipush 585, 3) := by decide +kernel
theorem dX12_lastByte_51 : decode cX12_lastByte 51 = .ok (.bipush 41, 2) := by decide +kernel
theorem dX12_lastByte_53 : decode cX12_lastByte 53 = .ok (.iload_n 1, 1) := by decide +kernel
theorem dX12_lastByte_54 : decode cX12_lastByte 54 = .ok (.imul, 1) := by decide +kernel
theorem dX12_lastByte_55 : decode cX12_lastByte 55 = .ok (.iadd, 1) := by decide +kernel
theorem dX12_lastByte_56 : decode cX12_lastByte 56 = .ok (.aload_n 0, 1) := by decide +kernel
theorem dX12_lastByte_57 : decode cX12_lastByte 57 = .ok (.getfield 309, 3) := by decide +kernel
theorem dX12_lastByte_60 : decode cX12_lastByte 60 = .ok (.iload_n 1, 1) := by decide +kernel
theorem dX12_lastByte_61 : decode cX12_lastByte 61 = .ok (.iaload, 1) := by decide +kernel
theorem dX12_lastByte_62 : decode cX12_lastByte 62 = .ok (.iadd, 1) := by decide +kernel
theorem dX12_lastByte_63 : decode cX12_lastByte 63 = .ok (.iconst 1, 1) := by decide +kernel
theorem dX12_lastByte_64 : decode cX12_lastByte 64 = .ok (.isub, 1) := by decide +kernel
theorem dX12_lastByte_65 : decode cX12_lastByte 65 = .ok (.imul, 1) := by decide +kernel
theorem dX12_lastByte_66 : decode cX12_lastByte 66 = .ok (.iload_n 2, 1) := by decide +kernel
theorem dX12_lastByte_67 : decode cX12_lastByte 67 = .ok (.bipush 8, 2) := by decide +kernel
theorem dX12_lastByte_69 : decode cX12_lastByte 69 = .ok (.idiv, 1) := by decide +kernel
theorem dX12_lastByte_70 : decode cX12_lastByte 70 = .ok (.iadd, 1) := by decide +kernel
theorem dX12_lastByte_71 : decode cX12_lastByte 71 = .ok (.laload, 1) := by decide +kernel
theorem dX12_lastByte_72 : decode cX12_lastByte 72 = .ok (.iload_n 2, 1) := by decide +kernel
theorem dX12_lastByte_73 : decode cX12_lastByte 73 = .ok (.bipush 8, 2) := by decide +kernel
theorem dX12_lastByte_75 : decode cX12_lastByte 75 = .ok (.irem, 1) := by decide +kernel
theorem dX12_lastByte_76 : decode cX12_lastByte 76 = .ok (.invokestatic 49, 3) := by decide +kernel
theorem dX12_lastByte_79 : decode cX12_lastByte 79 = .ok (.ireturn, 1) := by decide +kernel
theorem dX12_isValid_0 : decode cX12_isValid 0 = .ok (.aload_n 0, 1) := by decide +kernel
theorem dX12_isValid_1 : decode cX12_isValid 1 = .ok (.iload_n 2, 1) := by decide +kernel
theorem dX12_isValid_2 : decode cX12_isValid 2 = .ok (.invokevirtual 63, 3) := by decide +kernel
theorem dX12_isValid_5 : decode cX12_isValid 5 = .ok (.ifCond .eq 21, 3) := by decide +kernel
theorem dX12_isValid_8 : decode cX12_isValid 8 = .ok (.aload_n 0, 1) := by decide +kernel
theorem dX12_isValid_9 : decode cX12_isValid 9 = .ok (.iload_n 2, 1) := by decide +kernel
theorem dX12_isValid_10 : decode cX12_isValid 10 = .ok (.invokevirtual 279, 3) := by decide +kernel
theorem dX12_isValid_13 : decode cX12_isValid 13 = .ok (.aload_n 0, 1) := by decide +kernel
theorem dX12_isValid_14 : decode cX12_isValid 14 = .ok (.getfield 309, 3) := by decide +kernel
theorem dX12_isValid_17 : decode cX12_isValid 17 = .ok (.iload_n 1, 1) := by decide +kernel
theorem dX12_isValid_18 : decode cX12_isValid 18 = .ok (.iaload, 1) := by decide +kernel
theorem dX12_isValid_19 : decode cX12_isValid 19 = .ok (.if_icmp .ne 7, 3) := by decide +kernel
theorem dX12_isValid_22 : decode cX12_isValid 22 = .ok (.iconst 1, 1) := by decide +kernel
theorem dX12_isValid_23 : decode cX12_isValid 23 = .ok (.goto 4, 3) := by decide +kernel
theorem dX12_isValid_26 : decode cX12_isValid 26 = .ok (.iconst 0, 1) := by decide +kernel
theorem dX12_isValid_27 : decode cX12_isValid 27 = .ok (.istore_n 3, 1) := by decide +kernel
theorem dX12_isValid_28 : decode cX12_isValid 28 = .ok (.iconst 0, 1) := by decide +kernel
theorem dX12_isValid_29 : decode cX12_isValid 29 = .ok (.istore 4, 2) := by decide +kernel
theorem dX12_isValid_31 : decode cX12_isValid 31 = .ok (.iload 4, 2) := by decide +kernel
theorem dX12_isValid_33 : decode cX12_isValid 33 = .ok (.bipush 32, 2) := by decide +kernel
theorem dX12_isValid_35 : decode cX12_isValid 35 = .ok (.if_icmp .ge 38, 3) := by decide +kernel
theorem dX12_isValid_38 : decode cX12_isValid 38 = .ok (.iload_n 3, 1) := by decide +kernel
theorem dX12_isValid_39 : decode cX12_isValid 39 = .ok (.ifCond .eq 34, 3) := by decide +kernel
theorem dX12_isValid_42 : decode cX12_isValid 42 = .ok (.aload_n 0, 1) := by decide +kernel
theorem dX12_isValid_43 : decode cX12_isValid 43 = .ok (.iload_n 2, 1) := by decide +kernel
theorem dX12_isValid_44 : decode cX12_isValid 44 = .ok (.iconst 3, 1) := by decide +kernel
theorem dX12_isValid_45 : decode cX12_isValid 45 = .ok (.iload 4, 2) := by decide +kernel
theorem dX12_isValid_47 : decode cX12_isValid 47 = .ok (.iadd, 1) := by decide +kernel
theorem dX12_isValid_48 : decode cX12_isValid 48 = .ok (.invokevirtual 67, 3) := by decide +kernel
theorem dX12_isValid_51 : decode cX12_isValid 51 = .ok (.aload_n 0, 1) := by decide +kernel
theorem dX12_isValid_52 : decode cX12_isValid 52 = .ok (.iload_n 1, 1) := by decide +kernel
theorem dX12_isValid_53 : decode cX12_isValid 53 = .ok (.iload 4, 2) := by decide +kernel
theorem dX12_isValid_55 : decode cX12_isValid 55 = .ok (.invokevirtual 158, 3) := by decide +kernel
theorem dX12_isValid_58 : decode cX12_isValid 58 = .ok (.if_icmp .ne 7, 3) := by decide +kernel
theorem dX12_isValid_61 : decode cX12_isValid 61 = .ok (.iconst 1, 1) := by decide +kernel
theorem dX12_isValid_62 : decode cX12_isValid 62 = .ok (.goto 4, 3) := by decide +kernel
theorem dX12_isValid_65 : decode cX12_isValid 65 = .ok (.iconst 0, 1) := by decide +kernel
theorem dX12_isValid_66 : decode cX12_isValid 66 = .ok (.istore_n 3, 1) := by decide +kernel
theorem dX12_isValid_67 : decode cX12_isValid 67 = .ok (.iinc 4 1, 3) := by decide +kernel
theorem dX12_isValid_70 : decode cX12_isValid 70 = .ok (.goto (-39), 3) := by decide +kernel
theorem dX12_isValid_73 : decode cX12_isValid 73 = .ok (.iload_n 3, 1) := by decide +kernel
theorem dX12_isValid_74 : decode cX12_isValid 74 = .ok (.ifCond .ne 5, 3) := by decide +kernel
theorem dX12_isValid_77 : decode cX12_isValid 77 = .ok (.iconst 0, 1) := by decide +kernel
theorem dX12_isValid_78 : decode cX12_isValid 78 = .ok (.ireturn, 1) := by decide +kernel
theorem dX12_isValid_79 : decode cX12_isValid 79 = .ok (.aload_n 0, 1) := by decide +kernel
theorem dX12_isValid_80 : decode cX12_isValid 80 = .ok (.iload_n 1, 1) := by decide +kernel
theorem dX12_isValid_81 : decode cX12_isValid 81 = .ok (.invokevirtual 161, 3) := by decide +kernel
theorem dX12_isValid_84 : decode cX12_isValid 84 = .ok (.aload_n 0, 1) := by decide +kernel
theorem dX12_isValid_85 : decode cX12_isValid 85 = .ok (.invokevirtual 164, 3) := by decide +kernel
theorem dX12_isValid_88 : decode cX12_isValid 88 = .ok (.iconst 0, 1) := by decide +kernel
theorem dX12_isValid_89 : decode cX12_isValid 89 = .ok (.istore 4, 2) := by decide +kernel
theorem dX12_isValid_91 : decode cX12_isValid 91 = .ok (.iload 4, 2) := by decide +kernel
theorem dX12_isValid_93 : decode cX12_isValid 93 = .ok (.bipush 32, 2) := by decide +kernel
theorem dX12_isValid_95 : decode cX12_isValid 95 = .ok (.if_icmp .ge 38, 3) := by decide +kernel
theorem dX12_isValid_98 : decode cX12_isValid 98 = .ok (.iload_n 3, 1) := by decide +kernel
theorem dX12_isValid_99 : decode cX12_isValid 99 = .ok (.ifCond .eq 34, 3) := by decide +kernel
theorem dX12_isValid_102 : decode cX12_isValid 102 = .ok (.aload_n 0, 1) := by decide +kernel
theorem dX12_isValid_103 : decode cX12_isValid 103 = .ok (.iload_n 2, 1) := by decide +kernel
theorem dX12_isValid_104 : decode cX12_isValid 104 = .ok (.bipush 35, 2) := by decide +kernel
theorem dX12_isValid_106 : decode cX12_isValid 106 = .ok (.iload 4, 2) := by decide +kernel
theorem dX12_isValid_108 : decode cX12_isValid 108 = .ok (.iadd, 1) := by decide +kernel
theorem dX12_isValid_109 : decode cX12_isValid 109 = .ok (.invokevirtual 67, 3) := by decide +kernel
theorem dX12_isValid_112 : decode cX12_isValid 112 = .ok (.aload_n 0, 1) := by decide +kernel
theorem dX12_isValid_113 : decode cX12_isValid 113 = .ok (.iload 4, 2) := by decide +kernel
theorem dX12_isValid_115 : decode cX12_isValid 115 = .ok (.invokevirtual 152, 3) := by decide +kernel
theorem dX12_isValid_118 : decode cX12_isValid 118 = .ok (.if_icmp .ne 7, 3) := by decide +kernel
theorem dX12_isValid_121 : decode cX12_isValid 121 = .ok (.iconst 1, 1) := by decide +kernel
theorem dX12_isValid_122 : decode cX12_isValid 122 = .ok (.goto 4, 3) := by decide +kernel
theorem dX12_isValid_125 : decode cX12_isValid 125 = .ok (.iconst 0, 1) := by decide +kernel
theorem dX12_isValid_126 : decode cX12_isValid 126 = .ok (.istore_n 3, 1) := by decide +kernel
theorem dX12_isValid_127 : decode cX12_isValid 127 = .ok (.iinc 4 1, 3) := by decide +kernel
theorem dX12_isValid_130 : decode cX12_isValid 130 = .ok (.goto (-39), 3) := by decide +kernel
theorem dX12_isValid_133 : decode cX12_isValid 133 = .ok (.iload_n 3, 1) := by decide +kernel
theorem dX12_isValid_134 : decode cX12_isValid 134 = .ok (.ifCond .eq 15, 3) := by decide +kernel
theorem dX12_isValid_137 : decode cX12_isValid 137 = .ok (.aload_n 0, 1) := by decide +kernel
theorem dX12_isValid_138 : decode cX12_isValid 138 = .ok (.iload_n 2, 1) := by decide +kernel
theorem dX12_isValid_139 : decode cX12_isValid 139 = .ok (.invokevirtual 551, 3) := by decide +kernel
theorem dX12_isValid_142 : decode cX12_isValid 142 = .ok (.ifCond .eq 7, 3) := by decide +kernel
theorem dX12_isValid_145 : decode cX12_isValid 145 = .ok (.iconst 1, 1) := by decide +kernel
theorem dX12_isValid_146 : decode cX12_isValid 146 = .ok (.goto 4, 3) := by decide +kernel
theorem dX12_isValid_149 : decode cX12_isValid 149 = .ok (.iconst 0, 1) := by decide +kernel
theorem dX12_isValid_150 : decode cX12_isValid 150 = .ok (.ireturn, 1) := by decide +kernel
theorem dX12_isPoolAt_0 : decode cX12_isPoolAt 0 = .ok (.aload_n 0, 1) := by decide +kernel
theorem dX12_isPoolAt_1 : decode cX12_isPoolAt 1 = .ok (.getfield 339, 3) := by decide +kernel
theorem dX12_isPoolAt_4 : decode cX12_isPoolAt 4 = .ok (.iload_n 1, 1) := by decide +kernel
theorem dX12_isPoolAt_5 : decode cX12_isPoolAt 5 = .ok (.iaload, 1) := by decide +kernel
theorem dX12_isPoolAt_6 : decode cX12_isPoolAt 6 = .ok (.iload_n 2, 1) := by decide +kernel
theorem dX12_isPoolAt_7 : decode cX12_isPoolAt 7 = .ok (.if_icmp .ne 99, 3) := by decide +kernel
theorem dX12_isPoolAt_10 : decode cX12_isPoolAt 10 = .ok (.aload_n 0, 1) := by decide +kernel
theorem dX12_isPoolAt_11 : decode cX12_isPoolAt 11 = .ok (.getfield 339, 3) := by decide +kernel
theorem dX12_isPoolAt_14 : decode cX12_isPoolAt 14 = .ok (.iload_n 1, 1) := by decide +kernel
theorem dX12_isPoolAt_15 : decode cX12_isPoolAt 15 = .ok (.iconst 1, 1) := by decide +kernel
theorem dX12_isPoolAt_16 : decode cX12_isPoolAt 16 = .ok (.iadd, 1) := by decide +kernel
theorem dX12_isPoolAt_17 : decode cX12_isPoolAt 17 = .ok (.iaload, 1) := by decide +kernel
theorem dX12_isPoolAt_18 : decode cX12_isPoolAt 18 = .ok (.iload_n 3, 1) := by decide +kernel
theorem dX12_isPoolAt_19 : decode cX12_isPoolAt 19 = .ok (.if_icmp .ne 87, 3) := by decide +kernel
theorem dX12_isPoolAt_22 : decode cX12_isPoolAt 22 = .ok (.aload_n 0, 1) := by decide +kernel
theorem dX12_isPoolAt_23 : decode cX12_isPoolAt 23 = .ok (.getfield 339, 3) := by decide +kernel
theorem dX12_isPoolAt_26 : decode cX12_isPoolAt 26 = .ok (.iload_n 1, 1) := by decide +kernel
theorem dX12_isPoolAt_27 : decode cX12_isPoolAt 27 = .ok (.iconst 2, 1) := by decide +kernel
theorem dX12_isPoolAt_28 : decode cX12_isPoolAt 28 = .ok (.iadd, 1) := by decide +kernel
theorem dX12_isPoolAt_29 : decode cX12_isPoolAt 29 = .ok (.iaload, 1) := by decide +kernel
theorem dX12_isPoolAt_30 : decode cX12_isPoolAt 30 = .ok (.iload 4, 2) := by decide +kernel
theorem dX12_isPoolAt_32 : decode cX12_isPoolAt 32 = .ok (.bipush 8, 2) := by decide +kernel
theorem dX12_isPoolAt_34 : decode cX12_isPoolAt 34 = .ok (.ishr, 1) := by decide +kernel
theorem dX12_isPoolAt_35 : decode cX12_isPoolAt 35 = .ok (.if_icmp .ne 71, 3) := by decide +kernel
theorem dX12_isPoolAt_38 : decode cX12_isPoolAt 38 = .ok (.aload_n 0, 1) := by decide +kernel
theorem dX12_isPoolAt_39 : decode cX12_isPoolAt 39 = .ok (.getfield 339, 3) := by decide +kernel
theorem dX12_isPoolAt_42 : decode cX12_isPoolAt 42 = .ok (.iload_n 1, 1) := by decide +kernel
theorem dX12_isPoolAt_43 : decode cX12_isPoolAt 43 = .ok (.iconst 3, 1) := by decide +kernel
theorem dX12_isPoolAt_44 : decode cX12_isPoolAt 44 = .ok (.iadd, 1) := by decide +kernel
theorem dX12_isPoolAt_45 : decode cX12_isPoolAt 45 = .ok (.iaload, 1) := by decide +kernel
theorem dX12_isPoolAt_46 : decode cX12_isPoolAt 46 = .ok (.iload 4, 2) := by decide +kernel
theorem dX12_isPoolAt_48 : decode cX12_isPoolAt 48 = .ok (.sipush 255, 3) := by decide +kernel
theorem dX12_isPoolAt_51 : decode cX12_isPoolAt 51 = .ok (.iand, 1) := by decide +kernel
theorem dX12_isPoolAt_52 : decode cX12_isPoolAt 52 = .ok (.if_icmp .ne 54, 3) := by decide +kernel
theorem dX12_isPoolAt_55 : decode cX12_isPoolAt 55 = .ok (.aload_n 0, 1) := by decide +kernel
theorem dX12_isPoolAt_56 : decode cX12_isPoolAt 56 = .ok (.getfield 339, 3) := by decide +kernel
theorem dX12_isPoolAt_59 : decode cX12_isPoolAt 59 = .ok (.iload_n 1, 1) := by decide +kernel
theorem dX12_isPoolAt_60 : decode cX12_isPoolAt 60 = .ok (.iconst 4, 1) := by decide +kernel
theorem dX12_isPoolAt_61 : decode cX12_isPoolAt 61 = .ok (.iadd, 1) := by decide +kernel
theorem dX12_isPoolAt_62 : decode cX12_isPoolAt 62 = .ok (.iaload, 1) := by decide +kernel
theorem dX12_isPoolAt_63 : decode cX12_isPoolAt 63 = .ok (.iload 5, 2) := by decide +kernel
theorem dX12_isPoolAt_65 : decode cX12_isPoolAt 65 = .ok (.bipush 8, 2) := by decide +kernel
theorem dX12_isPoolAt_67 : decode cX12_isPoolAt 67 = .ok (.ishr, 1) := by decide +kernel
theorem dX12_isPoolAt_68 : decode cX12_isPoolAt 68 = .ok (.if_icmp .ne 38, 3) := by decide +kernel
theorem dX12_isPoolAt_71 : decode cX12_isPoolAt 71 = .ok (.aload_n 0, 1) := by decide +kernel
theorem dX12_isPoolAt_72 : decode cX12_isPoolAt 72 = .ok (.getfield 339, 3) := by decide +kernel
theorem dX12_isPoolAt_75 : decode cX12_isPoolAt 75 = .ok (.iload_n 1, 1) := by decide +kernel
theorem dX12_isPoolAt_76 : decode cX12_isPoolAt 76 = .ok (.iconst 5, 1) := by decide +kernel
theorem dX12_isPoolAt_77 : decode cX12_isPoolAt 77 = .ok (.iadd, 1) := by decide +kernel
theorem dX12_isPoolAt_78 : decode cX12_isPoolAt 78 = .ok (.iaload, 1) := by decide +kernel
theorem dX12_isPoolAt_79 : decode cX12_isPoolAt 79 = .ok (.iload 5, 2) := by decide +kernel
theorem dX12_isPoolAt_81 : decode cX12_isPoolAt 81 = .ok (.sipush 255, 3) := by decide +kernel
theorem dX12_isPoolAt_84 : decode cX12_isPoolAt 84 = .ok (.iand, 1) := by decide +kernel
theorem dX12_isPoolAt_85 : decode cX12_isPoolAt 85 = .ok (.if_icmp .ne 21, 3) := by decide +kernel
theorem dX12_isPoolAt_88 : decode cX12_isPoolAt 88 = .ok (.aload_n 0, 1) := by decide +kernel
theorem dX12_isPoolAt_89 : decode cX12_isPoolAt 89 = .ok (.getfield 339, 3) := by decide +kernel
theorem dX12_isPoolAt_92 : decode cX12_isPoolAt 92 = .ok (.iload_n 1, 1) := by decide +kernel
theorem dX12_isPoolAt_93 : decode cX12_isPoolAt 93 = .ok (.bipush 6, 2) := by decide +kernel
theorem dX12_isPoolAt_95 : decode cX12_isPoolAt 95 = .ok (.iadd, 1) := by decide +kernel
theorem dX12_isPoolAt_96 : decode cX12_isPoolAt 96 = .ok (.iaload, 1) := by decide +kernel
theorem dX12_isPoolAt_97 : decode cX12_isPoolAt 97 = .ok (.iload 6, 2) := by decide +kernel
theorem dX12_isPoolAt_99 : decode cX12_isPoolAt 99 = .ok (.if_icmp .ne 7, 3) := by decide +kernel
theorem dX12_isPoolAt_102 : decode cX12_isPoolAt 102 = .ok (.iconst 1, 1) := by decide +kernel
theorem dX12_isPoolAt_103 : decode cX12_isPoolAt 103 = .ok (.goto 4, 3) := by decide +kernel
theorem dX12_isPoolAt_106 : decode cX12_isPoolAt 106 = .ok (.iconst 0, 1) := by decide +kernel
theorem dX12_isPoolAt_107 : decode cX12_isPoolAt 107 = .ok (.ireturn, 1) := by decide +kernel
theorem dX12_toPool_0 : decode cX12_toPool 0 = .ok (.aload_n 0, 1) := by decide +kernel
theorem dX12_toPool_1 : decode cX12_toPool 1 = .ok (.getfield 336, 3) := by decide +kernel
theorem dX12_toPool_4 : decode cX12_toPool 4 = .ok (.iload_n 1, 1) := by decide +kernel
theorem dX12_toPool_5 : decode cX12_toPool 5 = .ok (.iaload, 1) := by decide +kernel
theorem dX12_toPool_6 : decode cX12_toPool 6 = .ok (.bipush 80, 2) := by decide +kernel
theorem dX12_toPool_8 : decode cX12_toPool 8 = .ok (.if_icmp .ne 7, 3) := by decide +kernel
theorem dX12_toPool_11 : decode cX12_toPool 11 = .ok (.iconst 1, 1) := by decide +kernel
theorem dX12_toPool_12 : decode cX12_toPool 12 = .ok (.goto 4, 3) := by decide +kernel
theorem dX12_toPool_15 : decode cX12_toPool 15 = .ok (.iconst 0, 1) := by decide +kernel
theorem dX12_toPool_16 : decode cX12_toPool 16 = .ok (.istore 7, 2) := by decide +kernel
theorem dX12_toPool_18 : decode cX12_toPool 18 = .ok (.iconst 0, 1) := by decide +kernel
theorem dX12_toPool_19 : decode cX12_toPool 19 = .ok (.istore 8, 2) := by decide +kernel
theorem dX12_toPool_21 : decode cX12_toPool 21 = .ok (.iload 8, 2) := by decide +kernel
theorem dX12_toPool_23 : decode cX12_toPool 23 = .ok (.aload_n 0, 1) := by decide +kernel
theorem dX12_toPool_24 : decode cX12_toPool 24 = .ok (.getfield 336, 3) := by decide +kernel
theorem dX12_toPool_27 : decode cX12_toPool 27 = .ok (.iload_n 1, 1) := by decide +kernel
theorem dX12_toPool_28 : decode cX12_toPool 28 = .ok (.iaload, 1) := by decide +kernel
theorem dX12_toPool_29 : decode cX12_toPool 29 = .ok (.if_icmp .ge 47, 3) := by decide +kernel
theorem dX12_toPool_32 : decode cX12_toPool 32 = .ok (.iload 7, 2) := by decide +kernel
theorem dX12_toPool_34 : decode cX12_toPool 34 = .ok (.ifCond .ne 29, 3) := by decide +kernel
theorem dX12_toPool_37 : decode cX12_toPool 37 = .ok (.aload_n 0, 1) := by decide +kernel
theorem dX12_toPool_38 : decode cX12_toPool 38 = .ok (.sipush 560, 3) := by decide +kernel
theorem dX12_toPool_41 : decode cX12_toPool 41 = .ok (.iload_n 1, 1) := by decide +kernel
theorem dX12_toPool_42 : decode cX12_toPool 42 = .ok (.imul, 1) := by decide +kernel
theorem dX12_toPool_43 : decode cX12_toPool 43 = .ok (.bipush 7, 2) := by decide +kernel
theorem dX12_toPool_45 : decode cX12_toPool 45 = .ok (.iload 8, 2) := by decide +kernel
theorem dX12_toPool_47 : decode cX12_toPool 47 = .ok (.imul, 1) := by decide +kernel
theorem dX12_toPool_48 : decode cX12_toPool 48 = .ok (.iadd, 1) := by decide +kernel
theorem dX12_toPool_49 : decode cX12_toPool 49 = .ok (.iload_n 2, 1) := by decide +kernel
theorem dX12_toPool_50 : decode cX12_toPool 50 = .ok (.iload_n 3, 1) := by decide +kernel
theorem dX12_toPool_51 : decode cX12_toPool 51 = .ok (.iload 4, 2) := by decide +kernel
theorem dX12_toPool_53 : decode cX12_toPool 53 = .ok (.iload 5, 2) := by decide +kernel
theorem dX12_toPool_55 : decode cX12_toPool 55 = .ok (.iload 6, 2) := by decide +kernel
theorem dX12_toPool_57 : decode cX12_toPool 57 = .ok (.invokevirtual 560, 3) := by decide +kernel
theorem dX12_toPool_60 : decode cX12_toPool 60 = .ok (.ifCond .eq 7, 3) := by decide +kernel
theorem dX12_toPool_63 : decode cX12_toPool 63 = .ok (.iconst 1, 1) := by decide +kernel
theorem dX12_toPool_64 : decode cX12_toPool 64 = .ok (.goto 4, 3) := by decide +kernel
theorem dX12_toPool_67 : decode cX12_toPool 67 = .ok (.iconst 0, 1) := by decide +kernel
theorem dX12_toPool_68 : decode cX12_toPool 68 = .ok (.istore 7, 2) := by decide +kernel
theorem dX12_toPool_70 : decode cX12_toPool 70 = .ok (.iinc 8 1, 3) := by decide +kernel
theorem dX12_toPool_73 : decode cX12_toPool 73 = .ok (.goto (-52), 3) := by decide +kernel
theorem dX12_toPool_76 : decode cX12_toPool 76 = .ok (.iload 7, 2) := by decide +kernel
theorem dX12_toPool_78 : decode cX12_toPool 78 = .ok (.ifCond .eq 5, 3) := by decide +kernel
theorem dX12_toPool_81 : decode cX12_toPool 81 = .ok (.iconst 0, 1) := by decide +kernel
theorem dX12_toPool_82 : decode cX12_toPool 82 = .ok (.ireturn, 1) := by decide +kernel
theorem dX12_toPool_83 : decode cX12_toPool 83 = .ok (.sipush 560, 3) := by decide +kernel
theorem dX12_toPool_86 : decode cX12_toPool 86 = .ok (.iload_n 1, 1) := by decide +kernel
theorem dX12_toPool_87 : decode cX12_toPool 87 = .ok (.imul, 1) := by decide +kernel
theorem dX12_toPool_88 : decode cX12_toPool 88 = .ok (.bipush 7, 2) := by decide +kernel
theorem dX12_toPool_90 : decode cX12_toPool 90 = .ok (.aload_n 0, 1) := by decide +kernel
theorem dX12_toPool_91 : decode cX12_toPool 91 = .ok (.getfield 336, 3) := by decide +kernel
theorem dX12_toPool_94 : decode cX12_toPool 94 = .ok (.iload_n 1, 1) := by decide +kernel
theorem dX12_toPool_95 : decode cX12_toPool 95 = .ok (.iaload, 1) := by decide +kernel
theorem dX12_toPool_96 : decode cX12_toPool 96 = .ok (.imul, 1) := by decide +kernel
theorem dX12_toPool_97 : decode cX12_toPool 97 = .ok (.iadd, 1) := by decide +kernel
theorem dX12_toPool_98 : decode cX12_toPool 98 = .ok (.istore 8, 2) := by decide +kernel
theorem dX12_toPool_100 : decode cX12_toPool 100 = .ok (.aload_n 0, 1) := by decide +kernel
theorem dX12_toPool_101 : decode cX12_toPool 101 = .ok (.getfield 339, 3) := by decide +kernel
theorem dX12_toPool_104 : decode cX12_toPool 104 = .ok (.iload 8, 2) := by decide +kernel
theorem dX12_toPool_106 : decode cX12_toPool 106 = .ok (.iload_n 2, 1) := by decide +kernel
theorem dX12_toPool_107 : decode cX12_toPool 107 = .ok (.iastore, 1) := by decide +kernel
theorem dX12_toPool_108 : decode cX12_toPool 108 = .ok (.aload_n 0, 1) := by decide +kernel
theorem dX12_toPool_109 : decode cX12_toPool 109 = .ok (.getfield 339, 3) := by decide +kernel
theorem dX12_toPool_112 : decode cX12_toPool 112 = .ok (.iload 8, 2) := by decide +kernel
theorem dX12_toPool_114 : decode cX12_toPool 114 = .ok (.iconst 1, 1) := by decide +kernel
theorem dX12_toPool_115 : decode cX12_toPool 115 = .ok (.iadd, 1) := by decide +kernel
theorem dX12_toPool_116 : decode cX12_toPool 116 = .ok (.iload_n 3, 1) := by decide +kernel
theorem dX12_toPool_117 : decode cX12_toPool 117 = .ok (.iastore, 1) := by decide +kernel
theorem dX12_toPool_118 : decode cX12_toPool 118 = .ok (.aload_n 0, 1) := by decide +kernel
theorem dX12_toPool_119 : decode cX12_toPool 119 = .ok (.getfield 339, 3) := by decide +kernel
theorem dX12_toPool_122 : decode cX12_toPool 122 = .ok (.iload 8, 2) := by decide +kernel
theorem dX12_toPool_124 : decode cX12_toPool 124 = .ok (.iconst 2, 1) := by decide +kernel
theorem dX12_toPool_125 : decode cX12_toPool 125 = .ok (.iadd, 1) := by decide +kernel
theorem dX12_toPool_126 : decode cX12_toPool 126 = .ok (.iload 4, 2) := by decide +kernel
theorem dX12_toPool_128 : decode cX12_toPool 128 = .ok (.bipush 8, 2) := by decide +kernel
theorem dX12_toPool_130 : decode cX12_toPool 130 = .ok (.ishr, 1) := by decide +kernel
theorem dX12_toPool_131 : decode cX12_toPool 131 = .ok (.iastore, 1) := by decide +kernel
theorem dX12_toPool_132 : decode cX12_toPool 132 = .ok (.aload_n 0, 1) := by decide +kernel
theorem dX12_toPool_133 : decode cX12_toPool 133 = .ok (.getfield 339, 3) := by decide +kernel
theorem dX12_toPool_136 : decode cX12_toPool 136 = .ok (.iload 8, 2) := by decide +kernel
theorem dX12_toPool_138 : decode cX12_toPool 138 = .ok (.iconst 3, 1) := by decide +kernel
theorem dX12_toPool_139 : decode cX12_toPool 139 = .ok (.iadd, 1) := by decide +kernel
theorem dX12_toPool_140 : decode cX12_toPool 140 = .ok (.iload 4, 2) := by decide +kernel
theorem dX12_toPool_142 : decode cX12_toPool 142 = .ok (.sipush 255, 3) := by decide +kernel
theorem dX12_toPool_145 : decode cX12_toPool 145 = .ok (.iand, 1) := by decide +kernel
theorem dX12_toPool_146 : decode cX12_toPool 146 = .ok (.iastore, 1) := by decide +kernel
theorem dX12_toPool_147 : decode cX12_toPool 147 = .ok (.aload_n 0, 1) := by decide +kernel
theorem dX12_toPool_148 : decode cX12_toPool 148 = .ok (.getfield 339, 3) := by decide +kernel
theorem dX12_toPool_151 : decode cX12_toPool 151 = .ok (.iload 8, 2) := by decide +kernel
theorem dX12_toPool_153 : decode cX12_toPool 153 = .ok (.iconst 4, 1) := by decide +kernel
theorem dX12_toPool_154 : decode cX12_toPool 154 = .ok (.iadd, 1) := by decide +kernel
theorem dX12_toPool_155 : decode cX12_toPool 155 = .ok (.iload 5, 2) := by decide +kernel
theorem dX12_toPool_157 : decode cX12_toPool 157 = .ok (.bipush 8, 2) := by decide +kernel
theorem dX12_toPool_159 : decode cX12_toPool 159 = .ok (.ishr, 1) := by decide +kernel
theorem dX12_toPool_160 : decode cX12_toPool 160 = .ok (.iastore, 1) := by decide +kernel
theorem dX12_toPool_161 : decode cX12_toPool 161 = .ok (.aload_n 0, 1) := by decide +kernel
theorem dX12_toPool_162 : decode cX12_toPool 162 = .ok (.getfield 339, 3) := by decide +kernel
theorem dX12_toPool_165 : decode cX12_toPool 165 = .ok (.iload 8, 2) := by decide +kernel
theorem dX12_toPool_167 : decode cX12_toPool 167 = .ok (.iconst 5, 1) := by decide +kernel
theorem dX12_toPool_168 : decode cX12_toPool 168 = .ok (.iadd, 1) := by decide +kernel
theorem dX12_toPool_169 : decode cX12_toPool 169 = .ok (.iload 5, 2) := by decide +kernel
theorem dX12_toPool_171 : decode cX12_toPool 171 = .ok (.sipush 255, 3) := by decide +kernel
theorem dX12_toPool_174 : decode cX12_toPool 174 = .ok (.iand, 1) := by decide +kernel
theorem dX12_toPool_175 : decode cX12_toPool 175 = .ok (.iastore, 1) := by decide +kernel
theorem dX12_toPool_176 : decode cX12_toPool 176 = .ok (.aload_n 0, 1) := by decide +kernel
theorem dX12_toPool_177 : decode cX12_toPool 177 = .ok (.getfield 339, 3) := by decide +kernel
theorem dX12_toPool_180 : decode cX12_toPool 180 = .ok (.iload 8, 2) := by decide +kernel
theorem dX12_toPool_182 : decode cX12_toPool 182 = .ok (.bipush 6, 2) := by decide +kernel
theorem dX12_toPool_184 : decode cX12_toPool 184 = .ok (.iadd, 1) := by decide +kernel
theorem dX12_toPool_185 : decode cX12_toPool 185 = .ok (.iload 6, 2) := by decide +kernel
theorem dX12_toPool_187 : decode cX12_toPool 187 = .ok (.iastore, 1) := by decide +kernel
theorem dX12_toPool_188 : decode cX12_toPool 188 = .ok (.aload_n 0, 1) := by decide +kernel
theorem dX12_toPool_189 : decode cX12_toPool 189 = .ok (.getfield 336, 3) := by decide +kernel
theorem dX12_toPool_192 : decode cX12_toPool 192 = .ok (.iload_n 1, 1) := by decide +kernel
theorem dX12_toPool_193 : decode cX12_toPool 193 = .ok (.aload_n 0, 1) := by decide +kernel
theorem dX12_toPool_194 : decode cX12_toPool 194 = .ok (.getfield 336, 3) := by decide +kernel
theorem dX12_toPool_197 : decode cX12_toPool 197 = .ok (.iload_n 1, 1) := by decide +kernel
theorem dX12_toPool_198 : decode cX12_toPool 198 = .ok (.iaload, 1) := by decide +kernel
theorem dX12_toPool_199 : decode cX12_toPool 199 = .ok (.iconst 1, 1) := by decide +kernel
theorem dX12_toPool_200 : decode cX12_toPool 200 = .ok (.iadd, 1) := by decide +kernel
theorem dX12_toPool_201 : decode cX12_toPool 201 = .ok (.iastore, 1) := by decide +kernel
theorem dX12_toPool_202 : decode cX12_toPool 202 = .ok (.iconst 1, 1) := by decide +kernel
theorem dX12_toPool_203 : decode cX12_toPool 203 = .ok (.ireturn, 1) := by decide +kernel
theorem dX12_isIn_0 : decode cX12_isIn 0 = .ok (.aload_n 0, 1) := by decide +kernel
theorem dX12_isIn_1 : decode cX12_isIn 1 = .ok (.getfield 57, 3) := by decide +kernel
theorem dX12_isIn_4 : decode cX12_isIn 4 = .ok (.iload_n 1, 1) := by decide +kernel
theorem dX12_isIn_5 : decode cX12_isIn 5 = .ok (.iaload, 1) := by decide +kernel
theorem dX12_isIn_6 : decode cX12_isIn 6 = .ok (.bipush 7, 2) := by decide +kernel
theorem dX12_isIn_8 : decode cX12_isIn 8 = .ok (.aload_n 0, 1) := by decide +kernel
theorem dX12_isIn_9 : decode cX12_isIn 9 = .ok (.iload_n 1, 1) := by decide +kernel
theorem dX12_isIn_10 : decode cX12_isIn 10 = .ok (.invokevirtual 118, 3) := by decide +kernel
theorem dX12_isIn_13 : decode cX12_isIn 13 = .ok (.imul, 1) := by decide +kernel
theorem dX12_isIn_14 : decode cX12_isIn 14 = .ok (.isub, 1) := by decide +kernel
theorem dX12_isIn_15 : decode cX12_isIn 15 = .ok (.istore_n 3, 1) := by decide +kernel
theorem dX12_isIn_16 : decode cX12_isIn 16 = .ok (.iconst 0, 1) := by decide +kernel
theorem dX12_isIn_17 : decode cX12_isIn 17 = .ok (.istore 4, 2) := by decide +kernel
theorem dX12_isIn_19 : decode cX12_isIn 19 = .ok (.iconst 0, 1) := by decide +kernel
theorem dX12_isIn_20 : decode cX12_isIn 20 = .ok (.istore 5, 2) := by decide +kernel
theorem dX12_isIn_22 : decode cX12_isIn 22 = .ok (.iload 5, 2) := by decide +kernel
theorem dX12_isIn_24 : decode cX12_isIn 24 = .ok (.aload_n 0, 1) := by decide +kernel
theorem dX12_isIn_25 : decode cX12_isIn 25 = .ok (.iload_n 1, 1) := by decide +kernel
theorem dX12_isIn_26 : decode cX12_isIn 26 = .ok (.invokevirtual 118, 3) := by decide +kernel
theorem dX12_isIn_29 : decode cX12_isIn 29 = .ok (.if_icmp .ge 76, 3) := by decide +kernel
theorem dX12_isIn_32 : decode cX12_isIn 32 = .ok (.iload 4, 2) := by decide +kernel
theorem dX12_isIn_34 : decode cX12_isIn 34 = .ok (.ifCond .ne 71, 3) := by decide +kernel
theorem dX12_isIn_37 : decode cX12_isIn 37 = .ok (.iconst 1, 1) := by decide +kernel
theorem dX12_isIn_38 : decode cX12_isIn 38 = .ok (.istore 6, 2) := by decide +kernel
theorem dX12_isIn_40 : decode cX12_isIn 40 = .ok (.iconst 0, 1) := by decide +kernel
theorem dX12_isIn_41 : decode cX12_isIn 41 = .ok (.istore 7, 2) := by decide +kernel
theorem dX12_isIn_43 : decode cX12_isIn 43 = .ok (.iload 7, 2) := by decide +kernel
theorem dX12_isIn_45 : decode cX12_isIn 45 = .ok (.bipush 7, 2) := by decide +kernel
theorem dX12_isIn_47 : decode cX12_isIn 47 = .ok (.if_icmp .ge 48, 3) := by decide +kernel
theorem dX12_isIn_50 : decode cX12_isIn 50 = .ok (.iload 6, 2) := by decide +kernel
theorem dX12_isIn_52 : decode cX12_isIn 52 = .ok (.ifCond .eq 43, 3) := by decide +kernel
theorem dX12_isIn_55 : decode cX12_isIn 55 = .ok (.aload_n 0, 1) := by decide +kernel
theorem dX12_isIn_56 : decode cX12_isIn 56 = .ok (.iload_n 1, 1) := by decide +kernel
theorem dX12_isIn_57 : decode cX12_isIn 57 = .ok (.iload_n 3, 1) := by decide +kernel
theorem dX12_isIn_58 : decode cX12_isIn 58 = .ok (.bipush 7, 2) := by decide +kernel
theorem dX12_isIn_60 : decode cX12_isIn 60 = .ok (.iload 5, 2) := by decide +kernel
theorem dX12_isIn_62 : decode cX12_isIn 62 = .ok (.imul, 1) := by decide +kernel
theorem dX12_isIn_63 : decode cX12_isIn 63 = .ok (.iadd, 1) := by decide +kernel
theorem dX12_isIn_64 : decode cX12_isIn 64 = .ok (.iload 7, 2) := by decide +kernel
theorem dX12_isIn_66 : decode cX12_isIn 66 = .ok (.iadd, 1) := by decide +kernel
theorem dX12_isIn_67 : decode cX12_isIn 67 = .ok (.invokevirtual 67, 3) := by decide +kernel
theorem dX12_isIn_70 : decode cX12_isIn 70 = .ok (.aload_n 0, 1) := by decide +kernel
theorem dX12_isIn_71 : decode cX12_isIn 71 = .ok (.getfield 339, 3) := by decide +kernel
theorem dX12_isIn_74 : decode cX12_isIn 74 = .ok (.iload_n 2, 1) := by decide +kernel
theorem dX12_isIn_75 : decode cX12_isIn 75 = .ok (.iload 7, 2) := by decide +kernel
theorem dX12_isIn_77 : decode cX12_isIn 77 = .ok (.iadd, 1) := by decide +kernel
theorem dX12_isIn_78 : decode cX12_isIn 78 = .ok (.iaload, 1) := by decide +kernel
theorem dX12_isIn_79 : decode cX12_isIn 79 = .ok (.if_icmp .ne 7, 3) := by decide +kernel
theorem dX12_isIn_82 : decode cX12_isIn 82 = .ok (.iconst 1, 1) := by decide +kernel
theorem dX12_isIn_83 : decode cX12_isIn 83 = .ok (.goto 4, 3) := by decide +kernel
theorem dX12_isIn_86 : decode cX12_isIn 86 = .ok (.iconst 0, 1) := by decide +kernel
theorem dX12_isIn_87 : decode cX12_isIn 87 = .ok (.istore 6, 2) := by decide +kernel
theorem dX12_isIn_89 : decode cX12_isIn 89 = .ok (.iinc 7 1, 3) := by decide +kernel
theorem dX12_isIn_92 : decode cX12_isIn 92 = .ok (.goto (-49), 3) := by decide +kernel
theorem dX12_isIn_95 : decode cX12_isIn 95 = .ok (.iload 6, 2) := by decide +kernel
theorem dX12_isIn_97 : decode cX12_isIn 97 = .ok (.istore 4, 2) := by decide +kernel
theorem dX12_isIn_99 : decode cX12_isIn 99 = .ok (.iinc 5 1, 3) := by decide +kernel
theorem dX12_isIn_102 : decode cX12_isIn 102 = .ok (.goto (-80), 3) := by decide +kernel
theorem dX12_isIn_105 : decode cX12_isIn 105 = .ok (.iload 4, 2) := by decide +kernel
theorem dX12_isIn_107 : decode cX12_isIn 107 = .ok (.ireturn, 1) := by decide +kernel
theorem dX12_fromPool_0 : decode cX12_fromPool 0 = .ok (.iconst 0, 1) := by decide +kernel
theorem dX12_fromPool_1 : decode cX12_fromPool 1 = .ok (.istore_n 3, 1) := by decide +kernel
theorem dX12_fromPool_2 : decode cX12_fromPool 2 = .ok (.iconst 0, 1) := by decide +kernel
theorem dX12_fromPool_3 : decode cX12_fromPool 3 = .ok (.istore 4, 2) := by decide +kernel
theorem dX12_fromPool_5 : decode cX12_fromPool 5 = .ok (.iload 4, 2) := by decide +kernel
theorem dX12_fromPool_7 : decode cX12_fromPool 7 = .ok (.aload_n 0, 1) := by decide +kernel
theorem dX12_fromPool_8 : decode cX12_fromPool 8 = .ok (.getfield 336, 3) := by decide +kernel
theorem dX12_fromPool_11 : decode cX12_fromPool 11 = .ok (.iload_n 1, 1) := by decide +kernel
theorem dX12_fromPool_12 : decode cX12_fromPool 12 = .ok (.iaload, 1) := by decide +kernel
theorem dX12_fromPool_13 : decode cX12_fromPool 13 = .ok (.if_icmp .ge 98, 3) := by decide +kernel
theorem dX12_fromPool_16 : decode cX12_fromPool 16 = .ok (.aload_n 0, 1) := by decide +kernel
theorem dX12_fromPool_17 : decode cX12_fromPool 17 = .ok (.iload_n 2, 1) := by decide +kernel
theorem dX12_fromPool_18 : decode cX12_fromPool 18 = .ok (.sipush 560, 3) := by decide +kernel
theorem dX12_fromPool_21 : decode cX12_fromPool 21 = .ok (.iload_n 1, 1) := by decide +kernel
theorem dX12_fromPool_22 : decode cX12_fromPool 22 = .ok (.imul, 1) := by decide +kernel
theorem dX12_fromPool_23 : decode cX12_fromPool 23 = .ok (.bipush 7, 2) := by decide +kernel
theorem dX12_fromPool_25 : decode cX12_fromPool 25 = .ok (.iload 4, 2) := by decide +kernel
theorem dX12_fromPool_27 : decode cX12_fromPool 27 = .ok (.imul, 1) := by decide +kernel
theorem dX12_fromPool_28 : decode cX12_fromPool 28 = .ok (.iadd, 1) := by decide +kernel
theorem dX12_fromPool_29 : decode cX12_fromPool 29 = .ok (.invokevirtual 563, 3) := by decide +kernel
theorem dX12_fromPool_32 : decode cX12_fromPool 32 = .ok (.istore 5, 2) := by decide +kernel
theorem dX12_fromPool_34 : decode cX12_fromPool 34 = .ok (.iconst 0, 1) := by decide +kernel
theorem dX12_fromPool_35 : decode cX12_fromPool 35 = .ok (.istore 6, 2) := by decide +kernel
theorem dX12_fromPool_37 : decode cX12_fromPool 37 = .ok (.iload 5, 2) := by decide +kernel
theorem dX12_fromPool_39 : decode cX12_fromPool 39 = .ok (.ifCond .ne 53, 3) := by decide +kernel
theorem dX12_fromPool_42 : decode cX12_fromPool 42 = .ok (.iload 6, 2) := by decide +kernel
theorem dX12_fromPool_44 : decode cX12_fromPool 44 = .ok (.bipush 7, 2) := by decide +kernel
theorem dX12_fromPool_46 : decode cX12_fromPool 46 = .ok (.if_icmp .ge 46, 3) := by decide +kernel
theorem dX12_fromPool_49 : decode cX12_fromPool 49 = .ok (.aload_n 0, 1) := by decide +kernel
theorem dX12_fromPool_50 : decode cX12_fromPool 50 = .ok (.getfield 339, 3) := by decide +kernel
theorem dX12_fromPool_53 : decode cX12_fromPool 53 = .ok (.sipush 560, 3) := by decide +kernel
theorem dX12_fromPool_56 : decode cX12_fromPool 56 = .ok (.iload_n 1, 1) := by decide +kernel
theorem dX12_fromPool_57 : decode cX12_fromPool 57 = .ok (.imul, 1) := by decide +kernel
theorem dX12_fromPool_58 : decode cX12_fromPool 58 = .ok (.bipush 7, 2) := by decide +kernel
theorem dX12_fromPool_60 : decode cX12_fromPool 60 = .ok (.iload_n 3, 1) := by decide +kernel
theorem dX12_fromPool_61 : decode cX12_fromPool 61 = .ok (.imul, 1) := by decide +kernel
theorem dX12_fromPool_62 : decode cX12_fromPool 62 = .ok (.iadd, 1) := by decide +kernel
theorem dX12_fromPool_63 : decode cX12_fromPool 63 = .ok (.iload 6, 2) := by decide +kernel
theorem dX12_fromPool_65 : decode cX12_fromPool 65 = .ok (.iadd, 1) := by decide +kernel
theorem dX12_fromPool_66 : decode cX12_fromPool 66 = .ok (.aload_n 0, 1) := by decide +kernel
theorem dX12_fromPool_67 : decode cX12_fromPool 67 = .ok (.getfield 339, 3) := by decide +kernel
theorem dX12_fromPool_70 : decode cX12_fromPool 70 = .ok (.sipush 560, 3) := by decide +kernel
theorem dX12_fromPool_73 : decode cX12_fromPool 73 = .ok (.iload_n 1, 1) := by decide +kernel
theorem dX12_fromPool_74 : decode cX12_fromPool 74 = .ok (.imul, 1) := by decide +kernel
theorem dX12_fromPool_75 : decode cX12_fromPool 75 = .ok (.bipush 7, 2) := by decide +kernel
theorem dX12_fromPool_77 : decode cX12_fromPool 77 = .ok (.iload 4, 2) := by decide +kernel
theorem dX12_fromPool_79 : decode cX12_fromPool 79 = .ok (.imul, 1) := by decide +kernel
theorem dX12_fromPool_80 : decode cX12_fromPool 80 = .ok (.iadd, 1) := by decide +kernel
theorem dX12_fromPool_81 : decode cX12_fromPool 81 = .ok (.iload 6, 2) := by decide +kernel
theorem dX12_fromPool_83 : decode cX12_fromPool 83 = .ok (.iadd, 1) := by decide +kernel
theorem dX12_fromPool_84 : decode cX12_fromPool 84 = .ok (.iaload, 1) := by decide +kernel
theorem dX12_fromPool_85 : decode cX12_fromPool 85 = .ok (.iastore, 1) := by decide +kernel
theorem dX12_fromPool_86 : decode cX12_fromPool 86 = .ok (.iinc 6 1, 3) := by decide +kernel
theorem dX12_fromPool_89 : decode cX12_fromPool 89 = .ok (.goto (-52), 3) := by decide +kernel
theorem dX12_fromPool_92 : decode cX12_fromPool 92 = .ok (.iload 5, 2) := by decide +kernel
theorem dX12_fromPool_94 : decode cX12_fromPool 94 = .ok (.ifCond .eq 7, 3) := by decide +kernel
theorem dX12_fromPool_97 : decode cX12_fromPool 97 = .ok (.iload_n 3, 1) := by decide +kernel
theorem dX12_fromPool_98 : decode cX12_fromPool 98 = .ok (.goto 6, 3) := by decide +kernel
theorem dX12_fromPool_101 : decode cX12_fromPool 101 = .ok (.iload_n 3, 1) := by decide +kernel
theorem dX12_fromPool_102 : decode cX12_fromPool 102 = .ok (.iconst 1, 1) := by decide +kernel
theorem dX12_fromPool_103 : decode cX12_fromPool 103 = .ok (.iadd, 1) := by decide +kernel
theorem dX12_fromPool_104 : decode cX12_fromPool 104 = .ok (.istore_n 3, 1) := by decide +kernel
theorem dX12_fromPool_105 : decode cX12_fromPool 105 = .ok (.iinc 4 1, 3) := by decide +kernel
theorem dX12_fromPool_108 : decode cX12_fromPool 108 = .ok (.goto (-103), 3) := by decide +kernel
theorem dX12_fromPool_111 : decode cX12_fromPool 111 = .ok (.aload_n 0, 1) := by decide +kernel
theorem dX12_fromPool_112 : decode cX12_fromPool 112 = .ok (.getfield 336, 3) := by decide +kernel
theorem dX12_fromPool_115 : decode cX12_fromPool 115 = .ok (.iload_n 1, 1) := by decide +kernel
theorem dX12_fromPool_116 : decode cX12_fromPool 116 = .ok (.iload_n 3, 1) := by decide +kernel
theorem dX12_fromPool_117 : decode cX12_fromPool 117 = .ok (.iastore, 1) := by decide +kernel
theorem dX12_fromPool_118 : decode cX12_fromPool 118 = .ok (.return_, 1) := by decide +kernel
theorem dX12_build_0 : decode cX12_build 0 = .ok (.aload_n 0, 1) := by decide +kernel
theorem dX12_build_1 : decode cX12_build 1 = .ok (.sipush 1353, 3) := by decide +kernel
theorem dX12_build_4 : decode cX12_build 4 = .ok (.iconst 0, 1) := by decide +kernel
theorem dX12_build_5 : decode cX12_build 5 = .ok (.aload_n 0, 1) := by decide +kernel
theorem dX12_build_6 : decode cX12_build 6 = .ok (.getfield 309, 3) := by decide +kernel
theorem dX12_build_9 : decode cX12_build 9 = .ok (.iload_n 1, 1) := by decide +kernel
theorem dX12_build_10 : decode cX12_build 10 = .ok (.iaload, 1) := by decide +kernel
theorem dX12_build_11 : decode cX12_build 11 = .ok (.bipush 8, 2) := by decide +kernel
theorem dX12_build_13 : decode cX12_build 13 = .ok (.ishr, 1) := by decide +kernel
theorem dX12_build_14 : decode cX12_build 14 = .ok (.invokevirtual 250, 3) := by decide +kernel
theorem dX12_build_17 : decode cX12_build 17 = .ok (.aload_n 0, 1) := by decide +kernel
theorem dX12_build_18 : decode cX12_build 18 = .ok (.sipush 1353, 3) := by decide +kernel
theorem dX12_build_21 : decode cX12_build 21 = .ok (.iconst 1, 1) := by decide +kernel
theorem dX12_build_22 : decode cX12_build 22 = .ok (.aload_n 0, 1) := by decide +kernel
theorem dX12_build_23 : decode cX12_build 23 = .ok (.getfield 309, 3) := by decide +kernel
theorem dX12_build_26 : decode cX12_build 26 = .ok (.iload_n 1, 1) := by decide +kernel
theorem dX12_build_27 : decode cX12_build 27 = .ok (.iaload, 1) := by decide +kernel
theorem dX12_build_28 : decode cX12_build 28 = .ok (.invokevirtual 250, 3) := by decide +kernel
theorem dX12_build_31 : decode cX12_build 31 = .ok (.aload_n 0, 1) := by decide +kernel
theorem dX12_build_32 : decode cX12_build 32 = .ok (.sipush 1353, 3) := by decide +kernel
theorem dX12_build_35 : decode cX12_build 35 = .ok (.iconst 2, 1) := by decide +kernel
theorem dX12_build_36 : decode cX12_build 36 = .ok (.iload_n 1, 1) := by decide +kernel
theorem dX12_build_37 : decode cX12_build 37 = .ok (.invokevirtual 250, 3) := by decide +kernel
theorem dX12_build_40 : decode cX12_build 40 = .ok (.iconst 0, 1) := by decide +kernel
theorem dX12_build_41 : decode cX12_build 41 = .ok (.istore_n 2, 1) := by decide +kernel
theorem dX12_build_42 : decode cX12_build 42 = .ok (.iload_n 2, 1) := by decide +kernel
theorem dX12_build_43 : decode cX12_build 43 = .ok (.bipush 32, 2) := by decide +kernel
theorem dX12_build_45 : decode cX12_build 45 = .ok (.if_icmp .ge 25, 3) := by decide +kernel
theorem dX12_build_48 : decode cX12_build 48 = .ok (.aload_n 0, 1) := by decide +kernel
theorem dX12_build_49 : decode cX12_build 49 = .ok (.sipush 1353, 3) := by decide +kernel
theorem dX12_build_52 : decode cX12_build 52 = .ok (.iconst 3, 1) := by decide +kernel
theorem dX12_build_53 : decode cX12_build 53 = .ok (.iload_n 2, 1) := by decide +kernel
theorem dX12_build_54 : decode cX12_build 54 = .ok (.iadd, 1) := by decide +kernel
theorem dX12_build_55 : decode cX12_build 55 = .ok (.aload_n 0, 1) := by decide +kernel
theorem dX12_build_56 : decode cX12_build 56 = .ok (.iload_n 1, 1) := by decide +kernel
theorem dX12_build_57 : decode cX12_build 57 = .ok (.iload_n 2, 1) := by decide +kernel
theorem dX12_build_58 : decode cX12_build 58 = .ok (.invokevirtual 158, 3) := by decide +kernel
theorem dX12_build_61 : decode cX12_build 61 = .ok (.invokevirtual 250, 3) := by decide +kernel
theorem dX12_build_64 : decode cX12_build 64 = .ok (.iinc 2 1, 3) := by decide +kernel
theorem dX12_build_67 : decode cX12_build 67 = .ok (.goto (-25), 3) := by decide +kernel
theorem dX12_build_70 : decode cX12_build 70 = .ok (.aload_n 0, 1) := by decide +kernel
theorem dX12_build_71 : decode cX12_build 71 = .ok (.iload_n 1, 1) := by decide +kernel
theorem dX12_build_72 : decode cX12_build 72 = .ok (.invokevirtual 161, 3) := by decide +kernel
theorem dX12_build_75 : decode cX12_build 75 = .ok (.aload_n 0, 1) := by decide +kernel
theorem dX12_build_76 : decode cX12_build 76 = .ok (.invokevirtual 164, 3) := by decide +kernel
theorem dX12_build_79 : decode cX12_build 79 = .ok (.iconst 0, 1) := by decide +kernel
theorem dX12_build_80 : decode cX12_build 80 = .ok (.istore_n 2, 1) := by decide +kernel
theorem dX12_build_81 : decode cX12_build 81 = .ok (.iload_n 2, 1) := by decide +kernel
theorem dX12_build_82 : decode cX12_build 82 = .ok (.bipush 32, 2) := by decide +kernel
theorem dX12_build_84 : decode cX12_build 84 = .ok (.if_icmp .ge 25, 3) := by decide +kernel
theorem dX12_build_87 : decode cX12_build 87 = .ok (.aload_n 0, 1) := by decide +kernel
theorem dX12_build_88 : decode cX12_build 88 = .ok (.sipush 1353, 3) := by decide +kernel
theorem dX12_build_91 : decode cX12_build 91 = .ok (.bipush 35, 2) := by decide +kernel
theorem dX12_build_93 : decode cX12_build 93 = .ok (.iload_n 2, 1) := by decide +kernel
theorem dX12_build_94 : decode cX12_build 94 = .ok (.iadd, 1) := by decide +kernel
theorem dX12_build_95 : decode cX12_build 95 = .ok (.aload_n 0, 1) := by decide +kernel
theorem dX12_build_96 : decode cX12_build 96 = .ok (.iload_n 2, 1) := by decide +kernel
theorem dX12_build_97 : decode cX12_build 97 = .ok (.invokevirtual 152, 3) := by decide +kernel
theorem dX12_build_100 : decode cX12_build 100 = .ok (.invokevirtual 250, 3) := by decide +kernel
theorem dX12_build_103 : decode cX12_build 103 = .ok (.iinc 2 1, 3) := by decide +kernel
theorem dX12_build_106 : decode cX12_build 106 = .ok (.goto (-25), 3) := by decide +kernel
theorem dX12_build_109 : decode cX12_build 109 = .ok (.aload_n 0, 1) := by decide +kernel
theorem dX12_build_110 : decode cX12_build 110 = .ok (.invokevirtual 112, 3) := by decide +kernel
theorem dX12_build_113 : decode cX12_build 113 = .ok (.bipush 101, 2) := by decide +kernel
theorem dX12_build_115 : decode cX12_build 115 = .ok (.istore_n 2, 1) := by decide +kernel
theorem dX12_build_116 : decode cX12_build 116 = .ok (.iconst 0, 1) := by decide +kernel
theorem dX12_build_117 : decode cX12_build 117 = .ok (.istore_n 3, 1) := by decide +kernel
theorem dX12_build_118 : decode cX12_build 118 = .ok (.iconst 0, 1) := by decide +kernel
theorem dX12_build_119 : decode cX12_build 119 = .ok (.istore 4, 2) := by decide +kernel
theorem dX12_build_121 : decode cX12_build 121 = .ok (.iload 4, 2) := by decide +kernel
theorem dX12_build_123 : decode cX12_build 123 = .ok (.aload_n 0, 1) := by decide +kernel
theorem dX12_build_124 : decode cX12_build 124 = .ok (.getfield 219, 3) := by decide +kernel
theorem dX12_build_127 : decode cX12_build 127 = .ok (.if_icmp .ge 92, 3) := by decide +kernel
theorem dX12_build_130 : decode cX12_build 130 = .ok (.iload_n 3, 1) := by decide +kernel
theorem dX12_build_131 : decode cX12_build 131 = .ok (.iconst 2, 1) := by decide +kernel
theorem dX12_build_132 : decode cX12_build 132 = .ok (.if_icmp .ge 87, 3) := by decide +kernel
theorem dX12_build_135 : decode cX12_build 135 = .ok (.aload_n 0, 1) := by decide +kernel
theorem dX12_build_136 : decode cX12_build 136 = .ok (.getfield 342, 3) := by decide +kernel
theorem dX12_build_139 : decode cX12_build 139 = .ok (.bipush 13, 2) := by decide +kernel
theorem dX12_build_141 : decode cX12_build 141 = .ok (.iload_n 1, 1) := by decide +kernel
theorem dX12_build_142 : decode cX12_build 142 = .ok (.imul, 1) := by decide +kernel
theorem dX12_build_143 : decode cX12_build 143 = .ok (.iload 4, 2) := by decide +kernel
theorem dX12_build_145 : decode cX12_build 145 = .ok (.iadd, 1) := by decide +kernel
theorem dX12_build_146 : decode cX12_build 146 = .ok (.iaload, 1) := by decide +kernel
theorem dX12_build_147 : decode cX12_build 147 = .ok (.istore 5, 2) := by decide +kernel
theorem dX12_build_149 : decode cX12_build 149 = .ok (.iload 5, 2) := by decide +kernel
theorem dX12_build_151 : decode cX12_build 151 = .ok (.ifCond .eq 62, 3) := by decide +kernel
theorem dX12_build_154 : decode cX12_build 154 = .ok (.aload_n 0, 1) := by decide +kernel
theorem dX12_build_155 : decode cX12_build 155 = .ok (.iload 4, 2) := by decide +kernel
theorem dX12_build_157 : decode cX12_build 157 = .ok (.iload_n 1, 1) := by decide +kernel
theorem dX12_build_158 : decode cX12_build 158 = .ok (.invokevirtual 544, 3) := by decide +kernel
theorem dX12_build_161 : decode cX12_build 161 = .ok (.ifCond .ne 6, 3) := by decide +kernel
theorem dX12_build_164 : decode cX12_build 164 = .ok (.goto 49, 3) := by decide +kernel
theorem dX12_build_167 : decode cX12_build 167 = .ok (.iconst 0, 1) := by decide +kernel
theorem dX12_build_168 : decode cX12_build 168 = .ok (.istore 6, 2) := by decide +kernel
theorem dX12_build_170 : decode cX12_build 170 = .ok (.iload 6, 2) := by decide +kernel
theorem dX12_build_172 : decode cX12_build 172 = .ok (.iload 5, 2) := by decide +kernel
theorem dX12_build_174 : decode cX12_build 174 = .ok (.if_icmp .ge 31, 3) := by decide +kernel
theorem dX12_build_177 : decode cX12_build 177 = .ok (.aload_n 0, 1) := by decide +kernel
theorem dX12_build_178 : decode cX12_build 178 = .ok (.aload_n 0, 1) := by decide +kernel
theorem dX12_build_179 : decode cX12_build 179 = .ok (.getfield 345, 3) := by decide +kernel
theorem dX12_build_182 : decode cX12_build 182 = .ok (.bipush 71, 2) := by decide +kernel
theorem dX12_build_184 : decode cX12_build 184 = .ok (.bipush 13, 2) := by decide +kernel
theorem dX12_build_186 : decode cX12_build 186 = .ok (.iload_n 1, 1) := by decide +kernel
theorem dX12_build_187 : decode cX12_build 187 = .ok (.imul, 1) := by decide +kernel
theorem dX12_build_188 : decode cX12_build 188 = .ok (.iload 4, 2) := by decide +kernel
theorem dX12_build_190 : decode cX12_build 190 = .ok (.iadd, 1) := by decide +kernel
theorem dX12_build_191 : decode cX12_build 191 = .ok (.imul, 1) := by decide +kernel
theorem dX12_build_192 : decode cX12_build 192 = .ok (.iload 6, 2) := by decide +kernel
theorem dX12_build_194 : decode cX12_build 194 = .ok (.iadd, 1) := by decide +kernel
theorem dX12_build_195 : decode cX12_build 195 = .ok (.iaload, 1) := by decide +kernel
theorem dX12_build_196 : decode cX12_build 196 = .ok (.invokevirtual 124, 3) := by decide +kernel
theorem dX12_build_199 : decode cX12_build 199 = .ok (.iinc 6 1, 3) := by decide +kernel
theorem dX12_build_202 : decode cX12_build 202 = .ok (.goto (-32), 3) := by decide +kernel
theorem dX12_build_205 : decode cX12_build 205 = .ok (.aload_n 0, 1) := by decide +kernel
theorem dX12_build_206 : decode cX12_build 206 = .ok (.invokevirtual 127, 3) := by decide +kernel
theorem dX12_build_209 : decode cX12_build 209 = .ok (.iload_n 3, 1) := by decide +kernel
theorem dX12_build_210 : decode cX12_build 210 = .ok (.iconst 1, 1) := by decide +kernel
theorem dX12_build_211 : decode cX12_build 211 = .ok (.iadd, 1) := by decide +kernel
theorem dX12_build_212 : decode cX12_build 212 = .ok (.istore_n 3, 1) := by decide +kernel
theorem dX12_build_213 : decode cX12_build 213 = .ok (.iinc 4 1, 3) := by decide +kernel
theorem dX12_build_216 : decode cX12_build 216 = .ok (.goto (-95), 3) := by decide +kernel
theorem dX12_build_219 : decode cX12_build 219 = .ok (.iconst 0, 1) := by decide +kernel
theorem dX12_build_220 : decode cX12_build 220 = .ok (.istore 4, 2) := by decide +kernel
theorem dX12_build_222 : decode cX12_build 222 = .ok (.iconst 0, 1) := by decide +kernel
theorem dX12_build_223 : decode cX12_build 223 = .ok (.istore 5, 2) := by decide +kernel
theorem dX12_build_225 : decode cX12_build 225 = .ok (.iload 5, 2) := by decide +kernel
theorem dX12_build_227 : decode cX12_build 227 = .ok (.aload_n 0, 1) := by decide +kernel
theorem dX12_build_228 : decode cX12_build 228 = .ok (.getfield 336, 3) := by decide +kernel
theorem dX12_build_231 : decode cX12_build 231 = .ok (.iload_n 1, 1) := by decide +kernel
theorem dX12_build_232 : decode cX12_build 232 = .ok (.iaload, 1) := by decide +kernel
theorem dX12_build_233 : decode cX12_build 233 = .ok (.if_icmp .ge 150, 3) := by decide +kernel
theorem dX12_build_236 : decode cX12_build 236 = .ok (.iload 4, 2) := by decide +kernel
theorem dX12_build_238 : decode cX12_build 238 = .ok (.bipush 64, 2) := by decide +kernel
theorem dX12_build_240 : decode cX12_build 240 = .ok (.if_icmp .ge 143, 3) := by decide +kernel
theorem dX12_build_243 : decode cX12_build 243 = .ok (.sipush 560, 3) := by decide +kernel
theorem dX12_build_246 : decode cX12_build 246 = .ok (.iload_n 1, 1) := by decide +kernel
theorem dX12_build_247 : decode cX12_build 247 = .ok (.imul, 1) := by decide +kernel
theorem dX12_build_248 : decode cX12_build 248 = .ok (.bipush 7, 2) := by decide +kernel
theorem dX12_build_250 : decode cX12_build 250 = .ok (.iload 5, 2) := by decide +kernel
theorem dX12_build_252 : decode cX12_build 252 = .ok (.imul, 1) := by decide +kernel
theorem dX12_build_253 : decode cX12_build 253 = .ok (.iadd, 1) := by decide +kernel
theorem dX12_build_254 : decode cX12_build 254 = .ok (.istore 6, 2) := by decide +kernel
theorem dX12_build_256 : decode cX12_build 256 = .ok (.aload_n 0, 1) := by decide +kernel
theorem dX12_build_257 : decode cX12_build 257 = .ok (.aload_n 0, 1) := by decide +kernel
theorem dX12_build_258 : decode cX12_build 258 = .ok (.getfield 339, 3) := by decide +kernel
theorem dX12_build_261 : decode cX12_build 261 = .ok (.iload 6, 2) := by decide +kernel
theorem dX12_build_263 : decode cX12_build 263 = .ok (.iaload, 1) := by decide +kernel
theorem dX12_build_264 : decode cX12_build 264 = .ok (.aload_n 0, 1) := by decide +kernel
theorem dX12_build_265 : decode cX12_build 265 = .ok (.getfield 339, 3) := by decide +kernel
theorem dX12_build_268 : decode cX12_build 268 = .ok (.iload 6, 2) := by decide +kernel
theorem dX12_build_270 : decode cX12_build 270 = .ok (.iconst 1, 1) := by decide +kernel
theorem dX12_build_271 : decode cX12_build 271 = .ok (.iadd, 1) := by decide +kernel
theorem dX12_build_272 : decode cX12_build 272 = .ok (.iaload, 1) := by decide +kernel
theorem dX12_build_273 : decode cX12_build 273 = .ok (.aload_n 0, 1) := by decide +kernel
theorem dX12_build_274 : decode cX12_build 274 = .ok (.getfield 339, 3) := by decide +kernel
theorem dX12_build_277 : decode cX12_build 277 = .ok (.iload 6, 2) := by decide +kernel
theorem dX12_build_279 : decode cX12_build 279 = .ok (.iconst 2, 1) := by decide +kernel
theorem dX12_build_280 : decode cX12_build 280 = .ok (.iadd, 1) := by decide +kernel
theorem dX12_build_281 : decode cX12_build 281 = .ok (.iaload, 1) := by decide +kernel
theorem dX12_build_282 : decode cX12_build 282 = .ok (.bipush 8, 2) := by decide +kernel
theorem dX12_build_284 : decode cX12_build 284 = .ok (.ishl, 1) := by decide +kernel
theorem dX12_build_285 : decode cX12_build 285 = .ok (.aload_n 0, 1) := by decide +kernel
theorem dX12_build_286 : decode cX12_build 286 = .ok (.getfield 339, 3) := by decide +kernel
theorem dX12_build_289 : decode cX12_build 289 = .ok (.iload 6, 2) := by decide +kernel
theorem dX12_build_291 : decode cX12_build 291 = .ok (.iconst 3, 1) := by decide +kernel
theorem dX12_build_292 : decode cX12_build 292 = .ok (.iadd, 1) := by decide +kernel
theorem dX12_build_293 : decode cX12_build 293 = .ok (.iaload, 1) := by decide +kernel
theorem dX12_build_294 : decode cX12_build 294 = .ok (.ior, 1) := by decide +kernel
theorem dX12_build_295 : decode cX12_build 295 = .ok (.aload_n 0, 1) := by decide +kernel
theorem dX12_build_296 : decode cX12_build 296 = .ok (.getfield 339, 3) := by decide +kernel
theorem dX12_build_299 : decode cX12_build 299 = .ok (.iload 6, 2) := by decide +kernel
theorem dX12_build_301 : decode cX12_build 301 = .ok (.iconst 4, 1) := by decide +kernel
theorem dX12_build_302 : decode cX12_build 302 = .ok (.iadd, 1) := by decide +kernel
theorem dX12_build_303 : decode cX12_build 303 = .ok (.iaload, 1) := by decide +kernel
theorem dX12_build_304 : decode cX12_build 304 = .ok (.bipush 8, 2) := by decide +kernel
theorem dX12_build_306 : decode cX12_build 306 = .ok (.ishl, 1) := by decide +kernel
theorem dX12_build_307 : decode cX12_build 307 = .ok (.aload_n 0, 1) := by decide +kernel
theorem dX12_build_308 : decode cX12_build 308 = .ok (.getfield 339, 3) := by decide +kernel
theorem dX12_build_311 : decode cX12_build 311 = .ok (.iload 6, 2) := by decide +kernel
theorem dX12_build_313 : decode cX12_build 313 = .ok (.iconst 5, 1) := by decide +kernel
theorem dX12_build_314 : decode cX12_build 314 = .ok (.iadd, 1) := by decide +kernel
theorem dX12_build_315 : decode cX12_build 315 = .ok (.iaload, 1) := by decide +kernel
theorem dX12_build_316 : decode cX12_build 316 = .ok (.ior, 1) := by decide +kernel
theorem dX12_build_317 : decode cX12_build 317 = .ok (.aload_n 0, 1) := by decide +kernel
theorem dX12_build_318 : decode cX12_build 318 = .ok (.getfield 339, 3) := by decide +kernel
theorem dX12_build_321 : decode cX12_build 321 = .ok (.iload 6, 2) := by decide +kernel
theorem dX12_build_323 : decode cX12_build 323 = .ok (.bipush 6, 2) := by decide +kernel
theorem dX12_build_325 : decode cX12_build 325 = .ok (.iadd, 1) := by decide +kernel
theorem dX12_build_326 : decode cX12_build 326 = .ok (.iaload, 1) := by decide +kernel
theorem dX12_build_327 : decode cX12_build 327 = .ok (.iload_n 1, 1) := by decide +kernel
theorem dX12_build_328 : decode cX12_build 328 = .ok (.invokevirtual 547, 3) := by decide +kernel
theorem dX12_build_331 : decode cX12_build 331 = .ok (.ifCond .ne 6, 3) := by decide +kernel
theorem dX12_build_334 : decode cX12_build 334 = .ok (.goto 43, 3) := by decide +kernel
theorem dX12_build_337 : decode cX12_build 337 = .ok (.iconst 0, 1) := by decide +kernel
theorem dX12_build_338 : decode cX12_build 338 = .ok (.istore 7, 2) := by decide +kernel
theorem dX12_build_340 : decode cX12_build 340 = .ok (.iload 7, 2) := by decide +kernel
theorem dX12_build_342 : decode cX12_build 342 = .ok (.bipush 7, 2) := by decide +kernel
theorem dX12_build_344 : decode cX12_build 344 = .ok (.if_icmp .ge 23, 3) := by decide +kernel
theorem dX12_build_347 : decode cX12_build 347 = .ok (.aload_n 0, 1) := by decide +kernel
theorem dX12_build_348 : decode cX12_build 348 = .ok (.aload_n 0, 1) := by decide +kernel
theorem dX12_build_349 : decode cX12_build 349 = .ok (.getfield 339, 3) := by decide +kernel
theorem dX12_build_352 : decode cX12_build 352 = .ok (.iload 6, 2) := by decide +kernel
theorem dX12_build_354 : decode cX12_build 354 = .ok (.iload 7, 2) := by decide +kernel
theorem dX12_build_356 : decode cX12_build 356 = .ok (.iadd, 1) := by decide +kernel
theorem dX12_build_357 : decode cX12_build 357 = .ok (.iaload, 1) := by decide +kernel
theorem dX12_build_358 : decode cX12_build 358 = .ok (.invokevirtual 124, 3) := by decide +kernel
theorem dX12_build_361 : decode cX12_build 361 = .ok (.iinc 7 1, 3) := by decide +kernel
theorem dX12_build_364 : decode cX12_build 364 = .ok (.goto (-24), 3) := by decide +kernel
theorem dX12_build_367 : decode cX12_build 367 = .ok (.aload_n 0, 1) := by decide +kernel
theorem dX12_build_368 : decode cX12_build 368 = .ok (.invokevirtual 127, 3) := by decide +kernel
theorem dX12_build_371 : decode cX12_build 371 = .ok (.iload 4, 2) := by decide +kernel
theorem dX12_build_373 : decode cX12_build 373 = .ok (.iconst 1, 1) := by decide +kernel
theorem dX12_build_374 : decode cX12_build 374 = .ok (.iadd, 1) := by decide +kernel
theorem dX12_build_375 : decode cX12_build 375 = .ok (.istore 4, 2) := by decide +kernel
theorem dX12_build_377 : decode cX12_build 377 = .ok (.iinc 5 1, 3) := by decide +kernel
theorem dX12_build_380 : decode cX12_build 380 = .ok (.goto (-155), 3) := by decide +kernel
theorem dX12_build_383 : decode cX12_build 383 = .ok (.iconst 0, 1) := by decide +kernel
theorem dX12_build_384 : decode cX12_build 384 = .ok (.istore 5, 2) := by decide +kernel
theorem dX12_build_386 : decode cX12_build 386 = .ok (.iload 5, 2) := by decide +kernel
theorem dX12_build_388 : decode cX12_build 388 = .ok (.aload_n 0, 1) := by decide +kernel
theorem dX12_build_389 : decode cX12_build 389 = .ok (.getfield 81, 3) := by decide +kernel
theorem dX12_build_392 : decode cX12_build 392 = .ok (.aload_n 0, 1) := by decide +kernel
theorem dX12_build_393 : decode cX12_build 393 = .ok (.getfield 78, 3) := by decide +kernel
theorem dX12_build_396 : decode cX12_build 396 = .ok (.iaload, 1) := by decide +kernel
theorem dX12_build_397 : decode cX12_build 397 = .ok (.if_icmp .ge 28, 3) := by decide +kernel
theorem dX12_build_400 : decode cX12_build 400 = .ok (.aload_n 0, 1) := by decide +kernel
theorem dX12_build_401 : decode cX12_build 401 = .ok (.sipush 1353, 3) := by decide +kernel
theorem dX12_build_404 : decode cX12_build 404 = .ok (.bipush 101, 2) := by decide +kernel
theorem dX12_build_406 : decode cX12_build 406 = .ok (.iload 5, 2) := by decide +kernel
theorem dX12_build_408 : decode cX12_build 408 = .ok (.iadd, 1) := by decide +kernel
theorem dX12_build_409 : decode cX12_build 409 = .ok (.aload_n 0, 1) := by decide +kernel
theorem dX12_build_410 : decode cX12_build 410 = .ok (.getfield 84, 3) := by decide +kernel
theorem dX12_build_413 : decode cX12_build 413 = .ok (.iload 5, 2) := by decide +kernel
theorem dX12_build_415 : decode cX12_build 415 = .ok (.iaload, 1) := by decide +kernel
theorem dX12_build_416 : decode cX12_build 416 = .ok (.invokevirtual 250, 3) := by decide +kernel
theorem dX12_build_419 : decode cX12_build 419 = .ok (.iinc 5 1, 3) := by decide +kernel
theorem dX12_build_422 : decode cX12_build 422 = .ok (.goto (-36), 3) := by decide +kernel
theorem dX12_build_425 : decode cX12_build 425 = .ok (.aload_n 0, 1) := by decide +kernel
theorem dX12_build_426 : decode cX12_build 426 = .ok (.getfield 57, 3) := by decide +kernel
theorem dX12_build_429 : decode cX12_build 429 = .ok (.sipush 1353, 3) := by decide +kernel
theorem dX12_build_432 : decode cX12_build 432 = .ok (.bipush 101, 2) := by decide +kernel
theorem dX12_build_434 : decode cX12_build 434 = .ok (.aload_n 0, 1) := by decide +kernel
theorem dX12_build_435 : decode cX12_build 435 = .ok (.getfield 81, 3) := by decide +kernel
theorem dX12_build_438 : decode cX12_build 438 = .ok (.aload_n 0, 1) := by decide +kernel
theorem dX12_build_439 : decode cX12_build 439 = .ok (.getfield 78, 3) := by decide +kernel
theorem dX12_build_442 : decode cX12_build 442 = .ok (.iaload, 1) := by decide +kernel
theorem dX12_build_443 : decode cX12_build 443 = .ok (.iadd, 1) := by decide +kernel
theorem dX12_build_444 : decode cX12_build 444 = .ok (.iastore, 1) := by decide +kernel
theorem dX12_build_445 : decode cX12_build 445 = .ok (.aload_n 0, 1) := by decide +kernel
theorem dX12_build_446 : decode cX12_build 446 = .ok (.invokevirtual 150, 3) := by decide +kernel
theorem dX12_build_449 : decode cX12_build 449 = .ok (.iconst 0, 1) := by decide +kernel
theorem dX12_build_450 : decode cX12_build 450 = .ok (.istore 5, 2) := by decide +kernel
theorem dX12_build_452 : decode cX12_build 452 = .ok (.iload 5, 2) := by decide +kernel
theorem dX12_build_454 : decode cX12_build 454 = .ok (.bipush 32, 2) := by decide +kernel
theorem dX12_build_456 : decode cX12_build 456 = .ok (.if_icmp .ge 27, 3) := by decide +kernel
theorem dX12_build_459 : decode cX12_build 459 = .ok (.aload_n 0, 1) := by decide +kernel
theorem dX12_build_460 : decode cX12_build 460 = .ok (.sipush 1353, 3) := by decide +kernel
theorem dX12_build_463 : decode cX12_build 463 = .ok (.bipush 67, 2) := by decide +kernel
theorem dX12_build_465 : decode cX12_build 465 = .ok (.iload 5, 2) := by decide +kernel
theorem dX12_build_467 : decode cX12_build 467 = .ok (.iadd, 1) := by decide +kernel
theorem dX12_build_468 : decode cX12_build 468 = .ok (.aload_n 0, 1) := by decide +kernel
theorem dX12_build_469 : decode cX12_build 469 = .ok (.iload 5, 2) := by decide +kernel
theorem dX12_build_471 : decode cX12_build 471 = .ok (.invokevirtual 152, 3) := by decide +kernel
theorem dX12_build_474 : decode cX12_build 474 = .ok (.invokevirtual 250, 3) := by decide +kernel
theorem dX12_build_477 : decode cX12_build 477 = .ok (.iinc 5 1, 3) := by decide +kernel
theorem dX12_build_480 : decode cX12_build 480 = .ok (.goto (-28), 3) := by decide +kernel
theorem dX12_build_483 : decode cX12_build 483 = .ok (.aload_n 0, 1) := by decide +kernel
theorem dX12_build_484 : decode cX12_build 484 = .ok (.sipush 1353, 3) := by decide +kernel
theorem dX12_build_487 : decode cX12_build 487 = .ok (.bipush 99, 2) := by decide +kernel
theorem dX12_build_489 : decode cX12_build 489 = .ok (.iload 4, 2) := by decide +kernel
theorem dX12_build_491 : decode cX12_build 491 = .ok (.invokevirtual 250, 3) := by decide +kernel
theorem dX12_build_494 : decode cX12_build 494 = .ok (.aload_n 0, 1) := by decide +kernel
theorem dX12_build_495 : decode cX12_build 495 = .ok (.sipush 1353, 3) := by decide +kernel
theorem dX12_build_498 : decode cX12_build 498 = .ok (.bipush 100, 2) := by decide +kernel
theorem dX12_build_500 : decode cX12_build 500 = .ok (.iload_n 3, 1) := by decide +kernel
theorem dX12_build_501 : decode cX12_build 501 = .ok (.invokevirtual 250, 3) := by decide +kernel
theorem dX12_build_504 : decode cX12_build 504 = .ok (.aload_n 0, 1) := by decide +kernel
theorem dX12_build_505 : decode cX12_build 505 = .ok (.sipush 1353, 3) := by decide +kernel
theorem dX12_build_508 : decode cX12_build 508 = .ok (.invokevirtual 254, 3) := by decide +kernel
theorem dX12_build_511 : decode cX12_build 511 = .ok (.return_, 1) := by decide +kernel
theorem dX12_setTimer_0 : decode cX12_setTimer 0 = .ok (.aload_n 0, 1) := by decide +kernel
theorem dX12_setTimer_1 : decode cX12_setTimer 1 = .ok (.getfield 333, 3) := by decide +kernel
theorem dX12_setTimer_4 : decode cX12_setTimer 4 = .ok (.iconst 3, 1) := by decide +kernel
theorem dX12_setTimer_5 : decode cX12_setTimer 5 = .ok (.iload_n 1, 1) := by decide +kernel
theorem dX12_setTimer_6 : decode cX12_setTimer 6 = .ok (.imul, 1) := by decide +kernel
theorem dX12_setTimer_7 : decode cX12_setTimer 7 = .ok (.iload_n 2, 1) := by decide +kernel
theorem dX12_setTimer_8 : decode cX12_setTimer 8 = .ok (.iadd, 1) := by decide +kernel
theorem dX12_setTimer_9 : decode cX12_setTimer 9 = .ok (.aload_n 0, 1) := by decide +kernel
theorem dX12_setTimer_10 : decode cX12_setTimer 10 = .ok (.getfield 216, 3) := by decide +kernel
theorem dX12_setTimer_13 : decode cX12_setTimer 13 = .ok (.iconst 4, 1) := by decide +kernel
theorem dX12_setTimer_14 : decode cX12_setTimer 14 = .ok (.iadd, 1) := by decide +kernel
theorem dX12_setTimer_15 : decode cX12_setTimer 15 = .ok (.aload_n 0, 1) := by decide +kernel
theorem dX12_setTimer_16 : decode cX12_setTimer 16 = .ok (.getfield 312, 3) := by decide +kernel
theorem dX12_setTimer_19 : decode cX12_setTimer 19 = .ok (.iload_n 1, 1) := by decide +kernel
theorem dX12_setTimer_20 : decode cX12_setTimer 20 = .ok (.iaload, 1) := by decide +kernel
theorem dX12_setTimer_21 : decode cX12_setTimer 21 = .ok (.iadd, 1) := by decide +kernel
theorem dX12_setTimer_22 : decode cX12_setTimer 22 = .ok (.iastore, 1) := by decide +kernel
theorem dX12_setTimer_23 : decode cX12_setTimer 23 = .ok (.return_, 1) := by decide +kernel
theorem dX12_notBeen_0 : decode cX12_notBeen 0 = .ok (.aload_n 0, 1) := by decide +kernel
theorem dX12_notBeen_1 : decode cX12_notBeen 1 = .ok (.getfield 324, 3) := by decide +kernel
theorem dX12_notBeen_4 : decode cX12_notBeen 4 = .ok (.iload_n 1, 1) := by decide +kernel
theorem dX12_notBeen_5 : decode cX12_notBeen 5 = .ok (.iconst 0, 1) := by decide +kernel
theorem dX12_notBeen_6 : decode cX12_notBeen 6 = .ok (.bastore, 1) := by decide +kernel
theorem dX12_notBeen_7 : decode cX12_notBeen 7 = .ok (.aload_n 0, 1) := by decide +kernel
theorem dX12_notBeen_8 : decode cX12_notBeen 8 = .ok (.getfield 327, 3) := by decide +kernel
theorem dX12_notBeen_11 : decode cX12_notBeen 11 = .ok (.iload_n 1, 1) := by decide +kernel
theorem dX12_notBeen_12 : decode cX12_notBeen 12 = .ok (.iconst 0, 1) := by decide +kernel
theorem dX12_notBeen_13 : decode cX12_notBeen 13 = .ok (.bastore, 1) := by decide +kernel
theorem dX12_notBeen_14 : decode cX12_notBeen 14 = .ok (.aload_n 0, 1) := by decide +kernel
theorem dX12_notBeen_15 : decode cX12_notBeen 15 = .ok (.getfield 330, 3) := by decide +kernel
theorem dX12_notBeen_18 : decode cX12_notBeen 18 = .ok (.iload_n 1, 1) := by decide +kernel
theorem dX12_notBeen_19 : decode cX12_notBeen 19 = .ok (.iconst 0, 1) := by decide +kernel
theorem dX12_notBeen_20 : decode cX12_notBeen 20 = .ok (.bastore, 1) := by decide +kernel
theorem dX12_notBeen_21 : decode cX12_notBeen 21 = .ok (.return_, 1) := by decide +kernel
theorem dX12_begin_0 : decode cX12_begin 0 = .ok (.aload_n 0, 1) := by decide +kernel
theorem dX12_begin_1 : decode cX12_begin 1 = .ok (.iload_n 1, 1) := by decide +kernel
theorem dX12_begin_2 : decode cX12_begin 2 = .ok (.iload_n 2, 1) := by decide +kernel
theorem dX12_begin_3 : decode cX12_begin 3 = .ok (.invokevirtual 566, 3) := by decide +kernel
theorem dX12_begin_6 : decode cX12_begin 6 = .ok (.ifCond .ne 4, 3) := by decide +kernel
theorem dX12_begin_9 : decode cX12_begin 9 = .ok (.return_, 1) := by decide +kernel
theorem dX12_begin_10 : decode cX12_begin 10 = .ok (.aload_n 0, 1) := by decide +kernel
theorem dX12_begin_11 : decode cX12_begin 11 = .ok (.getfield 312, 3) := by decide +kernel
theorem dX12_begin_14 : decode cX12_begin 14 = .ok (.iload_n 1, 1) := by decide +kernel
theorem dX12_begin_15 : decode cX12_begin 15 = .ok (.iload_n 2, 1) := by decide +kernel
theorem dX12_begin_16 : decode cX12_begin 16 = .ok (.iastore, 1) := by decide +kernel
theorem dX12_begin_17 : decode cX12_begin 17 = .ok (.aload_n 0, 1) := by decide +kernel
theorem dX12_begin_18 : decode cX12_begin 18 = .ok (.getfield 315, 3) := by decide +kernel
theorem dX12_begin_21 : decode cX12_begin 21 = .ok (.iload_n 1, 1) := by decide +kernel
theorem dX12_begin_22 : decode cX12_begin 22 = .ok (.iconst 0, 1) := by decide +kernel
theorem dX12_begin_23 : decode cX12_begin 23 = .ok (.iastore, 1) := by decide +kernel
theorem dX12_begin_24 : decode cX12_begin 24 = .ok (.aload_n 0, 1) := by decide +kernel
theorem dX12_begin_25 : decode cX12_begin 25 = .ok (.iload_n 1, 1) := by decide +kernel
theorem dX12_begin_26 : decode cX12_begin 26 = .ok (.invokevirtual 454, 3) := by decide +kernel
theorem dX12_begin_29 : decode cX12_begin 29 = .ok (.aload_n 0, 1) := by decide +kernel
theorem dX12_begin_30 : decode cX12_begin 30 = .ok (.iload_n 1, 1) := by decide +kernel
theorem dX12_begin_31 : decode cX12_begin 31 = .ok (.invokevirtual 569, 3) := by decide +kernel
theorem dX12_begin_34 : decode cX12_begin 34 = .ok (.aload_n 0, 1) := by decide +kernel
theorem dX12_begin_35 : decode cX12_begin 35 = .ok (.iload_n 1, 1) := by decide +kernel
theorem dX12_begin_36 : decode cX12_begin 36 = .ok (.iconst 0, 1) := by decide +kernel
theorem dX12_begin_37 : decode cX12_begin 37 = .ok (.invokevirtual 572, 3) := by decide +kernel
theorem dX12_begin_40 : decode cX12_begin 40 = .ok (.aload_n 0, 1) := by decide +kernel
theorem dX12_begin_41 : decode cX12_begin 41 = .ok (.aload_n 0, 1) := by decide +kernel
theorem dX12_begin_42 : decode cX12_begin 42 = .ok (.getfield 309, 3) := by decide +kernel
theorem dX12_begin_45 : decode cX12_begin 45 = .ok (.iload_n 1, 1) := by decide +kernel
theorem dX12_begin_46 : decode cX12_begin 46 = .ok (.iaload, 1) := by decide +kernel
theorem dX12_begin_47 : decode cX12_begin 47 = .ok (.iload_n 2, 1) := by decide +kernel
theorem dX12_begin_48 : decode cX12_begin 48 = .ok (.invokevirtual 575, 3) := by decide +kernel
theorem dX12_begin_51 : decode cX12_begin 51 = .ok (.iload_n 1, 1) := by decide +kernel
theorem dX12_begin_52 : decode cX12_begin 52 = .ok (.if_icmp .eq 4, 3) := by decide +kernel
theorem dX12_begin_55 : decode cX12_begin 55 = .ok (.return_, 1) := by decide +kernel
theorem dX12_begin_56 : decode cX12_begin 56 = .ok (.aload_n 0, 1) := by decide +kernel
theorem dX12_begin_57 : decode cX12_begin 57 = .ok (.sipush 1131, 3) := by decide +kernel
theorem dX12_begin_60 : decode cX12_begin 60 = .ok (.iload_n 1, 1) := by decide +kernel
theorem dX12_begin_61 : decode cX12_begin 61 = .ok (.iadd, 1) := by decide +kernel
theorem dX12_begin_62 : decode cX12_begin 62 = .ok (.invokevirtual 63, 3) := by decide +kernel
theorem dX12_begin_65 : decode cX12_begin 65 = .ok (.ifCond .eq 21, 3) := by decide +kernel
theorem dX12_begin_68 : decode cX12_begin 68 = .ok (.aload_n 0, 1) := by decide +kernel
theorem dX12_begin_69 : decode cX12_begin 69 = .ok (.iload_n 1, 1) := by decide +kernel
theorem dX12_begin_70 : decode cX12_begin 70 = .ok (.aload_n 0, 1) := by decide +kernel
theorem dX12_begin_71 : decode cX12_begin 71 = .ok (.getfield 321, 3) := by decide +kernel
theorem dX12_begin_74 : decode cX12_begin 74 = .ok (.iload_n 1, 1) := by decide +kernel
theorem dX12_begin_75 : decode cX12_begin 75 = .ok (.iaload, 1) := by decide +kernel
theorem dX12_begin_76 : decode cX12_begin 76 = .ok (.sipush 1131, 3) := by decide +kernel
theorem dX12_begin_79 : decode cX12_begin 79 = .ok (.iload_n 1, 1) := by decide +kernel
theorem dX12_begin_80 : decode cX12_begin 80 = .ok (.iadd, 1) := by decide +kernel
theorem dX12_begin_81 : decode cX12_begin 81 = .ok (.invokevirtual 578, 3) := by decide +kernel
theorem dX12_begin_84 : decode cX12_begin 84 = .ok (.pop, 1) := by decide +kernel
theorem dX12_begin_85 : decode cX12_begin 85 = .ok (.return_, 1) := by decide +kernel
theorem dX12_begin_86 : decode cX12_begin 86 = .ok (.aload_n 0, 1) := by decide +kernel
theorem dX12_begin_87 : decode cX12_begin 87 = .ok (.iload_n 1, 1) := by decide +kernel
theorem dX12_begin_88 : decode cX12_begin 88 = .ok (.invokevirtual 582, 3) := by decide +kernel
theorem dX12_begin_91 : decode cX12_begin 91 = .ok (.aload_n 0, 1) := by decide +kernel
theorem dX12_begin_92 : decode cX12_begin 92 = .ok (.iload_n 1, 1) := by decide +kernel
theorem dX12_begin_93 : decode cX12_begin 93 = .ok (.iconst (-1), 1) := by decide +kernel
theorem dX12_begin_94 : decode cX12_begin 94 = .ok (.sipush 1353, 3) := by decide +kernel
theorem dX12_begin_97 : decode cX12_begin 97 = .ok (.invokevirtual 578, 3) := by decide +kernel
theorem dX12_begin_100 : decode cX12_begin 100 = .ok (.pop, 1) := by decide +kernel
theorem dX12_begin_101 : decode cX12_begin 101 = .ok (.return_, 1) := by decide +kernel
theorem dX12_snapshot_0 : decode cX12_snapshot 0 = .ok (.iconst 0, 1) := by decide +kernel
theorem dX12_snapshot_1 : decode cX12_snapshot 1 = .ok (.istore_n 2, 1) := by decide +kernel
theorem dX12_snapshot_2 : decode cX12_snapshot 2 = .ok (.iload_n 2, 1) := by decide +kernel
theorem dX12_snapshot_3 : decode cX12_snapshot 3 = .ok (.aload_n 0, 1) := by decide +kernel
theorem dX12_snapshot_4 : decode cX12_snapshot 4 = .ok (.getfield 219, 3) := by decide +kernel
theorem dX12_snapshot_7 : decode cX12_snapshot 7 = .ok (.if_icmp .ge 92, 3) := by decide +kernel
theorem dX12_snapshot_10 : decode cX12_snapshot 10 = .ok (.bipush 13, 2) := by decide +kernel
theorem dX12_snapshot_12 : decode cX12_snapshot 12 = .ok (.iload_n 1, 1) := by decide +kernel
theorem dX12_snapshot_13 : decode cX12_snapshot 13 = .ok (.imul, 1) := by decide +kernel
theorem dX12_snapshot_14 : decode cX12_snapshot 14 = .ok (.iload_n 2, 1) := by decide +kernel
theorem dX12_snapshot_15 : decode cX12_snapshot 15 = .ok (.iadd, 1) := by decide +kernel
theorem dX12_snapshot_16 : decode cX12_snapshot 16 = .ok (.istore_n 3, 1) := by decide +kernel
theorem dX12_snapshot_17 : decode cX12_snapshot 17 = .ok (.aload_n 0, 1) := by decide +kernel
theorem dX12_snapshot_18 : decode cX12_snapshot 18 = .ok (.getfield 348, 3) := by decide +kernel
theorem dX12_snapshot_21 : decode cX12_snapshot 21 = .ok (.iload_n 3, 1) := by decide +kernel
theorem dX12_snapshot_22 : decode cX12_snapshot 22 = .ok (.iaload, 1) := by decide +kernel
theorem dX12_snapshot_23 : decode cX12_snapshot 23 = .ok (.aload_n 0, 1) := by decide +kernel
theorem dX12_snapshot_24 : decode cX12_snapshot 24 = .ok (.getfield 309, 3) := by decide +kernel
theorem dX12_snapshot_27 : decode cX12_snapshot 27 = .ok (.iload_n 1, 1) := by decide +kernel
theorem dX12_snapshot_28 : decode cX12_snapshot 28 = .ok (.iaload, 1) := by decide +kernel
theorem dX12_snapshot_29 : decode cX12_snapshot 29 = .ok (.if_icmp .gt 6, 3) := by decide +kernel
theorem dX12_snapshot_32 : decode cX12_snapshot 32 = .ok (.goto 61, 3) := by decide +kernel
theorem dX12_snapshot_35 : decode cX12_snapshot 35 = .ok (.iconst 0, 1) := by decide +kernel
theorem dX12_snapshot_36 : decode cX12_snapshot 36 = .ok (.istore 4, 2) := by decide +kernel
theorem dX12_snapshot_38 : decode cX12_snapshot 38 = .ok (.iconst 0, 1) := by decide +kernel
theorem dX12_snapshot_39 : decode cX12_snapshot 39 = .ok (.istore 5, 2) := by decide +kernel
theorem dX12_snapshot_41 : decode cX12_snapshot 41 = .ok (.iload 5, 2) := by decide +kernel
theorem dX12_snapshot_43 : decode cX12_snapshot 43 = .ok (.aload_n 0, 1) := by decide +kernel
theorem dX12_snapshot_44 : decode cX12_snapshot 44 = .ok (.getfield 219, 3) := by decide +kernel
theorem dX12_snapshot_47 : decode cX12_snapshot 47 = .ok (.if_icmp .ge 35, 3) := by decide +kernel
theorem dX12_snapshot_50 : decode cX12_snapshot 50 = .ok (.aload_n 0, 1) := by decide +kernel
theorem dX12_snapshot_51 : decode cX12_snapshot 51 = .ok (.iload_n 3, 1) := by decide +kernel
theorem dX12_snapshot_52 : decode cX12_snapshot 52 = .ok (.bipush 13, 2) := by decide +kernel
theorem dX12_snapshot_54 : decode cX12_snapshot 54 = .ok (.iload_n 1, 1) := by decide +kernel
theorem dX12_snapshot_55 : decode cX12_snapshot 55 = .ok (.imul, 1) := by decide +kernel
theorem dX12_snapshot_56 : decode cX12_snapshot 56 = .ok (.iload 5, 2) := by decide +kernel
theorem dX12_snapshot_58 : decode cX12_snapshot 58 = .ok (.iadd, 1) := by decide +kernel
theorem dX12_snapshot_59 : decode cX12_snapshot 59 = .ok (.invokevirtual 585, 3) := by decide +kernel
theorem dX12_snapshot_62 : decode cX12_snapshot 62 = .ok (.ifCond .eq 10, 3) := by decide +kernel
theorem dX12_snapshot_65 : decode cX12_snapshot 65 = .ok (.iload 4, 2) := by decide +kernel
theorem dX12_snapshot_67 : decode cX12_snapshot 67 = .ok (.iconst 1, 1) := by decide +kernel
theorem dX12_snapshot_68 : decode cX12_snapshot 68 = .ok (.iadd, 1) := by decide +kernel
theorem dX12_snapshot_69 : decode cX12_snapshot 69 = .ok (.goto 5, 3) := by decide +kernel
theorem dX12_snapshot_72 : decode cX12_snapshot 72 = .ok (.iload 4, 2) := by decide +kernel
theorem dX12_snapshot_74 : decode cX12_snapshot 74 = .ok (.istore 4, 2) := by decide +kernel
theorem dX12_snapshot_76 : decode cX12_snapshot 76 = .ok (.iinc 5 1, 3) := by decide +kernel
theorem dX12_snapshot_79 : decode cX12_snapshot 79 = .ok (.goto (-38), 3) := by decide +kernel
theorem dX12_snapshot_82 : decode cX12_snapshot 82 = .ok (.iload 4, 2) := by decide +kernel
theorem dX12_snapshot_84 : decode cX12_snapshot 84 = .ok (.aload_n 0, 1) := by decide +kernel
theorem dX12_snapshot_85 : decode cX12_snapshot 85 = .ok (.getfield 442, 3) := by decide +kernel
theorem dX12_snapshot_88 : decode cX12_snapshot 88 = .ok (.if_icmp .le 5, 3) := by decide +kernel
theorem dX12_snapshot_91 : decode cX12_snapshot 91 = .ok (.iload_n 3, 1) := by decide +kernel
theorem dX12_snapshot_92 : decode cX12_snapshot 92 = .ok (.ireturn, 1) := by decide +kernel
theorem dX12_snapshot_93 : decode cX12_snapshot 93 = .ok (.iinc 2 1, 3) := by decide +kernel
theorem dX12_snapshot_96 : decode cX12_snapshot 96 = .ok (.goto (-94), 3) := by decide +kernel
theorem dX12_snapshot_99 : decode cX12_snapshot 99 = .ok (.iconst (-1), 1) := by decide +kernel
theorem dX12_snapshot_100 : decode cX12_snapshot 100 = .ok (.ireturn, 1) := by decide +kernel
theorem dX12_isSameSnap_0 : decode cX12_isSameSnap 0 = .ok (.aload_n 0, 1) := by decide +kernel
theorem dX12_isSameSnap_1 : decode cX12_isSameSnap 1 = .ok (.getfield 348, 3) := by decide +kernel
theorem dX12_isSameSnap_4 : decode cX12_isSameSnap 4 = .ok (.iload_n 1, 1) := by decide +kernel
theorem dX12_isSameSnap_5 : decode cX12_isSameSnap 5 = .ok (.iaload, 1) := by decide +kernel
