theorem dX8_signers_29 : decode cX8_signers 29 = .ok (.aload_n 0, 1) := by decide +kernel
theorem dX8_signers_30 : decode cX8_signers 30 = .ok (.getfield 11, 3) := by decide +kernel
theorem dX8_signers_33 : decode cX8_signers 33 = .ok (.iload_n 3, 1) := by decide +kernel
theorem dX8_signers_34 : decode cX8_signers 34 = .ok (.aaload, 1) := by decide +kernel
theorem dX8_signers_35 : decode cX8_signers 35 = .ok (.ifnonnull 7, 3) := by decide +kernel
theorem dX8_signers_38 : decode cX8_signers 38 = .ok (.iconst (-1), 1) := by decide +kernel
theorem dX8_signers_39 : decode cX8_signers 39 = .ok (.goto 12, 3) := by decide +kernel
theorem dX8_signers_42 : decode cX8_signers 42 = .ok (.aload_n 0, 1) := by decide +kernel
theorem dX8_signers_43 : decode cX8_signers 43 = .ok (.getfield 11, 3) := by decide +kernel
theorem dX8_signers_46 : decode cX8_signers 46 = .ok (.iload_n 3, 1) := by decide +kernel
theorem dX8_signers_47 : decode cX8_signers 47 = .ok (.aaload, 1) := by decide +kernel
theorem dX8_signers_48 : decode cX8_signers 48 = .ok (.invokevirtual 62, 3) := by decide +kernel
theorem dX8_signers_51 : decode cX8_signers 51 = .ok (.istore 6, 2) := by decide +kernel
theorem dX8_signers_53 : decode cX8_signers 53 = .ok (.iconst 0, 1) := by decide +kernel
theorem dX8_signers_54 : decode cX8_signers 54 = .ok (.istore 7, 2) := by decide +kernel
theorem dX8_signers_56 : decode cX8_signers 56 = .ok (.iconst 0, 1) := by decide +kernel
theorem dX8_signers_57 : decode cX8_signers 57 = .ok (.istore 8, 2) := by decide +kernel
theorem dX8_signers_59 : decode cX8_signers 59 = .ok (.iload 8, 2) := by decide +kernel
theorem dX8_signers_61 : decode cX8_signers 61 = .ok (.aload_n 0, 1) := by decide +kernel
theorem dX8_signers_62 : decode cX8_signers 62 = .ok (.getfield 32, 3) := by decide +kernel
theorem dX8_signers_65 : decode cX8_signers 65 = .ok (.if_icmp .ge 45, 3) := by decide +kernel
theorem dX8_signers_68 : decode cX8_signers 68 = .ok (.aload_n 0, 1) := by decide +kernel
theorem dX8_signers_69 : decode cX8_signers 69 = .ok (.getfield 36, 3) := by decide +kernel
theorem dX8_signers_72 : decode cX8_signers 72 = .ok (.iload 4, 2) := by decide +kernel
theorem dX8_signers_74 : decode cX8_signers 74 = .ok (.iload 8, 2) := by decide +kernel
theorem dX8_signers_76 : decode cX8_signers 76 = .ok (.iadd, 1) := by decide +kernel
theorem dX8_signers_77 : decode cX8_signers 77 = .ok (.aaload, 1) := by decide +kernel
theorem dX8_signers_78 : decode cX8_signers 78 = .ok (.ifnonnull 23, 3) := by decide +kernel
theorem dX8_signers_81 : decode cX8_signers 81 = .ok (.aload_n 0, 1) := by decide +kernel
theorem dX8_signers_82 : decode cX8_signers 82 = .ok (.getfield 36, 3) := by decide +kernel
theorem dX8_signers_85 : decode cX8_signers 85 = .ok (.iload 5, 2) := by decide +kernel
theorem dX8_signers_87 : decode cX8_signers 87 = .ok (.iload 8, 2) := by decide +kernel
theorem dX8_signers_89 : decode cX8_signers 89 = .ok (.iadd, 1) := by decide +kernel
theorem dX8_signers_90 : decode cX8_signers 90 = .ok (.aaload, 1) := by decide +kernel
theorem dX8_signers_91 : decode cX8_signers 91 = .ok (.ifnonnull 10, 3) := by decide +kernel
theorem dX8_signers_94 : decode cX8_signers 94 = .ok (.iload 8, 2) := by decide +kernel
theorem dX8_signers_96 : decode cX8_signers 96 = .ok (.iload 6, 2) := by decide +kernel
theorem dX8_signers_98 : decode cX8_signers 98 = .ok (.if_icmp .ne 6, 3) := by decide +kernel
theorem dX8_signers_101 : decode cX8_signers 101 = .ok (.iinc 7 1, 3) := by decide +kernel
theorem dX8_signers_104 : decode cX8_signers 104 = .ok (.iinc 8 1, 3) := by decide +kernel
theorem dX8_signers_107 : decode cX8_signers 107 = .ok (.goto (-48), 3) := by decide +kernel
theorem dX8_signers_110 : decode cX8_signers 110 = .ok (.iload 7, 2) := by decide +kernel
theorem dX8_signers_112 : decode cX8_signers 112 = .ok (.ireturn, 1) := by decide +kernel
theorem dX8_inOrder_0 : decode cX8_inOrder 0 = .ok (.aload_n 0, 1) := by decide +kernel
theorem dX8_inOrder_1 : decode cX8_inOrder 1 = .ok (.iload_n 1, 1) := by decide +kernel
theorem dX8_inOrder_2 : decode cX8_inOrder 2 = .ok (.iload_n 2, 1) := by decide +kernel
theorem dX8_inOrder_3 : decode cX8_inOrder 3 = .ok (.invokevirtual 51, 3) := by decide +kernel
theorem dX8_inOrder_6 : decode cX8_inOrder 6 = .ok (.istore 4, 2) := by decide +kernel
theorem dX8_inOrder_8 : decode cX8_inOrder 8 = .ok (.iload 4, 2) := by decide +kernel
theorem dX8_inOrder_10 : decode cX8_inOrder 10 = .ok (.ifCond .lt 17, 3) := by decide +kernel
theorem dX8_inOrder_13 : decode cX8_inOrder 13 = .ok (.iload_n 3, 1) := by decide +kernel
theorem dX8_inOrder_14 : decode cX8_inOrder 14 = .ok (.ifCond .lt 13, 3) := by decide +kernel
theorem dX8_inOrder_17 : decode cX8_inOrder 17 = .ok (.iload_n 3, 1) := by decide +kernel
theorem dX8_inOrder_18 : decode cX8_inOrder 18 = .ok (.iconst 2, 1) := by decide +kernel
theorem dX8_inOrder_19 : decode cX8_inOrder 19 = .ok (.aload_n 0, 1) := by decide +kernel
theorem dX8_inOrder_20 : decode cX8_inOrder 20 = .ok (.getfield 32, 3) := by decide +kernel
theorem dX8_inOrder_23 : decode cX8_inOrder 23 = .ok (.imul, 1) := by decide +kernel
theorem dX8_inOrder_24 : decode cX8_inOrder 24 = .ok (.if_icmp .le 5, 3) := by decide +kernel
theorem dX8_inOrder_27 : decode cX8_inOrder 27 = .ok (.aconst_null, 1) := by decide +kernel
theorem dX8_inOrder_28 : decode cX8_inOrder 28 = .ok (.areturn, 1) := by decide +kernel
theorem dX8_inOrder_29 : decode cX8_inOrder 29 = .ok (.iload_n 3, 1) := by decide +kernel
theorem dX8_inOrder_30 : decode cX8_inOrder 30 = .ok (.ifCond .ne 13, 3) := by decide +kernel
theorem dX8_inOrder_33 : decode cX8_inOrder 33 = .ok (.aload_n 0, 1) := by decide +kernel
theorem dX8_inOrder_34 : decode cX8_inOrder 34 = .ok (.getfield 11, 3) := by decide +kernel
theorem dX8_inOrder_37 : decode cX8_inOrder 37 = .ok (.iload 4, 2) := by decide +kernel
theorem dX8_inOrder_39 : decode cX8_inOrder 39 = .ok (.aaload, 1) := by decide +kernel
theorem dX8_inOrder_40 : decode cX8_inOrder 40 = .ok (.goto 19, 3) := by decide +kernel
theorem dX8_inOrder_43 : decode cX8_inOrder 43 = .ok (.aload_n 0, 1) := by decide +kernel
theorem dX8_inOrder_44 : decode cX8_inOrder 44 = .ok (.getfield 36, 3) := by decide +kernel
theorem dX8_inOrder_47 : decode cX8_inOrder 47 = .ok (.aload_n 0, 1) := by decide +kernel
theorem dX8_inOrder_48 : decode cX8_inOrder 48 = .ok (.iload 4, 2) := by decide +kernel
theorem dX8_inOrder_50 : decode cX8_inOrder 50 = .ok (.iconst 2, 1) := by decide +kernel
theorem dX8_inOrder_51 : decode cX8_inOrder 51 = .ok (.invokevirtual 69, 3) := by decide +kernel
theorem dX8_inOrder_54 : decode cX8_inOrder 54 = .ok (.iload_n 3, 1) := by decide +kernel
theorem dX8_inOrder_55 : decode cX8_inOrder 55 = .ok (.iadd, 1) := by decide +kernel
theorem dX8_inOrder_56 : decode cX8_inOrder 56 = .ok (.iconst 1, 1) := by decide +kernel
theorem dX8_inOrder_57 : decode cX8_inOrder 57 = .ok (.isub, 1) := by decide +kernel
theorem dX8_inOrder_58 : decode cX8_inOrder 58 = .ok (.aaload, 1) := by decide +kernel
theorem dX8_inOrder_59 : decode cX8_inOrder 59 = .ok (.areturn, 1) := by decide +kernel
theorem dX8_holdDecided_0 : decode cX8_holdDecided 0 = .ok (.iload_n 1, 1) := by decide +kernel
theorem dX8_holdDecided_1 : decode cX8_holdDecided 1 = .ok (.ifCond .lt 20, 3) := by decide +kernel
theorem dX8_holdDecided_4 : decode cX8_holdDecided 4 = .ok (.iload_n 1, 1) := by decide +kernel
theorem dX8_holdDecided_5 : decode cX8_holdDecided 5 = .ok (.aload_n 0, 1) := by decide +kernel
theorem dX8_holdDecided_6 : decode cX8_holdDecided 6 = .ok (.getfield 32, 3) := by decide +kernel
theorem dX8_holdDecided_9 : decode cX8_holdDecided 9 = .ok (.if_icmp .ge 12, 3) := by decide +kernel
theorem dX8_holdDecided_12 : decode cX8_holdDecided 12 = .ok (.aload_n 0, 1) := by decide +kernel
theorem dX8_holdDecided_13 : decode cX8_holdDecided 13 = .ok (.getfield 39, 3) := by decide +kernel
theorem dX8_holdDecided_16 : decode cX8_holdDecided 16 = .ok (.iload_n 1, 1) := by decide +kernel
theorem dX8_holdDecided_17 : decode cX8_holdDecided 17 = .ok (.aaload, 1) := by decide +kernel
theorem dX8_holdDecided_18 : decode cX8_holdDecided 18 = .ok (.ifnull 5, 3) := by decide +kernel
theorem dX8_holdDecided_21 : decode cX8_holdDecided 21 = .ok (.iconst 0, 1) := by decide +kernel
theorem dX8_holdDecided_22 : decode cX8_holdDecided 22 = .ok (.ireturn, 1) := by decide +kernel
theorem dX8_holdDecided_23 : decode cX8_holdDecided 23 = .ok (.aload_n 0, 1) := by decide +kernel
theorem dX8_holdDecided_24 : decode cX8_holdDecided 24 = .ok (.getfield 39, 3) := by decide +kernel
theorem dX8_holdDecided_27 : decode cX8_holdDecided 27 = .ok (.iload_n 1, 1) := by decide +kernel
theorem dX8_holdDecided_28 : decode cX8_holdDecided 28 = .ok (.aload_n 2, 1) := by decide +kernel
theorem dX8_holdDecided_29 : decode cX8_holdDecided 29 = .ok (.aastore, 1) := by decide +kernel
theorem dX8_holdDecided_30 : decode cX8_holdDecided 30 = .ok (.aload_n 0, 1) := by decide +kernel
theorem dX8_holdDecided_31 : decode cX8_holdDecided 31 = .ok (.getfield 42, 3) := by decide +kernel
theorem dX8_holdDecided_34 : decode cX8_holdDecided 34 = .ok (.iload_n 1, 1) := by decide +kernel
theorem dX8_holdDecided_35 : decode cX8_holdDecided 35 = .ok (.iconst 0, 1) := by decide +kernel
theorem dX8_holdDecided_36 : decode cX8_holdDecided 36 = .ok (.iastore, 1) := by decide +kernel
theorem dX8_holdDecided_37 : decode cX8_holdDecided 37 = .ok (.aload_n 2, 1) := by decide +kernel
theorem dX8_holdDecided_38 : decode cX8_holdDecided 38 = .ok (.dup, 1) := by decide +kernel
theorem dX8_holdDecided_39 : decode cX8_holdDecided 39 = .ok (.getfield 72, 3) := by decide +kernel
theorem dX8_holdDecided_42 : decode cX8_holdDecided 42 = .ok (.iconst 1, 1) := by decide +kernel
theorem dX8_holdDecided_43 : decode cX8_holdDecided 43 = .ok (.iadd, 1) := by decide +kernel
theorem dX8_holdDecided_44 : decode cX8_holdDecided 44 = .ok (.putfield 72, 3) := by decide +kernel
theorem dX8_holdDecided_47 : decode cX8_holdDecided 47 = .ok (.aload_n 0, 1) := by decide +kernel
theorem dX8_holdDecided_48 : decode cX8_holdDecided 48 = .ok (.dup, 1) := by decide +kernel
theorem dX8_holdDecided_49 : decode cX8_holdDecided 49 = .ok (.getfield 88, 3) := by decide +kernel
theorem dX8_holdDecided_52 : decode cX8_holdDecided 52 = .ok (.iconst 1, 1) := by decide +kernel
theorem dX8_holdDecided_53 : decode cX8_holdDecided 53 = .ok (.iadd, 1) := by decide +kernel
theorem dX8_holdDecided_54 : decode cX8_holdDecided 54 = .ok (.putfield 88, 3) := by decide +kernel
theorem dX8_holdDecided_57 : decode cX8_holdDecided 57 = .ok (.iconst 1, 1) := by decide +kernel
theorem dX8_holdDecided_58 : decode cX8_holdDecided 58 = .ok (.ireturn, 1) := by decide +kernel
theorem dX8_decisionsFor_0 : decode cX8_decisionsFor 0 = .ok (.iconst 0, 1) := by decide +kernel
theorem dX8_decisionsFor_1 : decode cX8_decisionsFor 1 = .ok (.istore_n 2, 1) := by decide +kernel
theorem dX8_decisionsFor_2 : decode cX8_decisionsFor 2 = .ok (.iconst 0, 1) := by decide +kernel
theorem dX8_decisionsFor_3 : decode cX8_decisionsFor 3 = .ok (.istore_n 3, 1) := by decide +kernel
theorem dX8_decisionsFor_4 : decode cX8_decisionsFor 4 = .ok (.iload_n 3, 1) := by decide +kernel
theorem dX8_decisionsFor_5 : decode cX8_decisionsFor 5 = .ok (.aload_n 0, 1) := by decide +kernel
theorem dX8_decisionsFor_6 : decode cX8_decisionsFor 6 = .ok (.getfield 32, 3) := by decide +kernel
theorem dX8_decisionsFor_9 : decode cX8_decisionsFor 9 = .ok (.if_icmp .ge 34, 3) := by decide +kernel
theorem dX8_decisionsFor_12 : decode cX8_decisionsFor 12 = .ok (.aload_n 0, 1) := by decide +kernel
theorem dX8_decisionsFor_13 : decode cX8_decisionsFor 13 = .ok (.getfield 39, 3) := by decide +kernel
theorem dX8_decisionsFor_16 : decode cX8_decisionsFor 16 = .ok (.iload_n 3, 1) := by decide +kernel
theorem dX8_decisionsFor_17 : decode cX8_decisionsFor 17 = .ok (.aaload, 1) := by decide +kernel
theorem dX8_decisionsFor_18 : decode cX8_decisionsFor 18 = .ok (.ifnull 19, 3) := by decide +kernel
theorem dX8_decisionsFor_21 : decode cX8_decisionsFor 21 = .ok (.aload_n 0, 1) := by decide +kernel
theorem dX8_decisionsFor_22 : decode cX8_decisionsFor 22 = .ok (.getfield 39, 3) := by decide +kernel
theorem dX8_decisionsFor_25 : decode cX8_decisionsFor 25 = .ok (.iload_n 3, 1) := by decide +kernel
theorem dX8_decisionsFor_26 : decode cX8_decisionsFor 26 = .ok (.aaload, 1) := by decide +kernel
theorem dX8_decisionsFor_27 : decode cX8_decisionsFor 27 = .ok (.aload_n 1, 1) := by decide +kernel
theorem dX8_decisionsFor_28 : decode cX8_decisionsFor 28 = .ok (.invokevirtual 84, 3) := by decide +kernel
theorem dX8_decisionsFor_31 : decode cX8_decisionsFor 31 = .ok (.ifCond .eq 6, 3) := by decide +kernel
theorem dX8_decisionsFor_34 : decode cX8_decisionsFor 34 = .ok (.iinc 2 1, 3) := by decide +kernel
theorem dX8_decisionsFor_37 : decode cX8_decisionsFor 37 = .ok (.iinc 3 1, 3) := by decide +kernel
theorem dX8_decisionsFor_40 : decode cX8_decisionsFor 40 = .ok (.goto (-36), 3) := by decide +kernel
theorem dX8_decisionsFor_43 : decode cX8_decisionsFor 43 = .ok (.iload_n 2, 1) := by decide +kernel
theorem dX8_decisionsFor_44 : decode cX8_decisionsFor 44 = .ok (.ireturn, 1) := by decide +kernel
theorem dX8_holdSnapshot_0 : decode cX8_holdSnapshot 0 = .ok (.iload_n 1, 1) := by decide +kernel
theorem dX8_holdSnapshot_1 : decode cX8_holdSnapshot 1 = .ok (.ifCond .lt 11, 3) := by decide +kernel
theorem dX8_holdSnapshot_4 : decode cX8_holdSnapshot 4 = .ok (.iload_n 1, 1) := by decide +kernel
theorem dX8_holdSnapshot_5 : decode cX8_holdSnapshot 5 = .ok (.aload_n 0, 1) := by decide +kernel
theorem dX8_holdSnapshot_6 : decode cX8_holdSnapshot 6 = .ok (.getfield 32, 3) := by decide +kernel
theorem dX8_holdSnapshot_9 : decode cX8_holdSnapshot 9 = .ok (.if_icmp .lt 5, 3) := by decide +kernel
theorem dX8_holdSnapshot_12 : decode cX8_holdSnapshot 12 = .ok (.iconst 0, 1) := by decide +kernel
theorem dX8_holdSnapshot_13 : decode cX8_holdSnapshot 13 = .ok (.ireturn, 1) := by decide +kernel
theorem dX8_holdSnapshot_14 : decode cX8_holdSnapshot 14 = .ok (.aload_n 2, 1) := by decide +kernel
theorem dX8_holdSnapshot_15 : decode cX8_holdSnapshot 15 = .ok (.dup, 1) := by decide +kernel
theorem dX8_holdSnapshot_16 : decode cX8_holdSnapshot 16 = .ok (.getfield 72, 3) := by decide +kernel
theorem dX8_holdSnapshot_19 : decode cX8_holdSnapshot 19 = .ok (.iconst 1, 1) := by decide +kernel
theorem dX8_holdSnapshot_20 : decode cX8_holdSnapshot 20 = .ok (.iadd, 1) := by decide +kernel
theorem dX8_holdSnapshot_21 : decode cX8_holdSnapshot 21 = .ok (.putfield 72, 3) := by decide +kernel
theorem dX8_holdSnapshot_24 : decode cX8_holdSnapshot 24 = .ok (.aload_n 0, 1) := by decide +kernel
theorem dX8_holdSnapshot_25 : decode cX8_holdSnapshot 25 = .ok (.getfield 28, 3) := by decide +kernel
theorem dX8_holdSnapshot_28 : decode cX8_holdSnapshot 28 = .ok (.aload_n 0, 1) := by decide +kernel
theorem dX8_holdSnapshot_29 : decode cX8_holdSnapshot 29 = .ok (.getfield 45, 3) := by decide +kernel
theorem dX8_holdSnapshot_32 : decode cX8_holdSnapshot 32 = .ok (.iload_n 1, 1) := by decide +kernel
theorem dX8_holdSnapshot_33 : decode cX8_holdSnapshot 33 = .ok (.aaload, 1) := by decide +kernel
theorem dX8_holdSnapshot_34 : decode cX8_holdSnapshot 34 = .ok (.invokevirtual 91, 3) := by decide +kernel
theorem dX8_holdSnapshot_37 : decode cX8_holdSnapshot 37 = .ok (.aload_n 0, 1) := by decide +kernel
theorem dX8_holdSnapshot_38 : decode cX8_holdSnapshot 38 = .ok (.getfield 45, 3) := by decide +kernel
theorem dX8_holdSnapshot_41 : decode cX8_holdSnapshot 41 = .ok (.iload_n 1, 1) := by decide +kernel
theorem dX8_holdSnapshot_42 : decode cX8_holdSnapshot 42 = .ok (.aload_n 2, 1) := by decide +kernel
theorem dX8_holdSnapshot_43 : decode cX8_holdSnapshot 43 = .ok (.aastore, 1) := by decide +kernel
theorem dX8_holdSnapshot_44 : decode cX8_holdSnapshot 44 = .ok (.iconst 1, 1) := by decide +kernel
theorem dX8_holdSnapshot_45 : decode cX8_holdSnapshot 45 = .ok (.ireturn, 1) := by decide +kernel
theorem dX8_snapshotsLike_0 : decode cX8_snapshotsLike 0 = .ok (.iconst 0, 1) := by decide +kernel
theorem dX8_snapshotsLike_1 : decode cX8_snapshotsLike 1 = .ok (.istore_n 2, 1) := by decide +kernel
theorem dX8_snapshotsLike_2 : decode cX8_snapshotsLike 2 = .ok (.iconst 0, 1) := by decide +kernel
theorem dX8_snapshotsLike_3 : decode cX8_snapshotsLike 3 = .ok (.istore_n 3, 1) := by decide +kernel
theorem dX8_snapshotsLike_4 : decode cX8_snapshotsLike 4 = .ok (.iload_n 3, 1) := by decide +kernel
theorem dX8_snapshotsLike_5 : decode cX8_snapshotsLike 5 = .ok (.aload_n 0, 1) := by decide +kernel
theorem dX8_snapshotsLike_6 : decode cX8_snapshotsLike 6 = .ok (.getfield 32, 3) := by decide +kernel
theorem dX8_snapshotsLike_9 : decode cX8_snapshotsLike 9 = .ok (.if_icmp .ge 50, 3) := by decide +kernel
theorem dX8_snapshotsLike_12 : decode cX8_snapshotsLike 12 = .ok (.aload_n 0, 1) := by decide +kernel
theorem dX8_snapshotsLike_13 : decode cX8_snapshotsLike 13 = .ok (.getfield 45, 3) := by decide +kernel
theorem dX8_snapshotsLike_16 : decode cX8_snapshotsLike 16 = .ok (.iload_n 3, 1) := by decide +kernel
theorem dX8_snapshotsLike_17 : decode cX8_snapshotsLike 17 = .ok (.aaload, 1) := by decide +kernel
theorem dX8_snapshotsLike_18 : decode cX8_snapshotsLike 18 = .ok (.astore 4, 2) := by decide +kernel
theorem dX8_snapshotsLike_20 : decode cX8_snapshotsLike 20 = .ok (.aload 4, 2) := by decide +kernel
theorem dX8_snapshotsLike_22 : decode cX8_snapshotsLike 22 = .ok (.ifnull 31, 3) := by decide +kernel
theorem dX8_snapshotsLike_25 : decode cX8_snapshotsLike 25 = .ok (.aload 4, 2) := by decide +kernel
theorem dX8_snapshotsLike_27 : decode cX8_snapshotsLike 27 = .ok (.aload_n 1, 1) := by decide +kernel
theorem dX8_snapshotsLike_28 : decode cX8_snapshotsLike 28 = .ok (.if_acmp .eq 22, 3) := by decide +kernel
theorem dX8_snapshotsLike_31 : decode cX8_snapshotsLike 31 = .ok (.aload 4, 2) := by decide +kernel
theorem dX8_snapshotsLike_33 : decode cX8_snapshotsLike 33 = .ok (.getfield 97, 3) := by decide +kernel
theorem dX8_snapshotsLike_36 : decode cX8_snapshotsLike 36 = .ok (.iconst 0, 1) := by decide +kernel
theorem dX8_snapshotsLike_37 : decode cX8_snapshotsLike 37 = .ok (.aload_n 1, 1) := by decide +kernel
theorem dX8_snapshotsLike_38 : decode cX8_snapshotsLike 38 = .ok (.getfield 97, 3) := by decide +kernel
theorem dX8_snapshotsLike_41 : decode cX8_snapshotsLike 41 = .ok (.iconst 0, 1) := by decide +kernel
theorem dX8_snapshotsLike_42 : decode cX8_snapshotsLike 42 = .ok (.bipush 115, 2) := by decide +kernel
theorem dX8_snapshotsLike_44 : decode cX8_snapshotsLike 44 = .ok (.invokestatic 101, 3) := by decide +kernel
theorem dX8_snapshotsLike_47 : decode cX8_snapshotsLike 47 = .ok (.ifCond .eq 6, 3) := by decide +kernel
theorem dX8_snapshotsLike_50 : decode cX8_snapshotsLike 50 = .ok (.iinc 2 1, 3) := by decide +kernel
theorem dX8_snapshotsLike_53 : decode cX8_snapshotsLike 53 = .ok (.iinc 3 1, 3) := by decide +kernel
theorem dX8_snapshotsLike_56 : decode cX8_snapshotsLike 56 = .ok (.goto (-52), 3) := by decide +kernel
theorem dX8_snapshotsLike_59 : decode cX8_snapshotsLike 59 = .ok (.iload_n 2, 1) := by decide +kernel
theorem dX8_snapshotsLike_60 : decode cX8_snapshotsLike 60 = .ok (.ireturn, 1) := by decide +kernel
theorem dX8_proofOf_0 : decode cX8_proofOf 0 = .ok (.iload_n 1, 1) := by decide +kernel
theorem dX8_proofOf_1 : decode cX8_proofOf 1 = .ok (.ifCond .lt 20, 3) := by decide +kernel
theorem dX8_proofOf_4 : decode cX8_proofOf 4 = .ok (.iload_n 1, 1) := by decide +kernel
theorem dX8_proofOf_5 : decode cX8_proofOf 5 = .ok (.aload_n 0, 1) := by decide +kernel
theorem dX8_proofOf_6 : decode cX8_proofOf 6 = .ok (.getfield 32, 3) := by decide +kernel
theorem dX8_proofOf_9 : decode cX8_proofOf 9 = .ok (.if_icmp .ge 12, 3) := by decide +kernel
theorem dX8_proofOf_12 : decode cX8_proofOf 12 = .ok (.aload_n 0, 1) := by decide +kernel
theorem dX8_proofOf_13 : decode cX8_proofOf 13 = .ok (.getfield 48, 3) := by decide +kernel
theorem dX8_proofOf_16 : decode cX8_proofOf 16 = .ok (.iload_n 1, 1) := by decide +kernel
theorem dX8_proofOf_17 : decode cX8_proofOf 17 = .ok (.aaload, 1) := by decide +kernel
theorem dX8_proofOf_18 : decode cX8_proofOf 18 = .ok (.goto 4, 3) := by decide +kernel
theorem dX8_proofOf_21 : decode cX8_proofOf 21 = .ok (.aconst_null, 1) := by decide +kernel
theorem dX8_proofOf_22 : decode cX8_proofOf 22 = .ok (.areturn, 1) := by decide +kernel
theorem dX8_addProof_0 : decode cX8_addProof 0 = .ok (.aload_n 1, 1) := by decide +kernel
theorem dX8_addProof_1 : decode cX8_addProof 1 = .ok (.invokevirtual 62, 3) := by decide +kernel
theorem dX8_addProof_4 : decode cX8_addProof 4 = .ok (.istore_n 2, 1) := by decide +kernel
theorem dX8_addProof_5 : decode cX8_addProof 5 = .ok (.iload_n 2, 1) := by decide +kernel
theorem dX8_addProof_6 : decode cX8_addProof 6 = .ok (.aload_n 0, 1) := by decide +kernel
theorem dX8_addProof_7 : decode cX8_addProof 7 = .ok (.getfield 32, 3) := by decide +kernel
theorem dX8_addProof_10 : decode cX8_addProof 10 = .ok (.if_icmp .ge 12, 3) := by decide +kernel
theorem dX8_addProof_13 : decode cX8_addProof 13 = .ok (.aload_n 0, 1) := by decide +kernel
theorem dX8_addProof_14 : decode cX8_addProof 14 = .ok (.getfield 48, 3) := by decide +kernel
theorem dX8_addProof_17 : decode cX8_addProof 17 = .ok (.iload_n 2, 1) := by decide +kernel
theorem dX8_addProof_18 : decode cX8_addProof 18 = .ok (.aaload, 1) := by decide +kernel
theorem dX8_addProof_19 : decode cX8_addProof 19 = .ok (.ifnull 5, 3) := by decide +kernel
theorem dX8_addProof_22 : decode cX8_addProof 22 = .ok (.iconst 0, 1) := by decide +kernel
theorem dX8_addProof_23 : decode cX8_addProof 23 = .ok (.ireturn, 1) := by decide +kernel
theorem dX8_addProof_24 : decode cX8_addProof 24 = .ok (.aload_n 0, 1) := by decide +kernel
theorem dX8_addProof_25 : decode cX8_addProof 25 = .ok (.getfield 48, 3) := by decide +kernel
theorem dX8_addProof_28 : decode cX8_addProof 28 = .ok (.iload_n 2, 1) := by decide +kernel
theorem dX8_addProof_29 : decode cX8_addProof 29 = .ok (.aload_n 1, 1) := by decide +kernel
theorem dX8_addProof_30 : decode cX8_addProof 30 = .ok (.aastore, 1) := by decide +kernel
theorem dX8_addProof_31 : decode cX8_addProof 31 = .ok (.aload_n 1, 1) := by decide +kernel
theorem dX8_addProof_32 : decode cX8_addProof 32 = .ok (.dup, 1) := by decide +kernel
theorem dX8_addProof_33 : decode cX8_addProof 33 = .ok (.getfield 72, 3) := by decide +kernel
theorem dX8_addProof_36 : decode cX8_addProof 36 = .ok (.iconst 1, 1) := by decide +kernel
theorem dX8_addProof_37 : decode cX8_addProof 37 = .ok (.iadd, 1) := by decide +kernel
theorem dX8_addProof_38 : decode cX8_addProof 38 = .ok (.putfield 72, 3) := by decide +kernel
theorem dX8_addProof_41 : decode cX8_addProof 41 = .ok (.aload_n 0, 1) := by decide +kernel
theorem dX8_addProof_42 : decode cX8_addProof 42 = .ok (.dup, 1) := by decide +kernel
theorem dX8_addProof_43 : decode cX8_addProof 43 = .ok (.getfield 105, 3) := by decide +kernel
theorem dX8_addProof_46 : decode cX8_addProof 46 = .ok (.iconst 1, 1) := by decide +kernel
theorem dX8_addProof_47 : decode cX8_addProof 47 = .ok (.iadd, 1) := by decide +kernel
theorem dX8_addProof_48 : decode cX8_addProof 48 = .ok (.putfield 105, 3) := by decide +kernel
theorem dX8_addProof_51 : decode cX8_addProof 51 = .ok (.iconst 1, 1) := by decide +kernel
theorem dX8_addProof_52 : decode cX8_addProof 52 = .ok (.ireturn, 1) := by decide +kernel
theorem dX8_paymentAt_0 : decode cX8_paymentAt 0 = .ok (.iload_n 1, 1) := by decide +kernel
theorem dX8_paymentAt_1 : decode cX8_paymentAt 1 = .ok (.ifCond .lt 20, 3) := by decide +kernel
theorem dX8_paymentAt_4 : decode cX8_paymentAt 4 = .ok (.iload_n 1, 1) := by decide +kernel
theorem dX8_paymentAt_5 : decode cX8_paymentAt 5 = .ok (.aload_n 0, 1) := by decide +kernel
theorem dX8_paymentAt_6 : decode cX8_paymentAt 6 = .ok (.getfield 108, 3) := by decide +kernel
theorem dX8_paymentAt_9 : decode cX8_paymentAt 9 = .ok (.if_icmp .ge 12, 3) := by decide +kernel
theorem dX8_paymentAt_12 : decode cX8_paymentAt 12 = .ok (.aload_n 0, 1) := by decide +kernel
theorem dX8_paymentAt_13 : decode cX8_paymentAt 13 = .ok (.getfield 24, 3) := by decide +kernel
theorem dX8_paymentAt_16 : decode cX8_paymentAt 16 = .ok (.iload_n 1, 1) := by decide +kernel
theorem dX8_paymentAt_17 : decode cX8_paymentAt 17 = .ok (.laload, 1) := by decide +kernel
theorem dX8_paymentAt_18 : decode cX8_paymentAt 18 = .ok (.goto 4, 3) := by decide +kernel
theorem dX8_paymentAt_21 : decode cX8_paymentAt 21 = .ok (.lconst 0, 1) := by decide +kernel
theorem dX8_paymentAt_22 : decode cX8_paymentAt 22 = .ok (.lreturn, 1) := by decide +kernel
theorem dX8_find_0 : decode cX8_find 0 = .ok (.iconst 0, 1) := by decide +kernel
theorem dX8_find_1 : decode cX8_find 1 = .ok (.istore_n 3, 1) := by decide +kernel
theorem dX8_find_2 : decode cX8_find 2 = .ok (.iload_n 3, 1) := by decide +kernel
theorem dX8_find_3 : decode cX8_find 3 = .ok (.aload_n 0, 1) := by decide +kernel
theorem dX8_find_4 : decode cX8_find 4 = .ok (.getfield 108, 3) := by decide +kernel
theorem dX8_find_7 : decode cX8_find 7 = .ok (.if_icmp .ge 22, 3) := by decide +kernel
theorem dX8_find_10 : decode cX8_find 10 = .ok (.aload_n 0, 1) := by decide +kernel
theorem dX8_find_11 : decode cX8_find 11 = .ok (.getfield 24, 3) := by decide +kernel
theorem dX8_find_14 : decode cX8_find 14 = .ok (.iload_n 3, 1) := by decide +kernel
theorem dX8_find_15 : decode cX8_find 15 = .ok (.laload, 1) := by decide +kernel
theorem dX8_find_16 : decode cX8_find 16 = .ok (.lload_n 1, 1) := by decide +kernel
theorem dX8_find_17 : decode cX8_find 17 = .ok (.lcmp, 1) := by decide +kernel
theorem dX8_find_18 : decode cX8_find 18 = .ok (.ifCond .ne 5, 3) := by decide +kernel
theorem dX8_find_21 : decode cX8_find 21 = .ok (.iload_n 3, 1) := by decide +kernel
theorem dX8_find_22 : decode cX8_find 22 = .ok (.ireturn, 1) := by decide +kernel
theorem dX8_find_23 : decode cX8_find 23 = .ok (.iinc 3 1, 3) := by decide +kernel
theorem dX8_find_26 : decode cX8_find 26 = .ok (.goto (-24), 3) := by decide +kernel
theorem dX8_find_29 : decode cX8_find 29 = .ok (.iconst (-1), 1) := by decide +kernel
theorem dX8_find_30 : decode cX8_find 30 = .ok (.ireturn, 1) := by decide +kernel
theorem dX8_addPayment_0 : decode cX8_addPayment 0 = .ok (.aload_n 0, 1) := by decide +kernel
theorem dX8_addPayment_1 : decode cX8_addPayment 1 = .ok (.getfield 108, 3) := by decide +kernel
theorem dX8_addPayment_4 : decode cX8_addPayment 4 = .ok (.bipush 80, 2) := by decide +kernel
theorem dX8_addPayment_6 : decode cX8_addPayment 6 = .ok (.if_icmp .ge 11, 3) := by decide +kernel
theorem dX8_addPayment_9 : decode cX8_addPayment 9 = .ok (.aload_n 0, 1) := by decide +kernel
theorem dX8_addPayment_10 : decode cX8_addPayment 10 = .ok (.lload_n 1, 1) := by decide +kernel
theorem dX8_addPayment_11 : decode cX8_addPayment 11 = .ok (.invokevirtual 111, 3) := by decide +kernel
theorem dX8_addPayment_14 : decode cX8_addPayment 14 = .ok (.ifCond .lt 5, 3) := by decide +kernel
theorem dX8_addPayment_17 : decode cX8_addPayment 17 = .ok (.iconst 0, 1) := by decide +kernel
theorem dX8_addPayment_18 : decode cX8_addPayment 18 = .ok (.ireturn, 1) := by decide +kernel
theorem dX8_addPayment_19 : decode cX8_addPayment 19 = .ok (.aload_n 0, 1) := by decide +kernel
theorem dX8_addPayment_20 : decode cX8_addPayment 20 = .ok (.getfield 24, 3) := by decide +kernel
theorem dX8_addPayment_23 : decode cX8_addPayment 23 = .ok (.aload_n 0, 1) := by decide +kernel
theorem dX8_addPayment_24 : decode cX8_addPayment 24 = .ok (.getfield 108, 3) := by decide +kernel
theorem dX8_addPayment_27 : decode cX8_addPayment 27 = .ok (.lload_n 1, 1) := by decide +kernel
theorem dX8_addPayment_28 : decode cX8_addPayment 28 = .ok (.lastore, 1) := by decide +kernel
theorem dX8_addPayment_29 : decode cX8_addPayment 29 = .ok (.aload_n 0, 1) := by decide +kernel
theorem dX8_addPayment_30 : decode cX8_addPayment 30 = .ok (.dup, 1) := by decide +kernel
theorem dX8_addPayment_31 : decode cX8_addPayment 31 = .ok (.getfield 108, 3) := by decide +kernel
theorem dX8_addPayment_34 : decode cX8_addPayment 34 = .ok (.iconst 1, 1) := by decide +kernel
theorem dX8_addPayment_35 : decode cX8_addPayment 35 = .ok (.iadd, 1) := by decide +kernel
theorem dX8_addPayment_36 : decode cX8_addPayment 36 = .ok (.putfield 108, 3) := by decide +kernel
theorem dX8_addPayment_39 : decode cX8_addPayment 39 = .ok (.iconst 1, 1) := by decide +kernel
theorem dX8_addPayment_40 : decode cX8_addPayment 40 = .ok (.ireturn, 1) := by decide +kernel
theorem dX8_removePayment_0 : decode cX8_removePayment 0 = .ok (.aload_n 0, 1) := by decide +kernel
theorem dX8_removePayment_1 : decode cX8_removePayment 1 = .ok (.lload_n 1, 1) := by decide +kernel
theorem dX8_removePayment_2 : decode cX8_removePayment 2 = .ok (.invokevirtual 111, 3) := by decide +kernel
theorem dX8_removePayment_5 : decode cX8_removePayment 5 = .ok (.istore_n 3, 1) := by decide +kernel
theorem dX8_removePayment_6 : decode cX8_removePayment 6 = .ok (.iload_n 3, 1) := by decide +kernel
theorem dX8_removePayment_7 : decode cX8_removePayment 7 = .ok (.ifCond .lt 36, 3) := by decide +kernel
theorem dX8_removePayment_10 : decode cX8_removePayment 10 = .ok (.aload_n 0, 1) := by decide +kernel
theorem dX8_removePayment_11 : decode cX8_removePayment 11 = .ok (.getfield 24, 3) := by decide +kernel
theorem dX8_removePayment_14 : decode cX8_removePayment 14 = .ok (.iload_n 3, 1) := by decide +kernel
theorem dX8_removePayment_15 : decode cX8_removePayment 15 = .ok (.iconst 1, 1) := by decide +kernel
theorem dX8_removePayment_16 : decode cX8_removePayment 16 = .ok (.iadd, 1) := by decide +kernel
theorem dX8_removePayment_17 : decode cX8_removePayment 17 = .ok (.aload_n 0, 1) := by decide +kernel
theorem dX8_removePayment_18 : decode cX8_removePayment 18 = .ok (.getfield 24, 3) := by decide +kernel
theorem dX8_removePayment_21 : decode cX8_removePayment 21 = .ok (.iload_n 3, 1) := by decide +kernel
theorem dX8_removePayment_22 : decode cX8_removePayment 22 = .ok (.aload_n 0, 1) := by decide +kernel
theorem dX8_removePayment_23 : decode cX8_removePayment 23 = .ok (.getfield 108, 3) := by decide +kernel
theorem dX8_removePayment_26 : decode cX8_removePayment 26 = .ok (.iload_n 3, 1) := by decide +kernel
theorem dX8_removePayment_27 : decode cX8_removePayment 27 = .ok (.isub, 1) := by decide +kernel
theorem dX8_removePayment_28 : decode cX8_removePayment 28 = .ok (.iconst 1, 1) := by decide +kernel
theorem dX8_removePayment_29 : decode cX8_removePayment 29 = .ok (.isub, 1) := by decide +kernel
theorem dX8_removePayment_30 : decode cX8_removePayment 30 = .ok (.invokestatic 115, 3) := by decide +kernel
theorem dX8_removePayment_33 : decode cX8_removePayment 33 = .ok (.aload_n 0, 1) := by decide +kernel
theorem dX8_removePayment_34 : decode cX8_removePayment 34 = .ok (.dup, 1) := by decide +kernel
theorem dX8_removePayment_35 : decode cX8_removePayment 35 = .ok (.getfield 108, 3) := by decide +kernel
theorem dX8_removePayment_38 : decode cX8_removePayment 38 = .ok (.iconst 1, 1) := by decide +kernel
theorem dX8_removePayment_39 : decode cX8_removePayment 39 = .ok (.isub, 1) := by decide +kernel
theorem dX8_removePayment_40 : decode cX8_removePayment 40 = .ok (.putfield 108, 3) := by decide +kernel
theorem dX8_removePayment_43 : decode cX8_removePayment 43 = .ok (.return_, 1) := by decide +kernel
theorem dX8_clear_0 : decode cX8_clear 0 = .ok (.iload_n 1, 1) := by decide +kernel
theorem dX8_clear_1 : decode cX8_clear 1 = .ok (.iconst 1, 1) := by decide +kernel
theorem dX8_clear_2 : decode cX8_clear 2 = .ok (.iand, 1) := by decide +kernel
theorem dX8_clear_3 : decode cX8_clear 3 = .ok (.istore_n 3, 1) := by decide +kernel
theorem dX8_clear_4 : decode cX8_clear 4 = .ok (.iconst 0, 1) := by decide +kernel
theorem dX8_clear_5 : decode cX8_clear 5 = .ok (.istore 4, 2) := by decide +kernel
theorem dX8_clear_7 : decode cX8_clear 7 = .ok (.iconst 0, 1) := by decide +kernel
theorem dX8_clear_8 : decode cX8_clear 8 = .ok (.istore 5, 2) := by decide +kernel
theorem dX8_clear_10 : decode cX8_clear 10 = .ok (.iload 5, 2) := by decide +kernel
theorem dX8_clear_12 : decode cX8_clear 12 = .ok (.aload_n 0, 1) := by decide +kernel
theorem dX8_clear_13 : decode cX8_clear 13 = .ok (.getfield 21, 3) := by decide +kernel
theorem dX8_clear_16 : decode cX8_clear 16 = .ok (.iload_n 3, 1) := by decide +kernel
theorem dX8_clear_17 : decode cX8_clear 17 = .ok (.iaload, 1) := by decide +kernel
theorem dX8_clear_18 : decode cX8_clear 18 = .ok (.if_icmp .ge 213, 3) := by decide +kernel
theorem dX8_clear_21 : decode cX8_clear 21 = .ok (.iload 5, 2) := by decide +kernel
theorem dX8_clear_23 : decode cX8_clear 23 = .ok (.bipush 16, 2) := by decide +kernel
theorem dX8_clear_25 : decode cX8_clear 25 = .ok (.if_icmp .ge 206, 3) := by decide +kernel
theorem dX8_clear_28 : decode cX8_clear 28 = .ok (.iload_n 3, 1) := by decide +kernel
theorem dX8_clear_29 : decode cX8_clear 29 = .ok (.bipush 16, 2) := by decide +kernel
theorem dX8_clear_31 : decode cX8_clear 31 = .ok (.imul, 1) := by decide +kernel
theorem dX8_clear_32 : decode cX8_clear 32 = .ok (.iload 5, 2) := by decide +kernel
theorem dX8_clear_34 : decode cX8_clear 34 = .ok (.iadd, 1) := by decide +kernel
theorem dX8_clear_35 : decode cX8_clear 35 = .ok (.istore 6, 2) := by decide +kernel
theorem dX8_clear_37 : decode cX8_clear 37 = .ok (.aload_n 0, 1) := by decide +kernel
theorem dX8_clear_38 : decode cX8_clear 38 = .ok (.getfield 11, 3) := by decide +kernel
theorem dX8_clear_41 : decode cX8_clear 41 = .ok (.iload 6, 2) := by decide +kernel
theorem dX8_clear_43 : decode cX8_clear 43 = .ok (.aaload, 1) := by decide +kernel
theorem dX8_clear_44 : decode cX8_clear 44 = .ok (.ifnull 39, 3) := by decide +kernel
theorem dX8_clear_47 : decode cX8_clear 47 = .ok (.aload_n 0, 1) := by decide +kernel
theorem dX8_clear_48 : decode cX8_clear 48 = .ok (.getfield 11, 3) := by decide +kernel
theorem dX8_clear_51 : decode cX8_clear 51 = .ok (.iload 6, 2) := by decide +kernel
theorem dX8_clear_53 : decode cX8_clear 53 = .ok (.aaload, 1) := by decide +kernel
theorem dX8_clear_54 : decode cX8_clear 54 = .ok (.invokevirtual 62, 3) := by decide +kernel
theorem dX8_clear_57 : decode cX8_clear 57 = .ok (.iload_n 2, 1) := by decide +kernel
theorem dX8_clear_58 : decode cX8_clear 58 = .ok (.if_icmp .eq 25, 3) := by decide +kernel
theorem dX8_clear_61 : decode cX8_clear 61 = .ok (.aload_n 0, 1) := by decide +kernel
theorem dX8_clear_62 : decode cX8_clear 62 = .ok (.getfield 28, 3) := by decide +kernel
theorem dX8_clear_65 : decode cX8_clear 65 = .ok (.aload_n 0, 1) := by decide +kernel
theorem dX8_clear_66 : decode cX8_clear 66 = .ok (.getfield 11, 3) := by decide +kernel
theorem dX8_clear_69 : decode cX8_clear 69 = .ok (.iload 6, 2) := by decide +kernel
theorem dX8_clear_71 : decode cX8_clear 71 = .ok (.aaload, 1) := by decide +kernel
theorem dX8_clear_72 : decode cX8_clear 72 = .ok (.invokevirtual 91, 3) := by decide +kernel
theorem dX8_clear_75 : decode cX8_clear 75 = .ok (.aload_n 0, 1) := by decide +kernel
theorem dX8_clear_76 : decode cX8_clear 76 = .ok (.getfield 11, 3) := by decide +kernel
theorem dX8_clear_79 : decode cX8_clear 79 = .ok (.iload 6, 2) := by decide +kernel
theorem dX8_clear_81 : decode cX8_clear 81 = .ok (.aconst_null, 1) := by decide +kernel
theorem dX8_clear_82 : decode cX8_clear 82 = .ok (.aastore, 1) := by decide +kernel
theorem dX8_clear_83 : decode cX8_clear 83 = .ok (.aload_n 0, 1) := by decide +kernel
theorem dX8_clear_84 : decode cX8_clear 84 = .ok (.getfield 17, 3) := by decide +kernel
theorem dX8_clear_87 : decode cX8_clear 87 = .ok (.iload 6, 2) := by decide +kernel
theorem dX8_clear_89 : decode cX8_clear 89 = .ok (.iconst 0, 1) := by decide +kernel
theorem dX8_clear_90 : decode cX8_clear 90 = .ok (.iastore, 1) := by decide +kernel
theorem dX8_clear_91 : decode cX8_clear 91 = .ok (.aload_n 0, 1) := by decide +kernel
theorem dX8_clear_92 : decode cX8_clear 92 = .ok (.getfield 11, 3) := by decide +kernel
theorem dX8_clear_95 : decode cX8_clear 95 = .ok (.iload 6, 2) := by decide +kernel
theorem dX8_clear_97 : decode cX8_clear 97 = .ok (.aaload, 1) := by decide +kernel
theorem dX8_clear_98 : decode cX8_clear 98 = .ok (.ifnull 7, 3) := by decide +kernel
theorem dX8_clear_101 : decode cX8_clear 101 = .ok (.iconst 1, 1) := by decide +kernel
theorem dX8_clear_102 : decode cX8_clear 102 = .ok (.goto 4, 3) := by decide +kernel
theorem dX8_clear_105 : decode cX8_clear 105 = .ok (.iconst 0, 1) := by decide +kernel
theorem dX8_clear_106 : decode cX8_clear 106 = .ok (.istore 7, 2) := by decide +kernel
theorem dX8_clear_108 : decode cX8_clear 108 = .ok (.aload_n 0, 1) := by decide +kernel
theorem dX8_clear_109 : decode cX8_clear 109 = .ok (.iload 6, 2) := by decide +kernel
theorem dX8_clear_111 : decode cX8_clear 111 = .ok (.iconst 2, 1) := by decide +kernel
theorem dX8_clear_112 : decode cX8_clear 112 = .ok (.invokevirtual 69, 3) := by decide +kernel
theorem dX8_clear_115 : decode cX8_clear 115 = .ok (.istore 8, 2) := by decide +kernel
theorem dX8_clear_117 : decode cX8_clear 117 = .ok (.iload 8, 2) := by decide +kernel
theorem dX8_clear_119 : decode cX8_clear 119 = .ok (.istore 9, 2) := by decide +kernel
theorem dX8_clear_121 : decode cX8_clear 121 = .ok (.iload 9, 2) := by decide +kernel
theorem dX8_clear_123 : decode cX8_clear 123 = .ok (.iload 8, 2) := by decide +kernel
theorem dX8_clear_125 : decode cX8_clear 125 = .ok (.iconst 2, 1) := by decide +kernel
theorem dX8_clear_126 : decode cX8_clear 126 = .ok (.aload_n 0, 1) := by decide +kernel
theorem dX8_clear_127 : decode cX8_clear 127 = .ok (.getfield 32, 3) := by decide +kernel
theorem dX8_clear_130 : decode cX8_clear 130 = .ok (.imul, 1) := by decide +kernel
theorem dX8_clear_131 : decode cX8_clear 131 = .ok (.iadd, 1) := by decide +kernel
theorem dX8_clear_132 : decode cX8_clear 132 = .ok (.if_icmp .ge 77, 3) := by decide +kernel
theorem dX8_clear_135 : decode cX8_clear 135 = .ok (.aload_n 0, 1) := by decide +kernel
theorem dX8_clear_136 : decode cX8_clear 136 = .ok (.getfield 36, 3) := by decide +kernel
theorem dX8_clear_139 : decode cX8_clear 139 = .ok (.iload 9, 2) := by decide +kernel
theorem dX8_clear_141 : decode cX8_clear 141 = .ok (.aaload, 1) := by decide +kernel
theorem dX8_clear_142 : decode cX8_clear 142 = .ok (.ifnull 39, 3) := by decide +kernel
theorem dX8_clear_145 : decode cX8_clear 145 = .ok (.aload_n 0, 1) := by decide +kernel
theorem dX8_clear_146 : decode cX8_clear 146 = .ok (.getfield 36, 3) := by decide +kernel
theorem dX8_clear_149 : decode cX8_clear 149 = .ok (.iload 9, 2) := by decide +kernel
theorem dX8_clear_151 : decode cX8_clear 151 = .ok (.aaload, 1) := by decide +kernel
theorem dX8_clear_152 : decode cX8_clear 152 = .ok (.invokevirtual 62, 3) := by decide +kernel
theorem dX8_clear_155 : decode cX8_clear 155 = .ok (.iload_n 2, 1) := by decide +kernel
theorem dX8_clear_156 : decode cX8_clear 156 = .ok (.if_icmp .eq 25, 3) := by decide +kernel
theorem dX8_clear_159 : decode cX8_clear 159 = .ok (.aload_n 0, 1) := by decide +kernel
theorem dX8_clear_160 : decode cX8_clear 160 = .ok (.getfield 28, 3) := by decide +kernel
theorem dX8_clear_163 : decode cX8_clear 163 = .ok (.aload_n 0, 1) := by decide +kernel
theorem dX8_clear_164 : decode cX8_clear 164 = .ok (.getfield 36, 3) := by decide +kernel
theorem dX8_clear_167 : decode cX8_clear 167 = .ok (.iload 9, 2) := by decide +kernel
theorem dX8_clear_169 : decode cX8_clear 169 = .ok (.aaload, 1) := by decide +kernel
theorem dX8_clear_170 : decode cX8_clear 170 = .ok (.invokevirtual 91, 3) := by decide +kernel
theorem dX8_clear_173 : decode cX8_clear 173 = .ok (.aload_n 0, 1) := by decide +kernel
theorem dX8_clear_174 : decode cX8_clear 174 = .ok (.getfield 36, 3) := by decide +kernel
theorem dX8_clear_177 : decode cX8_clear 177 = .ok (.iload 9, 2) := by decide +kernel
theorem dX8_clear_179 : decode cX8_clear 179 = .ok (.aconst_null, 1) := by decide +kernel
theorem dX8_clear_180 : decode cX8_clear 180 = .ok (.aastore, 1) := by decide +kernel
theorem dX8_clear_181 : decode cX8_clear 181 = .ok (.iload 7, 2) := by decide +kernel
theorem dX8_clear_183 : decode cX8_clear 183 = .ok (.ifCond .ne 13, 3) := by decide +kernel
theorem dX8_clear_186 : decode cX8_clear 186 = .ok (.aload_n 0, 1) := by decide +kernel
theorem dX8_clear_187 : decode cX8_clear 187 = .ok (.getfield 36, 3) := by decide +kernel
theorem dX8_clear_190 : decode cX8_clear 190 = .ok (.iload 9, 2) := by decide +kernel
theorem dX8_clear_192 : decode cX8_clear 192 = .ok (.aaload, 1) := by decide +kernel
theorem dX8_clear_193 : decode cX8_clear 193 = .ok (.ifnull 7, 3) := by decide +kernel
theorem dX8_clear_196 : decode cX8_clear 196 = .ok (.iconst 1, 1) := by decide +kernel
theorem dX8_clear_197 : decode cX8_clear 197 = .ok (.goto 4, 3) := by decide +kernel
theorem dX8_clear_200 : decode cX8_clear 200 = .ok (.iconst 0, 1) := by decide +kernel
theorem dX8_clear_201 : decode cX8_clear 201 = .ok (.istore 7, 2) := by decide +kernel
theorem dX8_clear_203 : decode cX8_clear 203 = .ok (.iinc 9 1, 3) := by decide +kernel
theorem dX8_clear_206 : decode cX8_clear 206 = .ok (.goto (-85), 3) := by decide +kernel
theorem dX8_clear_209 : decode cX8_clear 209 = .ok (.iload 7, 2) := by decide +kernel
theorem dX8_clear_211 : decode cX8_clear 211 = .ok (.ifCond .eq 10, 3) := by decide +kernel
theorem dX8_clear_214 : decode cX8_clear 214 = .ok (.iload 5, 2) := by decide +kernel
theorem dX8_clear_216 : decode cX8_clear 216 = .ok (.iconst 1, 1) := by decide +kernel
theorem dX8_clear_217 : decode cX8_clear 217 = .ok (.iadd, 1) := by decide +kernel
theorem dX8_clear_218 : decode cX8_clear 218 = .ok (.goto 5, 3) := by decide +kernel
theorem dX8_clear_221 : decode cX8_clear 221 = .ok (.iload 4, 2) := by decide +kernel
theorem dX8_clear_223 : decode cX8_clear 223 = .ok (.istore 4, 2) := by decide +kernel
theorem dX8_clear_225 : decode cX8_clear 225 = .ok (.iinc 5 1, 3) := by decide +kernel
theorem dX8_clear_228 : decode cX8_clear 228 = .ok (.goto (-218), 3) := by decide +kernel
theorem dX8_clear_231 : decode cX8_clear 231 = .ok (.aload_n 0, 1) := by decide +kernel
theorem dX8_clear_232 : decode cX8_clear 232 = .ok (.getfield 21, 3) := by decide +kernel
theorem dX8_clear_235 : decode cX8_clear 235 = .ok (.iload_n 3, 1) := by decide +kernel
theorem dX8_clear_236 : decode cX8_clear 236 = .ok (.iload 4, 2) := by decide +kernel
theorem dX8_clear_238 : decode cX8_clear 238 = .ok (.iastore, 1) := by decide +kernel
theorem dX8_clear_239 : decode cX8_clear 239 = .ok (.return_, 1) := by decide +kernel
theorem dX8_clearDecided_0 : decode cX8_clearDecided 0 = .ok (.iconst 0, 1) := by decide +kernel
theorem dX8_clearDecided_1 : decode cX8_clearDecided 1 = .ok (.istore_n 1, 1) := by decide +kernel
theorem dX8_clearDecided_2 : decode cX8_clearDecided 2 = .ok (.iload_n 1, 1) := by decide +kernel
theorem dX8_clearDecided_3 : decode cX8_clearDecided 3 = .ok (.aload_n 0, 1) := by decide +kernel
theorem dX8_clearDecided_4 : decode cX8_clearDecided 4 = .ok (.getfield 32, 3) := by decide +kernel
theorem dX8_clearDecided_7 : decode cX8_clearDecided 7 = .ok (.if_icmp .ge 55, 3) := by decide +kernel
theorem dX8_clearDecided_10 : decode cX8_clearDecided 10 = .ok (.aload_n 0, 1) := by decide +kernel
theorem dX8_clearDecided_11 : decode cX8_clearDecided 11 = .ok (.getfield 88, 3) := by decide +kernel
theorem dX8_clearDecided_14 : decode cX8_clearDecided 14 = .ok (.ifCond .le 48, 3) := by decide +kernel
theorem dX8_clearDecided_17 : decode cX8_clearDecided 17 = .ok (.aload_n 0, 1) := by decide +kernel
theorem dX8_clearDecided_18 : decode cX8_clearDecided 18 = .ok (.getfield 39, 3) := by decide +kernel
theorem dX8_clearDecided_21 : decode cX8_clearDecided 21 = .ok (.iload_n 1, 1) := by decide +kernel
theorem dX8_clearDecided_22 : decode cX8_clearDecided 22 = .ok (.aaload, 1) := by decide +kernel
theorem dX8_clearDecided_23 : decode cX8_clearDecided 23 = .ok (.ifnull 33, 3) := by decide +kernel
theorem dX8_clearDecided_26 : decode cX8_clearDecided 26 = .ok (.aload_n 0, 1) := by decide +kernel
theorem dX8_clearDecided_27 : decode cX8_clearDecided 27 = .ok (.getfield 28, 3) := by decide +kernel
theorem dX8_clearDecided_30 : decode cX8_clearDecided 30 = .ok (.aload_n 0, 1) := by decide +kernel
theorem dX8_clearDecided_31 : decode cX8_clearDecided 31 = .ok (.getfield 39, 3) := by decide +kernel
theorem dX8_clearDecided_34 : decode cX8_clearDecided 34 = .ok (.iload_n 1, 1) := by decide +kernel
theorem dX8_clearDecided_35 : decode cX8_clearDecided 35 = .ok (.aaload, 1) := by decide +kernel
theorem dX8_clearDecided_36 : decode cX8_clearDecided 36 = .ok (.invokevirtual 91, 3) := by decide +kernel
theorem dX8_clearDecided_39 : decode cX8_clearDecided 39 = .ok (.aload_n 0, 1) := by decide +kernel
theorem dX8_clearDecided_40 : decode cX8_clearDecided 40 = .ok (.getfield 39, 3) := by decide +kernel
theorem dX8_clearDecided_43 : decode cX8_clearDecided 43 = .ok (.iload_n 1, 1) := by decide +kernel
theorem dX8_clearDecided_44 : decode cX8_clearDecided 44 = .ok (.aconst_null, 1) := by decide +kernel
theorem dX8_clearDecided_45 : decode cX8_clearDecided 45 = .ok (.aastore, 1) := by decide +kernel
theorem dX8_clearDecided_46 : decode cX8_clearDecided 46 = .ok (.aload_n 0, 1) := by decide +kernel
theorem dX8_clearDecided_47 : decode cX8_clearDecided 47 = .ok (.dup, 1) := by decide +kernel
theorem dX8_clearDecided_48 : decode cX8_clearDecided 48 = .ok (.getfield 88, 3) := by decide +kernel
theorem dX8_clearDecided_51 : decode cX8_clearDecided 51 = .ok (.iconst 1, 1) := by decide +kernel
theorem dX8_clearDecided_52 : decode cX8_clearDecided 52 = .ok (.isub, 1) := by decide +kernel
theorem dX8_clearDecided_53 : decode cX8_clearDecided 53 = .ok (.putfield 88, 3) := by decide +kernel
theorem dX8_clearDecided_56 : decode cX8_clearDecided 56 = .ok (.iinc 1 1, 3) := by decide +kernel
theorem dX8_clearDecided_59 : decode cX8_clearDecided 59 = .ok (.goto (-57), 3) := by decide +kernel
theorem dX8_clearDecided_62 : decode cX8_clearDecided 62 = .ok (.return_, 1) := by decide +kernel
theorem dX8_clearRest_0 : decode cX8_clearRest 0 = .ok (.iconst 0, 1) := by decide +kernel
theorem dX8_clearRest_1 : decode cX8_clearRest 1 = .ok (.istore_n 1, 1) := by decide +kernel
theorem dX8_clearRest_2 : decode cX8_clearRest 2 = .ok (.iload_n 1, 1) := by decide +kernel
theorem dX8_clearRest_3 : decode cX8_clearRest 3 = .ok (.aload_n 0, 1) := by decide +kernel
theorem dX8_clearRest_4 : decode cX8_clearRest 4 = .ok (.getfield 32, 3) := by decide +kernel
theorem dX8_clearRest_7 : decode cX8_clearRest 7 = .ok (.if_icmp .ge 49, 3) := by decide +kernel
theorem dX8_clearRest_10 : decode cX8_clearRest 10 = .ok (.aload_n 0, 1) := by decide +kernel
theorem dX8_clearRest_11 : decode cX8_clearRest 11 = .ok (.getfield 28, 3) := by decide +kernel
theorem dX8_clearRest_14 : decode cX8_clearRest 14 = .ok (.aload_n 0, 1) := by decide +kernel
theorem dX8_clearRest_15 : decode cX8_clearRest 15 = .ok (.getfield 45, 3) := by decide +kernel
theorem dX8_clearRest_18 : decode cX8_clearRest 18 = .ok (.iload_n 1, 1) := by decide +kernel
theorem dX8_clearRest_19 : decode cX8_clearRest 19 = .ok (.aaload, 1) := by decide +kernel
theorem dX8_clearRest_20 : decode cX8_clearRest 20 = .ok (.invokevirtual 91, 3) := by decide +kernel
theorem dX8_clearRest_23 : decode cX8_clearRest 23 = .ok (.aload_n 0, 1) := by decide +kernel
theorem dX8_clearRest_24 : decode cX8_clearRest 24 = .ok (.getfield 28, 3) := by decide +kernel
theorem dX8_clearRest_27 : decode cX8_clearRest 27 = .ok (.aload_n 0, 1) := by decide +kernel
theorem dX8_clearRest_28 : decode cX8_clearRest 28 = .ok (.getfield 48, 3) := by decide +kernel
theorem dX8_clearRest_31 : decode cX8_clearRest 31 = .ok (.iload_n 1, 1) := by decide +kernel
theorem dX8_clearRest_32 : decode cX8_clearRest 32 = .ok (.aaload, 1) := by decide +kernel
theorem dX8_clearRest_33 : decode cX8_clearRest 33 = .ok (.invokevirtual 91, 3) := by decide +kernel
theorem dX8_clearRest_36 : decode cX8_clearRest 36 = .ok (.aload_n 0, 1) := by decide +kernel
theorem dX8_clearRest_37 : decode cX8_clearRest 37 = .ok (.getfield 45, 3) := by decide +kernel
theorem dX8_clearRest_40 : decode cX8_clearRest 40 = .ok (.iload_n 1, 1) := by decide +kernel
theorem dX8_clearRest_41 : decode cX8_clearRest 41 = .ok (.aconst_null, 1) := by decide +kernel
theorem dX8_clearRest_42 : decode cX8_clearRest 42 = .ok (.aastore, 1) := by decide +kernel
theorem dX8_clearRest_43 : decode cX8_clearRest 43 = .ok (.aload_n 0, 1) := by decide +kernel
theorem dX8_clearRest_44 : decode cX8_clearRest 44 = .ok (.getfield 48, 3) := by decide +kernel
theorem dX8_clearRest_47 : decode cX8_clearRest 47 = .ok (.iload_n 1, 1) := by decide +kernel
theorem dX8_clearRest_48 : decode cX8_clearRest 48 = .ok (.aconst_null, 1) := by decide +kernel
theorem dX8_clearRest_49 : decode cX8_clearRest 49 = .ok (.aastore, 1) := by decide +kernel
theorem dX8_clearRest_50 : decode cX8_clearRest 50 = .ok (.iinc 1 1, 3) := by decide +kernel
theorem dX8_clearRest_53 : decode cX8_clearRest 53 = .ok (.goto (-51), 3) := by decide +kernel
theorem dX8_clearRest_56 : decode cX8_clearRest 56 = .ok (.aload_n 0, 1) := by decide +kernel
theorem dX8_clearRest_57 : decode cX8_clearRest 57 = .ok (.iconst 0, 1) := by decide +kernel
theorem dX8_clearRest_58 : decode cX8_clearRest 58 = .ok (.putfield 105, 3) := by decide +kernel
theorem dX8_clearRest_61 : decode cX8_clearRest 61 = .ok (.aload_n 0, 1) := by decide +kernel
theorem dX8_clearRest_62 : decode cX8_clearRest 62 = .ok (.iconst 0, 1) := by decide +kernel
theorem dX8_clearRest_63 : decode cX8_clearRest 63 = .ok (.putfield 108, 3) := by decide +kernel
theorem dX8_clearRest_66 : decode cX8_clearRest 66 = .ok (.return_, 1) := by decide +kernel
theorem dX9_init_0 : decode cX9_init 0 = .ok (.aload_n 0, 1) := by decide +kernel
theorem dX9_init_1 : decode cX9_init 1 = .ok (.invokespecial 3, 3) := by decide +kernel
theorem dX9_init_4 : decode cX9_init 4 = .ok (.aload_n 0, 1) := by decide +kernel
theorem dX9_init_5 : decode cX9_init 5 = .ok (.sipush 1024, 3) := by decide +kernel
theorem dX9_init_8 : decode cX9_init 8 = .ok (.newarray .int, 2) := by decide +kernel
theorem dX9_init_10 : decode cX9_init 10 = .ok (.putfield 11, 3) := by decide +kernel
theorem dX9_init_13 : decode cX9_init 13 = .ok (.aload_n 0, 1) := by decide +kernel
theorem dX9_init_14 : decode cX9_init 14 = .ok (.sipush 1000, 3) := by decide +kernel
theorem dX9_init_17 : decode cX9_init 17 = .ok (.newarray .int, 2) := by decide +kernel
theorem dX9_init_19 : decode cX9_init 19 = .ok (.putfield 15, 3) := by decide +kernel
theorem dX9_init_22 : decode cX9_init 22 = .ok (.aload_n 0, 1) := by decide +kernel
theorem dX9_init_23 : decode cX9_init 23 = .ok (.sipush 1000, 3) := by decide +kernel
theorem dX9_init_26 : decode cX9_init 26 = .ok (.newarray .int, 2) := by decide +kernel
theorem dX9_init_28 : decode cX9_init 28 = .ok (.putfield 18, 3) := by decide +kernel
theorem dX9_init_31 : decode cX9_init 31 = .ok (.aload_n 0, 1) := by decide +kernel
theorem dX9_init_32 : decode cX9_init 32 = .ok (.sipush 1000, 3) := by decide +kernel
theorem dX9_init_35 : decode cX9_init 35 = .ok (.newarray .int, 2) := by decide +kernel
theorem dX9_init_37 : decode cX9_init 37 = .ok (.putfield 21, 3) := by decide +kernel
theorem dX9_init_40 : decode cX9_init 40 = .ok (.aload_n 0, 1) := by decide +kernel
theorem dX9_init_41 : decode cX9_init 41 = .ok (.sipush 1000, 3) := by decide +kernel
theorem dX9_init_44 : decode cX9_init 44 = .ok (.newarray .int, 2) := by decide +kernel
theorem dX9_init_46 : decode cX9_init 46 = .ok (.putfield 24, 3) := by decide +kernel
theorem dX9_init_49 : decode cX9_init 49 = .ok (.aload_n 0, 1) := by decide +kernel
theorem dX9_init_50 : decode cX9_init 50 = .ok (.sipush 1000, 3) := by decide +kernel
theorem dX9_init_53 : decode cX9_init 53 = .ok (.anewarray 27, 3) := by decide +kernel
theorem dX9_init_56 : decode cX9_init 56 = .ok (.putfield 29, 3) := by decide +kernel
theorem dX9_init_59 : decode cX9_init 59 = .ok (.iconst 0, 1) := by decide +kernel
theorem dX9_init_60 : decode cX9_init 60 = .ok (.istore_n 1, 1) := by decide +kernel
theorem dX9_init_61 : decode cX9_init 61 = .ok (.iload_n 1, 1) := by decide +kernel
theorem dX9_init_62 : decode cX9_init 62 = .ok (.sipush 1000, 3) := by decide +kernel
theorem dX9_init_65 : decode cX9_init 65 = .ok (.if_icmp .ge 16, 3) := by decide +kernel
theorem dX9_init_68 : decode cX9_init 68 = .ok (.aload_n 0, 1) := by decide +kernel
theorem dX9_init_69 : decode cX9_init 69 = .ok (.getfield 15, 3) := by decide +kernel
theorem dX9_init_72 : decode cX9_init 72 = .ok (.iload_n 1, 1) := by decide +kernel
theorem dX9_init_73 : decode cX9_init 73 = .ok (.iload_n 1, 1) := by decide +kernel
theorem dX9_init_74 : decode cX9_init 74 = .ok (.iastore, 1) := by decide +kernel
theorem dX9_init_75 : decode cX9_init 75 = .ok (.iinc 1 1, 3) := by decide +kernel
theorem dX9_init_78 : decode cX9_init 78 = .ok (.goto (-17), 3) := by decide +kernel
theorem dX9_init_81 : decode cX9_init 81 = .ok (.return_, 1) := by decide +kernel
theorem dX9_hasRoom_0 : decode cX9_hasRoom 0 = .ok (.aload_n 0, 1) := by decide +kernel
theorem dX9_hasRoom_1 : decode cX9_hasRoom 1 = .ok (.getfield 33, 3) := by decide +kernel
theorem dX9_hasRoom_4 : decode cX9_hasRoom 4 = .ok (.sipush 1000, 3) := by decide +kernel
theorem dX9_hasRoom_7 : decode cX9_hasRoom 7 = .ok (.if_icmp .ge 7, 3) := by decide +kernel
theorem dX9_hasRoom_10 : decode cX9_hasRoom 10 = .ok (.iconst 1, 1) := by decide +kernel
theorem dX9_hasRoom_11 : decode cX9_hasRoom 11 = .ok (.goto 4, 3) := by decide +kernel
theorem dX9_hasRoom_14 : decode cX9_hasRoom 14 = .ok (.iconst 0, 1) := by decide +kernel
theorem dX9_hasRoom_15 : decode cX9_hasRoom 15 = .ok (.ireturn, 1) := by decide +kernel
theorem dX9_slot_0 : decode cX9_slot 0 = .ok (.iload_n 1, 1) := by decide +kernel
theorem dX9_slot_1 : decode cX9_slot 1 = .ok (.ifCond .lt 29, 3) := by decide +kernel
theorem dX9_slot_4 : decode cX9_slot 4 = .ok (.iload_n 1, 1) := by decide +kernel
theorem dX9_slot_5 : decode cX9_slot 5 = .ok (.aload_n 0, 1) := by decide +kernel
theorem dX9_slot_6 : decode cX9_slot 6 = .ok (.getfield 33, 3) := by decide +kernel
theorem dX9_slot_9 : decode cX9_slot 9 = .ok (.if_icmp .ge 21, 3) := by decide +kernel
theorem dX9_slot_12 : decode cX9_slot 12 = .ok (.aload_n 0, 1) := by decide +kernel
theorem dX9_slot_13 : decode cX9_slot 13 = .ok (.getfield 11, 3) := by decide +kernel
theorem dX9_slot_16 : decode cX9_slot 16 = .ok (.aload_n 0, 1) := by decide +kernel
theorem dX9_slot_17 : decode cX9_slot 17 = .ok (.getfield 37, 3) := by decide +kernel
theorem dX9_slot_20 : decode cX9_slot 20 = .ok (.iload_n 1, 1) := by decide +kernel
theorem dX9_slot_21 : decode cX9_slot 21 = .ok (.iadd, 1) := by decide +kernel
theorem dX9_slot_22 : decode cX9_slot 22 = .ok (.sipush 1023, 3) := by decide +kernel
theorem dX9_slot_25 : decode cX9_slot 25 = .ok (.iand, 1) := by decide +kernel
theorem dX9_slot_26 : decode cX9_slot 26 = .ok (.iaload, 1) := by decide +kernel
theorem dX9_slot_27 : decode cX9_slot 27 = .ok (.goto 4, 3) := by decide +kernel
theorem dX9_slot_30 : decode cX9_slot 30 = .ok (.iconst (-1), 1) := by decide +kernel
theorem dX9_slot_31 : decode cX9_slot 31 = .ok (.ireturn, 1) := by decide +kernel
theorem dX9_loadOf_0 : decode cX9_loadOf 0 = .ok (.aload_n 0, 1) := by decide +kernel
theorem dX9_loadOf_1 : decode cX9_loadOf 1 = .ok (.iload_n 1, 1) := by decide +kernel
theorem dX9_loadOf_2 : decode cX9_loadOf 2 = .ok (.invokevirtual 40, 3) := by decide +kernel
theorem dX9_loadOf_5 : decode cX9_loadOf 5 = .ok (.istore_n 2, 1) := by decide +kernel
theorem dX9_loadOf_6 : decode cX9_loadOf 6 = .ok (.iload_n 2, 1) := by decide +kernel
theorem dX9_loadOf_7 : decode cX9_loadOf 7 = .ok (.ifCond .ge 7, 3) := by decide +kernel
theorem dX9_loadOf_10 : decode cX9_loadOf 10 = .ok (.aconst_null, 1) := by decide +kernel
theorem dX9_loadOf_11 : decode cX9_loadOf 11 = .ok (.goto 9, 3) := by decide +kernel
theorem dX9_loadOf_14 : decode cX9_loadOf 14 = .ok (.aload_n 0, 1) := by decide +kernel
theorem dX9_loadOf_15 : decode cX9_loadOf 15 = .ok (.getfield 29, 3) := by decide +kernel
theorem dX9_loadOf_18 : decode cX9_loadOf 18 = .ok (.iload_n 2, 1) := by decide +kernel
theorem dX9_loadOf_19 : decode cX9_loadOf 19 = .ok (.aaload, 1) := by decide +kernel
theorem dX9_loadOf_20 : decode cX9_loadOf 20 = .ok (.areturn, 1) := by decide +kernel
theorem dX9_senderOf_0 : decode cX9_senderOf 0 = .ok (.aload_n 0, 1) := by decide +kernel
theorem dX9_senderOf_1 : decode cX9_senderOf 1 = .ok (.iload_n 1, 1) := by decide +kernel
theorem dX9_senderOf_2 : decode cX9_senderOf 2 = .ok (.invokevirtual 40, 3) := by decide +kernel
theorem dX9_senderOf_5 : decode cX9_senderOf 5 = .ok (.istore_n 2, 1) := by decide +kernel
theorem dX9_senderOf_6 : decode cX9_senderOf 6 = .ok (.iload_n 2, 1) := by decide +kernel
theorem dX9_senderOf_7 : decode cX9_senderOf 7 = .ok (.ifCond .ge 7, 3) := by decide +kernel
theorem dX9_senderOf_10 : decode cX9_senderOf 10 = .ok (.iconst (-1), 1) := by decide +kernel
theorem dX9_senderOf_11 : decode cX9_senderOf 11 = .ok (.goto 9, 3) := by decide +kernel
theorem dX9_senderOf_14 : decode cX9_senderOf 14 = .ok (.aload_n 0, 1) := by decide +kernel
theorem dX9_senderOf_15 : decode cX9_senderOf 15 = .ok (.getfield 18, 3) := by decide +kernel
theorem dX9_senderOf_18 : decode cX9_senderOf 18 = .ok (.iload_n 2, 1) := by decide +kernel
theorem dX9_senderOf_19 : decode cX9_senderOf 19 = .ok (.iaload, 1) := by decide +kernel
theorem dX9_senderOf_20 : decode cX9_senderOf 20 = .ok (.ireturn, 1) := by decide +kernel
theorem dX9_receiverOf_0 : decode cX9_receiverOf 0 = .ok (.aload_n 0, 1) := by decide +kernel
theorem dX9_receiverOf_1 : decode cX9_receiverOf 1 = .ok (.iload_n 1, 1) := by decide +kernel
theorem dX9_receiverOf_2 : decode cX9_receiverOf 2 = .ok (.invokevirtual 40, 3) := by decide +kernel
theorem dX9_receiverOf_5 : decode cX9_receiverOf 5 = .ok (.istore_n 2, 1) := by decide +kernel
theorem dX9_receiverOf_6 : decode cX9_receiverOf 6 = .ok (.iload_n 2, 1) := by decide +kernel
theorem dX9_receiverOf_7 : decode cX9_receiverOf 7 = .ok (.ifCond .ge 7, 3) := by decide +kernel
theorem dX9_receiverOf_10 : decode cX9_receiverOf 10 = .ok (.iconst (-1), 1) := by decide +kernel
theorem dX9_receiverOf_11 : decode cX9_receiverOf 11 = .ok (.goto 9, 3) := by decide +kernel
theorem dX9_receiverOf_14 : decode cX9_receiverOf 14 = .ok (.aload_n 0, 1) := by decide +kernel
theorem dX9_receiverOf_15 : decode cX9_receiverOf 15 = .ok (.getfield 21, 3) := by decide +kernel
theorem dX9_receiverOf_18 : decode cX9_receiverOf 18 = .ok (.iload_n 2, 1) := by decide +kernel
theorem dX9_receiverOf_19 : decode cX9_receiverOf 19 = .ok (.iaload, 1) := by decide +kernel
theorem dX9_receiverOf_20 : decode cX9_receiverOf 20 = .ok (.ireturn, 1) := by decide +kernel
theorem dX9_isRipe_0 : decode cX9_isRipe 0 = .ok (.aload_n 0, 1) := by decide +kernel
theorem dX9_isRipe_1 : decode cX9_isRipe 1 = .ok (.iconst 0, 1) := by decide +kernel
theorem dX9_isRipe_2 : decode cX9_isRipe 2 = .ok (.invokevirtual 40, 3) := by decide +kernel
theorem dX9_isRipe_5 : decode cX9_isRipe 5 = .ok (.istore_n 2, 1) := by decide +kernel
theorem dX9_isRipe_6 : decode cX9_isRipe 6 = .ok (.iload_n 2, 1) := by decide +kernel
theorem dX9_isRipe_7 : decode cX9_isRipe 7 = .ok (.ifCond .lt 22, 3) := by decide +kernel
theorem dX9_isRipe_10 : decode cX9_isRipe 10 = .ok (.aload_n 0, 1) := by decide +kernel
theorem dX9_isRipe_11 : decode cX9_isRipe 11 = .ok (.getfield 24, 3) := by decide +kernel
theorem dX9_isRipe_14 : decode cX9_isRipe 14 = .ok (.iload_n 2, 1) := by decide +kernel
theorem dX9_isRipe_15 : decode cX9_isRipe 15 = .ok (.iaload, 1) := by decide +kernel
theorem dX9_isRipe_16 : decode cX9_isRipe 16 = .ok (.iload_n 1, 1) := by decide +kernel
theorem dX9_isRipe_17 : decode cX9_isRipe 17 = .ok (.iadd, 1) := by decide +kernel
theorem dX9_isRipe_18 : decode cX9_isRipe 18 = .ok (.aload_n 0, 1) := by decide +kernel
theorem dX9_isRipe_19 : decode cX9_isRipe 19 = .ok (.getfield 44, 3) := by decide +kernel
theorem dX9_isRipe_22 : decode cX9_isRipe 22 = .ok (.if_icmp .gt 7, 3) := by decide +kernel
theorem dX9_isRipe_25 : decode cX9_isRipe 25 = .ok (.iconst 1, 1) := by decide +kernel
theorem dX9_isRipe_26 : decode cX9_isRipe 26 = .ok (.goto 4, 3) := by decide +kernel
theorem dX9_isRipe_29 : decode cX9_isRipe 29 = .ok (.iconst 0, 1) := by decide +kernel
theorem dX9_isRipe_30 : decode cX9_isRipe 30 = .ok (.ireturn, 1) := by decide +kernel
theorem dX9_post_0 : decode cX9_post 0 = .ok (.aload_n 0, 1) := by decide +kernel
theorem dX9_post_1 : decode cX9_post 1 = .ok (.dup, 1) := by decide +kernel
theorem dX9_post_2 : decode cX9_post 2 = .ok (.getfield 47, 3) := by decide +kernel
theorem dX9_post_5 : decode cX9_post 5 = .ok (.iconst 1, 1) := by decide +kernel
theorem dX9_post_6 : decode cX9_post 6 = .ok (.iadd, 1) := by decide +kernel
theorem dX9_post_7 : decode cX9_post 7 = .ok (.putfield 47, 3) := by decide +kernel
theorem dX9_post_10 : decode cX9_post 10 = .ok (.aload_n 0, 1) := by decide +kernel
theorem dX9_post_11 : decode cX9_post 11 = .ok (.getfield 33, 3) := by decide +kernel
theorem dX9_post_14 : decode cX9_post 14 = .ok (.sipush 1000, 3) := by decide +kernel
theorem dX9_post_17 : decode cX9_post 17 = .ok (.if_icmp .ge 13, 3) := by decide +kernel
theorem dX9_post_20 : decode cX9_post 20 = .ok (.aload_n 0, 1) := by decide +kernel
theorem dX9_post_21 : decode cX9_post 21 = .ok (.iload_n 1, 1) := by decide +kernel
theorem dX9_post_22 : decode cX9_post 22 = .ok (.iload_n 2, 1) := by decide +kernel
theorem dX9_post_23 : decode cX9_post 23 = .ok (.aload_n 3, 1) := by decide +kernel
theorem dX9_post_24 : decode cX9_post 24 = .ok (.invokevirtual 50, 3) := by decide +kernel
theorem dX9_post_27 : decode cX9_post 27 = .ok (.goto 13, 3) := by decide +kernel
theorem dX9_post_30 : decode cX9_post 30 = .ok (.aload_n 0, 1) := by decide +kernel
theorem dX9_post_31 : decode cX9_post 31 = .ok (.dup, 1) := by decide +kernel
theorem dX9_post_32 : decode cX9_post 32 = .ok (.getfield 54, 3) := by decide +kernel
theorem dX9_post_35 : decode cX9_post 35 = .ok (.iconst 1, 1) := by decide +kernel
theorem dX9_post_36 : decode cX9_post 36 = .ok (.iadd, 1) := by decide +kernel
theorem dX9_post_37 : decode cX9_post 37 = .ok (.putfield 54, 3) := by decide +kernel
theorem dX9_post_40 : decode cX9_post 40 = .ok (.return_, 1) := by decide +kernel
theorem dX9_launch_0 : decode cX9_launch 0 = .ok (.aload_n 0, 1) := by decide +kernel
theorem dX9_launch_1 : decode cX9_launch 1 = .ok (.getfield 33, 3) := by decide +kernel
theorem dX9_launch_4 : decode cX9_launch 4 = .ok (.sipush 1000, 3) := by decide +kernel
theorem dX9_launch_7 : decode cX9_launch 7 = .ok (.if_icmp .lt 4, 3) := by decide +kernel
theorem dX9_launch_10 : decode cX9_launch 10 = .ok (.return_, 1) := by decide +kernel
theorem dX9_launch_11 : decode cX9_launch 11 = .ok (.aload_n 0, 1) := by decide +kernel
theorem dX9_launch_12 : decode cX9_launch 12 = .ok (.getfield 15, 3) := by decide +kernel
theorem dX9_launch_15 : decode cX9_launch 15 = .ok (.aload_n 0, 1) := by decide +kernel
theorem dX9_launch_16 : decode cX9_launch 16 = .ok (.getfield 33, 3) := by decide +kernel
theorem dX9_launch_19 : decode cX9_launch 19 = .ok (.iaload, 1) := by decide +kernel
theorem dX9_launch_20 : decode cX9_launch 20 = .ok (.istore 4, 2) := by decide +kernel
theorem dX9_launch_22 : decode cX9_launch 22 = .ok (.aload_n 0, 1) := by decide +kernel
theorem dX9_launch_23 : decode cX9_launch 23 = .ok (.getfield 11, 3) := by decide +kernel
theorem dX9_launch_26 : decode cX9_launch 26 = .ok (.aload_n 0, 1) := by decide +kernel
theorem dX9_launch_27 : decode cX9_launch 27 = .ok (.getfield 37, 3) := by decide +kernel
theorem dX9_launch_30 : decode cX9_launch 30 = .ok (.aload_n 0, 1) := by decide +kernel
theorem dX9_launch_31 : decode cX9_launch 31 = .ok (.getfield 33, 3) := by decide +kernel
theorem dX9_launch_34 : decode cX9_launch 34 = .ok (.iadd, 1) := by decide +kernel
theorem dX9_launch_35 : decode cX9_launch 35 = .ok (.sipush 1023, 3) := by decide +kernel
theorem dX9_launch_38 : decode cX9_launch 38 = .ok (.iand, 1) := by decide +kernel
theorem dX9_launch_39 : decode cX9_launch 39 = .ok (.iload 4, 2) := by decide +kernel
theorem dX9_launch_41 : decode cX9_launch 41 = .ok (.iastore, 1) := by decide +kernel
theorem dX9_launch_42 : decode cX9_launch 42 = .ok (.aload_n 0, 1) := by decide +kernel
theorem dX9_launch_43 : decode cX9_launch 43 = .ok (.dup, 1) := by decide +kernel
theorem dX9_launch_44 : decode cX9_launch 44 = .ok (.getfield 33, 3) := by decide +kernel
theorem dX9_launch_47 : decode cX9_launch 47 = .ok (.iconst 1, 1) := by decide +kernel
theorem dX9_launch_48 : decode cX9_launch 48 = .ok (.iadd, 1) := by decide +kernel
theorem dX9_launch_49 : decode cX9_launch 49 = .ok (.putfield 33, 3) := by decide +kernel
theorem dX9_launch_52 : decode cX9_launch 52 = .ok (.aload_n 0, 1) := by decide +kernel
theorem dX9_launch_53 : decode cX9_launch 53 = .ok (.getfield 18, 3) := by decide +kernel
theorem dX9_launch_56 : decode cX9_launch 56 = .ok (.iload 4, 2) := by decide +kernel
theorem dX9_launch_58 : decode cX9_launch 58 = .ok (.iload_n 1, 1) := by decide +kernel
theorem dX9_launch_59 : decode cX9_launch 59 = .ok (.iastore, 1) := by decide +kernel
theorem dX9_launch_60 : decode cX9_launch 60 = .ok (.aload_n 0, 1) := by decide +kernel
theorem dX9_launch_61 : decode cX9_launch 61 = .ok (.getfield 21, 3) := by decide +kernel
theorem dX9_launch_64 : decode cX9_launch 64 = .ok (.iload 4, 2) := by decide +kernel
theorem dX9_launch_66 : decode cX9_launch 66 = .ok (.iload_n 2, 1) := by decide +kernel
theorem dX9_launch_67 : decode cX9_launch 67 = .ok (.iastore, 1) := by decide +kernel
theorem dX9_launch_68 : decode cX9_launch 68 = .ok (.aload_n 0, 1) := by decide +kernel
theorem dX9_launch_69 : decode cX9_launch 69 = .ok (.getfield 24, 3) := by decide +kernel
theorem dX9_launch_72 : decode cX9_launch 72 = .ok (.iload 4, 2) := by decide +kernel
theorem dX9_launch_74 : decode cX9_launch 74 = .ok (.aload_n 0, 1) := by decide +kernel
theorem dX9_launch_75 : decode cX9_launch 75 = .ok (.getfield 44, 3) := by decide +kernel
theorem dX9_launch_78 : decode cX9_launch 78 = .ok (.iastore, 1) := by decide +kernel
theorem dX9_launch_79 : decode cX9_launch 79 = .ok (.aload_n 0, 1) := by decide +kernel
theorem dX9_launch_80 : decode cX9_launch 80 = .ok (.getfield 29, 3) := by decide +kernel
theorem dX9_launch_83 : decode cX9_launch 83 = .ok (.iload 4, 2) := by decide +kernel
theorem dX9_launch_85 : decode cX9_launch 85 = .ok (.aload_n 3, 1) := by decide +kernel
theorem dX9_launch_86 : decode cX9_launch 86 = .ok (.aastore, 1) := by decide +kernel
theorem dX9_launch_87 : decode cX9_launch 87 = .ok (.aload_n 3, 1) := by decide +kernel
theorem dX9_launch_88 : decode cX9_launch 88 = .ok (.dup, 1) := by decide +kernel
theorem dX9_launch_89 : decode cX9_launch 89 = .ok (.getfield 57, 3) := by decide +kernel
theorem dX9_launch_92 : decode cX9_launch 92 = .ok (.iconst 1, 1) := by decide +kernel
theorem dX9_launch_93 : decode cX9_launch 93 = .ok (.iadd, 1) := by decide +kernel
theorem dX9_launch_94 : decode cX9_launch 94 = .ok (.putfield 57, 3) := by decide +kernel
theorem dX9_launch_97 : decode cX9_launch 97 = .ok (.return_, 1) := by decide +kernel
theorem dX9_take_0 : decode cX9_take 0 = .ok (.aload_n 0, 1) := by decide +kernel
theorem dX9_take_1 : decode cX9_take 1 = .ok (.iload_n 1, 1) := by decide +kernel
theorem dX9_take_2 : decode cX9_take 2 = .ok (.invokevirtual 40, 3) := by decide +kernel
theorem dX9_take_5 : decode cX9_take 5 = .ok (.istore_n 2, 1) := by decide +kernel
theorem dX9_take_6 : decode cX9_take 6 = .ok (.iload_n 2, 1) := by decide +kernel
theorem dX9_take_7 : decode cX9_take 7 = .ok (.ifCond .ge 5, 3) := by decide +kernel
theorem dX9_take_10 : decode cX9_take 10 = .ok (.aconst_null, 1) := by decide +kernel
theorem dX9_take_11 : decode cX9_take 11 = .ok (.areturn, 1) := by decide +kernel
theorem dX9_take_12 : decode cX9_take 12 = .ok (.aload_n 0, 1) := by decide +kernel
theorem dX9_take_13 : decode cX9_take 13 = .ok (.getfield 29, 3) := by decide +kernel
theorem dX9_take_16 : decode cX9_take 16 = .ok (.iload_n 2, 1) := by decide +kernel
theorem dX9_take_17 : decode cX9_take 17 = .ok (.aaload, 1) := by decide +kernel
theorem dX9_take_18 : decode cX9_take 18 = .ok (.astore_n 3, 1) := by decide +kernel
theorem dX9_take_19 : decode cX9_take 19 = .ok (.aload_n 0, 1) := by decide +kernel
theorem dX9_take_20 : decode cX9_take 20 = .ok (.getfield 29, 3) := by decide +kernel
theorem dX9_take_23 : decode cX9_take 23 = .ok (.iload_n 2, 1) := by decide +kernel
theorem dX9_take_24 : decode cX9_take 24 = .ok (.aconst_null, 1) := by decide +kernel
theorem dX9_take_25 : decode cX9_take 25 = .ok (.aastore, 1) := by decide +kernel
theorem dX9_take_26 : decode cX9_take 26 = .ok (.iload_n 1, 1) := by decide +kernel
theorem dX9_take_27 : decode cX9_take 27 = .ok (.istore 4, 2) := by decide +kernel
theorem dX9_take_29 : decode cX9_take 29 = .ok (.iload 4, 2) := by decide +kernel
theorem dX9_take_31 : decode cX9_take 31 = .ok (.ifCond .le 43, 3) := by decide +kernel
theorem dX9_take_34 : decode cX9_take 34 = .ok (.aload_n 0, 1) := by decide +kernel
theorem dX9_take_35 : decode cX9_take 35 = .ok (.getfield 11, 3) := by decide +kernel
theorem dX9_take_38 : decode cX9_take 38 = .ok (.aload_n 0, 1) := by decide +kernel
theorem dX9_take_39 : decode cX9_take 39 = .ok (.getfield 37, 3) := by decide +kernel
theorem dX9_take_42 : decode cX9_take 42 = .ok (.iload 4, 2) := by decide +kernel
theorem dX9_take_44 : decode cX9_take 44 = .ok (.iadd, 1) := by decide +kernel
theorem dX9_take_45 : decode cX9_take 45 = .ok (.sipush 1023, 3) := by decide +kernel
theorem dX9_take_48 : decode cX9_take 48 = .ok (.iand, 1) := by decide +kernel
theorem dX9_take_49 : decode cX9_take 49 = .ok (.aload_n 0, 1) := by decide +kernel
theorem dX9_take_50 : decode cX9_take 50 = .ok (.getfield 11, 3) := by decide +kernel
theorem dX9_take_53 : decode cX9_take 53 = .ok (.aload_n 0, 1) := by decide +kernel
theorem dX9_take_54 : decode cX9_take 54 = .ok (.getfield 37, 3) := by decide +kernel
theorem dX9_take_57 : decode cX9_take 57 = .ok (.iload 4, 2) := by decide +kernel
theorem dX9_take_59 : decode cX9_take 59 = .ok (.iadd, 1) := by decide +kernel
theorem dX9_take_60 : decode cX9_take 60 = .ok (.iconst 1, 1) := by decide +kernel
theorem dX9_take_61 : decode cX9_take 61 = .ok (.isub, 1) := by decide +kernel
theorem dX9_take_62 : decode cX9_take 62 = .ok (.sipush 1023, 3) := by decide +kernel
theorem dX9_take_65 : decode cX9_take 65 = .ok (.iand, 1) := by decide +kernel
theorem dX9_take_66 : decode cX9_take 66 = .ok (.iaload, 1) := by decide +kernel
theorem dX9_take_67 : decode cX9_take 67 = .ok (.iastore, 1) := by decide +kernel
theorem dX9_take_68 : decode cX9_take 68 = .ok (.iinc 4 (-1), 3) := by decide +kernel
theorem dX9_take_71 : decode cX9_take 71 = .ok (.goto (-42), 3) := by decide +kernel
theorem dX9_take_74 : decode cX9_take 74 = .ok (.aload_n 0, 1) := by decide +kernel
theorem dX9_take_75 : decode cX9_take 75 = .ok (.aload_n 0, 1) := by decide +kernel
theorem dX9_take_76 : decode cX9_take 76 = .ok (.getfield 37, 3) := by decide +kernel
theorem dX9_take_79 : decode cX9_take 79 = .ok (.iconst 1, 1) := by decide +kernel
theorem dX9_take_80 : decode cX9_take 80 = .ok (.iadd, 1) := by decide +kernel
theorem dX9_take_81 : decode cX9_take 81 = .ok (.sipush 1023, 3) := by decide +kernel
theorem dX9_take_84 : decode cX9_take 84 = .ok (.iand, 1) := by decide +kernel
theorem dX9_take_85 : decode cX9_take 85 = .ok (.putfield 37, 3) := by decide +kernel
theorem dX9_take_88 : decode cX9_take 88 = .ok (.aload_n 0, 1) := by decide +kernel
theorem dX9_take_89 : decode cX9_take 89 = .ok (.dup, 1) := by decide +kernel
theorem dX9_take_90 : decode cX9_take 90 = .ok (.getfield 33, 3) := by decide +kernel
theorem dX9_take_93 : decode cX9_take 93 = .ok (.iconst 1, 1) := by decide +kernel
theorem dX9_take_94 : decode cX9_take 94 = .ok (.isub, 1) := by decide +kernel
theorem dX9_take_95 : decode cX9_take 95 = .ok (.putfield 33, 3) := by decide +kernel
theorem dX9_take_98 : decode cX9_take 98 = .ok (.aload_n 0, 1) := by decide +kernel
theorem dX9_take_99 : decode cX9_take 99 = .ok (.getfield 15, 3) := by decide +kernel
theorem dX9_take_102 : decode cX9_take 102 = .ok (.aload_n 0, 1) := by decide +kernel
theorem dX9_take_103 : decode cX9_take 103 = .ok (.getfield 33, 3) := by decide +kernel
theorem dX9_take_106 : decode cX9_take 106 = .ok (.iload_n 2, 1) := by decide +kernel
theorem dX9_take_107 : decode cX9_take 107 = .ok (.iastore, 1) := by decide +kernel
theorem dX9_take_108 : decode cX9_take 108 = .ok (.aload_n 3, 1) := by decide +kernel
theorem dX9_take_109 : decode cX9_take 109 = .ok (.areturn, 1) := by decide +kernel
theorem dX9_fresh_0 : decode cX9_fresh 0 = .ok (.iload_n 1, 1) := by decide +kernel
theorem dX9_fresh_1 : decode cX9_fresh 1 = .ok (.sipush 128, 3) := by decide +kernel
theorem dX9_fresh_4 : decode cX9_fresh 4 = .ok (.if_icmp .gt 7, 3) := by decide +kernel
theorem dX9_fresh_7 : decode cX9_fresh 7 = .ok (.iconst 1, 1) := by decide +kernel
theorem dX9_fresh_8 : decode cX9_fresh 8 = .ok (.goto 4, 3) := by decide +kernel
theorem dX9_fresh_11 : decode cX9_fresh 11 = .ok (.iconst 0, 1) := by decide +kernel
theorem dX9_fresh_12 : decode cX9_fresh 12 = .ok (.istore_n 2, 1) := by decide +kernel
theorem dX9_fresh_13 : decode cX9_fresh 13 = .ok (.iload_n 2, 1) := by decide +kernel
theorem dX9_fresh_14 : decode cX9_fresh 14 = .ok (.ifCond .eq 10, 3) := by decide +kernel
theorem dX9_fresh_17 : decode cX9_fresh 17 = .ok (.aload_n 0, 1) := by decide +kernel
theorem dX9_fresh_18 : decode cX9_fresh 18 = .ok (.getfield 60, 3) := by decide +kernel
theorem dX9_fresh_21 : decode cX9_fresh 21 = .ok (.goto 7, 3) := by decide +kernel
theorem dX9_fresh_24 : decode cX9_fresh 24 = .ok (.aload_n 0, 1) := by decide +kernel
theorem dX9_fresh_25 : decode cX9_fresh 25 = .ok (.getfield 64, 3) := by decide +kernel
theorem dX9_fresh_28 : decode cX9_fresh 28 = .ok (.astore_n 3, 1) := by decide +kernel
theorem dX9_fresh_29 : decode cX9_fresh 29 = .ok (.aload_n 3, 1) := by decide +kernel
theorem dX9_fresh_30 : decode cX9_fresh 30 = .ok (.ifnonnull 27, 3) := by decide +kernel
theorem dX9_fresh_33 : decode cX9_fresh 33 = .ok (.new 27, 3) := by decide +kernel
theorem dX9_fresh_36 : decode cX9_fresh 36 = .ok (.dup, 1) := by decide +kernel
theorem dX9_fresh_37 : decode cX9_fresh 37 = .ok (.iload_n 2, 1) := by decide +kernel
theorem dX9_fresh_38 : decode cX9_fresh 38 = .ok (.ifCond .eq 9, 3) := by decide +kernel
theorem dX9_fresh_41 : decode cX9_fresh 41 = .ok (.sipush 128, 3) := by decide +kernel
theorem dX9_fresh_44 : decode cX9_fresh 44 = .ok (.goto 6, 3) := by decide +kernel
theorem dX9_fresh_47 : decode cX9_fresh 47 = .ok (.sipush 1000, 3) := by decide +kernel
theorem dX9_fresh_50 : decode cX9_fresh 50 = .ok (.invokespecial 67, 3) := by decide +kernel
theorem dX9_fresh_53 : decode cX9_fresh 53 = .ok (.astore_n 3, 1) := by decide +kernel
theorem dX9_fresh_54 : decode cX9_fresh 54 = .ok (.goto 26, 3) := by decide +kernel
theorem dX9_fresh_57 : decode cX9_fresh 57 = .ok (.iload_n 2, 1) := by decide +kernel
theorem dX9_fresh_58 : decode cX9_fresh 58 = .ok (.ifCond .eq 14, 3) := by decide +kernel
theorem dX9_fresh_61 : decode cX9_fresh 61 = .ok (.aload_n 0, 1) := by decide +kernel
theorem dX9_fresh_62 : decode cX9_fresh 62 = .ok (.aload_n 3, 1) := by decide +kernel
theorem dX9_fresh_63 : decode cX9_fresh 63 = .ok (.getfield 70, 3) := by decide +kernel
theorem dX9_fresh_66 : decode cX9_fresh 66 = .ok (.putfield 60, 3) := by decide +kernel
theorem dX9_fresh_69 : decode cX9_fresh 69 = .ok (.goto 11, 3) := by decide +kernel
theorem dX9_fresh_72 : decode cX9_fresh 72 = .ok (.aload_n 0, 1) := by decide +kernel
theorem dX9_fresh_73 : decode cX9_fresh 73 = .ok (.aload_n 3, 1) := by decide +kernel
theorem dX9_fresh_74 : decode cX9_fresh 74 = .ok (.getfield 70, 3) := by decide +kernel
theorem dX9_fresh_77 : decode cX9_fresh 77 = .ok (.putfield 64, 3) := by decide +kernel
theorem dX9_fresh_80 : decode cX9_fresh 80 = .ok (.aload_n 3, 1) := by decide +kernel
theorem dX9_fresh_81 : decode cX9_fresh 81 = .ok (.aconst_null, 1) := by decide +kernel
theorem dX9_fresh_82 : decode cX9_fresh 82 = .ok (.putfield 70, 3) := by decide +kernel
theorem dX9_fresh_85 : decode cX9_fresh 85 = .ok (.aload_n 3, 1) := by decide +kernel
theorem dX9_fresh_86 : decode cX9_fresh 86 = .ok (.iconst 0, 1) := by decide +kernel
theorem dX9_fresh_87 : decode cX9_fresh 87 = .ok (.iload_n 1, 1) := by decide +kernel
theorem dX9_fresh_88 : decode cX9_fresh 88 = .ok (.aload_n 3, 1) := by decide +kernel
theorem dX9_fresh_89 : decode cX9_fresh 89 = .ok (.getfield 73, 3) := by decide +kernel
theorem dX9_fresh_92 : decode cX9_fresh 92 = .ok (.arraylength, 1) := by decide +kernel
theorem dX9_fresh_93 : decode cX9_fresh 93 = .ok (.invokestatic 77, 3) := by decide +kernel
theorem dX9_fresh_96 : decode cX9_fresh 96 = .ok (.invokestatic 83, 3) := by decide +kernel
theorem dX9_fresh_99 : decode cX9_fresh 99 = .ok (.putfield 86, 3) := by decide +kernel
theorem dX9_fresh_102 : decode cX9_fresh 102 = .ok (.aload_n 3, 1) := by decide +kernel
theorem dX9_fresh_103 : decode cX9_fresh 103 = .ok (.iconst 1, 1) := by decide +kernel
theorem dX9_fresh_104 : decode cX9_fresh 104 = .ok (.putfield 57, 3) := by decide +kernel
theorem dX9_fresh_107 : decode cX9_fresh 107 = .ok (.aload_n 3, 1) := by decide +kernel
theorem dX9_fresh_108 : decode cX9_fresh 108 = .ok (.iconst 0, 1) := by decide +kernel
theorem dX9_fresh_109 : decode cX9_fresh 109 = .ok (.putfield 89, 3) := by decide +kernel
theorem dX9_fresh_112 : decode cX9_fresh 112 = .ok (.aload_n 3, 1) := by decide +kernel
theorem dX9_fresh_113 : decode cX9_fresh 113 = .ok (.iconst 0, 1) := by decide +kernel
theorem dX9_fresh_114 : decode cX9_fresh 114 = .ok (.putfield 92, 3) := by decide +kernel
theorem dX9_fresh_117 : decode cX9_fresh 117 = .ok (.aload_n 3, 1) := by decide +kernel
theorem dX9_fresh_118 : decode cX9_fresh 118 = .ok (.areturn, 1) := by decide +kernel
theorem dX9_drop_0 : decode cX9_drop 0 = .ok (.aload_n 1, 1) := by decide +kernel
theorem dX9_drop_1 : decode cX9_drop 1 = .ok (.ifnonnull 4, 3) := by decide +kernel
theorem dX9_drop_4 : decode cX9_drop 4 = .ok (.return_, 1) := by decide +kernel
theorem dX9_drop_5 : decode cX9_drop 5 = .ok (.aload_n 1, 1) := by decide +kernel
theorem dX9_drop_6 : decode cX9_drop 6 = .ok (.dup, 1) := by decide +kernel
theorem dX9_drop_7 : decode cX9_drop 7 = .ok (.getfield 57, 3) := by decide +kernel
theorem dX9_drop_10 : decode cX9_drop 10 = .ok (.iconst 1, 1) := by decide +kernel
theorem dX9_drop_11 : decode cX9_drop 11 = .ok (.isub, 1) := by decide +kernel
theorem dX9_drop_12 : decode cX9_drop 12 = .ok (.putfield 57, 3) := by decide +kernel
theorem dX9_drop_15 : decode cX9_drop 15 = .ok (.aload_n 1, 1) := by decide +kernel
theorem dX9_drop_16 : decode cX9_drop 16 = .ok (.getfield 57, 3) := by decide +kernel
theorem dX9_drop_19 : decode cX9_drop 19 = .ok (.ifCond .le 4, 3) := by decide +kernel
theorem dX9_drop_22 : decode cX9_drop 22 = .ok (.return_, 1) := by decide +kernel
theorem dX9_drop_23 : decode cX9_drop 23 = .ok (.aload_n 1, 1) := by decide +kernel
theorem dX9_drop_24 : decode cX9_drop 24 = .ok (.getfield 73, 3) := by decide +kernel
theorem dX9_drop_27 : decode cX9_drop 27 = .ok (.arraylength, 1) := by decide +kernel
theorem dX9_drop_28 : decode cX9_drop 28 = .ok (.sipush 128, 3) := by decide +kernel
theorem dX9_drop_31 : decode cX9_drop 31 = .ok (.if_icmp .ne 19, 3) := by decide +kernel
theorem dX9_drop_34 : decode cX9_drop 34 = .ok (.aload_n 1, 1) := by decide +kernel
theorem dX9_drop_35 : decode cX9_drop 35 = .ok (.aload_n 0, 1) := by decide +kernel
theorem dX9_drop_36 : decode cX9_drop 36 = .ok (.getfield 60, 3) := by decide +kernel
theorem dX9_drop_39 : decode cX9_drop 39 = .ok (.putfield 70, 3) := by decide +kernel
theorem dX9_drop_42 : decode cX9_drop 42 = .ok (.aload_n 0, 1) := by decide +kernel
theorem dX9_drop_43 : decode cX9_drop 43 = .ok (.aload_n 1, 1) := by decide +kernel
theorem dX9_drop_44 : decode cX9_drop 44 = .ok (.putfield 60, 3) := by decide +kernel
theorem dX9_drop_47 : decode cX9_drop 47 = .ok (.goto 16, 3) := by decide +kernel
theorem dX9_drop_50 : decode cX9_drop 50 = .ok (.aload_n 1, 1) := by decide +kernel
theorem dX9_drop_51 : decode cX9_drop 51 = .ok (.aload_n 0, 1) := by decide +kernel
theorem dX9_drop_52 : decode cX9_drop 52 = .ok (.getfield 64, 3) := by decide +kernel
theorem dX9_drop_55 : decode cX9_drop 55 = .ok (.putfield 70, 3) := by decide +kernel
theorem dX9_drop_58 : decode cX9_drop 58 = .ok (.aload_n 0, 1) := by decide +kernel
theorem dX9_drop_59 : decode cX9_drop 59 = .ok (.aload_n 1, 1) := by decide +kernel
theorem dX9_drop_60 : decode cX9_drop 60 = .ok (.putfield 64, 3) := by decide +kernel
theorem dX9_drop_63 : decode cX9_drop 63 = .ok (.return_, 1) := by decide +kernel
theorem dX10_init_0 : decode cX10_init 0 = .ok (.aload_n 0, 1) := by decide +kernel
theorem dX10_init_1 : decode cX10_init 1 = .ok (.invokespecial 3, 3) := by decide +kernel
theorem dX10_init_4 : decode cX10_init 4 = .ok (.aload_n 0, 1) := by decide +kernel
theorem dX10_init_5 : decode cX10_init 5 = .ok (.new 9, 3) := by decide +kernel
theorem dX10_init_8 : decode cX10_init 8 = .ok (.dup, 1) := by decide +kernel
theorem dX10_init_9 : decode cX10_init 9 = .ok (.invokespecial 11, 3) := by decide +kernel
theorem dX10_init_12 : decode cX10_init 12 = .ok (.putfield 12, 3) := by decide +kernel
theorem dX10_init_15 : decode cX10_init 15 = .ok (.aload_n 0, 1) := by decide +kernel
theorem dX10_init_16 : decode cX10_init 16 = .ok (.new 18, 3) := by decide +kernel
theorem dX10_init_19 : decode cX10_init 19 = .ok (.dup, 1) := by decide +kernel
theorem dX10_init_20 : decode cX10_init 20 = .ok (.invokespecial 20, 3) := by decide +kernel
theorem dX10_init_23 : decode cX10_init 23 = .ok (.putfield 21, 3) := by decide +kernel
theorem dX10_init_26 : decode cX10_init 26 = .ok (.aload_n 0, 1) := by decide +kernel
theorem dX10_init_27 : decode cX10_init 27 = .ok (.new 18, 3) := by decide +kernel
theorem dX10_init_30 : decode cX10_init 30 = .ok (.dup, 1) := by decide +kernel
theorem dX10_init_31 : decode cX10_init 31 = .ok (.invokespecial 20, 3) := by decide +kernel
theorem dX10_init_34 : decode cX10_init 34 = .ok (.putfield 25, 3) := by decide +kernel
theorem dX10_init_37 : decode cX10_init 37 = .ok (.aload_n 0, 1) := by decide +kernel
theorem dX10_init_38 : decode cX10_init 38 = .ok (.sipush 1024, 3) := by decide +kernel
theorem dX10_init_41 : decode cX10_init 41 = .ok (.newarray .byte, 2) := by decide +kernel
theorem dX10_init_43 : decode cX10_init 43 = .ok (.putfield 28, 3) := by decide +kernel
theorem dX10_init_46 : decode cX10_init 46 = .ok (.aload_n 0, 1) := by decide +kernel
theorem dX10_init_47 : decode cX10_init 47 = .ok (.bipush 32, 2) := by decide +kernel
theorem dX10_init_49 : decode cX10_init 49 = .ok (.newarray .byte, 2) := by decide +kernel
theorem dX10_init_51 : decode cX10_init 51 = .ok (.putfield 32, 3) := by decide +kernel
theorem dX10_init_54 : decode cX10_init 54 = .ok (.aload_n 0, 1) := by decide +kernel
theorem dX10_init_55 : decode cX10_init 55 = .ok (.iload_n 1, 1) := by decide +kernel
theorem dX10_init_56 : decode cX10_init 56 = .ok (.putfield 35, 3) := by decide +kernel
theorem dX10_init_59 : decode cX10_init 59 = .ok (.aload_n 0, 1) := by decide +kernel
theorem dX10_init_60 : decode cX10_init 60 = .ok (.aload_n 3, 1) := by decide +kernel
theorem dX10_init_61 : decode cX10_init 61 = .ok (.putfield 39, 3) := by decide +kernel
theorem dX10_init_64 : decode cX10_init 64 = .ok (.aload_n 0, 1) := by decide +kernel
theorem dX10_init_65 : decode cX10_init 65 = .ok (.aload 4, 2) := by decide +kernel
theorem dX10_init_67 : decode cX10_init 67 = .ok (.putfield 43, 3) := by decide +kernel
theorem dX10_init_70 : decode cX10_init 70 = .ok (.aload_n 0, 1) := by decide +kernel
theorem dX10_init_71 : decode cX10_init 71 = .ok (.iconst 3, 1) := by decide +kernel
theorem dX10_init_72 : decode cX10_init 72 = .ok (.iload_n 1, 1) := by decide +kernel
theorem dX10_init_73 : decode cX10_init 73 = .ok (.imul, 1) := by decide +kernel
theorem dX10_init_74 : decode cX10_init 74 = .ok (.iconst 1, 1) := by decide +kernel
theorem dX10_init_75 : decode cX10_init 75 = .ok (.iadd, 1) := by decide +kernel
theorem dX10_init_76 : decode cX10_init 76 = .ok (.putfield 47, 3) := by decide +kernel
theorem dX10_init_79 : decode cX10_init 79 = .ok (.aload_n 0, 1) := by decide +kernel
theorem dX10_init_80 : decode cX10_init 80 = .ok (.aload_n 0, 1) := by decide +kernel
theorem dX10_init_81 : decode cX10_init 81 = .ok (.getfield 47, 3) := by decide +kernel
theorem dX10_init_84 : decode cX10_init 84 = .ok (.iload_n 2, 1) := by decide +kernel
theorem dX10_init_85 : decode cX10_init 85 = .ok (.isub, 1) := by decide +kernel
theorem dX10_init_86 : decode cX10_init 86 = .ok (.putfield 50, 3) := by decide +kernel
theorem dX10_init_89 : decode cX10_init 89 = .ok (.aload_n 0, 1) := by decide +kernel
theorem dX10_init_90 : decode cX10_init 90 = .ok (.iconst 2, 1) := by decide +kernel
theorem dX10_init_91 : decode cX10_init 91 = .ok (.iload_n 1, 1) := by decide +kernel
theorem dX10_init_92 : decode cX10_init 92 = .ok (.imul, 1) := by decide +kernel
theorem dX10_init_93 : decode cX10_init 93 = .ok (.iconst 1, 1) := by decide +kernel
theorem dX10_init_94 : decode cX10_init 94 = .ok (.iadd, 1) := by decide +kernel
theorem dX10_init_95 : decode cX10_init 95 = .ok (.putfield 53, 3) := by decide +kernel
theorem dX10_init_98 : decode cX10_init 98 = .ok (.aload_n 0, 1) := by decide +kernel
theorem dX10_init_99 : decode cX10_init 99 = .ok (.iconst 0, 1) := by decide +kernel
theorem dX10_init_100 : decode cX10_init 100 = .ok (.aload_n 0, 1) := by decide +kernel
theorem dX10_init_101 : decode cX10_init 101 = .ok (.getfield 50, 3) := by decide +kernel
theorem dX10_init_104 : decode cX10_init 104 = .ok (.invokestatic 56, 3) := by decide +kernel
theorem dX10_init_107 : decode cX10_init 107 = .ok (.anewarray 62, 3) := by decide +kernel
theorem dX10_init_110 : decode cX10_init 110 = .ok (.putfield 64, 3) := by decide +kernel
theorem dX10_init_113 : decode cX10_init 113 = .ok (.return_, 1) := by decide +kernel
theorem dX10_found_0 : decode cX10_found 0 = .ok (.new 68, 3) := by decide +kernel
theorem dX10_found_3 : decode cX10_found 3 = .ok (.dup, 1) := by decide +kernel
theorem dX10_found_4 : decode cX10_found 4 = .ok (.invokespecial 70, 3) := by decide +kernel
theorem dX10_found_7 : decode cX10_found 7 = .ok (.astore_n 2, 1) := by decide +kernel
theorem dX10_found_8 : decode cX10_found 8 = .ok (.new 13, 3) := by decide +kernel
theorem dX10_found_11 : decode cX10_found 11 = .ok (.dup, 1) := by decide +kernel
theorem dX10_found_12 : decode cX10_found 12 = .ok (.iload_n 0, 1) := by decide +kernel
theorem dX10_found_13 : decode cX10_found 13 = .ok (.iload_n 1, 1) := by decide +kernel
theorem dX10_found_14 : decode cX10_found 14 = .ok (.aload_n 2, 1) := by decide +kernel
theorem dX10_found_15 : decode cX10_found 15 = .ok (.new 71, 3) := by decide +kernel
theorem dX10_found_18 : decode cX10_found 18 = .ok (.dup, 1) := by decide +kernel
theorem dX10_found_19 : decode cX10_found 19 = .ok (.aload_n 2, 1) := by decide +kernel
theorem dX10_found_20 : decode cX10_found 20 = .ok (.iconst 3, 1) := by decide +kernel
theorem dX10_found_21 : decode cX10_found 21 = .ok (.iload_n 0, 1) := by decide +kernel
theorem dX10_found_22 : decode cX10_found 22 = .ok (.imul, 1) := by decide +kernel
theorem dX10_found_23 : decode cX10_found 23 = .ok (.iconst 1, 1) := by decide +kernel
theorem dX10_found_24 : decode cX10_found 24 = .ok (.iadd, 1) := by decide +kernel
theorem dX10_found_25 : decode cX10_found 25 = .ok (.invokespecial 73, 3) := by decide +kernel
theorem dX10_found_28 : decode cX10_found 28 = .ok (.invokespecial 76, 3) := by decide +kernel
theorem dX10_found_31 : decode cX10_found 31 = .ok (.astore_n 3, 1) := by decide +kernel
theorem dX10_found_32 : decode cX10_found 32 = .ok (.iconst 0, 1) := by decide +kernel
theorem dX10_found_33 : decode cX10_found 33 = .ok (.istore 4, 2) := by decide +kernel
theorem dX10_found_35 : decode cX10_found 35 = .ok (.iload 4, 2) := by decide +kernel
theorem dX10_found_37 : decode cX10_found 37 = .ok (.aload_n 3, 1) := by decide +kernel
theorem dX10_found_38 : decode cX10_found 38 = .ok (.getfield 64, 3) := by decide +kernel
theorem dX10_found_41 : decode cX10_found 41 = .ok (.arraylength, 1) := by decide +kernel
theorem dX10_found_42 : decode cX10_found 42 = .ok (.if_icmp .ge 26, 3) := by decide +kernel
theorem dX10_found_45 : decode cX10_found 45 = .ok (.aload_n 3, 1) := by decide +kernel
theorem dX10_found_46 : decode cX10_found 46 = .ok (.getfield 64, 3) := by decide +kernel
theorem dX10_found_49 : decode cX10_found 49 = .ok (.iload 4, 2) := by decide +kernel
theorem dX10_found_51 : decode cX10_found 51 = .ok (.new 62, 3) := by decide +kernel
theorem dX10_found_54 : decode cX10_found 54 = .ok (.dup, 1) := by decide +kernel
theorem dX10_found_55 : decode cX10_found 55 = .ok (.aload_n 3, 1) := by decide +kernel
theorem dX10_found_56 : decode cX10_found 56 = .ok (.iload 4, 2) := by decide +kernel
theorem dX10_found_58 : decode cX10_found 58 = .ok (.invokespecial 79, 3) := by decide +kernel
theorem dX10_found_61 : decode cX10_found 61 = .ok (.aastore, 1) := by decide +kernel
theorem dX10_found_62 : decode cX10_found 62 = .ok (.iinc 4 1, 3) := by decide +kernel
theorem dX10_found_65 : decode cX10_found 65 = .ok (.goto (-30), 3) := by decide +kernel
theorem dX10_found_68 : decode cX10_found 68 = .ok (.aload_n 3, 1) := by decide +kernel
theorem dX10_found_69 : decode cX10_found 69 = .ok (.getfield 64, 3) := by decide +kernel
theorem dX10_found_72 : decode cX10_found 72 = .ok (.astore 4, 2) := by decide +kernel
theorem dX10_found_74 : decode cX10_found 74 = .ok (.aload 4, 2) := by decide +kernel
theorem dX10_found_76 : decode cX10_found 76 = .ok (.arraylength, 1) := by decide +kernel
theorem dX10_found_77 : decode cX10_found 77 = .ok (.istore 5, 2) := by decide +kernel
theorem dX10_found_79 : decode cX10_found 79 = .ok (.iconst 0, 1) := by decide +kernel
theorem dX10_found_80 : decode cX10_found 80 = .ok (.istore 6, 2) := by decide +kernel
theorem dX10_found_82 : decode cX10_found 82 = .ok (.iload 6, 2) := by decide +kernel
theorem dX10_found_84 : decode cX10_found 84 = .ok (.iload 5, 2) := by decide +kernel
theorem dX10_found_86 : decode cX10_found 86 = .ok (.if_icmp .ge 27, 3) := by decide +kernel
theorem dX10_found_89 : decode cX10_found 89 = .ok (.aload 4, 2) := by decide +kernel
theorem dX10_found_91 : decode cX10_found 91 = .ok (.iload 6, 2) := by decide +kernel
theorem dX10_found_93 : decode cX10_found 93 = .ok (.aaload, 1) := by decide +kernel
theorem dX10_found_94 : decode cX10_found 94 = .ok (.astore 7, 2) := by decide +kernel
theorem dX10_found_96 : decode cX10_found 96 = .ok (.aload 7, 2) := by decide +kernel
theorem dX10_found_98 : decode cX10_found 98 = .ok (.iconst 0, 1) := by decide +kernel
theorem dX10_found_99 : decode cX10_found 99 = .ok (.putfield 82, 3) := by decide +kernel
theorem dX10_found_102 : decode cX10_found 102 = .ok (.aload 7, 2) := by decide +kernel
theorem dX10_found_104 : decode cX10_found 104 = .ok (.invokestatic 85, 3) := by decide +kernel
theorem dX10_found_107 : decode cX10_found 107 = .ok (.iinc 6 1, 3) := by decide +kernel
theorem dX10_found_110 : decode cX10_found 110 = .ok (.goto (-28), 3) := by decide +kernel
theorem dX10_found_113 : decode cX10_found 113 = .ok (.aload_n 3, 1) := by decide +kernel
theorem dX10_found_114 : decode cX10_found 114 = .ok (.areturn, 1) := by decide +kernel
theorem dX10_proposer_0 : decode cX10_proposer 0 = .ok (.aload_n 0, 1) := by decide +kernel
theorem dX10_proposer_1 : decode cX10_proposer 1 = .ok (.getfield 47, 3) := by decide +kernel
theorem dX10_proposer_4 : decode cX10_proposer 4 = .ok (.ifCond .gt 7, 3) := by decide +kernel
theorem dX10_proposer_7 : decode cX10_proposer 7 = .ok (.iconst 0, 1) := by decide +kernel
theorem dX10_proposer_8 : decode cX10_proposer 8 = .ok (.goto 11, 3) := by decide +kernel
theorem dX10_proposer_11 : decode cX10_proposer 11 = .ok (.iload_n 1, 1) := by decide +kernel
theorem dX10_proposer_12 : decode cX10_proposer 12 = .ok (.iload_n 2, 1) := by decide +kernel
theorem dX10_proposer_13 : decode cX10_proposer 13 = .ok (.iadd, 1) := by decide +kernel
theorem dX10_proposer_14 : decode cX10_proposer 14 = .ok (.aload_n 0, 1) := by decide +kernel
theorem dX10_proposer_15 : decode cX10_proposer 15 = .ok (.getfield 47, 3) := by decide +kernel
theorem dX10_proposer_18 : decode cX10_proposer 18 = .ok (.irem, 1) := by decide +kernel
theorem dX10_proposer_19 : decode cX10_proposer 19 = .ok (.ireturn, 1) := by decide +kernel
theorem dX10_spread_0 : decode cX10_spread 0 = .ok (.iconst 0, 1) := by decide +kernel
theorem dX10_spread_1 : decode cX10_spread 1 = .ok (.istore 5, 2) := by decide +kernel
theorem dX10_spread_3 : decode cX10_spread 3 = .ok (.iload 5, 2) := by decide +kernel
theorem dX10_spread_5 : decode cX10_spread 5 = .ok (.aload_n 0, 1) := by decide +kernel
theorem dX10_spread_6 : decode cX10_spread 6 = .ok (.getfield 47, 3) := by decide +kernel
theorem dX10_spread_9 : decode cX10_spread 9 = .ok (.if_icmp .ge 39, 3) := by decide +kernel
theorem dX10_spread_12 : decode cX10_spread 12 = .ok (.iload 5, 2) := by decide +kernel
theorem dX10_spread_14 : decode cX10_spread 14 = .ok (.iload_n 1, 1) := by decide +kernel
theorem dX10_spread_15 : decode cX10_spread 15 = .ok (.if_icmp .eq 27, 3) := by decide +kernel
theorem dX10_spread_18 : decode cX10_spread 18 = .ok (.iload 5, 2) := by decide +kernel
theorem dX10_spread_20 : decode cX10_spread 20 = .ok (.iload_n 3, 1) := by decide +kernel
theorem dX10_spread_21 : decode cX10_spread 21 = .ok (.if_icmp .eq 21, 3) := by decide +kernel
theorem dX10_spread_24 : decode cX10_spread 24 = .ok (.iload 5, 2) := by decide +kernel
theorem dX10_spread_26 : decode cX10_spread 26 = .ok (.iload 4, 2) := by decide +kernel
theorem dX10_spread_28 : decode cX10_spread 28 = .ok (.if_icmp .eq 14, 3) := by decide +kernel
theorem dX10_spread_31 : decode cX10_spread 31 = .ok (.aload_n 0, 1) := by decide +kernel
theorem dX10_spread_32 : decode cX10_spread 32 = .ok (.getfield 12, 3) := by decide +kernel
theorem dX10_spread_35 : decode cX10_spread 35 = .ok (.iload_n 1, 1) := by decide +kernel
theorem dX10_spread_36 : decode cX10_spread 36 = .ok (.iload 5, 2) := by decide +kernel
theorem dX10_spread_38 : decode cX10_spread 38 = .ok (.aload_n 2, 1) := by decide +kernel
theorem dX10_spread_39 : decode cX10_spread 39 = .ok (.invokevirtual 91, 3) := by decide +kernel
theorem dX10_spread_42 : decode cX10_spread 42 = .ok (.iinc 5 1, 3) := by decide +kernel
theorem dX10_spread_45 : decode cX10_spread 45 = .ok (.goto (-42), 3) := by decide +kernel
theorem dX10_spread_48 : decode cX10_spread 48 = .ok (.return_, 1) := by decide +kernel
theorem dX10_land_0 : decode cX10_land 0 = .ok (.aload_n 0, 1) := by decide +kernel
theorem dX10_land_1 : decode cX10_land 1 = .ok (.getfield 12, 3) := by decide +kernel
theorem dX10_land_4 : decode cX10_land 4 = .ok (.iload_n 1, 1) := by decide +kernel
theorem dX10_land_5 : decode cX10_land 5 = .ok (.invokevirtual 95, 3) := by decide +kernel
theorem dX10_land_8 : decode cX10_land 8 = .ok (.istore_n 2, 1) := by decide +kernel
theorem dX10_land_9 : decode cX10_land 9 = .ok (.aload_n 0, 1) := by decide +kernel
theorem dX10_land_10 : decode cX10_land 10 = .ok (.getfield 12, 3) := by decide +kernel
theorem dX10_land_13 : decode cX10_land 13 = .ok (.iload_n 1, 1) := by decide +kernel
theorem dX10_land_14 : decode cX10_land 14 = .ok (.invokevirtual 99, 3) := by decide +kernel
theorem dX10_land_17 : decode cX10_land 17 = .ok (.istore_n 3, 1) := by decide +kernel
theorem dX10_land_18 : decode cX10_land 18 = .ok (.aload_n 0, 1) := by decide +kernel
theorem dX10_land_19 : decode cX10_land 19 = .ok (.getfield 12, 3) := by decide +kernel
theorem dX10_land_22 : decode cX10_land 22 = .ok (.iload_n 1, 1) := by decide +kernel
theorem dX10_land_23 : decode cX10_land 23 = .ok (.invokevirtual 102, 3) := by decide +kernel
theorem dX10_land_26 : decode cX10_land 26 = .ok (.astore 4, 2) := by decide +kernel
theorem dX10_land_28 : decode cX10_land 28 = .ok (.aload 4, 2) := by decide +kernel
theorem dX10_land_30 : decode cX10_land 30 = .ok (.ifnonnull 5, 3) := by decide +kernel
theorem dX10_land_33 : decode cX10_land 33 = .ok (.iconst (-1), 1) := by decide +kernel
theorem dX10_land_34 : decode cX10_land 34 = .ok (.ireturn, 1) := by decide +kernel
theorem dX10_land_35 : decode cX10_land 35 = .ok (.iload_n 3, 1) := by decide +kernel
theorem dX10_land_36 : decode cX10_land 36 = .ok (.ifCond .lt 20, 3) := by decide +kernel
theorem dX10_land_39 : decode cX10_land 39 = .ok (.iload_n 3, 1) := by decide +kernel
theorem dX10_land_40 : decode cX10_land 40 = .ok (.aload_n 0, 1) := by decide +kernel
theorem dX10_land_41 : decode cX10_land 41 = .ok (.getfield 50, 3) := by decide +kernel
theorem dX10_land_44 : decode cX10_land 44 = .ok (.if_icmp .ge 12, 3) := by decide +kernel
theorem dX10_land_47 : decode cX10_land 47 = .ok (.aload_n 0, 1) := by decide +kernel
theorem dX10_land_48 : decode cX10_land 48 = .ok (.getfield 64, 3) := by decide +kernel
theorem dX10_land_51 : decode cX10_land 51 = .ok (.iload_n 3, 1) := by decide +kernel
theorem dX10_land_52 : decode cX10_land 52 = .ok (.aaload, 1) := by decide +kernel
theorem dX10_land_53 : decode cX10_land 53 = .ok (.goto 4, 3) := by decide +kernel
theorem dX10_land_56 : decode cX10_land 56 = .ok (.aconst_null, 1) := by decide +kernel
theorem dX10_land_57 : decode cX10_land 57 = .ok (.astore 5, 2) := by decide +kernel
theorem dX10_land_59 : decode cX10_land 59 = .ok (.aload 5, 2) := by decide +kernel
theorem dX10_land_61 : decode cX10_land 61 = .ok (.ifnull 39, 3) := by decide +kernel
theorem dX10_land_64 : decode cX10_land 64 = .ok (.aload 5, 2) := by decide +kernel
theorem dX10_land_66 : decode cX10_land 66 = .ok (.getfield 106, 3) := by decide +kernel
theorem dX10_land_69 : decode cX10_land 69 = .ok (.ifCond .eq 31, 3) := by decide +kernel
theorem dX10_land_72 : decode cX10_land 72 = .ok (.aload_n 0, 1) := by decide +kernel
theorem dX10_land_73 : decode cX10_land 73 = .ok (.getfield 43, 3) := by decide +kernel
theorem dX10_land_76 : decode cX10_land 76 = .ok (.aload 4, 2) := by decide +kernel
theorem dX10_land_78 : decode cX10_land 78 = .ok (.invokevirtual 110, 3) := by decide +kernel
theorem dX10_land_81 : decode cX10_land 81 = .ok (.ifCond .eq 19, 3) := by decide +kernel
theorem dX10_land_84 : decode cX10_land 84 = .ok (.aload 5, 2) := by decide +kernel
theorem dX10_land_86 : decode cX10_land 86 = .ok (.iload_n 2, 1) := by decide +kernel
theorem dX10_land_87 : decode cX10_land 87 = .ok (.aload 4, 2) := by decide +kernel
theorem dX10_land_89 : decode cX10_land 89 = .ok (.invokestatic 114, 3) := by decide +kernel
theorem dX10_land_92 : decode cX10_land 92 = .ok (.ifCond .eq 8, 3) := by decide +kernel
theorem dX10_land_95 : decode cX10_land 95 = .ok (.aload 5, 2) := by decide +kernel
theorem dX10_land_97 : decode cX10_land 97 = .ok (.invokestatic 85, 3) := by decide +kernel
theorem dX10_land_100 : decode cX10_land 100 = .ok (.aload 4, 2) := by decide +kernel
theorem dX10_land_102 : decode cX10_land 102 = .ok (.iconst 0, 1) := by decide +kernel
theorem dX10_land_103 : decode cX10_land 103 = .ok (.invokevirtual 120, 3) := by decide +kernel
theorem dX10_land_106 : decode cX10_land 106 = .ok (.istore 6, 2) := by decide +kernel
theorem dX10_land_108 : decode cX10_land 108 = .ok (.aload_n 0, 1) := by decide +kernel
theorem dX10_land_109 : decode cX10_land 109 = .ok (.getfield 12, 3) := by decide +kernel
theorem dX10_land_112 : decode cX10_land 112 = .ok (.aload 4, 2) := by decide +kernel
theorem dX10_land_114 : decode cX10_land 114 = .ok (.invokevirtual 125, 3) := by decide +kernel
theorem dX10_land_117 : decode cX10_land 117 = .ok (.iload 6, 2) := by decide +kernel
theorem dX10_land_119 : decode cX10_land 119 = .ok (.ireturn, 1) := by decide +kernel
theorem dX10_passTime_0 : decode cX10_passTime 0 = .ok (.aload_n 0, 1) := by decide +kernel
theorem dX10_passTime_1 : decode cX10_passTime 1 = .ok (.getfield 12, 3) := by decide +kernel
theorem dX10_passTime_4 : decode cX10_passTime 4 = .ok (.dup, 1) := by decide +kernel
theorem dX10_passTime_5 : decode cX10_passTime 5 = .ok (.getfield 129, 3) := by decide +kernel
theorem dX10_passTime_8 : decode cX10_passTime 8 = .ok (.iconst 1, 1) := by decide +kernel
theorem dX10_passTime_9 : decode cX10_passTime 9 = .ok (.iadd, 1) := by decide +kernel
theorem dX10_passTime_10 : decode cX10_passTime 10 = .ok (.putfield 129, 3) := by decide +kernel
theorem dX10_passTime_13 : decode cX10_passTime 13 = .ok (.iconst 0, 1) := by decide +kernel
theorem dX10_passTime_14 : decode cX10_passTime 14 = .ok (.istore_n 1, 1) := by decide +kernel
theorem dX10_passTime_15 : decode cX10_passTime 15 = .ok (.iconst 0, 1) := by decide +kernel
theorem dX10_passTime_16 : decode cX10_passTime 16 = .ok (.istore_n 2, 1) := by decide +kernel
theorem dX10_passTime_17 : decode cX10_passTime 17 = .ok (.iload_n 2, 1) := by decide +kernel
theorem dX10_passTime_18 : decode cX10_passTime 18 = .ok (.aload_n 0, 1) := by decide +kernel
theorem dX10_passTime_19 : decode cX10_passTime 19 = .ok (.getfield 50, 3) := by decide +kernel
theorem dX10_passTime_22 : decode cX10_passTime 22 = .ok (.if_icmp .ge 76, 3) := by decide +kernel
theorem dX10_passTime_25 : decode cX10_passTime 25 = .ok (.aload_n 0, 1) := by decide +kernel
theorem dX10_passTime_26 : decode cX10_passTime 26 = .ok (.getfield 64, 3) := by decide +kernel
theorem dX10_passTime_29 : decode cX10_passTime 29 = .ok (.iload_n 2, 1) := by decide +kernel
theorem dX10_passTime_30 : decode cX10_passTime 30 = .ok (.aaload, 1) := by decide +kernel
theorem dX10_passTime_31 : decode cX10_passTime 31 = .ok (.astore_n 3, 1) := by decide +kernel
theorem dX10_passTime_32 : decode cX10_passTime 32 = .ok (.iconst 0, 1) := by decide +kernel
theorem dX10_passTime_33 : decode cX10_passTime 33 = .ok (.istore 4, 2) := by decide +kernel
theorem dX10_passTime_35 : decode cX10_passTime 35 = .ok (.iload 4, 2) := by decide +kernel
theorem dX10_passTime_37 : decode cX10_passTime 37 = .ok (.iconst 3, 1) := by decide +kernel
theorem dX10_passTime_38 : decode cX10_passTime 38 = .ok (.if_icmp .ge 54, 3) := by decide +kernel
theorem dX10_passTime_41 : decode cX10_passTime 41 = .ok (.aload_n 3, 1) := by decide +kernel
theorem dX10_passTime_42 : decode cX10_passTime 42 = .ok (.getfield 106, 3) := by decide +kernel
theorem dX10_passTime_45 : decode cX10_passTime 45 = .ok (.ifCond .eq 47, 3) := by decide +kernel
theorem dX10_passTime_48 : decode cX10_passTime 48 = .ok (.aload_n 3, 1) := by decide +kernel
theorem dX10_passTime_49 : decode cX10_passTime 49 = .ok (.getfield 132, 3) := by decide +kernel
theorem dX10_passTime_52 : decode cX10_passTime 52 = .ok (.iload 4, 2) := by decide +kernel
theorem dX10_passTime_54 : decode cX10_passTime 54 = .ok (.iaload, 1) := by decide +kernel
theorem dX10_passTime_55 : decode cX10_passTime 55 = .ok (.aload_n 0, 1) := by decide +kernel
theorem dX10_passTime_56 : decode cX10_passTime 56 = .ok (.getfield 12, 3) := by decide +kernel
theorem dX10_passTime_59 : decode cX10_passTime 59 = .ok (.getfield 129, 3) := by decide +kernel
theorem dX10_passTime_62 : decode cX10_passTime 62 = .ok (.if_icmp .ne 24, 3) := by decide +kernel
theorem dX10_passTime_65 : decode cX10_passTime 65 = .ok (.aload_n 3, 1) := by decide +kernel
theorem dX10_passTime_66 : decode cX10_passTime 66 = .ok (.getfield 132, 3) := by decide +kernel
theorem dX10_passTime_69 : decode cX10_passTime 69 = .ok (.iload 4, 2) := by decide +kernel
theorem dX10_passTime_71 : decode cX10_passTime 71 = .ok (.iconst 0, 1) := by decide +kernel
theorem dX10_passTime_72 : decode cX10_passTime 72 = .ok (.iastore, 1) := by decide +kernel
theorem dX10_passTime_73 : decode cX10_passTime 73 = .ok (.iinc 1 1, 3) := by decide +kernel
theorem dX10_passTime_76 : decode cX10_passTime 76 = .ok (.aload_n 3, 1) := by decide +kernel
theorem dX10_passTime_77 : decode cX10_passTime 77 = .ok (.iload 4, 2) := by decide +kernel
theorem dX10_passTime_79 : decode cX10_passTime 79 = .ok (.invokestatic 136, 3) := by decide +kernel
theorem dX10_passTime_82 : decode cX10_passTime 82 = .ok (.aload_n 3, 1) := by decide +kernel
theorem dX10_passTime_83 : decode cX10_passTime 83 = .ok (.invokestatic 85, 3) := by decide +kernel
theorem dX10_passTime_86 : decode cX10_passTime 86 = .ok (.iinc 4 1, 3) := by decide +kernel
theorem dX10_passTime_89 : decode cX10_passTime 89 = .ok (.goto (-54), 3) := by decide +kernel
theorem dX10_passTime_92 : decode cX10_passTime 92 = .ok (.iinc 2 1, 3) := by decide +kernel
theorem dX10_passTime_95 : decode cX10_passTime 95 = .ok (.goto (-78), 3) := by decide +kernel
theorem dX10_passTime_98 : decode cX10_passTime 98 = .ok (.iload_n 1, 1) := by decide +kernel
theorem dX10_passTime_99 : decode cX10_passTime 99 = .ok (.ireturn, 1) := by decide +kernel
theorem dX11_init_0 : decode cX11_init 0 = .ok (.aload_n 0, 1) := by decide +kernel
theorem dX11_init_1 : decode cX11_init 1 = .ok (.invokespecial 1, 3) := by decide +kernel
theorem dX11_init_4 : decode cX11_init 4 = .ok (.aload_n 0, 1) := by decide +kernel
theorem dX11_init_5 : decode cX11_init 5 = .ok (.sipush 1000, 3) := by decide +kernel
theorem dX11_init_8 : decode cX11_init 8 = .ok (.newarray .byte, 2) := by decide +kernel
theorem dX11_init_10 : decode cX11_init 10 = .ok (.putfield 9, 3) := by decide +kernel
theorem dX11_init_13 : decode cX11_init 13 = .ok (.aload_n 0, 1) := by decide +kernel
theorem dX11_init_14 : decode cX11_init 14 = .ok (.sipush 1024, 3) := by decide +kernel
theorem dX11_init_17 : decode cX11_init 17 = .ok (.newarray .byte, 2) := by decide +kernel
theorem dX11_init_19 : decode cX11_init 19 = .ok (.putfield 13, 3) := by decide +kernel
theorem dX11_init_22 : decode cX11_init 22 = .ok (.iload_n 1, 1) := by decide +kernel
theorem dX11_init_23 : decode cX11_init 23 = .ok (.iconst 1, 1) := by decide +kernel
theorem dX11_init_24 : decode cX11_init 24 = .ok (.if_icmp .lt 12, 3) := by decide +kernel
theorem dX11_init_27 : decode cX11_init 27 = .ok (.iload_n 1, 1) := by decide +kernel
theorem dX11_init_28 : decode cX11_init 28 = .ok (.iconst 4, 1) := by decide +kernel
theorem dX11_init_29 : decode cX11_init 29 = .ok (.if_icmp .gt 7, 3) := by decide +kernel
theorem dX11_init_32 : decode cX11_init 32 = .ok (.iload_n 1, 1) := by decide +kernel
theorem dX11_init_33 : decode cX11_init 33 = .ok (.goto 4, 3) := by decide +kernel
theorem dX11_init_36 : decode cX11_init 36 = .ok (.iconst 1, 1) := by decide +kernel
theorem dX11_init_37 : decode cX11_init 37 = .ok (.istore_n 3, 1) := by decide +kernel
theorem dX11_init_38 : decode cX11_init 38 = .ok (.aload_n 0, 1) := by decide +kernel
theorem dX11_init_39 : decode cX11_init 39 = .ok (.iload_n 3, 1) := by decide +kernel
theorem dX11_init_40 : decode cX11_init 40 = .ok (.iload_n 2, 1) := by decide +kernel
theorem dX11_init_41 : decode cX11_init 41 = .ok (.ifCond .lt 12, 3) := by decide +kernel
theorem dX11_init_44 : decode cX11_init 44 = .ok (.iload_n 2, 1) := by decide +kernel
theorem dX11_init_45 : decode cX11_init 45 = .ok (.iload_n 3, 1) := by decide +kernel
theorem dX11_init_46 : decode cX11_init 46 = .ok (.if_icmp .gt 7, 3) := by decide +kernel
theorem dX11_init_49 : decode cX11_init 49 = .ok (.iload_n 2, 1) := by decide +kernel
theorem dX11_init_50 : decode cX11_init 50 = .ok (.goto 4, 3) := by decide +kernel
theorem dX11_init_53 : decode cX11_init 53 = .ok (.iconst 0, 1) := by decide +kernel
theorem dX11_init_54 : decode cX11_init 54 = .ok (.invokestatic 16, 3) := by decide +kernel
theorem dX11_init_57 : decode cX11_init 57 = .ok (.putfield 22, 3) := by decide +kernel
theorem dX11_init_60 : decode cX11_init 60 = .ok (.return_, 1) := by decide +kernel
theorem dX11_feed_0 : decode cX11_feed 0 = .ok (.aload_n 0, 1) := by decide +kernel
theorem dX11_feed_1 : decode cX11_feed 1 = .ok (.getfield 26, 3) := by decide +kernel
theorem dX11_feed_4 : decode cX11_feed 4 = .ok (.bipush 20, 2) := by decide +kernel
theorem dX11_feed_6 : decode cX11_feed 6 = .ok (.iadd, 1) := by decide +kernel
theorem dX11_feed_7 : decode cX11_feed 7 = .ok (.sipush 1000, 3) := by decide +kernel
theorem dX11_feed_10 : decode cX11_feed 10 = .ok (.if_icmp .le 5, 3) := by decide +kernel
theorem dX11_feed_13 : decode cX11_feed 13 = .ok (.iconst 0, 1) := by decide +kernel
theorem dX11_feed_14 : decode cX11_feed 14 = .ok (.ireturn, 1) := by decide +kernel
theorem dX11_feed_15 : decode cX11_feed 15 = .ok (.aload_n 0, 1) := by decide +kernel
theorem dX11_feed_16 : decode cX11_feed 16 = .ok (.iload_n 1, 1) := by decide +kernel
theorem dX11_feed_17 : decode cX11_feed 17 = .ok (.invokevirtual 30, 3) := by decide +kernel
theorem dX11_feed_20 : decode cX11_feed 20 = .ok (.aload_n 0, 1) := by decide +kernel
theorem dX11_feed_21 : decode cX11_feed 21 = .ok (.iload_n 2, 1) := by decide +kernel
theorem dX11_feed_22 : decode cX11_feed 22 = .ok (.invokevirtual 30, 3) := by decide +kernel
theorem dX11_feed_25 : decode cX11_feed 25 = .ok (.aload_n 0, 1) := by decide +kernel
theorem dX11_feed_26 : decode cX11_feed 26 = .ok (.iload_n 3, 1) := by decide +kernel
theorem dX11_feed_27 : decode cX11_feed 27 = .ok (.invokevirtual 30, 3) := by decide +kernel
theorem dX11_feed_30 : decode cX11_feed 30 = .ok (.aload_n 0, 1) := by decide +kernel
theorem dX11_feed_31 : decode cX11_feed 31 = .ok (.iload 4, 2) := by decide +kernel
theorem dX11_feed_33 : decode cX11_feed 33 = .ok (.invokevirtual 30, 3) := by decide +kernel
theorem dX11_feed_36 : decode cX11_feed 36 = .ok (.aload_n 0, 1) := by decide +kernel
theorem dX11_feed_37 : decode cX11_feed 37 = .ok (.iload 5, 2) := by decide +kernel
theorem dX11_feed_39 : decode cX11_feed 39 = .ok (.invokevirtual 30, 3) := by decide +kernel
theorem dX11_feed_42 : decode cX11_feed 42 = .ok (.iconst 1, 1) := by decide +kernel
theorem dX11_feed_43 : decode cX11_feed 43 = .ok (.ireturn, 1) := by decide +kernel
theorem dX11_putInt_0 : decode cX11_putInt 0 = .ok (.bipush 24, 2) := by decide +kernel
theorem dX11_putInt_2 : decode cX11_putInt 2 = .ok (.istore_n 2, 1) := by decide +kernel
theorem dX11_putInt_3 : decode cX11_putInt 3 = .ok (.iload_n 2, 1) := by decide +kernel
theorem dX11_putInt_4 : decode cX11_putInt 4 = .ok (.ifCond .lt 42, 3) := by decide +kernel
theorem dX11_putInt_7 : decode cX11_putInt 7 = .ok (.aload_n 0, 1) := by decide +kernel
theorem dX11_putInt_8 : decode cX11_putInt 8 = .ok (.getfield 26, 3) := by decide +kernel
theorem dX11_putInt_11 : decode cX11_putInt 11 = .ok (.sipush 1000, 3) := by decide +kernel
theorem dX11_putInt_14 : decode cX11_putInt 14 = .ok (.if_icmp .ge 32, 3) := by decide +kernel
theorem dX11_putInt_17 : decode cX11_putInt 17 = .ok (.aload_n 0, 1) := by decide +kernel
theorem dX11_putInt_18 : decode cX11_putInt 18 = .ok (.getfield 9, 3) := by decide +kernel
theorem dX11_putInt_21 : decode cX11_putInt 21 = .ok (.aload_n 0, 1) := by decide +kernel
theorem dX11_putInt_22 : decode cX11_putInt 22 = .ok (.getfield 26, 3) := by decide +kernel
theorem dX11_putInt_25 : decode cX11_putInt 25 = .ok (.iload_n 1, 1) := by decide +kernel
theorem dX11_putInt_26 : decode cX11_putInt 26 = .ok (.iload_n 2, 1) := by decide +kernel
theorem dX11_putInt_27 : decode cX11_putInt 27 = .ok (.ishr, 1) := by decide +kernel
theorem dX11_putInt_28 : decode cX11_putInt 28 = .ok (.i2b, 1) := by decide +kernel
theorem dX11_putInt_29 : decode cX11_putInt 29 = .ok (.bastore, 1) := by decide +kernel
theorem dX11_putInt_30 : decode cX11_putInt 30 = .ok (.aload_n 0, 1) := by decide +kernel
theorem dX11_putInt_31 : decode cX11_putInt 31 = .ok (.dup, 1) := by decide +kernel
theorem dX11_putInt_32 : decode cX11_putInt 32 = .ok (.getfield 26, 3) := by decide +kernel
theorem dX11_putInt_35 : decode cX11_putInt 35 = .ok (.iconst 1, 1) := by decide +kernel
theorem dX11_putInt_36 : decode cX11_putInt 36 = .ok (.iadd, 1) := by decide +kernel
theorem dX11_putInt_37 : decode cX11_putInt 37 = .ok (.putfield 26, 3) := by decide +kernel
theorem dX11_putInt_40 : decode cX11_putInt 40 = .ok (.iinc 2 (-8), 3) := by decide +kernel
theorem dX11_putInt_43 : decode cX11_putInt 43 = .ok (.goto (-40), 3) := by decide +kernel
theorem dX11_putInt_46 : decode cX11_putInt 46 = .ok (.return_, 1) := by decide +kernel
theorem dX11_lie_0 : decode cX11_lie 0 = .ok (.aload_n 0, 1) := by decide +kernel
theorem dX11_lie_1 : decode cX11_lie 1 = .ok (.iload_n 1, 1) := by decide +kernel
theorem dX11_lie_2 : decode cX11_lie 2 = .ok (.iload_n 2, 1) := by decide +kernel
theorem dX11_lie_3 : decode cX11_lie 3 = .ok (.invokevirtual 34, 3) := by decide +kernel
theorem dX11_lie_6 : decode cX11_lie 6 = .ok (.ifCond .eq 16, 3) := by decide +kernel
theorem dX11_lie_9 : decode cX11_lie 9 = .ok (.iload_n 3, 1) := by decide +kernel
theorem dX11_lie_10 : decode cX11_lie 10 = .ok (.iconst 1, 1) := by decide +kernel
theorem dX11_lie_11 : decode cX11_lie 11 = .ok (.if_icmp .lt 11, 3) := by decide +kernel
theorem dX11_lie_14 : decode cX11_lie 14 = .ok (.iload_n 3, 1) := by decide +kernel
theorem dX11_lie_15 : decode cX11_lie 15 = .ok (.aload_n 0, 1) := by decide +kernel
theorem dX11_lie_16 : decode cX11_lie 16 = .ok (.getfield 26, 3) := by decide +kernel
theorem dX11_lie_19 : decode cX11_lie 19 = .ok (.if_icmp .le 5, 3) := by decide +kernel
theorem dX11_lie_22 : decode cX11_lie 22 = .ok (.iconst 0, 1) := by decide +kernel
theorem dX11_lie_23 : decode cX11_lie 23 = .ok (.ireturn, 1) := by decide +kernel
theorem dX11_lie_24 : decode cX11_lie 24 = .ok (.aload_n 0, 1) := by decide +kernel
theorem dX11_lie_25 : decode cX11_lie 25 = .ok (.getfield 22, 3) := by decide +kernel
theorem dX11_lie_28 : decode cX11_lie 28 = .ok (.getfield 38, 3) := by decide +kernel
theorem dX11_lie_31 : decode cX11_lie 31 = .ok (.iload_n 3, 1) := by decide +kernel
theorem dX11_lie_32 : decode cX11_lie 32 = .ok (.invokevirtual 42, 3) := by decide +kernel
theorem dX11_lie_35 : decode cX11_lie 35 = .ok (.astore 4, 2) := by decide +kernel
theorem dX11_lie_37 : decode cX11_lie 37 = .ok (.aload_n 0, 1) := by decide +kernel
theorem dX11_lie_38 : decode cX11_lie 38 = .ok (.getfield 9, 3) := by decide +kernel
theorem dX11_lie_41 : decode cX11_lie 41 = .ok (.iconst 0, 1) := by decide +kernel
theorem dX11_lie_42 : decode cX11_lie 42 = .ok (.aload 4, 2) := by decide +kernel
theorem dX11_lie_44 : decode cX11_lie 44 = .ok (.getfield 48, 3) := by decide +kernel
theorem dX11_lie_47 : decode cX11_lie 47 = .ok (.iconst 0, 1) := by decide +kernel
theorem dX11_lie_48 : decode cX11_lie 48 = .ok (.iload_n 3, 1) := by decide +kernel
theorem dX11_lie_49 : decode cX11_lie 49 = .ok (.invokestatic 53, 3) := by decide +kernel
theorem dX11_lie_52 : decode cX11_lie 52 = .ok (.aload_n 0, 1) := by decide +kernel
theorem dX11_lie_53 : decode cX11_lie 53 = .ok (.getfield 22, 3) := by decide +kernel
theorem dX11_lie_56 : decode cX11_lie 56 = .ok (.getfield 59, 3) := by decide +kernel
theorem dX11_lie_59 : decode cX11_lie 59 = .ok (.aload 4, 2) := by decide +kernel
theorem dX11_lie_61 : decode cX11_lie 61 = .ok (.invokevirtual 63, 3) := by decide +kernel
theorem dX11_lie_64 : decode cX11_lie 64 = .ok (.ifCond .eq 29, 3) := by decide +kernel
theorem dX11_lie_67 : decode cX11_lie 67 = .ok (.aload_n 0, 1) := by decide +kernel
theorem dX11_lie_68 : decode cX11_lie 68 = .ok (.getfield 22, 3) := by decide +kernel
theorem dX11_lie_71 : decode cX11_lie 71 = .ok (.getfield 59, 3) := by decide +kernel
theorem dX11_lie_74 : decode cX11_lie 74 = .ok (.aload 4, 2) := by decide +kernel
theorem dX11_lie_76 : decode cX11_lie 76 = .ok (.aload_n 0, 1) := by decide +kernel
theorem dX11_lie_77 : decode cX11_lie 77 = .ok (.getfield 22, 3) := by decide +kernel
theorem dX11_lie_80 : decode cX11_lie 80 = .ok (.getfield 69, 3) := by decide +kernel
theorem dX11_lie_83 : decode cX11_lie 83 = .ok (.invokevirtual 72, 3) := by decide +kernel
theorem dX11_lie_86 : decode cX11_lie 86 = .ok (.ifCond .eq 7, 3) := by decide +kernel
theorem dX11_lie_89 : decode cX11_lie 89 = .ok (.iconst 1, 1) := by decide +kernel
theorem dX11_lie_90 : decode cX11_lie 90 = .ok (.goto 4, 3) := by decide +kernel
theorem dX11_lie_93 : decode cX11_lie 93 = .ok (.iconst 0, 1) := by decide +kernel
theorem dX11_lie_94 : decode cX11_lie 94 = .ok (.istore 5, 2) := by decide +kernel
theorem dX11_lie_96 : decode cX11_lie 96 = .ok (.iload 5, 2) := by decide +kernel
theorem dX11_lie_98 : decode cX11_lie 98 = .ok (.ifCond .ne 22, 3) := by decide +kernel
theorem dX11_lie_101 : decode cX11_lie 101 = .ok (.aload_n 0, 1) := by decide +kernel
theorem dX11_lie_102 : decode cX11_lie 102 = .ok (.getfield 22, 3) := by decide +kernel
theorem dX11_lie_105 : decode cX11_lie 105 = .ok (.getfield 38, 3) := by decide +kernel
theorem dX11_lie_108 : decode cX11_lie 108 = .ok (.iload_n 1, 1) := by decide +kernel
theorem dX11_lie_109 : decode cX11_lie 109 = .ok (.iload_n 2, 1) := by decide +kernel
theorem dX11_lie_110 : decode cX11_lie 110 = .ok (.aload 4, 2) := by decide +kernel
theorem dX11_lie_112 : decode cX11_lie 112 = .ok (.invokevirtual 76, 3) := by decide +kernel
theorem dX11_lie_115 : decode cX11_lie 115 = .ok (.aload_n 0, 1) := by decide +kernel
theorem dX11_lie_116 : decode cX11_lie 116 = .ok (.iconst 0, 1) := by decide +kernel
theorem dX11_lie_117 : decode cX11_lie 117 = .ok (.putfield 26, 3) := by decide +kernel
theorem dX11_lie_120 : decode cX11_lie 120 = .ok (.aload_n 0, 1) := by decide +kernel
theorem dX11_lie_121 : decode cX11_lie 121 = .ok (.getfield 22, 3) := by decide +kernel
theorem dX11_lie_124 : decode cX11_lie 124 = .ok (.getfield 38, 3) := by decide +kernel
theorem dX11_lie_127 : decode cX11_lie 127 = .ok (.aload 4, 2) := by decide +kernel
theorem dX11_lie_129 : decode cX11_lie 129 = .ok (.invokevirtual 80, 3) := by decide +kernel
theorem dX11_lie_132 : decode cX11_lie 132 = .ok (.iload 5, 2) := by decide +kernel
theorem dX11_lie_134 : decode cX11_lie 134 = .ok (.ifCond .ne 7, 3) := by decide +kernel
theorem dX11_lie_137 : decode cX11_lie 137 = .ok (.iconst 1, 1) := by decide +kernel
