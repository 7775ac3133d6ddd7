theorem dX2_giveLoansBack_0 : decode cX2_giveLoansBack 0 = .ok (.iconst 0, 1) := by decide +kernel
theorem dX2_giveLoansBack_1 : decode cX2_giveLoansBack 1 = .ok (.istore_n 1, 1) := by decide +kernel
theorem dX2_giveLoansBack_2 : decode cX2_giveLoansBack 2 = .ok (.iload_n 1, 1) := by decide +kernel
theorem dX2_giveLoansBack_3 : decode cX2_giveLoansBack 3 = .ok (.aload_n 0, 1) := by decide +kernel
theorem dX2_giveLoansBack_4 : decode cX2_giveLoansBack 4 = .ok (.getfield 22, 3) := by decide +kernel
theorem dX2_giveLoansBack_7 : decode cX2_giveLoansBack 7 = .ok (.getfield 178, 3) := by decide +kernel
theorem dX2_giveLoansBack_10 : decode cX2_giveLoansBack 10 = .ok (.if_icmp .ge 94, 3) := by decide +kernel
theorem dX2_giveLoansBack_13 : decode cX2_giveLoansBack 13 = .ok (.aload_n 0, 1) := by decide +kernel
theorem dX2_giveLoansBack_14 : decode cX2_giveLoansBack 14 = .ok (.getfield 22, 3) := by decide +kernel
theorem dX2_giveLoansBack_17 : decode cX2_giveLoansBack 17 = .ok (.iload_n 1, 1) := by decide +kernel
theorem dX2_giveLoansBack_18 : decode cX2_giveLoansBack 18 = .ok (.invokevirtual 181, 3) := by decide +kernel
theorem dX2_giveLoansBack_21 : decode cX2_giveLoansBack 21 = .ok (.astore_n 2, 1) := by decide +kernel
theorem dX2_giveLoansBack_22 : decode cX2_giveLoansBack 22 = .ok (.aload_n 0, 1) := by decide +kernel
theorem dX2_giveLoansBack_23 : decode cX2_giveLoansBack 23 = .ok (.getfield 22, 3) := by decide +kernel
theorem dX2_giveLoansBack_26 : decode cX2_giveLoansBack 26 = .ok (.aload_n 2, 1) := by decide +kernel
theorem dX2_giveLoansBack_27 : decode cX2_giveLoansBack 27 = .ok (.getfield 185, 3) := by decide +kernel
theorem dX2_giveLoansBack_30 : decode cX2_giveLoansBack 30 = .ok (.invokevirtual 190, 3) := by decide +kernel
theorem dX2_giveLoansBack_33 : decode cX2_giveLoansBack 33 = .ok (.astore_n 3, 1) := by decide +kernel
theorem dX2_giveLoansBack_34 : decode cX2_giveLoansBack 34 = .ok (.aload_n 2, 1) := by decide +kernel
theorem dX2_giveLoansBack_35 : decode cX2_giveLoansBack 35 = .ok (.getfield 194, 3) := by decide +kernel
theorem dX2_giveLoansBack_38 : decode cX2_giveLoansBack 38 = .ok (.ifCond .ne 60, 3) := by decide +kernel
theorem dX2_giveLoansBack_41 : decode cX2_giveLoansBack 41 = .ok (.aload_n 3, 1) := by decide +kernel
theorem dX2_giveLoansBack_42 : decode cX2_giveLoansBack 42 = .ok (.aload_n 2, 1) := by decide +kernel
theorem dX2_giveLoansBack_43 : decode cX2_giveLoansBack 43 = .ok (.getfield 197, 3) := by decide +kernel
theorem dX2_giveLoansBack_46 : decode cX2_giveLoansBack 46 = .ok (.invokevirtual 198, 3) := by decide +kernel
theorem dX2_giveLoansBack_49 : decode cX2_giveLoansBack 49 = .ok (.aload_n 2, 1) := by decide +kernel
theorem dX2_giveLoansBack_50 : decode cX2_giveLoansBack 50 = .ok (.getfield 204, 3) := by decide +kernel
theorem dX2_giveLoansBack_53 : decode cX2_giveLoansBack 53 = .ok (.lcmp, 1) := by decide +kernel
theorem dX2_giveLoansBack_54 : decode cX2_giveLoansBack 54 = .ok (.ifCond .lt 44, 3) := by decide +kernel
theorem dX2_giveLoansBack_57 : decode cX2_giveLoansBack 57 = .ok (.aload_n 0, 1) := by decide +kernel
theorem dX2_giveLoansBack_58 : decode cX2_giveLoansBack 58 = .ok (.getfield 22, 3) := by decide +kernel
theorem dX2_giveLoansBack_61 : decode cX2_giveLoansBack 61 = .ok (.aload_n 2, 1) := by decide +kernel
theorem dX2_giveLoansBack_62 : decode cX2_giveLoansBack 62 = .ok (.getfield 185, 3) := by decide +kernel
theorem dX2_giveLoansBack_65 : decode cX2_giveLoansBack 65 = .ok (.aload_n 2, 1) := by decide +kernel
theorem dX2_giveLoansBack_66 : decode cX2_giveLoansBack 66 = .ok (.getfield 205, 3) := by decide +kernel
theorem dX2_giveLoansBack_69 : decode cX2_giveLoansBack 69 = .ok (.aload_n 2, 1) := by decide +kernel
theorem dX2_giveLoansBack_70 : decode cX2_giveLoansBack 70 = .ok (.getfield 197, 3) := by decide +kernel
theorem dX2_giveLoansBack_73 : decode cX2_giveLoansBack 73 = .ok (.aload_n 2, 1) := by decide +kernel
theorem dX2_giveLoansBack_74 : decode cX2_giveLoansBack 74 = .ok (.getfield 204, 3) := by decide +kernel
theorem dX2_giveLoansBack_77 : decode cX2_giveLoansBack 77 = .ok (.invokevirtual 208, 3) := by decide +kernel
theorem dX2_giveLoansBack_80 : decode cX2_giveLoansBack 80 = .ok (.aload_n 3, 1) := by decide +kernel
theorem dX2_giveLoansBack_81 : decode cX2_giveLoansBack 81 = .ok (.dup, 1) := by decide +kernel
theorem dX2_giveLoansBack_82 : decode cX2_giveLoansBack 82 = .ok (.getfield 212, 3) := by decide +kernel
theorem dX2_giveLoansBack_85 : decode cX2_giveLoansBack 85 = .ok (.aload_n 2, 1) := by decide +kernel
theorem dX2_giveLoansBack_86 : decode cX2_giveLoansBack 86 = .ok (.getfield 215, 3) := by decide +kernel
theorem dX2_giveLoansBack_89 : decode cX2_giveLoansBack 89 = .ok (.lsub, 1) := by decide +kernel
theorem dX2_giveLoansBack_90 : decode cX2_giveLoansBack 90 = .ok (.putfield 212, 3) := by decide +kernel
theorem dX2_giveLoansBack_93 : decode cX2_giveLoansBack 93 = .ok (.aload_n 2, 1) := by decide +kernel
theorem dX2_giveLoansBack_94 : decode cX2_giveLoansBack 94 = .ok (.iconst 1, 1) := by decide +kernel
theorem dX2_giveLoansBack_95 : decode cX2_giveLoansBack 95 = .ok (.putfield 194, 3) := by decide +kernel
theorem dX2_giveLoansBack_98 : decode cX2_giveLoansBack 98 = .ok (.iinc 1 1, 3) := by decide +kernel
theorem dX2_giveLoansBack_101 : decode cX2_giveLoansBack 101 = .ok (.goto (-99), 3) := by decide +kernel
theorem dX2_giveLoansBack_104 : decode cX2_giveLoansBack 104 = .ok (.return_, 1) := by decide +kernel
theorem dX2_settleBestSet_0 : decode cX2_settleBestSet 0 = .ok (.iconst 0, 1) := by decide +kernel
theorem dX2_settleBestSet_1 : decode cX2_settleBestSet 1 = .ok (.istore_n 1, 1) := by decide +kernel
theorem dX2_settleBestSet_2 : decode cX2_settleBestSet 2 = .ok (.iload_n 1, 1) := by decide +kernel
theorem dX2_settleBestSet_3 : decode cX2_settleBestSet 3 = .ok (.aload_n 0, 1) := by decide +kernel
theorem dX2_settleBestSet_4 : decode cX2_settleBestSet 4 = .ok (.getfield 37, 3) := by decide +kernel
theorem dX2_settleBestSet_7 : decode cX2_settleBestSet 7 = .ok (.if_icmp .ge 37, 3) := by decide +kernel
theorem dX2_settleBestSet_10 : decode cX2_settleBestSet 10 = .ok (.aload_n 0, 1) := by decide +kernel
theorem dX2_settleBestSet_11 : decode cX2_settleBestSet 11 = .ok (.iload_n 1, 1) := by decide +kernel
theorem dX2_settleBestSet_12 : decode cX2_settleBestSet 12 = .ok (.invokevirtual 41, 3) := by decide +kernel
theorem dX2_settleBestSet_15 : decode cX2_settleBestSet 15 = .ok (.astore_n 2, 1) := by decide +kernel
theorem dX2_settleBestSet_16 : decode cX2_settleBestSet 16 = .ok (.aload_n 2, 1) := by decide +kernel
theorem dX2_settleBestSet_17 : decode cX2_settleBestSet 17 = .ok (.getfield 105, 3) := by decide +kernel
theorem dX2_settleBestSet_20 : decode cX2_settleBestSet 20 = .ok (.aload_n 0, 1) := by decide +kernel
theorem dX2_settleBestSet_21 : decode cX2_settleBestSet 21 = .ok (.getfield 72, 3) := by decide +kernel
theorem dX2_settleBestSet_24 : decode cX2_settleBestSet 24 = .ok (.invokestatic 151, 3) := by decide +kernel
theorem dX2_settleBestSet_27 : decode cX2_settleBestSet 27 = .ok (.ifCond .eq 11, 3) := by decide +kernel
theorem dX2_settleBestSet_30 : decode cX2_settleBestSet 30 = .ok (.aload_n 0, 1) := by decide +kernel
theorem dX2_settleBestSet_31 : decode cX2_settleBestSet 31 = .ok (.getfield 22, 3) := by decide +kernel
theorem dX2_settleBestSet_34 : decode cX2_settleBestSet 34 = .ok (.aload_n 2, 1) := by decide +kernel
theorem dX2_settleBestSet_35 : decode cX2_settleBestSet 35 = .ok (.invokevirtual 216, 3) := by decide +kernel
theorem dX2_settleBestSet_38 : decode cX2_settleBestSet 38 = .ok (.iinc 1 1, 3) := by decide +kernel
theorem dX2_settleBestSet_41 : decode cX2_settleBestSet 41 = .ok (.goto (-39), 3) := by decide +kernel
theorem dX2_settleBestSet_44 : decode cX2_settleBestSet 44 = .ok (.aload_n 0, 1) := by decide +kernel
theorem dX2_settleBestSet_45 : decode cX2_settleBestSet 45 = .ok (.getfield 75, 3) := by decide +kernel
theorem dX2_settleBestSet_48 : decode cX2_settleBestSet 48 = .ok (.ireturn, 1) := by decide +kernel
theorem dX2_settleByLoans_0 : decode cX2_settleByLoans 0 = .ok (.iconst 0, 1) := by decide +kernel
theorem dX2_settleByLoans_1 : decode cX2_settleByLoans 1 = .ok (.istore_n 1, 1) := by decide +kernel
theorem dX2_settleByLoans_2 : decode cX2_settleByLoans 2 = .ok (.iconst 0, 1) := by decide +kernel
theorem dX2_settleByLoans_3 : decode cX2_settleByLoans 3 = .ok (.istore_n 2, 1) := by decide +kernel
theorem dX2_settleByLoans_4 : decode cX2_settleByLoans 4 = .ok (.iload_n 2, 1) := by decide +kernel
theorem dX2_settleByLoans_5 : decode cX2_settleByLoans 5 = .ok (.aload_n 0, 1) := by decide +kernel
theorem dX2_settleByLoans_6 : decode cX2_settleByLoans 6 = .ok (.getfield 37, 3) := by decide +kernel
theorem dX2_settleByLoans_9 : decode cX2_settleByLoans 9 = .ok (.if_icmp .ge 56, 3) := by decide +kernel
theorem dX2_settleByLoans_12 : decode cX2_settleByLoans 12 = .ok (.aload_n 0, 1) := by decide +kernel
theorem dX2_settleByLoans_13 : decode cX2_settleByLoans 13 = .ok (.iload_n 2, 1) := by decide +kernel
theorem dX2_settleByLoans_14 : decode cX2_settleByLoans 14 = .ok (.invokevirtual 41, 3) := by decide +kernel
theorem dX2_settleByLoans_17 : decode cX2_settleByLoans 17 = .ok (.astore_n 3, 1) := by decide +kernel
theorem dX2_settleByLoans_18 : decode cX2_settleByLoans 18 = .ok (.aload_n 3, 1) := by decide +kernel
theorem dX2_settleByLoans_19 : decode cX2_settleByLoans 19 = .ok (.getfield 166, 3) := by decide +kernel
theorem dX2_settleByLoans_22 : decode cX2_settleByLoans 22 = .ok (.iconst 1, 1) := by decide +kernel
theorem dX2_settleByLoans_23 : decode cX2_settleByLoans 23 = .ok (.if_icmp .ne 36, 3) := by decide +kernel
theorem dX2_settleByLoans_26 : decode cX2_settleByLoans 26 = .ok (.aload_n 0, 1) := by decide +kernel
theorem dX2_settleByLoans_27 : decode cX2_settleByLoans 27 = .ok (.getfield 22, 3) := by decide +kernel
theorem dX2_settleByLoans_30 : decode cX2_settleByLoans 30 = .ok (.aload_n 3, 1) := by decide +kernel
theorem dX2_settleByLoans_31 : decode cX2_settleByLoans 31 = .ok (.invokevirtual 219, 3) := by decide +kernel
theorem dX2_settleByLoans_34 : decode cX2_settleByLoans 34 = .ok (.ifCond .eq 25, 3) := by decide +kernel
theorem dX2_settleByLoans_37 : decode cX2_settleByLoans 37 = .ok (.aload_n 0, 1) := by decide +kernel
theorem dX2_settleByLoans_38 : decode cX2_settleByLoans 38 = .ok (.getfield 22, 3) := by decide +kernel
theorem dX2_settleByLoans_41 : decode cX2_settleByLoans 41 = .ok (.aload_n 3, 1) := by decide +kernel
theorem dX2_settleByLoans_42 : decode cX2_settleByLoans 42 = .ok (.invokevirtual 222, 3) := by decide +kernel
theorem dX2_settleByLoans_45 : decode cX2_settleByLoans 45 = .ok (.ifCond .ne 14, 3) := by decide +kernel
theorem dX2_settleByLoans_48 : decode cX2_settleByLoans 48 = .ok (.aload_n 0, 1) := by decide +kernel
theorem dX2_settleByLoans_49 : decode cX2_settleByLoans 49 = .ok (.aload_n 3, 1) := by decide +kernel
theorem dX2_settleByLoans_50 : decode cX2_settleByLoans 50 = .ok (.invokevirtual 225, 3) := by decide +kernel
theorem dX2_settleByLoans_53 : decode cX2_settleByLoans 53 = .ok (.ifCond .eq 6, 3) := by decide +kernel
theorem dX2_settleByLoans_56 : decode cX2_settleByLoans 56 = .ok (.iinc 1 1, 3) := by decide +kernel
theorem dX2_settleByLoans_59 : decode cX2_settleByLoans 59 = .ok (.iinc 2 1, 3) := by decide +kernel
theorem dX2_settleByLoans_62 : decode cX2_settleByLoans 62 = .ok (.goto (-58), 3) := by decide +kernel
theorem dX2_settleByLoans_65 : decode cX2_settleByLoans 65 = .ok (.iload_n 1, 1) := by decide +kernel
theorem dX2_settleByLoans_66 : decode cX2_settleByLoans 66 = .ok (.ireturn, 1) := by decide +kernel
theorem dX2_settleByLoan_0 : decode cX2_settleByLoan 0 = .ok (.aload_n 0, 1) := by decide +kernel
theorem dX2_settleByLoan_1 : decode cX2_settleByLoan 1 = .ok (.aload_n 1, 1) := by decide +kernel
theorem dX2_settleByLoan_2 : decode cX2_settleByLoan 2 = .ok (.invokevirtual 228, 3) := by decide +kernel
theorem dX2_settleByLoan_5 : decode cX2_settleByLoan 5 = .ok (.aload_n 0, 1) := by decide +kernel
theorem dX2_settleByLoan_6 : decode cX2_settleByLoan 6 = .ok (.getfield 22, 3) := by decide +kernel
theorem dX2_settleByLoan_9 : decode cX2_settleByLoan 9 = .ok (.aload_n 1, 1) := by decide +kernel
theorem dX2_settleByLoan_10 : decode cX2_settleByLoan 10 = .ok (.getfield 169, 3) := by decide +kernel
theorem dX2_settleByLoan_13 : decode cX2_settleByLoan 13 = .ok (.invokevirtual 190, 3) := by decide +kernel
theorem dX2_settleByLoan_16 : decode cX2_settleByLoan 16 = .ok (.astore_n 2, 1) := by decide +kernel
theorem dX2_settleByLoan_17 : decode cX2_settleByLoan 17 = .ok (.aload_n 1, 1) := by decide +kernel
theorem dX2_settleByLoan_18 : decode cX2_settleByLoan 18 = .ok (.getfield 122, 3) := by decide +kernel
theorem dX2_settleByLoan_21 : decode cX2_settleByLoan 21 = .ok (.aload_n 2, 1) := by decide +kernel
theorem dX2_settleByLoan_22 : decode cX2_settleByLoan 22 = .ok (.aload_n 1, 1) := by decide +kernel
theorem dX2_settleByLoan_23 : decode cX2_settleByLoan 23 = .ok (.getfield 119, 3) := by decide +kernel
theorem dX2_settleByLoan_26 : decode cX2_settleByLoan 26 = .ok (.invokevirtual 198, 3) := by decide +kernel
theorem dX2_settleByLoan_29 : decode cX2_settleByLoan 29 = .ok (.lsub, 1) := by decide +kernel
theorem dX2_settleByLoan_30 : decode cX2_settleByLoan 30 = .ok (.lstore_n 3, 1) := by decide +kernel
theorem dX2_settleByLoan_31 : decode cX2_settleByLoan 31 = .ok (.iconst 0, 1) := by decide +kernel
theorem dX2_settleByLoan_32 : decode cX2_settleByLoan 32 = .ok (.istore 5, 2) := by decide +kernel
theorem dX2_settleByLoan_34 : decode cX2_settleByLoan 34 = .ok (.iconst 0, 1) := by decide +kernel
theorem dX2_settleByLoan_35 : decode cX2_settleByLoan 35 = .ok (.istore 6, 2) := by decide +kernel
theorem dX2_settleByLoan_37 : decode cX2_settleByLoan 37 = .ok (.iload 6, 2) := by decide +kernel
theorem dX2_settleByLoan_39 : decode cX2_settleByLoan 39 = .ok (.aload_n 0, 1) := by decide +kernel
theorem dX2_settleByLoan_40 : decode cX2_settleByLoan 40 = .ok (.getfield 19, 3) := by decide +kernel
theorem dX2_settleByLoan_43 : decode cX2_settleByLoan 43 = .ok (.arraylength, 1) := by decide +kernel
theorem dX2_settleByLoan_44 : decode cX2_settleByLoan 44 = .ok (.if_icmp .ge 31, 3) := by decide +kernel
theorem dX2_settleByLoan_47 : decode cX2_settleByLoan 47 = .ok (.iload 5, 2) := by decide +kernel
theorem dX2_settleByLoan_49 : decode cX2_settleByLoan 49 = .ok (.aload_n 0, 1) := by decide +kernel
theorem dX2_settleByLoan_50 : decode cX2_settleByLoan 50 = .ok (.getfield 19, 3) := by decide +kernel
theorem dX2_settleByLoan_53 : decode cX2_settleByLoan 53 = .ok (.iload 6, 2) := by decide +kernel
theorem dX2_settleByLoan_55 : decode cX2_settleByLoan 55 = .ok (.laload, 1) := by decide +kernel
theorem dX2_settleByLoan_56 : decode cX2_settleByLoan 56 = .ok (.lconst 0, 1) := by decide +kernel
theorem dX2_settleByLoan_57 : decode cX2_settleByLoan 57 = .ok (.lcmp, 1) := by decide +kernel
theorem dX2_settleByLoan_58 : decode cX2_settleByLoan 58 = .ok (.ifCond .le 7, 3) := by decide +kernel
theorem dX2_settleByLoan_61 : decode cX2_settleByLoan 61 = .ok (.iconst 1, 1) := by decide +kernel
theorem dX2_settleByLoan_62 : decode cX2_settleByLoan 62 = .ok (.goto 4, 3) := by decide +kernel
theorem dX2_settleByLoan_65 : decode cX2_settleByLoan 65 = .ok (.iconst 0, 1) := by decide +kernel
theorem dX2_settleByLoan_66 : decode cX2_settleByLoan 66 = .ok (.iadd, 1) := by decide +kernel
theorem dX2_settleByLoan_67 : decode cX2_settleByLoan 67 = .ok (.istore 5, 2) := by decide +kernel
theorem dX2_settleByLoan_69 : decode cX2_settleByLoan 69 = .ok (.iinc 6 1, 3) := by decide +kernel
theorem dX2_settleByLoan_72 : decode cX2_settleByLoan 72 = .ok (.goto (-35), 3) := by decide +kernel
theorem dX2_settleByLoan_75 : decode cX2_settleByLoan 75 = .ok (.aload_n 0, 1) := by decide +kernel
theorem dX2_settleByLoan_76 : decode cX2_settleByLoan 76 = .ok (.getfield 19, 3) := by decide +kernel
theorem dX2_settleByLoan_79 : decode cX2_settleByLoan 79 = .ok (.invokestatic 231, 3) := by decide +kernel
theorem dX2_settleByLoan_82 : decode cX2_settleByLoan 82 = .ok (.lload_n 3, 1) := by decide +kernel
theorem dX2_settleByLoan_83 : decode cX2_settleByLoan 83 = .ok (.lcmp, 1) := by decide +kernel
theorem dX2_settleByLoan_84 : decode cX2_settleByLoan 84 = .ok (.ifCond .lt 18, 3) := by decide +kernel
theorem dX2_settleByLoan_87 : decode cX2_settleByLoan 87 = .ok (.aload_n 0, 1) := by decide +kernel
theorem dX2_settleByLoan_88 : decode cX2_settleByLoan 88 = .ok (.getfield 22, 3) := by decide +kernel
theorem dX2_settleByLoan_91 : decode cX2_settleByLoan 91 = .ok (.getfield 178, 3) := by decide +kernel
theorem dX2_settleByLoan_94 : decode cX2_settleByLoan 94 = .ok (.iload 5, 2) := by decide +kernel
theorem dX2_settleByLoan_96 : decode cX2_settleByLoan 96 = .ok (.iadd, 1) := by decide +kernel
theorem dX2_settleByLoan_97 : decode cX2_settleByLoan 97 = .ok (.bipush 20, 2) := by decide +kernel
theorem dX2_settleByLoan_99 : decode cX2_settleByLoan 99 = .ok (.if_icmp .le 5, 3) := by decide +kernel
theorem dX2_settleByLoan_102 : decode cX2_settleByLoan 102 = .ok (.iconst 0, 1) := by decide +kernel
theorem dX2_settleByLoan_103 : decode cX2_settleByLoan 103 = .ok (.ireturn, 1) := by decide +kernel
theorem dX2_settleByLoan_104 : decode cX2_settleByLoan 104 = .ok (.aload_n 0, 1) := by decide +kernel
theorem dX2_settleByLoan_105 : decode cX2_settleByLoan 105 = .ok (.aload_n 1, 1) := by decide +kernel
theorem dX2_settleByLoan_106 : decode cX2_settleByLoan 106 = .ok (.iconst 1, 1) := by decide +kernel
theorem dX2_settleByLoan_107 : decode cX2_settleByLoan 107 = .ok (.invokevirtual 235, 3) := by decide +kernel
theorem dX2_settleByLoan_110 : decode cX2_settleByLoan 110 = .ok (.aload_n 0, 1) := by decide +kernel
theorem dX2_settleByLoan_111 : decode cX2_settleByLoan 111 = .ok (.getfield 22, 3) := by decide +kernel
theorem dX2_settleByLoan_114 : decode cX2_settleByLoan 114 = .ok (.aload_n 1, 1) := by decide +kernel
theorem dX2_settleByLoan_115 : decode cX2_settleByLoan 115 = .ok (.aload_n 1, 1) := by decide +kernel
theorem dX2_settleByLoan_116 : decode cX2_settleByLoan 116 = .ok (.getfield 122, 3) := by decide +kernel
theorem dX2_settleByLoan_119 : decode cX2_settleByLoan 119 = .ok (.aload_n 1, 1) := by decide +kernel
theorem dX2_settleByLoan_120 : decode cX2_settleByLoan 120 = .ok (.getfield 116, 3) := by decide +kernel
theorem dX2_settleByLoan_123 : decode cX2_settleByLoan 123 = .ok (.invokevirtual 128, 3) := by decide +kernel
theorem dX2_settleByLoan_126 : decode cX2_settleByLoan 126 = .ok (.aload_n 0, 1) := by decide +kernel
theorem dX2_settleByLoan_127 : decode cX2_settleByLoan 127 = .ok (.getfield 22, 3) := by decide +kernel
theorem dX2_settleByLoan_130 : decode cX2_settleByLoan 130 = .ok (.aload_n 1, 1) := by decide +kernel
theorem dX2_settleByLoan_131 : decode cX2_settleByLoan 131 = .ok (.getfield 169, 3) := by decide +kernel
theorem dX2_settleByLoan_134 : decode cX2_settleByLoan 134 = .ok (.invokevirtual 172, 3) := by decide +kernel
theorem dX2_settleByLoan_137 : decode cX2_settleByLoan 137 = .ok (.ifCond .eq 28, 3) := by decide +kernel
theorem dX2_settleByLoan_140 : decode cX2_settleByLoan 140 = .ok (.aload_n 0, 1) := by decide +kernel
theorem dX2_settleByLoan_141 : decode cX2_settleByLoan 141 = .ok (.getfield 22, 3) := by decide +kernel
theorem dX2_settleByLoan_144 : decode cX2_settleByLoan 144 = .ok (.aload_n 1, 1) := by decide +kernel
theorem dX2_settleByLoan_145 : decode cX2_settleByLoan 145 = .ok (.getfield 175, 3) := by decide +kernel
theorem dX2_settleByLoan_148 : decode cX2_settleByLoan 148 = .ok (.invokevirtual 172, 3) := by decide +kernel
theorem dX2_settleByLoan_151 : decode cX2_settleByLoan 151 = .ok (.ifCond .eq 14, 3) := by decide +kernel
theorem dX2_settleByLoan_154 : decode cX2_settleByLoan 154 = .ok (.aload_n 0, 1) := by decide +kernel
theorem dX2_settleByLoan_155 : decode cX2_settleByLoan 155 = .ok (.invokevirtual 239, 3) := by decide +kernel
theorem dX2_settleByLoan_158 : decode cX2_settleByLoan 158 = .ok (.ifCond .eq 7, 3) := by decide +kernel
theorem dX2_settleByLoan_161 : decode cX2_settleByLoan 161 = .ok (.iconst 1, 1) := by decide +kernel
theorem dX2_settleByLoan_162 : decode cX2_settleByLoan 162 = .ok (.goto 4, 3) := by decide +kernel
theorem dX2_settleByLoan_165 : decode cX2_settleByLoan 165 = .ok (.iconst 0, 1) := by decide +kernel
theorem dX2_settleByLoan_166 : decode cX2_settleByLoan 166 = .ok (.istore 6, 2) := by decide +kernel
theorem dX2_settleByLoan_168 : decode cX2_settleByLoan 168 = .ok (.aload_n 0, 1) := by decide +kernel
theorem dX2_settleByLoan_169 : decode cX2_settleByLoan 169 = .ok (.getfield 22, 3) := by decide +kernel
theorem dX2_settleByLoan_172 : decode cX2_settleByLoan 172 = .ok (.aload_n 1, 1) := by decide +kernel
theorem dX2_settleByLoan_173 : decode cX2_settleByLoan 173 = .ok (.aload_n 1, 1) := by decide +kernel
theorem dX2_settleByLoan_174 : decode cX2_settleByLoan 174 = .ok (.getfield 122, 3) := by decide +kernel
theorem dX2_settleByLoan_177 : decode cX2_settleByLoan 177 = .ok (.lneg, 1) := by decide +kernel
theorem dX2_settleByLoan_178 : decode cX2_settleByLoan 178 = .ok (.aload_n 1, 1) := by decide +kernel
theorem dX2_settleByLoan_179 : decode cX2_settleByLoan 179 = .ok (.getfield 116, 3) := by decide +kernel
theorem dX2_settleByLoan_182 : decode cX2_settleByLoan 182 = .ok (.lneg, 1) := by decide +kernel
theorem dX2_settleByLoan_183 : decode cX2_settleByLoan 183 = .ok (.invokevirtual 128, 3) := by decide +kernel
theorem dX2_settleByLoan_186 : decode cX2_settleByLoan 186 = .ok (.aload_n 0, 1) := by decide +kernel
theorem dX2_settleByLoan_187 : decode cX2_settleByLoan 187 = .ok (.aload_n 1, 1) := by decide +kernel
theorem dX2_settleByLoan_188 : decode cX2_settleByLoan 188 = .ok (.iconst (-1), 1) := by decide +kernel
theorem dX2_settleByLoan_189 : decode cX2_settleByLoan 189 = .ok (.invokevirtual 235, 3) := by decide +kernel
theorem dX2_settleByLoan_192 : decode cX2_settleByLoan 192 = .ok (.iload 6, 2) := by decide +kernel
theorem dX2_settleByLoan_194 : decode cX2_settleByLoan 194 = .ok (.ifCond .eq 16, 3) := by decide +kernel
theorem dX2_settleByLoan_197 : decode cX2_settleByLoan 197 = .ok (.aload_n 0, 1) := by decide +kernel
theorem dX2_settleByLoan_198 : decode cX2_settleByLoan 198 = .ok (.aload_n 1, 1) := by decide +kernel
theorem dX2_settleByLoan_199 : decode cX2_settleByLoan 199 = .ok (.invokevirtual 242, 3) := by decide +kernel
theorem dX2_settleByLoan_202 : decode cX2_settleByLoan 202 = .ok (.aload_n 0, 1) := by decide +kernel
theorem dX2_settleByLoan_203 : decode cX2_settleByLoan 203 = .ok (.getfield 22, 3) := by decide +kernel
theorem dX2_settleByLoan_206 : decode cX2_settleByLoan 206 = .ok (.aload_n 1, 1) := by decide +kernel
theorem dX2_settleByLoan_207 : decode cX2_settleByLoan 207 = .ok (.invokevirtual 216, 3) := by decide +kernel
theorem dX2_settleByLoan_210 : decode cX2_settleByLoan 210 = .ok (.iload 6, 2) := by decide +kernel
theorem dX2_settleByLoan_212 : decode cX2_settleByLoan 212 = .ok (.ireturn, 1) := by decide +kernel
theorem dX2_findLenders_0 : decode cX2_findLenders 0 = .ok (.aload_n 1, 1) := by decide +kernel
theorem dX2_findLenders_1 : decode cX2_findLenders 1 = .ok (.getfield 122, 3) := by decide +kernel
theorem dX2_findLenders_4 : decode cX2_findLenders 4 = .ok (.aload_n 0, 1) := by decide +kernel
theorem dX2_findLenders_5 : decode cX2_findLenders 5 = .ok (.getfield 22, 3) := by decide +kernel
theorem dX2_findLenders_8 : decode cX2_findLenders 8 = .ok (.aload_n 1, 1) := by decide +kernel
theorem dX2_findLenders_9 : decode cX2_findLenders 9 = .ok (.getfield 169, 3) := by decide +kernel
theorem dX2_findLenders_12 : decode cX2_findLenders 12 = .ok (.invokevirtual 190, 3) := by decide +kernel
theorem dX2_findLenders_15 : decode cX2_findLenders 15 = .ok (.aload_n 1, 1) := by decide +kernel
theorem dX2_findLenders_16 : decode cX2_findLenders 16 = .ok (.getfield 119, 3) := by decide +kernel
theorem dX2_findLenders_19 : decode cX2_findLenders 19 = .ok (.invokevirtual 198, 3) := by decide +kernel
theorem dX2_findLenders_22 : decode cX2_findLenders 22 = .ok (.lsub, 1) := by decide +kernel
theorem dX2_findLenders_23 : decode cX2_findLenders 23 = .ok (.lstore_n 2, 1) := by decide +kernel
theorem dX2_findLenders_24 : decode cX2_findLenders 24 = .ok (.iconst 0, 1) := by decide +kernel
theorem dX2_findLenders_25 : decode cX2_findLenders 25 = .ok (.istore 4, 2) := by decide +kernel
theorem dX2_findLenders_27 : decode cX2_findLenders 27 = .ok (.iload 4, 2) := by decide +kernel
theorem dX2_findLenders_29 : decode cX2_findLenders 29 = .ok (.aload_n 0, 1) := by decide +kernel
theorem dX2_findLenders_30 : decode cX2_findLenders 30 = .ok (.getfield 19, 3) := by decide +kernel
theorem dX2_findLenders_33 : decode cX2_findLenders 33 = .ok (.arraylength, 1) := by decide +kernel
theorem dX2_findLenders_34 : decode cX2_findLenders 34 = .ok (.if_icmp .ge 100, 3) := by decide +kernel
theorem dX2_findLenders_37 : decode cX2_findLenders 37 = .ok (.aload_n 0, 1) := by decide +kernel
theorem dX2_findLenders_38 : decode cX2_findLenders 38 = .ok (.getfield 22, 3) := by decide +kernel
theorem dX2_findLenders_41 : decode cX2_findLenders 41 = .ok (.iload 4, 2) := by decide +kernel
theorem dX2_findLenders_43 : decode cX2_findLenders 43 = .ok (.invokevirtual 190, 3) := by decide +kernel
theorem dX2_findLenders_46 : decode cX2_findLenders 46 = .ok (.astore 5, 2) := by decide +kernel
theorem dX2_findLenders_48 : decode cX2_findLenders 48 = .ok (.aload 5, 2) := by decide +kernel
theorem dX2_findLenders_50 : decode cX2_findLenders 50 = .ok (.getfield 245, 3) := by decide +kernel
theorem dX2_findLenders_53 : decode cX2_findLenders 53 = .ok (.ifCond .eq 25, 3) := by decide +kernel
theorem dX2_findLenders_56 : decode cX2_findLenders 56 = .ok (.iload 4, 2) := by decide +kernel
theorem dX2_findLenders_58 : decode cX2_findLenders 58 = .ok (.aload_n 1, 1) := by decide +kernel
theorem dX2_findLenders_59 : decode cX2_findLenders 59 = .ok (.getfield 169, 3) := by decide +kernel
theorem dX2_findLenders_62 : decode cX2_findLenders 62 = .ok (.if_icmp .eq 16, 3) := by decide +kernel
theorem dX2_findLenders_65 : decode cX2_findLenders 65 = .ok (.iload 4, 2) := by decide +kernel
theorem dX2_findLenders_67 : decode cX2_findLenders 67 = .ok (.aload_n 1, 1) := by decide +kernel
theorem dX2_findLenders_68 : decode cX2_findLenders 68 = .ok (.getfield 175, 3) := by decide +kernel
theorem dX2_findLenders_71 : decode cX2_findLenders 71 = .ok (.if_icmp .eq 7, 3) := by decide +kernel
theorem dX2_findLenders_74 : decode cX2_findLenders 74 = .ok (.iconst 1, 1) := by decide +kernel
theorem dX2_findLenders_75 : decode cX2_findLenders 75 = .ok (.goto 4, 3) := by decide +kernel
theorem dX2_findLenders_78 : decode cX2_findLenders 78 = .ok (.iconst 0, 1) := by decide +kernel
theorem dX2_findLenders_79 : decode cX2_findLenders 79 = .ok (.istore 6, 2) := by decide +kernel
theorem dX2_findLenders_81 : decode cX2_findLenders 81 = .ok (.iload 6, 2) := by decide +kernel
theorem dX2_findLenders_83 : decode cX2_findLenders 83 = .ok (.ifCond .eq 15, 3) := by decide +kernel
theorem dX2_findLenders_86 : decode cX2_findLenders 86 = .ok (.aload 5, 2) := by decide +kernel
theorem dX2_findLenders_88 : decode cX2_findLenders 88 = .ok (.aload_n 1, 1) := by decide +kernel
theorem dX2_findLenders_89 : decode cX2_findLenders 89 = .ok (.getfield 119, 3) := by decide +kernel
theorem dX2_findLenders_92 : decode cX2_findLenders 92 = .ok (.invokevirtual 198, 3) := by decide +kernel
theorem dX2_findLenders_95 : decode cX2_findLenders 95 = .ok (.goto 4, 3) := by decide +kernel
theorem dX2_findLenders_98 : decode cX2_findLenders 98 = .ok (.lconst 0, 1) := by decide +kernel
theorem dX2_findLenders_99 : decode cX2_findLenders 99 = .ok (.lstore 7, 2) := by decide +kernel
theorem dX2_findLenders_101 : decode cX2_findLenders 101 = .ok (.aload_n 0, 1) := by decide +kernel
theorem dX2_findLenders_102 : decode cX2_findLenders 102 = .ok (.getfield 19, 3) := by decide +kernel
theorem dX2_findLenders_105 : decode cX2_findLenders 105 = .ok (.iload 4, 2) := by decide +kernel
theorem dX2_findLenders_107 : decode cX2_findLenders 107 = .ok (.lconst 0, 1) := by decide +kernel
theorem dX2_findLenders_108 : decode cX2_findLenders 108 = .ok (.lload_n 2, 1) := by decide +kernel
theorem dX2_findLenders_109 : decode cX2_findLenders 109 = .ok (.lload 7, 2) := by decide +kernel
theorem dX2_findLenders_111 : decode cX2_findLenders 111 = .ok (.invokestatic 248, 3) := by decide +kernel
theorem dX2_findLenders_114 : decode cX2_findLenders 114 = .ok (.invokestatic 251, 3) := by decide +kernel
theorem dX2_findLenders_117 : decode cX2_findLenders 117 = .ok (.lastore, 1) := by decide +kernel
theorem dX2_findLenders_118 : decode cX2_findLenders 118 = .ok (.lload_n 2, 1) := by decide +kernel
theorem dX2_findLenders_119 : decode cX2_findLenders 119 = .ok (.aload_n 0, 1) := by decide +kernel
theorem dX2_findLenders_120 : decode cX2_findLenders 120 = .ok (.getfield 19, 3) := by decide +kernel
theorem dX2_findLenders_123 : decode cX2_findLenders 123 = .ok (.iload 4, 2) := by decide +kernel
theorem dX2_findLenders_125 : decode cX2_findLenders 125 = .ok (.laload, 1) := by decide +kernel
theorem dX2_findLenders_126 : decode cX2_findLenders 126 = .ok (.lsub, 1) := by decide +kernel
theorem dX2_findLenders_127 : decode cX2_findLenders 127 = .ok (.lstore_n 2, 1) := by decide +kernel
theorem dX2_findLenders_128 : decode cX2_findLenders 128 = .ok (.iinc 4 1, 3) := by decide +kernel
theorem dX2_findLenders_131 : decode cX2_findLenders 131 = .ok (.goto (-104), 3) := by decide +kernel
theorem dX2_findLenders_134 : decode cX2_findLenders 134 = .ok (.return_, 1) := by decide +kernel
theorem dX2_shiftLoans_0 : decode cX2_shiftLoans 0 = .ok (.aload_n 0, 1) := by decide +kernel
theorem dX2_shiftLoans_1 : decode cX2_shiftLoans 1 = .ok (.getfield 22, 3) := by decide +kernel
theorem dX2_shiftLoans_4 : decode cX2_shiftLoans 4 = .ok (.aload_n 1, 1) := by decide +kernel
theorem dX2_shiftLoans_5 : decode cX2_shiftLoans 5 = .ok (.getfield 169, 3) := by decide +kernel
theorem dX2_shiftLoans_8 : decode cX2_shiftLoans 8 = .ok (.invokevirtual 190, 3) := by decide +kernel
theorem dX2_shiftLoans_11 : decode cX2_shiftLoans 11 = .ok (.astore_n 3, 1) := by decide +kernel
theorem dX2_shiftLoans_12 : decode cX2_shiftLoans 12 = .ok (.iconst 0, 1) := by decide +kernel
theorem dX2_shiftLoans_13 : decode cX2_shiftLoans 13 = .ok (.istore 4, 2) := by decide +kernel
theorem dX2_shiftLoans_15 : decode cX2_shiftLoans 15 = .ok (.iload 4, 2) := by decide +kernel
theorem dX2_shiftLoans_17 : decode cX2_shiftLoans 17 = .ok (.aload_n 0, 1) := by decide +kernel
theorem dX2_shiftLoans_18 : decode cX2_shiftLoans 18 = .ok (.getfield 19, 3) := by decide +kernel
theorem dX2_shiftLoans_21 : decode cX2_shiftLoans 21 = .ok (.arraylength, 1) := by decide +kernel
theorem dX2_shiftLoans_22 : decode cX2_shiftLoans 22 = .ok (.if_icmp .ge 72, 3) := by decide +kernel
theorem dX2_shiftLoans_25 : decode cX2_shiftLoans 25 = .ok (.iload_n 2, 1) := by decide +kernel
theorem dX2_shiftLoans_26 : decode cX2_shiftLoans 26 = .ok (.i2l, 1) := by decide +kernel
theorem dX2_shiftLoans_27 : decode cX2_shiftLoans 27 = .ok (.aload_n 0, 1) := by decide +kernel
theorem dX2_shiftLoans_28 : decode cX2_shiftLoans 28 = .ok (.getfield 19, 3) := by decide +kernel
theorem dX2_shiftLoans_31 : decode cX2_shiftLoans 31 = .ok (.iload 4, 2) := by decide +kernel
theorem dX2_shiftLoans_33 : decode cX2_shiftLoans 33 = .ok (.laload, 1) := by decide +kernel
theorem dX2_shiftLoans_34 : decode cX2_shiftLoans 34 = .ok (.lmul, 1) := by decide +kernel
theorem dX2_shiftLoans_35 : decode cX2_shiftLoans 35 = .ok (.lstore 5, 2) := by decide +kernel
theorem dX2_shiftLoans_37 : decode cX2_shiftLoans 37 = .ok (.aload_n 0, 1) := by decide +kernel
theorem dX2_shiftLoans_38 : decode cX2_shiftLoans 38 = .ok (.getfield 22, 3) := by decide +kernel
theorem dX2_shiftLoans_41 : decode cX2_shiftLoans 41 = .ok (.iload 4, 2) := by decide +kernel
theorem dX2_shiftLoans_43 : decode cX2_shiftLoans 43 = .ok (.invokevirtual 190, 3) := by decide +kernel
theorem dX2_shiftLoans_46 : decode cX2_shiftLoans 46 = .ok (.aload_n 1, 1) := by decide +kernel
theorem dX2_shiftLoans_47 : decode cX2_shiftLoans 47 = .ok (.getfield 119, 3) := by decide +kernel
theorem dX2_shiftLoans_50 : decode cX2_shiftLoans 50 = .ok (.lload 5, 2) := by decide +kernel
theorem dX2_shiftLoans_52 : decode cX2_shiftLoans 52 = .ok (.lneg, 1) := by decide +kernel
theorem dX2_shiftLoans_53 : decode cX2_shiftLoans 53 = .ok (.invokevirtual 254, 3) := by decide +kernel
theorem dX2_shiftLoans_56 : decode cX2_shiftLoans 56 = .ok (.aload_n 3, 1) := by decide +kernel
theorem dX2_shiftLoans_57 : decode cX2_shiftLoans 57 = .ok (.aload_n 1, 1) := by decide +kernel
theorem dX2_shiftLoans_58 : decode cX2_shiftLoans 58 = .ok (.getfield 119, 3) := by decide +kernel
theorem dX2_shiftLoans_61 : decode cX2_shiftLoans 61 = .ok (.lload 5, 2) := by decide +kernel
theorem dX2_shiftLoans_63 : decode cX2_shiftLoans 63 = .ok (.invokevirtual 254, 3) := by decide +kernel
theorem dX2_shiftLoans_66 : decode cX2_shiftLoans 66 = .ok (.aload_n 3, 1) := by decide +kernel
theorem dX2_shiftLoans_67 : decode cX2_shiftLoans 67 = .ok (.dup, 1) := by decide +kernel
theorem dX2_shiftLoans_68 : decode cX2_shiftLoans 68 = .ok (.getfield 212, 3) := by decide +kernel
theorem dX2_shiftLoans_71 : decode cX2_shiftLoans 71 = .ok (.aload_n 0, 1) := by decide +kernel
theorem dX2_shiftLoans_72 : decode cX2_shiftLoans 72 = .ok (.getfield 22, 3) := by decide +kernel
theorem dX2_shiftLoans_75 : decode cX2_shiftLoans 75 = .ok (.aload_n 1, 1) := by decide +kernel
theorem dX2_shiftLoans_76 : decode cX2_shiftLoans 76 = .ok (.getfield 119, 3) := by decide +kernel
theorem dX2_shiftLoans_79 : decode cX2_shiftLoans 79 = .ok (.lload 5, 2) := by decide +kernel
theorem dX2_shiftLoans_81 : decode cX2_shiftLoans 81 = .ok (.invokevirtual 125, 3) := by decide +kernel
theorem dX2_shiftLoans_84 : decode cX2_shiftLoans 84 = .ok (.ladd, 1) := by decide +kernel
theorem dX2_shiftLoans_85 : decode cX2_shiftLoans 85 = .ok (.putfield 212, 3) := by decide +kernel
theorem dX2_shiftLoans_88 : decode cX2_shiftLoans 88 = .ok (.iinc 4 1, 3) := by decide +kernel
theorem dX2_shiftLoans_91 : decode cX2_shiftLoans 91 = .ok (.goto (-76), 3) := by decide +kernel
theorem dX2_shiftLoans_94 : decode cX2_shiftLoans 94 = .ok (.return_, 1) := by decide +kernel
theorem dX2_areLendersFirm_0 : decode cX2_areLendersFirm 0 = .ok (.iconst 0, 1) := by decide +kernel
theorem dX2_areLendersFirm_1 : decode cX2_areLendersFirm 1 = .ok (.istore_n 1, 1) := by decide +kernel
theorem dX2_areLendersFirm_2 : decode cX2_areLendersFirm 2 = .ok (.iload_n 1, 1) := by decide +kernel
theorem dX2_areLendersFirm_3 : decode cX2_areLendersFirm 3 = .ok (.aload_n 0, 1) := by decide +kernel
theorem dX2_areLendersFirm_4 : decode cX2_areLendersFirm 4 = .ok (.getfield 19, 3) := by decide +kernel
theorem dX2_areLendersFirm_7 : decode cX2_areLendersFirm 7 = .ok (.arraylength, 1) := by decide +kernel
theorem dX2_areLendersFirm_8 : decode cX2_areLendersFirm 8 = .ok (.if_icmp .ge 33, 3) := by decide +kernel
theorem dX2_areLendersFirm_11 : decode cX2_areLendersFirm 11 = .ok (.aload_n 0, 1) := by decide +kernel
theorem dX2_areLendersFirm_12 : decode cX2_areLendersFirm 12 = .ok (.getfield 19, 3) := by decide +kernel
theorem dX2_areLendersFirm_15 : decode cX2_areLendersFirm 15 = .ok (.iload_n 1, 1) := by decide +kernel
theorem dX2_areLendersFirm_16 : decode cX2_areLendersFirm 16 = .ok (.laload, 1) := by decide +kernel
theorem dX2_areLendersFirm_17 : decode cX2_areLendersFirm 17 = .ok (.lconst 0, 1) := by decide +kernel
theorem dX2_areLendersFirm_18 : decode cX2_areLendersFirm 18 = .ok (.lcmp, 1) := by decide +kernel
theorem dX2_areLendersFirm_19 : decode cX2_areLendersFirm 19 = .ok (.ifCond .le 16, 3) := by decide +kernel
theorem dX2_areLendersFirm_22 : decode cX2_areLendersFirm 22 = .ok (.aload_n 0, 1) := by decide +kernel
theorem dX2_areLendersFirm_23 : decode cX2_areLendersFirm 23 = .ok (.getfield 22, 3) := by decide +kernel
theorem dX2_areLendersFirm_26 : decode cX2_areLendersFirm 26 = .ok (.iload_n 1, 1) := by decide +kernel
theorem dX2_areLendersFirm_27 : decode cX2_areLendersFirm 27 = .ok (.invokevirtual 172, 3) := by decide +kernel
theorem dX2_areLendersFirm_30 : decode cX2_areLendersFirm 30 = .ok (.ifCond .ne 5, 3) := by decide +kernel
theorem dX2_areLendersFirm_33 : decode cX2_areLendersFirm 33 = .ok (.iconst 0, 1) := by decide +kernel
theorem dX2_areLendersFirm_34 : decode cX2_areLendersFirm 34 = .ok (.ireturn, 1) := by decide +kernel
theorem dX2_areLendersFirm_35 : decode cX2_areLendersFirm 35 = .ok (.iinc 1 1, 3) := by decide +kernel
theorem dX2_areLendersFirm_38 : decode cX2_areLendersFirm 38 = .ok (.goto (-36), 3) := by decide +kernel
theorem dX2_areLendersFirm_41 : decode cX2_areLendersFirm 41 = .ok (.iconst 1, 1) := by decide +kernel
theorem dX2_areLendersFirm_42 : decode cX2_areLendersFirm 42 = .ok (.ireturn, 1) := by decide +kernel
theorem dX2_makeLoans_0 : decode cX2_makeLoans 0 = .ok (.aload_n 0, 1) := by decide +kernel
theorem dX2_makeLoans_1 : decode cX2_makeLoans 1 = .ok (.getfield 22, 3) := by decide +kernel
theorem dX2_makeLoans_4 : decode cX2_makeLoans 4 = .ok (.aload_n 1, 1) := by decide +kernel
theorem dX2_makeLoans_5 : decode cX2_makeLoans 5 = .ok (.getfield 169, 3) := by decide +kernel
theorem dX2_makeLoans_8 : decode cX2_makeLoans 8 = .ok (.invokevirtual 190, 3) := by decide +kernel
theorem dX2_makeLoans_11 : decode cX2_makeLoans 11 = .ok (.astore_n 2, 1) := by decide +kernel
theorem dX2_makeLoans_12 : decode cX2_makeLoans 12 = .ok (.iconst 0, 1) := by decide +kernel
theorem dX2_makeLoans_13 : decode cX2_makeLoans 13 = .ok (.istore_n 3, 1) := by decide +kernel
theorem dX2_makeLoans_14 : decode cX2_makeLoans 14 = .ok (.iload_n 3, 1) := by decide +kernel
theorem dX2_makeLoans_15 : decode cX2_makeLoans 15 = .ok (.aload_n 0, 1) := by decide +kernel
theorem dX2_makeLoans_16 : decode cX2_makeLoans 16 = .ok (.getfield 19, 3) := by decide +kernel
theorem dX2_makeLoans_19 : decode cX2_makeLoans 19 = .ok (.arraylength, 1) := by decide +kernel
theorem dX2_makeLoans_20 : decode cX2_makeLoans 20 = .ok (.if_icmp .ge 142, 3) := by decide +kernel
theorem dX2_makeLoans_23 : decode cX2_makeLoans 23 = .ok (.aload_n 0, 1) := by decide +kernel
theorem dX2_makeLoans_24 : decode cX2_makeLoans 24 = .ok (.getfield 19, 3) := by decide +kernel
theorem dX2_makeLoans_27 : decode cX2_makeLoans 27 = .ok (.iload_n 3, 1) := by decide +kernel
theorem dX2_makeLoans_28 : decode cX2_makeLoans 28 = .ok (.laload, 1) := by decide +kernel
theorem dX2_makeLoans_29 : decode cX2_makeLoans 29 = .ok (.lconst 0, 1) := by decide +kernel
theorem dX2_makeLoans_30 : decode cX2_makeLoans 30 = .ok (.lcmp, 1) := by decide +kernel
theorem dX2_makeLoans_31 : decode cX2_makeLoans 31 = .ok (.ifCond .le 125, 3) := by decide +kernel
theorem dX2_makeLoans_34 : decode cX2_makeLoans 34 = .ok (.aload_n 0, 1) := by decide +kernel
theorem dX2_makeLoans_35 : decode cX2_makeLoans 35 = .ok (.getfield 22, 3) := by decide +kernel
theorem dX2_makeLoans_38 : decode cX2_makeLoans 38 = .ok (.aload_n 0, 1) := by decide +kernel
theorem dX2_makeLoans_39 : decode cX2_makeLoans 39 = .ok (.getfield 22, 3) := by decide +kernel
theorem dX2_makeLoans_42 : decode cX2_makeLoans 42 = .ok (.getfield 178, 3) := by decide +kernel
theorem dX2_makeLoans_45 : decode cX2_makeLoans 45 = .ok (.invokevirtual 181, 3) := by decide +kernel
theorem dX2_makeLoans_48 : decode cX2_makeLoans 48 = .ok (.astore 4, 2) := by decide +kernel
theorem dX2_makeLoans_50 : decode cX2_makeLoans 50 = .ok (.aload 4, 2) := by decide +kernel
theorem dX2_makeLoans_52 : decode cX2_makeLoans 52 = .ok (.iload_n 3, 1) := by decide +kernel
theorem dX2_makeLoans_53 : decode cX2_makeLoans 53 = .ok (.putfield 205, 3) := by decide +kernel
theorem dX2_makeLoans_56 : decode cX2_makeLoans 56 = .ok (.aload 4, 2) := by decide +kernel
theorem dX2_makeLoans_58 : decode cX2_makeLoans 58 = .ok (.aload_n 1, 1) := by decide +kernel
theorem dX2_makeLoans_59 : decode cX2_makeLoans 59 = .ok (.getfield 169, 3) := by decide +kernel
theorem dX2_makeLoans_62 : decode cX2_makeLoans 62 = .ok (.putfield 185, 3) := by decide +kernel
theorem dX2_makeLoans_65 : decode cX2_makeLoans 65 = .ok (.aload 4, 2) := by decide +kernel
theorem dX2_makeLoans_67 : decode cX2_makeLoans 67 = .ok (.aload_n 1, 1) := by decide +kernel
theorem dX2_makeLoans_68 : decode cX2_makeLoans 68 = .ok (.getfield 119, 3) := by decide +kernel
theorem dX2_makeLoans_71 : decode cX2_makeLoans 71 = .ok (.putfield 197, 3) := by decide +kernel
theorem dX2_makeLoans_74 : decode cX2_makeLoans 74 = .ok (.aload 4, 2) := by decide +kernel
theorem dX2_makeLoans_76 : decode cX2_makeLoans 76 = .ok (.aload_n 0, 1) := by decide +kernel
theorem dX2_makeLoans_77 : decode cX2_makeLoans 77 = .ok (.getfield 19, 3) := by decide +kernel
theorem dX2_makeLoans_80 : decode cX2_makeLoans 80 = .ok (.iload_n 3, 1) := by decide +kernel
theorem dX2_makeLoans_81 : decode cX2_makeLoans 81 = .ok (.laload, 1) := by decide +kernel
theorem dX2_makeLoans_82 : decode cX2_makeLoans 82 = .ok (.putfield 204, 3) := by decide +kernel
theorem dX2_makeLoans_85 : decode cX2_makeLoans 85 = .ok (.aload 4, 2) := by decide +kernel
theorem dX2_makeLoans_87 : decode cX2_makeLoans 87 = .ok (.aload_n 0, 1) := by decide +kernel
theorem dX2_makeLoans_88 : decode cX2_makeLoans 88 = .ok (.getfield 22, 3) := by decide +kernel
theorem dX2_makeLoans_91 : decode cX2_makeLoans 91 = .ok (.aload_n 1, 1) := by decide +kernel
theorem dX2_makeLoans_92 : decode cX2_makeLoans 92 = .ok (.getfield 119, 3) := by decide +kernel
theorem dX2_makeLoans_95 : decode cX2_makeLoans 95 = .ok (.aload_n 0, 1) := by decide +kernel
theorem dX2_makeLoans_96 : decode cX2_makeLoans 96 = .ok (.getfield 19, 3) := by decide +kernel
theorem dX2_makeLoans_99 : decode cX2_makeLoans 99 = .ok (.iload_n 3, 1) := by decide +kernel
theorem dX2_makeLoans_100 : decode cX2_makeLoans 100 = .ok (.laload, 1) := by decide +kernel
theorem dX2_makeLoans_101 : decode cX2_makeLoans 101 = .ok (.invokevirtual 125, 3) := by decide +kernel
theorem dX2_makeLoans_104 : decode cX2_makeLoans 104 = .ok (.putfield 215, 3) := by decide +kernel
theorem dX2_makeLoans_107 : decode cX2_makeLoans 107 = .ok (.aload_n 0, 1) := by decide +kernel
theorem dX2_makeLoans_108 : decode cX2_makeLoans 108 = .ok (.getfield 22, 3) := by decide +kernel
theorem dX2_makeLoans_111 : decode cX2_makeLoans 111 = .ok (.dup, 1) := by decide +kernel
theorem dX2_makeLoans_112 : decode cX2_makeLoans 112 = .ok (.getfield 178, 3) := by decide +kernel
theorem dX2_makeLoans_115 : decode cX2_makeLoans 115 = .ok (.iconst 1, 1) := by decide +kernel
theorem dX2_makeLoans_116 : decode cX2_makeLoans 116 = .ok (.iadd, 1) := by decide +kernel
theorem dX2_makeLoans_117 : decode cX2_makeLoans 117 = .ok (.putfield 178, 3) := by decide +kernel
theorem dX2_makeLoans_120 : decode cX2_makeLoans 120 = .ok (.aload_n 0, 1) := by decide +kernel
theorem dX2_makeLoans_121 : decode cX2_makeLoans 121 = .ok (.getfield 22, 3) := by decide +kernel
theorem dX2_makeLoans_124 : decode cX2_makeLoans 124 = .ok (.iload_n 3, 1) := by decide +kernel
theorem dX2_makeLoans_125 : decode cX2_makeLoans 125 = .ok (.aload_n 1, 1) := by decide +kernel
theorem dX2_makeLoans_126 : decode cX2_makeLoans 126 = .ok (.getfield 169, 3) := by decide +kernel
theorem dX2_makeLoans_129 : decode cX2_makeLoans 129 = .ok (.aload_n 1, 1) := by decide +kernel
theorem dX2_makeLoans_130 : decode cX2_makeLoans 130 = .ok (.getfield 119, 3) := by decide +kernel
theorem dX2_makeLoans_133 : decode cX2_makeLoans 133 = .ok (.aload_n 0, 1) := by decide +kernel
theorem dX2_makeLoans_134 : decode cX2_makeLoans 134 = .ok (.getfield 19, 3) := by decide +kernel
theorem dX2_makeLoans_137 : decode cX2_makeLoans 137 = .ok (.iload_n 3, 1) := by decide +kernel
theorem dX2_makeLoans_138 : decode cX2_makeLoans 138 = .ok (.laload, 1) := by decide +kernel
theorem dX2_makeLoans_139 : decode cX2_makeLoans 139 = .ok (.invokevirtual 208, 3) := by decide +kernel
theorem dX2_makeLoans_142 : decode cX2_makeLoans 142 = .ok (.aload_n 2, 1) := by decide +kernel
theorem dX2_makeLoans_143 : decode cX2_makeLoans 143 = .ok (.dup, 1) := by decide +kernel
theorem dX2_makeLoans_144 : decode cX2_makeLoans 144 = .ok (.getfield 212, 3) := by decide +kernel
theorem dX2_makeLoans_147 : decode cX2_makeLoans 147 = .ok (.aload 4, 2) := by decide +kernel
theorem dX2_makeLoans_149 : decode cX2_makeLoans 149 = .ok (.getfield 215, 3) := by decide +kernel
theorem dX2_makeLoans_152 : decode cX2_makeLoans 152 = .ok (.ladd, 1) := by decide +kernel
theorem dX2_makeLoans_153 : decode cX2_makeLoans 153 = .ok (.putfield 212, 3) := by decide +kernel
theorem dX2_makeLoans_156 : decode cX2_makeLoans 156 = .ok (.iinc 3 1, 3) := by decide +kernel
theorem dX2_makeLoans_159 : decode cX2_makeLoans 159 = .ok (.goto (-145), 3) := by decide +kernel
theorem dX2_makeLoans_162 : decode cX2_makeLoans 162 = .ok (.return_, 1) := by decide +kernel
theorem dX2_settleInPart_0 : decode cX2_settleInPart 0 = .ok (.iconst 0, 1) := by decide +kernel
theorem dX2_settleInPart_1 : decode cX2_settleInPart 1 = .ok (.istore_n 1, 1) := by decide +kernel
theorem dX2_settleInPart_2 : decode cX2_settleInPart 2 = .ok (.iload_n 1, 1) := by decide +kernel
theorem dX2_settleInPart_3 : decode cX2_settleInPart 3 = .ok (.aload_n 0, 1) := by decide +kernel
theorem dX2_settleInPart_4 : decode cX2_settleInPart 4 = .ok (.getfield 37, 3) := by decide +kernel
theorem dX2_settleInPart_7 : decode cX2_settleInPart 7 = .ok (.if_icmp .ge 98, 3) := by decide +kernel
theorem dX2_settleInPart_10 : decode cX2_settleInPart 10 = .ok (.aload_n 0, 1) := by decide +kernel
theorem dX2_settleInPart_11 : decode cX2_settleInPart 11 = .ok (.iload_n 1, 1) := by decide +kernel
theorem dX2_settleInPart_12 : decode cX2_settleInPart 12 = .ok (.invokevirtual 41, 3) := by decide +kernel
theorem dX2_settleInPart_15 : decode cX2_settleInPart 15 = .ok (.astore_n 2, 1) := by decide +kernel
theorem dX2_settleInPart_16 : decode cX2_settleInPart 16 = .ok (.aload_n 0, 1) := by decide +kernel
theorem dX2_settleInPart_17 : decode cX2_settleInPart 17 = .ok (.getfield 22, 3) := by decide +kernel
theorem dX2_settleInPart_20 : decode cX2_settleInPart 20 = .ok (.aload_n 2, 1) := by decide +kernel
theorem dX2_settleInPart_21 : decode cX2_settleInPart 21 = .ok (.getfield 169, 3) := by decide +kernel
theorem dX2_settleInPart_24 : decode cX2_settleInPart 24 = .ok (.invokevirtual 190, 3) := by decide +kernel
theorem dX2_settleInPart_27 : decode cX2_settleInPart 27 = .ok (.aload_n 2, 1) := by decide +kernel
theorem dX2_settleInPart_28 : decode cX2_settleInPart 28 = .ok (.getfield 119, 3) := by decide +kernel
theorem dX2_settleInPart_31 : decode cX2_settleInPart 31 = .ok (.invokevirtual 198, 3) := by decide +kernel
theorem dX2_settleInPart_34 : decode cX2_settleInPart 34 = .ok (.lstore_n 3, 1) := by decide +kernel
theorem dX2_settleInPart_35 : decode cX2_settleInPart 35 = .ok (.lload_n 3, 1) := by decide +kernel
theorem dX2_settleInPart_36 : decode cX2_settleInPart 36 = .ok (.aload_n 2, 1) := by decide +kernel
theorem dX2_settleInPart_37 : decode cX2_settleInPart 37 = .ok (.getfield 122, 3) := by decide +kernel
theorem dX2_settleInPart_40 : decode cX2_settleInPart 40 = .ok (.lcmp, 1) := by decide +kernel
theorem dX2_settleInPart_41 : decode cX2_settleInPart 41 = .ok (.ifCond .ge 16, 3) := by decide +kernel
theorem dX2_settleInPart_44 : decode cX2_settleInPart 44 = .ok (.lload_n 3, 1) := by decide +kernel
theorem dX2_settleInPart_45 : decode cX2_settleInPart 45 = .ok (.aload_n 2, 1) := by decide +kernel
theorem dX2_settleInPart_46 : decode cX2_settleInPart 46 = .ok (.getfield 257, 3) := by decide +kernel
theorem dX2_settleInPart_49 : decode cX2_settleInPart 49 = .ok (.lcmp, 1) := by decide +kernel
theorem dX2_settleInPart_50 : decode cX2_settleInPart 50 = .ok (.ifCond .lt 7, 3) := by decide +kernel
theorem dX2_settleInPart_53 : decode cX2_settleInPart 53 = .ok (.iconst 1, 1) := by decide +kernel
theorem dX2_settleInPart_54 : decode cX2_settleInPart 54 = .ok (.goto 4, 3) := by decide +kernel
theorem dX2_settleInPart_57 : decode cX2_settleInPart 57 = .ok (.iconst 0, 1) := by decide +kernel
theorem dX2_settleInPart_58 : decode cX2_settleInPart 58 = .ok (.istore 5, 2) := by decide +kernel
theorem dX2_settleInPart_60 : decode cX2_settleInPart 60 = .ok (.aload_n 2, 1) := by decide +kernel
theorem dX2_settleInPart_61 : decode cX2_settleInPart 61 = .ok (.getfield 166, 3) := by decide +kernel
theorem dX2_settleInPart_64 : decode cX2_settleInPart 64 = .ok (.iconst 1, 1) := by decide +kernel
theorem dX2_settleInPart_65 : decode cX2_settleInPart 65 = .ok (.if_icmp .ne 34, 3) := by decide +kernel
theorem dX2_settleInPart_68 : decode cX2_settleInPart 68 = .ok (.aload_n 2, 1) := by decide +kernel
theorem dX2_settleInPart_69 : decode cX2_settleInPart 69 = .ok (.getfield 257, 3) := by decide +kernel
theorem dX2_settleInPart_72 : decode cX2_settleInPart 72 = .ok (.lconst 0, 1) := by decide +kernel
theorem dX2_settleInPart_73 : decode cX2_settleInPart 73 = .ok (.lcmp, 1) := by decide +kernel
theorem dX2_settleInPart_74 : decode cX2_settleInPart 74 = .ok (.ifCond .le 25, 3) := by decide +kernel
theorem dX2_settleInPart_77 : decode cX2_settleInPart 77 = .ok (.iload 5, 2) := by decide +kernel
theorem dX2_settleInPart_79 : decode cX2_settleInPart 79 = .ok (.ifCond .eq 20, 3) := by decide +kernel
theorem dX2_settleInPart_82 : decode cX2_settleInPart 82 = .ok (.aload_n 0, 1) := by decide +kernel
theorem dX2_settleInPart_83 : decode cX2_settleInPart 83 = .ok (.getfield 22, 3) := by decide +kernel
theorem dX2_settleInPart_86 : decode cX2_settleInPart 86 = .ok (.aload_n 2, 1) := by decide +kernel
theorem dX2_settleInPart_87 : decode cX2_settleInPart 87 = .ok (.invokevirtual 222, 3) := by decide +kernel
theorem dX2_settleInPart_90 : decode cX2_settleInPart 90 = .ok (.ifCond .ne 9, 3) := by decide +kernel
theorem dX2_settleInPart_93 : decode cX2_settleInPart 93 = .ok (.aload_n 0, 1) := by decide +kernel
theorem dX2_settleInPart_94 : decode cX2_settleInPart 94 = .ok (.aload_n 2, 1) := by decide +kernel
theorem dX2_settleInPart_95 : decode cX2_settleInPart 95 = .ok (.lload_n 3, 1) := by decide +kernel
theorem dX2_settleInPart_96 : decode cX2_settleInPart 96 = .ok (.invokevirtual 260, 3) := by decide +kernel
theorem dX2_settleInPart_99 : decode cX2_settleInPart 99 = .ok (.iinc 1 1, 3) := by decide +kernel
theorem dX2_settleInPart_102 : decode cX2_settleInPart 102 = .ok (.goto (-100), 3) := by decide +kernel
theorem dX2_settleInPart_105 : decode cX2_settleInPart 105 = .ok (.return_, 1) := by decide +kernel
theorem dX2_settlePartOf_0 : decode cX2_settlePartOf 0 = .ok (.aload_n 1, 1) := by decide +kernel
theorem dX2_settlePartOf_1 : decode cX2_settlePartOf 1 = .ok (.getfield 122, 3) := by decide +kernel
theorem dX2_settlePartOf_4 : decode cX2_settlePartOf 4 = .ok (.lconst 0, 1) := by decide +kernel
theorem dX2_settlePartOf_5 : decode cX2_settlePartOf 5 = .ok (.lcmp, 1) := by decide +kernel
theorem dX2_settlePartOf_6 : decode cX2_settlePartOf 6 = .ok (.ifCond .gt 4, 3) := by decide +kernel
theorem dX2_settlePartOf_9 : decode cX2_settlePartOf 9 = .ok (.return_, 1) := by decide +kernel
theorem dX2_settlePartOf_10 : decode cX2_settlePartOf 10 = .ok (.aload_n 1, 1) := by decide +kernel
theorem dX2_settlePartOf_11 : decode cX2_settlePartOf 11 = .ok (.getfield 116, 3) := by decide +kernel
theorem dX2_settlePartOf_14 : decode cX2_settlePartOf 14 = .ok (.lload_n 2, 1) := by decide +kernel
theorem dX2_settlePartOf_15 : decode cX2_settlePartOf 15 = .ok (.lmul, 1) := by decide +kernel
theorem dX2_settlePartOf_16 : decode cX2_settlePartOf 16 = .ok (.aload_n 1, 1) := by decide +kernel
theorem dX2_settlePartOf_17 : decode cX2_settlePartOf 17 = .ok (.getfield 122, 3) := by decide +kernel
theorem dX2_settlePartOf_20 : decode cX2_settlePartOf 20 = .ok (.ldiv, 1) := by decide +kernel
theorem dX2_settlePartOf_21 : decode cX2_settlePartOf 21 = .ok (.lstore 4, 2) := by decide +kernel
theorem dX2_settlePartOf_23 : decode cX2_settlePartOf 23 = .ok (.aload_n 0, 1) := by decide +kernel
theorem dX2_settlePartOf_24 : decode cX2_settlePartOf 24 = .ok (.getfield 22, 3) := by decide +kernel
theorem dX2_settlePartOf_27 : decode cX2_settlePartOf 27 = .ok (.aload_n 1, 1) := by decide +kernel
theorem dX2_settlePartOf_28 : decode cX2_settlePartOf 28 = .ok (.lload_n 2, 1) := by decide +kernel
theorem dX2_settlePartOf_29 : decode cX2_settlePartOf 29 = .ok (.lload 4, 2) := by decide +kernel
theorem dX2_settlePartOf_31 : decode cX2_settlePartOf 31 = .ok (.invokevirtual 128, 3) := by decide +kernel
theorem dX2_settlePartOf_34 : decode cX2_settlePartOf 34 = .ok (.aload_n 0, 1) := by decide +kernel
theorem dX2_settlePartOf_35 : decode cX2_settlePartOf 35 = .ok (.getfield 22, 3) := by decide +kernel
theorem dX2_settlePartOf_38 : decode cX2_settlePartOf 38 = .ok (.aload_n 1, 1) := by decide +kernel
theorem dX2_settlePartOf_39 : decode cX2_settlePartOf 39 = .ok (.getfield 169, 3) := by decide +kernel
theorem dX2_settlePartOf_42 : decode cX2_settlePartOf 42 = .ok (.invokevirtual 172, 3) := by decide +kernel
theorem dX2_settlePartOf_45 : decode cX2_settlePartOf 45 = .ok (.ifCond .eq 21, 3) := by decide +kernel
theorem dX2_settlePartOf_48 : decode cX2_settlePartOf 48 = .ok (.aload_n 0, 1) := by decide +kernel
theorem dX2_settlePartOf_49 : decode cX2_settlePartOf 49 = .ok (.getfield 22, 3) := by decide +kernel
theorem dX2_settlePartOf_52 : decode cX2_settlePartOf 52 = .ok (.aload_n 1, 1) := by decide +kernel
theorem dX2_settlePartOf_53 : decode cX2_settlePartOf 53 = .ok (.getfield 175, 3) := by decide +kernel
theorem dX2_settlePartOf_56 : decode cX2_settlePartOf 56 = .ok (.invokevirtual 172, 3) := by decide +kernel
theorem dX2_settlePartOf_59 : decode cX2_settlePartOf 59 = .ok (.ifCond .eq 7, 3) := by decide +kernel
theorem dX2_settlePartOf_62 : decode cX2_settlePartOf 62 = .ok (.iconst 1, 1) := by decide +kernel
theorem dX2_settlePartOf_63 : decode cX2_settlePartOf 63 = .ok (.goto 4, 3) := by decide +kernel
theorem dX2_settlePartOf_66 : decode cX2_settlePartOf 66 = .ok (.iconst 0, 1) := by decide +kernel
theorem dX2_settlePartOf_67 : decode cX2_settlePartOf 67 = .ok (.istore 6, 2) := by decide +kernel
theorem dX2_settlePartOf_69 : decode cX2_settlePartOf 69 = .ok (.aload_n 0, 1) := by decide +kernel
theorem dX2_settlePartOf_70 : decode cX2_settlePartOf 70 = .ok (.getfield 22, 3) := by decide +kernel
theorem dX2_settlePartOf_73 : decode cX2_settlePartOf 73 = .ok (.aload_n 1, 1) := by decide +kernel
theorem dX2_settlePartOf_74 : decode cX2_settlePartOf 74 = .ok (.lload_n 2, 1) := by decide +kernel
theorem dX2_settlePartOf_75 : decode cX2_settlePartOf 75 = .ok (.lneg, 1) := by decide +kernel
theorem dX2_settlePartOf_76 : decode cX2_settlePartOf 76 = .ok (.lload 4, 2) := by decide +kernel
theorem dX2_settlePartOf_78 : decode cX2_settlePartOf 78 = .ok (.lneg, 1) := by decide +kernel
theorem dX2_settlePartOf_79 : decode cX2_settlePartOf 79 = .ok (.invokevirtual 128, 3) := by decide +kernel
theorem dX2_settlePartOf_82 : decode cX2_settlePartOf 82 = .ok (.iload 6, 2) := by decide +kernel
theorem dX2_settlePartOf_84 : decode cX2_settlePartOf 84 = .ok (.ifCond .eq 14, 3) := by decide +kernel
theorem dX2_settlePartOf_87 : decode cX2_settlePartOf 87 = .ok (.aload_n 0, 1) := by decide +kernel
theorem dX2_settlePartOf_88 : decode cX2_settlePartOf 88 = .ok (.getfield 22, 3) := by decide +kernel
theorem dX2_settlePartOf_91 : decode cX2_settlePartOf 91 = .ok (.aload_n 1, 1) := by decide +kernel
theorem dX2_settlePartOf_92 : decode cX2_settlePartOf 92 = .ok (.lload_n 2, 1) := by decide +kernel
theorem dX2_settlePartOf_93 : decode cX2_settlePartOf 93 = .ok (.lload 4, 2) := by decide +kernel
theorem dX2_settlePartOf_95 : decode cX2_settlePartOf 95 = .ok (.invokevirtual 264, 3) := by decide +kernel
theorem dX2_settlePartOf_98 : decode cX2_settlePartOf 98 = .ok (.return_, 1) := by decide +kernel
theorem dX3_init_0 : decode cX3_init 0 = .ok (.aload_n 0, 1) := by decide +kernel
theorem dX3_init_1 : decode cX3_init 1 = .ok (.invokespecial 3, 3) := by decide +kernel
theorem dX3_init_4 : decode cX3_init 4 = .ok (.aload_n 0, 1) := by decide +kernel
theorem dX3_init_5 : decode cX3_init 5 = .ok (.aload_n 1, 1) := by decide +kernel
theorem dX3_init_6 : decode cX3_init 6 = .ok (.putfield 9, 3) := by decide +kernel
theorem dX3_init_9 : decode cX3_init 9 = .ok (.return_, 1) := by decide +kernel
theorem dX3_takeTurns_0 : decode cX3_takeTurns 0 = .ok (.iconst 0, 1) := by decide +kernel
theorem dX3_takeTurns_1 : decode cX3_takeTurns 1 = .ok (.istore_n 1, 1) := by decide +kernel
theorem dX3_takeTurns_2 : decode cX3_takeTurns 2 = .ok (.iload_n 1, 1) := by decide +kernel
theorem dX3_takeTurns_3 : decode cX3_takeTurns 3 = .ok (.aload_n 0, 1) := by decide +kernel
theorem dX3_takeTurns_4 : decode cX3_takeTurns 4 = .ok (.getfield 9, 3) := by decide +kernel
theorem dX3_takeTurns_7 : decode cX3_takeTurns 7 = .ok (.getfield 15, 3) := by decide +kernel
theorem dX3_takeTurns_10 : decode cX3_takeTurns 10 = .ok (.if_icmp .ge 56, 3) := by decide +kernel
theorem dX3_takeTurns_13 : decode cX3_takeTurns 13 = .ok (.aload_n 0, 1) := by decide +kernel
theorem dX3_takeTurns_14 : decode cX3_takeTurns 14 = .ok (.getfield 9, 3) := by decide +kernel
theorem dX3_takeTurns_17 : decode cX3_takeTurns 17 = .ok (.iload_n 1, 1) := by decide +kernel
theorem dX3_takeTurns_18 : decode cX3_takeTurns 18 = .ok (.invokevirtual 21, 3) := by decide +kernel
theorem dX3_takeTurns_21 : decode cX3_takeTurns 21 = .ok (.astore_n 2, 1) := by decide +kernel
theorem dX3_takeTurns_22 : decode cX3_takeTurns 22 = .ok (.aload_n 2, 1) := by decide +kernel
theorem dX3_takeTurns_23 : decode cX3_takeTurns 23 = .ok (.getfield 25, 3) := by decide +kernel
theorem dX3_takeTurns_26 : decode cX3_takeTurns 26 = .ok (.aload_n 0, 1) := by decide +kernel
theorem dX3_takeTurns_27 : decode cX3_takeTurns 27 = .ok (.getfield 9, 3) := by decide +kernel
theorem dX3_takeTurns_30 : decode cX3_takeTurns 30 = .ok (.getfield 30, 3) := by decide +kernel
theorem dX3_takeTurns_33 : decode cX3_takeTurns 33 = .ok (.if_icmp .ne 8, 3) := by decide +kernel
theorem dX3_takeTurns_36 : decode cX3_takeTurns 36 = .ok (.aload_n 0, 1) := by decide +kernel
theorem dX3_takeTurns_37 : decode cX3_takeTurns 37 = .ok (.aload_n 2, 1) := by decide +kernel
theorem dX3_takeTurns_38 : decode cX3_takeTurns 38 = .ok (.invokevirtual 33, 3) := by decide +kernel
theorem dX3_takeTurns_41 : decode cX3_takeTurns 41 = .ok (.aload_n 2, 1) := by decide +kernel
theorem dX3_takeTurns_42 : decode cX3_takeTurns 42 = .ok (.getfield 37, 3) := by decide +kernel
theorem dX3_takeTurns_45 : decode cX3_takeTurns 45 = .ok (.aload_n 0, 1) := by decide +kernel
theorem dX3_takeTurns_46 : decode cX3_takeTurns 46 = .ok (.getfield 9, 3) := by decide +kernel
theorem dX3_takeTurns_49 : decode cX3_takeTurns 49 = .ok (.getfield 30, 3) := by decide +kernel
theorem dX3_takeTurns_52 : decode cX3_takeTurns 52 = .ok (.if_icmp .ne 8, 3) := by decide +kernel
theorem dX3_takeTurns_55 : decode cX3_takeTurns 55 = .ok (.aload_n 0, 1) := by decide +kernel
theorem dX3_takeTurns_56 : decode cX3_takeTurns 56 = .ok (.aload_n 2, 1) := by decide +kernel
theorem dX3_takeTurns_57 : decode cX3_takeTurns 57 = .ok (.invokevirtual 40, 3) := by decide +kernel
theorem dX3_takeTurns_60 : decode cX3_takeTurns 60 = .ok (.iinc 1 1, 3) := by decide +kernel
theorem dX3_takeTurns_63 : decode cX3_takeTurns 63 = .ok (.goto (-61), 3) := by decide +kernel
theorem dX3_takeTurns_66 : decode cX3_takeTurns 66 = .ok (.return_, 1) := by decide +kernel
theorem dX3_note_0 : decode cX3_note 0 = .ok (.iconst 0, 1) := by decide +kernel
theorem dX3_note_1 : decode cX3_note 1 = .ok (.istore_n 2, 1) := by decide +kernel
theorem dX3_note_2 : decode cX3_note 2 = .ok (.iload_n 2, 1) := by decide +kernel
theorem dX3_note_3 : decode cX3_note 3 = .ok (.aload_n 0, 1) := by decide +kernel
theorem dX3_note_4 : decode cX3_note 4 = .ok (.getfield 9, 3) := by decide +kernel
theorem dX3_note_7 : decode cX3_note 7 = .ok (.getfield 43, 3) := by decide +kernel
theorem dX3_note_10 : decode cX3_note 10 = .ok (.if_icmp .ge 29, 3) := by decide +kernel
theorem dX3_note_13 : decode cX3_note 13 = .ok (.aload_n 1, 1) := by decide +kernel
theorem dX3_note_14 : decode cX3_note 14 = .ok (.iload_n 2, 1) := by decide +kernel
theorem dX3_note_15 : decode cX3_note 15 = .ok (.aload_n 0, 1) := by decide +kernel
theorem dX3_note_16 : decode cX3_note 16 = .ok (.getfield 9, 3) := by decide +kernel
theorem dX3_note_19 : decode cX3_note 19 = .ok (.iload_n 2, 1) := by decide +kernel
theorem dX3_note_20 : decode cX3_note 20 = .ok (.invokevirtual 46, 3) := by decide +kernel
theorem dX3_note_23 : decode cX3_note 23 = .ok (.aload_n 1, 1) := by decide +kernel
theorem dX3_note_24 : decode cX3_note 24 = .ok (.getfield 50, 3) := by decide +kernel
theorem dX3_note_27 : decode cX3_note 27 = .ok (.invokevirtual 53, 3) := by decide +kernel
theorem dX3_note_30 : decode cX3_note 30 = .ok (.invokevirtual 59, 3) := by decide +kernel
theorem dX3_note_33 : decode cX3_note 33 = .ok (.iinc 2 1, 3) := by decide +kernel
theorem dX3_note_36 : decode cX3_note 36 = .ok (.goto (-34), 3) := by decide +kernel
theorem dX3_note_39 : decode cX3_note 39 = .ok (.iconst 0, 1) := by decide +kernel
theorem dX3_note_40 : decode cX3_note 40 = .ok (.istore_n 2, 1) := by decide +kernel
theorem dX3_note_41 : decode cX3_note 41 = .ok (.iload_n 2, 1) := by decide +kernel
theorem dX3_note_42 : decode cX3_note 42 = .ok (.aload_n 0, 1) := by decide +kernel
theorem dX3_note_43 : decode cX3_note 43 = .ok (.getfield 9, 3) := by decide +kernel
theorem dX3_note_46 : decode cX3_note 46 = .ok (.getfield 63, 3) := by decide +kernel
theorem dX3_note_49 : decode cX3_note 49 = .ok (.if_icmp .ge 73, 3) := by decide +kernel
theorem dX3_note_52 : decode cX3_note 52 = .ok (.aload_n 0, 1) := by decide +kernel
theorem dX3_note_53 : decode cX3_note 53 = .ok (.getfield 9, 3) := by decide +kernel
theorem dX3_note_56 : decode cX3_note 56 = .ok (.iload_n 2, 1) := by decide +kernel
theorem dX3_note_57 : decode cX3_note 57 = .ok (.invokevirtual 66, 3) := by decide +kernel
theorem dX3_note_60 : decode cX3_note 60 = .ok (.astore_n 3, 1) := by decide +kernel
theorem dX3_note_61 : decode cX3_note 61 = .ok (.aload_n 1, 1) := by decide +kernel
theorem dX3_note_62 : decode cX3_note 62 = .ok (.getfield 70, 3) := by decide +kernel
theorem dX3_note_65 : decode cX3_note 65 = .ok (.iconst 1, 1) := by decide +kernel
theorem dX3_note_66 : decode cX3_note 66 = .ok (.if_icmp .eq 29, 3) := by decide +kernel
theorem dX3_note_69 : decode cX3_note 69 = .ok (.aload_n 0, 1) := by decide +kernel
theorem dX3_note_70 : decode cX3_note 70 = .ok (.getfield 9, 3) := by decide +kernel
theorem dX3_note_73 : decode cX3_note 73 = .ok (.aload_n 3, 1) := by decide +kernel
theorem dX3_note_74 : decode cX3_note 74 = .ok (.invokevirtual 73, 3) := by decide +kernel
theorem dX3_note_77 : decode cX3_note 77 = .ok (.ifCond .eq 18, 3) := by decide +kernel
theorem dX3_note_80 : decode cX3_note 80 = .ok (.aload_n 3, 1) := by decide +kernel
theorem dX3_note_81 : decode cX3_note 81 = .ok (.getfield 77, 3) := by decide +kernel
theorem dX3_note_84 : decode cX3_note 84 = .ok (.aload_n 1, 1) := by decide +kernel
theorem dX3_note_85 : decode cX3_note 85 = .ok (.getfield 50, 3) := by decide +kernel
theorem dX3_note_88 : decode cX3_note 88 = .ok (.if_icmp .ne 7, 3) := by decide +kernel
theorem dX3_note_91 : decode cX3_note 91 = .ok (.iconst 1, 1) := by decide +kernel
theorem dX3_note_92 : decode cX3_note 92 = .ok (.goto 4, 3) := by decide +kernel
theorem dX3_note_95 : decode cX3_note 95 = .ok (.iconst 0, 1) := by decide +kernel
theorem dX3_note_96 : decode cX3_note 96 = .ok (.istore 4, 2) := by decide +kernel
theorem dX3_note_98 : decode cX3_note 98 = .ok (.aload_n 1, 1) := by decide +kernel
theorem dX3_note_99 : decode cX3_note 99 = .ok (.iload_n 2, 1) := by decide +kernel
theorem dX3_note_100 : decode cX3_note 100 = .ok (.iload 4, 2) := by decide +kernel
theorem dX3_note_102 : decode cX3_note 102 = .ok (.ifCond .eq 10, 3) := by decide +kernel
theorem dX3_note_105 : decode cX3_note 105 = .ok (.aload_n 3, 1) := by decide +kernel
theorem dX3_note_106 : decode cX3_note 106 = .ok (.getfield 80, 3) := by decide +kernel
theorem dX3_note_109 : decode cX3_note 109 = .ok (.goto 4, 3) := by decide +kernel
theorem dX3_note_112 : decode cX3_note 112 = .ok (.lconst 0, 1) := by decide +kernel
theorem dX3_note_113 : decode cX3_note 113 = .ok (.invokevirtual 84, 3) := by decide +kernel
theorem dX3_note_116 : decode cX3_note 116 = .ok (.iinc 2 1, 3) := by decide +kernel
theorem dX3_note_119 : decode cX3_note 119 = .ok (.goto (-78), 3) := by decide +kernel
theorem dX3_note_122 : decode cX3_note 122 = .ok (.aload_n 1, 1) := by decide +kernel
theorem dX3_note_123 : decode cX3_note 123 = .ok (.aload_n 0, 1) := by decide +kernel
theorem dX3_note_124 : decode cX3_note 124 = .ok (.getfield 9, 3) := by decide +kernel
theorem dX3_note_127 : decode cX3_note 127 = .ok (.getfield 87, 3) := by decide +kernel
theorem dX3_note_130 : decode cX3_note 130 = .ok (.putfield 90, 3) := by decide +kernel
theorem dX3_note_133 : decode cX3_note 133 = .ok (.aload_n 1, 1) := by decide +kernel
theorem dX3_note_134 : decode cX3_note 134 = .ok (.iconst 1, 1) := by decide +kernel
theorem dX3_note_135 : decode cX3_note 135 = .ok (.putfield 91, 3) := by decide +kernel
theorem dX3_note_138 : decode cX3_note 138 = .ok (.aload_n 0, 1) := by decide +kernel
theorem dX3_note_139 : decode cX3_note 139 = .ok (.getfield 9, 3) := by decide +kernel
theorem dX3_note_142 : decode cX3_note 142 = .ok (.dup, 1) := by decide +kernel
theorem dX3_note_143 : decode cX3_note 143 = .ok (.getfield 87, 3) := by decide +kernel
theorem dX3_note_146 : decode cX3_note 146 = .ok (.iconst 1, 1) := by decide +kernel
theorem dX3_note_147 : decode cX3_note 147 = .ok (.iadd, 1) := by decide +kernel
theorem dX3_note_148 : decode cX3_note 148 = .ok (.putfield 87, 3) := by decide +kernel
theorem dX3_note_151 : decode cX3_note 151 = .ok (.return_, 1) := by decide +kernel
theorem dX3_payOut_0 : decode cX3_payOut 0 = .ok (.aload_n 1, 1) := by decide +kernel
theorem dX3_payOut_1 : decode cX3_payOut 1 = .ok (.getfield 70, 3) := by decide +kernel
theorem dX3_payOut_4 : decode cX3_payOut 4 = .ok (.iconst 1, 1) := by decide +kernel
theorem dX3_payOut_5 : decode cX3_payOut 5 = .ok (.if_icmp .ne 21, 3) := by decide +kernel
theorem dX3_payOut_8 : decode cX3_payOut 8 = .ok (.aload_n 0, 1) := by decide +kernel
theorem dX3_payOut_9 : decode cX3_payOut 9 = .ok (.aload_n 1, 1) := by decide +kernel
theorem dX3_payOut_10 : decode cX3_payOut 10 = .ok (.invokevirtual 95, 3) := by decide +kernel
theorem dX3_payOut_13 : decode cX3_payOut 13 = .ok (.aload_n 0, 1) := by decide +kernel
theorem dX3_payOut_14 : decode cX3_payOut 14 = .ok (.aload_n 1, 1) := by decide +kernel
theorem dX3_payOut_15 : decode cX3_payOut 15 = .ok (.invokevirtual 98, 3) := by decide +kernel
theorem dX3_payOut_18 : decode cX3_payOut 18 = .ok (.aload_n 0, 1) := by decide +kernel
theorem dX3_payOut_19 : decode cX3_payOut 19 = .ok (.aload_n 1, 1) := by decide +kernel
theorem dX3_payOut_20 : decode cX3_payOut 20 = .ok (.invokevirtual 101, 3) := by decide +kernel
theorem dX3_payOut_23 : decode cX3_payOut 23 = .ok (.goto 23, 3) := by decide +kernel
theorem dX3_payOut_26 : decode cX3_payOut 26 = .ok (.aload_n 1, 1) := by decide +kernel
theorem dX3_payOut_27 : decode cX3_payOut 27 = .ok (.getfield 70, 3) := by decide +kernel
theorem dX3_payOut_30 : decode cX3_payOut 30 = .ok (.ifCond .ne 11, 3) := by decide +kernel
theorem dX3_payOut_33 : decode cX3_payOut 33 = .ok (.aload_n 0, 1) := by decide +kernel
theorem dX3_payOut_34 : decode cX3_payOut 34 = .ok (.aload_n 1, 1) := by decide +kernel
theorem dX3_payOut_35 : decode cX3_payOut 35 = .ok (.invokevirtual 104, 3) := by decide +kernel
theorem dX3_payOut_38 : decode cX3_payOut 38 = .ok (.goto 8, 3) := by decide +kernel
theorem dX3_payOut_41 : decode cX3_payOut 41 = .ok (.aload_n 0, 1) := by decide +kernel
theorem dX3_payOut_42 : decode cX3_payOut 42 = .ok (.aload_n 1, 1) := by decide +kernel
theorem dX3_payOut_43 : decode cX3_payOut 43 = .ok (.invokevirtual 107, 3) := by decide +kernel
theorem dX3_payOut_46 : decode cX3_payOut 46 = .ok (.aload_n 0, 1) := by decide +kernel
theorem dX3_payOut_47 : decode cX3_payOut 47 = .ok (.aload_n 1, 1) := by decide +kernel
theorem dX3_payOut_48 : decode cX3_payOut 48 = .ok (.invokevirtual 110, 3) := by decide +kernel
theorem dX3_payOut_51 : decode cX3_payOut 51 = .ok (.aload_n 1, 1) := by decide +kernel
theorem dX3_payOut_52 : decode cX3_payOut 52 = .ok (.iconst 1, 1) := by decide +kernel
theorem dX3_payOut_53 : decode cX3_payOut 53 = .ok (.putfield 113, 3) := by decide +kernel
theorem dX3_payOut_56 : decode cX3_payOut 56 = .ok (.return_, 1) := by decide +kernel
theorem dX3_payDividend_0 : decode cX3_payDividend 0 = .ok (.iconst 0, 1) := by decide +kernel
theorem dX3_payDividend_1 : decode cX3_payDividend 1 = .ok (.istore_n 2, 1) := by decide +kernel
theorem dX3_payDividend_2 : decode cX3_payDividend 2 = .ok (.iload_n 2, 1) := by decide +kernel
theorem dX3_payDividend_3 : decode cX3_payDividend 3 = .ok (.aload_n 0, 1) := by decide +kernel
theorem dX3_payDividend_4 : decode cX3_payDividend 4 = .ok (.getfield 9, 3) := by decide +kernel
theorem dX3_payDividend_7 : decode cX3_payDividend 7 = .ok (.getfield 43, 3) := by decide +kernel
theorem dX3_payDividend_10 : decode cX3_payDividend 10 = .ok (.if_icmp .ge 29, 3) := by decide +kernel
theorem dX3_payDividend_13 : decode cX3_payDividend 13 = .ok (.aload_n 0, 1) := by decide +kernel
theorem dX3_payDividend_14 : decode cX3_payDividend 14 = .ok (.iload_n 2, 1) := by decide +kernel
theorem dX3_payDividend_15 : decode cX3_payDividend 15 = .ok (.aload_n 1, 1) := by decide +kernel
theorem dX3_payDividend_16 : decode cX3_payDividend 16 = .ok (.getfield 50, 3) := by decide +kernel
theorem dX3_payDividend_19 : decode cX3_payDividend 19 = .ok (.aload_n 1, 1) := by decide +kernel
theorem dX3_payDividend_20 : decode cX3_payDividend 20 = .ok (.getfield 116, 3) := by decide +kernel
theorem dX3_payDividend_23 : decode cX3_payDividend 23 = .ok (.i2l, 1) := by decide +kernel
theorem dX3_payDividend_24 : decode cX3_payDividend 24 = .ok (.aload_n 1, 1) := by decide +kernel
theorem dX3_payDividend_25 : decode cX3_payDividend 25 = .ok (.iload_n 2, 1) := by decide +kernel
theorem dX3_payDividend_26 : decode cX3_payDividend 26 = .ok (.invokevirtual 119, 3) := by decide +kernel
theorem dX3_payDividend_29 : decode cX3_payDividend 29 = .ok (.lmul, 1) := by decide +kernel
theorem dX3_payDividend_30 : decode cX3_payDividend 30 = .ok (.invokevirtual 122, 3) := by decide +kernel
theorem dX3_payDividend_33 : decode cX3_payDividend 33 = .ok (.iinc 2 1, 3) := by decide +kernel
theorem dX3_payDividend_36 : decode cX3_payDividend 36 = .ok (.goto (-34), 3) := by decide +kernel
theorem dX3_payDividend_39 : decode cX3_payDividend 39 = .ok (.return_, 1) := by decide +kernel
theorem dX3_payLessTax_0 : decode cX3_payLessTax 0 = .ok (.aload_n 0, 1) := by decide +kernel
theorem dX3_payLessTax_1 : decode cX3_payLessTax 1 = .ok (.getfield 9, 3) := by decide +kernel
theorem dX3_payLessTax_4 : decode cX3_payLessTax 4 = .ok (.iload_n 1, 1) := by decide +kernel
theorem dX3_payLessTax_5 : decode cX3_payLessTax 5 = .ok (.invokevirtual 46, 3) := by decide +kernel
theorem dX3_payLessTax_8 : decode cX3_payLessTax 8 = .ok (.astore 5, 2) := by decide +kernel
theorem dX3_payLessTax_10 : decode cX3_payLessTax 10 = .ok (.aload 5, 2) := by decide +kernel
theorem dX3_payLessTax_12 : decode cX3_payLessTax 12 = .ok (.getfield 126, 3) := by decide +kernel
theorem dX3_payLessTax_15 : decode cX3_payLessTax 15 = .ok (.ifCond .eq 29, 3) := by decide +kernel
theorem dX3_payLessTax_18 : decode cX3_payLessTax 18 = .ok (.aload_n 0, 1) := by decide +kernel
theorem dX3_payLessTax_19 : decode cX3_payLessTax 19 = .ok (.getfield 9, 3) := by decide +kernel
theorem dX3_payLessTax_22 : decode cX3_payLessTax 22 = .ok (.aload_n 0, 1) := by decide +kernel
theorem dX3_payLessTax_23 : decode cX3_payLessTax 23 = .ok (.getfield 9, 3) := by decide +kernel
theorem dX3_payLessTax_26 : decode cX3_payLessTax 26 = .ok (.iload_n 2, 1) := by decide +kernel
theorem dX3_payLessTax_27 : decode cX3_payLessTax 27 = .ok (.invokevirtual 129, 3) := by decide +kernel
theorem dX3_payLessTax_30 : decode cX3_payLessTax 30 = .ok (.getfield 132, 3) := by decide +kernel
theorem dX3_payLessTax_33 : decode cX3_payLessTax 33 = .ok (.aload 5, 2) := by decide +kernel
theorem dX3_payLessTax_35 : decode cX3_payLessTax 35 = .ok (.getfield 137, 3) := by decide +kernel
theorem dX3_payLessTax_38 : decode cX3_payLessTax 38 = .ok (.invokevirtual 138, 3) := by decide +kernel
theorem dX3_payLessTax_41 : decode cX3_payLessTax 41 = .ok (.goto 5, 3) := by decide +kernel
theorem dX3_payLessTax_44 : decode cX3_payLessTax 44 = .ok (.bipush 30, 2) := by decide +kernel
theorem dX3_payLessTax_46 : decode cX3_payLessTax 46 = .ok (.istore 6, 2) := by decide +kernel
theorem dX3_payLessTax_48 : decode cX3_payLessTax 48 = .ok (.aload 5, 2) := by decide +kernel
theorem dX3_payLessTax_50 : decode cX3_payLessTax 50 = .ok (.dup, 1) := by decide +kernel
theorem dX3_payLessTax_51 : decode cX3_payLessTax 51 = .ok (.getfield 142, 3) := by decide +kernel
theorem dX3_payLessTax_54 : decode cX3_payLessTax 54 = .ok (.lload_n 3, 1) := by decide +kernel
theorem dX3_payLessTax_55 : decode cX3_payLessTax 55 = .ok (.lload_n 3, 1) := by decide +kernel
theorem dX3_payLessTax_56 : decode cX3_payLessTax 56 = .ok (.iload 6, 2) := by decide +kernel
theorem dX3_payLessTax_58 : decode cX3_payLessTax 58 = .ok (.i2l, 1) := by decide +kernel
theorem dX3_payLessTax_59 : decode cX3_payLessTax 59 = .ok (.lmul, 1) := by decide +kernel
theorem dX3_payLessTax_60 : decode cX3_payLessTax 60 = .ok (.ldc2_w 145, 3) := by decide +kernel
theorem dX3_payLessTax_63 : decode cX3_payLessTax 63 = .ok (.ldiv, 1) := by decide +kernel
theorem dX3_payLessTax_64 : decode cX3_payLessTax 64 = .ok (.lsub, 1) := by decide +kernel
theorem dX3_payLessTax_65 : decode cX3_payLessTax 65 = .ok (.ladd, 1) := by decide +kernel
theorem dX3_payLessTax_66 : decode cX3_payLessTax 66 = .ok (.putfield 142, 3) := by decide +kernel
theorem dX3_payLessTax_69 : decode cX3_payLessTax 69 = .ok (.return_, 1) := by decide +kernel
theorem dX3_payOption_0 : decode cX3_payOption 0 = .ok (.lconst 0, 1) := by decide +kernel
theorem dX3_payOption_1 : decode cX3_payOption 1 = .ok (.lstore_n 2, 1) := by decide +kernel
theorem dX3_payOption_2 : decode cX3_payOption 2 = .ok (.iconst 0, 1) := by decide +kernel
theorem dX3_payOption_3 : decode cX3_payOption 3 = .ok (.istore 4, 2) := by decide +kernel
theorem dX3_payOption_5 : decode cX3_payOption 5 = .ok (.iload 4, 2) := by decide +kernel
theorem dX3_payOption_7 : decode cX3_payOption 7 = .ok (.aload_n 0, 1) := by decide +kernel
theorem dX3_payOption_8 : decode cX3_payOption 8 = .ok (.getfield 9, 3) := by decide +kernel
theorem dX3_payOption_11 : decode cX3_payOption 11 = .ok (.getfield 43, 3) := by decide +kernel
theorem dX3_payOption_14 : decode cX3_payOption 14 = .ok (.if_icmp .ge 18, 3) := by decide +kernel
theorem dX3_payOption_17 : decode cX3_payOption 17 = .ok (.lload_n 2, 1) := by decide +kernel
theorem dX3_payOption_18 : decode cX3_payOption 18 = .ok (.aload_n 1, 1) := by decide +kernel
theorem dX3_payOption_19 : decode cX3_payOption 19 = .ok (.iload 4, 2) := by decide +kernel
theorem dX3_payOption_21 : decode cX3_payOption 21 = .ok (.invokevirtual 147, 3) := by decide +kernel
theorem dX3_payOption_24 : decode cX3_payOption 24 = .ok (.ladd, 1) := by decide +kernel
theorem dX3_payOption_25 : decode cX3_payOption 25 = .ok (.lstore_n 2, 1) := by decide +kernel
theorem dX3_payOption_26 : decode cX3_payOption 26 = .ok (.iinc 4 1, 3) := by decide +kernel
theorem dX3_payOption_29 : decode cX3_payOption 29 = .ok (.goto (-24), 3) := by decide +kernel
theorem dX3_payOption_32 : decode cX3_payOption 32 = .ok (.iconst 0, 1) := by decide +kernel
theorem dX3_payOption_33 : decode cX3_payOption 33 = .ok (.istore 4, 2) := by decide +kernel
theorem dX3_payOption_35 : decode cX3_payOption 35 = .ok (.iload 4, 2) := by decide +kernel
theorem dX3_payOption_37 : decode cX3_payOption 37 = .ok (.aload_n 0, 1) := by decide +kernel
theorem dX3_payOption_38 : decode cX3_payOption 38 = .ok (.getfield 9, 3) := by decide +kernel
theorem dX3_payOption_41 : decode cX3_payOption 41 = .ok (.getfield 43, 3) := by decide +kernel
theorem dX3_payOption_44 : decode cX3_payOption 44 = .ok (.if_icmp .ge 122, 3) := by decide +kernel
theorem dX3_payOption_47 : decode cX3_payOption 47 = .ok (.aload_n 1, 1) := by decide +kernel
theorem dX3_payOption_48 : decode cX3_payOption 48 = .ok (.iload 4, 2) := by decide +kernel
theorem dX3_payOption_50 : decode cX3_payOption 50 = .ok (.invokevirtual 147, 3) := by decide +kernel
theorem dX3_payOption_53 : decode cX3_payOption 53 = .ok (.lstore 5, 2) := by decide +kernel
theorem dX3_payOption_55 : decode cX3_payOption 55 = .ok (.lload_n 2, 1) := by decide +kernel
theorem dX3_payOption_56 : decode cX3_payOption 56 = .ok (.aload_n 1, 1) := by decide +kernel
theorem dX3_payOption_57 : decode cX3_payOption 57 = .ok (.getfield 150, 3) := by decide +kernel
theorem dX3_payOption_60 : decode cX3_payOption 60 = .ok (.i2l, 1) := by decide +kernel
theorem dX3_payOption_61 : decode cX3_payOption 61 = .ok (.lcmp, 1) := by decide +kernel
theorem dX3_payOption_62 : decode cX3_payOption 62 = .ok (.ifCond .le 21, 3) := by decide +kernel
theorem dX3_payOption_65 : decode cX3_payOption 65 = .ok (.lload_n 2, 1) := by decide +kernel
theorem dX3_payOption_66 : decode cX3_payOption 66 = .ok (.lconst 0, 1) := by decide +kernel
theorem dX3_payOption_67 : decode cX3_payOption 67 = .ok (.lcmp, 1) := by decide +kernel
theorem dX3_payOption_68 : decode cX3_payOption 68 = .ok (.ifCond .le 15, 3) := by decide +kernel
theorem dX3_payOption_71 : decode cX3_payOption 71 = .ok (.lload 5, 2) := by decide +kernel
theorem dX3_payOption_73 : decode cX3_payOption 73 = .ok (.aload_n 1, 1) := by decide +kernel
theorem dX3_payOption_74 : decode cX3_payOption 74 = .ok (.getfield 150, 3) := by decide +kernel
theorem dX3_payOption_77 : decode cX3_payOption 77 = .ok (.i2l, 1) := by decide +kernel
theorem dX3_payOption_78 : decode cX3_payOption 78 = .ok (.lmul, 1) := by decide +kernel
theorem dX3_payOption_79 : decode cX3_payOption 79 = .ok (.lload_n 2, 1) := by decide +kernel
theorem dX3_payOption_80 : decode cX3_payOption 80 = .ok (.ldiv, 1) := by decide +kernel
theorem dX3_payOption_81 : decode cX3_payOption 81 = .ok (.lstore 5, 2) := by decide +kernel
theorem dX3_payOption_83 : decode cX3_payOption 83 = .ok (.aload_n 0, 1) := by decide +kernel
theorem dX3_payOption_84 : decode cX3_payOption 84 = .ok (.getfield 9, 3) := by decide +kernel
theorem dX3_payOption_87 : decode cX3_payOption 87 = .ok (.iload 4, 2) := by decide +kernel
theorem dX3_payOption_89 : decode cX3_payOption 89 = .ok (.invokevirtual 46, 3) := by decide +kernel
theorem dX3_payOption_92 : decode cX3_payOption 92 = .ok (.aload_n 1, 1) := by decide +kernel
theorem dX3_payOption_93 : decode cX3_payOption 93 = .ok (.getfield 50, 3) := by decide +kernel
theorem dX3_payOption_96 : decode cX3_payOption 96 = .ok (.lload 5, 2) := by decide +kernel
theorem dX3_payOption_98 : decode cX3_payOption 98 = .ok (.aload_n 0, 1) := by decide +kernel
theorem dX3_payOption_99 : decode cX3_payOption 99 = .ok (.getfield 9, 3) := by decide +kernel
theorem dX3_payOption_102 : decode cX3_payOption 102 = .ok (.getfield 87, 3) := by decide +kernel
theorem dX3_payOption_105 : decode cX3_payOption 105 = .ok (.invokevirtual 153, 3) := by decide +kernel
theorem dX3_payOption_108 : decode cX3_payOption 108 = .ok (.aload_n 0, 1) := by decide +kernel
theorem dX3_payOption_109 : decode cX3_payOption 109 = .ok (.getfield 9, 3) := by decide +kernel
theorem dX3_payOption_112 : decode cX3_payOption 112 = .ok (.aload_n 1, 1) := by decide +kernel
theorem dX3_payOption_113 : decode cX3_payOption 113 = .ok (.getfield 50, 3) := by decide +kernel
theorem dX3_payOption_116 : decode cX3_payOption 116 = .ok (.invokevirtual 129, 3) := by decide +kernel
theorem dX3_payOption_119 : decode cX3_payOption 119 = .ok (.dup, 1) := by decide +kernel
theorem dX3_payOption_120 : decode cX3_payOption 120 = .ok (.getfield 157, 3) := by decide +kernel
theorem dX3_payOption_123 : decode cX3_payOption 123 = .ok (.lload 5, 2) := by decide +kernel
theorem dX3_payOption_125 : decode cX3_payOption 125 = .ok (.ladd, 1) := by decide +kernel
theorem dX3_payOption_126 : decode cX3_payOption 126 = .ok (.putfield 157, 3) := by decide +kernel
theorem dX3_payOption_129 : decode cX3_payOption 129 = .ok (.aload_n 0, 1) := by decide +kernel
theorem dX3_payOption_130 : decode cX3_payOption 130 = .ok (.iload 4, 2) := by decide +kernel
theorem dX3_payOption_132 : decode cX3_payOption 132 = .ok (.aload_n 1, 1) := by decide +kernel
theorem dX3_payOption_133 : decode cX3_payOption 133 = .ok (.getfield 50, 3) := by decide +kernel
theorem dX3_payOption_136 : decode cX3_payOption 136 = .ok (.aload_n 1, 1) := by decide +kernel
theorem dX3_payOption_137 : decode cX3_payOption 137 = .ok (.getfield 116, 3) := by decide +kernel
theorem dX3_payOption_140 : decode cX3_payOption 140 = .ok (.i2l, 1) := by decide +kernel
theorem dX3_payOption_141 : decode cX3_payOption 141 = .ok (.aload_n 1, 1) := by decide +kernel
theorem dX3_payOption_142 : decode cX3_payOption 142 = .ok (.iload 4, 2) := by decide +kernel
theorem dX3_payOption_144 : decode cX3_payOption 144 = .ok (.invokevirtual 119, 3) := by decide +kernel
theorem dX3_payOption_147 : decode cX3_payOption 147 = .ok (.aload_n 1, 1) := by decide +kernel
theorem dX3_payOption_148 : decode cX3_payOption 148 = .ok (.getfield 160, 3) := by decide +kernel
theorem dX3_payOption_151 : decode cX3_payOption 151 = .ok (.i2l, 1) := by decide +kernel
theorem dX3_payOption_152 : decode cX3_payOption 152 = .ok (.lload 5, 2) := by decide +kernel
theorem dX3_payOption_154 : decode cX3_payOption 154 = .ok (.lmul, 1) := by decide +kernel
theorem dX3_payOption_155 : decode cX3_payOption 155 = .ok (.lsub, 1) := by decide +kernel
theorem dX3_payOption_156 : decode cX3_payOption 156 = .ok (.lmul, 1) := by decide +kernel
theorem dX3_payOption_157 : decode cX3_payOption 157 = .ok (.invokevirtual 122, 3) := by decide +kernel
theorem dX3_payOption_160 : decode cX3_payOption 160 = .ok (.iinc 4 1, 3) := by decide +kernel
theorem dX3_payOption_163 : decode cX3_payOption 163 = .ok (.goto (-128), 3) := by decide +kernel
theorem dX3_payOption_166 : decode cX3_payOption 166 = .ok (.return_, 1) := by decide +kernel
theorem dX3_payClaims_0 : decode cX3_payClaims 0 = .ok (.iconst 0, 1) := by decide +kernel
theorem dX3_payClaims_1 : decode cX3_payClaims 1 = .ok (.istore_n 2, 1) := by decide +kernel
theorem dX3_payClaims_2 : decode cX3_payClaims 2 = .ok (.iload_n 2, 1) := by decide +kernel
theorem dX3_payClaims_3 : decode cX3_payClaims 3 = .ok (.aload_n 0, 1) := by decide +kernel
theorem dX3_payClaims_4 : decode cX3_payClaims 4 = .ok (.getfield 9, 3) := by decide +kernel
theorem dX3_payClaims_7 : decode cX3_payClaims 7 = .ok (.getfield 63, 3) := by decide +kernel
theorem dX3_payClaims_10 : decode cX3_payClaims 10 = .ok (.if_icmp .ge 44, 3) := by decide +kernel
theorem dX3_payClaims_13 : decode cX3_payClaims 13 = .ok (.aload_n 0, 1) := by decide +kernel
theorem dX3_payClaims_14 : decode cX3_payClaims 14 = .ok (.getfield 9, 3) := by decide +kernel
theorem dX3_payClaims_17 : decode cX3_payClaims 17 = .ok (.iload_n 2, 1) := by decide +kernel
theorem dX3_payClaims_18 : decode cX3_payClaims 18 = .ok (.invokevirtual 66, 3) := by decide +kernel
theorem dX3_payClaims_21 : decode cX3_payClaims 21 = .ok (.astore_n 3, 1) := by decide +kernel
theorem dX3_payClaims_22 : decode cX3_payClaims 22 = .ok (.aload_n 0, 1) := by decide +kernel
theorem dX3_payClaims_23 : decode cX3_payClaims 23 = .ok (.getfield 9, 3) := by decide +kernel
theorem dX3_payClaims_26 : decode cX3_payClaims 26 = .ok (.aload_n 3, 1) := by decide +kernel
theorem dX3_payClaims_27 : decode cX3_payClaims 27 = .ok (.getfield 163, 3) := by decide +kernel
theorem dX3_payClaims_30 : decode cX3_payClaims 30 = .ok (.aload_n 3, 1) := by decide +kernel
theorem dX3_payClaims_31 : decode cX3_payClaims 31 = .ok (.getfield 166, 3) := by decide +kernel
theorem dX3_payClaims_34 : decode cX3_payClaims 34 = .ok (.aload_n 1, 1) := by decide +kernel
theorem dX3_payClaims_35 : decode cX3_payClaims 35 = .ok (.getfield 116, 3) := by decide +kernel
theorem dX3_payClaims_38 : decode cX3_payClaims 38 = .ok (.i2l, 1) := by decide +kernel
theorem dX3_payClaims_39 : decode cX3_payClaims 39 = .ok (.aload_n 1, 1) := by decide +kernel
theorem dX3_payClaims_40 : decode cX3_payClaims 40 = .ok (.iload_n 2, 1) := by decide +kernel
theorem dX3_payClaims_41 : decode cX3_payClaims 41 = .ok (.invokevirtual 169, 3) := by decide +kernel
theorem dX3_payClaims_44 : decode cX3_payClaims 44 = .ok (.lmul, 1) := by decide +kernel
theorem dX3_payClaims_45 : decode cX3_payClaims 45 = .ok (.invokevirtual 172, 3) := by decide +kernel
theorem dX3_payClaims_48 : decode cX3_payClaims 48 = .ok (.iinc 2 1, 3) := by decide +kernel
theorem dX3_payClaims_51 : decode cX3_payClaims 51 = .ok (.goto (-49), 3) := by decide +kernel
theorem dX3_payClaims_54 : decode cX3_payClaims 54 = .ok (.return_, 1) := by decide +kernel
theorem dX3_splitHoldings_0 : decode cX3_splitHoldings 0 = .ok (.lconst 0, 1) := by decide +kernel
theorem dX3_splitHoldings_1 : decode cX3_splitHoldings 1 = .ok (.lstore_n 2, 1) := by decide +kernel
theorem dX3_splitHoldings_2 : decode cX3_splitHoldings 2 = .ok (.iconst 0, 1) := by decide +kernel
theorem dX3_splitHoldings_3 : decode cX3_splitHoldings 3 = .ok (.istore 4, 2) := by decide +kernel
theorem dX3_splitHoldings_5 : decode cX3_splitHoldings 5 = .ok (.iload 4, 2) := by decide +kernel
theorem dX3_splitHoldings_7 : decode cX3_splitHoldings 7 = .ok (.aload_n 0, 1) := by decide +kernel
theorem dX3_splitHoldings_8 : decode cX3_splitHoldings 8 = .ok (.getfield 9, 3) := by decide +kernel
theorem dX3_splitHoldings_11 : decode cX3_splitHoldings 11 = .ok (.getfield 43, 3) := by decide +kernel
theorem dX3_splitHoldings_14 : decode cX3_splitHoldings 14 = .ok (.if_icmp .ge 34, 3) := by decide +kernel
theorem dX3_splitHoldings_17 : decode cX3_splitHoldings 17 = .ok (.aload_n 0, 1) := by decide +kernel
theorem dX3_splitHoldings_18 : decode cX3_splitHoldings 18 = .ok (.getfield 9, 3) := by decide +kernel
theorem dX3_splitHoldings_21 : decode cX3_splitHoldings 21 = .ok (.iload 4, 2) := by decide +kernel
theorem dX3_splitHoldings_23 : decode cX3_splitHoldings 23 = .ok (.invokevirtual 46, 3) := by decide +kernel
theorem dX3_splitHoldings_26 : decode cX3_splitHoldings 26 = .ok (.getfield 175, 3) := by decide +kernel
theorem dX3_splitHoldings_29 : decode cX3_splitHoldings 29 = .ok (.ifCond .ne 13, 3) := by decide +kernel
theorem dX3_splitHoldings_32 : decode cX3_splitHoldings 32 = .ok (.lload_n 2, 1) := by decide +kernel
theorem dX3_splitHoldings_33 : decode cX3_splitHoldings 33 = .ok (.aload_n 0, 1) := by decide +kernel
theorem dX3_splitHoldings_34 : decode cX3_splitHoldings 34 = .ok (.aload_n 1, 1) := by decide +kernel
theorem dX3_splitHoldings_35 : decode cX3_splitHoldings 35 = .ok (.iload 4, 2) := by decide +kernel
theorem dX3_splitHoldings_37 : decode cX3_splitHoldings 37 = .ok (.invokevirtual 178, 3) := by decide +kernel
theorem dX3_splitHoldings_40 : decode cX3_splitHoldings 40 = .ok (.ladd, 1) := by decide +kernel
theorem dX3_splitHoldings_41 : decode cX3_splitHoldings 41 = .ok (.lstore_n 2, 1) := by decide +kernel
theorem dX3_splitHoldings_42 : decode cX3_splitHoldings 42 = .ok (.iinc 4 1, 3) := by decide +kernel
theorem dX3_splitHoldings_45 : decode cX3_splitHoldings 45 = .ok (.goto (-40), 3) := by decide +kernel
theorem dX3_splitHoldings_48 : decode cX3_splitHoldings 48 = .ok (.aload_n 0, 1) := by decide +kernel
theorem dX3_splitHoldings_49 : decode cX3_splitHoldings 49 = .ok (.getfield 9, 3) := by decide +kernel
theorem dX3_splitHoldings_52 : decode cX3_splitHoldings 52 = .ok (.aload_n 1, 1) := by decide +kernel
theorem dX3_splitHoldings_53 : decode cX3_splitHoldings 53 = .ok (.getfield 50, 3) := by decide +kernel
theorem dX3_splitHoldings_56 : decode cX3_splitHoldings 56 = .ok (.invokevirtual 129, 3) := by decide +kernel
theorem dX3_splitHoldings_59 : decode cX3_splitHoldings 59 = .ok (.lload_n 2, 1) := by decide +kernel
theorem dX3_splitHoldings_60 : decode cX3_splitHoldings 60 = .ok (.putfield 157, 3) := by decide +kernel
theorem dX3_splitHoldings_63 : decode cX3_splitHoldings 63 = .ok (.return_, 1) := by decide +kernel
