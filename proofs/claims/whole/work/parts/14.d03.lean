theorem dX3_splitWithPool_0 : decode cX3_splitWithPool 0 = .ok (.aload_n 0, 1) := by decide +kernel
theorem dX3_splitWithPool_1 : decode cX3_splitWithPool 1 = .ok (.getfield 9, 3) := by decide +kernel
theorem dX3_splitWithPool_4 : decode cX3_splitWithPool 4 = .ok (.iload_n 2, 1) := by decide +kernel
theorem dX3_splitWithPool_5 : decode cX3_splitWithPool 5 = .ok (.invokevirtual 46, 3) := by decide +kernel
theorem dX3_splitWithPool_8 : decode cX3_splitWithPool 8 = .ok (.aload_n 1, 1) := by decide +kernel
theorem dX3_splitWithPool_9 : decode cX3_splitWithPool 9 = .ok (.getfield 50, 3) := by decide +kernel
theorem dX3_splitWithPool_12 : decode cX3_splitWithPool 12 = .ok (.invokevirtual 53, 3) := by decide +kernel
theorem dX3_splitWithPool_15 : decode cX3_splitWithPool 15 = .ok (.lstore_n 3, 1) := by decide +kernel
theorem dX3_splitWithPool_16 : decode cX3_splitWithPool 16 = .ok (.lload_n 3, 1) := by decide +kernel
theorem dX3_splitWithPool_17 : decode cX3_splitWithPool 17 = .ok (.lstore 5, 2) := by decide +kernel
theorem dX3_splitWithPool_19 : decode cX3_splitWithPool 19 = .ok (.lconst 0, 1) := by decide +kernel
theorem dX3_splitWithPool_20 : decode cX3_splitWithPool 20 = .ok (.lstore 7, 2) := by decide +kernel
theorem dX3_splitWithPool_22 : decode cX3_splitWithPool 22 = .ok (.iconst 0, 1) := by decide +kernel
theorem dX3_splitWithPool_23 : decode cX3_splitWithPool 23 = .ok (.istore 9, 2) := by decide +kernel
theorem dX3_splitWithPool_25 : decode cX3_splitWithPool 25 = .ok (.iload 9, 2) := by decide +kernel
theorem dX3_splitWithPool_27 : decode cX3_splitWithPool 27 = .ok (.aload_n 0, 1) := by decide +kernel
theorem dX3_splitWithPool_28 : decode cX3_splitWithPool 28 = .ok (.getfield 9, 3) := by decide +kernel
theorem dX3_splitWithPool_31 : decode cX3_splitWithPool 31 = .ok (.getfield 43, 3) := by decide +kernel
theorem dX3_splitWithPool_34 : decode cX3_splitWithPool 34 = .ok (.if_icmp .ge 79, 3) := by decide +kernel
theorem dX3_splitWithPool_37 : decode cX3_splitWithPool 37 = .ok (.aload_n 0, 1) := by decide +kernel
theorem dX3_splitWithPool_38 : decode cX3_splitWithPool 38 = .ok (.getfield 9, 3) := by decide +kernel
theorem dX3_splitWithPool_41 : decode cX3_splitWithPool 41 = .ok (.iload 9, 2) := by decide +kernel
theorem dX3_splitWithPool_43 : decode cX3_splitWithPool 43 = .ok (.invokevirtual 46, 3) := by decide +kernel
theorem dX3_splitWithPool_46 : decode cX3_splitWithPool 46 = .ok (.astore 10, 2) := by decide +kernel
theorem dX3_splitWithPool_48 : decode cX3_splitWithPool 48 = .ok (.aload 10, 2) := by decide +kernel
theorem dX3_splitWithPool_50 : decode cX3_splitWithPool 50 = .ok (.getfield 175, 3) := by decide +kernel
theorem dX3_splitWithPool_53 : decode cX3_splitWithPool 53 = .ok (.ifCond .eq 54, 3) := by decide +kernel
theorem dX3_splitWithPool_56 : decode cX3_splitWithPool 56 = .ok (.aload 10, 2) := by decide +kernel
theorem dX3_splitWithPool_58 : decode cX3_splitWithPool 58 = .ok (.getfield 182, 3) := by decide +kernel
theorem dX3_splitWithPool_61 : decode cX3_splitWithPool 61 = .ok (.iload_n 2, 1) := by decide +kernel
theorem dX3_splitWithPool_62 : decode cX3_splitWithPool 62 = .ok (.if_icmp .ne 45, 3) := by decide +kernel
theorem dX3_splitWithPool_65 : decode cX3_splitWithPool 65 = .ok (.aload 10, 2) := by decide +kernel
theorem dX3_splitWithPool_67 : decode cX3_splitWithPool 67 = .ok (.aload_n 1, 1) := by decide +kernel
theorem dX3_splitWithPool_68 : decode cX3_splitWithPool 68 = .ok (.getfield 50, 3) := by decide +kernel
theorem dX3_splitWithPool_71 : decode cX3_splitWithPool 71 = .ok (.invokevirtual 53, 3) := by decide +kernel
theorem dX3_splitWithPool_74 : decode cX3_splitWithPool 74 = .ok (.lstore 11, 2) := by decide +kernel
theorem dX3_splitWithPool_76 : decode cX3_splitWithPool 76 = .ok (.lload 5, 2) := by decide +kernel
theorem dX3_splitWithPool_78 : decode cX3_splitWithPool 78 = .ok (.lload 11, 2) := by decide +kernel
theorem dX3_splitWithPool_80 : decode cX3_splitWithPool 80 = .ok (.ladd, 1) := by decide +kernel
theorem dX3_splitWithPool_81 : decode cX3_splitWithPool 81 = .ok (.lstore 5, 2) := by decide +kernel
theorem dX3_splitWithPool_83 : decode cX3_splitWithPool 83 = .ok (.lload 7, 2) := by decide +kernel
theorem dX3_splitWithPool_85 : decode cX3_splitWithPool 85 = .ok (.aload_n 1, 1) := by decide +kernel
theorem dX3_splitWithPool_86 : decode cX3_splitWithPool 86 = .ok (.lload 11, 2) := by decide +kernel
theorem dX3_splitWithPool_88 : decode cX3_splitWithPool 88 = .ok (.invokevirtual 185, 3) := by decide +kernel
theorem dX3_splitWithPool_91 : decode cX3_splitWithPool 91 = .ok (.ladd, 1) := by decide +kernel
theorem dX3_splitWithPool_92 : decode cX3_splitWithPool 92 = .ok (.lstore 7, 2) := by decide +kernel
theorem dX3_splitWithPool_94 : decode cX3_splitWithPool 94 = .ok (.aload_n 0, 1) := by decide +kernel
theorem dX3_splitWithPool_95 : decode cX3_splitWithPool 95 = .ok (.aload_n 1, 1) := by decide +kernel
theorem dX3_splitWithPool_96 : decode cX3_splitWithPool 96 = .ok (.aload 10, 2) := by decide +kernel
theorem dX3_splitWithPool_98 : decode cX3_splitWithPool 98 = .ok (.aload_n 1, 1) := by decide +kernel
theorem dX3_splitWithPool_99 : decode cX3_splitWithPool 99 = .ok (.lload 11, 2) := by decide +kernel
theorem dX3_splitWithPool_101 : decode cX3_splitWithPool 101 = .ok (.invokevirtual 185, 3) := by decide +kernel
theorem dX3_splitWithPool_104 : decode cX3_splitWithPool 104 = .ok (.invokevirtual 189, 3) := by decide +kernel
theorem dX3_splitWithPool_107 : decode cX3_splitWithPool 107 = .ok (.iinc 9 1, 3) := by decide +kernel
theorem dX3_splitWithPool_110 : decode cX3_splitWithPool 110 = .ok (.goto (-85), 3) := by decide +kernel
theorem dX3_splitWithPool_113 : decode cX3_splitWithPool 113 = .ok (.aload_n 1, 1) := by decide +kernel
theorem dX3_splitWithPool_114 : decode cX3_splitWithPool 114 = .ok (.lload 5, 2) := by decide +kernel
theorem dX3_splitWithPool_116 : decode cX3_splitWithPool 116 = .ok (.invokevirtual 185, 3) := by decide +kernel
theorem dX3_splitWithPool_119 : decode cX3_splitWithPool 119 = .ok (.lstore 9, 2) := by decide +kernel
theorem dX3_splitWithPool_121 : decode cX3_splitWithPool 121 = .ok (.aload_n 0, 1) := by decide +kernel
theorem dX3_splitWithPool_122 : decode cX3_splitWithPool 122 = .ok (.aload_n 1, 1) := by decide +kernel
theorem dX3_splitWithPool_123 : decode cX3_splitWithPool 123 = .ok (.aload_n 0, 1) := by decide +kernel
theorem dX3_splitWithPool_124 : decode cX3_splitWithPool 124 = .ok (.getfield 9, 3) := by decide +kernel
theorem dX3_splitWithPool_127 : decode cX3_splitWithPool 127 = .ok (.iload_n 2, 1) := by decide +kernel
theorem dX3_splitWithPool_128 : decode cX3_splitWithPool 128 = .ok (.invokevirtual 46, 3) := by decide +kernel
theorem dX3_splitWithPool_131 : decode cX3_splitWithPool 131 = .ok (.lload 9, 2) := by decide +kernel
theorem dX3_splitWithPool_133 : decode cX3_splitWithPool 133 = .ok (.lload 7, 2) := by decide +kernel
theorem dX3_splitWithPool_135 : decode cX3_splitWithPool 135 = .ok (.lsub, 1) := by decide +kernel
theorem dX3_splitWithPool_136 : decode cX3_splitWithPool 136 = .ok (.invokevirtual 189, 3) := by decide +kernel
theorem dX3_splitWithPool_139 : decode cX3_splitWithPool 139 = .ok (.lload 9, 2) := by decide +kernel
theorem dX3_splitWithPool_141 : decode cX3_splitWithPool 141 = .ok (.lreturn, 1) := by decide +kernel
theorem dX3_splitAccount_0 : decode cX3_splitAccount 0 = .ok (.aload_n 2, 1) := by decide +kernel
theorem dX3_splitAccount_1 : decode cX3_splitAccount 1 = .ok (.aload_n 1, 1) := by decide +kernel
theorem dX3_splitAccount_2 : decode cX3_splitAccount 2 = .ok (.getfield 50, 3) := by decide +kernel
theorem dX3_splitAccount_5 : decode cX3_splitAccount 5 = .ok (.lload_n 3, 1) := by decide +kernel
theorem dX3_splitAccount_6 : decode cX3_splitAccount 6 = .ok (.aload_n 2, 1) := by decide +kernel
theorem dX3_splitAccount_7 : decode cX3_splitAccount 7 = .ok (.aload_n 1, 1) := by decide +kernel
theorem dX3_splitAccount_8 : decode cX3_splitAccount 8 = .ok (.getfield 50, 3) := by decide +kernel
theorem dX3_splitAccount_11 : decode cX3_splitAccount 11 = .ok (.invokevirtual 53, 3) := by decide +kernel
theorem dX3_splitAccount_14 : decode cX3_splitAccount 14 = .ok (.lsub, 1) := by decide +kernel
theorem dX3_splitAccount_15 : decode cX3_splitAccount 15 = .ok (.aload_n 0, 1) := by decide +kernel
theorem dX3_splitAccount_16 : decode cX3_splitAccount 16 = .ok (.getfield 9, 3) := by decide +kernel
theorem dX3_splitAccount_19 : decode cX3_splitAccount 19 = .ok (.getfield 87, 3) := by decide +kernel
theorem dX3_splitAccount_22 : decode cX3_splitAccount 22 = .ok (.invokevirtual 153, 3) := by decide +kernel
theorem dX3_splitAccount_25 : decode cX3_splitAccount 25 = .ok (.aload_n 2, 1) := by decide +kernel
theorem dX3_splitAccount_26 : decode cX3_splitAccount 26 = .ok (.aload_n 1, 1) := by decide +kernel
theorem dX3_splitAccount_27 : decode cX3_splitAccount 27 = .ok (.getfield 50, 3) := by decide +kernel
theorem dX3_splitAccount_30 : decode cX3_splitAccount 30 = .ok (.aload_n 1, 1) := by decide +kernel
theorem dX3_splitAccount_31 : decode cX3_splitAccount 31 = .ok (.aload_n 2, 1) := by decide +kernel
theorem dX3_splitAccount_32 : decode cX3_splitAccount 32 = .ok (.aload_n 1, 1) := by decide +kernel
theorem dX3_splitAccount_33 : decode cX3_splitAccount 33 = .ok (.getfield 50, 3) := by decide +kernel
theorem dX3_splitAccount_36 : decode cX3_splitAccount 36 = .ok (.invokevirtual 193, 3) := by decide +kernel
theorem dX3_splitAccount_39 : decode cX3_splitAccount 39 = .ok (.invokevirtual 185, 3) := by decide +kernel
theorem dX3_splitAccount_42 : decode cX3_splitAccount 42 = .ok (.invokevirtual 196, 3) := by decide +kernel
theorem dX3_splitAccount_45 : decode cX3_splitAccount 45 = .ok (.return_, 1) := by decide +kernel
theorem dX3_splitLoans_0 : decode cX3_splitLoans 0 = .ok (.iconst 0, 1) := by decide +kernel
theorem dX3_splitLoans_1 : decode cX3_splitLoans 1 = .ok (.istore_n 2, 1) := by decide +kernel
theorem dX3_splitLoans_2 : decode cX3_splitLoans 2 = .ok (.iload_n 2, 1) := by decide +kernel
theorem dX3_splitLoans_3 : decode cX3_splitLoans 3 = .ok (.aload_n 0, 1) := by decide +kernel
theorem dX3_splitLoans_4 : decode cX3_splitLoans 4 = .ok (.getfield 9, 3) := by decide +kernel
theorem dX3_splitLoans_7 : decode cX3_splitLoans 7 = .ok (.getfield 199, 3) := by decide +kernel
theorem dX3_splitLoans_10 : decode cX3_splitLoans 10 = .ok (.if_icmp .ge 41, 3) := by decide +kernel
theorem dX3_splitLoans_13 : decode cX3_splitLoans 13 = .ok (.aload_n 0, 1) := by decide +kernel
theorem dX3_splitLoans_14 : decode cX3_splitLoans 14 = .ok (.getfield 9, 3) := by decide +kernel
theorem dX3_splitLoans_17 : decode cX3_splitLoans 17 = .ok (.iload_n 2, 1) := by decide +kernel
theorem dX3_splitLoans_18 : decode cX3_splitLoans 18 = .ok (.invokevirtual 202, 3) := by decide +kernel
theorem dX3_splitLoans_21 : decode cX3_splitLoans 21 = .ok (.astore_n 3, 1) := by decide +kernel
theorem dX3_splitLoans_22 : decode cX3_splitLoans 22 = .ok (.aload_n 3, 1) := by decide +kernel
theorem dX3_splitLoans_23 : decode cX3_splitLoans 23 = .ok (.getfield 206, 3) := by decide +kernel
theorem dX3_splitLoans_26 : decode cX3_splitLoans 26 = .ok (.aload_n 1, 1) := by decide +kernel
theorem dX3_splitLoans_27 : decode cX3_splitLoans 27 = .ok (.getfield 50, 3) := by decide +kernel
theorem dX3_splitLoans_30 : decode cX3_splitLoans 30 = .ok (.if_icmp .ne 15, 3) := by decide +kernel
theorem dX3_splitLoans_33 : decode cX3_splitLoans 33 = .ok (.aload_n 3, 1) := by decide +kernel
theorem dX3_splitLoans_34 : decode cX3_splitLoans 34 = .ok (.aload_n 1, 1) := by decide +kernel
theorem dX3_splitLoans_35 : decode cX3_splitLoans 35 = .ok (.aload_n 3, 1) := by decide +kernel
theorem dX3_splitLoans_36 : decode cX3_splitLoans 36 = .ok (.getfield 209, 3) := by decide +kernel
theorem dX3_splitLoans_39 : decode cX3_splitLoans 39 = .ok (.invokevirtual 185, 3) := by decide +kernel
theorem dX3_splitLoans_42 : decode cX3_splitLoans 42 = .ok (.putfield 209, 3) := by decide +kernel
theorem dX3_splitLoans_45 : decode cX3_splitLoans 45 = .ok (.iinc 2 1, 3) := by decide +kernel
theorem dX3_splitLoans_48 : decode cX3_splitLoans 48 = .ok (.goto (-46), 3) := by decide +kernel
theorem dX3_splitLoans_51 : decode cX3_splitLoans 51 = .ok (.return_, 1) := by decide +kernel
theorem dX3_splitTrades_0 : decode cX3_splitTrades 0 = .ok (.iconst 0, 1) := by decide +kernel
theorem dX3_splitTrades_1 : decode cX3_splitTrades 1 = .ok (.istore_n 2, 1) := by decide +kernel
theorem dX3_splitTrades_2 : decode cX3_splitTrades 2 = .ok (.iload_n 2, 1) := by decide +kernel
theorem dX3_splitTrades_3 : decode cX3_splitTrades 3 = .ok (.aload_n 0, 1) := by decide +kernel
theorem dX3_splitTrades_4 : decode cX3_splitTrades 4 = .ok (.getfield 9, 3) := by decide +kernel
theorem dX3_splitTrades_7 : decode cX3_splitTrades 7 = .ok (.getfield 63, 3) := by decide +kernel
theorem dX3_splitTrades_10 : decode cX3_splitTrades 10 = .ok (.if_icmp .ge 78, 3) := by decide +kernel
theorem dX3_splitTrades_13 : decode cX3_splitTrades 13 = .ok (.aload_n 0, 1) := by decide +kernel
theorem dX3_splitTrades_14 : decode cX3_splitTrades 14 = .ok (.getfield 9, 3) := by decide +kernel
theorem dX3_splitTrades_17 : decode cX3_splitTrades 17 = .ok (.iload_n 2, 1) := by decide +kernel
theorem dX3_splitTrades_18 : decode cX3_splitTrades 18 = .ok (.invokevirtual 66, 3) := by decide +kernel
theorem dX3_splitTrades_21 : decode cX3_splitTrades 21 = .ok (.astore_n 3, 1) := by decide +kernel
theorem dX3_splitTrades_22 : decode cX3_splitTrades 22 = .ok (.aload_n 3, 1) := by decide +kernel
theorem dX3_splitTrades_23 : decode cX3_splitTrades 23 = .ok (.getfield 210, 3) := by decide +kernel
theorem dX3_splitTrades_26 : decode cX3_splitTrades 26 = .ok (.iconst 1, 1) := by decide +kernel
theorem dX3_splitTrades_27 : decode cX3_splitTrades 27 = .ok (.if_icmp .ne 55, 3) := by decide +kernel
theorem dX3_splitTrades_30 : decode cX3_splitTrades 30 = .ok (.aload_n 3, 1) := by decide +kernel
theorem dX3_splitTrades_31 : decode cX3_splitTrades 31 = .ok (.getfield 77, 3) := by decide +kernel
theorem dX3_splitTrades_34 : decode cX3_splitTrades 34 = .ok (.aload_n 1, 1) := by decide +kernel
theorem dX3_splitTrades_35 : decode cX3_splitTrades 35 = .ok (.getfield 50, 3) := by decide +kernel
theorem dX3_splitTrades_38 : decode cX3_splitTrades 38 = .ok (.if_icmp .ne 44, 3) := by decide +kernel
theorem dX3_splitTrades_41 : decode cX3_splitTrades 41 = .ok (.aload_n 3, 1) := by decide +kernel
theorem dX3_splitTrades_42 : decode cX3_splitTrades 42 = .ok (.aload_n 1, 1) := by decide +kernel
theorem dX3_splitTrades_43 : decode cX3_splitTrades 43 = .ok (.aload_n 3, 1) := by decide +kernel
theorem dX3_splitTrades_44 : decode cX3_splitTrades 44 = .ok (.getfield 80, 3) := by decide +kernel
theorem dX3_splitTrades_47 : decode cX3_splitTrades 47 = .ok (.invokevirtual 185, 3) := by decide +kernel
theorem dX3_splitTrades_50 : decode cX3_splitTrades 50 = .ok (.putfield 80, 3) := by decide +kernel
theorem dX3_splitTrades_53 : decode cX3_splitTrades 53 = .ok (.aload_n 3, 1) := by decide +kernel
theorem dX3_splitTrades_54 : decode cX3_splitTrades 54 = .ok (.aload_n 1, 1) := by decide +kernel
theorem dX3_splitTrades_55 : decode cX3_splitTrades 55 = .ok (.aload_n 3, 1) := by decide +kernel
theorem dX3_splitTrades_56 : decode cX3_splitTrades 56 = .ok (.getfield 213, 3) := by decide +kernel
theorem dX3_splitTrades_59 : decode cX3_splitTrades 59 = .ok (.invokevirtual 185, 3) := by decide +kernel
theorem dX3_splitTrades_62 : decode cX3_splitTrades 62 = .ok (.putfield 213, 3) := by decide +kernel
theorem dX3_splitTrades_65 : decode cX3_splitTrades 65 = .ok (.aload_n 3, 1) := by decide +kernel
theorem dX3_splitTrades_66 : decode cX3_splitTrades 66 = .ok (.getfield 80, 3) := by decide +kernel
theorem dX3_splitTrades_69 : decode cX3_splitTrades 69 = .ok (.lconst 0, 1) := by decide +kernel
theorem dX3_splitTrades_70 : decode cX3_splitTrades 70 = .ok (.lcmp, 1) := by decide +kernel
theorem dX3_splitTrades_71 : decode cX3_splitTrades 71 = .ok (.ifCond .ne 11, 3) := by decide +kernel
theorem dX3_splitTrades_74 : decode cX3_splitTrades 74 = .ok (.aload_n 0, 1) := by decide +kernel
theorem dX3_splitTrades_75 : decode cX3_splitTrades 75 = .ok (.getfield 9, 3) := by decide +kernel
theorem dX3_splitTrades_78 : decode cX3_splitTrades 78 = .ok (.aload_n 3, 1) := by decide +kernel
theorem dX3_splitTrades_79 : decode cX3_splitTrades 79 = .ok (.invokevirtual 216, 3) := by decide +kernel
theorem dX3_splitTrades_82 : decode cX3_splitTrades 82 = .ok (.iinc 2 1, 3) := by decide +kernel
theorem dX3_splitTrades_85 : decode cX3_splitTrades 85 = .ok (.goto (-83), 3) := by decide +kernel
theorem dX3_splitTrades_88 : decode cX3_splitTrades 88 = .ok (.return_, 1) := by decide +kernel
theorem dX3_tellFinesOfTrades_0 : decode cX3_tellFinesOfTrades 0 = .ok (.iconst 0, 1) := by decide +kernel
theorem dX3_tellFinesOfTrades_1 : decode cX3_tellFinesOfTrades 1 = .ok (.istore_n 1, 1) := by decide +kernel
theorem dX3_tellFinesOfTrades_2 : decode cX3_tellFinesOfTrades 2 = .ok (.iconst 0, 1) := by decide +kernel
theorem dX3_tellFinesOfTrades_3 : decode cX3_tellFinesOfTrades 3 = .ok (.istore_n 2, 1) := by decide +kernel
theorem dX3_tellFinesOfTrades_4 : decode cX3_tellFinesOfTrades 4 = .ok (.iload_n 2, 1) := by decide +kernel
theorem dX3_tellFinesOfTrades_5 : decode cX3_tellFinesOfTrades 5 = .ok (.aload_n 0, 1) := by decide +kernel
theorem dX3_tellFinesOfTrades_6 : decode cX3_tellFinesOfTrades 6 = .ok (.getfield 9, 3) := by decide +kernel
theorem dX3_tellFinesOfTrades_9 : decode cX3_tellFinesOfTrades 9 = .ok (.getfield 63, 3) := by decide +kernel
theorem dX3_tellFinesOfTrades_12 : decode cX3_tellFinesOfTrades 12 = .ok (.if_icmp .ge 61, 3) := by decide +kernel
theorem dX3_tellFinesOfTrades_15 : decode cX3_tellFinesOfTrades 15 = .ok (.aload_n 0, 1) := by decide +kernel
theorem dX3_tellFinesOfTrades_16 : decode cX3_tellFinesOfTrades 16 = .ok (.getfield 9, 3) := by decide +kernel
theorem dX3_tellFinesOfTrades_19 : decode cX3_tellFinesOfTrades 19 = .ok (.iload_n 2, 1) := by decide +kernel
theorem dX3_tellFinesOfTrades_20 : decode cX3_tellFinesOfTrades 20 = .ok (.invokevirtual 66, 3) := by decide +kernel
theorem dX3_tellFinesOfTrades_23 : decode cX3_tellFinesOfTrades 23 = .ok (.astore_n 3, 1) := by decide +kernel
theorem dX3_tellFinesOfTrades_24 : decode cX3_tellFinesOfTrades 24 = .ok (.aload_n 0, 1) := by decide +kernel
theorem dX3_tellFinesOfTrades_25 : decode cX3_tellFinesOfTrades 25 = .ok (.getfield 9, 3) := by decide +kernel
theorem dX3_tellFinesOfTrades_28 : decode cX3_tellFinesOfTrades 28 = .ok (.aload_n 3, 1) := by decide +kernel
theorem dX3_tellFinesOfTrades_29 : decode cX3_tellFinesOfTrades 29 = .ok (.invokevirtual 73, 3) := by decide +kernel
theorem dX3_tellFinesOfTrades_32 : decode cX3_tellFinesOfTrades 32 = .ok (.ifCond .eq 35, 3) := by decide +kernel
theorem dX3_tellFinesOfTrades_35 : decode cX3_tellFinesOfTrades 35 = .ok (.aload_n 0, 1) := by decide +kernel
theorem dX3_tellFinesOfTrades_36 : decode cX3_tellFinesOfTrades 36 = .ok (.getfield 9, 3) := by decide +kernel
theorem dX3_tellFinesOfTrades_39 : decode cX3_tellFinesOfTrades 39 = .ok (.aload_n 3, 1) := by decide +kernel
theorem dX3_tellFinesOfTrades_40 : decode cX3_tellFinesOfTrades 40 = .ok (.invokevirtual 220, 3) := by decide +kernel
theorem dX3_tellFinesOfTrades_43 : decode cX3_tellFinesOfTrades 43 = .ok (.istore 4, 2) := by decide +kernel
theorem dX3_tellFinesOfTrades_45 : decode cX3_tellFinesOfTrades 45 = .ok (.iload_n 1, 1) := by decide +kernel
theorem dX3_tellFinesOfTrades_46 : decode cX3_tellFinesOfTrades 46 = .ok (.aload_n 0, 1) := by decide +kernel
theorem dX3_tellFinesOfTrades_47 : decode cX3_tellFinesOfTrades 47 = .ok (.iload 4, 2) := by decide +kernel
theorem dX3_tellFinesOfTrades_49 : decode cX3_tellFinesOfTrades 49 = .ok (.aload_n 0, 1) := by decide +kernel
theorem dX3_tellFinesOfTrades_50 : decode cX3_tellFinesOfTrades 50 = .ok (.aload_n 3, 1) := by decide +kernel
theorem dX3_tellFinesOfTrades_51 : decode cX3_tellFinesOfTrades 51 = .ok (.invokevirtual 224, 3) := by decide +kernel
theorem dX3_tellFinesOfTrades_54 : decode cX3_tellFinesOfTrades 54 = .ok (.aload_n 3, 1) := by decide +kernel
theorem dX3_tellFinesOfTrades_55 : decode cX3_tellFinesOfTrades 55 = .ok (.getfield 77, 3) := by decide +kernel
theorem dX3_tellFinesOfTrades_58 : decode cX3_tellFinesOfTrades 58 = .ok (.aload_n 3, 1) := by decide +kernel
theorem dX3_tellFinesOfTrades_59 : decode cX3_tellFinesOfTrades 59 = .ok (.getfield 80, 3) := by decide +kernel
theorem dX3_tellFinesOfTrades_62 : decode cX3_tellFinesOfTrades 62 = .ok (.invokevirtual 227, 3) := by decide +kernel
theorem dX3_tellFinesOfTrades_65 : decode cX3_tellFinesOfTrades 65 = .ok (.iadd, 1) := by decide +kernel
theorem dX3_tellFinesOfTrades_66 : decode cX3_tellFinesOfTrades 66 = .ok (.istore_n 1, 1) := by decide +kernel
theorem dX3_tellFinesOfTrades_67 : decode cX3_tellFinesOfTrades 67 = .ok (.iinc 2 1, 3) := by decide +kernel
theorem dX3_tellFinesOfTrades_70 : decode cX3_tellFinesOfTrades 70 = .ok (.goto (-66), 3) := by decide +kernel
theorem dX3_tellFinesOfTrades_73 : decode cX3_tellFinesOfTrades 73 = .ok (.iload_n 1, 1) := by decide +kernel
theorem dX3_tellFinesOfTrades_74 : decode cX3_tellFinesOfTrades 74 = .ok (.ireturn, 1) := by decide +kernel
theorem dX3_finedFor_0 : decode cX3_finedFor 0 = .ok (.aload_n 0, 1) := by decide +kernel
theorem dX3_finedFor_1 : decode cX3_finedFor 1 = .ok (.getfield 9, 3) := by decide +kernel
theorem dX3_finedFor_4 : decode cX3_finedFor 4 = .ok (.aload_n 1, 1) := by decide +kernel
theorem dX3_finedFor_5 : decode cX3_finedFor 5 = .ok (.getfield 231, 3) := by decide +kernel
theorem dX3_finedFor_8 : decode cX3_finedFor 8 = .ok (.invokevirtual 234, 3) := by decide +kernel
theorem dX3_finedFor_11 : decode cX3_finedFor 11 = .ok (.getfield 238, 3) := by decide +kernel
theorem dX3_finedFor_14 : decode cX3_finedFor 14 = .ok (.ifCond .ne 25, 3) := by decide +kernel
theorem dX3_finedFor_17 : decode cX3_finedFor 17 = .ok (.aload_n 0, 1) := by decide +kernel
theorem dX3_finedFor_18 : decode cX3_finedFor 18 = .ok (.getfield 9, 3) := by decide +kernel
theorem dX3_finedFor_21 : decode cX3_finedFor 21 = .ok (.aload_n 1, 1) := by decide +kernel
theorem dX3_finedFor_22 : decode cX3_finedFor 22 = .ok (.invokevirtual 243, 3) := by decide +kernel
theorem dX3_finedFor_25 : decode cX3_finedFor 25 = .ok (.ifCond .ne 18, 3) := by decide +kernel
theorem dX3_finedFor_28 : decode cX3_finedFor 28 = .ok (.aload_n 0, 1) := by decide +kernel
theorem dX3_finedFor_29 : decode cX3_finedFor 29 = .ok (.getfield 9, 3) := by decide +kernel
theorem dX3_finedFor_32 : decode cX3_finedFor 32 = .ok (.aload_n 1, 1) := by decide +kernel
theorem dX3_finedFor_33 : decode cX3_finedFor 33 = .ok (.invokevirtual 246, 3) := by decide +kernel
theorem dX3_finedFor_36 : decode cX3_finedFor 36 = .ok (.ifCond .eq 7, 3) := by decide +kernel
theorem dX3_finedFor_39 : decode cX3_finedFor 39 = .ok (.iconst 1, 1) := by decide +kernel
theorem dX3_finedFor_40 : decode cX3_finedFor 40 = .ok (.goto 4, 3) := by decide +kernel
theorem dX3_finedFor_43 : decode cX3_finedFor 43 = .ok (.iconst 0, 1) := by decide +kernel
theorem dX3_finedFor_44 : decode cX3_finedFor 44 = .ok (.istore_n 2, 1) := by decide +kernel
theorem dX3_finedFor_45 : decode cX3_finedFor 45 = .ok (.iload_n 2, 1) := by decide +kernel
theorem dX3_finedFor_46 : decode cX3_finedFor 46 = .ok (.ifCond .eq 10, 3) := by decide +kernel
theorem dX3_finedFor_49 : decode cX3_finedFor 49 = .ok (.aload_n 1, 1) := by decide +kernel
theorem dX3_finedFor_50 : decode cX3_finedFor 50 = .ok (.getfield 166, 3) := by decide +kernel
theorem dX3_finedFor_53 : decode cX3_finedFor 53 = .ok (.goto 7, 3) := by decide +kernel
theorem dX3_finedFor_56 : decode cX3_finedFor 56 = .ok (.aload_n 1, 1) := by decide +kernel
theorem dX3_finedFor_57 : decode cX3_finedFor 57 = .ok (.getfield 163, 3) := by decide +kernel
theorem dX3_finedFor_60 : decode cX3_finedFor 60 = .ok (.ireturn, 1) := by decide +kernel
theorem dX3_tellFinesOfLoans_0 : decode cX3_tellFinesOfLoans 0 = .ok (.iconst 0, 1) := by decide +kernel
theorem dX3_tellFinesOfLoans_1 : decode cX3_tellFinesOfLoans 1 = .ok (.istore_n 1, 1) := by decide +kernel
theorem dX3_tellFinesOfLoans_2 : decode cX3_tellFinesOfLoans 2 = .ok (.iconst 0, 1) := by decide +kernel
theorem dX3_tellFinesOfLoans_3 : decode cX3_tellFinesOfLoans 3 = .ok (.istore_n 2, 1) := by decide +kernel
theorem dX3_tellFinesOfLoans_4 : decode cX3_tellFinesOfLoans 4 = .ok (.iload_n 2, 1) := by decide +kernel
theorem dX3_tellFinesOfLoans_5 : decode cX3_tellFinesOfLoans 5 = .ok (.aload_n 0, 1) := by decide +kernel
theorem dX3_tellFinesOfLoans_6 : decode cX3_tellFinesOfLoans 6 = .ok (.getfield 9, 3) := by decide +kernel
theorem dX3_tellFinesOfLoans_9 : decode cX3_tellFinesOfLoans 9 = .ok (.getfield 199, 3) := by decide +kernel
theorem dX3_tellFinesOfLoans_12 : decode cX3_tellFinesOfLoans 12 = .ok (.if_icmp .ge 55, 3) := by decide +kernel
theorem dX3_tellFinesOfLoans_15 : decode cX3_tellFinesOfLoans 15 = .ok (.aload_n 0, 1) := by decide +kernel
theorem dX3_tellFinesOfLoans_16 : decode cX3_tellFinesOfLoans 16 = .ok (.getfield 9, 3) := by decide +kernel
theorem dX3_tellFinesOfLoans_19 : decode cX3_tellFinesOfLoans 19 = .ok (.iload_n 2, 1) := by decide +kernel
theorem dX3_tellFinesOfLoans_20 : decode cX3_tellFinesOfLoans 20 = .ok (.invokevirtual 202, 3) := by decide +kernel
theorem dX3_tellFinesOfLoans_23 : decode cX3_tellFinesOfLoans 23 = .ok (.astore_n 3, 1) := by decide +kernel
theorem dX3_tellFinesOfLoans_24 : decode cX3_tellFinesOfLoans 24 = .ok (.aload_n 3, 1) := by decide +kernel
theorem dX3_tellFinesOfLoans_25 : decode cX3_tellFinesOfLoans 25 = .ok (.getfield 249, 3) := by decide +kernel
theorem dX3_tellFinesOfLoans_28 : decode cX3_tellFinesOfLoans 28 = .ok (.ifCond .eq 33, 3) := by decide +kernel
theorem dX3_tellFinesOfLoans_31 : decode cX3_tellFinesOfLoans 31 = .ok (.aload_n 3, 1) := by decide +kernel
theorem dX3_tellFinesOfLoans_32 : decode cX3_tellFinesOfLoans 32 = .ok (.getfield 252, 3) := by decide +kernel
theorem dX3_tellFinesOfLoans_35 : decode cX3_tellFinesOfLoans 35 = .ok (.ifCond .ne 26, 3) := by decide +kernel
theorem dX3_tellFinesOfLoans_38 : decode cX3_tellFinesOfLoans 38 = .ok (.iload_n 1, 1) := by decide +kernel
theorem dX3_tellFinesOfLoans_39 : decode cX3_tellFinesOfLoans 39 = .ok (.aload_n 0, 1) := by decide +kernel
theorem dX3_tellFinesOfLoans_40 : decode cX3_tellFinesOfLoans 40 = .ok (.aload_n 3, 1) := by decide +kernel
theorem dX3_tellFinesOfLoans_41 : decode cX3_tellFinesOfLoans 41 = .ok (.getfield 255, 3) := by decide +kernel
theorem dX3_tellFinesOfLoans_44 : decode cX3_tellFinesOfLoans 44 = .ok (.aload_n 3, 1) := by decide +kernel
theorem dX3_tellFinesOfLoans_45 : decode cX3_tellFinesOfLoans 45 = .ok (.getfield 258, 3) := by decide +kernel
theorem dX3_tellFinesOfLoans_48 : decode cX3_tellFinesOfLoans 48 = .ok (.aload_n 3, 1) := by decide +kernel
theorem dX3_tellFinesOfLoans_49 : decode cX3_tellFinesOfLoans 49 = .ok (.getfield 206, 3) := by decide +kernel
theorem dX3_tellFinesOfLoans_52 : decode cX3_tellFinesOfLoans 52 = .ok (.aload_n 3, 1) := by decide +kernel
theorem dX3_tellFinesOfLoans_53 : decode cX3_tellFinesOfLoans 53 = .ok (.getfield 209, 3) := by decide +kernel
theorem dX3_tellFinesOfLoans_56 : decode cX3_tellFinesOfLoans 56 = .ok (.invokevirtual 227, 3) := by decide +kernel
theorem dX3_tellFinesOfLoans_59 : decode cX3_tellFinesOfLoans 59 = .ok (.iadd, 1) := by decide +kernel
theorem dX3_tellFinesOfLoans_60 : decode cX3_tellFinesOfLoans 60 = .ok (.istore_n 1, 1) := by decide +kernel
theorem dX3_tellFinesOfLoans_61 : decode cX3_tellFinesOfLoans 61 = .ok (.iinc 2 1, 3) := by decide +kernel
theorem dX3_tellFinesOfLoans_64 : decode cX3_tellFinesOfLoans 64 = .ok (.goto (-60), 3) := by decide +kernel
theorem dX3_tellFinesOfLoans_67 : decode cX3_tellFinesOfLoans 67 = .ok (.iload_n 1, 1) := by decide +kernel
theorem dX3_tellFinesOfLoans_68 : decode cX3_tellFinesOfLoans 68 = .ok (.ireturn, 1) := by decide +kernel
theorem dX3_tellFine_0 : decode cX3_tellFine 0 = .ok (.iload_n 1, 1) := by decide +kernel
theorem dX3_tellFine_1 : decode cX3_tellFine 1 = .ok (.iload_n 2, 1) := by decide +kernel
theorem dX3_tellFine_2 : decode cX3_tellFine 2 = .ok (.if_icmp .ne 5, 3) := by decide +kernel
theorem dX3_tellFine_5 : decode cX3_tellFine 5 = .ok (.iconst 0, 1) := by decide +kernel
theorem dX3_tellFine_6 : decode cX3_tellFine 6 = .ok (.ireturn, 1) := by decide +kernel
theorem dX3_tellFine_7 : decode cX3_tellFine 7 = .ok (.aload_n 0, 1) := by decide +kernel
theorem dX3_tellFine_8 : decode cX3_tellFine 8 = .ok (.getfield 9, 3) := by decide +kernel
theorem dX3_tellFine_11 : decode cX3_tellFine 11 = .ok (.iload_n 3, 1) := by decide +kernel
theorem dX3_tellFine_12 : decode cX3_tellFine 12 = .ok (.lload 4, 2) := by decide +kernel
theorem dX3_tellFine_14 : decode cX3_tellFine 14 = .ok (.invokevirtual 261, 3) := by decide +kernel
theorem dX3_tellFine_17 : decode cX3_tellFine 17 = .ok (.aload_n 0, 1) := by decide +kernel
theorem dX3_tellFine_18 : decode cX3_tellFine 18 = .ok (.getfield 9, 3) := by decide +kernel
theorem dX3_tellFine_21 : decode cX3_tellFine 21 = .ok (.iload_n 3, 1) := by decide +kernel
theorem dX3_tellFine_22 : decode cX3_tellFine 22 = .ok (.invokevirtual 129, 3) := by decide +kernel
theorem dX3_tellFine_25 : decode cX3_tellFine 25 = .ok (.getfield 265, 3) := by decide +kernel
theorem dX3_tellFine_28 : decode cX3_tellFine 28 = .ok (.i2l, 1) := by decide +kernel
theorem dX3_tellFine_29 : decode cX3_tellFine 29 = .ok (.lmul, 1) := by decide +kernel
theorem dX3_tellFine_30 : decode cX3_tellFine 30 = .ok (.ldc2_w 268, 3) := by decide +kernel
theorem dX3_tellFine_33 : decode cX3_tellFine 33 = .ok (.ldiv, 1) := by decide +kernel
theorem dX3_tellFine_34 : decode cX3_tellFine 34 = .ok (.lconst 1, 1) := by decide +kernel
theorem dX3_tellFine_35 : decode cX3_tellFine 35 = .ok (.ladd, 1) := by decide +kernel
theorem dX3_tellFine_36 : decode cX3_tellFine 36 = .ok (.lstore 6, 2) := by decide +kernel
theorem dX3_tellFine_38 : decode cX3_tellFine 38 = .ok (.aload_n 0, 1) := by decide +kernel
theorem dX3_tellFine_39 : decode cX3_tellFine 39 = .ok (.getfield 9, 3) := by decide +kernel
theorem dX3_tellFine_42 : decode cX3_tellFine 42 = .ok (.iload_n 1, 1) := by decide +kernel
theorem dX3_tellFine_43 : decode cX3_tellFine 43 = .ok (.iload_n 2, 1) := by decide +kernel
theorem dX3_tellFine_44 : decode cX3_tellFine 44 = .ok (.lload 6, 2) := by decide +kernel
theorem dX3_tellFine_46 : decode cX3_tellFine 46 = .ok (.invokevirtual 172, 3) := by decide +kernel
theorem dX3_tellFine_49 : decode cX3_tellFine 49 = .ok (.aload_n 0, 1) := by decide +kernel
theorem dX3_tellFine_50 : decode cX3_tellFine 50 = .ok (.getfield 9, 3) := by decide +kernel
theorem dX3_tellFine_53 : decode cX3_tellFine 53 = .ok (.getfield 270, 3) := by decide +kernel
theorem dX3_tellFine_56 : decode cX3_tellFine 56 = .ok (.iload_n 1, 1) := by decide +kernel
theorem dX3_tellFine_57 : decode cX3_tellFine 57 = .ok (.invokevirtual 274, 3) := by decide +kernel
theorem dX3_tellFine_60 : decode cX3_tellFine 60 = .ok (.aload_n 0, 1) := by decide +kernel
theorem dX3_tellFine_61 : decode cX3_tellFine 61 = .ok (.getfield 9, 3) := by decide +kernel
theorem dX3_tellFine_64 : decode cX3_tellFine 64 = .ok (.getfield 270, 3) := by decide +kernel
theorem dX3_tellFine_67 : decode cX3_tellFine 67 = .ok (.iload_n 2, 1) := by decide +kernel
theorem dX3_tellFine_68 : decode cX3_tellFine 68 = .ok (.invokevirtual 274, 3) := by decide +kernel
theorem dX3_tellFine_71 : decode cX3_tellFine 71 = .ok (.iconst 1, 1) := by decide +kernel
theorem dX3_tellFine_72 : decode cX3_tellFine 72 = .ok (.ireturn, 1) := by decide +kernel
theorem dX3_growOlder_0 : decode cX3_growOlder 0 = .ok (.iconst 0, 1) := by decide +kernel
theorem dX3_growOlder_1 : decode cX3_growOlder 1 = .ok (.istore_n 1, 1) := by decide +kernel
theorem dX3_growOlder_2 : decode cX3_growOlder 2 = .ok (.iload_n 1, 1) := by decide +kernel
theorem dX3_growOlder_3 : decode cX3_growOlder 3 = .ok (.aload_n 0, 1) := by decide +kernel
theorem dX3_growOlder_4 : decode cX3_growOlder 4 = .ok (.getfield 9, 3) := by decide +kernel
theorem dX3_growOlder_7 : decode cX3_growOlder 7 = .ok (.getfield 63, 3) := by decide +kernel
theorem dX3_growOlder_10 : decode cX3_growOlder 10 = .ok (.if_icmp .ge 63, 3) := by decide +kernel
theorem dX3_growOlder_13 : decode cX3_growOlder 13 = .ok (.aload_n 0, 1) := by decide +kernel
theorem dX3_growOlder_14 : decode cX3_growOlder 14 = .ok (.getfield 9, 3) := by decide +kernel
theorem dX3_growOlder_17 : decode cX3_growOlder 17 = .ok (.iload_n 1, 1) := by decide +kernel
theorem dX3_growOlder_18 : decode cX3_growOlder 18 = .ok (.invokevirtual 66, 3) := by decide +kernel
theorem dX3_growOlder_21 : decode cX3_growOlder 21 = .ok (.astore_n 2, 1) := by decide +kernel
theorem dX3_growOlder_22 : decode cX3_growOlder 22 = .ok (.aload_n 0, 1) := by decide +kernel
theorem dX3_growOlder_23 : decode cX3_growOlder 23 = .ok (.getfield 9, 3) := by decide +kernel
theorem dX3_growOlder_26 : decode cX3_growOlder 26 = .ok (.aload_n 2, 1) := by decide +kernel
theorem dX3_growOlder_27 : decode cX3_growOlder 27 = .ok (.invokevirtual 73, 3) := by decide +kernel
theorem dX3_growOlder_30 : decode cX3_growOlder 30 = .ok (.ifCond .eq 37, 3) := by decide +kernel
theorem dX3_growOlder_33 : decode cX3_growOlder 33 = .ok (.aload_n 2, 1) := by decide +kernel
theorem dX3_growOlder_34 : decode cX3_growOlder 34 = .ok (.dup, 1) := by decide +kernel
theorem dX3_growOlder_35 : decode cX3_growOlder 35 = .ok (.getfield 280, 3) := by decide +kernel
theorem dX3_growOlder_38 : decode cX3_growOlder 38 = .ok (.iconst 1, 1) := by decide +kernel
theorem dX3_growOlder_39 : decode cX3_growOlder 39 = .ok (.iadd, 1) := by decide +kernel
theorem dX3_growOlder_40 : decode cX3_growOlder 40 = .ok (.putfield 280, 3) := by decide +kernel
theorem dX3_growOlder_43 : decode cX3_growOlder 43 = .ok (.aload_n 2, 1) := by decide +kernel
theorem dX3_growOlder_44 : decode cX3_growOlder 44 = .ok (.getfield 280, 3) := by decide +kernel
theorem dX3_growOlder_47 : decode cX3_growOlder 47 = .ok (.iconst 5, 1) := by decide +kernel
theorem dX3_growOlder_48 : decode cX3_growOlder 48 = .ok (.if_icmp .ne 19, 3) := by decide +kernel
theorem dX3_growOlder_51 : decode cX3_growOlder 51 = .ok (.aload_n 0, 1) := by decide +kernel
theorem dX3_growOlder_52 : decode cX3_growOlder 52 = .ok (.getfield 9, 3) := by decide +kernel
theorem dX3_growOlder_55 : decode cX3_growOlder 55 = .ok (.aload_n 2, 1) := by decide +kernel
theorem dX3_growOlder_56 : decode cX3_growOlder 56 = .ok (.invokevirtual 246, 3) := by decide +kernel
theorem dX3_growOlder_59 : decode cX3_growOlder 59 = .ok (.ifCond .eq 8, 3) := by decide +kernel
theorem dX3_growOlder_62 : decode cX3_growOlder 62 = .ok (.aload_n 0, 1) := by decide +kernel
theorem dX3_growOlder_63 : decode cX3_growOlder 63 = .ok (.aload_n 2, 1) := by decide +kernel
theorem dX3_growOlder_64 : decode cX3_growOlder 64 = .ok (.invokevirtual 283, 3) := by decide +kernel
theorem dX3_growOlder_67 : decode cX3_growOlder 67 = .ok (.iinc 1 1, 3) := by decide +kernel
theorem dX3_growOlder_70 : decode cX3_growOlder 70 = .ok (.goto (-68), 3) := by decide +kernel
theorem dX3_growOlder_73 : decode cX3_growOlder 73 = .ok (.return_, 1) := by decide +kernel
theorem dX3_buyIn_0 : decode cX3_buyIn 0 = .ok (.aload_n 0, 1) := by decide +kernel
theorem dX3_buyIn_1 : decode cX3_buyIn 1 = .ok (.getfield 9, 3) := by decide +kernel
theorem dX3_buyIn_4 : decode cX3_buyIn 4 = .ok (.aload_n 1, 1) := by decide +kernel
theorem dX3_buyIn_5 : decode cX3_buyIn 5 = .ok (.getfield 77, 3) := by decide +kernel
theorem dX3_buyIn_8 : decode cX3_buyIn 8 = .ok (.aload_n 1, 1) := by decide +kernel
theorem dX3_buyIn_9 : decode cX3_buyIn 9 = .ok (.getfield 80, 3) := by decide +kernel
theorem dX3_buyIn_12 : decode cX3_buyIn 12 = .ok (.invokevirtual 261, 3) := by decide +kernel
theorem dX3_buyIn_15 : decode cX3_buyIn 15 = .ok (.lstore_n 2, 1) := by decide +kernel
theorem dX3_buyIn_16 : decode cX3_buyIn 16 = .ok (.aload_n 0, 1) := by decide +kernel
theorem dX3_buyIn_17 : decode cX3_buyIn 17 = .ok (.getfield 9, 3) := by decide +kernel
theorem dX3_buyIn_20 : decode cX3_buyIn 20 = .ok (.aload_n 1, 1) := by decide +kernel
theorem dX3_buyIn_21 : decode cX3_buyIn 21 = .ok (.getfield 163, 3) := by decide +kernel
theorem dX3_buyIn_24 : decode cX3_buyIn 24 = .ok (.aload_n 1, 1) := by decide +kernel
theorem dX3_buyIn_25 : decode cX3_buyIn 25 = .ok (.getfield 166, 3) := by decide +kernel
theorem dX3_buyIn_28 : decode cX3_buyIn 28 = .ok (.lconst 0, 1) := by decide +kernel
theorem dX3_buyIn_29 : decode cX3_buyIn 29 = .ok (.lload_n 2, 1) := by decide +kernel
theorem dX3_buyIn_30 : decode cX3_buyIn 30 = .ok (.aload_n 1, 1) := by decide +kernel
theorem dX3_buyIn_31 : decode cX3_buyIn 31 = .ok (.getfield 286, 3) := by decide +kernel
theorem dX3_buyIn_34 : decode cX3_buyIn 34 = .ok (.lsub, 1) := by decide +kernel
theorem dX3_buyIn_35 : decode cX3_buyIn 35 = .ok (.invokestatic 289, 3) := by decide +kernel
theorem dX3_buyIn_38 : decode cX3_buyIn 38 = .ok (.invokevirtual 172, 3) := by decide +kernel
theorem dX3_buyIn_41 : decode cX3_buyIn 41 = .ok (.aload_n 0, 1) := by decide +kernel
theorem dX3_buyIn_42 : decode cX3_buyIn 42 = .ok (.getfield 9, 3) := by decide +kernel
theorem dX3_buyIn_45 : decode cX3_buyIn 45 = .ok (.aload_n 1, 1) := by decide +kernel
theorem dX3_buyIn_46 : decode cX3_buyIn 46 = .ok (.invokevirtual 216, 3) := by decide +kernel
theorem dX3_buyIn_49 : decode cX3_buyIn 49 = .ok (.return_, 1) := by decide +kernel
theorem dX4_init_0 : decode cX4_init 0 = .ok (.aload_n 0, 1) := by decide +kernel
theorem dX4_init_1 : decode cX4_init 1 = .ok (.invokespecial 3, 3) := by decide +kernel
theorem dX4_init_4 : decode cX4_init 4 = .ok (.aload_n 0, 1) := by decide +kernel
theorem dX4_init_5 : decode cX4_init 5 = .ok (.bipush 10, 2) := by decide +kernel
theorem dX4_init_7 : decode cX4_init 7 = .ok (.newarray .long, 2) := by decide +kernel
theorem dX4_init_9 : decode cX4_init 9 = .ok (.putfield 9, 3) := by decide +kernel
theorem dX4_init_12 : decode cX4_init 12 = .ok (.aload_n 0, 1) := by decide +kernel
theorem dX4_init_13 : decode cX4_init 13 = .ok (.bipush 10, 2) := by decide +kernel
theorem dX4_init_15 : decode cX4_init 15 = .ok (.newarray .long, 2) := by decide +kernel
theorem dX4_init_17 : decode cX4_init 17 = .ok (.putfield 15, 3) := by decide +kernel
theorem dX4_init_20 : decode cX4_init 20 = .ok (.aload_n 0, 1) := by decide +kernel
theorem dX4_init_21 : decode cX4_init 21 = .ok (.bipush 20, 2) := by decide +kernel
theorem dX4_init_23 : decode cX4_init 23 = .ok (.newarray .long, 2) := by decide +kernel
theorem dX4_init_25 : decode cX4_init 25 = .ok (.putfield 18, 3) := by decide +kernel
theorem dX4_init_28 : decode cX4_init 28 = .ok (.return_, 1) := by decide +kernel
theorem dX4_entitledOf_0 : decode cX4_entitledOf 0 = .ok (.iload_n 1, 1) := by decide +kernel
theorem dX4_entitledOf_1 : decode cX4_entitledOf 1 = .ok (.ifCond .lt 21, 3) := by decide +kernel
theorem dX4_entitledOf_4 : decode cX4_entitledOf 4 = .ok (.iload_n 1, 1) := by decide +kernel
theorem dX4_entitledOf_5 : decode cX4_entitledOf 5 = .ok (.aload_n 0, 1) := by decide +kernel
theorem dX4_entitledOf_6 : decode cX4_entitledOf 6 = .ok (.getfield 9, 3) := by decide +kernel
theorem dX4_entitledOf_9 : decode cX4_entitledOf 9 = .ok (.arraylength, 1) := by decide +kernel
theorem dX4_entitledOf_10 : decode cX4_entitledOf 10 = .ok (.if_icmp .ge 12, 3) := by decide +kernel
theorem dX4_entitledOf_13 : decode cX4_entitledOf 13 = .ok (.aload_n 0, 1) := by decide +kernel
theorem dX4_entitledOf_14 : decode cX4_entitledOf 14 = .ok (.getfield 9, 3) := by decide +kernel
theorem dX4_entitledOf_17 : decode cX4_entitledOf 17 = .ok (.iload_n 1, 1) := by decide +kernel
theorem dX4_entitledOf_18 : decode cX4_entitledOf 18 = .ok (.laload, 1) := by decide +kernel
theorem dX4_entitledOf_19 : decode cX4_entitledOf 19 = .ok (.goto 4, 3) := by decide +kernel
theorem dX4_entitledOf_22 : decode cX4_entitledOf 22 = .ok (.lconst 0, 1) := by decide +kernel
theorem dX4_entitledOf_23 : decode cX4_entitledOf 23 = .ok (.lreturn, 1) := by decide +kernel
theorem dX4_setEntitled_0 : decode cX4_setEntitled 0 = .ok (.iload_n 1, 1) := by decide +kernel
theorem dX4_setEntitled_1 : decode cX4_setEntitled 1 = .ok (.ifCond .lt 19, 3) := by decide +kernel
theorem dX4_setEntitled_4 : decode cX4_setEntitled 4 = .ok (.iload_n 1, 1) := by decide +kernel
theorem dX4_setEntitled_5 : decode cX4_setEntitled 5 = .ok (.aload_n 0, 1) := by decide +kernel
theorem dX4_setEntitled_6 : decode cX4_setEntitled 6 = .ok (.getfield 9, 3) := by decide +kernel
theorem dX4_setEntitled_9 : decode cX4_setEntitled 9 = .ok (.arraylength, 1) := by decide +kernel
theorem dX4_setEntitled_10 : decode cX4_setEntitled 10 = .ok (.if_icmp .ge 10, 3) := by decide +kernel
theorem dX4_setEntitled_13 : decode cX4_setEntitled 13 = .ok (.aload_n 0, 1) := by decide +kernel
theorem dX4_setEntitled_14 : decode cX4_setEntitled 14 = .ok (.getfield 9, 3) := by decide +kernel
theorem dX4_setEntitled_17 : decode cX4_setEntitled 17 = .ok (.iload_n 1, 1) := by decide +kernel
theorem dX4_setEntitled_18 : decode cX4_setEntitled 18 = .ok (.lload_n 2, 1) := by decide +kernel
theorem dX4_setEntitled_19 : decode cX4_setEntitled 19 = .ok (.lastore, 1) := by decide +kernel
theorem dX4_setEntitled_20 : decode cX4_setEntitled 20 = .ok (.return_, 1) := by decide +kernel
theorem dX4_electedOf_0 : decode cX4_electedOf 0 = .ok (.iload_n 1, 1) := by decide +kernel
theorem dX4_electedOf_1 : decode cX4_electedOf 1 = .ok (.ifCond .lt 21, 3) := by decide +kernel
theorem dX4_electedOf_4 : decode cX4_electedOf 4 = .ok (.iload_n 1, 1) := by decide +kernel
theorem dX4_electedOf_5 : decode cX4_electedOf 5 = .ok (.aload_n 0, 1) := by decide +kernel
theorem dX4_electedOf_6 : decode cX4_electedOf 6 = .ok (.getfield 15, 3) := by decide +kernel
theorem dX4_electedOf_9 : decode cX4_electedOf 9 = .ok (.arraylength, 1) := by decide +kernel
theorem dX4_electedOf_10 : decode cX4_electedOf 10 = .ok (.if_icmp .ge 12, 3) := by decide +kernel
theorem dX4_electedOf_13 : decode cX4_electedOf 13 = .ok (.aload_n 0, 1) := by decide +kernel
theorem dX4_electedOf_14 : decode cX4_electedOf 14 = .ok (.getfield 15, 3) := by decide +kernel
theorem dX4_electedOf_17 : decode cX4_electedOf 17 = .ok (.iload_n 1, 1) := by decide +kernel
theorem dX4_electedOf_18 : decode cX4_electedOf 18 = .ok (.laload, 1) := by decide +kernel
theorem dX4_electedOf_19 : decode cX4_electedOf 19 = .ok (.goto 4, 3) := by decide +kernel
theorem dX4_electedOf_22 : decode cX4_electedOf 22 = .ok (.lconst 0, 1) := by decide +kernel
theorem dX4_electedOf_23 : decode cX4_electedOf 23 = .ok (.lreturn, 1) := by decide +kernel
theorem dX4_setElected_0 : decode cX4_setElected 0 = .ok (.iload_n 1, 1) := by decide +kernel
theorem dX4_setElected_1 : decode cX4_setElected 1 = .ok (.ifCond .lt 19, 3) := by decide +kernel
theorem dX4_setElected_4 : decode cX4_setElected 4 = .ok (.iload_n 1, 1) := by decide +kernel
theorem dX4_setElected_5 : decode cX4_setElected 5 = .ok (.aload_n 0, 1) := by decide +kernel
theorem dX4_setElected_6 : decode cX4_setElected 6 = .ok (.getfield 15, 3) := by decide +kernel
theorem dX4_setElected_9 : decode cX4_setElected 9 = .ok (.arraylength, 1) := by decide +kernel
theorem dX4_setElected_10 : decode cX4_setElected 10 = .ok (.if_icmp .ge 10, 3) := by decide +kernel
theorem dX4_setElected_13 : decode cX4_setElected 13 = .ok (.aload_n 0, 1) := by decide +kernel
theorem dX4_setElected_14 : decode cX4_setElected 14 = .ok (.getfield 15, 3) := by decide +kernel
theorem dX4_setElected_17 : decode cX4_setElected 17 = .ok (.iload_n 1, 1) := by decide +kernel
theorem dX4_setElected_18 : decode cX4_setElected 18 = .ok (.lload_n 2, 1) := by decide +kernel
theorem dX4_setElected_19 : decode cX4_setElected 19 = .ok (.lastore, 1) := by decide +kernel
theorem dX4_setElected_20 : decode cX4_setElected 20 = .ok (.return_, 1) := by decide +kernel
theorem dX4_claimedOf_0 : decode cX4_claimedOf 0 = .ok (.iload_n 1, 1) := by decide +kernel
theorem dX4_claimedOf_1 : decode cX4_claimedOf 1 = .ok (.ifCond .lt 21, 3) := by decide +kernel
theorem dX4_claimedOf_4 : decode cX4_claimedOf 4 = .ok (.iload_n 1, 1) := by decide +kernel
theorem dX4_claimedOf_5 : decode cX4_claimedOf 5 = .ok (.aload_n 0, 1) := by decide +kernel
theorem dX4_claimedOf_6 : decode cX4_claimedOf 6 = .ok (.getfield 18, 3) := by decide +kernel
theorem dX4_claimedOf_9 : decode cX4_claimedOf 9 = .ok (.arraylength, 1) := by decide +kernel
theorem dX4_claimedOf_10 : decode cX4_claimedOf 10 = .ok (.if_icmp .ge 12, 3) := by decide +kernel
theorem dX4_claimedOf_13 : decode cX4_claimedOf 13 = .ok (.aload_n 0, 1) := by decide +kernel
theorem dX4_claimedOf_14 : decode cX4_claimedOf 14 = .ok (.getfield 18, 3) := by decide +kernel
theorem dX4_claimedOf_17 : decode cX4_claimedOf 17 = .ok (.iload_n 1, 1) := by decide +kernel
theorem dX4_claimedOf_18 : decode cX4_claimedOf 18 = .ok (.laload, 1) := by decide +kernel
theorem dX4_claimedOf_19 : decode cX4_claimedOf 19 = .ok (.goto 4, 3) := by decide +kernel
theorem dX4_claimedOf_22 : decode cX4_claimedOf 22 = .ok (.lconst 0, 1) := by decide +kernel
theorem dX4_claimedOf_23 : decode cX4_claimedOf 23 = .ok (.lreturn, 1) := by decide +kernel
theorem dX4_setClaimed_0 : decode cX4_setClaimed 0 = .ok (.iload_n 1, 1) := by decide +kernel
theorem dX4_setClaimed_1 : decode cX4_setClaimed 1 = .ok (.ifCond .lt 19, 3) := by decide +kernel
theorem dX4_setClaimed_4 : decode cX4_setClaimed 4 = .ok (.iload_n 1, 1) := by decide +kernel
theorem dX4_setClaimed_5 : decode cX4_setClaimed 5 = .ok (.aload_n 0, 1) := by decide +kernel
theorem dX4_setClaimed_6 : decode cX4_setClaimed 6 = .ok (.getfield 18, 3) := by decide +kernel
theorem dX4_setClaimed_9 : decode cX4_setClaimed 9 = .ok (.arraylength, 1) := by decide +kernel
theorem dX4_setClaimed_10 : decode cX4_setClaimed 10 = .ok (.if_icmp .ge 10, 3) := by decide +kernel
theorem dX4_setClaimed_13 : decode cX4_setClaimed 13 = .ok (.aload_n 0, 1) := by decide +kernel
theorem dX4_setClaimed_14 : decode cX4_setClaimed 14 = .ok (.getfield 18, 3) := by decide +kernel
theorem dX4_setClaimed_17 : decode cX4_setClaimed 17 = .ok (.iload_n 1, 1) := by decide +kernel
theorem dX4_setClaimed_18 : decode cX4_setClaimed 18 = .ok (.lload_n 2, 1) := by decide +kernel
theorem dX4_setClaimed_19 : decode cX4_setClaimed 19 = .ok (.lastore, 1) := by decide +kernel
theorem dX4_setClaimed_20 : decode cX4_setClaimed 20 = .ok (.return_, 1) := by decide +kernel
theorem dX4_splitOf_0 : decode cX4_splitOf 0 = .ok (.aload_n 0, 1) := by decide +kernel
theorem dX4_splitOf_1 : decode cX4_splitOf 1 = .ok (.getfield 21, 3) := by decide +kernel
theorem dX4_splitOf_4 : decode cX4_splitOf 4 = .ok (.ifCond .ne 7, 3) := by decide +kernel
theorem dX4_splitOf_7 : decode cX4_splitOf 7 = .ok (.lload_n 1, 1) := by decide +kernel
theorem dX4_splitOf_8 : decode cX4_splitOf 8 = .ok (.goto 16, 3) := by decide +kernel
theorem dX4_splitOf_11 : decode cX4_splitOf 11 = .ok (.lload_n 1, 1) := by decide +kernel
theorem dX4_splitOf_12 : decode cX4_splitOf 12 = .ok (.aload_n 0, 1) := by decide +kernel
theorem dX4_splitOf_13 : decode cX4_splitOf 13 = .ok (.getfield 25, 3) := by decide +kernel
theorem dX4_splitOf_16 : decode cX4_splitOf 16 = .ok (.i2l, 1) := by decide +kernel
theorem dX4_splitOf_17 : decode cX4_splitOf 17 = .ok (.lmul, 1) := by decide +kernel
theorem dX4_splitOf_18 : decode cX4_splitOf 18 = .ok (.aload_n 0, 1) := by decide +kernel
theorem dX4_splitOf_19 : decode cX4_splitOf 19 = .ok (.getfield 21, 3) := by decide +kernel
theorem dX4_splitOf_22 : decode cX4_splitOf 22 = .ok (.i2l, 1) := by decide +kernel
theorem dX4_splitOf_23 : decode cX4_splitOf 23 = .ok (.ldiv, 1) := by decide +kernel
theorem dX4_splitOf_24 : decode cX4_splitOf 24 = .ok (.lreturn, 1) := by decide +kernel
theorem dX4_askedBy_0 : decode cX4_askedBy 0 = .ok (.aload_n 0, 1) := by decide +kernel
theorem dX4_askedBy_1 : decode cX4_askedBy 1 = .ok (.getfield 21, 3) := by decide +kernel
theorem dX4_askedBy_4 : decode cX4_askedBy 4 = .ok (.ifCond .ne 7, 3) := by decide +kernel
theorem dX4_askedBy_7 : decode cX4_askedBy 7 = .ok (.lconst 0, 1) := by decide +kernel
theorem dX4_askedBy_8 : decode cX4_askedBy 8 = .ok (.goto 14, 3) := by decide +kernel
theorem dX4_askedBy_11 : decode cX4_askedBy 11 = .ok (.aload_n 0, 1) := by decide +kernel
theorem dX4_askedBy_12 : decode cX4_askedBy 12 = .ok (.iload_n 1, 1) := by decide +kernel
theorem dX4_askedBy_13 : decode cX4_askedBy 13 = .ok (.invokevirtual 28, 3) := by decide +kernel
theorem dX4_askedBy_16 : decode cX4_askedBy 16 = .ok (.aload_n 0, 1) := by decide +kernel
theorem dX4_askedBy_17 : decode cX4_askedBy 17 = .ok (.getfield 21, 3) := by decide +kernel
theorem dX4_askedBy_20 : decode cX4_askedBy 20 = .ok (.i2l, 1) := by decide +kernel
theorem dX4_askedBy_21 : decode cX4_askedBy 21 = .ok (.ldiv, 1) := by decide +kernel
theorem dX4_askedBy_22 : decode cX4_askedBy 22 = .ok (.lreturn, 1) := by decide +kernel
theorem dX4_copyFrom_0 : decode cX4_copyFrom 0 = .ok (.aload_n 0, 1) := by decide +kernel
theorem dX4_copyFrom_1 : decode cX4_copyFrom 1 = .ok (.aload_n 1, 1) := by decide +kernel
theorem dX4_copyFrom_2 : decode cX4_copyFrom 2 = .ok (.getfield 32, 3) := by decide +kernel
theorem dX4_copyFrom_5 : decode cX4_copyFrom 5 = .ok (.putfield 32, 3) := by decide +kernel
theorem dX4_copyFrom_8 : decode cX4_copyFrom 8 = .ok (.aload_n 0, 1) := by decide +kernel
theorem dX4_copyFrom_9 : decode cX4_copyFrom 9 = .ok (.aload_n 1, 1) := by decide +kernel
theorem dX4_copyFrom_10 : decode cX4_copyFrom 10 = .ok (.getfield 35, 3) := by decide +kernel
theorem dX4_copyFrom_13 : decode cX4_copyFrom 13 = .ok (.putfield 35, 3) := by decide +kernel
theorem dX4_copyFrom_16 : decode cX4_copyFrom 16 = .ok (.aload_n 0, 1) := by decide +kernel
theorem dX4_copyFrom_17 : decode cX4_copyFrom 17 = .ok (.aload_n 1, 1) := by decide +kernel
theorem dX4_copyFrom_18 : decode cX4_copyFrom 18 = .ok (.getfield 25, 3) := by decide +kernel
theorem dX4_copyFrom_21 : decode cX4_copyFrom 21 = .ok (.putfield 25, 3) := by decide +kernel
theorem dX4_copyFrom_24 : decode cX4_copyFrom 24 = .ok (.aload_n 0, 1) := by decide +kernel
theorem dX4_copyFrom_25 : decode cX4_copyFrom 25 = .ok (.aload_n 1, 1) := by decide +kernel
theorem dX4_copyFrom_26 : decode cX4_copyFrom 26 = .ok (.getfield 21, 3) := by decide +kernel
theorem dX4_copyFrom_29 : decode cX4_copyFrom 29 = .ok (.putfield 21, 3) := by decide +kernel
theorem dX4_copyFrom_32 : decode cX4_copyFrom 32 = .ok (.aload_n 0, 1) := by decide +kernel
theorem dX4_copyFrom_33 : decode cX4_copyFrom 33 = .ok (.aload_n 1, 1) := by decide +kernel
theorem dX4_copyFrom_34 : decode cX4_copyFrom 34 = .ok (.getfield 38, 3) := by decide +kernel
theorem dX4_copyFrom_37 : decode cX4_copyFrom 37 = .ok (.putfield 38, 3) := by decide +kernel
theorem dX4_copyFrom_40 : decode cX4_copyFrom 40 = .ok (.aload_n 0, 1) := by decide +kernel
theorem dX4_copyFrom_41 : decode cX4_copyFrom 41 = .ok (.aload_n 1, 1) := by decide +kernel
theorem dX4_copyFrom_42 : decode cX4_copyFrom 42 = .ok (.getfield 41, 3) := by decide +kernel
theorem dX4_copyFrom_45 : decode cX4_copyFrom 45 = .ok (.putfield 41, 3) := by decide +kernel
theorem dX4_copyFrom_48 : decode cX4_copyFrom 48 = .ok (.aload_n 0, 1) := by decide +kernel
theorem dX4_copyFrom_49 : decode cX4_copyFrom 49 = .ok (.aload_n 1, 1) := by decide +kernel
theorem dX4_copyFrom_50 : decode cX4_copyFrom 50 = .ok (.getfield 44, 3) := by decide +kernel
theorem dX4_copyFrom_53 : decode cX4_copyFrom 53 = .ok (.putfield 44, 3) := by decide +kernel
theorem dX4_copyFrom_56 : decode cX4_copyFrom 56 = .ok (.aload_n 0, 1) := by decide +kernel
theorem dX4_copyFrom_57 : decode cX4_copyFrom 57 = .ok (.aload_n 1, 1) := by decide +kernel
theorem dX4_copyFrom_58 : decode cX4_copyFrom 58 = .ok (.getfield 47, 3) := by decide +kernel
theorem dX4_copyFrom_61 : decode cX4_copyFrom 61 = .ok (.putfield 47, 3) := by decide +kernel
theorem dX4_copyFrom_64 : decode cX4_copyFrom 64 = .ok (.aload_n 0, 1) := by decide +kernel
theorem dX4_copyFrom_65 : decode cX4_copyFrom 65 = .ok (.aload_n 1, 1) := by decide +kernel
theorem dX4_copyFrom_66 : decode cX4_copyFrom 66 = .ok (.getfield 51, 3) := by decide +kernel
theorem dX4_copyFrom_69 : decode cX4_copyFrom 69 = .ok (.putfield 51, 3) := by decide +kernel
theorem dX4_copyFrom_72 : decode cX4_copyFrom 72 = .ok (.aload_n 0, 1) := by decide +kernel
theorem dX4_copyFrom_73 : decode cX4_copyFrom 73 = .ok (.aload_n 1, 1) := by decide +kernel
theorem dX4_copyFrom_74 : decode cX4_copyFrom 74 = .ok (.getfield 54, 3) := by decide +kernel
theorem dX4_copyFrom_77 : decode cX4_copyFrom 77 = .ok (.putfield 54, 3) := by decide +kernel
theorem dX4_copyFrom_80 : decode cX4_copyFrom 80 = .ok (.aload_n 1, 1) := by decide +kernel
theorem dX4_copyFrom_81 : decode cX4_copyFrom 81 = .ok (.getfield 9, 3) := by decide +kernel
theorem dX4_copyFrom_84 : decode cX4_copyFrom 84 = .ok (.aload_n 0, 1) := by decide +kernel
theorem dX4_copyFrom_85 : decode cX4_copyFrom 85 = .ok (.getfield 9, 3) := by decide +kernel
theorem dX4_copyFrom_88 : decode cX4_copyFrom 88 = .ok (.invokestatic 57, 3) := by decide +kernel
theorem dX4_copyFrom_91 : decode cX4_copyFrom 91 = .ok (.aload_n 1, 1) := by decide +kernel
theorem dX4_copyFrom_92 : decode cX4_copyFrom 92 = .ok (.getfield 15, 3) := by decide +kernel
theorem dX4_copyFrom_95 : decode cX4_copyFrom 95 = .ok (.aload_n 0, 1) := by decide +kernel
theorem dX4_copyFrom_96 : decode cX4_copyFrom 96 = .ok (.getfield 15, 3) := by decide +kernel
theorem dX4_copyFrom_99 : decode cX4_copyFrom 99 = .ok (.invokestatic 57, 3) := by decide +kernel
theorem dX4_copyFrom_102 : decode cX4_copyFrom 102 = .ok (.aload_n 1, 1) := by decide +kernel
theorem dX4_copyFrom_103 : decode cX4_copyFrom 103 = .ok (.getfield 18, 3) := by decide +kernel
theorem dX4_copyFrom_106 : decode cX4_copyFrom 106 = .ok (.aload_n 0, 1) := by decide +kernel
theorem dX4_copyFrom_107 : decode cX4_copyFrom 107 = .ok (.getfield 18, 3) := by decide +kernel
theorem dX4_copyFrom_110 : decode cX4_copyFrom 110 = .ok (.invokestatic 57, 3) := by decide +kernel
theorem dX4_copyFrom_113 : decode cX4_copyFrom 113 = .ok (.return_, 1) := by decide +kernel
theorem dX5_init_0 : decode cX5_init 0 = .ok (.aload_n 0, 1) := by decide +kernel
theorem dX5_init_1 : decode cX5_init 1 = .ok (.invokespecial 3, 3) := by decide +kernel
theorem dX5_init_4 : decode cX5_init 4 = .ok (.aload_n 0, 1) := by decide +kernel
theorem dX5_init_5 : decode cX5_init 5 = .ok (.iconst 0, 1) := by decide +kernel
theorem dX5_init_6 : decode cX5_init 6 = .ok (.putfield 9, 3) := by decide +kernel
theorem dX5_init_9 : decode cX5_init 9 = .ok (.aload_n 0, 1) := by decide +kernel
theorem dX5_init_10 : decode cX5_init 10 = .ok (.iconst (-1), 1) := by decide +kernel
theorem dX5_init_11 : decode cX5_init 11 = .ok (.putfield 15, 3) := by decide +kernel
theorem dX5_init_14 : decode cX5_init 14 = .ok (.return_, 1) := by decide +kernel
theorem dX5_isAlive_0 : decode cX5_isAlive 0 = .ok (.aload_n 0, 1) := by decide +kernel
theorem dX5_isAlive_1 : decode cX5_isAlive 1 = .ok (.getfield 9, 3) := by decide +kernel
theorem dX5_isAlive_4 : decode cX5_isAlive 4 = .ok (.ifCond .eq 11, 3) := by decide +kernel
theorem dX5_isAlive_7 : decode cX5_isAlive 7 = .ok (.aload_n 0, 1) := by decide +kernel
theorem dX5_isAlive_8 : decode cX5_isAlive 8 = .ok (.getfield 9, 3) := by decide +kernel
theorem dX5_isAlive_11 : decode cX5_isAlive 11 = .ok (.iconst 1, 1) := by decide +kernel
theorem dX5_isAlive_12 : decode cX5_isAlive 12 = .ok (.if_icmp .ne 7, 3) := by decide +kernel
theorem dX5_isAlive_15 : decode cX5_isAlive 15 = .ok (.iconst 1, 1) := by decide +kernel
theorem dX5_isAlive_16 : decode cX5_isAlive 16 = .ok (.goto 4, 3) := by decide +kernel
theorem dX5_isAlive_19 : decode cX5_isAlive 19 = .ok (.iconst 0, 1) := by decide +kernel
theorem dX5_isAlive_20 : decode cX5_isAlive 20 = .ok (.ireturn, 1) := by decide +kernel
theorem dX5_fits_0 : decode cX5_fits 0 = .ok (.aload_n 0, 1) := by decide +kernel
theorem dX5_fits_1 : decode cX5_fits 1 = .ok (.getfield 9, 3) := by decide +kernel
theorem dX5_fits_4 : decode cX5_fits 4 = .ok (.ifCond .ne 86, 3) := by decide +kernel
theorem dX5_fits_7 : decode cX5_fits 7 = .ok (.aload_n 0, 1) := by decide +kernel
theorem dX5_fits_8 : decode cX5_fits 8 = .ok (.getfield 18, 3) := by decide +kernel
theorem dX5_fits_11 : decode cX5_fits 11 = .ok (.aload_n 1, 1) := by decide +kernel
theorem dX5_fits_12 : decode cX5_fits 12 = .ok (.getfield 21, 3) := by decide +kernel
theorem dX5_fits_15 : decode cX5_fits 15 = .ok (.if_icmp .ne 75, 3) := by decide +kernel
theorem dX5_fits_18 : decode cX5_fits 18 = .ok (.aload_n 0, 1) := by decide +kernel
theorem dX5_fits_19 : decode cX5_fits 19 = .ok (.getfield 21, 3) := by decide +kernel
theorem dX5_fits_22 : decode cX5_fits 22 = .ok (.aload_n 1, 1) := by decide +kernel
theorem dX5_fits_23 : decode cX5_fits 23 = .ok (.getfield 18, 3) := by decide +kernel
theorem dX5_fits_26 : decode cX5_fits 26 = .ok (.if_icmp .ne 64, 3) := by decide +kernel
theorem dX5_fits_29 : decode cX5_fits 29 = .ok (.aload_n 0, 1) := by decide +kernel
theorem dX5_fits_30 : decode cX5_fits 30 = .ok (.getfield 24, 3) := by decide +kernel
theorem dX5_fits_33 : decode cX5_fits 33 = .ok (.aload_n 1, 1) := by decide +kernel
theorem dX5_fits_34 : decode cX5_fits 34 = .ok (.getfield 24, 3) := by decide +kernel
theorem dX5_fits_37 : decode cX5_fits 37 = .ok (.if_icmp .eq 53, 3) := by decide +kernel
theorem dX5_fits_40 : decode cX5_fits 40 = .ok (.aload_n 0, 1) := by decide +kernel
theorem dX5_fits_41 : decode cX5_fits 41 = .ok (.getfield 28, 3) := by decide +kernel
theorem dX5_fits_44 : decode cX5_fits 44 = .ok (.aload_n 1, 1) := by decide +kernel
theorem dX5_fits_45 : decode cX5_fits 45 = .ok (.getfield 28, 3) := by decide +kernel
theorem dX5_fits_48 : decode cX5_fits 48 = .ok (.if_icmp .ne 42, 3) := by decide +kernel
theorem dX5_fits_51 : decode cX5_fits 51 = .ok (.aload_n 0, 1) := by decide +kernel
theorem dX5_fits_52 : decode cX5_fits 52 = .ok (.getfield 31, 3) := by decide +kernel
theorem dX5_fits_55 : decode cX5_fits 55 = .ok (.aload_n 1, 1) := by decide +kernel
theorem dX5_fits_56 : decode cX5_fits 56 = .ok (.getfield 31, 3) := by decide +kernel
theorem dX5_fits_59 : decode cX5_fits 59 = .ok (.if_icmp .ne 31, 3) := by decide +kernel
theorem dX5_fits_62 : decode cX5_fits 62 = .ok (.aload_n 0, 1) := by decide +kernel
theorem dX5_fits_63 : decode cX5_fits 63 = .ok (.getfield 34, 3) := by decide +kernel
theorem dX5_fits_66 : decode cX5_fits 66 = .ok (.aload_n 1, 1) := by decide +kernel
theorem dX5_fits_67 : decode cX5_fits 67 = .ok (.getfield 34, 3) := by decide +kernel
theorem dX5_fits_70 : decode cX5_fits 70 = .ok (.if_icmp .ne 20, 3) := by decide +kernel
theorem dX5_fits_73 : decode cX5_fits 73 = .ok (.aload_n 0, 1) := by decide +kernel
theorem dX5_fits_74 : decode cX5_fits 74 = .ok (.getfield 37, 3) := by decide +kernel
theorem dX5_fits_77 : decode cX5_fits 77 = .ok (.iload_n 2, 1) := by decide +kernel
theorem dX5_fits_78 : decode cX5_fits 78 = .ok (.isub, 1) := by decide +kernel
theorem dX5_fits_79 : decode cX5_fits 79 = .ok (.invokestatic 40, 3) := by decide +kernel
theorem dX5_fits_82 : decode cX5_fits 82 = .ok (.iconst 2, 1) := by decide +kernel
theorem dX5_fits_83 : decode cX5_fits 83 = .ok (.if_icmp .gt 7, 3) := by decide +kernel
theorem dX5_fits_86 : decode cX5_fits 86 = .ok (.iconst 1, 1) := by decide +kernel
theorem dX5_fits_87 : decode cX5_fits 87 = .ok (.goto 4, 3) := by decide +kernel
theorem dX5_fits_90 : decode cX5_fits 90 = .ok (.iconst 0, 1) := by decide +kernel
theorem dX5_fits_91 : decode cX5_fits 91 = .ok (.ireturn, 1) := by decide +kernel
theorem dX5_copyFrom_0 : decode cX5_copyFrom 0 = .ok (.aload_n 0, 1) := by decide +kernel
theorem dX5_copyFrom_1 : decode cX5_copyFrom 1 = .ok (.aload_n 1, 1) := by decide +kernel
theorem dX5_copyFrom_2 : decode cX5_copyFrom 2 = .ok (.getfield 18, 3) := by decide +kernel
theorem dX5_copyFrom_5 : decode cX5_copyFrom 5 = .ok (.putfield 18, 3) := by decide +kernel
theorem dX5_copyFrom_8 : decode cX5_copyFrom 8 = .ok (.aload_n 0, 1) := by decide +kernel
theorem dX5_copyFrom_9 : decode cX5_copyFrom 9 = .ok (.aload_n 1, 1) := by decide +kernel
theorem dX5_copyFrom_10 : decode cX5_copyFrom 10 = .ok (.getfield 21, 3) := by decide +kernel
theorem dX5_copyFrom_13 : decode cX5_copyFrom 13 = .ok (.putfield 21, 3) := by decide +kernel
theorem dX5_copyFrom_16 : decode cX5_copyFrom 16 = .ok (.aload_n 0, 1) := by decide +kernel
theorem dX5_copyFrom_17 : decode cX5_copyFrom 17 = .ok (.aload_n 1, 1) := by decide +kernel
theorem dX5_copyFrom_18 : decode cX5_copyFrom 18 = .ok (.getfield 24, 3) := by decide +kernel
theorem dX5_copyFrom_21 : decode cX5_copyFrom 21 = .ok (.putfield 24, 3) := by decide +kernel
theorem dX5_copyFrom_24 : decode cX5_copyFrom 24 = .ok (.aload_n 0, 1) := by decide +kernel
theorem dX5_copyFrom_25 : decode cX5_copyFrom 25 = .ok (.aload_n 1, 1) := by decide +kernel
theorem dX5_copyFrom_26 : decode cX5_copyFrom 26 = .ok (.getfield 28, 3) := by decide +kernel
theorem dX5_copyFrom_29 : decode cX5_copyFrom 29 = .ok (.putfield 28, 3) := by decide +kernel
theorem dX5_copyFrom_32 : decode cX5_copyFrom 32 = .ok (.aload_n 0, 1) := by decide +kernel
theorem dX5_copyFrom_33 : decode cX5_copyFrom 33 = .ok (.aload_n 1, 1) := by decide +kernel
theorem dX5_copyFrom_34 : decode cX5_copyFrom 34 = .ok (.getfield 31, 3) := by decide +kernel
theorem dX5_copyFrom_37 : decode cX5_copyFrom 37 = .ok (.putfield 31, 3) := by decide +kernel
theorem dX5_copyFrom_40 : decode cX5_copyFrom 40 = .ok (.aload_n 0, 1) := by decide +kernel
theorem dX5_copyFrom_41 : decode cX5_copyFrom 41 = .ok (.aload_n 1, 1) := by decide +kernel
theorem dX5_copyFrom_42 : decode cX5_copyFrom 42 = .ok (.getfield 37, 3) := by decide +kernel
theorem dX5_copyFrom_45 : decode cX5_copyFrom 45 = .ok (.putfield 37, 3) := by decide +kernel
theorem dX5_copyFrom_48 : decode cX5_copyFrom 48 = .ok (.aload_n 0, 1) := by decide +kernel
theorem dX5_copyFrom_49 : decode cX5_copyFrom 49 = .ok (.aload_n 1, 1) := by decide +kernel
theorem dX5_copyFrom_50 : decode cX5_copyFrom 50 = .ok (.getfield 34, 3) := by decide +kernel
theorem dX5_copyFrom_53 : decode cX5_copyFrom 53 = .ok (.putfield 34, 3) := by decide +kernel
theorem dX5_copyFrom_56 : decode cX5_copyFrom 56 = .ok (.aload_n 0, 1) := by decide +kernel
theorem dX5_copyFrom_57 : decode cX5_copyFrom 57 = .ok (.aload_n 1, 1) := by decide +kernel
theorem dX5_copyFrom_58 : decode cX5_copyFrom 58 = .ok (.getfield 46, 3) := by decide +kernel
theorem dX5_copyFrom_61 : decode cX5_copyFrom 61 = .ok (.putfield 46, 3) := by decide +kernel
theorem dX5_copyFrom_64 : decode cX5_copyFrom 64 = .ok (.aload_n 0, 1) := by decide +kernel
theorem dX5_copyFrom_65 : decode cX5_copyFrom 65 = .ok (.aload_n 1, 1) := by decide +kernel
theorem dX5_copyFrom_66 : decode cX5_copyFrom 66 = .ok (.getfield 49, 3) := by decide +kernel
theorem dX5_copyFrom_69 : decode cX5_copyFrom 69 = .ok (.putfield 49, 3) := by decide +kernel
theorem dX5_copyFrom_72 : decode cX5_copyFrom 72 = .ok (.aload_n 0, 1) := by decide +kernel
theorem dX5_copyFrom_73 : decode cX5_copyFrom 73 = .ok (.aload_n 1, 1) := by decide +kernel
theorem dX5_copyFrom_74 : decode cX5_copyFrom 74 = .ok (.getfield 9, 3) := by decide +kernel
theorem dX5_copyFrom_77 : decode cX5_copyFrom 77 = .ok (.putfield 9, 3) := by decide +kernel
theorem dX5_copyFrom_80 : decode cX5_copyFrom 80 = .ok (.aload_n 0, 1) := by decide +kernel
theorem dX5_copyFrom_81 : decode cX5_copyFrom 81 = .ok (.aload_n 1, 1) := by decide +kernel
theorem dX5_copyFrom_82 : decode cX5_copyFrom 82 = .ok (.getfield 15, 3) := by decide +kernel
theorem dX5_copyFrom_85 : decode cX5_copyFrom 85 = .ok (.putfield 15, 3) := by decide +kernel
theorem dX5_copyFrom_88 : decode cX5_copyFrom 88 = .ok (.aload_n 0, 1) := by decide +kernel
theorem dX5_copyFrom_89 : decode cX5_copyFrom 89 = .ok (.aload_n 1, 1) := by decide +kernel
theorem dX5_copyFrom_90 : decode cX5_copyFrom 90 = .ok (.getfield 52, 3) := by decide +kernel
theorem dX5_copyFrom_93 : decode cX5_copyFrom 93 = .ok (.putfield 52, 3) := by decide +kernel
theorem dX5_copyFrom_96 : decode cX5_copyFrom 96 = .ok (.aload_n 0, 1) := by decide +kernel
theorem dX5_copyFrom_97 : decode cX5_copyFrom 97 = .ok (.aload_n 1, 1) := by decide +kernel
theorem dX5_copyFrom_98 : decode cX5_copyFrom 98 = .ok (.getfield 55, 3) := by decide +kernel
theorem dX5_copyFrom_101 : decode cX5_copyFrom 101 = .ok (.putfield 55, 3) := by decide +kernel
theorem dX5_copyFrom_104 : decode cX5_copyFrom 104 = .ok (.return_, 1) := by decide +kernel
theorem dX6_init_0 : decode cX6_init 0 = .ok (.aload_n 0, 1) := by decide +kernel
theorem dX6_init_1 : decode cX6_init 1 = .ok (.invokespecial 1, 3) := by decide +kernel
theorem dX6_init_4 : decode cX6_init 4 = .ok (.return_, 1) := by decide +kernel
theorem dX6_names_0 : decode cX6_names 0 = .ok (.aload_n 0, 1) := by decide +kernel
theorem dX6_names_1 : decode cX6_names 1 = .ok (.getfield 7, 3) := by decide +kernel
theorem dX6_names_4 : decode cX6_names 4 = .ok (.iload_n 1, 1) := by decide +kernel
theorem dX6_names_5 : decode cX6_names 5 = .ok (.if_icmp .eq 11, 3) := by decide +kernel
theorem dX6_names_8 : decode cX6_names 8 = .ok (.aload_n 0, 1) := by decide +kernel
theorem dX6_names_9 : decode cX6_names 9 = .ok (.getfield 13, 3) := by decide +kernel
theorem dX6_names_12 : decode cX6_names 12 = .ok (.iload_n 1, 1) := by decide +kernel
theorem dX6_names_13 : decode cX6_names 13 = .ok (.if_icmp .ne 7, 3) := by decide +kernel
theorem dX6_names_16 : decode cX6_names 16 = .ok (.iconst 1, 1) := by decide +kernel
theorem dX6_names_17 : decode cX6_names 17 = .ok (.goto 4, 3) := by decide +kernel
theorem dX6_names_20 : decode cX6_names 20 = .ok (.iconst 0, 1) := by decide +kernel
theorem dX6_names_21 : decode cX6_names 21 = .ok (.ireturn, 1) := by decide +kernel
theorem dX6_copyFrom_0 : decode cX6_copyFrom 0 = .ok (.aload_n 0, 1) := by decide +kernel
theorem dX6_copyFrom_1 : decode cX6_copyFrom 1 = .ok (.aload_n 1, 1) := by decide +kernel
theorem dX6_copyFrom_2 : decode cX6_copyFrom 2 = .ok (.getfield 7, 3) := by decide +kernel
theorem dX6_copyFrom_5 : decode cX6_copyFrom 5 = .ok (.putfield 7, 3) := by decide +kernel
theorem dX6_copyFrom_8 : decode cX6_copyFrom 8 = .ok (.aload_n 0, 1) := by decide +kernel
theorem dX6_copyFrom_9 : decode cX6_copyFrom 9 = .ok (.aload_n 1, 1) := by decide +kernel
theorem dX6_copyFrom_10 : decode cX6_copyFrom 10 = .ok (.getfield 13, 3) := by decide +kernel
theorem dX6_copyFrom_13 : decode cX6_copyFrom 13 = .ok (.putfield 13, 3) := by decide +kernel
theorem dX6_copyFrom_16 : decode cX6_copyFrom 16 = .ok (.aload_n 0, 1) := by decide +kernel
theorem dX6_copyFrom_17 : decode cX6_copyFrom 17 = .ok (.aload_n 1, 1) := by decide +kernel
theorem dX6_copyFrom_18 : decode cX6_copyFrom 18 = .ok (.getfield 16, 3) := by decide +kernel
theorem dX6_copyFrom_21 : decode cX6_copyFrom 21 = .ok (.putfield 16, 3) := by decide +kernel
theorem dX6_copyFrom_24 : decode cX6_copyFrom 24 = .ok (.return_, 1) := by decide +kernel
theorem dX7_init_0 : decode cX7_init 0 = .ok (.aload_n 0, 1) := by decide +kernel
theorem dX7_init_1 : decode cX7_init 1 = .ok (.invokespecial 1, 3) := by decide +kernel
theorem dX7_init_4 : decode cX7_init 4 = .ok (.return_, 1) := by decide +kernel
theorem dX7_copyFrom_0 : decode cX7_copyFrom 0 = .ok (.aload_n 0, 1) := by decide +kernel
theorem dX7_copyFrom_1 : decode cX7_copyFrom 1 = .ok (.aload_n 1, 1) := by decide +kernel
theorem dX7_copyFrom_2 : decode cX7_copyFrom 2 = .ok (.getfield 7, 3) := by decide +kernel
theorem dX7_copyFrom_5 : decode cX7_copyFrom 5 = .ok (.putfield 7, 3) := by decide +kernel
theorem dX7_copyFrom_8 : decode cX7_copyFrom 8 = .ok (.aload_n 0, 1) := by decide +kernel
theorem dX7_copyFrom_9 : decode cX7_copyFrom 9 = .ok (.aload_n 1, 1) := by decide +kernel
theorem dX7_copyFrom_10 : decode cX7_copyFrom 10 = .ok (.getfield 13, 3) := by decide +kernel
theorem dX7_copyFrom_13 : decode cX7_copyFrom 13 = .ok (.putfield 13, 3) := by decide +kernel
theorem dX7_copyFrom_16 : decode cX7_copyFrom 16 = .ok (.aload_n 0, 1) := by decide +kernel
theorem dX7_copyFrom_17 : decode cX7_copyFrom 17 = .ok (.aload_n 1, 1) := by decide +kernel
theorem dX7_copyFrom_18 : decode cX7_copyFrom 18 = .ok (.getfield 16, 3) := by decide +kernel
theorem dX7_copyFrom_21 : decode cX7_copyFrom 21 = .ok (.putfield 16, 3) := by decide +kernel
theorem dX7_copyFrom_24 : decode cX7_copyFrom 24 = .ok (.aload_n 0, 1) := by decide +kernel
theorem dX7_copyFrom_25 : decode cX7_copyFrom 25 = .ok (.aload_n 1, 1) := by decide +kernel
theorem dX7_copyFrom_26 : decode cX7_copyFrom 26 = .ok (.getfield 19, 3) := by decide +kernel
theorem dX7_copyFrom_29 : decode cX7_copyFrom 29 = .ok (.putfield 19, 3) := by decide +kernel
theorem dX7_copyFrom_32 : decode cX7_copyFrom 32 = .ok (.aload_n 0, 1) := by decide +kernel
theorem dX7_copyFrom_33 : decode cX7_copyFrom 33 = .ok (.aload_n 1, 1) := by decide +kernel
theorem dX7_copyFrom_34 : decode cX7_copyFrom 34 = .ok (.getfield 23, 3) := by decide +kernel
theorem dX7_copyFrom_37 : decode cX7_copyFrom 37 = .ok (.putfield 23, 3) := by decide +kernel
theorem dX7_copyFrom_40 : decode cX7_copyFrom 40 = .ok (.aload_n 0, 1) := by decide +kernel
theorem dX7_copyFrom_41 : decode cX7_copyFrom 41 = .ok (.aload_n 1, 1) := by decide +kernel
theorem dX7_copyFrom_42 : decode cX7_copyFrom 42 = .ok (.getfield 26, 3) := by decide +kernel
theorem dX7_copyFrom_45 : decode cX7_copyFrom 45 = .ok (.putfield 26, 3) := by decide +kernel
theorem dX7_copyFrom_48 : decode cX7_copyFrom 48 = .ok (.aload_n 0, 1) := by decide +kernel
theorem dX7_copyFrom_49 : decode cX7_copyFrom 49 = .ok (.aload_n 1, 1) := by decide +kernel
theorem dX7_copyFrom_50 : decode cX7_copyFrom 50 = .ok (.getfield 30, 3) := by decide +kernel
theorem dX7_copyFrom_53 : decode cX7_copyFrom 53 = .ok (.putfield 30, 3) := by decide +kernel
theorem dX7_copyFrom_56 : decode cX7_copyFrom 56 = .ok (.return_, 1) := by decide +kernel
theorem dX8_init_0 : decode cX8_init 0 = .ok (.aload_n 0, 1) := by decide +kernel
theorem dX8_init_1 : decode cX8_init 1 = .ok (.invokespecial 3, 3) := by decide +kernel
theorem dX8_init_4 : decode cX8_init 4 = .ok (.aload_n 0, 1) := by decide +kernel
theorem dX8_init_5 : decode cX8_init 5 = .ok (.bipush 10, 2) := by decide +kernel
theorem dX8_init_7 : decode cX8_init 7 = .ok (.newarray .int, 2) := by decide +kernel
theorem dX8_init_9 : decode cX8_init 9 = .ok (.putfield 9, 3) := by decide +kernel
theorem dX8_init_12 : decode cX8_init 12 = .ok (.return_, 1) := by decide +kernel
theorem dX8_tell_0 : decode cX8_tell 0 = .ok (.iload_n 1, 1) := by decide +kernel
theorem dX8_tell_1 : decode cX8_tell 1 = .ok (.ifCond .lt 22, 3) := by decide +kernel
theorem dX8_tell_4 : decode cX8_tell 4 = .ok (.iload_n 1, 1) := by decide +kernel
theorem dX8_tell_5 : decode cX8_tell 5 = .ok (.aload_n 0, 1) := by decide +kernel
theorem dX8_tell_6 : decode cX8_tell 6 = .ok (.getfield 9, 3) := by decide +kernel
theorem dX8_tell_9 : decode cX8_tell 9 = .ok (.arraylength, 1) := by decide +kernel
theorem dX8_tell_10 : decode cX8_tell 10 = .ok (.if_icmp .ge 13, 3) := by decide +kernel
theorem dX8_tell_13 : decode cX8_tell 13 = .ok (.aload_n 0, 1) := by decide +kernel
theorem dX8_tell_14 : decode cX8_tell 14 = .ok (.getfield 9, 3) := by decide +kernel
theorem dX8_tell_17 : decode cX8_tell 17 = .ok (.iload_n 1, 1) := by decide +kernel
theorem dX8_tell_18 : decode cX8_tell 18 = .ok (.dup2, 1) := by decide +kernel
theorem dX8_tell_19 : decode cX8_tell 19 = .ok (.iaload, 1) := by decide +kernel
theorem dX8_tell_20 : decode cX8_tell 20 = .ok (.iconst 1, 1) := by decide +kernel
theorem dX8_tell_21 : decode cX8_tell 21 = .ok (.iadd, 1) := by decide +kernel
theorem dX8_tell_22 : decode cX8_tell 22 = .ok (.iastore, 1) := by decide +kernel
theorem dX8_tell_23 : decode cX8_tell 23 = .ok (.return_, 1) := by decide +kernel
theorem dX8_toldTo_0 : decode cX8_toldTo 0 = .ok (.iload_n 1, 1) := by decide +kernel
theorem dX8_toldTo_1 : decode cX8_toldTo 1 = .ok (.ifCond .lt 21, 3) := by decide +kernel
theorem dX8_toldTo_4 : decode cX8_toldTo 4 = .ok (.iload_n 1, 1) := by decide +kernel
theorem dX8_toldTo_5 : decode cX8_toldTo 5 = .ok (.aload_n 0, 1) := by decide +kernel
theorem dX8_toldTo_6 : decode cX8_toldTo 6 = .ok (.getfield 9, 3) := by decide +kernel
theorem dX8_toldTo_9 : decode cX8_toldTo 9 = .ok (.arraylength, 1) := by decide +kernel
theorem dX8_toldTo_10 : decode cX8_toldTo 10 = .ok (.if_icmp .ge 12, 3) := by decide +kernel
theorem dX8_toldTo_13 : decode cX8_toldTo 13 = .ok (.aload_n 0, 1) := by decide +kernel
theorem dX8_toldTo_14 : decode cX8_toldTo 14 = .ok (.getfield 9, 3) := by decide +kernel
theorem dX8_toldTo_17 : decode cX8_toldTo 17 = .ok (.iload_n 1, 1) := by decide +kernel
theorem dX8_toldTo_18 : decode cX8_toldTo 18 = .ok (.iaload, 1) := by decide +kernel
theorem dX8_toldTo_19 : decode cX8_toldTo 19 = .ok (.goto 4, 3) := by decide +kernel
theorem dX8_toldTo_22 : decode cX8_toldTo 22 = .ok (.iconst 0, 1) := by decide +kernel
theorem dX8_toldTo_23 : decode cX8_toldTo 23 = .ok (.ireturn, 1) := by decide +kernel
theorem dX9_init_0 : decode cX9_init 0 = .ok (.aload_n 0, 1) := by decide +kernel
theorem dX9_init_1 : decode cX9_init 1 = .ok (.invokespecial 1, 3) := by decide +kernel
theorem dX9_init_4 : decode cX9_init 4 = .ok (.return_, 1) := by decide +kernel
theorem dX9_copyFrom_0 : decode cX9_copyFrom 0 = .ok (.aload_n 0, 1) := by decide +kernel
theorem dX9_copyFrom_1 : decode cX9_copyFrom 1 = .ok (.aload_n 1, 1) := by decide +kernel
theorem dX9_copyFrom_2 : decode cX9_copyFrom 2 = .ok (.getfield 7, 3) := by decide +kernel
theorem dX9_copyFrom_5 : decode cX9_copyFrom 5 = .ok (.putfield 7, 3) := by decide +kernel
theorem dX9_copyFrom_8 : decode cX9_copyFrom 8 = .ok (.aload_n 0, 1) := by decide +kernel
theorem dX9_copyFrom_9 : decode cX9_copyFrom 9 = .ok (.aload_n 1, 1) := by decide +kernel
theorem dX9_copyFrom_10 : decode cX9_copyFrom 10 = .ok (.getfield 13, 3) := by decide +kernel
theorem dX9_copyFrom_13 : decode cX9_copyFrom 13 = .ok (.putfield 13, 3) := by decide +kernel
theorem dX9_copyFrom_16 : decode cX9_copyFrom 16 = .ok (.aload_n 0, 1) := by decide +kernel
theorem dX9_copyFrom_17 : decode cX9_copyFrom 17 = .ok (.aload_n 1, 1) := by decide +kernel
theorem dX9_copyFrom_18 : decode cX9_copyFrom 18 = .ok (.getfield 16, 3) := by decide +kernel
theorem dX9_copyFrom_21 : decode cX9_copyFrom 21 = .ok (.putfield 16, 3) := by decide +kernel
theorem dX9_copyFrom_24 : decode cX9_copyFrom 24 = .ok (.aload_n 0, 1) := by decide +kernel
theorem dX9_copyFrom_25 : decode cX9_copyFrom 25 = .ok (.aload_n 1, 1) := by decide +kernel
theorem dX9_copyFrom_26 : decode cX9_copyFrom 26 = .ok (.getfield 19, 3) := by decide +kernel
theorem dX9_copyFrom_29 : decode cX9_copyFrom 29 = .ok (.putfield 19, 3) := by decide +kernel
theorem dX9_copyFrom_32 : decode cX9_copyFrom 32 = .ok (.return_, 1) := by decide +kernel
theorem dX10_init_0 : decode cX10_init 0 = .ok (.aload_n 0, 1) := by decide +kernel
theorem dX10_init_1 : decode cX10_init 1 = .ok (.invokespecial 3, 3) := by decide +kernel
theorem dX10_init_4 : decode cX10_init 4 = .ok (.aload_n 0, 1) := by decide +kernel
theorem dX10_init_5 : decode cX10_init 5 = .ok (.iconst 1, 1) := by decide +kernel
theorem dX10_init_6 : decode cX10_init 6 = .ok (.putfield 9, 3) := by decide +kernel
theorem dX10_init_9 : decode cX10_init 9 = .ok (.aload_n 0, 1) := by decide +kernel
theorem dX10_init_10 : decode cX10_init 10 = .ok (.iload_n 1, 1) := by decide +kernel
theorem dX10_init_11 : decode cX10_init 11 = .ok (.putfield 15, 3) := by decide +kernel
theorem dX10_init_14 : decode cX10_init 14 = .ok (.return_, 1) := by decide +kernel
theorem dX10_copyFrom_0 : decode cX10_copyFrom 0 = .ok (.aload_n 0, 1) := by decide +kernel
theorem dX10_copyFrom_1 : decode cX10_copyFrom 1 = .ok (.aload_n 1, 1) := by decide +kernel
theorem dX10_copyFrom_2 : decode cX10_copyFrom 2 = .ok (.getfield 18, 3) := by decide +kernel
theorem dX10_copyFrom_5 : decode cX10_copyFrom 5 = .ok (.putfield 18, 3) := by decide +kernel
theorem dX10_copyFrom_8 : decode cX10_copyFrom 8 = .ok (.aload_n 0, 1) := by decide +kernel
theorem dX10_copyFrom_9 : decode cX10_copyFrom 9 = .ok (.aload_n 1, 1) := by decide +kernel
theorem dX10_copyFrom_10 : decode cX10_copyFrom 10 = .ok (.getfield 21, 3) := by decide +kernel
theorem dX10_copyFrom_13 : decode cX10_copyFrom 13 = .ok (.putfield 21, 3) := by decide +kernel
theorem dX10_copyFrom_16 : decode cX10_copyFrom 16 = .ok (.aload_n 0, 1) := by decide +kernel
theorem dX10_copyFrom_17 : decode cX10_copyFrom 17 = .ok (.aload_n 1, 1) := by decide +kernel
theorem dX10_copyFrom_18 : decode cX10_copyFrom 18 = .ok (.getfield 24, 3) := by decide +kernel
theorem dX10_copyFrom_21 : decode cX10_copyFrom 21 = .ok (.putfield 24, 3) := by decide +kernel
theorem dX10_copyFrom_24 : decode cX10_copyFrom 24 = .ok (.aload_n 0, 1) := by decide +kernel
theorem dX10_copyFrom_25 : decode cX10_copyFrom 25 = .ok (.aload_n 1, 1) := by decide +kernel
theorem dX10_copyFrom_26 : decode cX10_copyFrom 26 = .ok (.getfield 27, 3) := by decide +kernel
theorem dX10_copyFrom_29 : decode cX10_copyFrom 29 = .ok (.putfield 27, 3) := by decide +kernel
theorem dX10_copyFrom_32 : decode cX10_copyFrom 32 = .ok (.aload_n 0, 1) := by decide +kernel
theorem dX10_copyFrom_33 : decode cX10_copyFrom 33 = .ok (.aload_n 1, 1) := by decide +kernel
theorem dX10_copyFrom_34 : decode cX10_copyFrom 34 = .ok (.getfield 30, 3) := by decide +kernel
theorem dX10_copyFrom_37 : decode cX10_copyFrom 37 = .ok (.putfield 30, 3) := by decide +kernel
theorem dX10_copyFrom_40 : decode cX10_copyFrom 40 = .ok (.aload_n 0, 1) := by decide +kernel
theorem dX10_copyFrom_41 : decode cX10_copyFrom 41 = .ok (.aload_n 1, 1) := by decide +kernel
theorem dX10_copyFrom_42 : decode cX10_copyFrom 42 = .ok (.getfield 33, 3) := by decide +kernel
theorem dX10_copyFrom_45 : decode cX10_copyFrom 45 = .ok (.putfield 33, 3) := by decide +kernel
theorem dX10_copyFrom_48 : decode cX10_copyFrom 48 = .ok (.aload_n 0, 1) := by decide +kernel
theorem dX10_copyFrom_49 : decode cX10_copyFrom 49 = .ok (.aload_n 1, 1) := by decide +kernel
theorem dX10_copyFrom_50 : decode cX10_copyFrom 50 = .ok (.getfield 37, 3) := by decide +kernel
theorem dX10_copyFrom_53 : decode cX10_copyFrom 53 = .ok (.putfield 37, 3) := by decide +kernel
theorem dX10_copyFrom_56 : decode cX10_copyFrom 56 = .ok (.aload_n 0, 1) := by decide +kernel
theorem dX10_copyFrom_57 : decode cX10_copyFrom 57 = .ok (.aload_n 1, 1) := by decide +kernel
theorem dX10_copyFrom_58 : decode cX10_copyFrom 58 = .ok (.getfield 40, 3) := by decide +kernel
theorem dX10_copyFrom_61 : decode cX10_copyFrom 61 = .ok (.putfield 40, 3) := by decide +kernel
theorem dX10_copyFrom_64 : decode cX10_copyFrom 64 = .ok (.aload_n 0, 1) := by decide +kernel
theorem dX10_copyFrom_65 : decode cX10_copyFrom 65 = .ok (.aload_n 1, 1) := by decide +kernel
theorem dX10_copyFrom_66 : decode cX10_copyFrom 66 = .ok (.getfield 43, 3) := by decide +kernel
theorem dX10_copyFrom_69 : decode cX10_copyFrom 69 = .ok (.putfield 43, 3) := by decide +kernel
theorem dX10_copyFrom_72 : decode cX10_copyFrom 72 = .ok (.aload_n 0, 1) := by decide +kernel
theorem dX10_copyFrom_73 : decode cX10_copyFrom 73 = .ok (.aload_n 1, 1) := by decide +kernel
theorem dX10_copyFrom_74 : decode cX10_copyFrom 74 = .ok (.getfield 46, 3) := by decide +kernel
theorem dX10_copyFrom_77 : decode cX10_copyFrom 77 = .ok (.putfield 46, 3) := by decide +kernel
theorem dX10_copyFrom_80 : decode cX10_copyFrom 80 = .ok (.aload_n 0, 1) := by decide +kernel
theorem dX10_copyFrom_81 : decode cX10_copyFrom 81 = .ok (.aload_n 1, 1) := by decide +kernel
theorem dX10_copyFrom_82 : decode cX10_copyFrom 82 = .ok (.getfield 49, 3) := by decide +kernel
theorem dX10_copyFrom_85 : decode cX10_copyFrom 85 = .ok (.putfield 49, 3) := by decide +kernel
theorem dX10_copyFrom_88 : decode cX10_copyFrom 88 = .ok (.aload_n 0, 1) := by decide +kernel
theorem dX10_copyFrom_89 : decode cX10_copyFrom 89 = .ok (.aload_n 1, 1) := by decide +kernel
theorem dX10_copyFrom_90 : decode cX10_copyFrom 90 = .ok (.getfield 9, 3) := by decide +kernel
theorem dX10_copyFrom_93 : decode cX10_copyFrom 93 = .ok (.putfield 9, 3) := by decide +kernel
theorem dX10_copyFrom_96 : decode cX10_copyFrom 96 = .ok (.return_, 1) := by decide +kernel
theorem dX11_init_0 : decode cX11_init 0 = .ok (.aload_n 0, 1) := by decide +kernel
theorem dX11_init_1 : decode cX11_init 1 = .ok (.invokespecial 1, 3) := by decide +kernel
theorem dX11_init_4 : decode cX11_init 4 = .ok (.aload_n 0, 1) := by decide +kernel
theorem dX11_init_5 : decode cX11_init 5 = .ok (.new 7, 3) := by decide +kernel
theorem dX11_init_8 : decode cX11_init 8 = .ok (.dup, 1) := by decide +kernel
theorem dX11_init_9 : decode cX11_init 9 = .ok (.invokespecial 9, 3) := by decide +kernel
theorem dX11_init_12 : decode cX11_init 12 = .ok (.putfield 10, 3) := by decide +kernel
theorem dX11_init_15 : decode cX11_init 15 = .ok (.aload_n 0, 1) := by decide +kernel
theorem dX11_init_16 : decode cX11_init 16 = .ok (.new 16, 3) := by decide +kernel
theorem dX11_init_19 : decode cX11_init 19 = .ok (.dup, 1) := by decide +kernel
theorem dX11_init_20 : decode cX11_init 20 = .ok (.aload_n 0, 1) := by decide +kernel
theorem dX11_init_21 : decode cX11_init 21 = .ok (.getfield 10, 3) := by decide +kernel
theorem dX11_init_24 : decode cX11_init 24 = .ok (.invokespecial 18, 3) := by decide +kernel
theorem dX11_init_27 : decode cX11_init 27 = .ok (.putfield 21, 3) := by decide +kernel
theorem dX11_init_30 : decode cX11_init 30 = .ok (.aload_n 0, 1) := by decide +kernel
theorem dX11_init_31 : decode cX11_init 31 = .ok (.new 16, 3) := by decide +kernel
theorem dX11_init_34 : decode cX11_init 34 = .ok (.dup, 1) := by decide +kernel
theorem dX11_init_35 : decode cX11_init 35 = .ok (.aload_n 0, 1) := by decide +kernel
theorem dX11_init_36 : decode cX11_init 36 = .ok (.getfield 10, 3) := by decide +kernel
theorem dX11_init_39 : decode cX11_init 39 = .ok (.invokespecial 18, 3) := by decide +kernel
theorem dX11_init_42 : decode cX11_init 42 = .ok (.putfield 25, 3) := by decide +kernel
theorem dX11_init_45 : decode cX11_init 45 = .ok (.aload_n 0, 1) := by decide +kernel
theorem dX11_init_46 : decode cX11_init 46 = .ok (.new 28, 3) := by decide +kernel
theorem dX11_init_49 : decode cX11_init 49 = .ok (.dup, 1) := by decide +kernel
theorem dX11_init_50 : decode cX11_init 50 = .ok (.aload_n 0, 1) := by decide +kernel
theorem dX11_init_51 : decode cX11_init 51 = .ok (.getfield 21, 3) := by decide +kernel
theorem dX11_init_54 : decode cX11_init 54 = .ok (.invokespecial 30, 3) := by decide +kernel
theorem dX11_init_57 : decode cX11_init 57 = .ok (.putfield 33, 3) := by decide +kernel
theorem dX11_init_60 : decode cX11_init 60 = .ok (.aload_n 0, 1) := by decide +kernel
theorem dX11_init_61 : decode cX11_init 61 = .ok (.new 37, 3) := by decide +kernel
theorem dX11_init_64 : decode cX11_init 64 = .ok (.dup, 1) := by decide +kernel
theorem dX11_init_65 : decode cX11_init 65 = .ok (.aload_n 0, 1) := by decide +kernel
theorem dX11_init_66 : decode cX11_init 66 = .ok (.getfield 21, 3) := by decide +kernel
theorem dX11_init_69 : decode cX11_init 69 = .ok (.invokespecial 39, 3) := by decide +kernel
theorem dX11_init_72 : decode cX11_init 72 = .ok (.putfield 40, 3) := by decide +kernel
theorem dX11_init_75 : decode cX11_init 75 = .ok (.aload_n 0, 1) := by decide +kernel
theorem dX11_init_76 : decode cX11_init 76 = .ok (.iconst 0, 1) := by decide +kernel
theorem dX11_init_77 : decode cX11_init 77 = .ok (.putfield 44, 3) := by decide +kernel
theorem dX11_init_80 : decode cX11_init 80 = .ok (.return_, 1) := by decide +kernel
theorem dX11_open_0 : decode cX11_open 0 = .ok (.iload_n 1, 1) := by decide +kernel
theorem dX11_open_1 : decode cX11_open 1 = .ok (.iconst (-1), 1) := by decide +kernel
theorem dX11_open_2 : decode cX11_open 2 = .ok (.if_icmp .eq 8, 3) := by decide +kernel
theorem dX11_open_5 : decode cX11_open 5 = .ok (.aload_n 0, 1) := by decide +kernel
theorem dX11_open_6 : decode cX11_open 6 = .ok (.iload_n 1, 1) := by decide +kernel
theorem dX11_open_7 : decode cX11_open 7 = .ok (.invokevirtual 48, 3) := by decide +kernel
theorem dX11_open_10 : decode cX11_open 10 = .ok (.iload_n 3, 1) := by decide +kernel
theorem dX11_open_11 : decode cX11_open 11 = .ok (.iconst 0, 1) := by decide +kernel
theorem dX11_open_12 : decode cX11_open 12 = .ok (.iconst 2, 1) := by decide +kernel
theorem dX11_open_13 : decode cX11_open 13 = .ok (.invokestatic 52, 3) := by decide +kernel
theorem dX11_open_16 : decode cX11_open 16 = .ok (.iload 4, 2) := by decide +kernel
theorem dX11_open_18 : decode cX11_open 18 = .ok (.iconst 0, 1) := by decide +kernel
theorem dX11_open_19 : decode cX11_open 19 = .ok (.ldc 56, 2) := by decide +kernel
theorem dX11_open_21 : decode cX11_open 21 = .ok (.invokestatic 52, 3) := by decide +kernel
theorem dX11_open_24 : decode cX11_open 24 = .ok (.iload 5, 2) := by decide +kernel
theorem dX11_open_26 : decode cX11_open 26 = .ok (.iconst 0, 1) := by decide +kernel
theorem dX11_open_27 : decode cX11_open 27 = .ok (.ldc 56, 2) := by decide +kernel
theorem dX11_open_29 : decode cX11_open 29 = .ok (.invokestatic 52, 3) := by decide +kernel
theorem dX11_open_32 : decode cX11_open 32 = .ok (.iload_n 1, 1) := by decide +kernel
theorem dX11_open_33 : decode cX11_open 33 = .ok (.iconst (-1), 1) := by decide +kernel
theorem dX11_open_34 : decode cX11_open 34 = .ok (.if_icmp .eq 18, 3) := by decide +kernel
theorem dX11_open_37 : decode cX11_open 37 = .ok (.aload_n 0, 1) := by decide +kernel
theorem dX11_open_38 : decode cX11_open 38 = .ok (.getfield 21, 3) := by decide +kernel
theorem dX11_open_41 : decode cX11_open 41 = .ok (.iload_n 1, 1) := by decide +kernel
theorem dX11_open_42 : decode cX11_open 42 = .ok (.invokevirtual 57, 3) := by decide +kernel
theorem dX11_open_45 : decode cX11_open 45 = .ok (.getfield 61, 3) := by decide +kernel
theorem dX11_open_48 : decode cX11_open 48 = .ok (.iconst (-1), 1) := by decide +kernel
theorem dX11_open_49 : decode cX11_open 49 = .ok (.if_icmp .ne 7, 3) := by decide +kernel
theorem dX11_open_52 : decode cX11_open 52 = .ok (.iconst 1, 1) := by decide +kernel
theorem dX11_open_53 : decode cX11_open 53 = .ok (.goto 4, 3) := by decide +kernel
theorem dX11_open_56 : decode cX11_open 56 = .ok (.iconst 0, 1) := by decide +kernel
theorem dX11_open_57 : decode cX11_open 57 = .ok (.invokestatic 67, 3) := by decide +kernel
theorem dX11_open_60 : decode cX11_open 60 = .ok (.aload_n 0, 1) := by decide +kernel
theorem dX11_open_61 : decode cX11_open 61 = .ok (.getfield 21, 3) := by decide +kernel
theorem dX11_open_64 : decode cX11_open 64 = .ok (.getfield 71, 3) := by decide +kernel
theorem dX11_open_67 : decode cX11_open 67 = .ok (.bipush 10, 2) := by decide +kernel
theorem dX11_open_69 : decode cX11_open 69 = .ok (.if_icmp .ge 7, 3) := by decide +kernel
theorem dX11_open_72 : decode cX11_open 72 = .ok (.iconst 1, 1) := by decide +kernel
theorem dX11_open_73 : decode cX11_open 73 = .ok (.goto 4, 3) := by decide +kernel
theorem dX11_open_76 : decode cX11_open 76 = .ok (.iconst 0, 1) := by decide +kernel
theorem dX11_open_77 : decode cX11_open 77 = .ok (.invokestatic 67, 3) := by decide +kernel
theorem dX11_open_80 : decode cX11_open 80 = .ok (.aload_n 0, 1) := by decide +kernel
theorem dX11_open_81 : decode cX11_open 81 = .ok (.getfield 21, 3) := by decide +kernel
theorem dX11_open_84 : decode cX11_open 84 = .ok (.getfield 71, 3) := by decide +kernel
theorem dX11_open_87 : decode cX11_open 87 = .ok (.istore 6, 2) := by decide +kernel
theorem dX11_open_89 : decode cX11_open 89 = .ok (.aload_n 0, 1) := by decide +kernel
theorem dX11_open_90 : decode cX11_open 90 = .ok (.getfield 21, 3) := by decide +kernel
theorem dX11_open_93 : decode cX11_open 93 = .ok (.iload 6, 2) := by decide +kernel
theorem dX11_open_95 : decode cX11_open 95 = .ok (.invokevirtual 57, 3) := by decide +kernel
theorem dX11_open_98 : decode cX11_open 98 = .ok (.astore 7, 2) := by decide +kernel
theorem dX11_open_100 : decode cX11_open 100 = .ok (.aload 7, 2) := by decide +kernel
theorem dX11_open_102 : decode cX11_open 102 = .ok (.iload_n 1, 1) := by decide +kernel
theorem dX11_open_103 : decode cX11_open 103 = .ok (.putfield 61, 3) := by decide +kernel
theorem dX11_open_106 : decode cX11_open 106 = .ok (.aload 7, 2) := by decide +kernel
theorem dX11_open_108 : decode cX11_open 108 = .ok (.iload_n 2, 1) := by decide +kernel
theorem dX11_open_109 : decode cX11_open 109 = .ok (.ifCond .eq 12, 3) := by decide +kernel
theorem dX11_open_112 : decode cX11_open 112 = .ok (.iload_n 1, 1) := by decide +kernel
theorem dX11_open_113 : decode cX11_open 113 = .ok (.iconst (-1), 1) := by decide +kernel
theorem dX11_open_114 : decode cX11_open 114 = .ok (.if_icmp .eq 7, 3) := by decide +kernel
theorem dX11_open_117 : decode cX11_open 117 = .ok (.iconst 1, 1) := by decide +kernel
theorem dX11_open_118 : decode cX11_open 118 = .ok (.goto 4, 3) := by decide +kernel
theorem dX11_open_121 : decode cX11_open 121 = .ok (.iconst 0, 1) := by decide +kernel
theorem dX11_open_122 : decode cX11_open 122 = .ok (.putfield 74, 3) := by decide +kernel
theorem dX11_open_125 : decode cX11_open 125 = .ok (.aload 7, 2) := by decide +kernel
theorem dX11_open_127 : decode cX11_open 127 = .ok (.iload_n 3, 1) := by decide +kernel
theorem dX11_open_128 : decode cX11_open 128 = .ok (.putfield 77, 3) := by decide +kernel
theorem dX11_open_131 : decode cX11_open 131 = .ok (.aload 7, 2) := by decide +kernel
theorem dX11_open_133 : decode cX11_open 133 = .ok (.iload 4, 2) := by decide +kernel
theorem dX11_open_135 : decode cX11_open 135 = .ok (.i2l, 1) := by decide +kernel
theorem dX11_open_136 : decode cX11_open 136 = .ok (.putfield 80, 3) := by decide +kernel
theorem dX11_open_139 : decode cX11_open 139 = .ok (.aload 7, 2) := by decide +kernel
theorem dX11_open_141 : decode cX11_open 141 = .ok (.iload 5, 2) := by decide +kernel
theorem dX11_open_143 : decode cX11_open 143 = .ok (.i2l, 1) := by decide +kernel
theorem dX11_open_144 : decode cX11_open 144 = .ok (.putfield 84, 3) := by decide +kernel
theorem dX11_open_147 : decode cX11_open 147 = .ok (.aload_n 0, 1) := by decide +kernel
theorem dX11_open_148 : decode cX11_open 148 = .ok (.getfield 21, 3) := by decide +kernel
theorem dX11_open_151 : decode cX11_open 151 = .ok (.iload 6, 2) := by decide +kernel
theorem dX11_open_153 : decode cX11_open 153 = .ok (.iconst 1, 1) := by decide +kernel
theorem dX11_open_154 : decode cX11_open 154 = .ok (.iadd, 1) := by decide +kernel
theorem dX11_open_155 : decode cX11_open 155 = .ok (.putfield 71, 3) := by decide +kernel
theorem dX11_open_158 : decode cX11_open 158 = .ok (.iload 6, 2) := by decide +kernel
theorem dX11_open_160 : decode cX11_open 160 = .ok (.ireturn, 1) := by decide +kernel
