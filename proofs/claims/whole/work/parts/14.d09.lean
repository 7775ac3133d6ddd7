theorem dX12_best_0 : decode cX12_best 0 = .ok (.aload_n 0, 1) := by decide +kernel
theorem dX12_best_1 : decode cX12_best 1 = .ok (.iconst 0, 1) := by decide +kernel
theorem dX12_best_2 : decode cX12_best 2 = .ok (.invokevirtual 61, 3) := by decide +kernel
theorem dX12_best_5 : decode cX12_best 5 = .ok (.pop, 1) := by decide +kernel
theorem dX12_best_6 : decode cX12_best 6 = .ok (.aload_n 0, 1) := by decide +kernel
theorem dX12_best_7 : decode cX12_best 7 = .ok (.invokevirtual 180, 3) := by decide +kernel
theorem dX12_best_10 : decode cX12_best 10 = .ok (.aload_n 0, 1) := by decide +kernel
theorem dX12_best_11 : decode cX12_best 11 = .ok (.aload_n 0, 1) := by decide +kernel
theorem dX12_best_12 : decode cX12_best 12 = .ok (.invokevirtual 183, 3) := by decide +kernel
theorem dX12_best_15 : decode cX12_best 15 = .ok (.invokevirtual 158, 3) := by decide +kernel
theorem dX12_best_18 : decode cX12_best 18 = .ok (.lreturn, 1) := by decide +kernel
theorem dX12_bestByAll_0 : decode cX12_bestByAll 0 = .ok (.aload_n 0, 1) := by decide +kernel
theorem dX12_bestByAll_1 : decode cX12_bestByAll 1 = .ok (.invokevirtual 193, 3) := by decide +kernel
theorem dX12_bestByAll_4 : decode cX12_bestByAll 4 = .ok (.lreturn, 1) := by decide +kernel
theorem dX12_shortOf_0 : decode cX12_shortOf 0 = .ok (.aload_n 0, 1) := by decide +kernel
theorem dX12_shortOf_1 : decode cX12_shortOf 1 = .ok (.aload_n 0, 1) := by decide +kernel
theorem dX12_shortOf_2 : decode cX12_shortOf 2 = .ok (.iload_n 1, 1) := by decide +kernel
theorem dX12_shortOf_3 : decode cX12_shortOf 3 = .ok (.invokevirtual 94, 3) := by decide +kernel
theorem dX12_shortOf_6 : decode cX12_shortOf 6 = .ok (.aload_n 0, 1) := by decide +kernel
theorem dX12_shortOf_7 : decode cX12_shortOf 7 = .ok (.iload_n 1, 1) := by decide +kernel
theorem dX12_shortOf_8 : decode cX12_shortOf 8 = .ok (.invokevirtual 101, 3) := by decide +kernel
theorem dX12_shortOf_11 : decode cX12_shortOf 11 = .ok (.invokevirtual 38, 3) := by decide +kernel
theorem dX12_shortOf_14 : decode cX12_shortOf 14 = .ok (.aload_n 0, 1) := by decide +kernel
theorem dX12_shortOf_15 : decode cX12_shortOf 15 = .ok (.getfield 7, 3) := by decide +kernel
theorem dX12_shortOf_18 : decode cX12_shortOf 18 = .ok (.sipush 770, 3) := by decide +kernel
theorem dX12_shortOf_21 : decode cX12_shortOf 21 = .ok (.iload_n 1, 1) := by decide +kernel
theorem dX12_shortOf_22 : decode cX12_shortOf 22 = .ok (.iadd, 1) := by decide +kernel
theorem dX12_shortOf_23 : decode cX12_shortOf 23 = .ok (.laload, 1) := by decide +kernel
theorem dX12_shortOf_24 : decode cX12_shortOf 24 = .ok (.lcmp, 1) := by decide +kernel
theorem dX12_shortOf_25 : decode cX12_shortOf 25 = .ok (.ifCond .ge 7, 3) := by decide +kernel
theorem dX12_shortOf_28 : decode cX12_shortOf 28 = .ok (.iconst 1, 1) := by decide +kernel
theorem dX12_shortOf_29 : decode cX12_shortOf 29 = .ok (.goto 4, 3) := by decide +kernel
theorem dX12_shortOf_32 : decode cX12_shortOf 32 = .ok (.iconst 0, 1) := by decide +kernel
theorem dX12_shortOf_33 : decode cX12_shortOf 33 = .ok (.ireturn, 1) := by decide +kernel
theorem dX12_held_0 : decode cX12_held 0 = .ok (.aload_n 0, 1) := by decide +kernel
theorem dX12_held_1 : decode cX12_held 1 = .ok (.getfield 7, 3) := by decide +kernel
theorem dX12_held_4 : decode cX12_held 4 = .ok (.sipush 610, 3) := by decide +kernel
theorem dX12_held_7 : decode cX12_held 7 = .ok (.iload_n 1, 1) := by decide +kernel
theorem dX12_held_8 : decode cX12_held 8 = .ok (.iadd, 1) := by decide +kernel
theorem dX12_held_9 : decode cX12_held 9 = .ok (.laload, 1) := by decide +kernel
theorem dX12_held_10 : decode cX12_held 10 = .ok (.lconst 1, 1) := by decide +kernel
theorem dX12_held_11 : decode cX12_held 11 = .ok (.lcmp, 1) := by decide +kernel
theorem dX12_held_12 : decode cX12_held 12 = .ok (.ifCond .ne 7, 3) := by decide +kernel
theorem dX12_held_15 : decode cX12_held 15 = .ok (.iconst 1, 1) := by decide +kernel
theorem dX12_held_16 : decode cX12_held 16 = .ok (.goto 4, 3) := by decide +kernel
theorem dX12_held_19 : decode cX12_held 19 = .ok (.iconst 0, 1) := by decide +kernel
theorem dX12_held_20 : decode cX12_held 20 = .ok (.ireturn, 1) := by decide +kernel
theorem dX12_chained_0 : decode cX12_chained 0 = .ok (.iconst 0, 1) := by decide +kernel
theorem dX12_chained_1 : decode cX12_chained 1 = .ok (.istore_n 3, 1) := by decide +kernel
theorem dX12_chained_2 : decode cX12_chained 2 = .ok (.iload_n 3, 1) := by decide +kernel
theorem dX12_chained_3 : decode cX12_chained 3 = .ok (.i2l, 1) := by decide +kernel
theorem dX12_chained_4 : decode cX12_chained 4 = .ok (.aload_n 0, 1) := by decide +kernel
theorem dX12_chained_5 : decode cX12_chained 5 = .ok (.getfield 7, 3) := by decide +kernel
theorem dX12_chained_8 : decode cX12_chained 8 = .ok (.sipush 1543, 3) := by decide +kernel
theorem dX12_chained_11 : decode cX12_chained 11 = .ok (.laload, 1) := by decide +kernel
theorem dX12_chained_12 : decode cX12_chained 12 = .ok (.lcmp, 1) := by decide +kernel
theorem dX12_chained_13 : decode cX12_chained 13 = .ok (.ifCond .ge 46, 3) := by decide +kernel
theorem dX12_chained_16 : decode cX12_chained 16 = .ok (.aload_n 0, 1) := by decide +kernel
theorem dX12_chained_17 : decode cX12_chained 17 = .ok (.getfield 23, 3) := by decide +kernel
theorem dX12_chained_20 : decode cX12_chained 20 = .ok (.iload_n 3, 1) := by decide +kernel
theorem dX12_chained_21 : decode cX12_chained 21 = .ok (.iaload, 1) := by decide +kernel
theorem dX12_chained_22 : decode cX12_chained 22 = .ok (.ifCond .ne 31, 3) := by decide +kernel
theorem dX12_chained_25 : decode cX12_chained 25 = .ok (.aload_n 0, 1) := by decide +kernel
theorem dX12_chained_26 : decode cX12_chained 26 = .ok (.iload_n 3, 1) := by decide +kernel
theorem dX12_chained_27 : decode cX12_chained 27 = .ok (.invokevirtual 132, 3) := by decide +kernel
theorem dX12_chained_30 : decode cX12_chained 30 = .ok (.ifCond .eq 23, 3) := by decide +kernel
theorem dX12_chained_33 : decode cX12_chained 33 = .ok (.aload_n 0, 1) := by decide +kernel
theorem dX12_chained_34 : decode cX12_chained 34 = .ok (.iload_n 3, 1) := by decide +kernel
theorem dX12_chained_35 : decode cX12_chained 35 = .ok (.invokevirtual 98, 3) := by decide +kernel
theorem dX12_chained_38 : decode cX12_chained 38 = .ok (.iload_n 1, 1) := by decide +kernel
theorem dX12_chained_39 : decode cX12_chained 39 = .ok (.if_icmp .ne 14, 3) := by decide +kernel
theorem dX12_chained_42 : decode cX12_chained 42 = .ok (.aload_n 0, 1) := by decide +kernel
theorem dX12_chained_43 : decode cX12_chained 43 = .ok (.iload_n 3, 1) := by decide +kernel
theorem dX12_chained_44 : decode cX12_chained 44 = .ok (.invokevirtual 101, 3) := by decide +kernel
theorem dX12_chained_47 : decode cX12_chained 47 = .ok (.iload_n 2, 1) := by decide +kernel
theorem dX12_chained_48 : decode cX12_chained 48 = .ok (.if_icmp .ne 5, 3) := by decide +kernel
theorem dX12_chained_51 : decode cX12_chained 51 = .ok (.iload_n 3, 1) := by decide +kernel
theorem dX12_chained_52 : decode cX12_chained 52 = .ok (.ireturn, 1) := by decide +kernel
theorem dX12_chained_53 : decode cX12_chained 53 = .ok (.iinc 3 1, 3) := by decide +kernel
theorem dX12_chained_56 : decode cX12_chained 56 = .ok (.goto (-54), 3) := by decide +kernel
theorem dX12_chained_59 : decode cX12_chained 59 = .ok (.iconst (-1), 1) := by decide +kernel
theorem dX12_chained_60 : decode cX12_chained 60 = .ok (.ireturn, 1) := by decide +kernel
theorem dX12_causerOf_0 : decode cX12_causerOf 0 = .ok (.iload_n 1, 1) := by decide +kernel
theorem dX12_causerOf_1 : decode cX12_causerOf 1 = .ok (.istore_n 2, 1) := by decide +kernel
theorem dX12_causerOf_2 : decode cX12_causerOf 2 = .ok (.iconst 0, 1) := by decide +kernel
theorem dX12_causerOf_3 : decode cX12_causerOf 3 = .ok (.istore_n 3, 1) := by decide +kernel
theorem dX12_causerOf_4 : decode cX12_causerOf 4 = .ok (.iload_n 3, 1) := by decide +kernel
theorem dX12_causerOf_5 : decode cX12_causerOf 5 = .ok (.bipush 20, 2) := by decide +kernel
theorem dX12_causerOf_7 : decode cX12_causerOf 7 = .ok (.if_icmp .ge 16, 3) := by decide +kernel
theorem dX12_causerOf_10 : decode cX12_causerOf 10 = .ok (.aload_n 0, 1) := by decide +kernel
theorem dX12_causerOf_11 : decode cX12_causerOf 11 = .ok (.getfield 23, 3) := by decide +kernel
theorem dX12_causerOf_14 : decode cX12_causerOf 14 = .ok (.iload_n 3, 1) := by decide +kernel
theorem dX12_causerOf_15 : decode cX12_causerOf 15 = .ok (.iconst 0, 1) := by decide +kernel
theorem dX12_causerOf_16 : decode cX12_causerOf 16 = .ok (.iastore, 1) := by decide +kernel
theorem dX12_causerOf_17 : decode cX12_causerOf 17 = .ok (.iinc 3 1, 3) := by decide +kernel
theorem dX12_causerOf_20 : decode cX12_causerOf 20 = .ok (.goto (-16), 3) := by decide +kernel
theorem dX12_causerOf_23 : decode cX12_causerOf 23 = .ok (.aload_n 0, 1) := by decide +kernel
theorem dX12_causerOf_24 : decode cX12_causerOf 24 = .ok (.getfield 23, 3) := by decide +kernel
theorem dX12_causerOf_27 : decode cX12_causerOf 27 = .ok (.iload_n 2, 1) := by decide +kernel
theorem dX12_causerOf_28 : decode cX12_causerOf 28 = .ok (.iconst 1, 1) := by decide +kernel
theorem dX12_causerOf_29 : decode cX12_causerOf 29 = .ok (.iastore, 1) := by decide +kernel
theorem dX12_causerOf_30 : decode cX12_causerOf 30 = .ok (.aload_n 0, 1) := by decide +kernel
theorem dX12_causerOf_31 : decode cX12_causerOf 31 = .ok (.aload_n 0, 1) := by decide +kernel
theorem dX12_causerOf_32 : decode cX12_causerOf 32 = .ok (.getfield 7, 3) := by decide +kernel
theorem dX12_causerOf_35 : decode cX12_causerOf 35 = .ok (.sipush 730, 3) := by decide +kernel
theorem dX12_causerOf_38 : decode cX12_causerOf 38 = .ok (.iload_n 2, 1) := by decide +kernel
theorem dX12_causerOf_39 : decode cX12_causerOf 39 = .ok (.iadd, 1) := by decide +kernel
theorem dX12_causerOf_40 : decode cX12_causerOf 40 = .ok (.laload, 1) := by decide +kernel
theorem dX12_causerOf_41 : decode cX12_causerOf 41 = .ok (.l2i, 1) := by decide +kernel
theorem dX12_causerOf_42 : decode cX12_causerOf 42 = .ok (.invokevirtual 197, 3) := by decide +kernel
theorem dX12_causerOf_45 : decode cX12_causerOf 45 = .ok (.ifCond .eq 9, 3) := by decide +kernel
theorem dX12_causerOf_48 : decode cX12_causerOf 48 = .ok (.aload_n 0, 1) := by decide +kernel
theorem dX12_causerOf_49 : decode cX12_causerOf 49 = .ok (.iload_n 2, 1) := by decide +kernel
theorem dX12_causerOf_50 : decode cX12_causerOf 50 = .ok (.invokevirtual 94, 3) := by decide +kernel
theorem dX12_causerOf_53 : decode cX12_causerOf 53 = .ok (.ireturn, 1) := by decide +kernel
theorem dX12_causerOf_54 : decode cX12_causerOf 54 = .ok (.aload_n 0, 1) := by decide +kernel
theorem dX12_causerOf_55 : decode cX12_causerOf 55 = .ok (.aload_n 0, 1) := by decide +kernel
theorem dX12_causerOf_56 : decode cX12_causerOf 56 = .ok (.getfield 7, 3) := by decide +kernel
theorem dX12_causerOf_59 : decode cX12_causerOf 59 = .ok (.sipush 750, 3) := by decide +kernel
theorem dX12_causerOf_62 : decode cX12_causerOf 62 = .ok (.iload_n 2, 1) := by decide +kernel
theorem dX12_causerOf_63 : decode cX12_causerOf 63 = .ok (.iadd, 1) := by decide +kernel
theorem dX12_causerOf_64 : decode cX12_causerOf 64 = .ok (.laload, 1) := by decide +kernel
theorem dX12_causerOf_65 : decode cX12_causerOf 65 = .ok (.l2i, 1) := by decide +kernel
theorem dX12_causerOf_66 : decode cX12_causerOf 66 = .ok (.invokevirtual 197, 3) := by decide +kernel
theorem dX12_causerOf_69 : decode cX12_causerOf 69 = .ok (.ifCond .ne 11, 3) := by decide +kernel
theorem dX12_causerOf_72 : decode cX12_causerOf 72 = .ok (.aload_n 0, 1) := by decide +kernel
theorem dX12_causerOf_73 : decode cX12_causerOf 73 = .ok (.iload_n 2, 1) := by decide +kernel
theorem dX12_causerOf_74 : decode cX12_causerOf 74 = .ok (.invokevirtual 200, 3) := by decide +kernel
theorem dX12_causerOf_77 : decode cX12_causerOf 77 = .ok (.ifCond .ne 9, 3) := by decide +kernel
theorem dX12_causerOf_80 : decode cX12_causerOf 80 = .ok (.aload_n 0, 1) := by decide +kernel
theorem dX12_causerOf_81 : decode cX12_causerOf 81 = .ok (.iload_n 2, 1) := by decide +kernel
theorem dX12_causerOf_82 : decode cX12_causerOf 82 = .ok (.invokevirtual 98, 3) := by decide +kernel
theorem dX12_causerOf_85 : decode cX12_causerOf 85 = .ok (.ireturn, 1) := by decide +kernel
theorem dX12_causerOf_86 : decode cX12_causerOf 86 = .ok (.aload_n 0, 1) := by decide +kernel
theorem dX12_causerOf_87 : decode cX12_causerOf 87 = .ok (.aload_n 0, 1) := by decide +kernel
theorem dX12_causerOf_88 : decode cX12_causerOf 88 = .ok (.iload_n 2, 1) := by decide +kernel
theorem dX12_causerOf_89 : decode cX12_causerOf 89 = .ok (.invokevirtual 94, 3) := by decide +kernel
theorem dX12_causerOf_92 : decode cX12_causerOf 92 = .ok (.aload_n 0, 1) := by decide +kernel
theorem dX12_causerOf_93 : decode cX12_causerOf 93 = .ok (.iload_n 2, 1) := by decide +kernel
theorem dX12_causerOf_94 : decode cX12_causerOf 94 = .ok (.invokevirtual 101, 3) := by decide +kernel
theorem dX12_causerOf_97 : decode cX12_causerOf 97 = .ok (.invokevirtual 203, 3) := by decide +kernel
theorem dX12_causerOf_100 : decode cX12_causerOf 100 = .ok (.istore_n 3, 1) := by decide +kernel
theorem dX12_causerOf_101 : decode cX12_causerOf 101 = .ok (.iload_n 3, 1) := by decide +kernel
theorem dX12_causerOf_102 : decode cX12_causerOf 102 = .ok (.ifCond .ge 9, 3) := by decide +kernel
theorem dX12_causerOf_105 : decode cX12_causerOf 105 = .ok (.aload_n 0, 1) := by decide +kernel
theorem dX12_causerOf_106 : decode cX12_causerOf 106 = .ok (.iload_n 2, 1) := by decide +kernel
theorem dX12_causerOf_107 : decode cX12_causerOf 107 = .ok (.invokevirtual 94, 3) := by decide +kernel
theorem dX12_causerOf_110 : decode cX12_causerOf 110 = .ok (.ireturn, 1) := by decide +kernel
theorem dX12_causerOf_111 : decode cX12_causerOf 111 = .ok (.iload_n 3, 1) := by decide +kernel
theorem dX12_causerOf_112 : decode cX12_causerOf 112 = .ok (.istore_n 2, 1) := by decide +kernel
theorem dX12_causerOf_113 : decode cX12_causerOf 113 = .ok (.goto (-90), 3) := by decide +kernel
theorem dX12_owes_0 : decode cX12_owes 0 = .ok (.aload_n 0, 1) := by decide +kernel
theorem dX12_owes_1 : decode cX12_owes 1 = .ok (.getfield 7, 3) := by decide +kernel
theorem dX12_owes_4 : decode cX12_owes 4 = .ok (.bipush 80, 2) := by decide +kernel
theorem dX12_owes_6 : decode cX12_owes 6 = .ok (.iload_n 1, 1) := by decide +kernel
theorem dX12_owes_7 : decode cX12_owes 7 = .ok (.iadd, 1) := by decide +kernel
theorem dX12_owes_8 : decode cX12_owes 8 = .ok (.dup2, 1) := by decide +kernel
theorem dX12_owes_9 : decode cX12_owes 9 = .ok (.laload, 1) := by decide +kernel
theorem dX12_owes_10 : decode cX12_owes 10 = .ok (.lload_n 3, 1) := by decide +kernel
theorem dX12_owes_11 : decode cX12_owes 11 = .ok (.lsub, 1) := by decide +kernel
theorem dX12_owes_12 : decode cX12_owes 12 = .ok (.lastore, 1) := by decide +kernel
theorem dX12_owes_13 : decode cX12_owes 13 = .ok (.aload_n 0, 1) := by decide +kernel
theorem dX12_owes_14 : decode cX12_owes 14 = .ok (.getfield 7, 3) := by decide +kernel
theorem dX12_owes_17 : decode cX12_owes 17 = .ok (.bipush 80, 2) := by decide +kernel
theorem dX12_owes_19 : decode cX12_owes 19 = .ok (.iload_n 2, 1) := by decide +kernel
theorem dX12_owes_20 : decode cX12_owes 20 = .ok (.iadd, 1) := by decide +kernel
theorem dX12_owes_21 : decode cX12_owes 21 = .ok (.dup2, 1) := by decide +kernel
theorem dX12_owes_22 : decode cX12_owes 22 = .ok (.laload, 1) := by decide +kernel
theorem dX12_owes_23 : decode cX12_owes 23 = .ok (.lload_n 3, 1) := by decide +kernel
theorem dX12_owes_24 : decode cX12_owes 24 = .ok (.ladd, 1) := by decide +kernel
theorem dX12_owes_25 : decode cX12_owes 25 = .ok (.lastore, 1) := by decide +kernel
theorem dX12_owes_26 : decode cX12_owes 26 = .ok (.iconst 1, 1) := by decide +kernel
theorem dX12_owes_27 : decode cX12_owes 27 = .ok (.ireturn, 1) := by decide +kernel
theorem dX12_fines_0 : decode cX12_fines 0 = .ok (.iload_n 1, 1) := by decide +kernel
theorem dX12_fines_1 : decode cX12_fines 1 = .ok (.iload_n 2, 1) := by decide +kernel
theorem dX12_fines_2 : decode cX12_fines 2 = .ok (.if_icmp .ne 5, 3) := by decide +kernel
theorem dX12_fines_5 : decode cX12_fines 5 = .ok (.iconst 0, 1) := by decide +kernel
theorem dX12_fines_6 : decode cX12_fines 6 = .ok (.ireturn, 1) := by decide +kernel
theorem dX12_fines_7 : decode cX12_fines 7 = .ok (.aload_n 0, 1) := by decide +kernel
theorem dX12_fines_8 : decode cX12_fines 8 = .ok (.getfield 16, 3) := by decide +kernel
theorem dX12_fines_11 : decode cX12_fines 11 = .ok (.iload_n 1, 1) := by decide +kernel
theorem dX12_fines_12 : decode cX12_fines 12 = .ok (.dup2, 1) := by decide +kernel
theorem dX12_fines_13 : decode cX12_fines 13 = .ok (.iaload, 1) := by decide +kernel
theorem dX12_fines_14 : decode cX12_fines 14 = .ok (.iconst 1, 1) := by decide +kernel
theorem dX12_fines_15 : decode cX12_fines 15 = .ok (.iadd, 1) := by decide +kernel
theorem dX12_fines_16 : decode cX12_fines 16 = .ok (.iastore, 1) := by decide +kernel
theorem dX12_fines_17 : decode cX12_fines 17 = .ok (.aload_n 0, 1) := by decide +kernel
theorem dX12_fines_18 : decode cX12_fines 18 = .ok (.getfield 16, 3) := by decide +kernel
theorem dX12_fines_21 : decode cX12_fines 21 = .ok (.iload_n 2, 1) := by decide +kernel
theorem dX12_fines_22 : decode cX12_fines 22 = .ok (.dup2, 1) := by decide +kernel
theorem dX12_fines_23 : decode cX12_fines 23 = .ok (.iaload, 1) := by decide +kernel
theorem dX12_fines_24 : decode cX12_fines 24 = .ok (.iconst 1, 1) := by decide +kernel
theorem dX12_fines_25 : decode cX12_fines 25 = .ok (.iadd, 1) := by decide +kernel
theorem dX12_fines_26 : decode cX12_fines 26 = .ok (.iastore, 1) := by decide +kernel
theorem dX12_fines_27 : decode cX12_fines 27 = .ok (.aload_n 0, 1) := by decide +kernel
theorem dX12_fines_28 : decode cX12_fines 28 = .ok (.iload_n 1, 1) := by decide +kernel
theorem dX12_fines_29 : decode cX12_fines 29 = .ok (.iload_n 2, 1) := by decide +kernel
theorem dX12_fines_30 : decode cX12_fines 30 = .ok (.lload_n 3, 1) := by decide +kernel
theorem dX12_fines_31 : decode cX12_fines 31 = .ok (.aload_n 0, 1) := by decide +kernel
theorem dX12_fines_32 : decode cX12_fines 32 = .ok (.getfield 7, 3) := by decide +kernel
theorem dX12_fines_35 : decode cX12_fines 35 = .ok (.sipush 184, 3) := by decide +kernel
theorem dX12_fines_38 : decode cX12_fines 38 = .ok (.iload 5, 2) := by decide +kernel
theorem dX12_fines_40 : decode cX12_fines 40 = .ok (.iadd, 1) := by decide +kernel
theorem dX12_fines_41 : decode cX12_fines 41 = .ok (.laload, 1) := by decide +kernel
theorem dX12_fines_42 : decode cX12_fines 42 = .ok (.lmul, 1) := by decide +kernel
theorem dX12_fines_43 : decode cX12_fines 43 = .ok (.aload_n 0, 1) := by decide +kernel
theorem dX12_fines_44 : decode cX12_fines 44 = .ok (.getfield 7, 3) := by decide +kernel
theorem dX12_fines_47 : decode cX12_fines 47 = .ok (.sipush 188, 3) := by decide +kernel
theorem dX12_fines_50 : decode cX12_fines 50 = .ok (.iload 5, 2) := by decide +kernel
theorem dX12_fines_52 : decode cX12_fines 52 = .ok (.iadd, 1) := by decide +kernel
theorem dX12_fines_53 : decode cX12_fines 53 = .ok (.laload, 1) := by decide +kernel
theorem dX12_fines_54 : decode cX12_fines 54 = .ok (.lmul, 1) := by decide +kernel
theorem dX12_fines_55 : decode cX12_fines 55 = .ok (.ldc2_w 206, 3) := by decide +kernel
theorem dX12_fines_58 : decode cX12_fines 58 = .ok (.ldiv, 1) := by decide +kernel
theorem dX12_fines_59 : decode cX12_fines 59 = .ok (.lconst 1, 1) := by decide +kernel
theorem dX12_fines_60 : decode cX12_fines 60 = .ok (.ladd, 1) := by decide +kernel
theorem dX12_fines_61 : decode cX12_fines 61 = .ok (.invokevirtual 208, 3) := by decide +kernel
theorem dX12_fines_64 : decode cX12_fines 64 = .ok (.ireturn, 1) := by decide +kernel
theorem dX12_fineOf_0 : decode cX12_fineOf 0 = .ok (.aload_n 0, 1) := by decide +kernel
theorem dX12_fineOf_1 : decode cX12_fineOf 1 = .ok (.aload_n 0, 1) := by decide +kernel
theorem dX12_fineOf_2 : decode cX12_fineOf 2 = .ok (.getfield 7, 3) := by decide +kernel
theorem dX12_fineOf_5 : decode cX12_fineOf 5 = .ok (.sipush 730, 3) := by decide +kernel
theorem dX12_fineOf_8 : decode cX12_fineOf 8 = .ok (.iload_n 1, 1) := by decide +kernel
theorem dX12_fineOf_9 : decode cX12_fineOf 9 = .ok (.iadd, 1) := by decide +kernel
theorem dX12_fineOf_10 : decode cX12_fineOf 10 = .ok (.laload, 1) := by decide +kernel
theorem dX12_fineOf_11 : decode cX12_fineOf 11 = .ok (.l2i, 1) := by decide +kernel
theorem dX12_fineOf_12 : decode cX12_fineOf 12 = .ok (.invokevirtual 197, 3) := by decide +kernel
theorem dX12_fineOf_15 : decode cX12_fineOf 15 = .ok (.ifCond .ne 29, 3) := by decide +kernel
theorem dX12_fineOf_18 : decode cX12_fineOf 18 = .ok (.aload_n 0, 1) := by decide +kernel
theorem dX12_fineOf_19 : decode cX12_fineOf 19 = .ok (.aload_n 0, 1) := by decide +kernel
theorem dX12_fineOf_20 : decode cX12_fineOf 20 = .ok (.getfield 7, 3) := by decide +kernel
theorem dX12_fineOf_23 : decode cX12_fineOf 23 = .ok (.sipush 750, 3) := by decide +kernel
theorem dX12_fineOf_26 : decode cX12_fineOf 26 = .ok (.iload_n 1, 1) := by decide +kernel
theorem dX12_fineOf_27 : decode cX12_fineOf 27 = .ok (.iadd, 1) := by decide +kernel
theorem dX12_fineOf_28 : decode cX12_fineOf 28 = .ok (.laload, 1) := by decide +kernel
theorem dX12_fineOf_29 : decode cX12_fineOf 29 = .ok (.l2i, 1) := by decide +kernel
theorem dX12_fineOf_30 : decode cX12_fineOf 30 = .ok (.invokevirtual 197, 3) := by decide +kernel
theorem dX12_fineOf_33 : decode cX12_fineOf 33 = .ok (.ifCond .ne 15, 3) := by decide +kernel
theorem dX12_fineOf_36 : decode cX12_fineOf 36 = .ok (.aload_n 0, 1) := by decide +kernel
theorem dX12_fineOf_37 : decode cX12_fineOf 37 = .ok (.iload_n 1, 1) := by decide +kernel
theorem dX12_fineOf_38 : decode cX12_fineOf 38 = .ok (.invokevirtual 200, 3) := by decide +kernel
theorem dX12_fineOf_41 : decode cX12_fineOf 41 = .ok (.ifCond .eq 7, 3) := by decide +kernel
theorem dX12_fineOf_44 : decode cX12_fineOf 44 = .ok (.iconst 1, 1) := by decide +kernel
theorem dX12_fineOf_45 : decode cX12_fineOf 45 = .ok (.goto 4, 3) := by decide +kernel
theorem dX12_fineOf_48 : decode cX12_fineOf 48 = .ok (.iconst 0, 1) := by decide +kernel
theorem dX12_fineOf_49 : decode cX12_fineOf 49 = .ok (.istore_n 2, 1) := by decide +kernel
theorem dX12_fineOf_50 : decode cX12_fineOf 50 = .ok (.aload_n 0, 1) := by decide +kernel
theorem dX12_fineOf_51 : decode cX12_fineOf 51 = .ok (.aload_n 0, 1) := by decide +kernel
theorem dX12_fineOf_52 : decode cX12_fineOf 52 = .ok (.iload_n 1, 1) := by decide +kernel
theorem dX12_fineOf_53 : decode cX12_fineOf 53 = .ok (.invokevirtual 212, 3) := by decide +kernel
theorem dX12_fineOf_56 : decode cX12_fineOf 56 = .ok (.iload_n 2, 1) := by decide +kernel
theorem dX12_fineOf_57 : decode cX12_fineOf 57 = .ok (.ifCond .eq 11, 3) := by decide +kernel
theorem dX12_fineOf_60 : decode cX12_fineOf 60 = .ok (.aload_n 0, 1) := by decide +kernel
theorem dX12_fineOf_61 : decode cX12_fineOf 61 = .ok (.iload_n 1, 1) := by decide +kernel
theorem dX12_fineOf_62 : decode cX12_fineOf 62 = .ok (.invokevirtual 98, 3) := by decide +kernel
theorem dX12_fineOf_65 : decode cX12_fineOf 65 = .ok (.goto 8, 3) := by decide +kernel
theorem dX12_fineOf_68 : decode cX12_fineOf 68 = .ok (.aload_n 0, 1) := by decide +kernel
theorem dX12_fineOf_69 : decode cX12_fineOf 69 = .ok (.iload_n 1, 1) := by decide +kernel
theorem dX12_fineOf_70 : decode cX12_fineOf 70 = .ok (.invokevirtual 94, 3) := by decide +kernel
theorem dX12_fineOf_73 : decode cX12_fineOf 73 = .ok (.aload_n 0, 1) := by decide +kernel
theorem dX12_fineOf_74 : decode cX12_fineOf 74 = .ok (.getfield 7, 3) := by decide +kernel
theorem dX12_fineOf_77 : decode cX12_fineOf 77 = .ok (.sipush 770, 3) := by decide +kernel
theorem dX12_fineOf_80 : decode cX12_fineOf 80 = .ok (.iload_n 1, 1) := by decide +kernel
theorem dX12_fineOf_81 : decode cX12_fineOf 81 = .ok (.iadd, 1) := by decide +kernel
theorem dX12_fineOf_82 : decode cX12_fineOf 82 = .ok (.laload, 1) := by decide +kernel
theorem dX12_fineOf_83 : decode cX12_fineOf 83 = .ok (.aload_n 0, 1) := by decide +kernel
theorem dX12_fineOf_84 : decode cX12_fineOf 84 = .ok (.iload_n 1, 1) := by decide +kernel
theorem dX12_fineOf_85 : decode cX12_fineOf 85 = .ok (.invokevirtual 101, 3) := by decide +kernel
theorem dX12_fineOf_88 : decode cX12_fineOf 88 = .ok (.invokevirtual 215, 3) := by decide +kernel
theorem dX12_fineOf_91 : decode cX12_fineOf 91 = .ok (.ireturn, 1) := by decide +kernel
theorem dX12_note_0 : decode cX12_note 0 = .ok (.aload_n 0, 1) := by decide +kernel
theorem dX12_note_1 : decode cX12_note 1 = .ok (.getfield 7, 3) := by decide +kernel
theorem dX12_note_4 : decode cX12_note 4 = .ok (.sipush 1120, 3) := by decide +kernel
theorem dX12_note_7 : decode cX12_note 7 = .ok (.iload_n 1, 1) := by decide +kernel
theorem dX12_note_8 : decode cX12_note 8 = .ok (.iadd, 1) := by decide +kernel
theorem dX12_note_9 : decode cX12_note 9 = .ok (.lconst 1, 1) := by decide +kernel
theorem dX12_note_10 : decode cX12_note 10 = .ok (.lastore, 1) := by decide +kernel
theorem dX12_note_11 : decode cX12_note 11 = .ok (.iconst 0, 1) := by decide +kernel
theorem dX12_note_12 : decode cX12_note 12 = .ok (.istore_n 2, 1) := by decide +kernel
theorem dX12_note_13 : decode cX12_note 13 = .ok (.iload_n 2, 1) := by decide +kernel
theorem dX12_note_14 : decode cX12_note 14 = .ok (.i2l, 1) := by decide +kernel
theorem dX12_note_15 : decode cX12_note 15 = .ok (.aload_n 0, 1) := by decide +kernel
theorem dX12_note_16 : decode cX12_note 16 = .ok (.getfield 7, 3) := by decide +kernel
theorem dX12_note_19 : decode cX12_note 19 = .ok (.sipush 1540, 3) := by decide +kernel
theorem dX12_note_22 : decode cX12_note 22 = .ok (.laload, 1) := by decide +kernel
theorem dX12_note_23 : decode cX12_note 23 = .ok (.lcmp, 1) := by decide +kernel
theorem dX12_note_24 : decode cX12_note 24 = .ok (.ifCond .ge 47, 3) := by decide +kernel
theorem dX12_note_27 : decode cX12_note 27 = .ok (.aload_n 0, 1) := by decide +kernel
theorem dX12_note_28 : decode cX12_note 28 = .ok (.getfield 7, 3) := by decide +kernel
theorem dX12_note_31 : decode cX12_note 31 = .ok (.sipush 1140, 3) := by decide +kernel
theorem dX12_note_34 : decode cX12_note 34 = .ok (.bipush 10, 2) := by decide +kernel
theorem dX12_note_36 : decode cX12_note 36 = .ok (.iload_n 1, 1) := by decide +kernel
theorem dX12_note_37 : decode cX12_note 37 = .ok (.imul, 1) := by decide +kernel
theorem dX12_note_38 : decode cX12_note 38 = .ok (.iadd, 1) := by decide +kernel
theorem dX12_note_39 : decode cX12_note 39 = .ok (.iload_n 2, 1) := by decide +kernel
theorem dX12_note_40 : decode cX12_note 40 = .ok (.iadd, 1) := by decide +kernel
theorem dX12_note_41 : decode cX12_note 41 = .ok (.aload_n 0, 1) := by decide +kernel
theorem dX12_note_42 : decode cX12_note 42 = .ok (.getfield 7, 3) := by decide +kernel
theorem dX12_note_45 : decode cX12_note 45 = .ok (.bipush 100, 2) := by decide +kernel
theorem dX12_note_47 : decode cX12_note 47 = .ok (.iconst 4, 1) := by decide +kernel
theorem dX12_note_48 : decode cX12_note 48 = .ok (.iload_n 2, 1) := by decide +kernel
theorem dX12_note_49 : decode cX12_note 49 = .ok (.imul, 1) := by decide +kernel
theorem dX12_note_50 : decode cX12_note 50 = .ok (.iadd, 1) := by decide +kernel
theorem dX12_note_51 : decode cX12_note 51 = .ok (.aload_n 0, 1) := by decide +kernel
theorem dX12_note_52 : decode cX12_note 52 = .ok (.getfield 7, 3) := by decide +kernel
theorem dX12_note_55 : decode cX12_note 55 = .ok (.sipush 1060, 3) := by decide +kernel
theorem dX12_note_58 : decode cX12_note 58 = .ok (.iload_n 1, 1) := by decide +kernel
theorem dX12_note_59 : decode cX12_note 59 = .ok (.iadd, 1) := by decide +kernel
theorem dX12_note_60 : decode cX12_note 60 = .ok (.laload, 1) := by decide +kernel
theorem dX12_note_61 : decode cX12_note 61 = .ok (.l2i, 1) := by decide +kernel
theorem dX12_note_62 : decode cX12_note 62 = .ok (.iadd, 1) := by decide +kernel
theorem dX12_note_63 : decode cX12_note 63 = .ok (.laload, 1) := by decide +kernel
theorem dX12_note_64 : decode cX12_note 64 = .ok (.lastore, 1) := by decide +kernel
theorem dX12_note_65 : decode cX12_note 65 = .ok (.iinc 2 1, 3) := by decide +kernel
theorem dX12_note_68 : decode cX12_note 68 = .ok (.goto (-55), 3) := by decide +kernel
theorem dX12_note_71 : decode cX12_note 71 = .ok (.iconst 0, 1) := by decide +kernel
theorem dX12_note_72 : decode cX12_note 72 = .ok (.istore_n 2, 1) := by decide +kernel
theorem dX12_note_73 : decode cX12_note 73 = .ok (.iload_n 2, 1) := by decide +kernel
theorem dX12_note_74 : decode cX12_note 74 = .ok (.i2l, 1) := by decide +kernel
theorem dX12_note_75 : decode cX12_note 75 = .ok (.aload_n 0, 1) := by decide +kernel
theorem dX12_note_76 : decode cX12_note 76 = .ok (.getfield 7, 3) := by decide +kernel
theorem dX12_note_79 : decode cX12_note 79 = .ok (.sipush 1543, 3) := by decide +kernel
theorem dX12_note_82 : decode cX12_note 82 = .ok (.laload, 1) := by decide +kernel
theorem dX12_note_83 : decode cX12_note 83 = .ok (.lcmp, 1) := by decide +kernel
theorem dX12_note_84 : decode cX12_note 84 = .ok (.ifCond .ge 91, 3) := by decide +kernel
theorem dX12_note_87 : decode cX12_note 87 = .ok (.aload_n 0, 1) := by decide +kernel
theorem dX12_note_88 : decode cX12_note 88 = .ok (.getfield 7, 3) := by decide +kernel
theorem dX12_note_91 : decode cX12_note 91 = .ok (.sipush 1050, 3) := by decide +kernel
theorem dX12_note_94 : decode cX12_note 94 = .ok (.iload_n 1, 1) := by decide +kernel
theorem dX12_note_95 : decode cX12_note 95 = .ok (.iadd, 1) := by decide +kernel
theorem dX12_note_96 : decode cX12_note 96 = .ok (.laload, 1) := by decide +kernel
theorem dX12_note_97 : decode cX12_note 97 = .ok (.lconst 1, 1) := by decide +kernel
theorem dX12_note_98 : decode cX12_note 98 = .ok (.lcmp, 1) := by decide +kernel
theorem dX12_note_99 : decode cX12_note 99 = .ok (.ifCond .eq 35, 3) := by decide +kernel
theorem dX12_note_102 : decode cX12_note 102 = .ok (.aload_n 0, 1) := by decide +kernel
theorem dX12_note_103 : decode cX12_note 103 = .ok (.iload_n 2, 1) := by decide +kernel
theorem dX12_note_104 : decode cX12_note 104 = .ok (.invokevirtual 132, 3) := by decide +kernel
theorem dX12_note_107 : decode cX12_note 107 = .ok (.ifCond .eq 27, 3) := by decide +kernel
theorem dX12_note_110 : decode cX12_note 110 = .ok (.aload_n 0, 1) := by decide +kernel
theorem dX12_note_111 : decode cX12_note 111 = .ok (.iload_n 2, 1) := by decide +kernel
theorem dX12_note_112 : decode cX12_note 112 = .ok (.invokevirtual 101, 3) := by decide +kernel
theorem dX12_note_115 : decode cX12_note 115 = .ok (.i2l, 1) := by decide +kernel
theorem dX12_note_116 : decode cX12_note 116 = .ok (.aload_n 0, 1) := by decide +kernel
theorem dX12_note_117 : decode cX12_note 117 = .ok (.getfield 7, 3) := by decide +kernel
theorem dX12_note_120 : decode cX12_note 120 = .ok (.sipush 1060, 3) := by decide +kernel
theorem dX12_note_123 : decode cX12_note 123 = .ok (.iload_n 1, 1) := by decide +kernel
theorem dX12_note_124 : decode cX12_note 124 = .ok (.iadd, 1) := by decide +kernel
theorem dX12_note_125 : decode cX12_note 125 = .ok (.laload, 1) := by decide +kernel
theorem dX12_note_126 : decode cX12_note 126 = .ok (.lcmp, 1) := by decide +kernel
theorem dX12_note_127 : decode cX12_note 127 = .ok (.ifCond .ne 7, 3) := by decide +kernel
theorem dX12_note_130 : decode cX12_note 130 = .ok (.iconst 1, 1) := by decide +kernel
theorem dX12_note_131 : decode cX12_note 131 = .ok (.goto 4, 3) := by decide +kernel
theorem dX12_note_134 : decode cX12_note 134 = .ok (.iconst 0, 1) := by decide +kernel
theorem dX12_note_135 : decode cX12_note 135 = .ok (.istore_n 3, 1) := by decide +kernel
theorem dX12_note_136 : decode cX12_note 136 = .ok (.aload_n 0, 1) := by decide +kernel
theorem dX12_note_137 : decode cX12_note 137 = .ok (.getfield 7, 3) := by decide +kernel
theorem dX12_note_140 : decode cX12_note 140 = .ok (.sipush 1340, 3) := by decide +kernel
theorem dX12_note_143 : decode cX12_note 143 = .ok (.bipush 20, 2) := by decide +kernel
theorem dX12_note_145 : decode cX12_note 145 = .ok (.iload_n 1, 1) := by decide +kernel
theorem dX12_note_146 : decode cX12_note 146 = .ok (.imul, 1) := by decide +kernel
theorem dX12_note_147 : decode cX12_note 147 = .ok (.iadd, 1) := by decide +kernel
theorem dX12_note_148 : decode cX12_note 148 = .ok (.iload_n 2, 1) := by decide +kernel
theorem dX12_note_149 : decode cX12_note 149 = .ok (.iadd, 1) := by decide +kernel
theorem dX12_note_150 : decode cX12_note 150 = .ok (.iload_n 3, 1) := by decide +kernel
theorem dX12_note_151 : decode cX12_note 151 = .ok (.ifCond .eq 16, 3) := by decide +kernel
theorem dX12_note_154 : decode cX12_note 154 = .ok (.aload_n 0, 1) := by decide +kernel
theorem dX12_note_155 : decode cX12_note 155 = .ok (.getfield 7, 3) := by decide +kernel
theorem dX12_note_158 : decode cX12_note 158 = .ok (.sipush 770, 3) := by decide +kernel
theorem dX12_note_161 : decode cX12_note 161 = .ok (.iload_n 2, 1) := by decide +kernel
theorem dX12_note_162 : decode cX12_note 162 = .ok (.iadd, 1) := by decide +kernel
theorem dX12_note_163 : decode cX12_note 163 = .ok (.laload, 1) := by decide +kernel
theorem dX12_note_164 : decode cX12_note 164 = .ok (.goto 4, 3) := by decide +kernel
theorem dX12_note_167 : decode cX12_note 167 = .ok (.lconst 0, 1) := by decide +kernel
theorem dX12_note_168 : decode cX12_note 168 = .ok (.lastore, 1) := by decide +kernel
theorem dX12_note_169 : decode cX12_note 169 = .ok (.iinc 2 1, 3) := by decide +kernel
theorem dX12_note_172 : decode cX12_note 172 = .ok (.goto (-99), 3) := by decide +kernel
theorem dX12_note_175 : decode cX12_note 175 = .ok (.return_, 1) := by decide +kernel
theorem dX12_credit_0 : decode cX12_credit 0 = .ok (.aload_n 0, 1) := by decide +kernel
theorem dX12_credit_1 : decode cX12_credit 1 = .ok (.getfield 7, 3) := by decide +kernel
theorem dX12_credit_4 : decode cX12_credit 4 = .ok (.bipush 70, 2) := by decide +kernel
theorem dX12_credit_6 : decode cX12_credit 6 = .ok (.iload_n 1, 1) := by decide +kernel
theorem dX12_credit_7 : decode cX12_credit 7 = .ok (.iadd, 1) := by decide +kernel
theorem dX12_credit_8 : decode cX12_credit 8 = .ok (.laload, 1) := by decide +kernel
theorem dX12_credit_9 : decode cX12_credit 9 = .ok (.lconst 1, 1) := by decide +kernel
theorem dX12_credit_10 : decode cX12_credit 10 = .ok (.lcmp, 1) := by decide +kernel
theorem dX12_credit_11 : decode cX12_credit 11 = .ok (.ifCond .ne 39, 3) := by decide +kernel
theorem dX12_credit_14 : decode cX12_credit 14 = .ok (.aload_n 0, 1) := by decide +kernel
theorem dX12_credit_15 : decode cX12_credit 15 = .ok (.getfield 7, 3) := by decide +kernel
theorem dX12_credit_18 : decode cX12_credit 18 = .ok (.sipush 196, 3) := by decide +kernel
theorem dX12_credit_21 : decode cX12_credit 21 = .ok (.iconst 3, 1) := by decide +kernel
theorem dX12_credit_22 : decode cX12_credit 22 = .ok (.aload_n 0, 1) := by decide +kernel
theorem dX12_credit_23 : decode cX12_credit 23 = .ok (.getfield 7, 3) := by decide +kernel
theorem dX12_credit_26 : decode cX12_credit 26 = .ok (.sipush 180, 3) := by decide +kernel
theorem dX12_credit_29 : decode cX12_credit 29 = .ok (.iload_n 2, 1) := by decide +kernel
theorem dX12_credit_30 : decode cX12_credit 30 = .ok (.iadd, 1) := by decide +kernel
theorem dX12_credit_31 : decode cX12_credit 31 = .ok (.laload, 1) := by decide +kernel
theorem dX12_credit_32 : decode cX12_credit 32 = .ok (.l2i, 1) := by decide +kernel
theorem dX12_credit_33 : decode cX12_credit 33 = .ok (.imul, 1) := by decide +kernel
theorem dX12_credit_34 : decode cX12_credit 34 = .ok (.iadd, 1) := by decide +kernel
theorem dX12_credit_35 : decode cX12_credit 35 = .ok (.aload_n 0, 1) := by decide +kernel
theorem dX12_credit_36 : decode cX12_credit 36 = .ok (.getfield 7, 3) := by decide +kernel
theorem dX12_credit_39 : decode cX12_credit 39 = .ok (.bipush 20, 2) := by decide +kernel
theorem dX12_credit_41 : decode cX12_credit 41 = .ok (.iload_n 1, 1) := by decide +kernel
theorem dX12_credit_42 : decode cX12_credit 42 = .ok (.iadd, 1) := by decide +kernel
theorem dX12_credit_43 : decode cX12_credit 43 = .ok (.laload, 1) := by decide +kernel
theorem dX12_credit_44 : decode cX12_credit 44 = .ok (.l2i, 1) := by decide +kernel
theorem dX12_credit_45 : decode cX12_credit 45 = .ok (.iadd, 1) := by decide +kernel
theorem dX12_credit_46 : decode cX12_credit 46 = .ok (.laload, 1) := by decide +kernel
theorem dX12_credit_47 : decode cX12_credit 47 = .ok (.goto 6, 3) := by decide +kernel
theorem dX12_credit_50 : decode cX12_credit 50 = .ok (.ldc2_w 68, 3) := by decide +kernel
theorem dX12_credit_53 : decode cX12_credit 53 = .ok (.lstore 5, 2) := by decide +kernel
theorem dX12_credit_55 : decode cX12_credit 55 = .ok (.aload_n 0, 1) := by decide +kernel
theorem dX12_credit_56 : decode cX12_credit 56 = .ok (.getfield 7, 3) := by decide +kernel
theorem dX12_credit_59 : decode cX12_credit 59 = .ok (.bipush 30, 2) := by decide +kernel
theorem dX12_credit_61 : decode cX12_credit 61 = .ok (.iload_n 1, 1) := by decide +kernel
theorem dX12_credit_62 : decode cX12_credit 62 = .ok (.iadd, 1) := by decide +kernel
theorem dX12_credit_63 : decode cX12_credit 63 = .ok (.dup2, 1) := by decide +kernel
theorem dX12_credit_64 : decode cX12_credit 64 = .ok (.laload, 1) := by decide +kernel
theorem dX12_credit_65 : decode cX12_credit 65 = .ok (.lload_n 3, 1) := by decide +kernel
theorem dX12_credit_66 : decode cX12_credit 66 = .ok (.lload_n 3, 1) := by decide +kernel
theorem dX12_credit_67 : decode cX12_credit 67 = .ok (.lload 5, 2) := by decide +kernel
theorem dX12_credit_69 : decode cX12_credit 69 = .ok (.lmul, 1) := by decide +kernel
theorem dX12_credit_70 : decode cX12_credit 70 = .ok (.ldc2_w 219, 3) := by decide +kernel
theorem dX12_credit_73 : decode cX12_credit 73 = .ok (.ldiv, 1) := by decide +kernel
theorem dX12_credit_74 : decode cX12_credit 74 = .ok (.lsub, 1) := by decide +kernel
theorem dX12_credit_75 : decode cX12_credit 75 = .ok (.ladd, 1) := by decide +kernel
theorem dX12_credit_76 : decode cX12_credit 76 = .ok (.lastore, 1) := by decide +kernel
theorem dX12_credit_77 : decode cX12_credit 77 = .ok (.return_, 1) := by decide +kernel
theorem dX12_dividend_0 : decode cX12_dividend 0 = .ok (.iconst 0, 1) := by decide +kernel
theorem dX12_dividend_1 : decode cX12_dividend 1 = .ok (.istore_n 2, 1) := by decide +kernel
theorem dX12_dividend_2 : decode cX12_dividend 2 = .ok (.iload_n 2, 1) := by decide +kernel
theorem dX12_dividend_3 : decode cX12_dividend 3 = .ok (.i2l, 1) := by decide +kernel
theorem dX12_dividend_4 : decode cX12_dividend 4 = .ok (.aload_n 0, 1) := by decide +kernel
theorem dX12_dividend_5 : decode cX12_dividend 5 = .ok (.getfield 7, 3) := by decide +kernel
theorem dX12_dividend_8 : decode cX12_dividend 8 = .ok (.sipush 1540, 3) := by decide +kernel
theorem dX12_dividend_11 : decode cX12_dividend 11 = .ok (.laload, 1) := by decide +kernel
theorem dX12_dividend_12 : decode cX12_dividend 12 = .ok (.lcmp, 1) := by decide +kernel
theorem dX12_dividend_13 : decode cX12_dividend 13 = .ok (.ifCond .ge 51, 3) := by decide +kernel
theorem dX12_dividend_16 : decode cX12_dividend 16 = .ok (.aload_n 0, 1) := by decide +kernel
theorem dX12_dividend_17 : decode cX12_dividend 17 = .ok (.iload_n 2, 1) := by decide +kernel
theorem dX12_dividend_18 : decode cX12_dividend 18 = .ok (.aload_n 0, 1) := by decide +kernel
theorem dX12_dividend_19 : decode cX12_dividend 19 = .ok (.getfield 7, 3) := by decide +kernel
theorem dX12_dividend_22 : decode cX12_dividend 22 = .ok (.sipush 1060, 3) := by decide +kernel
theorem dX12_dividend_25 : decode cX12_dividend 25 = .ok (.iload_n 1, 1) := by decide +kernel
theorem dX12_dividend_26 : decode cX12_dividend 26 = .ok (.iadd, 1) := by decide +kernel
theorem dX12_dividend_27 : decode cX12_dividend 27 = .ok (.laload, 1) := by decide +kernel
theorem dX12_dividend_28 : decode cX12_dividend 28 = .ok (.l2i, 1) := by decide +kernel
theorem dX12_dividend_29 : decode cX12_dividend 29 = .ok (.aload_n 0, 1) := by decide +kernel
theorem dX12_dividend_30 : decode cX12_dividend 30 = .ok (.getfield 7, 3) := by decide +kernel
theorem dX12_dividend_33 : decode cX12_dividend 33 = .ok (.sipush 1140, 3) := by decide +kernel
theorem dX12_dividend_36 : decode cX12_dividend 36 = .ok (.bipush 10, 2) := by decide +kernel
theorem dX12_dividend_38 : decode cX12_dividend 38 = .ok (.iload_n 1, 1) := by decide +kernel
theorem dX12_dividend_39 : decode cX12_dividend 39 = .ok (.imul, 1) := by decide +kernel
theorem dX12_dividend_40 : decode cX12_dividend 40 = .ok (.iadd, 1) := by decide +kernel
theorem dX12_dividend_41 : decode cX12_dividend 41 = .ok (.iload_n 2, 1) := by decide +kernel
theorem dX12_dividend_42 : decode cX12_dividend 42 = .ok (.iadd, 1) := by decide +kernel
theorem dX12_dividend_43 : decode cX12_dividend 43 = .ok (.laload, 1) := by decide +kernel
theorem dX12_dividend_44 : decode cX12_dividend 44 = .ok (.aload_n 0, 1) := by decide +kernel
theorem dX12_dividend_45 : decode cX12_dividend 45 = .ok (.getfield 7, 3) := by decide +kernel
theorem dX12_dividend_48 : decode cX12_dividend 48 = .ok (.sipush 1070, 3) := by decide +kernel
theorem dX12_dividend_51 : decode cX12_dividend 51 = .ok (.iload_n 1, 1) := by decide +kernel
theorem dX12_dividend_52 : decode cX12_dividend 52 = .ok (.iadd, 1) := by decide +kernel
theorem dX12_dividend_53 : decode cX12_dividend 53 = .ok (.laload, 1) := by decide +kernel
theorem dX12_dividend_54 : decode cX12_dividend 54 = .ok (.lmul, 1) := by decide +kernel
theorem dX12_dividend_55 : decode cX12_dividend 55 = .ok (.invokevirtual 221, 3) := by decide +kernel
theorem dX12_dividend_58 : decode cX12_dividend 58 = .ok (.iinc 2 1, 3) := by decide +kernel
theorem dX12_dividend_61 : decode cX12_dividend 61 = .ok (.goto (-59), 3) := by decide +kernel
theorem dX12_dividend_64 : decode cX12_dividend 64 = .ok (.return_, 1) := by decide +kernel
theorem dX12_option_0 : decode cX12_option 0 = .ok (.aload_n 0, 1) := by decide +kernel
theorem dX12_option_1 : decode cX12_option 1 = .ok (.getfield 7, 3) := by decide +kernel
theorem dX12_option_4 : decode cX12_option 4 = .ok (.sipush 1060, 3) := by decide +kernel
theorem dX12_option_7 : decode cX12_option 7 = .ok (.iload_n 1, 1) := by decide +kernel
theorem dX12_option_8 : decode cX12_option 8 = .ok (.iadd, 1) := by decide +kernel
theorem dX12_option_9 : decode cX12_option 9 = .ok (.laload, 1) := by decide +kernel
theorem dX12_option_10 : decode cX12_option 10 = .ok (.l2i, 1) := by decide +kernel
theorem dX12_option_11 : decode cX12_option 11 = .ok (.istore_n 2, 1) := by decide +kernel
theorem dX12_option_12 : decode cX12_option 12 = .ok (.aload_n 0, 1) := by decide +kernel
theorem dX12_option_13 : decode cX12_option 13 = .ok (.getfield 7, 3) := by decide +kernel
theorem dX12_option_16 : decode cX12_option 16 = .ok (.sipush 1080, 3) := by decide +kernel
theorem dX12_option_19 : decode cX12_option 19 = .ok (.iload_n 1, 1) := by decide +kernel
theorem dX12_option_20 : decode cX12_option 20 = .ok (.iadd, 1) := by decide +kernel
theorem dX12_option_21 : decode cX12_option 21 = .ok (.laload, 1) := by decide +kernel
theorem dX12_option_22 : decode cX12_option 22 = .ok (.lstore_n 3, 1) := by decide +kernel
theorem dX12_option_23 : decode cX12_option 23 = .ok (.lconst 0, 1) := by decide +kernel
theorem dX12_option_24 : decode cX12_option 24 = .ok (.lstore 5, 2) := by decide +kernel
theorem dX12_option_26 : decode cX12_option 26 = .ok (.iconst 0, 1) := by decide +kernel
theorem dX12_option_27 : decode cX12_option 27 = .ok (.istore 7, 2) := by decide +kernel
theorem dX12_option_29 : decode cX12_option 29 = .ok (.iload 7, 2) := by decide +kernel
theorem dX12_option_31 : decode cX12_option 31 = .ok (.i2l, 1) := by decide +kernel
theorem dX12_option_32 : decode cX12_option 32 = .ok (.aload_n 0, 1) := by decide +kernel
theorem dX12_option_33 : decode cX12_option 33 = .ok (.getfield 7, 3) := by decide +kernel
theorem dX12_option_36 : decode cX12_option 36 = .ok (.sipush 1540, 3) := by decide +kernel
theorem dX12_option_39 : decode cX12_option 39 = .ok (.laload, 1) := by decide +kernel
theorem dX12_option_40 : decode cX12_option 40 = .ok (.lcmp, 1) := by decide +kernel
theorem dX12_option_41 : decode cX12_option 41 = .ok (.ifCond .ge 32, 3) := by decide +kernel
theorem dX12_option_44 : decode cX12_option 44 = .ok (.lload 5, 2) := by decide +kernel
theorem dX12_option_46 : decode cX12_option 46 = .ok (.aload_n 0, 1) := by decide +kernel
theorem dX12_option_47 : decode cX12_option 47 = .ok (.getfield 7, 3) := by decide +kernel
theorem dX12_option_50 : decode cX12_option 50 = .ok (.sipush 1240, 3) := by decide +kernel
theorem dX12_option_53 : decode cX12_option 53 = .ok (.bipush 10, 2) := by decide +kernel
theorem dX12_option_55 : decode cX12_option 55 = .ok (.iload_n 1, 1) := by decide +kernel
theorem dX12_option_56 : decode cX12_option 56 = .ok (.imul, 1) := by decide +kernel
theorem dX12_option_57 : decode cX12_option 57 = .ok (.iadd, 1) := by decide +kernel
theorem dX12_option_58 : decode cX12_option 58 = .ok (.iload 7, 2) := by decide +kernel
theorem dX12_option_60 : decode cX12_option 60 = .ok (.iadd, 1) := by decide +kernel
theorem dX12_option_61 : decode cX12_option 61 = .ok (.laload, 1) := by decide +kernel
theorem dX12_option_62 : decode cX12_option 62 = .ok (.lload_n 3, 1) := by decide +kernel
theorem dX12_option_63 : decode cX12_option 63 = .ok (.ldiv, 1) := by decide +kernel
theorem dX12_option_64 : decode cX12_option 64 = .ok (.ladd, 1) := by decide +kernel
theorem dX12_option_65 : decode cX12_option 65 = .ok (.lstore 5, 2) := by decide +kernel
theorem dX12_option_67 : decode cX12_option 67 = .ok (.iinc 7 1, 3) := by decide +kernel
theorem dX12_option_70 : decode cX12_option 70 = .ok (.goto (-41), 3) := by decide +kernel
theorem dX12_option_73 : decode cX12_option 73 = .ok (.iconst 0, 1) := by decide +kernel
theorem dX12_option_74 : decode cX12_option 74 = .ok (.istore 7, 2) := by decide +kernel
theorem dX12_option_76 : decode cX12_option 76 = .ok (.iload 7, 2) := by decide +kernel
theorem dX12_option_78 : decode cX12_option 78 = .ok (.i2l, 1) := by decide +kernel
theorem dX12_option_79 : decode cX12_option 79 = .ok (.aload_n 0, 1) := by decide +kernel
theorem dX12_option_80 : decode cX12_option 80 = .ok (.getfield 7, 3) := by decide +kernel
theorem dX12_option_83 : decode cX12_option 83 = .ok (.sipush 1540, 3) := by decide +kernel
theorem dX12_option_86 : decode cX12_option 86 = .ok (.laload, 1) := by decide +kernel
theorem dX12_option_87 : decode cX12_option 87 = .ok (.lcmp, 1) := by decide +kernel
theorem dX12_option_88 : decode cX12_option 88 = .ok (.ifCond .ge 141, 3) := by decide +kernel
theorem dX12_option_91 : decode cX12_option 91 = .ok (.aload_n 0, 1) := by decide +kernel
theorem dX12_option_92 : decode cX12_option 92 = .ok (.getfield 7, 3) := by decide +kernel
theorem dX12_option_95 : decode cX12_option 95 = .ok (.sipush 1240, 3) := by decide +kernel
theorem dX12_option_98 : decode cX12_option 98 = .ok (.bipush 10, 2) := by decide +kernel
theorem dX12_option_100 : decode cX12_option 100 = .ok (.iload_n 1, 1) := by decide +kernel
theorem dX12_option_101 : decode cX12_option 101 = .ok (.imul, 1) := by decide +kernel
theorem dX12_option_102 : decode cX12_option 102 = .ok (.iadd, 1) := by decide +kernel
theorem dX12_option_103 : decode cX12_option 103 = .ok (.iload 7, 2) := by decide +kernel
theorem dX12_option_105 : decode cX12_option 105 = .ok (.iadd, 1) := by decide +kernel
theorem dX12_option_106 : decode cX12_option 106 = .ok (.laload, 1) := by decide +kernel
theorem dX12_option_107 : decode cX12_option 107 = .ok (.lload_n 3, 1) := by decide +kernel
theorem dX12_option_108 : decode cX12_option 108 = .ok (.ldiv, 1) := by decide +kernel
theorem dX12_option_109 : decode cX12_option 109 = .ok (.lstore 8, 2) := by decide +kernel
theorem dX12_option_111 : decode cX12_option 111 = .ok (.lload 5, 2) := by decide +kernel
theorem dX12_option_113 : decode cX12_option 113 = .ok (.aload_n 0, 1) := by decide +kernel
theorem dX12_option_114 : decode cX12_option 114 = .ok (.getfield 7, 3) := by decide +kernel
theorem dX12_option_117 : decode cX12_option 117 = .ok (.sipush 1090, 3) := by decide +kernel
theorem dX12_option_120 : decode cX12_option 120 = .ok (.iload_n 1, 1) := by decide +kernel
theorem dX12_option_121 : decode cX12_option 121 = .ok (.iadd, 1) := by decide +kernel
theorem dX12_option_122 : decode cX12_option 122 = .ok (.laload, 1) := by decide +kernel
theorem dX12_option_123 : decode cX12_option 123 = .ok (.lcmp, 1) := by decide +kernel
theorem dX12_option_124 : decode cX12_option 124 = .ok (.ifCond .le 22, 3) := by decide +kernel
theorem dX12_option_127 : decode cX12_option 127 = .ok (.lload 8, 2) := by decide +kernel
theorem dX12_option_129 : decode cX12_option 129 = .ok (.aload_n 0, 1) := by decide +kernel
theorem dX12_option_130 : decode cX12_option 130 = .ok (.getfield 7, 3) := by decide +kernel
theorem dX12_option_133 : decode cX12_option 133 = .ok (.sipush 1090, 3) := by decide +kernel
theorem dX12_option_136 : decode cX12_option 136 = .ok (.iload_n 1, 1) := by decide +kernel
theorem dX12_option_137 : decode cX12_option 137 = .ok (.iadd, 1) := by decide +kernel
theorem dX12_option_138 : decode cX12_option 138 = .ok (.laload, 1) := by decide +kernel
theorem dX12_option_139 : decode cX12_option 139 = .ok (.lmul, 1) := by decide +kernel
theorem dX12_option_140 : decode cX12_option 140 = .ok (.lload 5, 2) := by decide +kernel
theorem dX12_option_142 : decode cX12_option 142 = .ok (.ldiv, 1) := by decide +kernel
theorem dX12_option_143 : decode cX12_option 143 = .ok (.goto 5, 3) := by decide +kernel
theorem dX12_option_146 : decode cX12_option 146 = .ok (.lload 8, 2) := by decide +kernel
theorem dX12_option_148 : decode cX12_option 148 = .ok (.lstore 10, 2) := by decide +kernel
theorem dX12_option_150 : decode cX12_option 150 = .ok (.aload_n 0, 1) := by decide +kernel
theorem dX12_option_151 : decode cX12_option 151 = .ok (.getfield 7, 3) := by decide +kernel
theorem dX12_option_154 : decode cX12_option 154 = .ok (.bipush 100, 2) := by decide +kernel
theorem dX12_option_156 : decode cX12_option 156 = .ok (.iconst 4, 1) := by decide +kernel
theorem dX12_option_157 : decode cX12_option 157 = .ok (.iload 7, 2) := by decide +kernel
theorem dX12_option_159 : decode cX12_option 159 = .ok (.imul, 1) := by decide +kernel
theorem dX12_option_160 : decode cX12_option 160 = .ok (.iadd, 1) := by decide +kernel
theorem dX12_option_161 : decode cX12_option 161 = .ok (.iload_n 2, 1) := by decide +kernel
theorem dX12_option_162 : decode cX12_option 162 = .ok (.iadd, 1) := by decide +kernel
theorem dX12_option_163 : decode cX12_option 163 = .ok (.dup2, 1) := by decide +kernel
theorem dX12_option_164 : decode cX12_option 164 = .ok (.laload, 1) := by decide +kernel
theorem dX12_option_165 : decode cX12_option 165 = .ok (.lload 10, 2) := by decide +kernel
theorem dX12_option_167 : decode cX12_option 167 = .ok (.ladd, 1) := by decide +kernel
theorem dX12_option_168 : decode cX12_option 168 = .ok (.lastore, 1) := by decide +kernel
theorem dX12_option_169 : decode cX12_option 169 = .ok (.aload_n 0, 1) := by decide +kernel
theorem dX12_option_170 : decode cX12_option 170 = .ok (.getfield 7, 3) := by decide +kernel
theorem dX12_option_173 : decode cX12_option 173 = .ok (.sipush 192, 3) := by decide +kernel
theorem dX12_option_176 : decode cX12_option 176 = .ok (.iload_n 2, 1) := by decide +kernel
theorem dX12_option_177 : decode cX12_option 177 = .ok (.iadd, 1) := by decide +kernel
theorem dX12_option_178 : decode cX12_option 178 = .ok (.dup2, 1) := by decide +kernel
theorem dX12_option_179 : decode cX12_option 179 = .ok (.laload, 1) := by decide +kernel
theorem dX12_option_180 : decode cX12_option 180 = .ok (.lload 10, 2) := by decide +kernel
theorem dX12_option_182 : decode cX12_option 182 = .ok (.ladd, 1) := by decide +kernel
theorem dX12_option_183 : decode cX12_option 183 = .ok (.lastore, 1) := by decide +kernel
theorem dX12_option_184 : decode cX12_option 184 = .ok (.aload_n 0, 1) := by decide +kernel
theorem dX12_option_185 : decode cX12_option 185 = .ok (.iload 7, 2) := by decide +kernel
theorem dX12_option_187 : decode cX12_option 187 = .ok (.iload_n 2, 1) := by decide +kernel
theorem dX12_option_188 : decode cX12_option 188 = .ok (.aload_n 0, 1) := by decide +kernel
theorem dX12_option_189 : decode cX12_option 189 = .ok (.getfield 7, 3) := by decide +kernel
theorem dX12_option_192 : decode cX12_option 192 = .ok (.sipush 1140, 3) := by decide +kernel
theorem dX12_option_195 : decode cX12_option 195 = .ok (.bipush 10, 2) := by decide +kernel
theorem dX12_option_197 : decode cX12_option 197 = .ok (.iload_n 1, 1) := by decide +kernel
theorem dX12_option_198 : decode cX12_option 198 = .ok (.imul, 1) := by decide +kernel
theorem dX12_option_199 : decode cX12_option 199 = .ok (.iadd, 1) := by decide +kernel
theorem dX12_option_200 : decode cX12_option 200 = .ok (.iload 7, 2) := by decide +kernel
theorem dX12_option_202 : decode cX12_option 202 = .ok (.iadd, 1) := by decide +kernel
theorem dX12_option_203 : decode cX12_option 203 = .ok (.laload, 1) := by decide +kernel
theorem dX12_option_204 : decode cX12_option 204 = .ok (.lload_n 3, 1) := by decide +kernel
theorem dX12_option_205 : decode cX12_option 205 = .ok (.lload 10, 2) := by decide +kernel
theorem dX12_option_207 : decode cX12_option 207 = .ok (.lmul, 1) := by decide +kernel
theorem dX12_option_208 : decode cX12_option 208 = .ok (.lsub, 1) := by decide +kernel
theorem dX12_option_209 : decode cX12_option 209 = .ok (.aload_n 0, 1) := by decide +kernel
theorem dX12_option_210 : decode cX12_option 210 = .ok (.getfield 7, 3) := by decide +kernel
theorem dX12_option_213 : decode cX12_option 213 = .ok (.sipush 1070, 3) := by decide +kernel
theorem dX12_option_216 : decode cX12_option 216 = .ok (.iload_n 1, 1) := by decide +kernel
theorem dX12_option_217 : decode cX12_option 217 = .ok (.iadd, 1) := by decide +kernel
theorem dX12_option_218 : decode cX12_option 218 = .ok (.laload, 1) := by decide +kernel
theorem dX12_option_219 : decode cX12_option 219 = .ok (.lmul, 1) := by decide +kernel
theorem dX12_option_220 : decode cX12_option 220 = .ok (.invokevirtual 221, 3) := by decide +kernel
theorem dX12_option_223 : decode cX12_option 223 = .ok (.iinc 7 1, 3) := by decide +kernel
theorem dX12_option_226 : decode cX12_option 226 = .ok (.goto (-150), 3) := by decide +kernel
theorem dX12_option_229 : decode cX12_option 229 = .ok (.return_, 1) := by decide +kernel
theorem dX12_split_0 : decode cX12_split 0 = .ok (.aload_n 0, 1) := by decide +kernel
theorem dX12_split_1 : decode cX12_split 1 = .ok (.getfield 7, 3) := by decide +kernel
theorem dX12_split_4 : decode cX12_split 4 = .ok (.sipush 1060, 3) := by decide +kernel
theorem dX12_split_7 : decode cX12_split 7 = .ok (.iload_n 1, 1) := by decide +kernel
theorem dX12_split_8 : decode cX12_split 8 = .ok (.iadd, 1) := by decide +kernel
theorem dX12_split_9 : decode cX12_split 9 = .ok (.laload, 1) := by decide +kernel
theorem dX12_split_10 : decode cX12_split 10 = .ok (.l2i, 1) := by decide +kernel
theorem dX12_split_11 : decode cX12_split 11 = .ok (.istore_n 2, 1) := by decide +kernel
theorem dX12_split_12 : decode cX12_split 12 = .ok (.aload_n 0, 1) := by decide +kernel
theorem dX12_split_13 : decode cX12_split 13 = .ok (.getfield 7, 3) := by decide +kernel
theorem dX12_split_16 : decode cX12_split 16 = .ok (.sipush 1070, 3) := by decide +kernel
theorem dX12_split_19 : decode cX12_split 19 = .ok (.iload_n 1, 1) := by decide +kernel
theorem dX12_split_20 : decode cX12_split 20 = .ok (.iadd, 1) := by decide +kernel
theorem dX12_split_21 : decode cX12_split 21 = .ok (.laload, 1) := by decide +kernel
theorem dX12_split_22 : decode cX12_split 22 = .ok (.lstore_n 3, 1) := by decide +kernel
theorem dX12_split_23 : decode cX12_split 23 = .ok (.aload_n 0, 1) := by decide +kernel
theorem dX12_split_24 : decode cX12_split 24 = .ok (.getfield 7, 3) := by decide +kernel
theorem dX12_split_27 : decode cX12_split 27 = .ok (.sipush 1080, 3) := by decide +kernel
theorem dX12_split_30 : decode cX12_split 30 = .ok (.iload_n 1, 1) := by decide +kernel
theorem dX12_split_31 : decode cX12_split 31 = .ok (.iadd, 1) := by decide +kernel
theorem dX12_split_32 : decode cX12_split 32 = .ok (.laload, 1) := by decide +kernel
theorem dX12_split_33 : decode cX12_split 33 = .ok (.lstore 5, 2) := by decide +kernel
theorem dX12_split_35 : decode cX12_split 35 = .ok (.aload_n 0, 1) := by decide +kernel
theorem dX12_split_36 : decode cX12_split 36 = .ok (.getfield 7, 3) := by decide +kernel
theorem dX12_split_39 : decode cX12_split 39 = .ok (.sipush 192, 3) := by decide +kernel
theorem dX12_split_42 : decode cX12_split 42 = .ok (.iload_n 2, 1) := by decide +kernel
theorem dX12_split_43 : decode cX12_split 43 = .ok (.iadd, 1) := by decide +kernel
theorem dX12_split_44 : decode cX12_split 44 = .ok (.lconst 0, 1) := by decide +kernel
theorem dX12_split_45 : decode cX12_split 45 = .ok (.lastore, 1) := by decide +kernel
theorem dX12_split_46 : decode cX12_split 46 = .ok (.iconst 0, 1) := by decide +kernel
theorem dX12_split_47 : decode cX12_split 47 = .ok (.istore 7, 2) := by decide +kernel
theorem dX12_split_49 : decode cX12_split 49 = .ok (.iload 7, 2) := by decide +kernel
theorem dX12_split_51 : decode cX12_split 51 = .ok (.i2l, 1) := by decide +kernel
theorem dX12_split_52 : decode cX12_split 52 = .ok (.aload_n 0, 1) := by decide +kernel
theorem dX12_split_53 : decode cX12_split 53 = .ok (.getfield 7, 3) := by decide +kernel
theorem dX12_split_56 : decode cX12_split 56 = .ok (.sipush 1540, 3) := by decide +kernel
theorem dX12_split_59 : decode cX12_split 59 = .ok (.laload, 1) := by decide +kernel
theorem dX12_split_60 : decode cX12_split 60 = .ok (.lcmp, 1) := by decide +kernel
theorem dX12_split_61 : decode cX12_split 61 = .ok (.ifCond .ge 298, 3) := by decide +kernel
theorem dX12_split_64 : decode cX12_split 64 = .ok (.aload_n 0, 1) := by decide +kernel
theorem dX12_split_65 : decode cX12_split 65 = .ok (.getfield 7, 3) := by decide +kernel
theorem dX12_split_68 : decode cX12_split 68 = .ok (.bipush 10, 2) := by decide +kernel
theorem dX12_split_70 : decode cX12_split 70 = .ok (.iload 7, 2) := by decide +kernel
theorem dX12_split_72 : decode cX12_split 72 = .ok (.iadd, 1) := by decide +kernel
theorem dX12_split_73 : decode cX12_split 73 = .ok (.laload, 1) := by decide +kernel
theorem dX12_split_74 : decode cX12_split 74 = .ok (.lconst 0, 1) := by decide +kernel
theorem dX12_split_75 : decode cX12_split 75 = .ok (.lcmp, 1) := by decide +kernel
theorem dX12_split_76 : decode cX12_split 76 = .ok (.ifCond .ne 242, 3) := by decide +kernel
theorem dX12_split_79 : decode cX12_split 79 = .ok (.aload_n 0, 1) := by decide +kernel
theorem dX12_split_80 : decode cX12_split 80 = .ok (.getfield 7, 3) := by decide +kernel
theorem dX12_split_83 : decode cX12_split 83 = .ok (.bipush 100, 2) := by decide +kernel
theorem dX12_split_85 : decode cX12_split 85 = .ok (.iconst 4, 1) := by decide +kernel
theorem dX12_split_86 : decode cX12_split 86 = .ok (.iload 7, 2) := by decide +kernel
theorem dX12_split_88 : decode cX12_split 88 = .ok (.imul, 1) := by decide +kernel
theorem dX12_split_89 : decode cX12_split 89 = .ok (.iadd, 1) := by decide +kernel
theorem dX12_split_90 : decode cX12_split 90 = .ok (.iload_n 2, 1) := by decide +kernel
theorem dX12_split_91 : decode cX12_split 91 = .ok (.iadd, 1) := by decide +kernel
theorem dX12_split_92 : decode cX12_split 92 = .ok (.laload, 1) := by decide +kernel
theorem dX12_split_93 : decode cX12_split 93 = .ok (.lstore 8, 2) := by decide +kernel
theorem dX12_split_95 : decode cX12_split 95 = .ok (.lconst 0, 1) := by decide +kernel
theorem dX12_split_96 : decode cX12_split 96 = .ok (.lstore 10, 2) := by decide +kernel
theorem dX12_split_98 : decode cX12_split 98 = .ok (.iconst 0, 1) := by decide +kernel
theorem dX12_split_99 : decode cX12_split 99 = .ok (.istore 12, 2) := by decide +kernel
theorem dX12_split_101 : decode cX12_split 101 = .ok (.iload 12, 2) := by decide +kernel
theorem dX12_split_103 : decode cX12_split 103 = .ok (.i2l, 1) := by decide +kernel
theorem dX12_split_104 : decode cX12_split 104 = .ok (.aload_n 0, 1) := by decide +kernel
theorem dX12_split_105 : decode cX12_split 105 = .ok (.getfield 7, 3) := by decide +kernel
theorem dX12_split_108 : decode cX12_split 108 = .ok (.sipush 1540, 3) := by decide +kernel
theorem dX12_split_111 : decode cX12_split 111 = .ok (.laload, 1) := by decide +kernel
theorem dX12_split_112 : decode cX12_split 112 = .ok (.lcmp, 1) := by decide +kernel
theorem dX12_split_113 : decode cX12_split 113 = .ok (.ifCond .ge 161, 3) := by decide +kernel
theorem dX12_split_116 : decode cX12_split 116 = .ok (.aload_n 0, 1) := by decide +kernel
theorem dX12_split_117 : decode cX12_split 117 = .ok (.getfield 7, 3) := by decide +kernel
theorem dX12_split_120 : decode cX12_split 120 = .ok (.iload 12, 2) := by decide +kernel
theorem dX12_split_122 : decode cX12_split 122 = .ok (.laload, 1) := by decide +kernel
theorem dX12_split_123 : decode cX12_split 123 = .ok (.iload 7, 2) := by decide +kernel
theorem dX12_split_125 : decode cX12_split 125 = .ok (.i2l, 1) := by decide +kernel
theorem dX12_split_126 : decode cX12_split 126 = .ok (.lcmp, 1) := by decide +kernel
theorem dX12_split_127 : decode cX12_split 127 = .ok (.ifCond .ne 22, 3) := by decide +kernel
theorem dX12_split_130 : decode cX12_split 130 = .ok (.aload_n 0, 1) := by decide +kernel
theorem dX12_split_131 : decode cX12_split 131 = .ok (.getfield 7, 3) := by decide +kernel
theorem dX12_split_134 : decode cX12_split 134 = .ok (.bipush 10, 2) := by decide +kernel
theorem dX12_split_136 : decode cX12_split 136 = .ok (.iload 12, 2) := by decide +kernel
theorem dX12_split_138 : decode cX12_split 138 = .ok (.iadd, 1) := by decide +kernel
theorem dX12_split_139 : decode cX12_split 139 = .ok (.laload, 1) := by decide +kernel
theorem dX12_split_140 : decode cX12_split 140 = .ok (.lconst 1, 1) := by decide +kernel
theorem dX12_split_141 : decode cX12_split 141 = .ok (.lcmp, 1) := by decide +kernel
theorem dX12_split_142 : decode cX12_split 142 = .ok (.ifCond .ne 7, 3) := by decide +kernel
theorem dX12_split_145 : decode cX12_split 145 = .ok (.iconst 1, 1) := by decide +kernel
theorem dX12_split_146 : decode cX12_split 146 = .ok (.goto 4, 3) := by decide +kernel
theorem dX12_split_149 : decode cX12_split 149 = .ok (.iconst 0, 1) := by decide +kernel
theorem dX12_split_150 : decode cX12_split 150 = .ok (.istore 13, 2) := by decide +kernel
theorem dX12_split_152 : decode cX12_split 152 = .ok (.lload 8, 2) := by decide +kernel
theorem dX12_split_154 : decode cX12_split 154 = .ok (.iload 13, 2) := by decide +kernel
theorem dX12_split_156 : decode cX12_split 156 = .ok (.ifCond .eq 20, 3) := by decide +kernel
theorem dX12_split_159 : decode cX12_split 159 = .ok (.aload_n 0, 1) := by decide +kernel
theorem dX12_split_160 : decode cX12_split 160 = .ok (.getfield 7, 3) := by decide +kernel
theorem dX12_split_163 : decode cX12_split 163 = .ok (.bipush 100, 2) := by decide +kernel
theorem dX12_split_165 : decode cX12_split 165 = .ok (.iconst 4, 1) := by decide +kernel
theorem dX12_split_166 : decode cX12_split 166 = .ok (.iload 12, 2) := by decide +kernel
theorem dX12_split_168 : decode cX12_split 168 = .ok (.imul, 1) := by decide +kernel
theorem dX12_split_169 : decode cX12_split 169 = .ok (.iadd, 1) := by decide +kernel
theorem dX12_split_170 : decode cX12_split 170 = .ok (.iload_n 2, 1) := by decide +kernel
theorem dX12_split_171 : decode cX12_split 171 = .ok (.iadd, 1) := by decide +kernel
theorem dX12_split_172 : decode cX12_split 172 = .ok (.laload, 1) := by decide +kernel
theorem dX12_split_173 : decode cX12_split 173 = .ok (.goto 4, 3) := by decide +kernel
theorem dX12_split_176 : decode cX12_split 176 = .ok (.lconst 0, 1) := by decide +kernel
theorem dX12_split_177 : decode cX12_split 177 = .ok (.ladd, 1) := by decide +kernel
theorem dX12_split_178 : decode cX12_split 178 = .ok (.lstore 8, 2) := by decide +kernel
theorem dX12_split_180 : decode cX12_split 180 = .ok (.lload 10, 2) := by decide +kernel
theorem dX12_split_182 : decode cX12_split 182 = .ok (.iload 13, 2) := by decide +kernel
theorem dX12_split_184 : decode cX12_split 184 = .ok (.ifCond .eq 25, 3) := by decide +kernel
theorem dX12_split_187 : decode cX12_split 187 = .ok (.aload_n 0, 1) := by decide +kernel
theorem dX12_split_188 : decode cX12_split 188 = .ok (.getfield 7, 3) := by decide +kernel
theorem dX12_split_191 : decode cX12_split 191 = .ok (.bipush 100, 2) := by decide +kernel
theorem dX12_split_193 : decode cX12_split 193 = .ok (.iconst 4, 1) := by decide +kernel
theorem dX12_split_194 : decode cX12_split 194 = .ok (.iload 12, 2) := by decide +kernel
theorem dX12_split_196 : decode cX12_split 196 = .ok (.imul, 1) := by decide +kernel
theorem dX12_split_197 : decode cX12_split 197 = .ok (.iadd, 1) := by decide +kernel
theorem dX12_split_198 : decode cX12_split 198 = .ok (.iload_n 2, 1) := by decide +kernel
theorem dX12_split_199 : decode cX12_split 199 = .ok (.iadd, 1) := by decide +kernel
theorem dX12_split_200 : decode cX12_split 200 = .ok (.laload, 1) := by decide +kernel
theorem dX12_split_201 : decode cX12_split 201 = .ok (.lload_n 3, 1) := by decide +kernel
theorem dX12_split_202 : decode cX12_split 202 = .ok (.lmul, 1) := by decide +kernel
theorem dX12_split_203 : decode cX12_split 203 = .ok (.lload 5, 2) := by decide +kernel
theorem dX12_split_205 : decode cX12_split 205 = .ok (.ldiv, 1) := by decide +kernel
theorem dX12_split_206 : decode cX12_split 206 = .ok (.goto 4, 3) := by decide +kernel
theorem dX12_split_209 : decode cX12_split 209 = .ok (.lconst 0, 1) := by decide +kernel
theorem dX12_split_210 : decode cX12_split 210 = .ok (.ladd, 1) := by decide +kernel
theorem dX12_split_211 : decode cX12_split 211 = .ok (.lstore 10, 2) := by decide +kernel
theorem dX12_split_213 : decode cX12_split 213 = .ok (.aload_n 0, 1) := by decide +kernel
theorem dX12_split_214 : decode cX12_split 214 = .ok (.getfield 7, 3) := by decide +kernel
theorem dX12_split_217 : decode cX12_split 217 = .ok (.bipush 100, 2) := by decide +kernel
theorem dX12_split_219 : decode cX12_split 219 = .ok (.iconst 4, 1) := by decide +kernel
theorem dX12_split_220 : decode cX12_split 220 = .ok (.iload 12, 2) := by decide +kernel
theorem dX12_split_222 : decode cX12_split 222 = .ok (.imul, 1) := by decide +kernel
theorem dX12_split_223 : decode cX12_split 223 = .ok (.iadd, 1) := by decide +kernel
theorem dX12_split_224 : decode cX12_split 224 = .ok (.iload_n 2, 1) := by decide +kernel
theorem dX12_split_225 : decode cX12_split 225 = .ok (.iadd, 1) := by decide +kernel
theorem dX12_split_226 : decode cX12_split 226 = .ok (.iload 13, 2) := by decide +kernel
theorem dX12_split_228 : decode cX12_split 228 = .ok (.ifCond .eq 25, 3) := by decide +kernel
theorem dX12_split_231 : decode cX12_split 231 = .ok (.aload_n 0, 1) := by decide +kernel
theorem dX12_split_232 : decode cX12_split 232 = .ok (.getfield 7, 3) := by decide +kernel
theorem dX12_split_235 : decode cX12_split 235 = .ok (.bipush 100, 2) := by decide +kernel
theorem dX12_split_237 : decode cX12_split 237 = .ok (.iconst 4, 1) := by decide +kernel
theorem dX12_split_238 : decode cX12_split 238 = .ok (.iload 12, 2) := by decide +kernel
theorem dX12_split_240 : decode cX12_split 240 = .ok (.imul, 1) := by decide +kernel
theorem dX12_split_241 : decode cX12_split 241 = .ok (.iadd, 1) := by decide +kernel
theorem dX12_split_242 : decode cX12_split 242 = .ok (.iload_n 2, 1) := by decide +kernel
theorem dX12_split_243 : decode cX12_split 243 = .ok (.iadd, 1) := by decide +kernel
theorem dX12_split_244 : decode cX12_split 244 = .ok (.laload, 1) := by decide +kernel
theorem dX12_split_245 : decode cX12_split 245 = .ok (.lload_n 3, 1) := by decide +kernel
theorem dX12_split_246 : decode cX12_split 246 = .ok (.lmul, 1) := by decide +kernel
theorem dX12_split_247 : decode cX12_split 247 = .ok (.lload 5, 2) := by decide +kernel
theorem dX12_split_249 : decode cX12_split 249 = .ok (.ldiv, 1) := by decide +kernel
theorem dX12_split_250 : decode cX12_split 250 = .ok (.goto 17, 3) := by decide +kernel
theorem dX12_split_253 : decode cX12_split 253 = .ok (.aload_n 0, 1) := by decide +kernel
theorem dX12_split_254 : decode cX12_split 254 = .ok (.getfield 7, 3) := by decide +kernel
theorem dX12_split_257 : decode cX12_split 257 = .ok (.bipush 100, 2) := by decide +kernel
theorem dX12_split_259 : decode cX12_split 259 = .ok (.iconst 4, 1) := by decide +kernel
theorem dX12_split_260 : decode cX12_split 260 = .ok (.iload 12, 2) := by decide +kernel
theorem dX12_split_262 : decode cX12_split 262 = .ok (.imul, 1) := by decide +kernel
theorem dX12_split_263 : decode cX12_split 263 = .ok (.iadd, 1) := by decide +kernel
theorem dX12_split_264 : decode cX12_split 264 = .ok (.iload_n 2, 1) := by decide +kernel
theorem dX12_split_265 : decode cX12_split 265 = .ok (.iadd, 1) := by decide +kernel
theorem dX12_split_266 : decode cX12_split 266 = .ok (.laload, 1) := by decide +kernel
theorem dX12_split_267 : decode cX12_split 267 = .ok (.lastore, 1) := by decide +kernel
theorem dX12_split_268 : decode cX12_split 268 = .ok (.iinc 12 1, 3) := by decide +kernel
theorem dX12_split_271 : decode cX12_split 271 = .ok (.goto (-170), 3) := by decide +kernel
theorem dX12_split_274 : decode cX12_split 274 = .ok (.aload_n 0, 1) := by decide +kernel
theorem dX12_split_275 : decode cX12_split 275 = .ok (.getfield 7, 3) := by decide +kernel
theorem dX12_split_278 : decode cX12_split 278 = .ok (.bipush 100, 2) := by decide +kernel
theorem dX12_split_280 : decode cX12_split 280 = .ok (.iconst 4, 1) := by decide +kernel
theorem dX12_split_281 : decode cX12_split 281 = .ok (.iload 7, 2) := by decide +kernel
theorem dX12_split_283 : decode cX12_split 283 = .ok (.imul, 1) := by decide +kernel
theorem dX12_split_284 : decode cX12_split 284 = .ok (.iadd, 1) := by decide +kernel
theorem dX12_split_285 : decode cX12_split 285 = .ok (.iload_n 2, 1) := by decide +kernel
theorem dX12_split_286 : decode cX12_split 286 = .ok (.iadd, 1) := by decide +kernel
theorem dX12_split_287 : decode cX12_split 287 = .ok (.lload 8, 2) := by decide +kernel
theorem dX12_split_289 : decode cX12_split 289 = .ok (.lload_n 3, 1) := by decide +kernel
theorem dX12_split_290 : decode cX12_split 290 = .ok (.lmul, 1) := by decide +kernel
theorem dX12_split_291 : decode cX12_split 291 = .ok (.lload 5, 2) := by decide +kernel
theorem dX12_split_293 : decode cX12_split 293 = .ok (.ldiv, 1) := by decide +kernel
theorem dX12_split_294 : decode cX12_split 294 = .ok (.lload 10, 2) := by decide +kernel
theorem dX12_split_296 : decode cX12_split 296 = .ok (.lsub, 1) := by decide +kernel
theorem dX12_split_297 : decode cX12_split 297 = .ok (.lastore, 1) := by decide +kernel
theorem dX12_split_298 : decode cX12_split 298 = .ok (.aload_n 0, 1) := by decide +kernel
theorem dX12_split_299 : decode cX12_split 299 = .ok (.getfield 7, 3) := by decide +kernel
theorem dX12_split_302 : decode cX12_split 302 = .ok (.sipush 192, 3) := by decide +kernel
theorem dX12_split_305 : decode cX12_split 305 = .ok (.iload_n 2, 1) := by decide +kernel
theorem dX12_split_306 : decode cX12_split 306 = .ok (.iadd, 1) := by decide +kernel
theorem dX12_split_307 : decode cX12_split 307 = .ok (.dup2, 1) := by decide +kernel
theorem dX12_split_308 : decode cX12_split 308 = .ok (.laload, 1) := by decide +kernel
theorem dX12_split_309 : decode cX12_split 309 = .ok (.lload 8, 2) := by decide +kernel
theorem dX12_split_311 : decode cX12_split 311 = .ok (.lload_n 3, 1) := by decide +kernel
theorem dX12_split_312 : decode cX12_split 312 = .ok (.lmul, 1) := by decide +kernel
theorem dX12_split_313 : decode cX12_split 313 = .ok (.lload 5, 2) := by decide +kernel
theorem dX12_split_315 : decode cX12_split 315 = .ok (.ldiv, 1) := by decide +kernel
theorem dX12_split_316 : decode cX12_split 316 = .ok (.ladd, 1) := by decide +kernel
theorem dX12_split_317 : decode cX12_split 317 = .ok (.lastore, 1) := by decide +kernel
theorem dX12_split_318 : decode cX12_split 318 = .ok (.aload_n 0, 1) := by decide +kernel
theorem dX12_split_319 : decode cX12_split 319 = .ok (.getfield 7, 3) := by decide +kernel
theorem dX12_split_322 : decode cX12_split 322 = .ok (.sipush 140, 3) := by decide +kernel
theorem dX12_split_325 : decode cX12_split 325 = .ok (.iconst 4, 1) := by decide +kernel
theorem dX12_split_326 : decode cX12_split 326 = .ok (.iload 7, 2) := by decide +kernel
theorem dX12_split_328 : decode cX12_split 328 = .ok (.imul, 1) := by decide +kernel
theorem dX12_split_329 : decode cX12_split 329 = .ok (.iadd, 1) := by decide +kernel
theorem dX12_split_330 : decode cX12_split 330 = .ok (.iload_n 2, 1) := by decide +kernel
theorem dX12_split_331 : decode cX12_split 331 = .ok (.iadd, 1) := by decide +kernel
theorem dX12_split_332 : decode cX12_split 332 = .ok (.aload_n 0, 1) := by decide +kernel
theorem dX12_split_333 : decode cX12_split 333 = .ok (.getfield 7, 3) := by decide +kernel
theorem dX12_split_336 : decode cX12_split 336 = .ok (.sipush 140, 3) := by decide +kernel
theorem dX12_split_339 : decode cX12_split 339 = .ok (.iconst 4, 1) := by decide +kernel
theorem dX12_split_340 : decode cX12_split 340 = .ok (.iload 7, 2) := by decide +kernel
theorem dX12_split_342 : decode cX12_split 342 = .ok (.imul, 1) := by decide +kernel
theorem dX12_split_343 : decode cX12_split 343 = .ok (.iadd, 1) := by decide +kernel
theorem dX12_split_344 : decode cX12_split 344 = .ok (.iload_n 2, 1) := by decide +kernel
theorem dX12_split_345 : decode cX12_split 345 = .ok (.iadd, 1) := by decide +kernel
theorem dX12_split_346 : decode cX12_split 346 = .ok (.laload, 1) := by decide +kernel
theorem dX12_split_347 : decode cX12_split 347 = .ok (.lload_n 3, 1) := by decide +kernel
theorem dX12_split_348 : decode cX12_split 348 = .ok (.lmul, 1) := by decide +kernel
theorem dX12_split_349 : decode cX12_split 349 = .ok (.lload 5, 2) := by decide +kernel
theorem dX12_split_351 : decode cX12_split 351 = .ok (.ldiv, 1) := by decide +kernel
theorem dX12_split_352 : decode cX12_split 352 = .ok (.lastore, 1) := by decide +kernel
theorem dX12_split_353 : decode cX12_split 353 = .ok (.iinc 7 1, 3) := by decide +kernel
theorem dX12_split_356 : decode cX12_split 356 = .ok (.goto (-307), 3) := by decide +kernel
theorem dX12_split_359 : decode cX12_split 359 = .ok (.iconst 0, 1) := by decide +kernel
theorem dX12_split_360 : decode cX12_split 360 = .ok (.istore 7, 2) := by decide +kernel
theorem dX12_split_362 : decode cX12_split 362 = .ok (.iload 7, 2) := by decide +kernel
theorem dX12_split_364 : decode cX12_split 364 = .ok (.i2l, 1) := by decide +kernel
theorem dX12_split_365 : decode cX12_split 365 = .ok (.aload_n 0, 1) := by decide +kernel
theorem dX12_split_366 : decode cX12_split 366 = .ok (.getfield 7, 3) := by decide +kernel
theorem dX12_split_369 : decode cX12_split 369 = .ok (.sipush 1545, 3) := by decide +kernel
theorem dX12_split_372 : decode cX12_split 372 = .ok (.laload, 1) := by decide +kernel
theorem dX12_split_373 : decode cX12_split 373 = .ok (.lcmp, 1) := by decide +kernel
theorem dX12_split_374 : decode cX12_split 374 = .ok (.ifCond .ge 83, 3) := by decide +kernel
theorem dX12_split_377 : decode cX12_split 377 = .ok (.aload_n 0, 1) := by decide +kernel
theorem dX12_split_378 : decode cX12_split 378 = .ok (.getfield 7, 3) := by decide +kernel
theorem dX12_split_381 : decode cX12_split 381 = .ok (.sipush 990, 3) := by decide +kernel
theorem dX12_split_384 : decode cX12_split 384 = .ok (.iload 7, 2) := by decide +kernel
theorem dX12_split_386 : decode cX12_split 386 = .ok (.iadd, 1) := by decide +kernel
theorem dX12_split_387 : decode cX12_split 387 = .ok (.aload_n 0, 1) := by decide +kernel
theorem dX12_split_388 : decode cX12_split 388 = .ok (.getfield 7, 3) := by decide +kernel
theorem dX12_split_391 : decode cX12_split 391 = .ok (.sipush 970, 3) := by decide +kernel
theorem dX12_split_394 : decode cX12_split 394 = .ok (.iload 7, 2) := by decide +kernel
theorem dX12_split_396 : decode cX12_split 396 = .ok (.iadd, 1) := by decide +kernel
theorem dX12_split_397 : decode cX12_split 397 = .ok (.laload, 1) := by decide +kernel
theorem dX12_split_398 : decode cX12_split 398 = .ok (.iload_n 2, 1) := by decide +kernel
theorem dX12_split_399 : decode cX12_split 399 = .ok (.i2l, 1) := by decide +kernel
theorem dX12_split_400 : decode cX12_split 400 = .ok (.lcmp, 1) := by decide +kernel
theorem dX12_split_401 : decode cX12_split 401 = .ok (.ifCond .ne 38, 3) := by decide +kernel
theorem dX12_split_404 : decode cX12_split 404 = .ok (.aload_n 0, 1) := by decide +kernel
theorem dX12_split_405 : decode cX12_split 405 = .ok (.getfield 7, 3) := by decide +kernel
theorem dX12_split_408 : decode cX12_split 408 = .ok (.sipush 990, 3) := by decide +kernel
theorem dX12_split_411 : decode cX12_split 411 = .ok (.iload 7, 2) := by decide +kernel
theorem dX12_split_413 : decode cX12_split 413 = .ok (.iadd, 1) := by decide +kernel
theorem dX12_split_414 : decode cX12_split 414 = .ok (.laload, 1) := by decide +kernel
theorem dX12_split_415 : decode cX12_split 415 = .ok (.lconst 0, 1) := by decide +kernel
theorem dX12_split_416 : decode cX12_split 416 = .ok (.lcmp, 1) := by decide +kernel
theorem dX12_split_417 : decode cX12_split 417 = .ok (.ifCond .lt 22, 3) := by decide +kernel
theorem dX12_split_420 : decode cX12_split 420 = .ok (.aload_n 0, 1) := by decide +kernel
theorem dX12_split_421 : decode cX12_split 421 = .ok (.getfield 7, 3) := by decide +kernel
theorem dX12_split_424 : decode cX12_split 424 = .ok (.sipush 990, 3) := by decide +kernel
theorem dX12_split_427 : decode cX12_split 427 = .ok (.iload 7, 2) := by decide +kernel
theorem dX12_split_429 : decode cX12_split 429 = .ok (.iadd, 1) := by decide +kernel
theorem dX12_split_430 : decode cX12_split 430 = .ok (.laload, 1) := by decide +kernel
theorem dX12_split_431 : decode cX12_split 431 = .ok (.lload_n 3, 1) := by decide +kernel
theorem dX12_split_432 : decode cX12_split 432 = .ok (.lmul, 1) := by decide +kernel
theorem dX12_split_433 : decode cX12_split 433 = .ok (.lload 5, 2) := by decide +kernel
theorem dX12_split_435 : decode cX12_split 435 = .ok (.ldiv, 1) := by decide +kernel
theorem dX12_split_436 : decode cX12_split 436 = .ok (.goto 14, 3) := by decide +kernel
theorem dX12_split_439 : decode cX12_split 439 = .ok (.aload_n 0, 1) := by decide +kernel
theorem dX12_split_440 : decode cX12_split 440 = .ok (.getfield 7, 3) := by decide +kernel
theorem dX12_split_443 : decode cX12_split 443 = .ok (.sipush 990, 3) := by decide +kernel
theorem dX12_split_446 : decode cX12_split 446 = .ok (.iload 7, 2) := by decide +kernel
theorem dX12_split_448 : decode cX12_split 448 = .ok (.iadd, 1) := by decide +kernel
theorem dX12_split_449 : decode cX12_split 449 = .ok (.laload, 1) := by decide +kernel
theorem dX12_split_450 : decode cX12_split 450 = .ok (.lastore, 1) := by decide +kernel
theorem dX12_split_451 : decode cX12_split 451 = .ok (.iinc 7 1, 3) := by decide +kernel
theorem dX12_split_454 : decode cX12_split 454 = .ok (.goto (-92), 3) := by decide +kernel
theorem dX12_split_457 : decode cX12_split 457 = .ok (.iconst 0, 1) := by decide +kernel
theorem dX12_split_458 : decode cX12_split 458 = .ok (.istore 7, 2) := by decide +kernel
theorem dX12_split_460 : decode cX12_split 460 = .ok (.iload 7, 2) := by decide +kernel
theorem dX12_split_462 : decode cX12_split 462 = .ok (.i2l, 1) := by decide +kernel
theorem dX12_split_463 : decode cX12_split 463 = .ok (.aload_n 0, 1) := by decide +kernel
theorem dX12_split_464 : decode cX12_split 464 = .ok (.getfield 7, 3) := by decide +kernel
theorem dX12_split_467 : decode cX12_split 467 = .ok (.sipush 1543, 3) := by decide +kernel
theorem dX12_split_470 : decode cX12_split 470 = .ok (.laload, 1) := by decide +kernel
theorem dX12_split_471 : decode cX12_split 471 = .ok (.lcmp, 1) := by decide +kernel
theorem dX12_split_472 : decode cX12_split 472 = .ok (.ifCond .ge 112, 3) := by decide +kernel
theorem dX12_split_475 : decode cX12_split 475 = .ok (.aload_n 0, 1) := by decide +kernel
theorem dX12_split_476 : decode cX12_split 476 = .ok (.getfield 7, 3) := by decide +kernel
theorem dX12_split_479 : decode cX12_split 479 = .ok (.sipush 870, 3) := by decide +kernel
theorem dX12_split_482 : decode cX12_split 482 = .ok (.iload 7, 2) := by decide +kernel
theorem dX12_split_484 : decode cX12_split 484 = .ok (.iadd, 1) := by decide +kernel
theorem dX12_split_485 : decode cX12_split 485 = .ok (.laload, 1) := by decide +kernel
theorem dX12_split_486 : decode cX12_split 486 = .ok (.lconst 0, 1) := by decide +kernel
theorem dX12_split_487 : decode cX12_split 487 = .ok (.lcmp, 1) := by decide +kernel
theorem dX12_split_488 : decode cX12_split 488 = .ok (.ifCond .ne 90, 3) := by decide +kernel
theorem dX12_split_491 : decode cX12_split 491 = .ok (.aload_n 0, 1) := by decide +kernel
theorem dX12_split_492 : decode cX12_split 492 = .ok (.iload 7, 2) := by decide +kernel
theorem dX12_split_494 : decode cX12_split 494 = .ok (.invokevirtual 101, 3) := by decide +kernel
theorem dX12_split_497 : decode cX12_split 497 = .ok (.iload_n 2, 1) := by decide +kernel
theorem dX12_split_498 : decode cX12_split 498 = .ok (.if_icmp .ne 80, 3) := by decide +kernel
theorem dX12_split_501 : decode cX12_split 501 = .ok (.aload_n 0, 1) := by decide +kernel
theorem dX12_split_502 : decode cX12_split 502 = .ok (.getfield 7, 3) := by decide +kernel
theorem dX12_split_505 : decode cX12_split 505 = .ok (.sipush 770, 3) := by decide +kernel
theorem dX12_split_508 : decode cX12_split 508 = .ok (.iload 7, 2) := by decide +kernel
theorem dX12_split_510 : decode cX12_split 510 = .ok (.iadd, 1) := by decide +kernel
theorem dX12_split_511 : decode cX12_split 511 = .ok (.aload_n 0, 1) := by decide +kernel
theorem dX12_split_512 : decode cX12_split 512 = .ok (.getfield 7, 3) := by decide +kernel
theorem dX12_split_515 : decode cX12_split 515 = .ok (.sipush 770, 3) := by decide +kernel
theorem dX12_split_518 : decode cX12_split 518 = .ok (.iload 7, 2) := by decide +kernel
theorem dX12_split_520 : decode cX12_split 520 = .ok (.iadd, 1) := by decide +kernel
theorem dX12_split_521 : decode cX12_split 521 = .ok (.laload, 1) := by decide +kernel
theorem dX12_split_522 : decode cX12_split 522 = .ok (.lload_n 3, 1) := by decide +kernel
theorem dX12_split_523 : decode cX12_split 523 = .ok (.lmul, 1) := by decide +kernel
theorem dX12_split_524 : decode cX12_split 524 = .ok (.lload 5, 2) := by decide +kernel
theorem dX12_split_526 : decode cX12_split 526 = .ok (.ldiv, 1) := by decide +kernel
theorem dX12_split_527 : decode cX12_split 527 = .ok (.lastore, 1) := by decide +kernel
theorem dX12_split_528 : decode cX12_split 528 = .ok (.aload_n 0, 1) := by decide +kernel
theorem dX12_split_529 : decode cX12_split 529 = .ok (.getfield 7, 3) := by decide +kernel
theorem dX12_split_532 : decode cX12_split 532 = .ok (.sipush 830, 3) := by decide +kernel
theorem dX12_split_535 : decode cX12_split 535 = .ok (.iload 7, 2) := by decide +kernel
theorem dX12_split_537 : decode cX12_split 537 = .ok (.iadd, 1) := by decide +kernel
theorem dX12_split_538 : decode cX12_split 538 = .ok (.aload_n 0, 1) := by decide +kernel
theorem dX12_split_539 : decode cX12_split 539 = .ok (.getfield 7, 3) := by decide +kernel
theorem dX12_split_542 : decode cX12_split 542 = .ok (.sipush 830, 3) := by decide +kernel
theorem dX12_split_545 : decode cX12_split 545 = .ok (.iload 7, 2) := by decide +kernel
theorem dX12_split_547 : decode cX12_split 547 = .ok (.iadd, 1) := by decide +kernel
theorem dX12_split_548 : decode cX12_split 548 = .ok (.laload, 1) := by decide +kernel
theorem dX12_split_549 : decode cX12_split 549 = .ok (.lload_n 3, 1) := by decide +kernel
theorem dX12_split_550 : decode cX12_split 550 = .ok (.lmul, 1) := by decide +kernel
theorem dX12_split_551 : decode cX12_split 551 = .ok (.lload 5, 2) := by decide +kernel
theorem dX12_split_553 : decode cX12_split 553 = .ok (.ldiv, 1) := by decide +kernel
theorem dX12_split_554 : decode cX12_split 554 = .ok (.lastore, 1) := by decide +kernel
theorem dX12_split_555 : decode cX12_split 555 = .ok (.aload_n 0, 1) := by decide +kernel
theorem dX12_split_556 : decode cX12_split 556 = .ok (.getfield 7, 3) := by decide +kernel
theorem dX12_split_559 : decode cX12_split 559 = .ok (.sipush 770, 3) := by decide +kernel
theorem dX12_split_562 : decode cX12_split 562 = .ok (.iload 7, 2) := by decide +kernel
theorem dX12_split_564 : decode cX12_split 564 = .ok (.iadd, 1) := by decide +kernel
theorem dX12_split_565 : decode cX12_split 565 = .ok (.laload, 1) := by decide +kernel
theorem dX12_split_566 : decode cX12_split 566 = .ok (.lconst 0, 1) := by decide +kernel
theorem dX12_split_567 : decode cX12_split 567 = .ok (.lcmp, 1) := by decide +kernel
theorem dX12_split_568 : decode cX12_split 568 = .ok (.ifCond .ne 10, 3) := by decide +kernel
theorem dX12_split_571 : decode cX12_split 571 = .ok (.aload_n 0, 1) := by decide +kernel
theorem dX12_split_572 : decode cX12_split 572 = .ok (.iload 7, 2) := by decide +kernel
theorem dX12_split_574 : decode cX12_split 574 = .ok (.iconst 2, 1) := by decide +kernel
theorem dX12_split_575 : decode cX12_split 575 = .ok (.invokevirtual 122, 3) := by decide +kernel
theorem dX12_split_578 : decode cX12_split 578 = .ok (.iinc 7 1, 3) := by decide +kernel
theorem dX12_split_581 : decode cX12_split 581 = .ok (.goto (-121), 3) := by decide +kernel
theorem dX12_split_584 : decode cX12_split 584 = .ok (.return_, 1) := by decide +kernel
