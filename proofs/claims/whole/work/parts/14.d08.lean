theorem dX12_inSet_0 : decode cX12_inSet 0 = .ok (.aload_n 0, 1) := by decide +kernel
theorem dX12_inSet_1 : decode cX12_inSet 1 = .ok (.getfield 7, 3) := by decide +kernel
theorem dX12_inSet_4 : decode cX12_inSet 4 = .ok (.sipush 870, 3) := by decide +kernel
theorem dX12_inSet_7 : decode cX12_inSet 7 = .ok (.iload_n 2, 1) := by decide +kernel
theorem dX12_inSet_8 : decode cX12_inSet 8 = .ok (.iadd, 1) := by decide +kernel
theorem dX12_inSet_9 : decode cX12_inSet 9 = .ok (.laload, 1) := by decide +kernel
theorem dX12_inSet_10 : decode cX12_inSet 10 = .ok (.lconst 1, 1) := by decide +kernel
theorem dX12_inSet_11 : decode cX12_inSet 11 = .ok (.lcmp, 1) := by decide +kernel
theorem dX12_inSet_12 : decode cX12_inSet 12 = .ok (.ifCond .eq 16, 3) := by decide +kernel
theorem dX12_inSet_15 : decode cX12_inSet 15 = .ok (.aload_n 0, 1) := by decide +kernel
theorem dX12_inSet_16 : decode cX12_inSet 16 = .ok (.iload_n 1, 1) := by decide +kernel
theorem dX12_inSet_17 : decode cX12_inSet 17 = .ok (.iload_n 2, 1) := by decide +kernel
theorem dX12_inSet_18 : decode cX12_inSet 18 = .ok (.invokevirtual 138, 3) := by decide +kernel
theorem dX12_inSet_21 : decode cX12_inSet 21 = .ok (.ifCond .eq 7, 3) := by decide +kernel
theorem dX12_inSet_24 : decode cX12_inSet 24 = .ok (.iconst 1, 1) := by decide +kernel
theorem dX12_inSet_25 : decode cX12_inSet 25 = .ok (.goto 4, 3) := by decide +kernel
theorem dX12_inSet_28 : decode cX12_inSet 28 = .ok (.iconst 0, 1) := by decide +kernel
theorem dX12_inSet_29 : decode cX12_inSet 29 = .ok (.ireturn, 1) := by decide +kernel
theorem dX12_keepsLinks_0 : decode cX12_keepsLinks 0 = .ok (.iconst 1, 1) := by decide +kernel
theorem dX12_keepsLinks_1 : decode cX12_keepsLinks 1 = .ok (.istore_n 2, 1) := by decide +kernel
theorem dX12_keepsLinks_2 : decode cX12_keepsLinks 2 = .ok (.iconst 0, 1) := by decide +kernel
theorem dX12_keepsLinks_3 : decode cX12_keepsLinks 3 = .ok (.istore_n 3, 1) := by decide +kernel
theorem dX12_keepsLinks_4 : decode cX12_keepsLinks 4 = .ok (.iload_n 3, 1) := by decide +kernel
theorem dX12_keepsLinks_5 : decode cX12_keepsLinks 5 = .ok (.i2l, 1) := by decide +kernel
theorem dX12_keepsLinks_6 : decode cX12_keepsLinks 6 = .ok (.aload_n 0, 1) := by decide +kernel
theorem dX12_keepsLinks_7 : decode cX12_keepsLinks 7 = .ok (.getfield 7, 3) := by decide +kernel
theorem dX12_keepsLinks_10 : decode cX12_keepsLinks 10 = .ok (.sipush 1544, 3) := by decide +kernel
theorem dX12_keepsLinks_13 : decode cX12_keepsLinks 13 = .ok (.laload, 1) := by decide +kernel
theorem dX12_keepsLinks_14 : decode cX12_keepsLinks 14 = .ok (.lcmp, 1) := by decide +kernel
theorem dX12_keepsLinks_15 : decode cX12_keepsLinks 15 = .ok (.ifCond .ge 106, 3) := by decide +kernel
theorem dX12_keepsLinks_18 : decode cX12_keepsLinks 18 = .ok (.aload_n 0, 1) := by decide +kernel
theorem dX12_keepsLinks_19 : decode cX12_keepsLinks 19 = .ok (.getfield 7, 3) := by decide +kernel
theorem dX12_keepsLinks_22 : decode cX12_keepsLinks 22 = .ok (.sipush 890, 3) := by decide +kernel
theorem dX12_keepsLinks_25 : decode cX12_keepsLinks 25 = .ok (.iload_n 3, 1) := by decide +kernel
theorem dX12_keepsLinks_26 : decode cX12_keepsLinks 26 = .ok (.iadd, 1) := by decide +kernel
theorem dX12_keepsLinks_27 : decode cX12_keepsLinks 27 = .ok (.laload, 1) := by decide +kernel
theorem dX12_keepsLinks_28 : decode cX12_keepsLinks 28 = .ok (.l2i, 1) := by decide +kernel
theorem dX12_keepsLinks_29 : decode cX12_keepsLinks 29 = .ok (.istore 4, 2) := by decide +kernel
theorem dX12_keepsLinks_31 : decode cX12_keepsLinks 31 = .ok (.aload_n 0, 1) := by decide +kernel
theorem dX12_keepsLinks_32 : decode cX12_keepsLinks 32 = .ok (.getfield 7, 3) := by decide +kernel
theorem dX12_keepsLinks_35 : decode cX12_keepsLinks 35 = .ok (.sipush 900, 3) := by decide +kernel
theorem dX12_keepsLinks_38 : decode cX12_keepsLinks 38 = .ok (.iload_n 3, 1) := by decide +kernel
theorem dX12_keepsLinks_39 : decode cX12_keepsLinks 39 = .ok (.iadd, 1) := by decide +kernel
theorem dX12_keepsLinks_40 : decode cX12_keepsLinks 40 = .ok (.laload, 1) := by decide +kernel
theorem dX12_keepsLinks_41 : decode cX12_keepsLinks 41 = .ok (.l2i, 1) := by decide +kernel
theorem dX12_keepsLinks_42 : decode cX12_keepsLinks 42 = .ok (.istore 5, 2) := by decide +kernel
theorem dX12_keepsLinks_44 : decode cX12_keepsLinks 44 = .ok (.iload_n 2, 1) := by decide +kernel
theorem dX12_keepsLinks_45 : decode cX12_keepsLinks 45 = .ok (.aload_n 0, 1) := by decide +kernel
theorem dX12_keepsLinks_46 : decode cX12_keepsLinks 46 = .ok (.iload_n 1, 1) := by decide +kernel
theorem dX12_keepsLinks_47 : decode cX12_keepsLinks 47 = .ok (.iload 4, 2) := by decide +kernel
theorem dX12_keepsLinks_49 : decode cX12_keepsLinks 49 = .ok (.invokevirtual 142, 3) := by decide +kernel
theorem dX12_keepsLinks_52 : decode cX12_keepsLinks 52 = .ok (.ifCond .eq 13, 3) := by decide +kernel
theorem dX12_keepsLinks_55 : decode cX12_keepsLinks 55 = .ok (.aload_n 0, 1) := by decide +kernel
theorem dX12_keepsLinks_56 : decode cX12_keepsLinks 56 = .ok (.iload_n 1, 1) := by decide +kernel
theorem dX12_keepsLinks_57 : decode cX12_keepsLinks 57 = .ok (.iload 5, 2) := by decide +kernel
theorem dX12_keepsLinks_59 : decode cX12_keepsLinks 59 = .ok (.invokevirtual 138, 3) := by decide +kernel
theorem dX12_keepsLinks_62 : decode cX12_keepsLinks 62 = .ok (.ifCond .eq 7, 3) := by decide +kernel
theorem dX12_keepsLinks_65 : decode cX12_keepsLinks 65 = .ok (.iconst 1, 1) := by decide +kernel
theorem dX12_keepsLinks_66 : decode cX12_keepsLinks 66 = .ok (.goto 4, 3) := by decide +kernel
theorem dX12_keepsLinks_69 : decode cX12_keepsLinks 69 = .ok (.iconst 0, 1) := by decide +kernel
theorem dX12_keepsLinks_70 : decode cX12_keepsLinks 70 = .ok (.iand, 1) := by decide +kernel
theorem dX12_keepsLinks_71 : decode cX12_keepsLinks 71 = .ok (.istore_n 2, 1) := by decide +kernel
theorem dX12_keepsLinks_72 : decode cX12_keepsLinks 72 = .ok (.iload_n 2, 1) := by decide +kernel
theorem dX12_keepsLinks_73 : decode cX12_keepsLinks 73 = .ok (.aload_n 0, 1) := by decide +kernel
theorem dX12_keepsLinks_74 : decode cX12_keepsLinks 74 = .ok (.getfield 7, 3) := by decide +kernel
theorem dX12_keepsLinks_77 : decode cX12_keepsLinks 77 = .ok (.sipush 910, 3) := by decide +kernel
theorem dX12_keepsLinks_80 : decode cX12_keepsLinks 80 = .ok (.iload_n 3, 1) := by decide +kernel
theorem dX12_keepsLinks_81 : decode cX12_keepsLinks 81 = .ok (.iadd, 1) := by decide +kernel
theorem dX12_keepsLinks_82 : decode cX12_keepsLinks 82 = .ok (.laload, 1) := by decide +kernel
theorem dX12_keepsLinks_83 : decode cX12_keepsLinks 83 = .ok (.lconst 0, 1) := by decide +kernel
theorem dX12_keepsLinks_84 : decode cX12_keepsLinks 84 = .ok (.lcmp, 1) := by decide +kernel
theorem dX12_keepsLinks_85 : decode cX12_keepsLinks 85 = .ok (.ifCond .eq 23, 3) := by decide +kernel
theorem dX12_keepsLinks_88 : decode cX12_keepsLinks 88 = .ok (.aload_n 0, 1) := by decide +kernel
theorem dX12_keepsLinks_89 : decode cX12_keepsLinks 89 = .ok (.iload_n 1, 1) := by decide +kernel
theorem dX12_keepsLinks_90 : decode cX12_keepsLinks 90 = .ok (.iload 5, 2) := by decide +kernel
theorem dX12_keepsLinks_92 : decode cX12_keepsLinks 92 = .ok (.invokevirtual 142, 3) := by decide +kernel
theorem dX12_keepsLinks_95 : decode cX12_keepsLinks 95 = .ok (.ifCond .eq 13, 3) := by decide +kernel
theorem dX12_keepsLinks_98 : decode cX12_keepsLinks 98 = .ok (.aload_n 0, 1) := by decide +kernel
theorem dX12_keepsLinks_99 : decode cX12_keepsLinks 99 = .ok (.iload_n 1, 1) := by decide +kernel
theorem dX12_keepsLinks_100 : decode cX12_keepsLinks 100 = .ok (.iload 4, 2) := by decide +kernel
theorem dX12_keepsLinks_102 : decode cX12_keepsLinks 102 = .ok (.invokevirtual 138, 3) := by decide +kernel
theorem dX12_keepsLinks_105 : decode cX12_keepsLinks 105 = .ok (.ifCond .eq 7, 3) := by decide +kernel
theorem dX12_keepsLinks_108 : decode cX12_keepsLinks 108 = .ok (.iconst 1, 1) := by decide +kernel
theorem dX12_keepsLinks_109 : decode cX12_keepsLinks 109 = .ok (.goto 4, 3) := by decide +kernel
theorem dX12_keepsLinks_112 : decode cX12_keepsLinks 112 = .ok (.iconst 0, 1) := by decide +kernel
theorem dX12_keepsLinks_113 : decode cX12_keepsLinks 113 = .ok (.iand, 1) := by decide +kernel
theorem dX12_keepsLinks_114 : decode cX12_keepsLinks 114 = .ok (.istore_n 2, 1) := by decide +kernel
theorem dX12_keepsLinks_115 : decode cX12_keepsLinks 115 = .ok (.iinc 3 1, 3) := by decide +kernel
theorem dX12_keepsLinks_118 : decode cX12_keepsLinks 118 = .ok (.goto (-114), 3) := by decide +kernel
theorem dX12_keepsLinks_121 : decode cX12_keepsLinks 121 = .ok (.iload_n 2, 1) := by decide +kernel
theorem dX12_keepsLinks_122 : decode cX12_keepsLinks 122 = .ok (.ireturn, 1) := by decide +kernel
theorem dX12_moveAll_0 : decode cX12_moveAll 0 = .ok (.iconst 0, 1) := by decide +kernel
theorem dX12_moveAll_1 : decode cX12_moveAll 1 = .ok (.istore_n 3, 1) := by decide +kernel
theorem dX12_moveAll_2 : decode cX12_moveAll 2 = .ok (.iload_n 3, 1) := by decide +kernel
theorem dX12_moveAll_3 : decode cX12_moveAll 3 = .ok (.aload_n 0, 1) := by decide +kernel
theorem dX12_moveAll_4 : decode cX12_moveAll 4 = .ok (.getfield 129, 3) := by decide +kernel
theorem dX12_moveAll_7 : decode cX12_moveAll 7 = .ok (.if_icmp .ge 64, 3) := by decide +kernel
theorem dX12_moveAll_10 : decode cX12_moveAll 10 = .ok (.iload_n 1, 1) := by decide +kernel
theorem dX12_moveAll_11 : decode cX12_moveAll 11 = .ok (.iload_n 3, 1) := by decide +kernel
theorem dX12_moveAll_12 : decode cX12_moveAll 12 = .ok (.ishr, 1) := by decide +kernel
theorem dX12_moveAll_13 : decode cX12_moveAll 13 = .ok (.iconst 1, 1) := by decide +kernel
theorem dX12_moveAll_14 : decode cX12_moveAll 14 = .ok (.iand, 1) := by decide +kernel
theorem dX12_moveAll_15 : decode cX12_moveAll 15 = .ok (.iconst 1, 1) := by decide +kernel
theorem dX12_moveAll_16 : decode cX12_moveAll 16 = .ok (.if_icmp .ne 49, 3) := by decide +kernel
theorem dX12_moveAll_19 : decode cX12_moveAll 19 = .ok (.aload_n 0, 1) := by decide +kernel
theorem dX12_moveAll_20 : decode cX12_moveAll 20 = .ok (.aload_n 0, 1) := by decide +kernel
theorem dX12_moveAll_21 : decode cX12_moveAll 21 = .ok (.getfield 20, 3) := by decide +kernel
theorem dX12_moveAll_24 : decode cX12_moveAll 24 = .ok (.iload_n 3, 1) := by decide +kernel
theorem dX12_moveAll_25 : decode cX12_moveAll 25 = .ok (.iaload, 1) := by decide +kernel
theorem dX12_moveAll_26 : decode cX12_moveAll 26 = .ok (.iload_n 2, 1) := by decide +kernel
theorem dX12_moveAll_27 : decode cX12_moveAll 27 = .ok (.i2l, 1) := by decide +kernel
theorem dX12_moveAll_28 : decode cX12_moveAll 28 = .ok (.aload_n 0, 1) := by decide +kernel
theorem dX12_moveAll_29 : decode cX12_moveAll 29 = .ok (.getfield 7, 3) := by decide +kernel
theorem dX12_moveAll_32 : decode cX12_moveAll 32 = .ok (.sipush 770, 3) := by decide +kernel
theorem dX12_moveAll_35 : decode cX12_moveAll 35 = .ok (.aload_n 0, 1) := by decide +kernel
theorem dX12_moveAll_36 : decode cX12_moveAll 36 = .ok (.getfield 20, 3) := by decide +kernel
theorem dX12_moveAll_39 : decode cX12_moveAll 39 = .ok (.iload_n 3, 1) := by decide +kernel
theorem dX12_moveAll_40 : decode cX12_moveAll 40 = .ok (.iaload, 1) := by decide +kernel
theorem dX12_moveAll_41 : decode cX12_moveAll 41 = .ok (.iadd, 1) := by decide +kernel
theorem dX12_moveAll_42 : decode cX12_moveAll 42 = .ok (.laload, 1) := by decide +kernel
theorem dX12_moveAll_43 : decode cX12_moveAll 43 = .ok (.lmul, 1) := by decide +kernel
theorem dX12_moveAll_44 : decode cX12_moveAll 44 = .ok (.iload_n 2, 1) := by decide +kernel
theorem dX12_moveAll_45 : decode cX12_moveAll 45 = .ok (.i2l, 1) := by decide +kernel
theorem dX12_moveAll_46 : decode cX12_moveAll 46 = .ok (.aload_n 0, 1) := by decide +kernel
theorem dX12_moveAll_47 : decode cX12_moveAll 47 = .ok (.getfield 7, 3) := by decide +kernel
theorem dX12_moveAll_50 : decode cX12_moveAll 50 = .ok (.sipush 790, 3) := by decide +kernel
theorem dX12_moveAll_53 : decode cX12_moveAll 53 = .ok (.aload_n 0, 1) := by decide +kernel
theorem dX12_moveAll_54 : decode cX12_moveAll 54 = .ok (.getfield 20, 3) := by decide +kernel
theorem dX12_moveAll_57 : decode cX12_moveAll 57 = .ok (.iload_n 3, 1) := by decide +kernel
theorem dX12_moveAll_58 : decode cX12_moveAll 58 = .ok (.iaload, 1) := by decide +kernel
theorem dX12_moveAll_59 : decode cX12_moveAll 59 = .ok (.iadd, 1) := by decide +kernel
theorem dX12_moveAll_60 : decode cX12_moveAll 60 = .ok (.laload, 1) := by decide +kernel
theorem dX12_moveAll_61 : decode cX12_moveAll 61 = .ok (.lmul, 1) := by decide +kernel
theorem dX12_moveAll_62 : decode cX12_moveAll 62 = .ok (.invokevirtual 145, 3) := by decide +kernel
theorem dX12_moveAll_65 : decode cX12_moveAll 65 = .ok (.iinc 3 1, 3) := by decide +kernel
theorem dX12_moveAll_68 : decode cX12_moveAll 68 = .ok (.goto (-66), 3) := by decide +kernel
theorem dX12_moveAll_71 : decode cX12_moveAll 71 = .ok (.return_, 1) := by decide +kernel
theorem dX12_can_0 : decode cX12_can 0 = .ok (.aload_n 0, 1) := by decide +kernel
theorem dX12_can_1 : decode cX12_can 1 = .ok (.iload_n 1, 1) := by decide +kernel
theorem dX12_can_2 : decode cX12_can 2 = .ok (.invokevirtual 149, 3) := by decide +kernel
theorem dX12_can_5 : decode cX12_can 5 = .ok (.istore_n 2, 1) := by decide +kernel
theorem dX12_can_6 : decode cX12_can 6 = .ok (.aload_n 0, 1) := by decide +kernel
theorem dX12_can_7 : decode cX12_can 7 = .ok (.iload_n 1, 1) := by decide +kernel
theorem dX12_can_8 : decode cX12_can 8 = .ok (.iconst 1, 1) := by decide +kernel
theorem dX12_can_9 : decode cX12_can 9 = .ok (.invokevirtual 152, 3) := by decide +kernel
theorem dX12_can_12 : decode cX12_can 12 = .ok (.iconst 0, 1) := by decide +kernel
theorem dX12_can_13 : decode cX12_can 13 = .ok (.istore_n 3, 1) := by decide +kernel
theorem dX12_can_14 : decode cX12_can 14 = .ok (.iload_n 3, 1) := by decide +kernel
theorem dX12_can_15 : decode cX12_can 15 = .ok (.aload_n 0, 1) := by decide +kernel
theorem dX12_can_16 : decode cX12_can 16 = .ok (.getfield 129, 3) := by decide +kernel
theorem dX12_can_19 : decode cX12_can 19 = .ok (.if_icmp .ge 74, 3) := by decide +kernel
theorem dX12_can_22 : decode cX12_can 22 = .ok (.iload_n 2, 1) := by decide +kernel
theorem dX12_can_23 : decode cX12_can 23 = .ok (.ifCond .eq 70, 3) := by decide +kernel
theorem dX12_can_26 : decode cX12_can 26 = .ok (.iload_n 1, 1) := by decide +kernel
theorem dX12_can_27 : decode cX12_can 27 = .ok (.iload_n 3, 1) := by decide +kernel
theorem dX12_can_28 : decode cX12_can 28 = .ok (.ishr, 1) := by decide +kernel
theorem dX12_can_29 : decode cX12_can 29 = .ok (.iconst 1, 1) := by decide +kernel
theorem dX12_can_30 : decode cX12_can 30 = .ok (.iand, 1) := by decide +kernel
theorem dX12_can_31 : decode cX12_can 31 = .ok (.iconst 1, 1) := by decide +kernel
theorem dX12_can_32 : decode cX12_can 32 = .ok (.if_icmp .ne 7, 3) := by decide +kernel
theorem dX12_can_35 : decode cX12_can 35 = .ok (.iconst 1, 1) := by decide +kernel
theorem dX12_can_36 : decode cX12_can 36 = .ok (.goto 4, 3) := by decide +kernel
theorem dX12_can_39 : decode cX12_can 39 = .ok (.iconst 0, 1) := by decide +kernel
theorem dX12_can_40 : decode cX12_can 40 = .ok (.istore 4, 2) := by decide +kernel
theorem dX12_can_42 : decode cX12_can 42 = .ok (.iload 4, 2) := by decide +kernel
theorem dX12_can_44 : decode cX12_can 44 = .ok (.ifCond .eq 37, 3) := by decide +kernel
theorem dX12_can_47 : decode cX12_can 47 = .ok (.aload_n 0, 1) := by decide +kernel
theorem dX12_can_48 : decode cX12_can 48 = .ok (.aload_n 0, 1) := by decide +kernel
theorem dX12_can_49 : decode cX12_can 49 = .ok (.aload_n 0, 1) := by decide +kernel
theorem dX12_can_50 : decode cX12_can 50 = .ok (.getfield 20, 3) := by decide +kernel
theorem dX12_can_53 : decode cX12_can 53 = .ok (.iload_n 3, 1) := by decide +kernel
theorem dX12_can_54 : decode cX12_can 54 = .ok (.iaload, 1) := by decide +kernel
theorem dX12_can_55 : decode cX12_can 55 = .ok (.invokevirtual 94, 3) := by decide +kernel
theorem dX12_can_58 : decode cX12_can 58 = .ok (.invokevirtual 85, 3) := by decide +kernel
theorem dX12_can_61 : decode cX12_can 61 = .ok (.ifCond .eq 24, 3) := by decide +kernel
theorem dX12_can_64 : decode cX12_can 64 = .ok (.aload_n 0, 1) := by decide +kernel
theorem dX12_can_65 : decode cX12_can 65 = .ok (.aload_n 0, 1) := by decide +kernel
theorem dX12_can_66 : decode cX12_can 66 = .ok (.aload_n 0, 1) := by decide +kernel
theorem dX12_can_67 : decode cX12_can 67 = .ok (.getfield 20, 3) := by decide +kernel
theorem dX12_can_70 : decode cX12_can 70 = .ok (.iload_n 3, 1) := by decide +kernel
theorem dX12_can_71 : decode cX12_can 71 = .ok (.iaload, 1) := by decide +kernel
theorem dX12_can_72 : decode cX12_can 72 = .ok (.invokevirtual 98, 3) := by decide +kernel
theorem dX12_can_75 : decode cX12_can 75 = .ok (.invokevirtual 85, 3) := by decide +kernel
theorem dX12_can_78 : decode cX12_can 78 = .ok (.ifCond .eq 7, 3) := by decide +kernel
theorem dX12_can_81 : decode cX12_can 81 = .ok (.iconst 1, 1) := by decide +kernel
theorem dX12_can_82 : decode cX12_can 82 = .ok (.goto 4, 3) := by decide +kernel
theorem dX12_can_85 : decode cX12_can 85 = .ok (.iconst 0, 1) := by decide +kernel
theorem dX12_can_86 : decode cX12_can 86 = .ok (.istore_n 2, 1) := by decide +kernel
theorem dX12_can_87 : decode cX12_can 87 = .ok (.iinc 3 1, 3) := by decide +kernel
theorem dX12_can_90 : decode cX12_can 90 = .ok (.goto (-76), 3) := by decide +kernel
theorem dX12_can_93 : decode cX12_can 93 = .ok (.aload_n 0, 1) := by decide +kernel
theorem dX12_can_94 : decode cX12_can 94 = .ok (.iload_n 1, 1) := by decide +kernel
theorem dX12_can_95 : decode cX12_can 95 = .ok (.iconst (-1), 1) := by decide +kernel
theorem dX12_can_96 : decode cX12_can 96 = .ok (.invokevirtual 152, 3) := by decide +kernel
theorem dX12_can_99 : decode cX12_can 99 = .ok (.iload_n 2, 1) := by decide +kernel
theorem dX12_can_100 : decode cX12_can 100 = .ok (.ireturn, 1) := by decide +kernel
theorem dX12_worthOf_0 : decode cX12_worthOf 0 = .ok (.lconst 0, 1) := by decide +kernel
theorem dX12_worthOf_1 : decode cX12_worthOf 1 = .ok (.lstore_n 2, 1) := by decide +kernel
theorem dX12_worthOf_2 : decode cX12_worthOf 2 = .ok (.iconst 0, 1) := by decide +kernel
theorem dX12_worthOf_3 : decode cX12_worthOf 3 = .ok (.istore 4, 2) := by decide +kernel
theorem dX12_worthOf_5 : decode cX12_worthOf 5 = .ok (.iload 4, 2) := by decide +kernel
theorem dX12_worthOf_7 : decode cX12_worthOf 7 = .ok (.aload_n 0, 1) := by decide +kernel
theorem dX12_worthOf_8 : decode cX12_worthOf 8 = .ok (.getfield 129, 3) := by decide +kernel
theorem dX12_worthOf_11 : decode cX12_worthOf 11 = .ok (.if_icmp .ge 54, 3) := by decide +kernel
theorem dX12_worthOf_14 : decode cX12_worthOf 14 = .ok (.lload_n 2, 1) := by decide +kernel
theorem dX12_worthOf_15 : decode cX12_worthOf 15 = .ok (.iload_n 1, 1) := by decide +kernel
theorem dX12_worthOf_16 : decode cX12_worthOf 16 = .ok (.iload 4, 2) := by decide +kernel
theorem dX12_worthOf_18 : decode cX12_worthOf 18 = .ok (.ishr, 1) := by decide +kernel
theorem dX12_worthOf_19 : decode cX12_worthOf 19 = .ok (.iconst 1, 1) := by decide +kernel
theorem dX12_worthOf_20 : decode cX12_worthOf 20 = .ok (.iand, 1) := by decide +kernel
theorem dX12_worthOf_21 : decode cX12_worthOf 21 = .ok (.iconst 1, 1) := by decide +kernel
theorem dX12_worthOf_22 : decode cX12_worthOf 22 = .ok (.if_icmp .ne 34, 3) := by decide +kernel
theorem dX12_worthOf_25 : decode cX12_worthOf 25 = .ok (.aload_n 0, 1) := by decide +kernel
theorem dX12_worthOf_26 : decode cX12_worthOf 26 = .ok (.getfield 7, 3) := by decide +kernel
theorem dX12_worthOf_29 : decode cX12_worthOf 29 = .ok (.sipush 790, 3) := by decide +kernel
theorem dX12_worthOf_32 : decode cX12_worthOf 32 = .ok (.aload_n 0, 1) := by decide +kernel
theorem dX12_worthOf_33 : decode cX12_worthOf 33 = .ok (.getfield 20, 3) := by decide +kernel
theorem dX12_worthOf_36 : decode cX12_worthOf 36 = .ok (.iload 4, 2) := by decide +kernel
theorem dX12_worthOf_38 : decode cX12_worthOf 38 = .ok (.iaload, 1) := by decide +kernel
theorem dX12_worthOf_39 : decode cX12_worthOf 39 = .ok (.iadd, 1) := by decide +kernel
theorem dX12_worthOf_40 : decode cX12_worthOf 40 = .ok (.laload, 1) := by decide +kernel
theorem dX12_worthOf_41 : decode cX12_worthOf 41 = .ok (.aload_n 0, 1) := by decide +kernel
theorem dX12_worthOf_42 : decode cX12_worthOf 42 = .ok (.aload_n 0, 1) := by decide +kernel
theorem dX12_worthOf_43 : decode cX12_worthOf 43 = .ok (.getfield 20, 3) := by decide +kernel
theorem dX12_worthOf_46 : decode cX12_worthOf 46 = .ok (.iload 4, 2) := by decide +kernel
theorem dX12_worthOf_48 : decode cX12_worthOf 48 = .ok (.iaload, 1) := by decide +kernel
theorem dX12_worthOf_49 : decode cX12_worthOf 49 = .ok (.invokevirtual 155, 3) := by decide +kernel
theorem dX12_worthOf_52 : decode cX12_worthOf 52 = .ok (.ladd, 1) := by decide +kernel
theorem dX12_worthOf_53 : decode cX12_worthOf 53 = .ok (.goto 4, 3) := by decide +kernel
theorem dX12_worthOf_56 : decode cX12_worthOf 56 = .ok (.lconst 0, 1) := by decide +kernel
theorem dX12_worthOf_57 : decode cX12_worthOf 57 = .ok (.ladd, 1) := by decide +kernel
theorem dX12_worthOf_58 : decode cX12_worthOf 58 = .ok (.lstore_n 2, 1) := by decide +kernel
theorem dX12_worthOf_59 : decode cX12_worthOf 59 = .ok (.iinc 4 1, 3) := by decide +kernel
theorem dX12_worthOf_62 : decode cX12_worthOf 62 = .ok (.goto (-57), 3) := by decide +kernel
theorem dX12_worthOf_65 : decode cX12_worthOf 65 = .ok (.lload_n 2, 1) := by decide +kernel
theorem dX12_worthOf_66 : decode cX12_worthOf 66 = .ok (.lreturn, 1) := by decide +kernel
theorem dX12_count_0 : decode cX12_count 0 = .ok (.iconst 0, 1) := by decide +kernel
theorem dX12_count_1 : decode cX12_count 1 = .ok (.istore_n 2, 1) := by decide +kernel
theorem dX12_count_2 : decode cX12_count 2 = .ok (.iconst 0, 1) := by decide +kernel
theorem dX12_count_3 : decode cX12_count 3 = .ok (.istore_n 3, 1) := by decide +kernel
theorem dX12_count_4 : decode cX12_count 4 = .ok (.iload_n 3, 1) := by decide +kernel
theorem dX12_count_5 : decode cX12_count 5 = .ok (.bipush 10, 2) := by decide +kernel
theorem dX12_count_7 : decode cX12_count 7 = .ok (.if_icmp .ge 17, 3) := by decide +kernel
theorem dX12_count_10 : decode cX12_count 10 = .ok (.iload_n 2, 1) := by decide +kernel
theorem dX12_count_11 : decode cX12_count 11 = .ok (.iload_n 1, 1) := by decide +kernel
theorem dX12_count_12 : decode cX12_count 12 = .ok (.iload_n 3, 1) := by decide +kernel
theorem dX12_count_13 : decode cX12_count 13 = .ok (.ishr, 1) := by decide +kernel
theorem dX12_count_14 : decode cX12_count 14 = .ok (.iconst 1, 1) := by decide +kernel
theorem dX12_count_15 : decode cX12_count 15 = .ok (.iand, 1) := by decide +kernel
theorem dX12_count_16 : decode cX12_count 16 = .ok (.iadd, 1) := by decide +kernel
theorem dX12_count_17 : decode cX12_count 17 = .ok (.istore_n 2, 1) := by decide +kernel
theorem dX12_count_18 : decode cX12_count 18 = .ok (.iinc 3 1, 3) := by decide +kernel
theorem dX12_count_21 : decode cX12_count 21 = .ok (.goto (-17), 3) := by decide +kernel
theorem dX12_count_24 : decode cX12_count 24 = .ok (.iload_n 2, 1) := by decide +kernel
theorem dX12_count_25 : decode cX12_count 25 = .ok (.ireturn, 1) := by decide +kernel
theorem dX12_first_0 : decode cX12_first 0 = .ok (.iload_n 1, 1) := by decide +kernel
theorem dX12_first_1 : decode cX12_first 1 = .ok (.iload_n 2, 1) := by decide +kernel
theorem dX12_first_2 : decode cX12_first 2 = .ok (.ixor, 1) := by decide +kernel
theorem dX12_first_3 : decode cX12_first 3 = .ok (.istore_n 3, 1) := by decide +kernel
theorem dX12_first_4 : decode cX12_first 4 = .ok (.iconst 0, 1) := by decide +kernel
theorem dX12_first_5 : decode cX12_first 5 = .ok (.istore 4, 2) := by decide +kernel
theorem dX12_first_7 : decode cX12_first 7 = .ok (.iload 4, 2) := by decide +kernel
theorem dX12_first_9 : decode cX12_first 9 = .ok (.bipush 10, 2) := by decide +kernel
theorem dX12_first_11 : decode cX12_first 11 = .ok (.if_icmp .ge 18, 3) := by decide +kernel
theorem dX12_first_14 : decode cX12_first 14 = .ok (.iload_n 3, 1) := by decide +kernel
theorem dX12_first_15 : decode cX12_first 15 = .ok (.iload 4, 2) := by decide +kernel
theorem dX12_first_17 : decode cX12_first 17 = .ok (.ishr, 1) := by decide +kernel
theorem dX12_first_18 : decode cX12_first 18 = .ok (.iconst 1, 1) := by decide +kernel
theorem dX12_first_19 : decode cX12_first 19 = .ok (.iand, 1) := by decide +kernel
theorem dX12_first_20 : decode cX12_first 20 = .ok (.ifCond .ne 9, 3) := by decide +kernel
theorem dX12_first_23 : decode cX12_first 23 = .ok (.iinc 4 1, 3) := by decide +kernel
theorem dX12_first_26 : decode cX12_first 26 = .ok (.goto (-19), 3) := by decide +kernel
theorem dX12_first_29 : decode cX12_first 29 = .ok (.iload_n 1, 1) := by decide +kernel
theorem dX12_first_30 : decode cX12_first 30 = .ok (.iload 4, 2) := by decide +kernel
theorem dX12_first_32 : decode cX12_first 32 = .ok (.ishr, 1) := by decide +kernel
theorem dX12_first_33 : decode cX12_first 33 = .ok (.iconst 1, 1) := by decide +kernel
theorem dX12_first_34 : decode cX12_first 34 = .ok (.iand, 1) := by decide +kernel
theorem dX12_first_35 : decode cX12_first 35 = .ok (.iconst 1, 1) := by decide +kernel
theorem dX12_first_36 : decode cX12_first 36 = .ok (.if_icmp .ne 7, 3) := by decide +kernel
theorem dX12_first_39 : decode cX12_first 39 = .ok (.iconst 1, 1) := by decide +kernel
theorem dX12_first_40 : decode cX12_first 40 = .ok (.goto 4, 3) := by decide +kernel
theorem dX12_first_43 : decode cX12_first 43 = .ok (.iconst 0, 1) := by decide +kernel
theorem dX12_first_44 : decode cX12_first 44 = .ok (.ireturn, 1) := by decide +kernel
theorem dX12_bestSet_0 : decode cX12_bestSet 0 = .ok (.iconst 0, 1) := by decide +kernel
theorem dX12_bestSet_1 : decode cX12_bestSet 1 = .ok (.istore_n 1, 1) := by decide +kernel
theorem dX12_bestSet_2 : decode cX12_bestSet 2 = .ok (.iconst 1, 1) := by decide +kernel
theorem dX12_bestSet_3 : decode cX12_bestSet 3 = .ok (.istore_n 2, 1) := by decide +kernel
theorem dX12_bestSet_4 : decode cX12_bestSet 4 = .ok (.iload_n 2, 1) := by decide +kernel
theorem dX12_bestSet_5 : decode cX12_bestSet 5 = .ok (.iconst 1, 1) := by decide +kernel
theorem dX12_bestSet_6 : decode cX12_bestSet 6 = .ok (.aload_n 0, 1) := by decide +kernel
theorem dX12_bestSet_7 : decode cX12_bestSet 7 = .ok (.getfield 129, 3) := by decide +kernel
theorem dX12_bestSet_10 : decode cX12_bestSet 10 = .ok (.ishl, 1) := by decide +kernel
theorem dX12_bestSet_11 : decode cX12_bestSet 11 = .ok (.if_icmp .ge 91, 3) := by decide +kernel
theorem dX12_bestSet_14 : decode cX12_bestSet 14 = .ok (.aload_n 0, 1) := by decide +kernel
theorem dX12_bestSet_15 : decode cX12_bestSet 15 = .ok (.iload_n 2, 1) := by decide +kernel
theorem dX12_bestSet_16 : decode cX12_bestSet 16 = .ok (.invokevirtual 158, 3) := by decide +kernel
theorem dX12_bestSet_19 : decode cX12_bestSet 19 = .ok (.aload_n 0, 1) := by decide +kernel
theorem dX12_bestSet_20 : decode cX12_bestSet 20 = .ok (.iload_n 1, 1) := by decide +kernel
theorem dX12_bestSet_21 : decode cX12_bestSet 21 = .ok (.invokevirtual 158, 3) := by decide +kernel
theorem dX12_bestSet_24 : decode cX12_bestSet 24 = .ok (.lsub, 1) := by decide +kernel
theorem dX12_bestSet_25 : decode cX12_bestSet 25 = .ok (.lstore_n 3, 1) := by decide +kernel
theorem dX12_bestSet_26 : decode cX12_bestSet 26 = .ok (.aload_n 0, 1) := by decide +kernel
theorem dX12_bestSet_27 : decode cX12_bestSet 27 = .ok (.iload_n 2, 1) := by decide +kernel
theorem dX12_bestSet_28 : decode cX12_bestSet 28 = .ok (.invokevirtual 161, 3) := by decide +kernel
theorem dX12_bestSet_31 : decode cX12_bestSet 31 = .ok (.aload_n 0, 1) := by decide +kernel
theorem dX12_bestSet_32 : decode cX12_bestSet 32 = .ok (.iload_n 1, 1) := by decide +kernel
theorem dX12_bestSet_33 : decode cX12_bestSet 33 = .ok (.invokevirtual 161, 3) := by decide +kernel
theorem dX12_bestSet_36 : decode cX12_bestSet 36 = .ok (.isub, 1) := by decide +kernel
theorem dX12_bestSet_37 : decode cX12_bestSet 37 = .ok (.istore 5, 2) := by decide +kernel
theorem dX12_bestSet_39 : decode cX12_bestSet 39 = .ok (.lload_n 3, 1) := by decide +kernel
theorem dX12_bestSet_40 : decode cX12_bestSet 40 = .ok (.lconst 0, 1) := by decide +kernel
theorem dX12_bestSet_41 : decode cX12_bestSet 41 = .ok (.lcmp, 1) := by decide +kernel
theorem dX12_bestSet_42 : decode cX12_bestSet 42 = .ok (.ifCond .gt 28, 3) := by decide +kernel
theorem dX12_bestSet_45 : decode cX12_bestSet 45 = .ok (.lload_n 3, 1) := by decide +kernel
theorem dX12_bestSet_46 : decode cX12_bestSet 46 = .ok (.lconst 0, 1) := by decide +kernel
theorem dX12_bestSet_47 : decode cX12_bestSet 47 = .ok (.lcmp, 1) := by decide +kernel
theorem dX12_bestSet_48 : decode cX12_bestSet 48 = .ok (.ifCond .ne 26, 3) := by decide +kernel
theorem dX12_bestSet_51 : decode cX12_bestSet 51 = .ok (.iload 5, 2) := by decide +kernel
theorem dX12_bestSet_53 : decode cX12_bestSet 53 = .ok (.ifCond .gt 17, 3) := by decide +kernel
theorem dX12_bestSet_56 : decode cX12_bestSet 56 = .ok (.iload 5, 2) := by decide +kernel
theorem dX12_bestSet_58 : decode cX12_bestSet 58 = .ok (.ifCond .ne 16, 3) := by decide +kernel
theorem dX12_bestSet_61 : decode cX12_bestSet 61 = .ok (.aload_n 0, 1) := by decide +kernel
theorem dX12_bestSet_62 : decode cX12_bestSet 62 = .ok (.iload_n 2, 1) := by decide +kernel
theorem dX12_bestSet_63 : decode cX12_bestSet 63 = .ok (.iload_n 1, 1) := by decide +kernel
theorem dX12_bestSet_64 : decode cX12_bestSet 64 = .ok (.invokevirtual 164, 3) := by decide +kernel
theorem dX12_bestSet_67 : decode cX12_bestSet 67 = .ok (.ifCond .eq 7, 3) := by decide +kernel
theorem dX12_bestSet_70 : decode cX12_bestSet 70 = .ok (.iconst 1, 1) := by decide +kernel
theorem dX12_bestSet_71 : decode cX12_bestSet 71 = .ok (.goto 4, 3) := by decide +kernel
theorem dX12_bestSet_74 : decode cX12_bestSet 74 = .ok (.iconst 0, 1) := by decide +kernel
theorem dX12_bestSet_75 : decode cX12_bestSet 75 = .ok (.istore 6, 2) := by decide +kernel
theorem dX12_bestSet_77 : decode cX12_bestSet 77 = .ok (.iload 6, 2) := by decide +kernel
theorem dX12_bestSet_79 : decode cX12_bestSet 79 = .ok (.ifCond .eq 15, 3) := by decide +kernel
theorem dX12_bestSet_82 : decode cX12_bestSet 82 = .ok (.aload_n 0, 1) := by decide +kernel
theorem dX12_bestSet_83 : decode cX12_bestSet 83 = .ok (.iload_n 2, 1) := by decide +kernel
theorem dX12_bestSet_84 : decode cX12_bestSet 84 = .ok (.invokevirtual 167, 3) := by decide +kernel
theorem dX12_bestSet_87 : decode cX12_bestSet 87 = .ok (.ifCond .eq 7, 3) := by decide +kernel
theorem dX12_bestSet_90 : decode cX12_bestSet 90 = .ok (.iload_n 2, 1) := by decide +kernel
theorem dX12_bestSet_91 : decode cX12_bestSet 91 = .ok (.goto 4, 3) := by decide +kernel
theorem dX12_bestSet_94 : decode cX12_bestSet 94 = .ok (.iload_n 1, 1) := by decide +kernel
theorem dX12_bestSet_95 : decode cX12_bestSet 95 = .ok (.istore_n 1, 1) := by decide +kernel
theorem dX12_bestSet_96 : decode cX12_bestSet 96 = .ok (.iinc 2 1, 3) := by decide +kernel
theorem dX12_bestSet_99 : decode cX12_bestSet 99 = .ok (.goto (-95), 3) := by decide +kernel
theorem dX12_bestSet_102 : decode cX12_bestSet 102 = .ok (.iload_n 1, 1) := by decide +kernel
theorem dX12_bestSet_103 : decode cX12_bestSet 103 = .ok (.ireturn, 1) := by decide +kernel
theorem dX12_giveBack_0 : decode cX12_giveBack 0 = .ok (.iconst 0, 1) := by decide +kernel
theorem dX12_giveBack_1 : decode cX12_giveBack 1 = .ok (.istore_n 1, 1) := by decide +kernel
theorem dX12_giveBack_2 : decode cX12_giveBack 2 = .ok (.iload_n 1, 1) := by decide +kernel
theorem dX12_giveBack_3 : decode cX12_giveBack 3 = .ok (.i2l, 1) := by decide +kernel
theorem dX12_giveBack_4 : decode cX12_giveBack 4 = .ok (.aload_n 0, 1) := by decide +kernel
theorem dX12_giveBack_5 : decode cX12_giveBack 5 = .ok (.getfield 7, 3) := by decide +kernel
theorem dX12_giveBack_8 : decode cX12_giveBack 8 = .ok (.sipush 1545, 3) := by decide +kernel
theorem dX12_giveBack_11 : decode cX12_giveBack 11 = .ok (.laload, 1) := by decide +kernel
theorem dX12_giveBack_12 : decode cX12_giveBack 12 = .ok (.lcmp, 1) := by decide +kernel
theorem dX12_giveBack_13 : decode cX12_giveBack 13 = .ok (.ifCond .ge 165, 3) := by decide +kernel
theorem dX12_giveBack_16 : decode cX12_giveBack 16 = .ok (.aload_n 0, 1) := by decide +kernel
theorem dX12_giveBack_17 : decode cX12_giveBack 17 = .ok (.getfield 7, 3) := by decide +kernel
theorem dX12_giveBack_20 : decode cX12_giveBack 20 = .ok (.sipush 930, 3) := by decide +kernel
theorem dX12_giveBack_23 : decode cX12_giveBack 23 = .ok (.iload_n 1, 1) := by decide +kernel
theorem dX12_giveBack_24 : decode cX12_giveBack 24 = .ok (.iadd, 1) := by decide +kernel
theorem dX12_giveBack_25 : decode cX12_giveBack 25 = .ok (.laload, 1) := by decide +kernel
theorem dX12_giveBack_26 : decode cX12_giveBack 26 = .ok (.l2i, 1) := by decide +kernel
theorem dX12_giveBack_27 : decode cX12_giveBack 27 = .ok (.istore_n 2, 1) := by decide +kernel
theorem dX12_giveBack_28 : decode cX12_giveBack 28 = .ok (.aload_n 0, 1) := by decide +kernel
theorem dX12_giveBack_29 : decode cX12_giveBack 29 = .ok (.getfield 7, 3) := by decide +kernel
theorem dX12_giveBack_32 : decode cX12_giveBack 32 = .ok (.sipush 970, 3) := by decide +kernel
theorem dX12_giveBack_35 : decode cX12_giveBack 35 = .ok (.iload_n 1, 1) := by decide +kernel
theorem dX12_giveBack_36 : decode cX12_giveBack 36 = .ok (.iadd, 1) := by decide +kernel
theorem dX12_giveBack_37 : decode cX12_giveBack 37 = .ok (.laload, 1) := by decide +kernel
theorem dX12_giveBack_38 : decode cX12_giveBack 38 = .ok (.l2i, 1) := by decide +kernel
theorem dX12_giveBack_39 : decode cX12_giveBack 39 = .ok (.istore_n 3, 1) := by decide +kernel
theorem dX12_giveBack_40 : decode cX12_giveBack 40 = .ok (.aload_n 0, 1) := by decide +kernel
theorem dX12_giveBack_41 : decode cX12_giveBack 41 = .ok (.getfield 7, 3) := by decide +kernel
theorem dX12_giveBack_44 : decode cX12_giveBack 44 = .ok (.sipush 990, 3) := by decide +kernel
theorem dX12_giveBack_47 : decode cX12_giveBack 47 = .ok (.iload_n 1, 1) := by decide +kernel
theorem dX12_giveBack_48 : decode cX12_giveBack 48 = .ok (.iadd, 1) := by decide +kernel
theorem dX12_giveBack_49 : decode cX12_giveBack 49 = .ok (.laload, 1) := by decide +kernel
theorem dX12_giveBack_50 : decode cX12_giveBack 50 = .ok (.lconst 0, 1) := by decide +kernel
theorem dX12_giveBack_51 : decode cX12_giveBack 51 = .ok (.lcmp, 1) := by decide +kernel
theorem dX12_giveBack_52 : decode cX12_giveBack 52 = .ok (.ifCond .lt 120, 3) := by decide +kernel
theorem dX12_giveBack_55 : decode cX12_giveBack 55 = .ok (.aload_n 0, 1) := by decide +kernel
theorem dX12_giveBack_56 : decode cX12_giveBack 56 = .ok (.iload_n 2, 1) := by decide +kernel
theorem dX12_giveBack_57 : decode cX12_giveBack 57 = .ok (.iload_n 3, 1) := by decide +kernel
theorem dX12_giveBack_58 : decode cX12_giveBack 58 = .ok (.invokevirtual 38, 3) := by decide +kernel
theorem dX12_giveBack_61 : decode cX12_giveBack 61 = .ok (.aload_n 0, 1) := by decide +kernel
theorem dX12_giveBack_62 : decode cX12_giveBack 62 = .ok (.getfield 7, 3) := by decide +kernel
theorem dX12_giveBack_65 : decode cX12_giveBack 65 = .ok (.sipush 990, 3) := by decide +kernel
theorem dX12_giveBack_68 : decode cX12_giveBack 68 = .ok (.iload_n 1, 1) := by decide +kernel
theorem dX12_giveBack_69 : decode cX12_giveBack 69 = .ok (.iadd, 1) := by decide +kernel
theorem dX12_giveBack_70 : decode cX12_giveBack 70 = .ok (.laload, 1) := by decide +kernel
theorem dX12_giveBack_71 : decode cX12_giveBack 71 = .ok (.lcmp, 1) := by decide +kernel
theorem dX12_giveBack_72 : decode cX12_giveBack 72 = .ok (.ifCond .lt 100, 3) := by decide +kernel
theorem dX12_giveBack_75 : decode cX12_giveBack 75 = .ok (.aload_n 0, 1) := by decide +kernel
theorem dX12_giveBack_76 : decode cX12_giveBack 76 = .ok (.getfield 7, 3) := by decide +kernel
theorem dX12_giveBack_79 : decode cX12_giveBack 79 = .ok (.bipush 100, 2) := by decide +kernel
theorem dX12_giveBack_81 : decode cX12_giveBack 81 = .ok (.iconst 4, 1) := by decide +kernel
theorem dX12_giveBack_82 : decode cX12_giveBack 82 = .ok (.iload_n 2, 1) := by decide +kernel
theorem dX12_giveBack_83 : decode cX12_giveBack 83 = .ok (.imul, 1) := by decide +kernel
theorem dX12_giveBack_84 : decode cX12_giveBack 84 = .ok (.iadd, 1) := by decide +kernel
theorem dX12_giveBack_85 : decode cX12_giveBack 85 = .ok (.iload_n 3, 1) := by decide +kernel
theorem dX12_giveBack_86 : decode cX12_giveBack 86 = .ok (.iadd, 1) := by decide +kernel
theorem dX12_giveBack_87 : decode cX12_giveBack 87 = .ok (.dup2, 1) := by decide +kernel
theorem dX12_giveBack_88 : decode cX12_giveBack 88 = .ok (.laload, 1) := by decide +kernel
theorem dX12_giveBack_89 : decode cX12_giveBack 89 = .ok (.aload_n 0, 1) := by decide +kernel
theorem dX12_giveBack_90 : decode cX12_giveBack 90 = .ok (.getfield 7, 3) := by decide +kernel
theorem dX12_giveBack_93 : decode cX12_giveBack 93 = .ok (.sipush 990, 3) := by decide +kernel
theorem dX12_giveBack_96 : decode cX12_giveBack 96 = .ok (.iload_n 1, 1) := by decide +kernel
theorem dX12_giveBack_97 : decode cX12_giveBack 97 = .ok (.iadd, 1) := by decide +kernel
theorem dX12_giveBack_98 : decode cX12_giveBack 98 = .ok (.laload, 1) := by decide +kernel
theorem dX12_giveBack_99 : decode cX12_giveBack 99 = .ok (.lsub, 1) := by decide +kernel
theorem dX12_giveBack_100 : decode cX12_giveBack 100 = .ok (.lastore, 1) := by decide +kernel
theorem dX12_giveBack_101 : decode cX12_giveBack 101 = .ok (.aload_n 0, 1) := by decide +kernel
theorem dX12_giveBack_102 : decode cX12_giveBack 102 = .ok (.getfield 7, 3) := by decide +kernel
theorem dX12_giveBack_105 : decode cX12_giveBack 105 = .ok (.bipush 100, 2) := by decide +kernel
theorem dX12_giveBack_107 : decode cX12_giveBack 107 = .ok (.iconst 4, 1) := by decide +kernel
theorem dX12_giveBack_108 : decode cX12_giveBack 108 = .ok (.aload_n 0, 1) := by decide +kernel
theorem dX12_giveBack_109 : decode cX12_giveBack 109 = .ok (.getfield 7, 3) := by decide +kernel
theorem dX12_giveBack_112 : decode cX12_giveBack 112 = .ok (.sipush 950, 3) := by decide +kernel
theorem dX12_giveBack_115 : decode cX12_giveBack 115 = .ok (.iload_n 1, 1) := by decide +kernel
theorem dX12_giveBack_116 : decode cX12_giveBack 116 = .ok (.iadd, 1) := by decide +kernel
theorem dX12_giveBack_117 : decode cX12_giveBack 117 = .ok (.laload, 1) := by decide +kernel
theorem dX12_giveBack_118 : decode cX12_giveBack 118 = .ok (.l2i, 1) := by decide +kernel
theorem dX12_giveBack_119 : decode cX12_giveBack 119 = .ok (.imul, 1) := by decide +kernel
theorem dX12_giveBack_120 : decode cX12_giveBack 120 = .ok (.iadd, 1) := by decide +kernel
theorem dX12_giveBack_121 : decode cX12_giveBack 121 = .ok (.iload_n 3, 1) := by decide +kernel
theorem dX12_giveBack_122 : decode cX12_giveBack 122 = .ok (.iadd, 1) := by decide +kernel
theorem dX12_giveBack_123 : decode cX12_giveBack 123 = .ok (.dup2, 1) := by decide +kernel
theorem dX12_giveBack_124 : decode cX12_giveBack 124 = .ok (.laload, 1) := by decide +kernel
theorem dX12_giveBack_125 : decode cX12_giveBack 125 = .ok (.aload_n 0, 1) := by decide +kernel
theorem dX12_giveBack_126 : decode cX12_giveBack 126 = .ok (.getfield 7, 3) := by decide +kernel
theorem dX12_giveBack_129 : decode cX12_giveBack 129 = .ok (.sipush 990, 3) := by decide +kernel
theorem dX12_giveBack_132 : decode cX12_giveBack 132 = .ok (.iload_n 1, 1) := by decide +kernel
theorem dX12_giveBack_133 : decode cX12_giveBack 133 = .ok (.iadd, 1) := by decide +kernel
theorem dX12_giveBack_134 : decode cX12_giveBack 134 = .ok (.laload, 1) := by decide +kernel
theorem dX12_giveBack_135 : decode cX12_giveBack 135 = .ok (.ladd, 1) := by decide +kernel
theorem dX12_giveBack_136 : decode cX12_giveBack 136 = .ok (.lastore, 1) := by decide +kernel
theorem dX12_giveBack_137 : decode cX12_giveBack 137 = .ok (.aload_n 0, 1) := by decide +kernel
theorem dX12_giveBack_138 : decode cX12_giveBack 138 = .ok (.getfield 7, 3) := by decide +kernel
theorem dX12_giveBack_141 : decode cX12_giveBack 141 = .ok (.bipush 40, 2) := by decide +kernel
theorem dX12_giveBack_143 : decode cX12_giveBack 143 = .ok (.iload_n 2, 1) := by decide +kernel
theorem dX12_giveBack_144 : decode cX12_giveBack 144 = .ok (.iadd, 1) := by decide +kernel
theorem dX12_giveBack_145 : decode cX12_giveBack 145 = .ok (.dup2, 1) := by decide +kernel
theorem dX12_giveBack_146 : decode cX12_giveBack 146 = .ok (.laload, 1) := by decide +kernel
theorem dX12_giveBack_147 : decode cX12_giveBack 147 = .ok (.aload_n 0, 1) := by decide +kernel
theorem dX12_giveBack_148 : decode cX12_giveBack 148 = .ok (.getfield 7, 3) := by decide +kernel
theorem dX12_giveBack_151 : decode cX12_giveBack 151 = .ok (.sipush 1010, 3) := by decide +kernel
theorem dX12_giveBack_154 : decode cX12_giveBack 154 = .ok (.iload_n 1, 1) := by decide +kernel
theorem dX12_giveBack_155 : decode cX12_giveBack 155 = .ok (.iadd, 1) := by decide +kernel
theorem dX12_giveBack_156 : decode cX12_giveBack 156 = .ok (.laload, 1) := by decide +kernel
theorem dX12_giveBack_157 : decode cX12_giveBack 157 = .ok (.lsub, 1) := by decide +kernel
theorem dX12_giveBack_158 : decode cX12_giveBack 158 = .ok (.lastore, 1) := by decide +kernel
theorem dX12_giveBack_159 : decode cX12_giveBack 159 = .ok (.aload_n 0, 1) := by decide +kernel
theorem dX12_giveBack_160 : decode cX12_giveBack 160 = .ok (.getfield 7, 3) := by decide +kernel
theorem dX12_giveBack_163 : decode cX12_giveBack 163 = .ok (.sipush 990, 3) := by decide +kernel
theorem dX12_giveBack_166 : decode cX12_giveBack 166 = .ok (.iload_n 1, 1) := by decide +kernel
theorem dX12_giveBack_167 : decode cX12_giveBack 167 = .ok (.iadd, 1) := by decide +kernel
theorem dX12_giveBack_168 : decode cX12_giveBack 168 = .ok (.ldc2_w 81, 3) := by decide +kernel
theorem dX12_giveBack_171 : decode cX12_giveBack 171 = .ok (.lastore, 1) := by decide +kernel
theorem dX12_giveBack_172 : decode cX12_giveBack 172 = .ok (.iinc 1 1, 3) := by decide +kernel
theorem dX12_giveBack_175 : decode cX12_giveBack 175 = .ok (.goto (-173), 3) := by decide +kernel
theorem dX12_giveBack_178 : decode cX12_giveBack 178 = .ok (.return_, 1) := by decide +kernel
theorem dX12_borrows_0 : decode cX12_borrows 0 = .ok (.aload_n 0, 1) := by decide +kernel
theorem dX12_borrows_1 : decode cX12_borrows 1 = .ok (.iload_n 1, 1) := by decide +kernel
theorem dX12_borrows_2 : decode cX12_borrows 2 = .ok (.invokevirtual 94, 3) := by decide +kernel
theorem dX12_borrows_5 : decode cX12_borrows 5 = .ok (.istore_n 2, 1) := by decide +kernel
theorem dX12_borrows_6 : decode cX12_borrows 6 = .ok (.aload_n 0, 1) := by decide +kernel
theorem dX12_borrows_7 : decode cX12_borrows 7 = .ok (.iload_n 1, 1) := by decide +kernel
theorem dX12_borrows_8 : decode cX12_borrows 8 = .ok (.invokevirtual 98, 3) := by decide +kernel
theorem dX12_borrows_11 : decode cX12_borrows 11 = .ok (.istore_n 3, 1) := by decide +kernel
theorem dX12_borrows_12 : decode cX12_borrows 12 = .ok (.aload_n 0, 1) := by decide +kernel
theorem dX12_borrows_13 : decode cX12_borrows 13 = .ok (.iload_n 1, 1) := by decide +kernel
theorem dX12_borrows_14 : decode cX12_borrows 14 = .ok (.invokevirtual 101, 3) := by decide +kernel
theorem dX12_borrows_17 : decode cX12_borrows 17 = .ok (.istore 4, 2) := by decide +kernel
theorem dX12_borrows_19 : decode cX12_borrows 19 = .ok (.aload_n 0, 1) := by decide +kernel
theorem dX12_borrows_20 : decode cX12_borrows 20 = .ok (.getfield 7, 3) := by decide +kernel
theorem dX12_borrows_23 : decode cX12_borrows 23 = .ok (.sipush 770, 3) := by decide +kernel
theorem dX12_borrows_26 : decode cX12_borrows 26 = .ok (.iload_n 1, 1) := by decide +kernel
theorem dX12_borrows_27 : decode cX12_borrows 27 = .ok (.iadd, 1) := by decide +kernel
theorem dX12_borrows_28 : decode cX12_borrows 28 = .ok (.laload, 1) := by decide +kernel
theorem dX12_borrows_29 : decode cX12_borrows 29 = .ok (.aload_n 0, 1) := by decide +kernel
theorem dX12_borrows_30 : decode cX12_borrows 30 = .ok (.iload_n 2, 1) := by decide +kernel
theorem dX12_borrows_31 : decode cX12_borrows 31 = .ok (.iload 4, 2) := by decide +kernel
theorem dX12_borrows_33 : decode cX12_borrows 33 = .ok (.invokevirtual 38, 3) := by decide +kernel
theorem dX12_borrows_36 : decode cX12_borrows 36 = .ok (.lsub, 1) := by decide +kernel
theorem dX12_borrows_37 : decode cX12_borrows 37 = .ok (.lstore 5, 2) := by decide +kernel
theorem dX12_borrows_39 : decode cX12_borrows 39 = .ok (.aload_n 0, 1) := by decide +kernel
theorem dX12_borrows_40 : decode cX12_borrows 40 = .ok (.getfield 7, 3) := by decide +kernel
theorem dX12_borrows_43 : decode cX12_borrows 43 = .ok (.sipush 1545, 3) := by decide +kernel
theorem dX12_borrows_46 : decode cX12_borrows 46 = .ok (.laload, 1) := by decide +kernel
theorem dX12_borrows_47 : decode cX12_borrows 47 = .ok (.l2i, 1) := by decide +kernel
theorem dX12_borrows_48 : decode cX12_borrows 48 = .ok (.istore 7, 2) := by decide +kernel
theorem dX12_borrows_50 : decode cX12_borrows 50 = .ok (.iload 7, 2) := by decide +kernel
theorem dX12_borrows_52 : decode cX12_borrows 52 = .ok (.istore 8, 2) := by decide +kernel
theorem dX12_borrows_54 : decode cX12_borrows 54 = .ok (.lload 5, 2) := by decide +kernel
theorem dX12_borrows_56 : decode cX12_borrows 56 = .ok (.lconst 0, 1) := by decide +kernel
theorem dX12_borrows_57 : decode cX12_borrows 57 = .ok (.lcmp, 1) := by decide +kernel
theorem dX12_borrows_58 : decode cX12_borrows 58 = .ok (.ifCond .le 11, 3) := by decide +kernel
theorem dX12_borrows_61 : decode cX12_borrows 61 = .ok (.aload_n 0, 1) := by decide +kernel
theorem dX12_borrows_62 : decode cX12_borrows 62 = .ok (.iload_n 1, 1) := by decide +kernel
theorem dX12_borrows_63 : decode cX12_borrows 63 = .ok (.invokevirtual 170, 3) := by decide +kernel
theorem dX12_borrows_66 : decode cX12_borrows 66 = .ok (.ifCond .eq 5, 3) := by decide +kernel
theorem dX12_borrows_69 : decode cX12_borrows 69 = .ok (.iconst 0, 1) := by decide +kernel
theorem dX12_borrows_70 : decode cX12_borrows 70 = .ok (.ireturn, 1) := by decide +kernel
theorem dX12_borrows_71 : decode cX12_borrows 71 = .ok (.iconst 0, 1) := by decide +kernel
theorem dX12_borrows_72 : decode cX12_borrows 72 = .ok (.istore 9, 2) := by decide +kernel
theorem dX12_borrows_74 : decode cX12_borrows 74 = .ok (.iload 9, 2) := by decide +kernel
theorem dX12_borrows_76 : decode cX12_borrows 76 = .ok (.i2l, 1) := by decide +kernel
theorem dX12_borrows_77 : decode cX12_borrows 77 = .ok (.aload_n 0, 1) := by decide +kernel
theorem dX12_borrows_78 : decode cX12_borrows 78 = .ok (.getfield 7, 3) := by decide +kernel
theorem dX12_borrows_81 : decode cX12_borrows 81 = .ok (.sipush 1540, 3) := by decide +kernel
theorem dX12_borrows_84 : decode cX12_borrows 84 = .ok (.laload, 1) := by decide +kernel
theorem dX12_borrows_85 : decode cX12_borrows 85 = .ok (.lcmp, 1) := by decide +kernel
theorem dX12_borrows_86 : decode cX12_borrows 86 = .ok (.ifCond .ge 102, 3) := by decide +kernel
theorem dX12_borrows_89 : decode cX12_borrows 89 = .ok (.lload 5, 2) := by decide +kernel
theorem dX12_borrows_91 : decode cX12_borrows 91 = .ok (.lconst 0, 1) := by decide +kernel
theorem dX12_borrows_92 : decode cX12_borrows 92 = .ok (.lcmp, 1) := by decide +kernel
theorem dX12_borrows_93 : decode cX12_borrows 93 = .ok (.ifCond .le 95, 3) := by decide +kernel
theorem dX12_borrows_96 : decode cX12_borrows 96 = .ok (.aload_n 0, 1) := by decide +kernel
theorem dX12_borrows_97 : decode cX12_borrows 97 = .ok (.iload 9, 2) := by decide +kernel
theorem dX12_borrows_99 : decode cX12_borrows 99 = .ok (.iload 4, 2) := by decide +kernel
theorem dX12_borrows_101 : decode cX12_borrows 101 = .ok (.invokevirtual 38, 3) := by decide +kernel
theorem dX12_borrows_104 : decode cX12_borrows 104 = .ok (.lload 5, 2) := by decide +kernel
theorem dX12_borrows_106 : decode cX12_borrows 106 = .ok (.lcmp, 1) := by decide +kernel
theorem dX12_borrows_107 : decode cX12_borrows 107 = .ok (.ifCond .ge 14, 3) := by decide +kernel
theorem dX12_borrows_110 : decode cX12_borrows 110 = .ok (.aload_n 0, 1) := by decide +kernel
theorem dX12_borrows_111 : decode cX12_borrows 111 = .ok (.iload 9, 2) := by decide +kernel
theorem dX12_borrows_113 : decode cX12_borrows 113 = .ok (.iload 4, 2) := by decide +kernel
theorem dX12_borrows_115 : decode cX12_borrows 115 = .ok (.invokevirtual 38, 3) := by decide +kernel
theorem dX12_borrows_118 : decode cX12_borrows 118 = .ok (.goto 5, 3) := by decide +kernel
theorem dX12_borrows_121 : decode cX12_borrows 121 = .ok (.lload 5, 2) := by decide +kernel
theorem dX12_borrows_123 : decode cX12_borrows 123 = .ok (.lstore 10, 2) := by decide +kernel
theorem dX12_borrows_125 : decode cX12_borrows 125 = .ok (.aload_n 0, 1) := by decide +kernel
theorem dX12_borrows_126 : decode cX12_borrows 126 = .ok (.getfield 7, 3) := by decide +kernel
theorem dX12_borrows_129 : decode cX12_borrows 129 = .ok (.bipush 60, 2) := by decide +kernel
theorem dX12_borrows_131 : decode cX12_borrows 131 = .ok (.iload 9, 2) := by decide +kernel
theorem dX12_borrows_133 : decode cX12_borrows 133 = .ok (.iadd, 1) := by decide +kernel
theorem dX12_borrows_134 : decode cX12_borrows 134 = .ok (.laload, 1) := by decide +kernel
theorem dX12_borrows_135 : decode cX12_borrows 135 = .ok (.lconst 1, 1) := by decide +kernel
theorem dX12_borrows_136 : decode cX12_borrows 136 = .ok (.lcmp, 1) := by decide +kernel
theorem dX12_borrows_137 : decode cX12_borrows 137 = .ok (.ifCond .ne 45, 3) := by decide +kernel
theorem dX12_borrows_140 : decode cX12_borrows 140 = .ok (.iload 9, 2) := by decide +kernel
theorem dX12_borrows_142 : decode cX12_borrows 142 = .ok (.iload_n 2, 1) := by decide +kernel
theorem dX12_borrows_143 : decode cX12_borrows 143 = .ok (.if_icmp .eq 39, 3) := by decide +kernel
theorem dX12_borrows_146 : decode cX12_borrows 146 = .ok (.iload 9, 2) := by decide +kernel
theorem dX12_borrows_148 : decode cX12_borrows 148 = .ok (.iload_n 3, 1) := by decide +kernel
theorem dX12_borrows_149 : decode cX12_borrows 149 = .ok (.if_icmp .eq 33, 3) := by decide +kernel
theorem dX12_borrows_152 : decode cX12_borrows 152 = .ok (.lload 10, 2) := by decide +kernel
theorem dX12_borrows_154 : decode cX12_borrows 154 = .ok (.lconst 0, 1) := by decide +kernel
theorem dX12_borrows_155 : decode cX12_borrows 155 = .ok (.lcmp, 1) := by decide +kernel
theorem dX12_borrows_156 : decode cX12_borrows 156 = .ok (.ifCond .le 26, 3) := by decide +kernel
theorem dX12_borrows_159 : decode cX12_borrows 159 = .ok (.aload_n 0, 1) := by decide +kernel
theorem dX12_borrows_160 : decode cX12_borrows 160 = .ok (.iload 8, 2) := by decide +kernel
theorem dX12_borrows_162 : decode cX12_borrows 162 = .ok (.iload_n 2, 1) := by decide +kernel
theorem dX12_borrows_163 : decode cX12_borrows 163 = .ok (.iload 9, 2) := by decide +kernel
theorem dX12_borrows_165 : decode cX12_borrows 165 = .ok (.iload 4, 2) := by decide +kernel
theorem dX12_borrows_167 : decode cX12_borrows 167 = .ok (.lload 10, 2) := by decide +kernel
theorem dX12_borrows_169 : decode cX12_borrows 169 = .ok (.invokevirtual 173, 3) := by decide +kernel
theorem dX12_borrows_172 : decode cX12_borrows 172 = .ok (.lload 5, 2) := by decide +kernel
theorem dX12_borrows_174 : decode cX12_borrows 174 = .ok (.lload 10, 2) := by decide +kernel
theorem dX12_borrows_176 : decode cX12_borrows 176 = .ok (.lsub, 1) := by decide +kernel
theorem dX12_borrows_177 : decode cX12_borrows 177 = .ok (.lstore 5, 2) := by decide +kernel
theorem dX12_borrows_179 : decode cX12_borrows 179 = .ok (.iinc 8 1, 3) := by decide +kernel
theorem dX12_borrows_182 : decode cX12_borrows 182 = .ok (.iinc 9 1, 3) := by decide +kernel
theorem dX12_borrows_185 : decode cX12_borrows 185 = .ok (.goto (-111), 3) := by decide +kernel
theorem dX12_borrows_188 : decode cX12_borrows 188 = .ok (.aload_n 0, 1) := by decide +kernel
theorem dX12_borrows_189 : decode cX12_borrows 189 = .ok (.iload_n 1, 1) := by decide +kernel
theorem dX12_borrows_190 : decode cX12_borrows 190 = .ok (.aload_n 0, 1) := by decide +kernel
theorem dX12_borrows_191 : decode cX12_borrows 191 = .ok (.getfield 7, 3) := by decide +kernel
theorem dX12_borrows_194 : decode cX12_borrows 194 = .ok (.sipush 770, 3) := by decide +kernel
theorem dX12_borrows_197 : decode cX12_borrows 197 = .ok (.iload_n 1, 1) := by decide +kernel
theorem dX12_borrows_198 : decode cX12_borrows 198 = .ok (.iadd, 1) := by decide +kernel
theorem dX12_borrows_199 : decode cX12_borrows 199 = .ok (.laload, 1) := by decide +kernel
theorem dX12_borrows_200 : decode cX12_borrows 200 = .ok (.aload_n 0, 1) := by decide +kernel
theorem dX12_borrows_201 : decode cX12_borrows 201 = .ok (.getfield 7, 3) := by decide +kernel
theorem dX12_borrows_204 : decode cX12_borrows 204 = .ok (.sipush 790, 3) := by decide +kernel
theorem dX12_borrows_207 : decode cX12_borrows 207 = .ok (.iload_n 1, 1) := by decide +kernel
theorem dX12_borrows_208 : decode cX12_borrows 208 = .ok (.iadd, 1) := by decide +kernel
theorem dX12_borrows_209 : decode cX12_borrows 209 = .ok (.laload, 1) := by decide +kernel
theorem dX12_borrows_210 : decode cX12_borrows 210 = .ok (.invokevirtual 145, 3) := by decide +kernel
theorem dX12_borrows_213 : decode cX12_borrows 213 = .ok (.lload 5, 2) := by decide +kernel
theorem dX12_borrows_215 : decode cX12_borrows 215 = .ok (.lconst 0, 1) := by decide +kernel
theorem dX12_borrows_216 : decode cX12_borrows 216 = .ok (.lcmp, 1) := by decide +kernel
theorem dX12_borrows_217 : decode cX12_borrows 217 = .ok (.ifCond .ne 30, 3) := by decide +kernel
theorem dX12_borrows_220 : decode cX12_borrows 220 = .ok (.iload 8, 2) := by decide +kernel
theorem dX12_borrows_222 : decode cX12_borrows 222 = .ok (.bipush 20, 2) := by decide +kernel
theorem dX12_borrows_224 : decode cX12_borrows 224 = .ok (.if_icmp .gt 23, 3) := by decide +kernel
theorem dX12_borrows_227 : decode cX12_borrows 227 = .ok (.aload_n 0, 1) := by decide +kernel
theorem dX12_borrows_228 : decode cX12_borrows 228 = .ok (.iload_n 2, 1) := by decide +kernel
theorem dX12_borrows_229 : decode cX12_borrows 229 = .ok (.invokevirtual 85, 3) := by decide +kernel
theorem dX12_borrows_232 : decode cX12_borrows 232 = .ok (.ifCond .eq 15, 3) := by decide +kernel
theorem dX12_borrows_235 : decode cX12_borrows 235 = .ok (.aload_n 0, 1) := by decide +kernel
theorem dX12_borrows_236 : decode cX12_borrows 236 = .ok (.iload_n 3, 1) := by decide +kernel
theorem dX12_borrows_237 : decode cX12_borrows 237 = .ok (.invokevirtual 85, 3) := by decide +kernel
theorem dX12_borrows_240 : decode cX12_borrows 240 = .ok (.ifCond .eq 7, 3) := by decide +kernel
theorem dX12_borrows_243 : decode cX12_borrows 243 = .ok (.iconst 1, 1) := by decide +kernel
theorem dX12_borrows_244 : decode cX12_borrows 244 = .ok (.goto 4, 3) := by decide +kernel
theorem dX12_borrows_247 : decode cX12_borrows 247 = .ok (.iconst 0, 1) := by decide +kernel
theorem dX12_borrows_248 : decode cX12_borrows 248 = .ok (.istore 9, 2) := by decide +kernel
theorem dX12_borrows_250 : decode cX12_borrows 250 = .ok (.iload 7, 2) := by decide +kernel
theorem dX12_borrows_252 : decode cX12_borrows 252 = .ok (.istore 10, 2) := by decide +kernel
theorem dX12_borrows_254 : decode cX12_borrows 254 = .ok (.iload 10, 2) := by decide +kernel
theorem dX12_borrows_256 : decode cX12_borrows 256 = .ok (.iload 8, 2) := by decide +kernel
theorem dX12_borrows_258 : decode cX12_borrows 258 = .ok (.if_icmp .ge 37, 3) := by decide +kernel
theorem dX12_borrows_261 : decode cX12_borrows 261 = .ok (.iload 10, 2) := by decide +kernel
theorem dX12_borrows_263 : decode cX12_borrows 263 = .ok (.bipush 20, 2) := by decide +kernel
theorem dX12_borrows_265 : decode cX12_borrows 265 = .ok (.if_icmp .ge 30, 3) := by decide +kernel
theorem dX12_borrows_268 : decode cX12_borrows 268 = .ok (.iload 9, 2) := by decide +kernel
theorem dX12_borrows_270 : decode cX12_borrows 270 = .ok (.aload_n 0, 1) := by decide +kernel
theorem dX12_borrows_271 : decode cX12_borrows 271 = .ok (.aload_n 0, 1) := by decide +kernel
theorem dX12_borrows_272 : decode cX12_borrows 272 = .ok (.getfield 7, 3) := by decide +kernel
theorem dX12_borrows_275 : decode cX12_borrows 275 = .ok (.sipush 950, 3) := by decide +kernel
theorem dX12_borrows_278 : decode cX12_borrows 278 = .ok (.iload 10, 2) := by decide +kernel
theorem dX12_borrows_280 : decode cX12_borrows 280 = .ok (.iadd, 1) := by decide +kernel
theorem dX12_borrows_281 : decode cX12_borrows 281 = .ok (.laload, 1) := by decide +kernel
theorem dX12_borrows_282 : decode cX12_borrows 282 = .ok (.l2i, 1) := by decide +kernel
theorem dX12_borrows_283 : decode cX12_borrows 283 = .ok (.invokevirtual 85, 3) := by decide +kernel
theorem dX12_borrows_286 : decode cX12_borrows 286 = .ok (.iand, 1) := by decide +kernel
theorem dX12_borrows_287 : decode cX12_borrows 287 = .ok (.istore 9, 2) := by decide +kernel
theorem dX12_borrows_289 : decode cX12_borrows 289 = .ok (.iinc 10 1, 3) := by decide +kernel
theorem dX12_borrows_292 : decode cX12_borrows 292 = .ok (.goto (-38), 3) := by decide +kernel
theorem dX12_borrows_295 : decode cX12_borrows 295 = .ok (.iload 9, 2) := by decide +kernel
theorem dX12_borrows_297 : decode cX12_borrows 297 = .ok (.ifCond .eq 23, 3) := by decide +kernel
theorem dX12_borrows_300 : decode cX12_borrows 300 = .ok (.aload_n 0, 1) := by decide +kernel
theorem dX12_borrows_301 : decode cX12_borrows 301 = .ok (.getfield 7, 3) := by decide +kernel
theorem dX12_borrows_304 : decode cX12_borrows 304 = .ok (.sipush 1545, 3) := by decide +kernel
theorem dX12_borrows_307 : decode cX12_borrows 307 = .ok (.iload 8, 2) := by decide +kernel
theorem dX12_borrows_309 : decode cX12_borrows 309 = .ok (.i2l, 1) := by decide +kernel
theorem dX12_borrows_310 : decode cX12_borrows 310 = .ok (.lastore, 1) := by decide +kernel
theorem dX12_borrows_311 : decode cX12_borrows 311 = .ok (.aload_n 0, 1) := by decide +kernel
theorem dX12_borrows_312 : decode cX12_borrows 312 = .ok (.iload_n 1, 1) := by decide +kernel
theorem dX12_borrows_313 : decode cX12_borrows 313 = .ok (.iconst 1, 1) := by decide +kernel
theorem dX12_borrows_314 : decode cX12_borrows 314 = .ok (.invokevirtual 122, 3) := by decide +kernel
theorem dX12_borrows_317 : decode cX12_borrows 317 = .ok (.goto 87, 3) := by decide +kernel
theorem dX12_borrows_320 : decode cX12_borrows 320 = .ok (.aload_n 0, 1) := by decide +kernel
theorem dX12_borrows_321 : decode cX12_borrows 321 = .ok (.iload_n 1, 1) := by decide +kernel
theorem dX12_borrows_322 : decode cX12_borrows 322 = .ok (.aload_n 0, 1) := by decide +kernel
theorem dX12_borrows_323 : decode cX12_borrows 323 = .ok (.getfield 7, 3) := by decide +kernel
theorem dX12_borrows_326 : decode cX12_borrows 326 = .ok (.sipush 770, 3) := by decide +kernel
theorem dX12_borrows_329 : decode cX12_borrows 329 = .ok (.iload_n 1, 1) := by decide +kernel
theorem dX12_borrows_330 : decode cX12_borrows 330 = .ok (.iadd, 1) := by decide +kernel
theorem dX12_borrows_331 : decode cX12_borrows 331 = .ok (.laload, 1) := by decide +kernel
theorem dX12_borrows_332 : decode cX12_borrows 332 = .ok (.lneg, 1) := by decide +kernel
theorem dX12_borrows_333 : decode cX12_borrows 333 = .ok (.aload_n 0, 1) := by decide +kernel
theorem dX12_borrows_334 : decode cX12_borrows 334 = .ok (.getfield 7, 3) := by decide +kernel
theorem dX12_borrows_337 : decode cX12_borrows 337 = .ok (.sipush 790, 3) := by decide +kernel
theorem dX12_borrows_340 : decode cX12_borrows 340 = .ok (.iload_n 1, 1) := by decide +kernel
theorem dX12_borrows_341 : decode cX12_borrows 341 = .ok (.iadd, 1) := by decide +kernel
theorem dX12_borrows_342 : decode cX12_borrows 342 = .ok (.laload, 1) := by decide +kernel
theorem dX12_borrows_343 : decode cX12_borrows 343 = .ok (.lneg, 1) := by decide +kernel
theorem dX12_borrows_344 : decode cX12_borrows 344 = .ok (.invokevirtual 145, 3) := by decide +kernel
theorem dX12_borrows_347 : decode cX12_borrows 347 = .ok (.iload 7, 2) := by decide +kernel
theorem dX12_borrows_349 : decode cX12_borrows 349 = .ok (.istore 10, 2) := by decide +kernel
theorem dX12_borrows_351 : decode cX12_borrows 351 = .ok (.iload 10, 2) := by decide +kernel
theorem dX12_borrows_353 : decode cX12_borrows 353 = .ok (.iload 8, 2) := by decide +kernel
theorem dX12_borrows_355 : decode cX12_borrows 355 = .ok (.if_icmp .ge 49, 3) := by decide +kernel
theorem dX12_borrows_358 : decode cX12_borrows 358 = .ok (.iload 10, 2) := by decide +kernel
theorem dX12_borrows_360 : decode cX12_borrows 360 = .ok (.bipush 20, 2) := by decide +kernel
theorem dX12_borrows_362 : decode cX12_borrows 362 = .ok (.if_icmp .ge 42, 3) := by decide +kernel
theorem dX12_borrows_365 : decode cX12_borrows 365 = .ok (.aload_n 0, 1) := by decide +kernel
theorem dX12_borrows_366 : decode cX12_borrows 366 = .ok (.iload 10, 2) := by decide +kernel
theorem dX12_borrows_368 : decode cX12_borrows 368 = .ok (.iload_n 2, 1) := by decide +kernel
theorem dX12_borrows_369 : decode cX12_borrows 369 = .ok (.aload_n 0, 1) := by decide +kernel
theorem dX12_borrows_370 : decode cX12_borrows 370 = .ok (.getfield 7, 3) := by decide +kernel
theorem dX12_borrows_373 : decode cX12_borrows 373 = .ok (.sipush 950, 3) := by decide +kernel
theorem dX12_borrows_376 : decode cX12_borrows 376 = .ok (.iload 10, 2) := by decide +kernel
theorem dX12_borrows_378 : decode cX12_borrows 378 = .ok (.iadd, 1) := by decide +kernel
theorem dX12_borrows_379 : decode cX12_borrows 379 = .ok (.laload, 1) := by decide +kernel
theorem dX12_borrows_380 : decode cX12_borrows 380 = .ok (.l2i, 1) := by decide +kernel
theorem dX12_borrows_381 : decode cX12_borrows 381 = .ok (.iload 4, 2) := by decide +kernel
theorem dX12_borrows_383 : decode cX12_borrows 383 = .ok (.aload_n 0, 1) := by decide +kernel
theorem dX12_borrows_384 : decode cX12_borrows 384 = .ok (.getfield 7, 3) := by decide +kernel
theorem dX12_borrows_387 : decode cX12_borrows 387 = .ok (.sipush 990, 3) := by decide +kernel
theorem dX12_borrows_390 : decode cX12_borrows 390 = .ok (.iload 10, 2) := by decide +kernel
theorem dX12_borrows_392 : decode cX12_borrows 392 = .ok (.iadd, 1) := by decide +kernel
theorem dX12_borrows_393 : decode cX12_borrows 393 = .ok (.laload, 1) := by decide +kernel
theorem dX12_borrows_394 : decode cX12_borrows 394 = .ok (.lneg, 1) := by decide +kernel
theorem dX12_borrows_395 : decode cX12_borrows 395 = .ok (.invokevirtual 173, 3) := by decide +kernel
theorem dX12_borrows_398 : decode cX12_borrows 398 = .ok (.iinc 10 1, 3) := by decide +kernel
theorem dX12_borrows_401 : decode cX12_borrows 401 = .ok (.goto (-50), 3) := by decide +kernel
theorem dX12_borrows_404 : decode cX12_borrows 404 = .ok (.iload 9, 2) := by decide +kernel
theorem dX12_borrows_406 : decode cX12_borrows 406 = .ok (.ireturn, 1) := by decide +kernel
theorem dX12_lends_0 : decode cX12_lends 0 = .ok (.iload_n 1, 1) := by decide +kernel
theorem dX12_lends_1 : decode cX12_lends 1 = .ok (.bipush 20, 2) := by decide +kernel
theorem dX12_lends_3 : decode cX12_lends 3 = .ok (.if_icmp .ge 151, 3) := by decide +kernel
theorem dX12_lends_6 : decode cX12_lends 6 = .ok (.aload_n 0, 1) := by decide +kernel
theorem dX12_lends_7 : decode cX12_lends 7 = .ok (.getfield 7, 3) := by decide +kernel
theorem dX12_lends_10 : decode cX12_lends 10 = .ok (.sipush 930, 3) := by decide +kernel
theorem dX12_lends_13 : decode cX12_lends 13 = .ok (.iload_n 1, 1) := by decide +kernel
theorem dX12_lends_14 : decode cX12_lends 14 = .ok (.iadd, 1) := by decide +kernel
theorem dX12_lends_15 : decode cX12_lends 15 = .ok (.iload_n 2, 1) := by decide +kernel
theorem dX12_lends_16 : decode cX12_lends 16 = .ok (.i2l, 1) := by decide +kernel
theorem dX12_lends_17 : decode cX12_lends 17 = .ok (.lastore, 1) := by decide +kernel
theorem dX12_lends_18 : decode cX12_lends 18 = .ok (.aload_n 0, 1) := by decide +kernel
theorem dX12_lends_19 : decode cX12_lends 19 = .ok (.getfield 7, 3) := by decide +kernel
theorem dX12_lends_22 : decode cX12_lends 22 = .ok (.sipush 950, 3) := by decide +kernel
theorem dX12_lends_25 : decode cX12_lends 25 = .ok (.iload_n 1, 1) := by decide +kernel
theorem dX12_lends_26 : decode cX12_lends 26 = .ok (.iadd, 1) := by decide +kernel
theorem dX12_lends_27 : decode cX12_lends 27 = .ok (.iload_n 3, 1) := by decide +kernel
theorem dX12_lends_28 : decode cX12_lends 28 = .ok (.i2l, 1) := by decide +kernel
theorem dX12_lends_29 : decode cX12_lends 29 = .ok (.lastore, 1) := by decide +kernel
theorem dX12_lends_30 : decode cX12_lends 30 = .ok (.aload_n 0, 1) := by decide +kernel
theorem dX12_lends_31 : decode cX12_lends 31 = .ok (.getfield 7, 3) := by decide +kernel
theorem dX12_lends_34 : decode cX12_lends 34 = .ok (.sipush 970, 3) := by decide +kernel
theorem dX12_lends_37 : decode cX12_lends 37 = .ok (.iload_n 1, 1) := by decide +kernel
theorem dX12_lends_38 : decode cX12_lends 38 = .ok (.iadd, 1) := by decide +kernel
theorem dX12_lends_39 : decode cX12_lends 39 = .ok (.iload 4, 2) := by decide +kernel
theorem dX12_lends_41 : decode cX12_lends 41 = .ok (.i2l, 1) := by decide +kernel
theorem dX12_lends_42 : decode cX12_lends 42 = .ok (.lastore, 1) := by decide +kernel
theorem dX12_lends_43 : decode cX12_lends 43 = .ok (.aload_n 0, 1) := by decide +kernel
theorem dX12_lends_44 : decode cX12_lends 44 = .ok (.getfield 7, 3) := by decide +kernel
theorem dX12_lends_47 : decode cX12_lends 47 = .ok (.sipush 990, 3) := by decide +kernel
theorem dX12_lends_50 : decode cX12_lends 50 = .ok (.iload_n 1, 1) := by decide +kernel
theorem dX12_lends_51 : decode cX12_lends 51 = .ok (.iadd, 1) := by decide +kernel
theorem dX12_lends_52 : decode cX12_lends 52 = .ok (.lload 5, 2) := by decide +kernel
theorem dX12_lends_54 : decode cX12_lends 54 = .ok (.lastore, 1) := by decide +kernel
theorem dX12_lends_55 : decode cX12_lends 55 = .ok (.aload_n 0, 1) := by decide +kernel
theorem dX12_lends_56 : decode cX12_lends 56 = .ok (.getfield 7, 3) := by decide +kernel
theorem dX12_lends_59 : decode cX12_lends 59 = .ok (.sipush 1010, 3) := by decide +kernel
theorem dX12_lends_62 : decode cX12_lends 62 = .ok (.iload_n 1, 1) := by decide +kernel
theorem dX12_lends_63 : decode cX12_lends 63 = .ok (.iadd, 1) := by decide +kernel
theorem dX12_lends_64 : decode cX12_lends 64 = .ok (.lload 5, 2) := by decide +kernel
theorem dX12_lends_66 : decode cX12_lends 66 = .ok (.aload_n 0, 1) := by decide +kernel
theorem dX12_lends_67 : decode cX12_lends 67 = .ok (.getfield 7, 3) := by decide +kernel
theorem dX12_lends_70 : decode cX12_lends 70 = .ok (.sipush 184, 3) := by decide +kernel
theorem dX12_lends_73 : decode cX12_lends 73 = .ok (.iload 4, 2) := by decide +kernel
theorem dX12_lends_75 : decode cX12_lends 75 = .ok (.iadd, 1) := by decide +kernel
theorem dX12_lends_76 : decode cX12_lends 76 = .ok (.laload, 1) := by decide +kernel
theorem dX12_lends_77 : decode cX12_lends 77 = .ok (.lmul, 1) := by decide +kernel
theorem dX12_lends_78 : decode cX12_lends 78 = .ok (.lastore, 1) := by decide +kernel
theorem dX12_lends_79 : decode cX12_lends 79 = .ok (.aload_n 0, 1) := by decide +kernel
theorem dX12_lends_80 : decode cX12_lends 80 = .ok (.getfield 7, 3) := by decide +kernel
theorem dX12_lends_83 : decode cX12_lends 83 = .ok (.sipush 1030, 3) := by decide +kernel
theorem dX12_lends_86 : decode cX12_lends 86 = .ok (.iload_n 1, 1) := by decide +kernel
theorem dX12_lends_87 : decode cX12_lends 87 = .ok (.iadd, 1) := by decide +kernel
theorem dX12_lends_88 : decode cX12_lends 88 = .ok (.lconst 0, 1) := by decide +kernel
theorem dX12_lends_89 : decode cX12_lends 89 = .ok (.lastore, 1) := by decide +kernel
theorem dX12_lends_90 : decode cX12_lends 90 = .ok (.aload_n 0, 1) := by decide +kernel
theorem dX12_lends_91 : decode cX12_lends 91 = .ok (.getfield 7, 3) := by decide +kernel
theorem dX12_lends_94 : decode cX12_lends 94 = .ok (.bipush 100, 2) := by decide +kernel
theorem dX12_lends_96 : decode cX12_lends 96 = .ok (.iconst 4, 1) := by decide +kernel
theorem dX12_lends_97 : decode cX12_lends 97 = .ok (.iload_n 3, 1) := by decide +kernel
theorem dX12_lends_98 : decode cX12_lends 98 = .ok (.imul, 1) := by decide +kernel
theorem dX12_lends_99 : decode cX12_lends 99 = .ok (.iadd, 1) := by decide +kernel
theorem dX12_lends_100 : decode cX12_lends 100 = .ok (.iload 4, 2) := by decide +kernel
theorem dX12_lends_102 : decode cX12_lends 102 = .ok (.iadd, 1) := by decide +kernel
theorem dX12_lends_103 : decode cX12_lends 103 = .ok (.dup2, 1) := by decide +kernel
theorem dX12_lends_104 : decode cX12_lends 104 = .ok (.laload, 1) := by decide +kernel
theorem dX12_lends_105 : decode cX12_lends 105 = .ok (.lload 5, 2) := by decide +kernel
theorem dX12_lends_107 : decode cX12_lends 107 = .ok (.lsub, 1) := by decide +kernel
theorem dX12_lends_108 : decode cX12_lends 108 = .ok (.lastore, 1) := by decide +kernel
theorem dX12_lends_109 : decode cX12_lends 109 = .ok (.aload_n 0, 1) := by decide +kernel
theorem dX12_lends_110 : decode cX12_lends 110 = .ok (.getfield 7, 3) := by decide +kernel
theorem dX12_lends_113 : decode cX12_lends 113 = .ok (.bipush 100, 2) := by decide +kernel
theorem dX12_lends_115 : decode cX12_lends 115 = .ok (.iconst 4, 1) := by decide +kernel
theorem dX12_lends_116 : decode cX12_lends 116 = .ok (.iload_n 2, 1) := by decide +kernel
theorem dX12_lends_117 : decode cX12_lends 117 = .ok (.imul, 1) := by decide +kernel
theorem dX12_lends_118 : decode cX12_lends 118 = .ok (.iadd, 1) := by decide +kernel
theorem dX12_lends_119 : decode cX12_lends 119 = .ok (.iload 4, 2) := by decide +kernel
theorem dX12_lends_121 : decode cX12_lends 121 = .ok (.iadd, 1) := by decide +kernel
theorem dX12_lends_122 : decode cX12_lends 122 = .ok (.dup2, 1) := by decide +kernel
theorem dX12_lends_123 : decode cX12_lends 123 = .ok (.laload, 1) := by decide +kernel
theorem dX12_lends_124 : decode cX12_lends 124 = .ok (.lload 5, 2) := by decide +kernel
theorem dX12_lends_126 : decode cX12_lends 126 = .ok (.ladd, 1) := by decide +kernel
theorem dX12_lends_127 : decode cX12_lends 127 = .ok (.lastore, 1) := by decide +kernel
theorem dX12_lends_128 : decode cX12_lends 128 = .ok (.aload_n 0, 1) := by decide +kernel
theorem dX12_lends_129 : decode cX12_lends 129 = .ok (.getfield 7, 3) := by decide +kernel
theorem dX12_lends_132 : decode cX12_lends 132 = .ok (.bipush 40, 2) := by decide +kernel
theorem dX12_lends_134 : decode cX12_lends 134 = .ok (.iload_n 2, 1) := by decide +kernel
theorem dX12_lends_135 : decode cX12_lends 135 = .ok (.iadd, 1) := by decide +kernel
theorem dX12_lends_136 : decode cX12_lends 136 = .ok (.dup2, 1) := by decide +kernel
theorem dX12_lends_137 : decode cX12_lends 137 = .ok (.laload, 1) := by decide +kernel
theorem dX12_lends_138 : decode cX12_lends 138 = .ok (.lload 5, 2) := by decide +kernel
theorem dX12_lends_140 : decode cX12_lends 140 = .ok (.aload_n 0, 1) := by decide +kernel
theorem dX12_lends_141 : decode cX12_lends 141 = .ok (.getfield 7, 3) := by decide +kernel
theorem dX12_lends_144 : decode cX12_lends 144 = .ok (.sipush 184, 3) := by decide +kernel
theorem dX12_lends_147 : decode cX12_lends 147 = .ok (.iload 4, 2) := by decide +kernel
theorem dX12_lends_149 : decode cX12_lends 149 = .ok (.iadd, 1) := by decide +kernel
theorem dX12_lends_150 : decode cX12_lends 150 = .ok (.laload, 1) := by decide +kernel
theorem dX12_lends_151 : decode cX12_lends 151 = .ok (.lmul, 1) := by decide +kernel
theorem dX12_lends_152 : decode cX12_lends 152 = .ok (.ladd, 1) := by decide +kernel
theorem dX12_lends_153 : decode cX12_lends 153 = .ok (.lastore, 1) := by decide +kernel
theorem dX12_lends_154 : decode cX12_lends 154 = .ok (.return_, 1) := by decide +kernel
theorem dX12_part_0 : decode cX12_part 0 = .ok (.aload_n 0, 1) := by decide +kernel
theorem dX12_part_1 : decode cX12_part 1 = .ok (.aload_n 0, 1) := by decide +kernel
theorem dX12_part_2 : decode cX12_part 2 = .ok (.iload_n 1, 1) := by decide +kernel
theorem dX12_part_3 : decode cX12_part 3 = .ok (.invokevirtual 94, 3) := by decide +kernel
theorem dX12_part_6 : decode cX12_part 6 = .ok (.aload_n 0, 1) := by decide +kernel
theorem dX12_part_7 : decode cX12_part 7 = .ok (.iload_n 1, 1) := by decide +kernel
theorem dX12_part_8 : decode cX12_part 8 = .ok (.invokevirtual 101, 3) := by decide +kernel
theorem dX12_part_11 : decode cX12_part 11 = .ok (.invokevirtual 38, 3) := by decide +kernel
theorem dX12_part_14 : decode cX12_part 14 = .ok (.lstore_n 2, 1) := by decide +kernel
theorem dX12_part_15 : decode cX12_part 15 = .ok (.lload_n 2, 1) := by decide +kernel
theorem dX12_part_16 : decode cX12_part 16 = .ok (.aload_n 0, 1) := by decide +kernel
theorem dX12_part_17 : decode cX12_part 17 = .ok (.getfield 7, 3) := by decide +kernel
theorem dX12_part_20 : decode cX12_part 20 = .ok (.sipush 770, 3) := by decide +kernel
theorem dX12_part_23 : decode cX12_part 23 = .ok (.iload_n 1, 1) := by decide +kernel
theorem dX12_part_24 : decode cX12_part 24 = .ok (.iadd, 1) := by decide +kernel
theorem dX12_part_25 : decode cX12_part 25 = .ok (.laload, 1) := by decide +kernel
theorem dX12_part_26 : decode cX12_part 26 = .ok (.lcmp, 1) := by decide +kernel
theorem dX12_part_27 : decode cX12_part 27 = .ok (.ifCond .ge 18, 3) := by decide +kernel
theorem dX12_part_30 : decode cX12_part 30 = .ok (.lload_n 2, 1) := by decide +kernel
theorem dX12_part_31 : decode cX12_part 31 = .ok (.aload_n 0, 1) := by decide +kernel
theorem dX12_part_32 : decode cX12_part 32 = .ok (.getfield 7, 3) := by decide +kernel
theorem dX12_part_35 : decode cX12_part 35 = .ok (.sipush 830, 3) := by decide +kernel
theorem dX12_part_38 : decode cX12_part 38 = .ok (.iload_n 1, 1) := by decide +kernel
theorem dX12_part_39 : decode cX12_part 39 = .ok (.iadd, 1) := by decide +kernel
theorem dX12_part_40 : decode cX12_part 40 = .ok (.laload, 1) := by decide +kernel
theorem dX12_part_41 : decode cX12_part 41 = .ok (.lcmp, 1) := by decide +kernel
theorem dX12_part_42 : decode cX12_part 42 = .ok (.ifCond .ge 4, 3) := by decide +kernel
theorem dX12_part_45 : decode cX12_part 45 = .ok (.return_, 1) := by decide +kernel
theorem dX12_part_46 : decode cX12_part 46 = .ok (.aload_n 0, 1) := by decide +kernel
theorem dX12_part_47 : decode cX12_part 47 = .ok (.getfield 7, 3) := by decide +kernel
theorem dX12_part_50 : decode cX12_part 50 = .ok (.sipush 790, 3) := by decide +kernel
theorem dX12_part_53 : decode cX12_part 53 = .ok (.iload_n 1, 1) := by decide +kernel
theorem dX12_part_54 : decode cX12_part 54 = .ok (.iadd, 1) := by decide +kernel
theorem dX12_part_55 : decode cX12_part 55 = .ok (.laload, 1) := by decide +kernel
theorem dX12_part_56 : decode cX12_part 56 = .ok (.lload_n 2, 1) := by decide +kernel
theorem dX12_part_57 : decode cX12_part 57 = .ok (.lmul, 1) := by decide +kernel
theorem dX12_part_58 : decode cX12_part 58 = .ok (.aload_n 0, 1) := by decide +kernel
theorem dX12_part_59 : decode cX12_part 59 = .ok (.getfield 7, 3) := by decide +kernel
theorem dX12_part_62 : decode cX12_part 62 = .ok (.sipush 770, 3) := by decide +kernel
theorem dX12_part_65 : decode cX12_part 65 = .ok (.iload_n 1, 1) := by decide +kernel
theorem dX12_part_66 : decode cX12_part 66 = .ok (.iadd, 1) := by decide +kernel
theorem dX12_part_67 : decode cX12_part 67 = .ok (.laload, 1) := by decide +kernel
theorem dX12_part_68 : decode cX12_part 68 = .ok (.ldiv, 1) := by decide +kernel
theorem dX12_part_69 : decode cX12_part 69 = .ok (.lstore 4, 2) := by decide +kernel
theorem dX12_part_71 : decode cX12_part 71 = .ok (.aload_n 0, 1) := by decide +kernel
theorem dX12_part_72 : decode cX12_part 72 = .ok (.iload_n 1, 1) := by decide +kernel
theorem dX12_part_73 : decode cX12_part 73 = .ok (.lload_n 2, 1) := by decide +kernel
theorem dX12_part_74 : decode cX12_part 74 = .ok (.lload 4, 2) := by decide +kernel
theorem dX12_part_76 : decode cX12_part 76 = .ok (.invokevirtual 145, 3) := by decide +kernel
theorem dX12_part_79 : decode cX12_part 79 = .ok (.aload_n 0, 1) := by decide +kernel
theorem dX12_part_80 : decode cX12_part 80 = .ok (.aload_n 0, 1) := by decide +kernel
theorem dX12_part_81 : decode cX12_part 81 = .ok (.iload_n 1, 1) := by decide +kernel
theorem dX12_part_82 : decode cX12_part 82 = .ok (.invokevirtual 94, 3) := by decide +kernel
theorem dX12_part_85 : decode cX12_part 85 = .ok (.invokevirtual 85, 3) := by decide +kernel
theorem dX12_part_88 : decode cX12_part 88 = .ok (.ifCond .eq 52, 3) := by decide +kernel
theorem dX12_part_91 : decode cX12_part 91 = .ok (.aload_n 0, 1) := by decide +kernel
theorem dX12_part_92 : decode cX12_part 92 = .ok (.aload_n 0, 1) := by decide +kernel
theorem dX12_part_93 : decode cX12_part 93 = .ok (.iload_n 1, 1) := by decide +kernel
theorem dX12_part_94 : decode cX12_part 94 = .ok (.invokevirtual 98, 3) := by decide +kernel
theorem dX12_part_97 : decode cX12_part 97 = .ok (.invokevirtual 85, 3) := by decide +kernel
theorem dX12_part_100 : decode cX12_part 100 = .ok (.ifCond .eq 40, 3) := by decide +kernel
theorem dX12_part_103 : decode cX12_part 103 = .ok (.aload_n 0, 1) := by decide +kernel
theorem dX12_part_104 : decode cX12_part 104 = .ok (.getfield 7, 3) := by decide +kernel
theorem dX12_part_107 : decode cX12_part 107 = .ok (.sipush 770, 3) := by decide +kernel
theorem dX12_part_110 : decode cX12_part 110 = .ok (.iload_n 1, 1) := by decide +kernel
theorem dX12_part_111 : decode cX12_part 111 = .ok (.iadd, 1) := by decide +kernel
theorem dX12_part_112 : decode cX12_part 112 = .ok (.dup2, 1) := by decide +kernel
theorem dX12_part_113 : decode cX12_part 113 = .ok (.laload, 1) := by decide +kernel
theorem dX12_part_114 : decode cX12_part 114 = .ok (.lload_n 2, 1) := by decide +kernel
theorem dX12_part_115 : decode cX12_part 115 = .ok (.lsub, 1) := by decide +kernel
theorem dX12_part_116 : decode cX12_part 116 = .ok (.lastore, 1) := by decide +kernel
theorem dX12_part_117 : decode cX12_part 117 = .ok (.aload_n 0, 1) := by decide +kernel
theorem dX12_part_118 : decode cX12_part 118 = .ok (.getfield 7, 3) := by decide +kernel
theorem dX12_part_121 : decode cX12_part 121 = .ok (.sipush 790, 3) := by decide +kernel
theorem dX12_part_124 : decode cX12_part 124 = .ok (.iload_n 1, 1) := by decide +kernel
theorem dX12_part_125 : decode cX12_part 125 = .ok (.iadd, 1) := by decide +kernel
theorem dX12_part_126 : decode cX12_part 126 = .ok (.dup2, 1) := by decide +kernel
theorem dX12_part_127 : decode cX12_part 127 = .ok (.laload, 1) := by decide +kernel
theorem dX12_part_128 : decode cX12_part 128 = .ok (.lload 4, 2) := by decide +kernel
theorem dX12_part_130 : decode cX12_part 130 = .ok (.lsub, 1) := by decide +kernel
theorem dX12_part_131 : decode cX12_part 131 = .ok (.lastore, 1) := by decide +kernel
theorem dX12_part_132 : decode cX12_part 132 = .ok (.aload_n 0, 1) := by decide +kernel
theorem dX12_part_133 : decode cX12_part 133 = .ok (.iload_n 1, 1) := by decide +kernel
theorem dX12_part_134 : decode cX12_part 134 = .ok (.invokevirtual 90, 3) := by decide +kernel
theorem dX12_part_137 : decode cX12_part 137 = .ok (.goto 13, 3) := by decide +kernel
theorem dX12_part_140 : decode cX12_part 140 = .ok (.aload_n 0, 1) := by decide +kernel
theorem dX12_part_141 : decode cX12_part 141 = .ok (.iload_n 1, 1) := by decide +kernel
theorem dX12_part_142 : decode cX12_part 142 = .ok (.lload_n 2, 1) := by decide +kernel
theorem dX12_part_143 : decode cX12_part 143 = .ok (.lneg, 1) := by decide +kernel
theorem dX12_part_144 : decode cX12_part 144 = .ok (.lload 4, 2) := by decide +kernel
theorem dX12_part_146 : decode cX12_part 146 = .ok (.lneg, 1) := by decide +kernel
theorem dX12_part_147 : decode cX12_part 147 = .ok (.invokevirtual 145, 3) := by decide +kernel
theorem dX12_part_150 : decode cX12_part 150 = .ok (.return_, 1) := by decide +kernel
theorem dX12_cycle_0 : decode cX12_cycle 0 = .ok (.aload_n 0, 1) := by decide +kernel
theorem dX12_cycle_1 : decode cX12_cycle 1 = .ok (.iconst 0, 1) := by decide +kernel
theorem dX12_cycle_2 : decode cX12_cycle 2 = .ok (.invokevirtual 61, 3) := by decide +kernel
theorem dX12_cycle_5 : decode cX12_cycle 5 = .ok (.pop, 1) := by decide +kernel
theorem dX12_cycle_6 : decode cX12_cycle 6 = .ok (.aload_n 0, 1) := by decide +kernel
theorem dX12_cycle_7 : decode cX12_cycle 7 = .ok (.invokevirtual 177, 3) := by decide +kernel
theorem dX12_cycle_10 : decode cX12_cycle 10 = .ok (.aload_n 0, 1) := by decide +kernel
theorem dX12_cycle_11 : decode cX12_cycle 11 = .ok (.invokevirtual 180, 3) := by decide +kernel
theorem dX12_cycle_14 : decode cX12_cycle 14 = .ok (.aload_n 0, 1) := by decide +kernel
theorem dX12_cycle_15 : decode cX12_cycle 15 = .ok (.invokevirtual 183, 3) := by decide +kernel
theorem dX12_cycle_18 : decode cX12_cycle 18 = .ok (.istore_n 1, 1) := by decide +kernel
theorem dX12_cycle_19 : decode cX12_cycle 19 = .ok (.aload_n 0, 1) := by decide +kernel
theorem dX12_cycle_20 : decode cX12_cycle 20 = .ok (.iload_n 1, 1) := by decide +kernel
theorem dX12_cycle_21 : decode cX12_cycle 21 = .ok (.invokevirtual 161, 3) := by decide +kernel
theorem dX12_cycle_24 : decode cX12_cycle 24 = .ok (.istore_n 2, 1) := by decide +kernel
theorem dX12_cycle_25 : decode cX12_cycle 25 = .ok (.aload_n 0, 1) := by decide +kernel
theorem dX12_cycle_26 : decode cX12_cycle 26 = .ok (.iload_n 1, 1) := by decide +kernel
theorem dX12_cycle_27 : decode cX12_cycle 27 = .ok (.iconst 1, 1) := by decide +kernel
theorem dX12_cycle_28 : decode cX12_cycle 28 = .ok (.invokevirtual 152, 3) := by decide +kernel
theorem dX12_cycle_31 : decode cX12_cycle 31 = .ok (.iconst 0, 1) := by decide +kernel
theorem dX12_cycle_32 : decode cX12_cycle 32 = .ok (.istore_n 3, 1) := by decide +kernel
theorem dX12_cycle_33 : decode cX12_cycle 33 = .ok (.iload_n 3, 1) := by decide +kernel
theorem dX12_cycle_34 : decode cX12_cycle 34 = .ok (.aload_n 0, 1) := by decide +kernel
theorem dX12_cycle_35 : decode cX12_cycle 35 = .ok (.getfield 129, 3) := by decide +kernel
theorem dX12_cycle_38 : decode cX12_cycle 38 = .ok (.if_icmp .ge 29, 3) := by decide +kernel
theorem dX12_cycle_41 : decode cX12_cycle 41 = .ok (.iload_n 1, 1) := by decide +kernel
theorem dX12_cycle_42 : decode cX12_cycle 42 = .ok (.iload_n 3, 1) := by decide +kernel
theorem dX12_cycle_43 : decode cX12_cycle 43 = .ok (.ishr, 1) := by decide +kernel
theorem dX12_cycle_44 : decode cX12_cycle 44 = .ok (.iconst 1, 1) := by decide +kernel
theorem dX12_cycle_45 : decode cX12_cycle 45 = .ok (.iand, 1) := by decide +kernel
theorem dX12_cycle_46 : decode cX12_cycle 46 = .ok (.iconst 1, 1) := by decide +kernel
theorem dX12_cycle_47 : decode cX12_cycle 47 = .ok (.if_icmp .ne 14, 3) := by decide +kernel
theorem dX12_cycle_50 : decode cX12_cycle 50 = .ok (.aload_n 0, 1) := by decide +kernel
theorem dX12_cycle_51 : decode cX12_cycle 51 = .ok (.aload_n 0, 1) := by decide +kernel
theorem dX12_cycle_52 : decode cX12_cycle 52 = .ok (.getfield 20, 3) := by decide +kernel
theorem dX12_cycle_55 : decode cX12_cycle 55 = .ok (.iload_n 3, 1) := by decide +kernel
theorem dX12_cycle_56 : decode cX12_cycle 56 = .ok (.iaload, 1) := by decide +kernel
theorem dX12_cycle_57 : decode cX12_cycle 57 = .ok (.iconst 1, 1) := by decide +kernel
theorem dX12_cycle_58 : decode cX12_cycle 58 = .ok (.invokevirtual 122, 3) := by decide +kernel
theorem dX12_cycle_61 : decode cX12_cycle 61 = .ok (.iinc 3 1, 3) := by decide +kernel
theorem dX12_cycle_64 : decode cX12_cycle 64 = .ok (.goto (-31), 3) := by decide +kernel
theorem dX12_cycle_67 : decode cX12_cycle 67 = .ok (.iconst 0, 1) := by decide +kernel
theorem dX12_cycle_68 : decode cX12_cycle 68 = .ok (.istore_n 3, 1) := by decide +kernel
theorem dX12_cycle_69 : decode cX12_cycle 69 = .ok (.iload_n 3, 1) := by decide +kernel
theorem dX12_cycle_70 : decode cX12_cycle 70 = .ok (.aload_n 0, 1) := by decide +kernel
theorem dX12_cycle_71 : decode cX12_cycle 71 = .ok (.getfield 129, 3) := by decide +kernel
theorem dX12_cycle_74 : decode cX12_cycle 74 = .ok (.if_icmp .ge 50, 3) := by decide +kernel
theorem dX12_cycle_77 : decode cX12_cycle 77 = .ok (.iload_n 2, 1) := by decide +kernel
theorem dX12_cycle_78 : decode cX12_cycle 78 = .ok (.aload_n 0, 1) := by decide +kernel
theorem dX12_cycle_79 : decode cX12_cycle 79 = .ok (.getfield 7, 3) := by decide +kernel
theorem dX12_cycle_82 : decode cX12_cycle 82 = .ok (.sipush 870, 3) := by decide +kernel
theorem dX12_cycle_85 : decode cX12_cycle 85 = .ok (.aload_n 0, 1) := by decide +kernel
theorem dX12_cycle_86 : decode cX12_cycle 86 = .ok (.getfield 20, 3) := by decide +kernel
theorem dX12_cycle_89 : decode cX12_cycle 89 = .ok (.iload_n 3, 1) := by decide +kernel
theorem dX12_cycle_90 : decode cX12_cycle 90 = .ok (.iaload, 1) := by decide +kernel
theorem dX12_cycle_91 : decode cX12_cycle 91 = .ok (.iadd, 1) := by decide +kernel
theorem dX12_cycle_92 : decode cX12_cycle 92 = .ok (.laload, 1) := by decide +kernel
theorem dX12_cycle_93 : decode cX12_cycle 93 = .ok (.lconst 0, 1) := by decide +kernel
theorem dX12_cycle_94 : decode cX12_cycle 94 = .ok (.lcmp, 1) := by decide +kernel
theorem dX12_cycle_95 : decode cX12_cycle 95 = .ok (.ifCond .ne 20, 3) := by decide +kernel
theorem dX12_cycle_98 : decode cX12_cycle 98 = .ok (.aload_n 0, 1) := by decide +kernel
theorem dX12_cycle_99 : decode cX12_cycle 99 = .ok (.aload_n 0, 1) := by decide +kernel
theorem dX12_cycle_100 : decode cX12_cycle 100 = .ok (.getfield 20, 3) := by decide +kernel
theorem dX12_cycle_103 : decode cX12_cycle 103 = .ok (.iload_n 3, 1) := by decide +kernel
theorem dX12_cycle_104 : decode cX12_cycle 104 = .ok (.iaload, 1) := by decide +kernel
theorem dX12_cycle_105 : decode cX12_cycle 105 = .ok (.invokevirtual 187, 3) := by decide +kernel
theorem dX12_cycle_108 : decode cX12_cycle 108 = .ok (.ifCond .eq 7, 3) := by decide +kernel
theorem dX12_cycle_111 : decode cX12_cycle 111 = .ok (.iconst 1, 1) := by decide +kernel
theorem dX12_cycle_112 : decode cX12_cycle 112 = .ok (.goto 4, 3) := by decide +kernel
theorem dX12_cycle_115 : decode cX12_cycle 115 = .ok (.iconst 0, 1) := by decide +kernel
theorem dX12_cycle_116 : decode cX12_cycle 116 = .ok (.iadd, 1) := by decide +kernel
theorem dX12_cycle_117 : decode cX12_cycle 117 = .ok (.istore_n 2, 1) := by decide +kernel
theorem dX12_cycle_118 : decode cX12_cycle 118 = .ok (.iinc 3 1, 3) := by decide +kernel
theorem dX12_cycle_121 : decode cX12_cycle 121 = .ok (.goto (-52), 3) := by decide +kernel
theorem dX12_cycle_124 : decode cX12_cycle 124 = .ok (.iconst 0, 1) := by decide +kernel
theorem dX12_cycle_125 : decode cX12_cycle 125 = .ok (.istore_n 3, 1) := by decide +kernel
theorem dX12_cycle_126 : decode cX12_cycle 126 = .ok (.iload_n 3, 1) := by decide +kernel
theorem dX12_cycle_127 : decode cX12_cycle 127 = .ok (.aload_n 0, 1) := by decide +kernel
theorem dX12_cycle_128 : decode cX12_cycle 128 = .ok (.getfield 129, 3) := by decide +kernel
theorem dX12_cycle_131 : decode cX12_cycle 131 = .ok (.if_icmp .ge 72, 3) := by decide +kernel
theorem dX12_cycle_134 : decode cX12_cycle 134 = .ok (.aload_n 0, 1) := by decide +kernel
theorem dX12_cycle_135 : decode cX12_cycle 135 = .ok (.getfield 7, 3) := by decide +kernel
theorem dX12_cycle_138 : decode cX12_cycle 138 = .ok (.sipush 870, 3) := by decide +kernel
theorem dX12_cycle_141 : decode cX12_cycle 141 = .ok (.aload_n 0, 1) := by decide +kernel
theorem dX12_cycle_142 : decode cX12_cycle 142 = .ok (.getfield 20, 3) := by decide +kernel
theorem dX12_cycle_145 : decode cX12_cycle 145 = .ok (.iload_n 3, 1) := by decide +kernel
theorem dX12_cycle_146 : decode cX12_cycle 146 = .ok (.iaload, 1) := by decide +kernel
theorem dX12_cycle_147 : decode cX12_cycle 147 = .ok (.iadd, 1) := by decide +kernel
theorem dX12_cycle_148 : decode cX12_cycle 148 = .ok (.laload, 1) := by decide +kernel
theorem dX12_cycle_149 : decode cX12_cycle 149 = .ok (.lconst 0, 1) := by decide +kernel
theorem dX12_cycle_150 : decode cX12_cycle 150 = .ok (.lcmp, 1) := by decide +kernel
theorem dX12_cycle_151 : decode cX12_cycle 151 = .ok (.ifCond .ne 46, 3) := by decide +kernel
theorem dX12_cycle_154 : decode cX12_cycle 154 = .ok (.aload_n 0, 1) := by decide +kernel
theorem dX12_cycle_155 : decode cX12_cycle 155 = .ok (.getfield 7, 3) := by decide +kernel
theorem dX12_cycle_158 : decode cX12_cycle 158 = .ok (.sipush 830, 3) := by decide +kernel
theorem dX12_cycle_161 : decode cX12_cycle 161 = .ok (.aload_n 0, 1) := by decide +kernel
theorem dX12_cycle_162 : decode cX12_cycle 162 = .ok (.getfield 20, 3) := by decide +kernel
theorem dX12_cycle_165 : decode cX12_cycle 165 = .ok (.iload_n 3, 1) := by decide +kernel
theorem dX12_cycle_166 : decode cX12_cycle 166 = .ok (.iaload, 1) := by decide +kernel
theorem dX12_cycle_167 : decode cX12_cycle 167 = .ok (.iadd, 1) := by decide +kernel
theorem dX12_cycle_168 : decode cX12_cycle 168 = .ok (.laload, 1) := by decide +kernel
theorem dX12_cycle_169 : decode cX12_cycle 169 = .ok (.lconst 0, 1) := by decide +kernel
theorem dX12_cycle_170 : decode cX12_cycle 170 = .ok (.lcmp, 1) := by decide +kernel
theorem dX12_cycle_171 : decode cX12_cycle 171 = .ok (.ifCond .le 26, 3) := by decide +kernel
theorem dX12_cycle_174 : decode cX12_cycle 174 = .ok (.aload_n 0, 1) := by decide +kernel
theorem dX12_cycle_175 : decode cX12_cycle 175 = .ok (.aload_n 0, 1) := by decide +kernel
theorem dX12_cycle_176 : decode cX12_cycle 176 = .ok (.getfield 20, 3) := by decide +kernel
theorem dX12_cycle_179 : decode cX12_cycle 179 = .ok (.iload_n 3, 1) := by decide +kernel
theorem dX12_cycle_180 : decode cX12_cycle 180 = .ok (.iaload, 1) := by decide +kernel
theorem dX12_cycle_181 : decode cX12_cycle 181 = .ok (.invokevirtual 170, 3) := by decide +kernel
theorem dX12_cycle_184 : decode cX12_cycle 184 = .ok (.ifCond .ne 13, 3) := by decide +kernel
theorem dX12_cycle_187 : decode cX12_cycle 187 = .ok (.aload_n 0, 1) := by decide +kernel
theorem dX12_cycle_188 : decode cX12_cycle 188 = .ok (.aload_n 0, 1) := by decide +kernel
theorem dX12_cycle_189 : decode cX12_cycle 189 = .ok (.getfield 20, 3) := by decide +kernel
theorem dX12_cycle_192 : decode cX12_cycle 192 = .ok (.iload_n 3, 1) := by decide +kernel
theorem dX12_cycle_193 : decode cX12_cycle 193 = .ok (.iaload, 1) := by decide +kernel
theorem dX12_cycle_194 : decode cX12_cycle 194 = .ok (.invokevirtual 190, 3) := by decide +kernel
theorem dX12_cycle_197 : decode cX12_cycle 197 = .ok (.iinc 3 1, 3) := by decide +kernel
theorem dX12_cycle_200 : decode cX12_cycle 200 = .ok (.goto (-74), 3) := by decide +kernel
theorem dX12_cycle_203 : decode cX12_cycle 203 = .ok (.iload_n 2, 1) := by decide +kernel
theorem dX12_cycle_204 : decode cX12_cycle 204 = .ok (.ireturn, 1) := by decide +kernel
