theorem dX12_setPrice_0 : decode cX12_setPrice 0 = .ok (.aload_n 0, 1) := by decide +kernel
theorem dX12_setPrice_1 : decode cX12_setPrice 1 = .ok (.aload_n 0, 1) := by decide +kernel
theorem dX12_setPrice_2 : decode cX12_setPrice 2 = .ok (.iload_n 1, 1) := by decide +kernel
theorem dX12_setPrice_3 : decode cX12_setPrice 3 = .ok (.invokevirtual 78, 3) := by decide +kernel
theorem dX12_setPrice_6 : decode cX12_setPrice 6 = .ok (.ifCond .ne 7, 3) := by decide +kernel
theorem dX12_setPrice_9 : decode cX12_setPrice 9 = .ok (.iconst 1, 1) := by decide +kernel
theorem dX12_setPrice_10 : decode cX12_setPrice 10 = .ok (.goto 21, 3) := by decide +kernel
theorem dX12_setPrice_13 : decode cX12_setPrice 13 = .ok (.aload_n 0, 1) := by decide +kernel
theorem dX12_setPrice_14 : decode cX12_setPrice 14 = .ok (.iload_n 2, 1) := by decide +kernel
theorem dX12_setPrice_15 : decode cX12_setPrice 15 = .ok (.i2l, 1) := by decide +kernel
theorem dX12_setPrice_16 : decode cX12_setPrice 16 = .ok (.lconst 1, 1) := by decide +kernel
theorem dX12_setPrice_17 : decode cX12_setPrice 17 = .ok (.ldc2_w 72, 3) := by decide +kernel
theorem dX12_setPrice_20 : decode cX12_setPrice 20 = .ok (.invokevirtual 32, 3) := by decide +kernel
theorem dX12_setPrice_23 : decode cX12_setPrice 23 = .ok (.ifCond .eq 7, 3) := by decide +kernel
theorem dX12_setPrice_26 : decode cX12_setPrice 26 = .ok (.iconst 0, 1) := by decide +kernel
theorem dX12_setPrice_27 : decode cX12_setPrice 27 = .ok (.goto 4, 3) := by decide +kernel
theorem dX12_setPrice_30 : decode cX12_setPrice 30 = .ok (.iconst 2, 1) := by decide +kernel
theorem dX12_setPrice_31 : decode cX12_setPrice 31 = .ok (.invokevirtual 61, 3) := by decide +kernel
theorem dX12_setPrice_34 : decode cX12_setPrice 34 = .ok (.ifCond .eq 5, 3) := by decide +kernel
theorem dX12_setPrice_37 : decode cX12_setPrice 37 = .ok (.iconst (-1), 1) := by decide +kernel
theorem dX12_setPrice_38 : decode cX12_setPrice 38 = .ok (.ireturn, 1) := by decide +kernel
theorem dX12_setPrice_39 : decode cX12_setPrice 39 = .ok (.aload_n 0, 1) := by decide +kernel
theorem dX12_setPrice_40 : decode cX12_setPrice 40 = .ok (.getfield 7, 3) := by decide +kernel
theorem dX12_setPrice_43 : decode cX12_setPrice 43 = .ok (.sipush 184, 3) := by decide +kernel
theorem dX12_setPrice_46 : decode cX12_setPrice 46 = .ok (.iload_n 1, 1) := by decide +kernel
theorem dX12_setPrice_47 : decode cX12_setPrice 47 = .ok (.iadd, 1) := by decide +kernel
theorem dX12_setPrice_48 : decode cX12_setPrice 48 = .ok (.laload, 1) := by decide +kernel
theorem dX12_setPrice_49 : decode cX12_setPrice 49 = .ok (.l2i, 1) := by decide +kernel
theorem dX12_setPrice_50 : decode cX12_setPrice 50 = .ok (.istore_n 3, 1) := by decide +kernel
theorem dX12_setPrice_51 : decode cX12_setPrice 51 = .ok (.aload_n 0, 1) := by decide +kernel
theorem dX12_setPrice_52 : decode cX12_setPrice 52 = .ok (.getfield 7, 3) := by decide +kernel
theorem dX12_setPrice_55 : decode cX12_setPrice 55 = .ok (.sipush 184, 3) := by decide +kernel
theorem dX12_setPrice_58 : decode cX12_setPrice 58 = .ok (.iload_n 1, 1) := by decide +kernel
theorem dX12_setPrice_59 : decode cX12_setPrice 59 = .ok (.iadd, 1) := by decide +kernel
theorem dX12_setPrice_60 : decode cX12_setPrice 60 = .ok (.iload_n 2, 1) := by decide +kernel
theorem dX12_setPrice_61 : decode cX12_setPrice 61 = .ok (.i2l, 1) := by decide +kernel
theorem dX12_setPrice_62 : decode cX12_setPrice 62 = .ok (.lastore, 1) := by decide +kernel
theorem dX12_setPrice_63 : decode cX12_setPrice 63 = .ok (.iload_n 3, 1) := by decide +kernel
theorem dX12_setPrice_64 : decode cX12_setPrice 64 = .ok (.ireturn, 1) := by decide +kernel
theorem dX12_block_0 : decode cX12_block 0 = .ok (.aload_n 0, 1) := by decide +kernel
theorem dX12_block_1 : decode cX12_block 1 = .ok (.iload_n 1, 1) := by decide +kernel
theorem dX12_block_2 : decode cX12_block 2 = .ok (.invokevirtual 55, 3) := by decide +kernel
theorem dX12_block_5 : decode cX12_block 5 = .ok (.ifCond .eq 15, 3) := by decide +kernel
theorem dX12_block_8 : decode cX12_block 8 = .ok (.aload_n 0, 1) := by decide +kernel
theorem dX12_block_9 : decode cX12_block 9 = .ok (.iload_n 2, 1) := by decide +kernel
theorem dX12_block_10 : decode cX12_block 10 = .ok (.invokevirtual 78, 3) := by decide +kernel
theorem dX12_block_13 : decode cX12_block 13 = .ok (.ifCond .eq 7, 3) := by decide +kernel
theorem dX12_block_16 : decode cX12_block 16 = .ok (.iconst 1, 1) := by decide +kernel
theorem dX12_block_17 : decode cX12_block 17 = .ok (.goto 4, 3) := by decide +kernel
theorem dX12_block_20 : decode cX12_block 20 = .ok (.iconst 0, 1) := by decide +kernel
theorem dX12_block_21 : decode cX12_block 21 = .ok (.istore 4, 2) := by decide +kernel
theorem dX12_block_23 : decode cX12_block 23 = .ok (.aload_n 0, 1) := by decide +kernel
theorem dX12_block_24 : decode cX12_block 24 = .ok (.iload 4, 2) := by decide +kernel
theorem dX12_block_26 : decode cX12_block 26 = .ok (.ifCond .ne 7, 3) := by decide +kernel
theorem dX12_block_29 : decode cX12_block 29 = .ok (.iconst 1, 1) := by decide +kernel
theorem dX12_block_30 : decode cX12_block 30 = .ok (.goto 35, 3) := by decide +kernel
theorem dX12_block_33 : decode cX12_block 33 = .ok (.iload_n 3, 1) := by decide +kernel
theorem dX12_block_34 : decode cX12_block 34 = .ok (.ifCond .ge 7, 3) := by decide +kernel
theorem dX12_block_37 : decode cX12_block 37 = .ok (.iconst 2, 1) := by decide +kernel
theorem dX12_block_38 : decode cX12_block 38 = .ok (.goto 27, 3) := by decide +kernel
theorem dX12_block_41 : decode cX12_block 41 = .ok (.iload_n 3, 1) := by decide +kernel
theorem dX12_block_42 : decode cX12_block 42 = .ok (.i2l, 1) := by decide +kernel
theorem dX12_block_43 : decode cX12_block 43 = .ok (.aload_n 0, 1) := by decide +kernel
theorem dX12_block_44 : decode cX12_block 44 = .ok (.getfield 7, 3) := by decide +kernel
theorem dX12_block_47 : decode cX12_block 47 = .ok (.bipush 100, 2) := by decide +kernel
theorem dX12_block_49 : decode cX12_block 49 = .ok (.iconst 4, 1) := by decide +kernel
theorem dX12_block_50 : decode cX12_block 50 = .ok (.iload_n 1, 1) := by decide +kernel
theorem dX12_block_51 : decode cX12_block 51 = .ok (.imul, 1) := by decide +kernel
theorem dX12_block_52 : decode cX12_block 52 = .ok (.iadd, 1) := by decide +kernel
theorem dX12_block_53 : decode cX12_block 53 = .ok (.iload_n 2, 1) := by decide +kernel
theorem dX12_block_54 : decode cX12_block 54 = .ok (.iadd, 1) := by decide +kernel
theorem dX12_block_55 : decode cX12_block 55 = .ok (.laload, 1) := by decide +kernel
theorem dX12_block_56 : decode cX12_block 56 = .ok (.lcmp, 1) := by decide +kernel
theorem dX12_block_57 : decode cX12_block 57 = .ok (.ifCond .le 7, 3) := by decide +kernel
theorem dX12_block_60 : decode cX12_block 60 = .ok (.iconst 3, 1) := by decide +kernel
theorem dX12_block_61 : decode cX12_block 61 = .ok (.goto 4, 3) := by decide +kernel
theorem dX12_block_64 : decode cX12_block 64 = .ok (.iconst 0, 1) := by decide +kernel
theorem dX12_block_65 : decode cX12_block 65 = .ok (.invokevirtual 61, 3) := by decide +kernel
theorem dX12_block_68 : decode cX12_block 68 = .ok (.ifCond .eq 7, 3) := by decide +kernel
theorem dX12_block_71 : decode cX12_block 71 = .ok (.ldc2_w 81, 3) := by decide +kernel
theorem dX12_block_74 : decode cX12_block 74 = .ok (.lreturn, 1) := by decide +kernel
theorem dX12_block_75 : decode cX12_block 75 = .ok (.aload_n 0, 1) := by decide +kernel
theorem dX12_block_76 : decode cX12_block 76 = .ok (.getfield 7, 3) := by decide +kernel
theorem dX12_block_79 : decode cX12_block 79 = .ok (.sipush 140, 3) := by decide +kernel
theorem dX12_block_82 : decode cX12_block 82 = .ok (.iconst 4, 1) := by decide +kernel
theorem dX12_block_83 : decode cX12_block 83 = .ok (.iload_n 1, 1) := by decide +kernel
theorem dX12_block_84 : decode cX12_block 84 = .ok (.imul, 1) := by decide +kernel
theorem dX12_block_85 : decode cX12_block 85 = .ok (.iadd, 1) := by decide +kernel
theorem dX12_block_86 : decode cX12_block 86 = .ok (.iload_n 2, 1) := by decide +kernel
theorem dX12_block_87 : decode cX12_block 87 = .ok (.iadd, 1) := by decide +kernel
theorem dX12_block_88 : decode cX12_block 88 = .ok (.laload, 1) := by decide +kernel
theorem dX12_block_89 : decode cX12_block 89 = .ok (.lstore 5, 2) := by decide +kernel
theorem dX12_block_91 : decode cX12_block 91 = .ok (.aload_n 0, 1) := by decide +kernel
theorem dX12_block_92 : decode cX12_block 92 = .ok (.getfield 7, 3) := by decide +kernel
theorem dX12_block_95 : decode cX12_block 95 = .ok (.sipush 140, 3) := by decide +kernel
theorem dX12_block_98 : decode cX12_block 98 = .ok (.iconst 4, 1) := by decide +kernel
theorem dX12_block_99 : decode cX12_block 99 = .ok (.iload_n 1, 1) := by decide +kernel
theorem dX12_block_100 : decode cX12_block 100 = .ok (.imul, 1) := by decide +kernel
theorem dX12_block_101 : decode cX12_block 101 = .ok (.iadd, 1) := by decide +kernel
theorem dX12_block_102 : decode cX12_block 102 = .ok (.iload_n 2, 1) := by decide +kernel
theorem dX12_block_103 : decode cX12_block 103 = .ok (.iadd, 1) := by decide +kernel
theorem dX12_block_104 : decode cX12_block 104 = .ok (.iload_n 3, 1) := by decide +kernel
theorem dX12_block_105 : decode cX12_block 105 = .ok (.i2l, 1) := by decide +kernel
theorem dX12_block_106 : decode cX12_block 106 = .ok (.lastore, 1) := by decide +kernel
theorem dX12_block_107 : decode cX12_block 107 = .ok (.lload 5, 2) := by decide +kernel
theorem dX12_block_109 : decode cX12_block 109 = .ok (.lreturn, 1) := by decide +kernel
theorem dX12_bring_0 : decode cX12_bring 0 = .ok (.aload_n 0, 1) := by decide +kernel
theorem dX12_bring_1 : decode cX12_bring 1 = .ok (.iload_n 1, 1) := by decide +kernel
theorem dX12_bring_2 : decode cX12_bring 2 = .ok (.invokevirtual 55, 3) := by decide +kernel
theorem dX12_bring_5 : decode cX12_bring 5 = .ok (.istore_n 3, 1) := by decide +kernel
theorem dX12_bring_6 : decode cX12_bring 6 = .ok (.aload_n 0, 1) := by decide +kernel
theorem dX12_bring_7 : decode cX12_bring 7 = .ok (.iload_n 2, 1) := by decide +kernel
theorem dX12_bring_8 : decode cX12_bring 8 = .ok (.i2l, 1) := by decide +kernel
theorem dX12_bring_9 : decode cX12_bring 9 = .ok (.ldc2_w 83, 3) := by decide +kernel
theorem dX12_bring_12 : decode cX12_bring 12 = .ok (.ldc2_w 53, 3) := by decide +kernel
theorem dX12_bring_15 : decode cX12_bring 15 = .ok (.invokevirtual 32, 3) := by decide +kernel
theorem dX12_bring_18 : decode cX12_bring 18 = .ok (.istore 4, 2) := by decide +kernel
theorem dX12_bring_20 : decode cX12_bring 20 = .ok (.aload_n 0, 1) := by decide +kernel
theorem dX12_bring_21 : decode cX12_bring 21 = .ok (.getfield 7, 3) := by decide +kernel
theorem dX12_bring_24 : decode cX12_bring 24 = .ok (.bipush 30, 2) := by decide +kernel
theorem dX12_bring_26 : decode cX12_bring 26 = .ok (.iload_n 3, 1) := by decide +kernel
theorem dX12_bring_27 : decode cX12_bring 27 = .ok (.ifCond .eq 7, 3) := by decide +kernel
theorem dX12_bring_30 : decode cX12_bring 30 = .ok (.iload_n 1, 1) := by decide +kernel
theorem dX12_bring_31 : decode cX12_bring 31 = .ok (.goto 4, 3) := by decide +kernel
theorem dX12_bring_34 : decode cX12_bring 34 = .ok (.iconst 0, 1) := by decide +kernel
theorem dX12_bring_35 : decode cX12_bring 35 = .ok (.iadd, 1) := by decide +kernel
theorem dX12_bring_36 : decode cX12_bring 36 = .ok (.dup2, 1) := by decide +kernel
theorem dX12_bring_37 : decode cX12_bring 37 = .ok (.laload, 1) := by decide +kernel
theorem dX12_bring_38 : decode cX12_bring 38 = .ok (.iload_n 3, 1) := by decide +kernel
theorem dX12_bring_39 : decode cX12_bring 39 = .ok (.ifCond .eq 13, 3) := by decide +kernel
theorem dX12_bring_42 : decode cX12_bring 42 = .ok (.iload 4, 2) := by decide +kernel
theorem dX12_bring_44 : decode cX12_bring 44 = .ok (.ifCond .eq 8, 3) := by decide +kernel
theorem dX12_bring_47 : decode cX12_bring 47 = .ok (.iload_n 2, 1) := by decide +kernel
theorem dX12_bring_48 : decode cX12_bring 48 = .ok (.i2l, 1) := by decide +kernel
theorem dX12_bring_49 : decode cX12_bring 49 = .ok (.goto 4, 3) := by decide +kernel
theorem dX12_bring_52 : decode cX12_bring 52 = .ok (.lconst 0, 1) := by decide +kernel
theorem dX12_bring_53 : decode cX12_bring 53 = .ok (.ladd, 1) := by decide +kernel
theorem dX12_bring_54 : decode cX12_bring 54 = .ok (.lastore, 1) := by decide +kernel
theorem dX12_bring_55 : decode cX12_bring 55 = .ok (.iload_n 3, 1) := by decide +kernel
theorem dX12_bring_56 : decode cX12_bring 56 = .ok (.ifCond .eq 24, 3) := by decide +kernel
theorem dX12_bring_59 : decode cX12_bring 59 = .ok (.iload 4, 2) := by decide +kernel
theorem dX12_bring_61 : decode cX12_bring 61 = .ok (.ifCond .eq 19, 3) := by decide +kernel
theorem dX12_bring_64 : decode cX12_bring 64 = .ok (.iload_n 2, 1) := by decide +kernel
theorem dX12_bring_65 : decode cX12_bring 65 = .ok (.ifCond .ge 15, 3) := by decide +kernel
theorem dX12_bring_68 : decode cX12_bring 68 = .ok (.aload_n 0, 1) := by decide +kernel
theorem dX12_bring_69 : decode cX12_bring 69 = .ok (.iload_n 1, 1) := by decide +kernel
theorem dX12_bring_70 : decode cX12_bring 70 = .ok (.invokevirtual 85, 3) := by decide +kernel
theorem dX12_bring_73 : decode cX12_bring 73 = .ok (.ifCond .ne 7, 3) := by decide +kernel
theorem dX12_bring_76 : decode cX12_bring 76 = .ok (.iconst 1, 1) := by decide +kernel
theorem dX12_bring_77 : decode cX12_bring 77 = .ok (.goto 4, 3) := by decide +kernel
theorem dX12_bring_80 : decode cX12_bring 80 = .ok (.iconst 0, 1) := by decide +kernel
theorem dX12_bring_81 : decode cX12_bring 81 = .ok (.istore 5, 2) := by decide +kernel
theorem dX12_bring_83 : decode cX12_bring 83 = .ok (.aload_n 0, 1) := by decide +kernel
theorem dX12_bring_84 : decode cX12_bring 84 = .ok (.getfield 7, 3) := by decide +kernel
theorem dX12_bring_87 : decode cX12_bring 87 = .ok (.bipush 30, 2) := by decide +kernel
theorem dX12_bring_89 : decode cX12_bring 89 = .ok (.iload_n 3, 1) := by decide +kernel
theorem dX12_bring_90 : decode cX12_bring 90 = .ok (.ifCond .eq 7, 3) := by decide +kernel
theorem dX12_bring_93 : decode cX12_bring 93 = .ok (.iload_n 1, 1) := by decide +kernel
theorem dX12_bring_94 : decode cX12_bring 94 = .ok (.goto 4, 3) := by decide +kernel
theorem dX12_bring_97 : decode cX12_bring 97 = .ok (.iconst 0, 1) := by decide +kernel
theorem dX12_bring_98 : decode cX12_bring 98 = .ok (.iadd, 1) := by decide +kernel
theorem dX12_bring_99 : decode cX12_bring 99 = .ok (.dup2, 1) := by decide +kernel
theorem dX12_bring_100 : decode cX12_bring 100 = .ok (.laload, 1) := by decide +kernel
theorem dX12_bring_101 : decode cX12_bring 101 = .ok (.iload 5, 2) := by decide +kernel
theorem dX12_bring_103 : decode cX12_bring 103 = .ok (.ifCond .eq 8, 3) := by decide +kernel
theorem dX12_bring_106 : decode cX12_bring 106 = .ok (.iload_n 2, 1) := by decide +kernel
theorem dX12_bring_107 : decode cX12_bring 107 = .ok (.i2l, 1) := by decide +kernel
theorem dX12_bring_108 : decode cX12_bring 108 = .ok (.goto 4, 3) := by decide +kernel
theorem dX12_bring_111 : decode cX12_bring 111 = .ok (.lconst 0, 1) := by decide +kernel
theorem dX12_bring_112 : decode cX12_bring 112 = .ok (.lsub, 1) := by decide +kernel
theorem dX12_bring_113 : decode cX12_bring 113 = .ok (.lastore, 1) := by decide +kernel
theorem dX12_bring_114 : decode cX12_bring 114 = .ok (.aload_n 0, 1) := by decide +kernel
theorem dX12_bring_115 : decode cX12_bring 115 = .ok (.iload_n 3, 1) := by decide +kernel
theorem dX12_bring_116 : decode cX12_bring 116 = .ok (.ifCond .ne 7, 3) := by decide +kernel
theorem dX12_bring_119 : decode cX12_bring 119 = .ok (.iconst 1, 1) := by decide +kernel
theorem dX12_bring_120 : decode cX12_bring 120 = .ok (.goto 22, 3) := by decide +kernel
theorem dX12_bring_123 : decode cX12_bring 123 = .ok (.iload 4, 2) := by decide +kernel
theorem dX12_bring_125 : decode cX12_bring 125 = .ok (.ifCond .ne 7, 3) := by decide +kernel
theorem dX12_bring_128 : decode cX12_bring 128 = .ok (.iconst 2, 1) := by decide +kernel
theorem dX12_bring_129 : decode cX12_bring 129 = .ok (.goto 13, 3) := by decide +kernel
theorem dX12_bring_132 : decode cX12_bring 132 = .ok (.iload 5, 2) := by decide +kernel
theorem dX12_bring_134 : decode cX12_bring 134 = .ok (.ifCond .eq 7, 3) := by decide +kernel
theorem dX12_bring_137 : decode cX12_bring 137 = .ok (.iconst 3, 1) := by decide +kernel
theorem dX12_bring_138 : decode cX12_bring 138 = .ok (.goto 4, 3) := by decide +kernel
theorem dX12_bring_141 : decode cX12_bring 141 = .ok (.iconst 0, 1) := by decide +kernel
theorem dX12_bring_142 : decode cX12_bring 142 = .ok (.invokevirtual 61, 3) := by decide +kernel
theorem dX12_bring_145 : decode cX12_bring 145 = .ok (.ifCond .eq 7, 3) := by decide +kernel
theorem dX12_bring_148 : decode cX12_bring 148 = .ok (.ldc2_w 81, 3) := by decide +kernel
theorem dX12_bring_151 : decode cX12_bring 151 = .ok (.lreturn, 1) := by decide +kernel
theorem dX12_bring_152 : decode cX12_bring 152 = .ok (.aload_n 0, 1) := by decide +kernel
theorem dX12_bring_153 : decode cX12_bring 153 = .ok (.getfield 7, 3) := by decide +kernel
theorem dX12_bring_156 : decode cX12_bring 156 = .ok (.bipush 30, 2) := by decide +kernel
theorem dX12_bring_158 : decode cX12_bring 158 = .ok (.iload_n 1, 1) := by decide +kernel
theorem dX12_bring_159 : decode cX12_bring 159 = .ok (.iadd, 1) := by decide +kernel
theorem dX12_bring_160 : decode cX12_bring 160 = .ok (.laload, 1) := by decide +kernel
theorem dX12_bring_161 : decode cX12_bring 161 = .ok (.lreturn, 1) := by decide +kernel
theorem dX12_mate_0 : decode cX12_mate 0 = .ok (.iconst (-1), 1) := by decide +kernel
theorem dX12_mate_1 : decode cX12_mate 1 = .ok (.istore_n 2, 1) := by decide +kernel
theorem dX12_mate_2 : decode cX12_mate 2 = .ok (.ldc2_w 88, 3) := by decide +kernel
theorem dX12_mate_5 : decode cX12_mate 5 = .ok (.lstore_n 3, 1) := by decide +kernel
theorem dX12_mate_6 : decode cX12_mate 6 = .ok (.iconst 0, 1) := by decide +kernel
theorem dX12_mate_7 : decode cX12_mate 7 = .ok (.istore 5, 2) := by decide +kernel
theorem dX12_mate_9 : decode cX12_mate 9 = .ok (.iload 5, 2) := by decide +kernel
theorem dX12_mate_11 : decode cX12_mate 11 = .ok (.i2l, 1) := by decide +kernel
theorem dX12_mate_12 : decode cX12_mate 12 = .ok (.aload_n 0, 1) := by decide +kernel
theorem dX12_mate_13 : decode cX12_mate 13 = .ok (.getfield 7, 3) := by decide +kernel
theorem dX12_mate_16 : decode cX12_mate 16 = .ok (.sipush 1542, 3) := by decide +kernel
theorem dX12_mate_19 : decode cX12_mate 19 = .ok (.laload, 1) := by decide +kernel
theorem dX12_mate_20 : decode cX12_mate 20 = .ok (.lcmp, 1) := by decide +kernel
theorem dX12_mate_21 : decode cX12_mate 21 = .ok (.ifCond .ge 292, 3) := by decide +kernel
theorem dX12_mate_24 : decode cX12_mate 24 = .ok (.aload_n 0, 1) := by decide +kernel
theorem dX12_mate_25 : decode cX12_mate 25 = .ok (.getfield 7, 3) := by decide +kernel
theorem dX12_mate_28 : decode cX12_mate 28 = .ok (.sipush 210, 3) := by decide +kernel
theorem dX12_mate_31 : decode cX12_mate 31 = .ok (.iload 5, 2) := by decide +kernel
theorem dX12_mate_33 : decode cX12_mate 33 = .ok (.iadd, 1) := by decide +kernel
theorem dX12_mate_34 : decode cX12_mate 34 = .ok (.laload, 1) := by decide +kernel
theorem dX12_mate_35 : decode cX12_mate 35 = .ok (.aload_n 0, 1) := by decide +kernel
theorem dX12_mate_36 : decode cX12_mate 36 = .ok (.getfield 7, 3) := by decide +kernel
theorem dX12_mate_39 : decode cX12_mate 39 = .ok (.sipush 250, 3) := by decide +kernel
theorem dX12_mate_42 : decode cX12_mate 42 = .ok (.iload_n 1, 1) := by decide +kernel
theorem dX12_mate_43 : decode cX12_mate 43 = .ok (.iadd, 1) := by decide +kernel
theorem dX12_mate_44 : decode cX12_mate 44 = .ok (.laload, 1) := by decide +kernel
theorem dX12_mate_45 : decode cX12_mate 45 = .ok (.lcmp, 1) := by decide +kernel
theorem dX12_mate_46 : decode cX12_mate 46 = .ok (.ifCond .ne 57, 3) := by decide +kernel
theorem dX12_mate_49 : decode cX12_mate 49 = .ok (.aload_n 0, 1) := by decide +kernel
theorem dX12_mate_50 : decode cX12_mate 50 = .ok (.getfield 7, 3) := by decide +kernel
theorem dX12_mate_53 : decode cX12_mate 53 = .ok (.sipush 250, 3) := by decide +kernel
theorem dX12_mate_56 : decode cX12_mate 56 = .ok (.iload 5, 2) := by decide +kernel
theorem dX12_mate_58 : decode cX12_mate 58 = .ok (.iadd, 1) := by decide +kernel
theorem dX12_mate_59 : decode cX12_mate 59 = .ok (.laload, 1) := by decide +kernel
theorem dX12_mate_60 : decode cX12_mate 60 = .ok (.aload_n 0, 1) := by decide +kernel
theorem dX12_mate_61 : decode cX12_mate 61 = .ok (.getfield 7, 3) := by decide +kernel
theorem dX12_mate_64 : decode cX12_mate 64 = .ok (.sipush 210, 3) := by decide +kernel
theorem dX12_mate_67 : decode cX12_mate 67 = .ok (.iload_n 1, 1) := by decide +kernel
theorem dX12_mate_68 : decode cX12_mate 68 = .ok (.iadd, 1) := by decide +kernel
theorem dX12_mate_69 : decode cX12_mate 69 = .ok (.laload, 1) := by decide +kernel
theorem dX12_mate_70 : decode cX12_mate 70 = .ok (.lcmp, 1) := by decide +kernel
theorem dX12_mate_71 : decode cX12_mate 71 = .ok (.ifCond .ne 32, 3) := by decide +kernel
theorem dX12_mate_74 : decode cX12_mate 74 = .ok (.aload_n 0, 1) := by decide +kernel
theorem dX12_mate_75 : decode cX12_mate 75 = .ok (.getfield 7, 3) := by decide +kernel
theorem dX12_mate_78 : decode cX12_mate 78 = .ok (.sipush 290, 3) := by decide +kernel
theorem dX12_mate_81 : decode cX12_mate 81 = .ok (.iload 5, 2) := by decide +kernel
theorem dX12_mate_83 : decode cX12_mate 83 = .ok (.iadd, 1) := by decide +kernel
theorem dX12_mate_84 : decode cX12_mate 84 = .ok (.laload, 1) := by decide +kernel
theorem dX12_mate_85 : decode cX12_mate 85 = .ok (.aload_n 0, 1) := by decide +kernel
theorem dX12_mate_86 : decode cX12_mate 86 = .ok (.getfield 7, 3) := by decide +kernel
theorem dX12_mate_89 : decode cX12_mate 89 = .ok (.sipush 290, 3) := by decide +kernel
theorem dX12_mate_92 : decode cX12_mate 92 = .ok (.iload_n 1, 1) := by decide +kernel
theorem dX12_mate_93 : decode cX12_mate 93 = .ok (.iadd, 1) := by decide +kernel
theorem dX12_mate_94 : decode cX12_mate 94 = .ok (.laload, 1) := by decide +kernel
theorem dX12_mate_95 : decode cX12_mate 95 = .ok (.lcmp, 1) := by decide +kernel
theorem dX12_mate_96 : decode cX12_mate 96 = .ok (.ifCond .eq 7, 3) := by decide +kernel
theorem dX12_mate_99 : decode cX12_mate 99 = .ok (.iconst 1, 1) := by decide +kernel
theorem dX12_mate_100 : decode cX12_mate 100 = .ok (.goto 4, 3) := by decide +kernel
theorem dX12_mate_103 : decode cX12_mate 103 = .ok (.iconst 0, 1) := by decide +kernel
theorem dX12_mate_104 : decode cX12_mate 104 = .ok (.istore 6, 2) := by decide +kernel
theorem dX12_mate_106 : decode cX12_mate 106 = .ok (.aload_n 0, 1) := by decide +kernel
theorem dX12_mate_107 : decode cX12_mate 107 = .ok (.getfield 7, 3) := by decide +kernel
theorem dX12_mate_110 : decode cX12_mate 110 = .ok (.sipush 330, 3) := by decide +kernel
theorem dX12_mate_113 : decode cX12_mate 113 = .ok (.iload 5, 2) := by decide +kernel
theorem dX12_mate_115 : decode cX12_mate 115 = .ok (.iadd, 1) := by decide +kernel
theorem dX12_mate_116 : decode cX12_mate 116 = .ok (.laload, 1) := by decide +kernel
theorem dX12_mate_117 : decode cX12_mate 117 = .ok (.aload_n 0, 1) := by decide +kernel
theorem dX12_mate_118 : decode cX12_mate 118 = .ok (.getfield 7, 3) := by decide +kernel
theorem dX12_mate_121 : decode cX12_mate 121 = .ok (.sipush 330, 3) := by decide +kernel
theorem dX12_mate_124 : decode cX12_mate 124 = .ok (.iload_n 1, 1) := by decide +kernel
theorem dX12_mate_125 : decode cX12_mate 125 = .ok (.iadd, 1) := by decide +kernel
theorem dX12_mate_126 : decode cX12_mate 126 = .ok (.laload, 1) := by decide +kernel
theorem dX12_mate_127 : decode cX12_mate 127 = .ok (.lcmp, 1) := by decide +kernel
theorem dX12_mate_128 : decode cX12_mate 128 = .ok (.ifCond .ne 57, 3) := by decide +kernel
theorem dX12_mate_131 : decode cX12_mate 131 = .ok (.aload_n 0, 1) := by decide +kernel
theorem dX12_mate_132 : decode cX12_mate 132 = .ok (.getfield 7, 3) := by decide +kernel
theorem dX12_mate_135 : decode cX12_mate 135 = .ok (.sipush 370, 3) := by decide +kernel
theorem dX12_mate_138 : decode cX12_mate 138 = .ok (.iload 5, 2) := by decide +kernel
theorem dX12_mate_140 : decode cX12_mate 140 = .ok (.iadd, 1) := by decide +kernel
theorem dX12_mate_141 : decode cX12_mate 141 = .ok (.laload, 1) := by decide +kernel
theorem dX12_mate_142 : decode cX12_mate 142 = .ok (.aload_n 0, 1) := by decide +kernel
theorem dX12_mate_143 : decode cX12_mate 143 = .ok (.getfield 7, 3) := by decide +kernel
theorem dX12_mate_146 : decode cX12_mate 146 = .ok (.sipush 370, 3) := by decide +kernel
theorem dX12_mate_149 : decode cX12_mate 149 = .ok (.iload_n 1, 1) := by decide +kernel
theorem dX12_mate_150 : decode cX12_mate 150 = .ok (.iadd, 1) := by decide +kernel
theorem dX12_mate_151 : decode cX12_mate 151 = .ok (.laload, 1) := by decide +kernel
theorem dX12_mate_152 : decode cX12_mate 152 = .ok (.lcmp, 1) := by decide +kernel
theorem dX12_mate_153 : decode cX12_mate 153 = .ok (.ifCond .ne 32, 3) := by decide +kernel
theorem dX12_mate_156 : decode cX12_mate 156 = .ok (.aload_n 0, 1) := by decide +kernel
theorem dX12_mate_157 : decode cX12_mate 157 = .ok (.getfield 7, 3) := by decide +kernel
theorem dX12_mate_160 : decode cX12_mate 160 = .ok (.sipush 450, 3) := by decide +kernel
theorem dX12_mate_163 : decode cX12_mate 163 = .ok (.iload 5, 2) := by decide +kernel
theorem dX12_mate_165 : decode cX12_mate 165 = .ok (.iadd, 1) := by decide +kernel
theorem dX12_mate_166 : decode cX12_mate 166 = .ok (.laload, 1) := by decide +kernel
theorem dX12_mate_167 : decode cX12_mate 167 = .ok (.aload_n 0, 1) := by decide +kernel
theorem dX12_mate_168 : decode cX12_mate 168 = .ok (.getfield 7, 3) := by decide +kernel
theorem dX12_mate_171 : decode cX12_mate 171 = .ok (.sipush 450, 3) := by decide +kernel
theorem dX12_mate_174 : decode cX12_mate 174 = .ok (.iload_n 1, 1) := by decide +kernel
theorem dX12_mate_175 : decode cX12_mate 175 = .ok (.iadd, 1) := by decide +kernel
theorem dX12_mate_176 : decode cX12_mate 176 = .ok (.laload, 1) := by decide +kernel
theorem dX12_mate_177 : decode cX12_mate 177 = .ok (.lcmp, 1) := by decide +kernel
theorem dX12_mate_178 : decode cX12_mate 178 = .ok (.ifCond .ne 7, 3) := by decide +kernel
theorem dX12_mate_181 : decode cX12_mate 181 = .ok (.iconst 1, 1) := by decide +kernel
theorem dX12_mate_182 : decode cX12_mate 182 = .ok (.goto 4, 3) := by decide +kernel
theorem dX12_mate_185 : decode cX12_mate 185 = .ok (.iconst 0, 1) := by decide +kernel
theorem dX12_mate_186 : decode cX12_mate 186 = .ok (.istore 7, 2) := by decide +kernel
theorem dX12_mate_188 : decode cX12_mate 188 = .ok (.aload_n 0, 1) := by decide +kernel
theorem dX12_mate_189 : decode cX12_mate 189 = .ok (.getfield 7, 3) := by decide +kernel
theorem dX12_mate_192 : decode cX12_mate 192 = .ok (.sipush 410, 3) := by decide +kernel
theorem dX12_mate_195 : decode cX12_mate 195 = .ok (.iload 5, 2) := by decide +kernel
theorem dX12_mate_197 : decode cX12_mate 197 = .ok (.iadd, 1) := by decide +kernel
theorem dX12_mate_198 : decode cX12_mate 198 = .ok (.laload, 1) := by decide +kernel
theorem dX12_mate_199 : decode cX12_mate 199 = .ok (.aload_n 0, 1) := by decide +kernel
theorem dX12_mate_200 : decode cX12_mate 200 = .ok (.getfield 7, 3) := by decide +kernel
theorem dX12_mate_203 : decode cX12_mate 203 = .ok (.sipush 410, 3) := by decide +kernel
theorem dX12_mate_206 : decode cX12_mate 206 = .ok (.iload_n 1, 1) := by decide +kernel
theorem dX12_mate_207 : decode cX12_mate 207 = .ok (.iadd, 1) := by decide +kernel
theorem dX12_mate_208 : decode cX12_mate 208 = .ok (.laload, 1) := by decide +kernel
theorem dX12_mate_209 : decode cX12_mate 209 = .ok (.lcmp, 1) := by decide +kernel
theorem dX12_mate_210 : decode cX12_mate 210 = .ok (.ifCond .ge 28, 3) := by decide +kernel
theorem dX12_mate_213 : decode cX12_mate 213 = .ok (.aload_n 0, 1) := by decide +kernel
theorem dX12_mate_214 : decode cX12_mate 214 = .ok (.getfield 7, 3) := by decide +kernel
theorem dX12_mate_217 : decode cX12_mate 217 = .ok (.sipush 410, 3) := by decide +kernel
theorem dX12_mate_220 : decode cX12_mate 220 = .ok (.iload_n 1, 1) := by decide +kernel
theorem dX12_mate_221 : decode cX12_mate 221 = .ok (.iadd, 1) := by decide +kernel
theorem dX12_mate_222 : decode cX12_mate 222 = .ok (.laload, 1) := by decide +kernel
theorem dX12_mate_223 : decode cX12_mate 223 = .ok (.aload_n 0, 1) := by decide +kernel
theorem dX12_mate_224 : decode cX12_mate 224 = .ok (.getfield 7, 3) := by decide +kernel
theorem dX12_mate_227 : decode cX12_mate 227 = .ok (.sipush 410, 3) := by decide +kernel
theorem dX12_mate_230 : decode cX12_mate 230 = .ok (.iload 5, 2) := by decide +kernel
theorem dX12_mate_232 : decode cX12_mate 232 = .ok (.iadd, 1) := by decide +kernel
theorem dX12_mate_233 : decode cX12_mate 233 = .ok (.laload, 1) := by decide +kernel
theorem dX12_mate_234 : decode cX12_mate 234 = .ok (.lsub, 1) := by decide +kernel
theorem dX12_mate_235 : decode cX12_mate 235 = .ok (.goto 25, 3) := by decide +kernel
theorem dX12_mate_238 : decode cX12_mate 238 = .ok (.aload_n 0, 1) := by decide +kernel
theorem dX12_mate_239 : decode cX12_mate 239 = .ok (.getfield 7, 3) := by decide +kernel
theorem dX12_mate_242 : decode cX12_mate 242 = .ok (.sipush 410, 3) := by decide +kernel
theorem dX12_mate_245 : decode cX12_mate 245 = .ok (.iload 5, 2) := by decide +kernel
theorem dX12_mate_247 : decode cX12_mate 247 = .ok (.iadd, 1) := by decide +kernel
theorem dX12_mate_248 : decode cX12_mate 248 = .ok (.laload, 1) := by decide +kernel
theorem dX12_mate_249 : decode cX12_mate 249 = .ok (.aload_n 0, 1) := by decide +kernel
theorem dX12_mate_250 : decode cX12_mate 250 = .ok (.getfield 7, 3) := by decide +kernel
theorem dX12_mate_253 : decode cX12_mate 253 = .ok (.sipush 410, 3) := by decide +kernel
theorem dX12_mate_256 : decode cX12_mate 256 = .ok (.iload_n 1, 1) := by decide +kernel
theorem dX12_mate_257 : decode cX12_mate 257 = .ok (.iadd, 1) := by decide +kernel
theorem dX12_mate_258 : decode cX12_mate 258 = .ok (.laload, 1) := by decide +kernel
theorem dX12_mate_259 : decode cX12_mate 259 = .ok (.lsub, 1) := by decide +kernel
theorem dX12_mate_260 : decode cX12_mate 260 = .ok (.lstore 8, 2) := by decide +kernel
theorem dX12_mate_262 : decode cX12_mate 262 = .ok (.iload 5, 2) := by decide +kernel
theorem dX12_mate_264 : decode cX12_mate 264 = .ok (.iload_n 1, 1) := by decide +kernel
theorem dX12_mate_265 : decode cX12_mate 265 = .ok (.if_icmp .eq 42, 3) := by decide +kernel
theorem dX12_mate_268 : decode cX12_mate 268 = .ok (.aload_n 0, 1) := by decide +kernel
theorem dX12_mate_269 : decode cX12_mate 269 = .ok (.getfield 7, 3) := by decide +kernel
theorem dX12_mate_272 : decode cX12_mate 272 = .ok (.sipush 570, 3) := by decide +kernel
theorem dX12_mate_275 : decode cX12_mate 275 = .ok (.iload 5, 2) := by decide +kernel
theorem dX12_mate_277 : decode cX12_mate 277 = .ok (.iadd, 1) := by decide +kernel
theorem dX12_mate_278 : decode cX12_mate 278 = .ok (.laload, 1) := by decide +kernel
theorem dX12_mate_279 : decode cX12_mate 279 = .ok (.lconst 0, 1) := by decide +kernel
theorem dX12_mate_280 : decode cX12_mate 280 = .ok (.lcmp, 1) := by decide +kernel
theorem dX12_mate_281 : decode cX12_mate 281 = .ok (.ifCond .ne 26, 3) := by decide +kernel
theorem dX12_mate_284 : decode cX12_mate 284 = .ok (.iload 6, 2) := by decide +kernel
theorem dX12_mate_286 : decode cX12_mate 286 = .ok (.ifCond .eq 21, 3) := by decide +kernel
theorem dX12_mate_289 : decode cX12_mate 289 = .ok (.iload 7, 2) := by decide +kernel
theorem dX12_mate_291 : decode cX12_mate 291 = .ok (.ifCond .eq 16, 3) := by decide +kernel
theorem dX12_mate_294 : decode cX12_mate 294 = .ok (.lload 8, 2) := by decide +kernel
theorem dX12_mate_296 : decode cX12_mate 296 = .ok (.lload_n 3, 1) := by decide +kernel
theorem dX12_mate_297 : decode cX12_mate 297 = .ok (.lcmp, 1) := by decide +kernel
theorem dX12_mate_298 : decode cX12_mate 298 = .ok (.ifCond .ge 9, 3) := by decide +kernel
theorem dX12_mate_301 : decode cX12_mate 301 = .ok (.iload 5, 2) := by decide +kernel
theorem dX12_mate_303 : decode cX12_mate 303 = .ok (.istore_n 2, 1) := by decide +kernel
theorem dX12_mate_304 : decode cX12_mate 304 = .ok (.lload 8, 2) := by decide +kernel
theorem dX12_mate_306 : decode cX12_mate 306 = .ok (.lstore_n 3, 1) := by decide +kernel
theorem dX12_mate_307 : decode cX12_mate 307 = .ok (.iinc 5 1, 3) := by decide +kernel
theorem dX12_mate_310 : decode cX12_mate 310 = .ok (.goto (-301), 3) := by decide +kernel
theorem dX12_mate_313 : decode cX12_mate 313 = .ok (.iload_n 2, 1) := by decide +kernel
theorem dX12_mate_314 : decode cX12_mate 314 = .ok (.ireturn, 1) := by decide +kernel
theorem dX12_matched_0 : decode cX12_matched 0 = .ok (.aload_n 0, 1) := by decide +kernel
theorem dX12_matched_1 : decode cX12_matched 1 = .ok (.getfield 7, 3) := by decide +kernel
theorem dX12_matched_4 : decode cX12_matched 4 = .ok (.sipush 1543, 3) := by decide +kernel
theorem dX12_matched_7 : decode cX12_matched 7 = .ok (.laload, 1) := by decide +kernel
theorem dX12_matched_8 : decode cX12_matched 8 = .ok (.l2i, 1) := by decide +kernel
theorem dX12_matched_9 : decode cX12_matched 9 = .ok (.istore_n 3, 1) := by decide +kernel
theorem dX12_matched_10 : decode cX12_matched 10 = .ok (.aload_n 0, 1) := by decide +kernel
theorem dX12_matched_11 : decode cX12_matched 11 = .ok (.getfield 7, 3) := by decide +kernel
theorem dX12_matched_14 : decode cX12_matched 14 = .ok (.sipush 730, 3) := by decide +kernel
theorem dX12_matched_17 : decode cX12_matched 17 = .ok (.iload_n 3, 1) := by decide +kernel
theorem dX12_matched_18 : decode cX12_matched 18 = .ok (.iadd, 1) := by decide +kernel
theorem dX12_matched_19 : decode cX12_matched 19 = .ok (.aload_n 0, 1) := by decide +kernel
theorem dX12_matched_20 : decode cX12_matched 20 = .ok (.getfield 7, 3) := by decide +kernel
theorem dX12_matched_23 : decode cX12_matched 23 = .ok (.sipush 290, 3) := by decide +kernel
theorem dX12_matched_26 : decode cX12_matched 26 = .ok (.iload_n 1, 1) := by decide +kernel
theorem dX12_matched_27 : decode cX12_matched 27 = .ok (.iadd, 1) := by decide +kernel
theorem dX12_matched_28 : decode cX12_matched 28 = .ok (.laload, 1) := by decide +kernel
theorem dX12_matched_29 : decode cX12_matched 29 = .ok (.lconst 1, 1) := by decide +kernel
theorem dX12_matched_30 : decode cX12_matched 30 = .ok (.lcmp, 1) := by decide +kernel
theorem dX12_matched_31 : decode cX12_matched 31 = .ok (.ifCond .ne 8, 3) := by decide +kernel
theorem dX12_matched_34 : decode cX12_matched 34 = .ok (.iload_n 1, 1) := by decide +kernel
theorem dX12_matched_35 : decode cX12_matched 35 = .ok (.i2l, 1) := by decide +kernel
theorem dX12_matched_36 : decode cX12_matched 36 = .ok (.goto 5, 3) := by decide +kernel
theorem dX12_matched_39 : decode cX12_matched 39 = .ok (.iload_n 2, 1) := by decide +kernel
theorem dX12_matched_40 : decode cX12_matched 40 = .ok (.i2l, 1) := by decide +kernel
theorem dX12_matched_41 : decode cX12_matched 41 = .ok (.lastore, 1) := by decide +kernel
theorem dX12_matched_42 : decode cX12_matched 42 = .ok (.aload_n 0, 1) := by decide +kernel
theorem dX12_matched_43 : decode cX12_matched 43 = .ok (.getfield 7, 3) := by decide +kernel
theorem dX12_matched_46 : decode cX12_matched 46 = .ok (.sipush 750, 3) := by decide +kernel
theorem dX12_matched_49 : decode cX12_matched 49 = .ok (.iload_n 3, 1) := by decide +kernel
theorem dX12_matched_50 : decode cX12_matched 50 = .ok (.iadd, 1) := by decide +kernel
theorem dX12_matched_51 : decode cX12_matched 51 = .ok (.aload_n 0, 1) := by decide +kernel
theorem dX12_matched_52 : decode cX12_matched 52 = .ok (.getfield 7, 3) := by decide +kernel
theorem dX12_matched_55 : decode cX12_matched 55 = .ok (.sipush 290, 3) := by decide +kernel
theorem dX12_matched_58 : decode cX12_matched 58 = .ok (.iload_n 1, 1) := by decide +kernel
theorem dX12_matched_59 : decode cX12_matched 59 = .ok (.iadd, 1) := by decide +kernel
theorem dX12_matched_60 : decode cX12_matched 60 = .ok (.laload, 1) := by decide +kernel
theorem dX12_matched_61 : decode cX12_matched 61 = .ok (.lconst 1, 1) := by decide +kernel
theorem dX12_matched_62 : decode cX12_matched 62 = .ok (.lcmp, 1) := by decide +kernel
theorem dX12_matched_63 : decode cX12_matched 63 = .ok (.ifCond .ne 8, 3) := by decide +kernel
theorem dX12_matched_66 : decode cX12_matched 66 = .ok (.iload_n 2, 1) := by decide +kernel
theorem dX12_matched_67 : decode cX12_matched 67 = .ok (.i2l, 1) := by decide +kernel
theorem dX12_matched_68 : decode cX12_matched 68 = .ok (.goto 5, 3) := by decide +kernel
theorem dX12_matched_71 : decode cX12_matched 71 = .ok (.iload_n 1, 1) := by decide +kernel
theorem dX12_matched_72 : decode cX12_matched 72 = .ok (.i2l, 1) := by decide +kernel
theorem dX12_matched_73 : decode cX12_matched 73 = .ok (.lastore, 1) := by decide +kernel
theorem dX12_matched_74 : decode cX12_matched 74 = .ok (.aload_n 0, 1) := by decide +kernel
theorem dX12_matched_75 : decode cX12_matched 75 = .ok (.getfield 7, 3) := by decide +kernel
theorem dX12_matched_78 : decode cX12_matched 78 = .ok (.sipush 770, 3) := by decide +kernel
theorem dX12_matched_81 : decode cX12_matched 81 = .ok (.iload_n 3, 1) := by decide +kernel
theorem dX12_matched_82 : decode cX12_matched 82 = .ok (.iadd, 1) := by decide +kernel
theorem dX12_matched_83 : decode cX12_matched 83 = .ok (.aload_n 0, 1) := by decide +kernel
theorem dX12_matched_84 : decode cX12_matched 84 = .ok (.getfield 7, 3) := by decide +kernel
theorem dX12_matched_87 : decode cX12_matched 87 = .ok (.sipush 370, 3) := by decide +kernel
theorem dX12_matched_90 : decode cX12_matched 90 = .ok (.iload_n 1, 1) := by decide +kernel
theorem dX12_matched_91 : decode cX12_matched 91 = .ok (.iadd, 1) := by decide +kernel
theorem dX12_matched_92 : decode cX12_matched 92 = .ok (.laload, 1) := by decide +kernel
theorem dX12_matched_93 : decode cX12_matched 93 = .ok (.lastore, 1) := by decide +kernel
theorem dX12_matched_94 : decode cX12_matched 94 = .ok (.aload_n 0, 1) := by decide +kernel
theorem dX12_matched_95 : decode cX12_matched 95 = .ok (.getfield 7, 3) := by decide +kernel
theorem dX12_matched_98 : decode cX12_matched 98 = .ok (.sipush 790, 3) := by decide +kernel
theorem dX12_matched_101 : decode cX12_matched 101 = .ok (.iload_n 3, 1) := by decide +kernel
theorem dX12_matched_102 : decode cX12_matched 102 = .ok (.iadd, 1) := by decide +kernel
theorem dX12_matched_103 : decode cX12_matched 103 = .ok (.aload_n 0, 1) := by decide +kernel
theorem dX12_matched_104 : decode cX12_matched 104 = .ok (.getfield 7, 3) := by decide +kernel
theorem dX12_matched_107 : decode cX12_matched 107 = .ok (.sipush 410, 3) := by decide +kernel
theorem dX12_matched_110 : decode cX12_matched 110 = .ok (.iload_n 1, 1) := by decide +kernel
theorem dX12_matched_111 : decode cX12_matched 111 = .ok (.iadd, 1) := by decide +kernel
theorem dX12_matched_112 : decode cX12_matched 112 = .ok (.laload, 1) := by decide +kernel
theorem dX12_matched_113 : decode cX12_matched 113 = .ok (.aload_n 0, 1) := by decide +kernel
theorem dX12_matched_114 : decode cX12_matched 114 = .ok (.getfield 7, 3) := by decide +kernel
theorem dX12_matched_117 : decode cX12_matched 117 = .ok (.sipush 410, 3) := by decide +kernel
theorem dX12_matched_120 : decode cX12_matched 120 = .ok (.iload_n 2, 1) := by decide +kernel
theorem dX12_matched_121 : decode cX12_matched 121 = .ok (.iadd, 1) := by decide +kernel
theorem dX12_matched_122 : decode cX12_matched 122 = .ok (.laload, 1) := by decide +kernel
theorem dX12_matched_123 : decode cX12_matched 123 = .ok (.lcmp, 1) := by decide +kernel
theorem dX12_matched_124 : decode cX12_matched 124 = .ok (.ifCond .ge 16, 3) := by decide +kernel
theorem dX12_matched_127 : decode cX12_matched 127 = .ok (.aload_n 0, 1) := by decide +kernel
theorem dX12_matched_128 : decode cX12_matched 128 = .ok (.getfield 7, 3) := by decide +kernel
theorem dX12_matched_131 : decode cX12_matched 131 = .ok (.sipush 410, 3) := by decide +kernel
theorem dX12_matched_134 : decode cX12_matched 134 = .ok (.iload_n 1, 1) := by decide +kernel
theorem dX12_matched_135 : decode cX12_matched 135 = .ok (.iadd, 1) := by decide +kernel
theorem dX12_matched_136 : decode cX12_matched 136 = .ok (.laload, 1) := by decide +kernel
theorem dX12_matched_137 : decode cX12_matched 137 = .ok (.goto 13, 3) := by decide +kernel
theorem dX12_matched_140 : decode cX12_matched 140 = .ok (.aload_n 0, 1) := by decide +kernel
theorem dX12_matched_141 : decode cX12_matched 141 = .ok (.getfield 7, 3) := by decide +kernel
theorem dX12_matched_144 : decode cX12_matched 144 = .ok (.sipush 410, 3) := by decide +kernel
theorem dX12_matched_147 : decode cX12_matched 147 = .ok (.iload_n 2, 1) := by decide +kernel
theorem dX12_matched_148 : decode cX12_matched 148 = .ok (.iadd, 1) := by decide +kernel
theorem dX12_matched_149 : decode cX12_matched 149 = .ok (.laload, 1) := by decide +kernel
theorem dX12_matched_150 : decode cX12_matched 150 = .ok (.lastore, 1) := by decide +kernel
theorem dX12_matched_151 : decode cX12_matched 151 = .ok (.aload_n 0, 1) := by decide +kernel
theorem dX12_matched_152 : decode cX12_matched 152 = .ok (.getfield 7, 3) := by decide +kernel
theorem dX12_matched_155 : decode cX12_matched 155 = .ok (.sipush 810, 3) := by decide +kernel
theorem dX12_matched_158 : decode cX12_matched 158 = .ok (.iload_n 3, 1) := by decide +kernel
theorem dX12_matched_159 : decode cX12_matched 159 = .ok (.iadd, 1) := by decide +kernel
theorem dX12_matched_160 : decode cX12_matched 160 = .ok (.aload_n 0, 1) := by decide +kernel
theorem dX12_matched_161 : decode cX12_matched 161 = .ok (.getfield 7, 3) := by decide +kernel
theorem dX12_matched_164 : decode cX12_matched 164 = .ok (.sipush 490, 3) := by decide +kernel
theorem dX12_matched_167 : decode cX12_matched 167 = .ok (.iload_n 1, 1) := by decide +kernel
theorem dX12_matched_168 : decode cX12_matched 168 = .ok (.iadd, 1) := by decide +kernel
theorem dX12_matched_169 : decode cX12_matched 169 = .ok (.laload, 1) := by decide +kernel
theorem dX12_matched_170 : decode cX12_matched 170 = .ok (.aload_n 0, 1) := by decide +kernel
theorem dX12_matched_171 : decode cX12_matched 171 = .ok (.getfield 7, 3) := by decide +kernel
theorem dX12_matched_174 : decode cX12_matched 174 = .ok (.sipush 490, 3) := by decide +kernel
theorem dX12_matched_177 : decode cX12_matched 177 = .ok (.iload_n 2, 1) := by decide +kernel
theorem dX12_matched_178 : decode cX12_matched 178 = .ok (.iadd, 1) := by decide +kernel
theorem dX12_matched_179 : decode cX12_matched 179 = .ok (.laload, 1) := by decide +kernel
theorem dX12_matched_180 : decode cX12_matched 180 = .ok (.lcmp, 1) := by decide +kernel
theorem dX12_matched_181 : decode cX12_matched 181 = .ok (.ifCond .le 16, 3) := by decide +kernel
theorem dX12_matched_184 : decode cX12_matched 184 = .ok (.aload_n 0, 1) := by decide +kernel
theorem dX12_matched_185 : decode cX12_matched 185 = .ok (.getfield 7, 3) := by decide +kernel
theorem dX12_matched_188 : decode cX12_matched 188 = .ok (.sipush 490, 3) := by decide +kernel
theorem dX12_matched_191 : decode cX12_matched 191 = .ok (.iload_n 1, 1) := by decide +kernel
theorem dX12_matched_192 : decode cX12_matched 192 = .ok (.iadd, 1) := by decide +kernel
theorem dX12_matched_193 : decode cX12_matched 193 = .ok (.laload, 1) := by decide +kernel
theorem dX12_matched_194 : decode cX12_matched 194 = .ok (.goto 13, 3) := by decide +kernel
theorem dX12_matched_197 : decode cX12_matched 197 = .ok (.aload_n 0, 1) := by decide +kernel
theorem dX12_matched_198 : decode cX12_matched 198 = .ok (.getfield 7, 3) := by decide +kernel
theorem dX12_matched_201 : decode cX12_matched 201 = .ok (.sipush 490, 3) := by decide +kernel
theorem dX12_matched_204 : decode cX12_matched 204 = .ok (.iload_n 2, 1) := by decide +kernel
theorem dX12_matched_205 : decode cX12_matched 205 = .ok (.iadd, 1) := by decide +kernel
theorem dX12_matched_206 : decode cX12_matched 206 = .ok (.laload, 1) := by decide +kernel
theorem dX12_matched_207 : decode cX12_matched 207 = .ok (.lastore, 1) := by decide +kernel
theorem dX12_matched_208 : decode cX12_matched 208 = .ok (.aload_n 0, 1) := by decide +kernel
theorem dX12_matched_209 : decode cX12_matched 209 = .ok (.getfield 7, 3) := by decide +kernel
theorem dX12_matched_212 : decode cX12_matched 212 = .ok (.sipush 830, 3) := by decide +kernel
theorem dX12_matched_215 : decode cX12_matched 215 = .ok (.iload_n 3, 1) := by decide +kernel
theorem dX12_matched_216 : decode cX12_matched 216 = .ok (.iadd, 1) := by decide +kernel
theorem dX12_matched_217 : decode cX12_matched 217 = .ok (.aload_n 0, 1) := by decide +kernel
theorem dX12_matched_218 : decode cX12_matched 218 = .ok (.getfield 7, 3) := by decide +kernel
theorem dX12_matched_221 : decode cX12_matched 221 = .ok (.sipush 530, 3) := by decide +kernel
theorem dX12_matched_224 : decode cX12_matched 224 = .ok (.iload_n 1, 1) := by decide +kernel
theorem dX12_matched_225 : decode cX12_matched 225 = .ok (.iadd, 1) := by decide +kernel
theorem dX12_matched_226 : decode cX12_matched 226 = .ok (.laload, 1) := by decide +kernel
theorem dX12_matched_227 : decode cX12_matched 227 = .ok (.lconst 0, 1) := by decide +kernel
theorem dX12_matched_228 : decode cX12_matched 228 = .ok (.lcmp, 1) := by decide +kernel
theorem dX12_matched_229 : decode cX12_matched 229 = .ok (.ifCond .eq 18, 3) := by decide +kernel
theorem dX12_matched_232 : decode cX12_matched 232 = .ok (.aload_n 0, 1) := by decide +kernel
theorem dX12_matched_233 : decode cX12_matched 233 = .ok (.getfield 7, 3) := by decide +kernel
theorem dX12_matched_236 : decode cX12_matched 236 = .ok (.sipush 530, 3) := by decide +kernel
theorem dX12_matched_239 : decode cX12_matched 239 = .ok (.iload_n 2, 1) := by decide +kernel
theorem dX12_matched_240 : decode cX12_matched 240 = .ok (.iadd, 1) := by decide +kernel
theorem dX12_matched_241 : decode cX12_matched 241 = .ok (.laload, 1) := by decide +kernel
theorem dX12_matched_242 : decode cX12_matched 242 = .ok (.lconst 0, 1) := by decide +kernel
theorem dX12_matched_243 : decode cX12_matched 243 = .ok (.lcmp, 1) := by decide +kernel
theorem dX12_matched_244 : decode cX12_matched 244 = .ok (.ifCond .ne 7, 3) := by decide +kernel
theorem dX12_matched_247 : decode cX12_matched 247 = .ok (.lconst 0, 1) := by decide +kernel
theorem dX12_matched_248 : decode cX12_matched 248 = .ok (.goto 50, 3) := by decide +kernel
theorem dX12_matched_251 : decode cX12_matched 251 = .ok (.aload_n 0, 1) := by decide +kernel
theorem dX12_matched_252 : decode cX12_matched 252 = .ok (.getfield 7, 3) := by decide +kernel
theorem dX12_matched_255 : decode cX12_matched 255 = .ok (.sipush 530, 3) := by decide +kernel
theorem dX12_matched_258 : decode cX12_matched 258 = .ok (.iload_n 1, 1) := by decide +kernel
theorem dX12_matched_259 : decode cX12_matched 259 = .ok (.iadd, 1) := by decide +kernel
theorem dX12_matched_260 : decode cX12_matched 260 = .ok (.laload, 1) := by decide +kernel
theorem dX12_matched_261 : decode cX12_matched 261 = .ok (.aload_n 0, 1) := by decide +kernel
theorem dX12_matched_262 : decode cX12_matched 262 = .ok (.getfield 7, 3) := by decide +kernel
theorem dX12_matched_265 : decode cX12_matched 265 = .ok (.sipush 530, 3) := by decide +kernel
theorem dX12_matched_268 : decode cX12_matched 268 = .ok (.iload_n 2, 1) := by decide +kernel
theorem dX12_matched_269 : decode cX12_matched 269 = .ok (.iadd, 1) := by decide +kernel
theorem dX12_matched_270 : decode cX12_matched 270 = .ok (.laload, 1) := by decide +kernel
theorem dX12_matched_271 : decode cX12_matched 271 = .ok (.lcmp, 1) := by decide +kernel
theorem dX12_matched_272 : decode cX12_matched 272 = .ok (.ifCond .le 16, 3) := by decide +kernel
theorem dX12_matched_275 : decode cX12_matched 275 = .ok (.aload_n 0, 1) := by decide +kernel
theorem dX12_matched_276 : decode cX12_matched 276 = .ok (.getfield 7, 3) := by decide +kernel
theorem dX12_matched_279 : decode cX12_matched 279 = .ok (.sipush 530, 3) := by decide +kernel
theorem dX12_matched_282 : decode cX12_matched 282 = .ok (.iload_n 1, 1) := by decide +kernel
theorem dX12_matched_283 : decode cX12_matched 283 = .ok (.iadd, 1) := by decide +kernel
theorem dX12_matched_284 : decode cX12_matched 284 = .ok (.laload, 1) := by decide +kernel
theorem dX12_matched_285 : decode cX12_matched 285 = .ok (.goto 13, 3) := by decide +kernel
theorem dX12_matched_288 : decode cX12_matched 288 = .ok (.aload_n 0, 1) := by decide +kernel
theorem dX12_matched_289 : decode cX12_matched 289 = .ok (.getfield 7, 3) := by decide +kernel
theorem dX12_matched_292 : decode cX12_matched 292 = .ok (.sipush 530, 3) := by decide +kernel
theorem dX12_matched_295 : decode cX12_matched 295 = .ok (.iload_n 2, 1) := by decide +kernel
theorem dX12_matched_296 : decode cX12_matched 296 = .ok (.iadd, 1) := by decide +kernel
theorem dX12_matched_297 : decode cX12_matched 297 = .ok (.laload, 1) := by decide +kernel
theorem dX12_matched_298 : decode cX12_matched 298 = .ok (.lastore, 1) := by decide +kernel
theorem dX12_matched_299 : decode cX12_matched 299 = .ok (.aload_n 0, 1) := by decide +kernel
theorem dX12_matched_300 : decode cX12_matched 300 = .ok (.getfield 7, 3) := by decide +kernel
theorem dX12_matched_303 : decode cX12_matched 303 = .ok (.sipush 850, 3) := by decide +kernel
theorem dX12_matched_306 : decode cX12_matched 306 = .ok (.iload_n 3, 1) := by decide +kernel
theorem dX12_matched_307 : decode cX12_matched 307 = .ok (.iadd, 1) := by decide +kernel
theorem dX12_matched_308 : decode cX12_matched 308 = .ok (.lconst 0, 1) := by decide +kernel
theorem dX12_matched_309 : decode cX12_matched 309 = .ok (.lastore, 1) := by decide +kernel
theorem dX12_matched_310 : decode cX12_matched 310 = .ok (.aload_n 0, 1) := by decide +kernel
theorem dX12_matched_311 : decode cX12_matched 311 = .ok (.getfield 7, 3) := by decide +kernel
theorem dX12_matched_314 : decode cX12_matched 314 = .ok (.sipush 870, 3) := by decide +kernel
theorem dX12_matched_317 : decode cX12_matched 317 = .ok (.iload_n 3, 1) := by decide +kernel
theorem dX12_matched_318 : decode cX12_matched 318 = .ok (.iadd, 1) := by decide +kernel
theorem dX12_matched_319 : decode cX12_matched 319 = .ok (.lconst 0, 1) := by decide +kernel
theorem dX12_matched_320 : decode cX12_matched 320 = .ok (.lastore, 1) := by decide +kernel
theorem dX12_matched_321 : decode cX12_matched 321 = .ok (.aload_n 0, 1) := by decide +kernel
theorem dX12_matched_322 : decode cX12_matched 322 = .ok (.getfield 7, 3) := by decide +kernel
theorem dX12_matched_325 : decode cX12_matched 325 = .ok (.sipush 570, 3) := by decide +kernel
theorem dX12_matched_328 : decode cX12_matched 328 = .ok (.iload_n 1, 1) := by decide +kernel
theorem dX12_matched_329 : decode cX12_matched 329 = .ok (.iadd, 1) := by decide +kernel
theorem dX12_matched_330 : decode cX12_matched 330 = .ok (.lconst 1, 1) := by decide +kernel
theorem dX12_matched_331 : decode cX12_matched 331 = .ok (.lastore, 1) := by decide +kernel
theorem dX12_matched_332 : decode cX12_matched 332 = .ok (.aload_n 0, 1) := by decide +kernel
theorem dX12_matched_333 : decode cX12_matched 333 = .ok (.getfield 7, 3) := by decide +kernel
theorem dX12_matched_336 : decode cX12_matched 336 = .ok (.sipush 570, 3) := by decide +kernel
theorem dX12_matched_339 : decode cX12_matched 339 = .ok (.iload_n 2, 1) := by decide +kernel
theorem dX12_matched_340 : decode cX12_matched 340 = .ok (.iadd, 1) := by decide +kernel
theorem dX12_matched_341 : decode cX12_matched 341 = .ok (.lconst 1, 1) := by decide +kernel
theorem dX12_matched_342 : decode cX12_matched 342 = .ok (.lastore, 1) := by decide +kernel
theorem dX12_matched_343 : decode cX12_matched 343 = .ok (.aload_n 0, 1) := by decide +kernel
theorem dX12_matched_344 : decode cX12_matched 344 = .ok (.getfield 7, 3) := by decide +kernel
theorem dX12_matched_347 : decode cX12_matched 347 = .ok (.sipush 650, 3) := by decide +kernel
theorem dX12_matched_350 : decode cX12_matched 350 = .ok (.iload_n 1, 1) := by decide +kernel
theorem dX12_matched_351 : decode cX12_matched 351 = .ok (.iadd, 1) := by decide +kernel
theorem dX12_matched_352 : decode cX12_matched 352 = .ok (.iload_n 3, 1) := by decide +kernel
theorem dX12_matched_353 : decode cX12_matched 353 = .ok (.i2l, 1) := by decide +kernel
theorem dX12_matched_354 : decode cX12_matched 354 = .ok (.lastore, 1) := by decide +kernel
theorem dX12_matched_355 : decode cX12_matched 355 = .ok (.aload_n 0, 1) := by decide +kernel
theorem dX12_matched_356 : decode cX12_matched 356 = .ok (.getfield 7, 3) := by decide +kernel
theorem dX12_matched_359 : decode cX12_matched 359 = .ok (.sipush 650, 3) := by decide +kernel
theorem dX12_matched_362 : decode cX12_matched 362 = .ok (.iload_n 2, 1) := by decide +kernel
theorem dX12_matched_363 : decode cX12_matched 363 = .ok (.iadd, 1) := by decide +kernel
theorem dX12_matched_364 : decode cX12_matched 364 = .ok (.iload_n 3, 1) := by decide +kernel
theorem dX12_matched_365 : decode cX12_matched 365 = .ok (.i2l, 1) := by decide +kernel
theorem dX12_matched_366 : decode cX12_matched 366 = .ok (.lastore, 1) := by decide +kernel
theorem dX12_matched_367 : decode cX12_matched 367 = .ok (.aload_n 0, 1) := by decide +kernel
theorem dX12_matched_368 : decode cX12_matched 368 = .ok (.getfield 7, 3) := by decide +kernel
theorem dX12_matched_371 : decode cX12_matched 371 = .ok (.sipush 1543, 3) := by decide +kernel
theorem dX12_matched_374 : decode cX12_matched 374 = .ok (.dup2, 1) := by decide +kernel
theorem dX12_matched_375 : decode cX12_matched 375 = .ok (.laload, 1) := by decide +kernel
theorem dX12_matched_376 : decode cX12_matched 376 = .ok (.lconst 1, 1) := by decide +kernel
theorem dX12_matched_377 : decode cX12_matched 377 = .ok (.ladd, 1) := by decide +kernel
theorem dX12_matched_378 : decode cX12_matched 378 = .ok (.lastore, 1) := by decide +kernel
theorem dX12_matched_379 : decode cX12_matched 379 = .ok (.aload_n 0, 1) := by decide +kernel
theorem dX12_matched_380 : decode cX12_matched 380 = .ok (.iload_n 3, 1) := by decide +kernel
theorem dX12_matched_381 : decode cX12_matched 381 = .ok (.invokevirtual 90, 3) := by decide +kernel
theorem dX12_matched_384 : decode cX12_matched 384 = .ok (.iload_n 3, 1) := by decide +kernel
theorem dX12_matched_385 : decode cX12_matched 385 = .ok (.ireturn, 1) := by decide +kernel
theorem dX12_deliverer_0 : decode cX12_deliverer 0 = .ok (.aload_n 0, 1) := by decide +kernel
theorem dX12_deliverer_1 : decode cX12_deliverer 1 = .ok (.getfield 7, 3) := by decide +kernel
theorem dX12_deliverer_4 : decode cX12_deliverer 4 = .ok (.sipush 210, 3) := by decide +kernel
theorem dX12_deliverer_7 : decode cX12_deliverer 7 = .ok (.aload_n 0, 1) := by decide +kernel
theorem dX12_deliverer_8 : decode cX12_deliverer 8 = .ok (.getfield 7, 3) := by decide +kernel
theorem dX12_deliverer_11 : decode cX12_deliverer 11 = .ok (.sipush 730, 3) := by decide +kernel
theorem dX12_deliverer_14 : decode cX12_deliverer 14 = .ok (.iload_n 1, 1) := by decide +kernel
theorem dX12_deliverer_15 : decode cX12_deliverer 15 = .ok (.iadd, 1) := by decide +kernel
theorem dX12_deliverer_16 : decode cX12_deliverer 16 = .ok (.laload, 1) := by decide +kernel
theorem dX12_deliverer_17 : decode cX12_deliverer 17 = .ok (.l2i, 1) := by decide +kernel
theorem dX12_deliverer_18 : decode cX12_deliverer 18 = .ok (.iadd, 1) := by decide +kernel
theorem dX12_deliverer_19 : decode cX12_deliverer 19 = .ok (.laload, 1) := by decide +kernel
theorem dX12_deliverer_20 : decode cX12_deliverer 20 = .ok (.l2i, 1) := by decide +kernel
theorem dX12_deliverer_21 : decode cX12_deliverer 21 = .ok (.ireturn, 1) := by decide +kernel
theorem dX12_receiver_0 : decode cX12_receiver 0 = .ok (.aload_n 0, 1) := by decide +kernel
theorem dX12_receiver_1 : decode cX12_receiver 1 = .ok (.getfield 7, 3) := by decide +kernel
theorem dX12_receiver_4 : decode cX12_receiver 4 = .ok (.sipush 210, 3) := by decide +kernel
theorem dX12_receiver_7 : decode cX12_receiver 7 = .ok (.aload_n 0, 1) := by decide +kernel
theorem dX12_receiver_8 : decode cX12_receiver 8 = .ok (.getfield 7, 3) := by decide +kernel
theorem dX12_receiver_11 : decode cX12_receiver 11 = .ok (.sipush 750, 3) := by decide +kernel
theorem dX12_receiver_14 : decode cX12_receiver 14 = .ok (.iload_n 1, 1) := by decide +kernel
theorem dX12_receiver_15 : decode cX12_receiver 15 = .ok (.iadd, 1) := by decide +kernel
theorem dX12_receiver_16 : decode cX12_receiver 16 = .ok (.laload, 1) := by decide +kernel
theorem dX12_receiver_17 : decode cX12_receiver 17 = .ok (.l2i, 1) := by decide +kernel
theorem dX12_receiver_18 : decode cX12_receiver 18 = .ok (.iadd, 1) := by decide +kernel
theorem dX12_receiver_19 : decode cX12_receiver 19 = .ok (.laload, 1) := by decide +kernel
theorem dX12_receiver_20 : decode cX12_receiver 20 = .ok (.l2i, 1) := by decide +kernel
theorem dX12_receiver_21 : decode cX12_receiver 21 = .ok (.ireturn, 1) := by decide +kernel
theorem dX12_paper_0 : decode cX12_paper 0 = .ok (.aload_n 0, 1) := by decide +kernel
theorem dX12_paper_1 : decode cX12_paper 1 = .ok (.getfield 7, 3) := by decide +kernel
theorem dX12_paper_4 : decode cX12_paper 4 = .ok (.sipush 330, 3) := by decide +kernel
theorem dX12_paper_7 : decode cX12_paper 7 = .ok (.aload_n 0, 1) := by decide +kernel
theorem dX12_paper_8 : decode cX12_paper 8 = .ok (.getfield 7, 3) := by decide +kernel
theorem dX12_paper_11 : decode cX12_paper 11 = .ok (.sipush 730, 3) := by decide +kernel
theorem dX12_paper_14 : decode cX12_paper 14 = .ok (.iload_n 1, 1) := by decide +kernel
theorem dX12_paper_15 : decode cX12_paper 15 = .ok (.iadd, 1) := by decide +kernel
theorem dX12_paper_16 : decode cX12_paper 16 = .ok (.laload, 1) := by decide +kernel
theorem dX12_paper_17 : decode cX12_paper 17 = .ok (.l2i, 1) := by decide +kernel
theorem dX12_paper_18 : decode cX12_paper 18 = .ok (.iadd, 1) := by decide +kernel
theorem dX12_paper_19 : decode cX12_paper 19 = .ok (.laload, 1) := by decide +kernel
theorem dX12_paper_20 : decode cX12_paper 20 = .ok (.l2i, 1) := by decide +kernel
theorem dX12_paper_21 : decode cX12_paper 21 = .ok (.ireturn, 1) := by decide +kernel
theorem dX12_tell_0 : decode cX12_tell 0 = .ok (.aload_n 0, 1) := by decide +kernel
theorem dX12_tell_1 : decode cX12_tell 1 = .ok (.getfield 16, 3) := by decide +kernel
theorem dX12_tell_4 : decode cX12_tell 4 = .ok (.aload_n 0, 1) := by decide +kernel
theorem dX12_tell_5 : decode cX12_tell 5 = .ok (.iload_n 1, 1) := by decide +kernel
theorem dX12_tell_6 : decode cX12_tell 6 = .ok (.invokevirtual 94, 3) := by decide +kernel
theorem dX12_tell_9 : decode cX12_tell 9 = .ok (.dup2, 1) := by decide +kernel
theorem dX12_tell_10 : decode cX12_tell 10 = .ok (.iaload, 1) := by decide +kernel
theorem dX12_tell_11 : decode cX12_tell 11 = .ok (.iconst 1, 1) := by decide +kernel
theorem dX12_tell_12 : decode cX12_tell 12 = .ok (.iadd, 1) := by decide +kernel
theorem dX12_tell_13 : decode cX12_tell 13 = .ok (.iastore, 1) := by decide +kernel
theorem dX12_tell_14 : decode cX12_tell 14 = .ok (.aload_n 0, 1) := by decide +kernel
theorem dX12_tell_15 : decode cX12_tell 15 = .ok (.getfield 16, 3) := by decide +kernel
theorem dX12_tell_18 : decode cX12_tell 18 = .ok (.aload_n 0, 1) := by decide +kernel
theorem dX12_tell_19 : decode cX12_tell 19 = .ok (.iload_n 1, 1) := by decide +kernel
theorem dX12_tell_20 : decode cX12_tell 20 = .ok (.invokevirtual 98, 3) := by decide +kernel
theorem dX12_tell_23 : decode cX12_tell 23 = .ok (.dup2, 1) := by decide +kernel
theorem dX12_tell_24 : decode cX12_tell 24 = .ok (.iaload, 1) := by decide +kernel
theorem dX12_tell_25 : decode cX12_tell 25 = .ok (.iconst 1, 1) := by decide +kernel
theorem dX12_tell_26 : decode cX12_tell 26 = .ok (.iadd, 1) := by decide +kernel
theorem dX12_tell_27 : decode cX12_tell 27 = .ok (.iastore, 1) := by decide +kernel
theorem dX12_tell_28 : decode cX12_tell 28 = .ok (.return_, 1) := by decide +kernel
theorem dX12_worth_0 : decode cX12_worth 0 = .ok (.aload_n 0, 1) := by decide +kernel
theorem dX12_worth_1 : decode cX12_worth 1 = .ok (.getfield 7, 3) := by decide +kernel
theorem dX12_worth_4 : decode cX12_worth 4 = .ok (.sipush 770, 3) := by decide +kernel
theorem dX12_worth_7 : decode cX12_worth 7 = .ok (.iload_n 1, 1) := by decide +kernel
theorem dX12_worth_8 : decode cX12_worth 8 = .ok (.iadd, 1) := by decide +kernel
theorem dX12_worth_9 : decode cX12_worth 9 = .ok (.laload, 1) := by decide +kernel
theorem dX12_worth_10 : decode cX12_worth 10 = .ok (.aload_n 0, 1) := by decide +kernel
theorem dX12_worth_11 : decode cX12_worth 11 = .ok (.getfield 7, 3) := by decide +kernel
theorem dX12_worth_14 : decode cX12_worth 14 = .ok (.sipush 184, 3) := by decide +kernel
theorem dX12_worth_17 : decode cX12_worth 17 = .ok (.aload_n 0, 1) := by decide +kernel
theorem dX12_worth_18 : decode cX12_worth 18 = .ok (.iload_n 1, 1) := by decide +kernel
theorem dX12_worth_19 : decode cX12_worth 19 = .ok (.invokevirtual 101, 3) := by decide +kernel
theorem dX12_worth_22 : decode cX12_worth 22 = .ok (.iadd, 1) := by decide +kernel
theorem dX12_worth_23 : decode cX12_worth 23 = .ok (.laload, 1) := by decide +kernel
theorem dX12_worth_24 : decode cX12_worth 24 = .ok (.lmul, 1) := by decide +kernel
theorem dX12_worth_25 : decode cX12_worth 25 = .ok (.lreturn, 1) := by decide +kernel
theorem dX12_instruct_0 : decode cX12_instruct 0 = .ok (.aload_n 0, 1) := by decide +kernel
theorem dX12_instruct_1 : decode cX12_instruct 1 = .ok (.iload_n 1, 1) := by decide +kernel
theorem dX12_instruct_2 : decode cX12_instruct 2 = .ok (.invokevirtual 55, 3) := by decide +kernel
theorem dX12_instruct_5 : decode cX12_instruct 5 = .ok (.ifCond .eq 24, 3) := by decide +kernel
theorem dX12_instruct_8 : decode cX12_instruct 8 = .ok (.aload_n 0, 1) := by decide +kernel
theorem dX12_instruct_9 : decode cX12_instruct 9 = .ok (.iload_n 2, 1) := by decide +kernel
theorem dX12_instruct_10 : decode cX12_instruct 10 = .ok (.invokevirtual 55, 3) := by decide +kernel
theorem dX12_instruct_13 : decode cX12_instruct 13 = .ok (.ifCond .eq 16, 3) := by decide +kernel
theorem dX12_instruct_16 : decode cX12_instruct 16 = .ok (.aload_n 0, 1) := by decide +kernel
theorem dX12_instruct_17 : decode cX12_instruct 17 = .ok (.iload 4, 2) := by decide +kernel
theorem dX12_instruct_19 : decode cX12_instruct 19 = .ok (.invokevirtual 78, 3) := by decide +kernel
theorem dX12_instruct_22 : decode cX12_instruct 22 = .ok (.ifCond .eq 7, 3) := by decide +kernel
theorem dX12_instruct_25 : decode cX12_instruct 25 = .ok (.iconst 1, 1) := by decide +kernel
theorem dX12_instruct_26 : decode cX12_instruct 26 = .ok (.goto 4, 3) := by decide +kernel
theorem dX12_instruct_29 : decode cX12_instruct 29 = .ok (.iconst 0, 1) := by decide +kernel
theorem dX12_instruct_30 : decode cX12_instruct 30 = .ok (.istore 10, 2) := by decide +kernel
theorem dX12_instruct_32 : decode cX12_instruct 32 = .ok (.iload_n 1, 1) := by decide +kernel
theorem dX12_instruct_33 : decode cX12_instruct 33 = .ok (.iload_n 2, 1) := by decide +kernel
theorem dX12_instruct_34 : decode cX12_instruct 34 = .ok (.if_icmp .eq 84, 3) := by decide +kernel
theorem dX12_instruct_37 : decode cX12_instruct 37 = .ok (.aload_n 0, 1) := by decide +kernel
theorem dX12_instruct_38 : decode cX12_instruct 38 = .ok (.iload 5, 2) := by decide +kernel
theorem dX12_instruct_40 : decode cX12_instruct 40 = .ok (.i2l, 1) := by decide +kernel
theorem dX12_instruct_41 : decode cX12_instruct 41 = .ok (.lconst 1, 1) := by decide +kernel
theorem dX12_instruct_42 : decode cX12_instruct 42 = .ok (.ldc2_w 70, 3) := by decide +kernel
theorem dX12_instruct_45 : decode cX12_instruct 45 = .ok (.invokevirtual 32, 3) := by decide +kernel
theorem dX12_instruct_48 : decode cX12_instruct 48 = .ok (.ifCond .eq 70, 3) := by decide +kernel
theorem dX12_instruct_51 : decode cX12_instruct 51 = .ok (.aload_n 0, 1) := by decide +kernel
theorem dX12_instruct_52 : decode cX12_instruct 52 = .ok (.iload 6, 2) := by decide +kernel
theorem dX12_instruct_54 : decode cX12_instruct 54 = .ok (.i2l, 1) := by decide +kernel
theorem dX12_instruct_55 : decode cX12_instruct 55 = .ok (.lconst 0, 1) := by decide +kernel
theorem dX12_instruct_56 : decode cX12_instruct 56 = .ok (.ldc2_w 104, 3) := by decide +kernel
theorem dX12_instruct_59 : decode cX12_instruct 59 = .ok (.invokevirtual 32, 3) := by decide +kernel
theorem dX12_instruct_62 : decode cX12_instruct 62 = .ok (.ifCond .eq 56, 3) := by decide +kernel
theorem dX12_instruct_65 : decode cX12_instruct 65 = .ok (.aload_n 0, 1) := by decide +kernel
theorem dX12_instruct_66 : decode cX12_instruct 66 = .ok (.iload 7, 2) := by decide +kernel
theorem dX12_instruct_68 : decode cX12_instruct 68 = .ok (.i2l, 1) := by decide +kernel
theorem dX12_instruct_69 : decode cX12_instruct 69 = .ok (.aload_n 0, 1) := by decide +kernel
theorem dX12_instruct_70 : decode cX12_instruct 70 = .ok (.getfield 7, 3) := by decide +kernel
theorem dX12_instruct_73 : decode cX12_instruct 73 = .ok (.sipush 1547, 3) := by decide +kernel
theorem dX12_instruct_76 : decode cX12_instruct 76 = .ok (.laload, 1) := by decide +kernel
theorem dX12_instruct_77 : decode cX12_instruct 77 = .ok (.ldc2_w 106, 3) := by decide +kernel
theorem dX12_instruct_80 : decode cX12_instruct 80 = .ok (.invokevirtual 32, 3) := by decide +kernel
theorem dX12_instruct_83 : decode cX12_instruct 83 = .ok (.ifCond .eq 35, 3) := by decide +kernel
theorem dX12_instruct_86 : decode cX12_instruct 86 = .ok (.aload_n 0, 1) := by decide +kernel
theorem dX12_instruct_87 : decode cX12_instruct 87 = .ok (.iload 8, 2) := by decide +kernel
theorem dX12_instruct_89 : decode cX12_instruct 89 = .ok (.i2l, 1) := by decide +kernel
theorem dX12_instruct_90 : decode cX12_instruct 90 = .ok (.lconst 0, 1) := by decide +kernel
theorem dX12_instruct_91 : decode cX12_instruct 91 = .ok (.ldc2_w 108, 3) := by decide +kernel
theorem dX12_instruct_94 : decode cX12_instruct 94 = .ok (.invokevirtual 32, 3) := by decide +kernel
theorem dX12_instruct_97 : decode cX12_instruct 97 = .ok (.ifCond .eq 21, 3) := by decide +kernel
theorem dX12_instruct_100 : decode cX12_instruct 100 = .ok (.aload_n 0, 1) := by decide +kernel
theorem dX12_instruct_101 : decode cX12_instruct 101 = .ok (.iload 9, 2) := by decide +kernel
theorem dX12_instruct_103 : decode cX12_instruct 103 = .ok (.i2l, 1) := by decide +kernel
theorem dX12_instruct_104 : decode cX12_instruct 104 = .ok (.lconst 0, 1) := by decide +kernel
theorem dX12_instruct_105 : decode cX12_instruct 105 = .ok (.iload 5, 2) := by decide +kernel
theorem dX12_instruct_107 : decode cX12_instruct 107 = .ok (.i2l, 1) := by decide +kernel
theorem dX12_instruct_108 : decode cX12_instruct 108 = .ok (.invokevirtual 32, 3) := by decide +kernel
theorem dX12_instruct_111 : decode cX12_instruct 111 = .ok (.ifCond .eq 7, 3) := by decide +kernel
theorem dX12_instruct_114 : decode cX12_instruct 114 = .ok (.iconst 1, 1) := by decide +kernel
theorem dX12_instruct_115 : decode cX12_instruct 115 = .ok (.goto 4, 3) := by decide +kernel
theorem dX12_instruct_118 : decode cX12_instruct 118 = .ok (.iconst 0, 1) := by decide +kernel
theorem dX12_instruct_119 : decode cX12_instruct 119 = .ok (.istore 11, 2) := by decide +kernel
theorem dX12_instruct_121 : decode cX12_instruct 121 = .ok (.aload_n 0, 1) := by decide +kernel
theorem dX12_instruct_122 : decode cX12_instruct 122 = .ok (.getfield 7, 3) := by decide +kernel
theorem dX12_instruct_125 : decode cX12_instruct 125 = .ok (.sipush 1542, 3) := by decide +kernel
theorem dX12_instruct_128 : decode cX12_instruct 128 = .ok (.laload, 1) := by decide +kernel
theorem dX12_instruct_129 : decode cX12_instruct 129 = .ok (.l2i, 1) := by decide +kernel
theorem dX12_instruct_130 : decode cX12_instruct 130 = .ok (.istore 12, 2) := by decide +kernel
theorem dX12_instruct_132 : decode cX12_instruct 132 = .ok (.iconst (-1), 1) := by decide +kernel
theorem dX12_instruct_133 : decode cX12_instruct 133 = .ok (.istore 13, 2) := by decide +kernel
theorem dX12_instruct_135 : decode cX12_instruct 135 = .ok (.iload 10, 2) := by decide +kernel
theorem dX12_instruct_137 : decode cX12_instruct 137 = .ok (.ifCond .eq 203, 3) := by decide +kernel
theorem dX12_instruct_140 : decode cX12_instruct 140 = .ok (.iload 11, 2) := by decide +kernel
theorem dX12_instruct_142 : decode cX12_instruct 142 = .ok (.ifCond .eq 198, 3) := by decide +kernel
theorem dX12_instruct_145 : decode cX12_instruct 145 = .ok (.iload 12, 2) := by decide +kernel
theorem dX12_instruct_147 : decode cX12_instruct 147 = .ok (.bipush 40, 2) := by decide +kernel
theorem dX12_instruct_149 : decode cX12_instruct 149 = .ok (.if_icmp .ge 191, 3) := by decide +kernel
theorem dX12_instruct_152 : decode cX12_instruct 152 = .ok (.aload_n 0, 1) := by decide +kernel
theorem dX12_instruct_153 : decode cX12_instruct 153 = .ok (.getfield 7, 3) := by decide +kernel
theorem dX12_instruct_156 : decode cX12_instruct 156 = .ok (.sipush 210, 3) := by decide +kernel
theorem dX12_instruct_159 : decode cX12_instruct 159 = .ok (.iload 12, 2) := by decide +kernel
theorem dX12_instruct_161 : decode cX12_instruct 161 = .ok (.iadd, 1) := by decide +kernel
theorem dX12_instruct_162 : decode cX12_instruct 162 = .ok (.iload_n 1, 1) := by decide +kernel
theorem dX12_instruct_163 : decode cX12_instruct 163 = .ok (.i2l, 1) := by decide +kernel
theorem dX12_instruct_164 : decode cX12_instruct 164 = .ok (.lastore, 1) := by decide +kernel
theorem dX12_instruct_165 : decode cX12_instruct 165 = .ok (.aload_n 0, 1) := by decide +kernel
theorem dX12_instruct_166 : decode cX12_instruct 166 = .ok (.getfield 7, 3) := by decide +kernel
theorem dX12_instruct_169 : decode cX12_instruct 169 = .ok (.sipush 250, 3) := by decide +kernel
theorem dX12_instruct_172 : decode cX12_instruct 172 = .ok (.iload 12, 2) := by decide +kernel
theorem dX12_instruct_174 : decode cX12_instruct 174 = .ok (.iadd, 1) := by decide +kernel
theorem dX12_instruct_175 : decode cX12_instruct 175 = .ok (.iload_n 2, 1) := by decide +kernel
theorem dX12_instruct_176 : decode cX12_instruct 176 = .ok (.i2l, 1) := by decide +kernel
theorem dX12_instruct_177 : decode cX12_instruct 177 = .ok (.lastore, 1) := by decide +kernel
theorem dX12_instruct_178 : decode cX12_instruct 178 = .ok (.aload_n 0, 1) := by decide +kernel
theorem dX12_instruct_179 : decode cX12_instruct 179 = .ok (.getfield 7, 3) := by decide +kernel
theorem dX12_instruct_182 : decode cX12_instruct 182 = .ok (.sipush 290, 3) := by decide +kernel
theorem dX12_instruct_185 : decode cX12_instruct 185 = .ok (.iload 12, 2) := by decide +kernel
theorem dX12_instruct_187 : decode cX12_instruct 187 = .ok (.iadd, 1) := by decide +kernel
theorem dX12_instruct_188 : decode cX12_instruct 188 = .ok (.iload_n 3, 1) := by decide +kernel
theorem dX12_instruct_189 : decode cX12_instruct 189 = .ok (.ifCond .eq 7, 3) := by decide +kernel
theorem dX12_instruct_192 : decode cX12_instruct 192 = .ok (.lconst 1, 1) := by decide +kernel
theorem dX12_instruct_193 : decode cX12_instruct 193 = .ok (.goto 4, 3) := by decide +kernel
theorem dX12_instruct_196 : decode cX12_instruct 196 = .ok (.lconst 0, 1) := by decide +kernel
theorem dX12_instruct_197 : decode cX12_instruct 197 = .ok (.lastore, 1) := by decide +kernel
theorem dX12_instruct_198 : decode cX12_instruct 198 = .ok (.aload_n 0, 1) := by decide +kernel
theorem dX12_instruct_199 : decode cX12_instruct 199 = .ok (.getfield 7, 3) := by decide +kernel
theorem dX12_instruct_202 : decode cX12_instruct 202 = .ok (.sipush 330, 3) := by decide +kernel
theorem dX12_instruct_205 : decode cX12_instruct 205 = .ok (.iload 12, 2) := by decide +kernel
theorem dX12_instruct_207 : decode cX12_instruct 207 = .ok (.iadd, 1) := by decide +kernel
theorem dX12_instruct_208 : decode cX12_instruct 208 = .ok (.iload 4, 2) := by decide +kernel
theorem dX12_instruct_210 : decode cX12_instruct 210 = .ok (.i2l, 1) := by decide +kernel
theorem dX12_instruct_211 : decode cX12_instruct 211 = .ok (.lastore, 1) := by decide +kernel
theorem dX12_instruct_212 : decode cX12_instruct 212 = .ok (.aload_n 0, 1) := by decide +kernel
theorem dX12_instruct_213 : decode cX12_instruct 213 = .ok (.getfield 7, 3) := by decide +kernel
theorem dX12_instruct_216 : decode cX12_instruct 216 = .ok (.sipush 370, 3) := by decide +kernel
theorem dX12_instruct_219 : decode cX12_instruct 219 = .ok (.iload 12, 2) := by decide +kernel
theorem dX12_instruct_221 : decode cX12_instruct 221 = .ok (.iadd, 1) := by decide +kernel
theorem dX12_instruct_222 : decode cX12_instruct 222 = .ok (.iload 5, 2) := by decide +kernel
theorem dX12_instruct_224 : decode cX12_instruct 224 = .ok (.i2l, 1) := by decide +kernel
theorem dX12_instruct_225 : decode cX12_instruct 225 = .ok (.lastore, 1) := by decide +kernel
theorem dX12_instruct_226 : decode cX12_instruct 226 = .ok (.aload_n 0, 1) := by decide +kernel
theorem dX12_instruct_227 : decode cX12_instruct 227 = .ok (.getfield 7, 3) := by decide +kernel
theorem dX12_instruct_230 : decode cX12_instruct 230 = .ok (.sipush 410, 3) := by decide +kernel
theorem dX12_instruct_233 : decode cX12_instruct 233 = .ok (.iload 12, 2) := by decide +kernel
theorem dX12_instruct_235 : decode cX12_instruct 235 = .ok (.iadd, 1) := by decide +kernel
theorem dX12_instruct_236 : decode cX12_instruct 236 = .ok (.iload 6, 2) := by decide +kernel
theorem dX12_instruct_238 : decode cX12_instruct 238 = .ok (.i2l, 1) := by decide +kernel
theorem dX12_instruct_239 : decode cX12_instruct 239 = .ok (.lastore, 1) := by decide +kernel
theorem dX12_instruct_240 : decode cX12_instruct 240 = .ok (.aload_n 0, 1) := by decide +kernel
theorem dX12_instruct_241 : decode cX12_instruct 241 = .ok (.getfield 7, 3) := by decide +kernel
theorem dX12_instruct_244 : decode cX12_instruct 244 = .ok (.sipush 450, 3) := by decide +kernel
theorem dX12_instruct_247 : decode cX12_instruct 247 = .ok (.iload 12, 2) := by decide +kernel
theorem dX12_instruct_249 : decode cX12_instruct 249 = .ok (.iadd, 1) := by decide +kernel
theorem dX12_instruct_250 : decode cX12_instruct 250 = .ok (.iload 7, 2) := by decide +kernel
theorem dX12_instruct_252 : decode cX12_instruct 252 = .ok (.i2l, 1) := by decide +kernel
theorem dX12_instruct_253 : decode cX12_instruct 253 = .ok (.lastore, 1) := by decide +kernel
theorem dX12_instruct_254 : decode cX12_instruct 254 = .ok (.aload_n 0, 1) := by decide +kernel
theorem dX12_instruct_255 : decode cX12_instruct 255 = .ok (.getfield 7, 3) := by decide +kernel
theorem dX12_instruct_258 : decode cX12_instruct 258 = .ok (.sipush 490, 3) := by decide +kernel
theorem dX12_instruct_261 : decode cX12_instruct 261 = .ok (.iload 12, 2) := by decide +kernel
theorem dX12_instruct_263 : decode cX12_instruct 263 = .ok (.iadd, 1) := by decide +kernel
theorem dX12_instruct_264 : decode cX12_instruct 264 = .ok (.iload 8, 2) := by decide +kernel
theorem dX12_instruct_266 : decode cX12_instruct 266 = .ok (.i2l, 1) := by decide +kernel
theorem dX12_instruct_267 : decode cX12_instruct 267 = .ok (.lastore, 1) := by decide +kernel
theorem dX12_instruct_268 : decode cX12_instruct 268 = .ok (.aload_n 0, 1) := by decide +kernel
theorem dX12_instruct_269 : decode cX12_instruct 269 = .ok (.getfield 7, 3) := by decide +kernel
theorem dX12_instruct_272 : decode cX12_instruct 272 = .ok (.sipush 530, 3) := by decide +kernel
theorem dX12_instruct_275 : decode cX12_instruct 275 = .ok (.iload 12, 2) := by decide +kernel
theorem dX12_instruct_277 : decode cX12_instruct 277 = .ok (.iadd, 1) := by decide +kernel
theorem dX12_instruct_278 : decode cX12_instruct 278 = .ok (.iload 9, 2) := by decide +kernel
theorem dX12_instruct_280 : decode cX12_instruct 280 = .ok (.i2l, 1) := by decide +kernel
theorem dX12_instruct_281 : decode cX12_instruct 281 = .ok (.lastore, 1) := by decide +kernel
theorem dX12_instruct_282 : decode cX12_instruct 282 = .ok (.aload_n 0, 1) := by decide +kernel
theorem dX12_instruct_283 : decode cX12_instruct 283 = .ok (.getfield 7, 3) := by decide +kernel
theorem dX12_instruct_286 : decode cX12_instruct 286 = .ok (.sipush 570, 3) := by decide +kernel
theorem dX12_instruct_289 : decode cX12_instruct 289 = .ok (.iload 12, 2) := by decide +kernel
theorem dX12_instruct_291 : decode cX12_instruct 291 = .ok (.iadd, 1) := by decide +kernel
theorem dX12_instruct_292 : decode cX12_instruct 292 = .ok (.lconst 0, 1) := by decide +kernel
theorem dX12_instruct_293 : decode cX12_instruct 293 = .ok (.lastore, 1) := by decide +kernel
theorem dX12_instruct_294 : decode cX12_instruct 294 = .ok (.aload_n 0, 1) := by decide +kernel
theorem dX12_instruct_295 : decode cX12_instruct 295 = .ok (.getfield 7, 3) := by decide +kernel
theorem dX12_instruct_298 : decode cX12_instruct 298 = .ok (.sipush 610, 3) := by decide +kernel
theorem dX12_instruct_301 : decode cX12_instruct 301 = .ok (.iload 12, 2) := by decide +kernel
theorem dX12_instruct_303 : decode cX12_instruct 303 = .ok (.iadd, 1) := by decide +kernel
theorem dX12_instruct_304 : decode cX12_instruct 304 = .ok (.lconst 0, 1) := by decide +kernel
theorem dX12_instruct_305 : decode cX12_instruct 305 = .ok (.lastore, 1) := by decide +kernel
theorem dX12_instruct_306 : decode cX12_instruct 306 = .ok (.aload_n 0, 1) := by decide +kernel
theorem dX12_instruct_307 : decode cX12_instruct 307 = .ok (.getfield 7, 3) := by decide +kernel
theorem dX12_instruct_310 : decode cX12_instruct 310 = .ok (.sipush 650, 3) := by decide +kernel
theorem dX12_instruct_313 : decode cX12_instruct 313 = .ok (.iload 12, 2) := by decide +kernel
theorem dX12_instruct_315 : decode cX12_instruct 315 = .ok (.iadd, 1) := by decide +kernel
theorem dX12_instruct_316 : decode cX12_instruct 316 = .ok (.ldc2_w 81, 3) := by decide +kernel
theorem dX12_instruct_319 : decode cX12_instruct 319 = .ok (.lastore, 1) := by decide +kernel
theorem dX12_instruct_320 : decode cX12_instruct 320 = .ok (.aload_n 0, 1) := by decide +kernel
theorem dX12_instruct_321 : decode cX12_instruct 321 = .ok (.getfield 7, 3) := by decide +kernel
theorem dX12_instruct_324 : decode cX12_instruct 324 = .ok (.sipush 690, 3) := by decide +kernel
theorem dX12_instruct_327 : decode cX12_instruct 327 = .ok (.iload 12, 2) := by decide +kernel
theorem dX12_instruct_329 : decode cX12_instruct 329 = .ok (.iadd, 1) := by decide +kernel
theorem dX12_instruct_330 : decode cX12_instruct 330 = .ok (.lconst 0, 1) := by decide +kernel
theorem dX12_instruct_331 : decode cX12_instruct 331 = .ok (.lastore, 1) := by decide +kernel
theorem dX12_instruct_332 : decode cX12_instruct 332 = .ok (.aload_n 0, 1) := by decide +kernel
theorem dX12_instruct_333 : decode cX12_instruct 333 = .ok (.iload 12, 2) := by decide +kernel
theorem dX12_instruct_335 : decode cX12_instruct 335 = .ok (.invokevirtual 110, 3) := by decide +kernel
theorem dX12_instruct_338 : decode cX12_instruct 338 = .ok (.istore 13, 2) := by decide +kernel
theorem dX12_instruct_340 : decode cX12_instruct 340 = .ok (.aload_n 0, 1) := by decide +kernel
theorem dX12_instruct_341 : decode cX12_instruct 341 = .ok (.iload 10, 2) := by decide +kernel
theorem dX12_instruct_343 : decode cX12_instruct 343 = .ok (.ifCond .ne 7, 3) := by decide +kernel
theorem dX12_instruct_346 : decode cX12_instruct 346 = .ok (.iconst 1, 1) := by decide +kernel
theorem dX12_instruct_347 : decode cX12_instruct 347 = .ok (.goto 44, 3) := by decide +kernel
theorem dX12_instruct_350 : decode cX12_instruct 350 = .ok (.iload 11, 2) := by decide +kernel
theorem dX12_instruct_352 : decode cX12_instruct 352 = .ok (.ifCond .ne 7, 3) := by decide +kernel
theorem dX12_instruct_355 : decode cX12_instruct 355 = .ok (.iconst 2, 1) := by decide +kernel
theorem dX12_instruct_356 : decode cX12_instruct 356 = .ok (.goto 35, 3) := by decide +kernel
theorem dX12_instruct_359 : decode cX12_instruct 359 = .ok (.iload 12, 2) := by decide +kernel
theorem dX12_instruct_361 : decode cX12_instruct 361 = .ok (.bipush 40, 2) := by decide +kernel
theorem dX12_instruct_363 : decode cX12_instruct 363 = .ok (.if_icmp .eq 23, 3) := by decide +kernel
theorem dX12_instruct_366 : decode cX12_instruct 366 = .ok (.iload 13, 2) := by decide +kernel
theorem dX12_instruct_368 : decode cX12_instruct 368 = .ok (.ifCond .lt 22, 3) := by decide +kernel
theorem dX12_instruct_371 : decode cX12_instruct 371 = .ok (.aload_n 0, 1) := by decide +kernel
theorem dX12_instruct_372 : decode cX12_instruct 372 = .ok (.getfield 7, 3) := by decide +kernel
theorem dX12_instruct_375 : decode cX12_instruct 375 = .ok (.sipush 1543, 3) := by decide +kernel
theorem dX12_instruct_378 : decode cX12_instruct 378 = .ok (.laload, 1) := by decide +kernel
theorem dX12_instruct_379 : decode cX12_instruct 379 = .ok (.ldc2_w 113, 3) := by decide +kernel
theorem dX12_instruct_382 : decode cX12_instruct 382 = .ok (.lcmp, 1) := by decide +kernel
theorem dX12_instruct_383 : decode cX12_instruct 383 = .ok (.ifCond .ne 7, 3) := by decide +kernel
theorem dX12_instruct_386 : decode cX12_instruct 386 = .ok (.iconst 3, 1) := by decide +kernel
theorem dX12_instruct_387 : decode cX12_instruct 387 = .ok (.goto 4, 3) := by decide +kernel
theorem dX12_instruct_390 : decode cX12_instruct 390 = .ok (.iconst 0, 1) := by decide +kernel
theorem dX12_instruct_391 : decode cX12_instruct 391 = .ok (.invokevirtual 61, 3) := by decide +kernel
theorem dX12_instruct_394 : decode cX12_instruct 394 = .ok (.ifCond .eq 5, 3) := by decide +kernel
theorem dX12_instruct_397 : decode cX12_instruct 397 = .ok (.iconst (-1), 1) := by decide +kernel
theorem dX12_instruct_398 : decode cX12_instruct 398 = .ok (.ireturn, 1) := by decide +kernel
theorem dX12_instruct_399 : decode cX12_instruct 399 = .ok (.aload_n 0, 1) := by decide +kernel
theorem dX12_instruct_400 : decode cX12_instruct 400 = .ok (.getfield 7, 3) := by decide +kernel
theorem dX12_instruct_403 : decode cX12_instruct 403 = .ok (.sipush 1542, 3) := by decide +kernel
theorem dX12_instruct_406 : decode cX12_instruct 406 = .ok (.dup2, 1) := by decide +kernel
theorem dX12_instruct_407 : decode cX12_instruct 407 = .ok (.laload, 1) := by decide +kernel
theorem dX12_instruct_408 : decode cX12_instruct 408 = .ok (.lconst 1, 1) := by decide +kernel
theorem dX12_instruct_409 : decode cX12_instruct 409 = .ok (.ladd, 1) := by decide +kernel
theorem dX12_instruct_410 : decode cX12_instruct 410 = .ok (.lastore, 1) := by decide +kernel
theorem dX12_instruct_411 : decode cX12_instruct 411 = .ok (.iload 13, 2) := by decide +kernel
theorem dX12_instruct_413 : decode cX12_instruct 413 = .ok (.ifCond .lt 12, 3) := by decide +kernel
theorem dX12_instruct_416 : decode cX12_instruct 416 = .ok (.aload_n 0, 1) := by decide +kernel
theorem dX12_instruct_417 : decode cX12_instruct 417 = .ok (.iload 12, 2) := by decide +kernel
theorem dX12_instruct_419 : decode cX12_instruct 419 = .ok (.iload 13, 2) := by decide +kernel
theorem dX12_instruct_421 : decode cX12_instruct 421 = .ok (.invokevirtual 115, 3) := by decide +kernel
theorem dX12_instruct_424 : decode cX12_instruct 424 = .ok (.pop, 1) := by decide +kernel
theorem dX12_instruct_425 : decode cX12_instruct 425 = .ok (.iload 12, 2) := by decide +kernel
theorem dX12_instruct_427 : decode cX12_instruct 427 = .ok (.ireturn, 1) := by decide +kernel
