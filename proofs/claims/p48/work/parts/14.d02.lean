theorem dX2_shiftLoans_0 : decode cX2_shiftLoans 0 = .ok (.aload_n 0, 1) := by decide +kernel
theorem dX2_shiftLoans_1 : decode cX2_shiftLoans 1 = .ok (.getfield 22, 3) := by decide +kernel
theorem dX2_shiftLoans_4 : decode cX2_shiftLoans 4 = .ok (.aload_n 1, 1) := by decide +kernel
theorem dX2_shiftLoans_5 : decode cX2_shiftLoans 5 = .ok (.getfield 169, 3) := by decide +kernel
theorem dX2_shiftLoans_8 : decode cX2_shiftLoans 8 = .ok (.invokevirtual 190, 3) := by decide +kernel
theorem dX2_shiftLoans_11 : decode cX2_shiftLoans 11 = .ok (.astore_n 3, 1) := by decide +kernel
theorem dX2_shiftLoans_12 : decode cX2_shiftLoans 12 = .ok (.iconst 0, 1) := by decide +kernel
theorem dX2_shiftLoans_13 : decode cX2_shiftLoans 13 = .ok (.istore 4, 2) := by decide +kernel
theorem dX2_shiftLoans_15 : decode cX2_shiftLoans 15 = .ok (.iload 4, 2) := by decide +kernel
theorem dX2_shiftLoans_17 : decode cX2_shiftLoans 17 = .ok (.aload_n 0, 1) := by decide +kernel
theorem dX2_shiftLoans_18 : decode cX2_shiftLoans 18 = .ok (.getfield 19, 3) := by decide +kernel
theorem dX2_shiftLoans_21 : decode cX2_shiftLoans 21 = .ok (.arraylength, 1) := by decide +kernel
theorem dX2_shiftLoans_22 : decode cX2_shiftLoans 22 = .ok (.if_icmp .ge 72, 3) := by decide +kernel
theorem dX2_shiftLoans_25 : decode cX2_shiftLoans 25 = .ok (.iload_n 2, 1) := by decide +kernel
theorem dX2_shiftLoans_26 : decode cX2_shiftLoans 26 = .ok (.i2l, 1) := by decide +kernel
theorem dX2_shiftLoans_27 : decode cX2_shiftLoans 27 = .ok (.aload_n 0, 1) := by decide +kernel
theorem dX2_shiftLoans_28 : decode cX2_shiftLoans 28 = .ok (.getfield 19, 3) := by decide +kernel
theorem dX2_shiftLoans_31 : decode cX2_shiftLoans 31 = .ok (.iload 4, 2) := by decide +kernel
theorem dX2_shiftLoans_33 : decode cX2_shiftLoans 33 = .ok (.laload, 1) := by decide +kernel
theorem dX2_shiftLoans_34 : decode cX2_shiftLoans 34 = .ok (.lmul, 1) := by decide +kernel
theorem dX2_shiftLoans_35 : decode cX2_shiftLoans 35 = .ok (.lstore 5, 2) := by decide +kernel
theorem dX2_shiftLoans_37 : decode cX2_shiftLoans 37 = .ok (.aload_n 0, 1) := by decide +kernel
theorem dX2_shiftLoans_38 : decode cX2_shiftLoans 38 = .ok (.getfield 22, 3) := by decide +kernel
theorem dX2_shiftLoans_41 : decode cX2_shiftLoans 41 = .ok (.iload 4, 2) := by decide +kernel
theorem dX2_shiftLoans_43 : decode cX2_shiftLoans 43 = .ok (.invokevirtual 190, 3) := by decide +kernel
theorem dX2_shiftLoans_46 : decode cX2_shiftLoans 46 = .ok (.aload_n 1, 1) := by decide +kernel
theorem dX2_shiftLoans_47 : decode cX2_shiftLoans 47 = .ok (.getfield 119, 3) := by decide +kernel
theorem dX2_shiftLoans_50 : decode cX2_shiftLoans 50 = .ok (.lload 5, 2) := by decide +kernel
theorem dX2_shiftLoans_52 : decode cX2_shiftLoans 52 = .ok (.lneg, 1) := by decide +kernel
theorem dX2_shiftLoans_53 : decode cX2_shiftLoans 53 = .ok (.invokevirtual 254, 3) := by decide +kernel
theorem dX2_shiftLoans_56 : decode cX2_shiftLoans 56 = .ok (.aload_n 3, 1) := by decide +kernel
theorem dX2_shiftLoans_57 : decode cX2_shiftLoans 57 = .ok (.aload_n 1, 1) := by decide +kernel
theorem dX2_shiftLoans_58 : decode cX2_shiftLoans 58 = .ok (.getfield 119, 3) := by decide +kernel
theorem dX2_shiftLoans_61 : decode cX2_shiftLoans 61 = .ok (.lload 5, 2) := by decide +kernel
theorem dX2_shiftLoans_63 : decode cX2_shiftLoans 63 = .ok (.invokevirtual 254, 3) := by decide +kernel
theorem dX2_shiftLoans_66 : decode cX2_shiftLoans 66 = .ok (.aload_n 3, 1) := by decide +kernel
theorem dX2_shiftLoans_67 : decode cX2_shiftLoans 67 = .ok (.dup, 1) := by decide +kernel
theorem dX2_shiftLoans_68 : decode cX2_shiftLoans 68 = .ok (.getfield 212, 3) := by decide +kernel
theorem dX2_shiftLoans_71 : decode cX2_shiftLoans 71 = .ok (.aload_n 0, 1) := by decide +kernel
theorem dX2_shiftLoans_72 : decode cX2_shiftLoans 72 = .ok (.getfield 22, 3) := by decide +kernel
theorem dX2_shiftLoans_75 : decode cX2_shiftLoans 75 = .ok (.aload_n 1, 1) := by decide +kernel
theorem dX2_shiftLoans_76 : decode cX2_shiftLoans 76 = .ok (.getfield 119, 3) := by decide +kernel
theorem dX2_shiftLoans_79 : decode cX2_shiftLoans 79 = .ok (.lload 5, 2) := by decide +kernel
theorem dX2_shiftLoans_81 : decode cX2_shiftLoans 81 = .ok (.invokevirtual 125, 3) := by decide +kernel
theorem dX2_shiftLoans_84 : decode cX2_shiftLoans 84 = .ok (.ladd, 1) := by decide +kernel
theorem dX2_shiftLoans_85 : decode cX2_shiftLoans 85 = .ok (.putfield 212, 3) := by decide +kernel
theorem dX2_shiftLoans_88 : decode cX2_shiftLoans 88 = .ok (.iinc 4 1, 3) := by decide +kernel
theorem dX2_shiftLoans_91 : decode cX2_shiftLoans 91 = .ok (.goto (-76), 3) := by decide +kernel
theorem dX2_shiftLoans_94 : decode cX2_shiftLoans 94 = .ok (.return_, 1) := by decide +kernel
theorem dX2_areLendersFirm_0 : decode cX2_areLendersFirm 0 = .ok (.iconst 0, 1) := by decide +kernel
theorem dX2_areLendersFirm_1 : decode cX2_areLendersFirm 1 = .ok (.istore_n 1, 1) := by decide +kernel
theorem dX2_areLendersFirm_2 : decode cX2_areLendersFirm 2 = .ok (.iload_n 1, 1) := by decide +kernel
theorem dX2_areLendersFirm_3 : decode cX2_areLendersFirm 3 = .ok (.aload_n 0, 1) := by decide +kernel
theorem dX2_areLendersFirm_4 : decode cX2_areLendersFirm 4 = .ok (.getfield 19, 3) := by decide +kernel
theorem dX2_areLendersFirm_7 : decode cX2_areLendersFirm 7 = .ok (.arraylength, 1) := by decide +kernel
theorem dX2_areLendersFirm_8 : decode cX2_areLendersFirm 8 = .ok (.if_icmp .ge 33, 3) := by decide +kernel
theorem dX2_areLendersFirm_11 : decode cX2_areLendersFirm 11 = .ok (.aload_n 0, 1) := by decide +kernel
theorem dX2_areLendersFirm_12 : decode cX2_areLendersFirm 12 = .ok (.getfield 19, 3) := by decide +kernel
theorem dX2_areLendersFirm_15 : decode cX2_areLendersFirm 15 = .ok (.iload_n 1, 1) := by decide +kernel
theorem dX2_areLendersFirm_16 : decode cX2_areLendersFirm 16 = .ok (.laload, 1) := by decide +kernel
theorem dX2_areLendersFirm_17 : decode cX2_areLendersFirm 17 = .ok (.lconst 0, 1) := by decide +kernel
theorem dX2_areLendersFirm_18 : decode cX2_areLendersFirm 18 = .ok (.lcmp, 1) := by decide +kernel
theorem dX2_areLendersFirm_19 : decode cX2_areLendersFirm 19 = .ok (.ifCond .le 16, 3) := by decide +kernel
theorem dX2_areLendersFirm_22 : decode cX2_areLendersFirm 22 = .ok (.aload_n 0, 1) := by decide +kernel
theorem dX2_areLendersFirm_23 : decode cX2_areLendersFirm 23 = .ok (.getfield 22, 3) := by decide +kernel
theorem dX2_areLendersFirm_26 : decode cX2_areLendersFirm 26 = .ok (.iload_n 1, 1) := by decide +kernel
theorem dX2_areLendersFirm_27 : decode cX2_areLendersFirm 27 = .ok (.invokevirtual 172, 3) := by decide +kernel
theorem dX2_areLendersFirm_30 : decode cX2_areLendersFirm 30 = .ok (.ifCond .ne 5, 3) := by decide +kernel
theorem dX2_areLendersFirm_33 : decode cX2_areLendersFirm 33 = .ok (.iconst 0, 1) := by decide +kernel
theorem dX2_areLendersFirm_34 : decode cX2_areLendersFirm 34 = .ok (.ireturn, 1) := by decide +kernel
theorem dX2_areLendersFirm_35 : decode cX2_areLendersFirm 35 = .ok (.iinc 1 1, 3) := by decide +kernel
theorem dX2_areLendersFirm_38 : decode cX2_areLendersFirm 38 = .ok (.goto (-36), 3) := by decide +kernel
theorem dX2_areLendersFirm_41 : decode cX2_areLendersFirm 41 = .ok (.iconst 1, 1) := by decide +kernel
theorem dX2_areLendersFirm_42 : decode cX2_areLendersFirm 42 = .ok (.ireturn, 1) := by decide +kernel
theorem dX2_makeLoans_0 : decode cX2_makeLoans 0 = .ok (.aload_n 0, 1) := by decide +kernel
theorem dX2_makeLoans_1 : decode cX2_makeLoans 1 = .ok (.getfield 22, 3) := by decide +kernel
theorem dX2_makeLoans_4 : decode cX2_makeLoans 4 = .ok (.aload_n 1, 1) := by decide +kernel
theorem dX2_makeLoans_5 : decode cX2_makeLoans 5 = .ok (.getfield 169, 3) := by decide +kernel
theorem dX2_makeLoans_8 : decode cX2_makeLoans 8 = .ok (.invokevirtual 190, 3) := by decide +kernel
theorem dX2_makeLoans_11 : decode cX2_makeLoans 11 = .ok (.astore_n 2, 1) := by decide +kernel
theorem dX2_makeLoans_12 : decode cX2_makeLoans 12 = .ok (.iconst 0, 1) := by decide +kernel
theorem dX2_makeLoans_13 : decode cX2_makeLoans 13 = .ok (.istore_n 3, 1) := by decide +kernel
theorem dX2_makeLoans_14 : decode cX2_makeLoans 14 = .ok (.iload_n 3, 1) := by decide +kernel
theorem dX2_makeLoans_15 : decode cX2_makeLoans 15 = .ok (.aload_n 0, 1) := by decide +kernel
theorem dX2_makeLoans_16 : decode cX2_makeLoans 16 = .ok (.getfield 19, 3) := by decide +kernel
theorem dX2_makeLoans_19 : decode cX2_makeLoans 19 = .ok (.arraylength, 1) := by decide +kernel
theorem dX2_makeLoans_20 : decode cX2_makeLoans 20 = .ok (.if_icmp .ge 142, 3) := by decide +kernel
theorem dX2_makeLoans_23 : decode cX2_makeLoans 23 = .ok (.aload_n 0, 1) := by decide +kernel
theorem dX2_makeLoans_24 : decode cX2_makeLoans 24 = .ok (.getfield 19, 3) := by decide +kernel
theorem dX2_makeLoans_27 : decode cX2_makeLoans 27 = .ok (.iload_n 3, 1) := by decide +kernel
theorem dX2_makeLoans_28 : decode cX2_makeLoans 28 = .ok (.laload, 1) := by decide +kernel
theorem dX2_makeLoans_29 : decode cX2_makeLoans 29 = .ok (.lconst 0, 1) := by decide +kernel
theorem dX2_makeLoans_30 : decode cX2_makeLoans 30 = .ok (.lcmp, 1) := by decide +kernel
theorem dX2_makeLoans_31 : decode cX2_makeLoans 31 = .ok (.ifCond .le 125, 3) := by decide +kernel
theorem dX2_makeLoans_34 : decode cX2_makeLoans 34 = .ok (.aload_n 0, 1) := by decide +kernel
theorem dX2_makeLoans_35 : decode cX2_makeLoans 35 = .ok (.getfield 22, 3) := by decide +kernel
theorem dX2_makeLoans_38 : decode cX2_makeLoans 38 = .ok (.aload_n 0, 1) := by decide +kernel
theorem dX2_makeLoans_39 : decode cX2_makeLoans 39 = .ok (.getfield 22, 3) := by decide +kernel
theorem dX2_makeLoans_42 : decode cX2_makeLoans 42 = .ok (.getfield 178, 3) := by decide +kernel
theorem dX2_makeLoans_45 : decode cX2_makeLoans 45 = .ok (.invokevirtual 181, 3) := by decide +kernel
theorem dX2_makeLoans_48 : decode cX2_makeLoans 48 = .ok (.astore 4, 2) := by decide +kernel
theorem dX2_makeLoans_50 : decode cX2_makeLoans 50 = .ok (.aload 4, 2) := by decide +kernel
theorem dX2_makeLoans_52 : decode cX2_makeLoans 52 = .ok (.iload_n 3, 1) := by decide +kernel
theorem dX2_makeLoans_53 : decode cX2_makeLoans 53 = .ok (.putfield 205, 3) := by decide +kernel
theorem dX2_makeLoans_56 : decode cX2_makeLoans 56 = .ok (.aload 4, 2) := by decide +kernel
theorem dX2_makeLoans_58 : decode cX2_makeLoans 58 = .ok (.aload_n 1, 1) := by decide +kernel
theorem dX2_makeLoans_59 : decode cX2_makeLoans 59 = .ok (.getfield 169, 3) := by decide +kernel
theorem dX2_makeLoans_62 : decode cX2_makeLoans 62 = .ok (.putfield 185, 3) := by decide +kernel
theorem dX2_makeLoans_65 : decode cX2_makeLoans 65 = .ok (.aload 4, 2) := by decide +kernel
theorem dX2_makeLoans_67 : decode cX2_makeLoans 67 = .ok (.aload_n 1, 1) := by decide +kernel
theorem dX2_makeLoans_68 : decode cX2_makeLoans 68 = .ok (.getfield 119, 3) := by decide +kernel
theorem dX2_makeLoans_71 : decode cX2_makeLoans 71 = .ok (.putfield 197, 3) := by decide +kernel
theorem dX2_makeLoans_74 : decode cX2_makeLoans 74 = .ok (.aload 4, 2) := by decide +kernel
theorem dX2_makeLoans_76 : decode cX2_makeLoans 76 = .ok (.aload_n 0, 1) := by decide +kernel
theorem dX2_makeLoans_77 : decode cX2_makeLoans 77 = .ok (.getfield 19, 3) := by decide +kernel
theorem dX2_makeLoans_80 : decode cX2_makeLoans 80 = .ok (.iload_n 3, 1) := by decide +kernel
theorem dX2_makeLoans_81 : decode cX2_makeLoans 81 = .ok (.laload, 1) := by decide +kernel
theorem dX2_makeLoans_82 : decode cX2_makeLoans 82 = .ok (.putfield 204, 3) := by decide +kernel
theorem dX2_makeLoans_85 : decode cX2_makeLoans 85 = .ok (.aload 4, 2) := by decide +kernel
theorem dX2_makeLoans_87 : decode cX2_makeLoans 87 = .ok (.aload_n 0, 1) := by decide +kernel
theorem dX2_makeLoans_88 : decode cX2_makeLoans 88 = .ok (.getfield 22, 3) := by decide +kernel
theorem dX2_makeLoans_91 : decode cX2_makeLoans 91 = .ok (.aload_n 1, 1) := by decide +kernel
theorem dX2_makeLoans_92 : decode cX2_makeLoans 92 = .ok (.getfield 119, 3) := by decide +kernel
theorem dX2_makeLoans_95 : decode cX2_makeLoans 95 = .ok (.aload_n 0, 1) := by decide +kernel
theorem dX2_makeLoans_96 : decode cX2_makeLoans 96 = .ok (.getfield 19, 3) := by decide +kernel
theorem dX2_makeLoans_99 : decode cX2_makeLoans 99 = .ok (.iload_n 3, 1) := by decide +kernel
theorem dX2_makeLoans_100 : decode cX2_makeLoans 100 = .ok (.laload, 1) := by decide +kernel
theorem dX2_makeLoans_101 : decode cX2_makeLoans 101 = .ok (.invokevirtual 125, 3) := by decide +kernel
theorem dX2_makeLoans_104 : decode cX2_makeLoans 104 = .ok (.putfield 215, 3) := by decide +kernel
theorem dX2_makeLoans_107 : decode cX2_makeLoans 107 = .ok (.aload_n 0, 1) := by decide +kernel
theorem dX2_makeLoans_108 : decode cX2_makeLoans 108 = .ok (.getfield 22, 3) := by decide +kernel
theorem dX2_makeLoans_111 : decode cX2_makeLoans 111 = .ok (.dup, 1) := by decide +kernel
theorem dX2_makeLoans_112 : decode cX2_makeLoans 112 = .ok (.getfield 178, 3) := by decide +kernel
theorem dX2_makeLoans_115 : decode cX2_makeLoans 115 = .ok (.iconst 1, 1) := by decide +kernel
theorem dX2_makeLoans_116 : decode cX2_makeLoans 116 = .ok (.iadd, 1) := by decide +kernel
theorem dX2_makeLoans_117 : decode cX2_makeLoans 117 = .ok (.putfield 178, 3) := by decide +kernel
theorem dX2_makeLoans_120 : decode cX2_makeLoans 120 = .ok (.aload_n 0, 1) := by decide +kernel
theorem dX2_makeLoans_121 : decode cX2_makeLoans 121 = .ok (.getfield 22, 3) := by decide +kernel
theorem dX2_makeLoans_124 : decode cX2_makeLoans 124 = .ok (.iload_n 3, 1) := by decide +kernel
theorem dX2_makeLoans_125 : decode cX2_makeLoans 125 = .ok (.aload_n 1, 1) := by decide +kernel
theorem dX2_makeLoans_126 : decode cX2_makeLoans 126 = .ok (.getfield 169, 3) := by decide +kernel
theorem dX2_makeLoans_129 : decode cX2_makeLoans 129 = .ok (.aload_n 1, 1) := by decide +kernel
theorem dX2_makeLoans_130 : decode cX2_makeLoans 130 = .ok (.getfield 119, 3) := by decide +kernel
theorem dX2_makeLoans_133 : decode cX2_makeLoans 133 = .ok (.aload_n 0, 1) := by decide +kernel
theorem dX2_makeLoans_134 : decode cX2_makeLoans 134 = .ok (.getfield 19, 3) := by decide +kernel
theorem dX2_makeLoans_137 : decode cX2_makeLoans 137 = .ok (.iload_n 3, 1) := by decide +kernel
theorem dX2_makeLoans_138 : decode cX2_makeLoans 138 = .ok (.laload, 1) := by decide +kernel
theorem dX2_makeLoans_139 : decode cX2_makeLoans 139 = .ok (.invokevirtual 208, 3) := by decide +kernel
theorem dX2_makeLoans_142 : decode cX2_makeLoans 142 = .ok (.aload_n 2, 1) := by decide +kernel
theorem dX2_makeLoans_143 : decode cX2_makeLoans 143 = .ok (.dup, 1) := by decide +kernel
theorem dX2_makeLoans_144 : decode cX2_makeLoans 144 = .ok (.getfield 212, 3) := by decide +kernel
theorem dX2_makeLoans_147 : decode cX2_makeLoans 147 = .ok (.aload 4, 2) := by decide +kernel
theorem dX2_makeLoans_149 : decode cX2_makeLoans 149 = .ok (.getfield 215, 3) := by decide +kernel
theorem dX2_makeLoans_152 : decode cX2_makeLoans 152 = .ok (.ladd, 1) := by decide +kernel
theorem dX2_makeLoans_153 : decode cX2_makeLoans 153 = .ok (.putfield 212, 3) := by decide +kernel
theorem dX2_makeLoans_156 : decode cX2_makeLoans 156 = .ok (.iinc 3 1, 3) := by decide +kernel
theorem dX2_makeLoans_159 : decode cX2_makeLoans 159 = .ok (.goto (-145), 3) := by decide +kernel
theorem dX2_makeLoans_162 : decode cX2_makeLoans 162 = .ok (.return_, 1) := by decide +kernel
theorem dX2_settleInPart_0 : decode cX2_settleInPart 0 = .ok (.iconst 0, 1) := by decide +kernel
theorem dX2_settleInPart_1 : decode cX2_settleInPart 1 = .ok (.istore_n 1, 1) := by decide +kernel
theorem dX2_settleInPart_2 : decode cX2_settleInPart 2 = .ok (.iload_n 1, 1) := by decide +kernel
theorem dX2_settleInPart_3 : decode cX2_settleInPart 3 = .ok (.aload_n 0, 1) := by decide +kernel
theorem dX2_settleInPart_4 : decode cX2_settleInPart 4 = .ok (.getfield 37, 3) := by decide +kernel
theorem dX2_settleInPart_7 : decode cX2_settleInPart 7 = .ok (.if_icmp .ge 98, 3) := by decide +kernel
theorem dX2_settleInPart_10 : decode cX2_settleInPart 10 = .ok (.aload_n 0, 1) := by decide +kernel
theorem dX2_settleInPart_11 : decode cX2_settleInPart 11 = .ok (.iload_n 1, 1) := by decide +kernel
theorem dX2_settleInPart_12 : decode cX2_settleInPart 12 = .ok (.invokevirtual 41, 3) := by decide +kernel
theorem dX2_settleInPart_15 : decode cX2_settleInPart 15 = .ok (.astore_n 2, 1) := by decide +kernel
theorem dX2_settleInPart_16 : decode cX2_settleInPart 16 = .ok (.aload_n 0, 1) := by decide +kernel
theorem dX2_settleInPart_17 : decode cX2_settleInPart 17 = .ok (.getfield 22, 3) := by decide +kernel
theorem dX2_settleInPart_20 : decode cX2_settleInPart 20 = .ok (.aload_n 2, 1) := by decide +kernel
theorem dX2_settleInPart_21 : decode cX2_settleInPart 21 = .ok (.getfield 169, 3) := by decide +kernel
theorem dX2_settleInPart_24 : decode cX2_settleInPart 24 = .ok (.invokevirtual 190, 3) := by decide +kernel
theorem dX2_settleInPart_27 : decode cX2_settleInPart 27 = .ok (.aload_n 2, 1) := by decide +kernel
theorem dX2_settleInPart_28 : decode cX2_settleInPart 28 = .ok (.getfield 119, 3) := by decide +kernel
theorem dX2_settleInPart_31 : decode cX2_settleInPart 31 = .ok (.invokevirtual 198, 3) := by decide +kernel
theorem dX2_settleInPart_34 : decode cX2_settleInPart 34 = .ok (.lstore_n 3, 1) := by decide +kernel
theorem dX2_settleInPart_35 : decode cX2_settleInPart 35 = .ok (.lload_n 3, 1) := by decide +kernel
theorem dX2_settleInPart_36 : decode cX2_settleInPart 36 = .ok (.aload_n 2, 1) := by decide +kernel
theorem dX2_settleInPart_37 : decode cX2_settleInPart 37 = .ok (.getfield 122, 3) := by decide +kernel
theorem dX2_settleInPart_40 : decode cX2_settleInPart 40 = .ok (.lcmp, 1) := by decide +kernel
theorem dX2_settleInPart_41 : decode cX2_settleInPart 41 = .ok (.ifCond .ge 16, 3) := by decide +kernel
theorem dX2_settleInPart_44 : decode cX2_settleInPart 44 = .ok (.lload_n 3, 1) := by decide +kernel
theorem dX2_settleInPart_45 : decode cX2_settleInPart 45 = .ok (.aload_n 2, 1) := by decide +kernel
theorem dX2_settleInPart_46 : decode cX2_settleInPart 46 = .ok (.getfield 257, 3) := by decide +kernel
theorem dX2_settleInPart_49 : decode cX2_settleInPart 49 = .ok (.lcmp, 1) := by decide +kernel
theorem dX2_settleInPart_50 : decode cX2_settleInPart 50 = .ok (.ifCond .lt 7, 3) := by decide +kernel
theorem dX2_settleInPart_53 : decode cX2_settleInPart 53 = .ok (.iconst 1, 1) := by decide +kernel
theorem dX2_settleInPart_54 : decode cX2_settleInPart 54 = .ok (.goto 4, 3) := by decide +kernel
theorem dX2_settleInPart_57 : decode cX2_settleInPart 57 = .ok (.iconst 0, 1) := by decide +kernel
theorem dX2_settleInPart_58 : decode cX2_settleInPart 58 = .ok (.istore 5, 2) := by decide +kernel
theorem dX2_settleInPart_60 : decode cX2_settleInPart 60 = .ok (.aload_n 2, 1) := by decide +kernel
theorem dX2_settleInPart_61 : decode cX2_settleInPart 61 = .ok (.getfield 166, 3) := by decide +kernel
theorem dX2_settleInPart_64 : decode cX2_settleInPart 64 = .ok (.iconst 1, 1) := by decide +kernel
theorem dX2_settleInPart_65 : decode cX2_settleInPart 65 = .ok (.if_icmp .ne 34, 3) := by decide +kernel
theorem dX2_settleInPart_68 : decode cX2_settleInPart 68 = .ok (.aload_n 2, 1) := by decide +kernel
theorem dX2_settleInPart_69 : decode cX2_settleInPart 69 = .ok (.getfield 257, 3) := by decide +kernel
theorem dX2_settleInPart_72 : decode cX2_settleInPart 72 = .ok (.lconst 0, 1) := by decide +kernel
theorem dX2_settleInPart_73 : decode cX2_settleInPart 73 = .ok (.lcmp, 1) := by decide +kernel
theorem dX2_settleInPart_74 : decode cX2_settleInPart 74 = .ok (.ifCond .le 25, 3) := by decide +kernel
theorem dX2_settleInPart_77 : decode cX2_settleInPart 77 = .ok (.iload 5, 2) := by decide +kernel
theorem dX2_settleInPart_79 : decode cX2_settleInPart 79 = .ok (.ifCond .eq 20, 3) := by decide +kernel
theorem dX2_settleInPart_82 : decode cX2_settleInPart 82 = .ok (.aload_n 0, 1) := by decide +kernel
theorem dX2_settleInPart_83 : decode cX2_settleInPart 83 = .ok (.getfield 22, 3) := by decide +kernel
theorem dX2_settleInPart_86 : decode cX2_settleInPart 86 = .ok (.aload_n 2, 1) := by decide +kernel
theorem dX2_settleInPart_87 : decode cX2_settleInPart 87 = .ok (.invokevirtual 222, 3) := by decide +kernel
theorem dX2_settleInPart_90 : decode cX2_settleInPart 90 = .ok (.ifCond .ne 9, 3) := by decide +kernel
theorem dX2_settleInPart_93 : decode cX2_settleInPart 93 = .ok (.aload_n 0, 1) := by decide +kernel
theorem dX2_settleInPart_94 : decode cX2_settleInPart 94 = .ok (.aload_n 2, 1) := by decide +kernel
theorem dX2_settleInPart_95 : decode cX2_settleInPart 95 = .ok (.lload_n 3, 1) := by decide +kernel
theorem dX2_settleInPart_96 : decode cX2_settleInPart 96 = .ok (.invokevirtual 260, 3) := by decide +kernel
theorem dX2_settleInPart_99 : decode cX2_settleInPart 99 = .ok (.iinc 1 1, 3) := by decide +kernel
theorem dX2_settleInPart_102 : decode cX2_settleInPart 102 = .ok (.goto (-100), 3) := by decide +kernel
theorem dX2_settleInPart_105 : decode cX2_settleInPart 105 = .ok (.return_, 1) := by decide +kernel
theorem dX2_settlePartOf_0 : decode cX2_settlePartOf 0 = .ok (.aload_n 1, 1) := by decide +kernel
theorem dX2_settlePartOf_1 : decode cX2_settlePartOf 1 = .ok (.getfield 122, 3) := by decide +kernel
theorem dX2_settlePartOf_4 : decode cX2_settlePartOf 4 = .ok (.lconst 0, 1) := by decide +kernel
theorem dX2_settlePartOf_5 : decode cX2_settlePartOf 5 = .ok (.lcmp, 1) := by decide +kernel
theorem dX2_settlePartOf_6 : decode cX2_settlePartOf 6 = .ok (.ifCond .gt 4, 3) := by decide +kernel
theorem dX2_settlePartOf_9 : decode cX2_settlePartOf 9 = .ok (.return_, 1) := by decide +kernel
theorem dX2_settlePartOf_10 : decode cX2_settlePartOf 10 = .ok (.aload_n 1, 1) := by decide +kernel
theorem dX2_settlePartOf_11 : decode cX2_settlePartOf 11 = .ok (.getfield 116, 3) := by decide +kernel
theorem dX2_settlePartOf_14 : decode cX2_settlePartOf 14 = .ok (.lload_n 2, 1) := by decide +kernel
theorem dX2_settlePartOf_15 : decode cX2_settlePartOf 15 = .ok (.lmul, 1) := by decide +kernel
theorem dX2_settlePartOf_16 : decode cX2_settlePartOf 16 = .ok (.aload_n 1, 1) := by decide +kernel
theorem dX2_settlePartOf_17 : decode cX2_settlePartOf 17 = .ok (.getfield 122, 3) := by decide +kernel
theorem dX2_settlePartOf_20 : decode cX2_settlePartOf 20 = .ok (.ldiv, 1) := by decide +kernel
theorem dX2_settlePartOf_21 : decode cX2_settlePartOf 21 = .ok (.lstore 4, 2) := by decide +kernel
theorem dX2_settlePartOf_23 : decode cX2_settlePartOf 23 = .ok (.aload_n 0, 1) := by decide +kernel
theorem dX2_settlePartOf_24 : decode cX2_settlePartOf 24 = .ok (.getfield 22, 3) := by decide +kernel
theorem dX2_settlePartOf_27 : decode cX2_settlePartOf 27 = .ok (.aload_n 1, 1) := by decide +kernel
theorem dX2_settlePartOf_28 : decode cX2_settlePartOf 28 = .ok (.lload_n 2, 1) := by decide +kernel
theorem dX2_settlePartOf_29 : decode cX2_settlePartOf 29 = .ok (.lload 4, 2) := by decide +kernel
theorem dX2_settlePartOf_31 : decode cX2_settlePartOf 31 = .ok (.invokevirtual 128, 3) := by decide +kernel
theorem dX2_settlePartOf_34 : decode cX2_settlePartOf 34 = .ok (.aload_n 0, 1) := by decide +kernel
theorem dX2_settlePartOf_35 : decode cX2_settlePartOf 35 = .ok (.getfield 22, 3) := by decide +kernel
theorem dX2_settlePartOf_38 : decode cX2_settlePartOf 38 = .ok (.aload_n 1, 1) := by decide +kernel
theorem dX2_settlePartOf_39 : decode cX2_settlePartOf 39 = .ok (.getfield 169, 3) := by decide +kernel
theorem dX2_settlePartOf_42 : decode cX2_settlePartOf 42 = .ok (.invokevirtual 172, 3) := by decide +kernel
theorem dX2_settlePartOf_45 : decode cX2_settlePartOf 45 = .ok (.ifCond .eq 21, 3) := by decide +kernel
theorem dX2_settlePartOf_48 : decode cX2_settlePartOf 48 = .ok (.aload_n 0, 1) := by decide +kernel
theorem dX2_settlePartOf_49 : decode cX2_settlePartOf 49 = .ok (.getfield 22, 3) := by decide +kernel
theorem dX2_settlePartOf_52 : decode cX2_settlePartOf 52 = .ok (.aload_n 1, 1) := by decide +kernel
theorem dX2_settlePartOf_53 : decode cX2_settlePartOf 53 = .ok (.getfield 175, 3) := by decide +kernel
theorem dX2_settlePartOf_56 : decode cX2_settlePartOf 56 = .ok (.invokevirtual 172, 3) := by decide +kernel
theorem dX2_settlePartOf_59 : decode cX2_settlePartOf 59 = .ok (.ifCond .eq 7, 3) := by decide +kernel
theorem dX2_settlePartOf_62 : decode cX2_settlePartOf 62 = .ok (.iconst 1, 1) := by decide +kernel
theorem dX2_settlePartOf_63 : decode cX2_settlePartOf 63 = .ok (.goto 4, 3) := by decide +kernel
theorem dX2_settlePartOf_66 : decode cX2_settlePartOf 66 = .ok (.iconst 0, 1) := by decide +kernel
theorem dX2_settlePartOf_67 : decode cX2_settlePartOf 67 = .ok (.istore 6, 2) := by decide +kernel
theorem dX2_settlePartOf_69 : decode cX2_settlePartOf 69 = .ok (.aload_n 0, 1) := by decide +kernel
theorem dX2_settlePartOf_70 : decode cX2_settlePartOf 70 = .ok (.getfield 22, 3) := by decide +kernel
theorem dX2_settlePartOf_73 : decode cX2_settlePartOf 73 = .ok (.aload_n 1, 1) := by decide +kernel
theorem dX2_settlePartOf_74 : decode cX2_settlePartOf 74 = .ok (.lload_n 2, 1) := by decide +kernel
theorem dX2_settlePartOf_75 : decode cX2_settlePartOf 75 = .ok (.lneg, 1) := by decide +kernel
theorem dX2_settlePartOf_76 : decode cX2_settlePartOf 76 = .ok (.lload 4, 2) := by decide +kernel
theorem dX2_settlePartOf_78 : decode cX2_settlePartOf 78 = .ok (.lneg, 1) := by decide +kernel
theorem dX2_settlePartOf_79 : decode cX2_settlePartOf 79 = .ok (.invokevirtual 128, 3) := by decide +kernel
theorem dX2_settlePartOf_82 : decode cX2_settlePartOf 82 = .ok (.iload 6, 2) := by decide +kernel
theorem dX2_settlePartOf_84 : decode cX2_settlePartOf 84 = .ok (.ifCond .eq 14, 3) := by decide +kernel
theorem dX2_settlePartOf_87 : decode cX2_settlePartOf 87 = .ok (.aload_n 0, 1) := by decide +kernel
theorem dX2_settlePartOf_88 : decode cX2_settlePartOf 88 = .ok (.getfield 22, 3) := by decide +kernel
theorem dX2_settlePartOf_91 : decode cX2_settlePartOf 91 = .ok (.aload_n 1, 1) := by decide +kernel
theorem dX2_settlePartOf_92 : decode cX2_settlePartOf 92 = .ok (.lload_n 2, 1) := by decide +kernel
theorem dX2_settlePartOf_93 : decode cX2_settlePartOf 93 = .ok (.lload 4, 2) := by decide +kernel
theorem dX2_settlePartOf_95 : decode cX2_settlePartOf 95 = .ok (.invokevirtual 264, 3) := by decide +kernel
theorem dX2_settlePartOf_98 : decode cX2_settlePartOf 98 = .ok (.return_, 1) := by decide +kernel
theorem dX3_takeTurns_0 : decode cX3_takeTurns 0 = .ok (.iconst 0, 1) := by decide +kernel
theorem dX3_takeTurns_1 : decode cX3_takeTurns 1 = .ok (.istore_n 1, 1) := by decide +kernel
theorem dX3_takeTurns_2 : decode cX3_takeTurns 2 = .ok (.iload_n 1, 1) := by decide +kernel
theorem dX3_takeTurns_3 : decode cX3_takeTurns 3 = .ok (.aload_n 0, 1) := by decide +kernel
theorem dX3_takeTurns_4 : decode cX3_takeTurns 4 = .ok (.getfield 9, 3) := by decide +kernel
theorem dX3_takeTurns_7 : decode cX3_takeTurns 7 = .ok (.getfield 15, 3) := by decide +kernel
theorem dX3_takeTurns_10 : decode cX3_takeTurns 10 = .ok (.if_icmp .ge 56, 3) := by decide +kernel
theorem dX3_takeTurns_13 : decode cX3_takeTurns 13 = .ok (.aload_n 0, 1) := by decide +kernel
theorem dX3_takeTurns_14 : decode cX3_takeTurns 14 = .ok (.getfield 9, 3) := by decide +kernel
theorem dX3_takeTurns_17 : decode cX3_takeTurns 17 = .ok (.iload_n 1, 1) := by decide +kernel
theorem dX3_takeTurns_18 : decode cX3_takeTurns 18 = .ok (.invokevirtual 21, 3) := by decide +kernel
theorem dX3_takeTurns_21 : decode cX3_takeTurns 21 = .ok (.astore_n 2, 1) := by decide +kernel
theorem dX3_takeTurns_22 : decode cX3_takeTurns 22 = .ok (.aload_n 2, 1) := by decide +kernel
theorem dX3_takeTurns_23 : decode cX3_takeTurns 23 = .ok (.getfield 25, 3) := by decide +kernel
theorem dX3_takeTurns_26 : decode cX3_takeTurns 26 = .ok (.aload_n 0, 1) := by decide +kernel
theorem dX3_takeTurns_27 : decode cX3_takeTurns 27 = .ok (.getfield 9, 3) := by decide +kernel
theorem dX3_takeTurns_30 : decode cX3_takeTurns 30 = .ok (.getfield 30, 3) := by decide +kernel
theorem dX3_takeTurns_33 : decode cX3_takeTurns 33 = .ok (.if_icmp .ne 8, 3) := by decide +kernel
theorem dX3_takeTurns_36 : decode cX3_takeTurns 36 = .ok (.aload_n 0, 1) := by decide +kernel
theorem dX3_takeTurns_37 : decode cX3_takeTurns 37 = .ok (.aload_n 2, 1) := by decide +kernel
theorem dX3_takeTurns_38 : decode cX3_takeTurns 38 = .ok (.invokevirtual 33, 3) := by decide +kernel
theorem dX3_takeTurns_41 : decode cX3_takeTurns 41 = .ok (.aload_n 2, 1) := by decide +kernel
theorem dX3_takeTurns_42 : decode cX3_takeTurns 42 = .ok (.getfield 37, 3) := by decide +kernel
theorem dX3_takeTurns_45 : decode cX3_takeTurns 45 = .ok (.aload_n 0, 1) := by decide +kernel
theorem dX3_takeTurns_46 : decode cX3_takeTurns 46 = .ok (.getfield 9, 3) := by decide +kernel
theorem dX3_takeTurns_49 : decode cX3_takeTurns 49 = .ok (.getfield 30, 3) := by decide +kernel
theorem dX3_takeTurns_52 : decode cX3_takeTurns 52 = .ok (.if_icmp .ne 8, 3) := by decide +kernel
theorem dX3_takeTurns_55 : decode cX3_takeTurns 55 = .ok (.aload_n 0, 1) := by decide +kernel
theorem dX3_takeTurns_56 : decode cX3_takeTurns 56 = .ok (.aload_n 2, 1) := by decide +kernel
theorem dX3_takeTurns_57 : decode cX3_takeTurns 57 = .ok (.invokevirtual 40, 3) := by decide +kernel
theorem dX3_takeTurns_60 : decode cX3_takeTurns 60 = .ok (.iinc 1 1, 3) := by decide +kernel
theorem dX3_takeTurns_63 : decode cX3_takeTurns 63 = .ok (.goto (-61), 3) := by decide +kernel
theorem dX3_takeTurns_66 : decode cX3_takeTurns 66 = .ok (.return_, 1) := by decide +kernel
theorem dX3_note_0 : decode cX3_note 0 = .ok (.iconst 0, 1) := by decide +kernel
theorem dX3_note_1 : decode cX3_note 1 = .ok (.istore_n 2, 1) := by decide +kernel
theorem dX3_note_2 : decode cX3_note 2 = .ok (.iload_n 2, 1) := by decide +kernel
theorem dX3_note_3 : decode cX3_note 3 = .ok (.aload_n 0, 1) := by decide +kernel
theorem dX3_note_4 : decode cX3_note 4 = .ok (.getfield 9, 3) := by decide +kernel
theorem dX3_note_7 : decode cX3_note 7 = .ok (.getfield 43, 3) := by decide +kernel
theorem dX3_note_10 : decode cX3_note 10 = .ok (.if_icmp .ge 29, 3) := by decide +kernel
theorem dX3_note_13 : decode cX3_note 13 = .ok (.aload_n 1, 1) := by decide +kernel
theorem dX3_note_14 : decode cX3_note 14 = .ok (.iload_n 2, 1) := by decide +kernel
theorem dX3_note_15 : decode cX3_note 15 = .ok (.aload_n 0, 1) := by decide +kernel
theorem dX3_note_16 : decode cX3_note 16 = .ok (.getfield 9, 3) := by decide +kernel
theorem dX3_note_19 : decode cX3_note 19 = .ok (.iload_n 2, 1) := by decide +kernel
theorem dX3_note_20 : decode cX3_note 20 = .ok (.invokevirtual 46, 3) := by decide +kernel
theorem dX3_note_23 : decode cX3_note 23 = .ok (.aload_n 1, 1) := by decide +kernel
theorem dX3_note_24 : decode cX3_note 24 = .ok (.getfield 50, 3) := by decide +kernel
theorem dX3_note_27 : decode cX3_note 27 = .ok (.invokevirtual 53, 3) := by decide +kernel
theorem dX3_note_30 : decode cX3_note 30 = .ok (.invokevirtual 59, 3) := by decide +kernel
theorem dX3_note_33 : decode cX3_note 33 = .ok (.iinc 2 1, 3) := by decide +kernel
theorem dX3_note_36 : decode cX3_note 36 = .ok (.goto (-34), 3) := by decide +kernel
theorem dX3_note_39 : decode cX3_note 39 = .ok (.iconst 0, 1) := by decide +kernel
theorem dX3_note_40 : decode cX3_note 40 = .ok (.istore_n 2, 1) := by decide +kernel
theorem dX3_note_41 : decode cX3_note 41 = .ok (.iload_n 2, 1) := by decide +kernel
theorem dX3_note_42 : decode cX3_note 42 = .ok (.aload_n 0, 1) := by decide +kernel
theorem dX3_note_43 : decode cX3_note 43 = .ok (.getfield 9, 3) := by decide +kernel
theorem dX3_note_46 : decode cX3_note 46 = .ok (.getfield 63, 3) := by decide +kernel
theorem dX3_note_49 : decode cX3_note 49 = .ok (.if_icmp .ge 73, 3) := by decide +kernel
theorem dX3_note_52 : decode cX3_note 52 = .ok (.aload_n 0, 1) := by decide +kernel
theorem dX3_note_53 : decode cX3_note 53 = .ok (.getfield 9, 3) := by decide +kernel
theorem dX3_note_56 : decode cX3_note 56 = .ok (.iload_n 2, 1) := by decide +kernel
theorem dX3_note_57 : decode cX3_note 57 = .ok (.invokevirtual 66, 3) := by decide +kernel
theorem dX3_note_60 : decode cX3_note 60 = .ok (.astore_n 3, 1) := by decide +kernel
theorem dX3_note_61 : decode cX3_note 61 = .ok (.aload_n 1, 1) := by decide +kernel
theorem dX3_note_62 : decode cX3_note 62 = .ok (.getfield 70, 3) := by decide +kernel
theorem dX3_note_65 : decode cX3_note 65 = .ok (.iconst 1, 1) := by decide +kernel
theorem dX3_note_66 : decode cX3_note 66 = .ok (.if_icmp .eq 29, 3) := by decide +kernel
theorem dX3_note_69 : decode cX3_note 69 = .ok (.aload_n 0, 1) := by decide +kernel
theorem dX3_note_70 : decode cX3_note 70 = .ok (.getfield 9, 3) := by decide +kernel
theorem dX3_note_73 : decode cX3_note 73 = .ok (.aload_n 3, 1) := by decide +kernel
theorem dX3_note_74 : decode cX3_note 74 = .ok (.invokevirtual 73, 3) := by decide +kernel
theorem dX3_note_77 : decode cX3_note 77 = .ok (.ifCond .eq 18, 3) := by decide +kernel
theorem dX3_note_80 : decode cX3_note 80 = .ok (.aload_n 3, 1) := by decide +kernel
theorem dX3_note_81 : decode cX3_note 81 = .ok (.getfield 77, 3) := by decide +kernel
theorem dX3_note_84 : decode cX3_note 84 = .ok (.aload_n 1, 1) := by decide +kernel
theorem dX3_note_85 : decode cX3_note 85 = .ok (.getfield 50, 3) := by decide +kernel
theorem dX3_note_88 : decode cX3_note 88 = .ok (.if_icmp .ne 7, 3) := by decide +kernel
theorem dX3_note_91 : decode cX3_note 91 = .ok (.iconst 1, 1) := by decide +kernel
theorem dX3_note_92 : decode cX3_note 92 = .ok (.goto 4, 3) := by decide +kernel
theorem dX3_note_95 : decode cX3_note 95 = .ok (.iconst 0, 1) := by decide +kernel
theorem dX3_note_96 : decode cX3_note 96 = .ok (.istore 4, 2) := by decide +kernel
theorem dX3_note_98 : decode cX3_note 98 = .ok (.aload_n 1, 1) := by decide +kernel
theorem dX3_note_99 : decode cX3_note 99 = .ok (.iload_n 2, 1) := by decide +kernel
theorem dX3_note_100 : decode cX3_note 100 = .ok (.iload 4, 2) := by decide +kernel
theorem dX3_note_102 : decode cX3_note 102 = .ok (.ifCond .eq 10, 3) := by decide +kernel
theorem dX3_note_105 : decode cX3_note 105 = .ok (.aload_n 3, 1) := by decide +kernel
theorem dX3_note_106 : decode cX3_note 106 = .ok (.getfield 80, 3) := by decide +kernel
theorem dX3_note_109 : decode cX3_note 109 = .ok (.goto 4, 3) := by decide +kernel
theorem dX3_note_112 : decode cX3_note 112 = .ok (.lconst 0, 1) := by decide +kernel
theorem dX3_note_113 : decode cX3_note 113 = .ok (.invokevirtual 84, 3) := by decide +kernel
theorem dX3_note_116 : decode cX3_note 116 = .ok (.iinc 2 1, 3) := by decide +kernel
theorem dX3_note_119 : decode cX3_note 119 = .ok (.goto (-78), 3) := by decide +kernel
theorem dX3_note_122 : decode cX3_note 122 = .ok (.aload_n 1, 1) := by decide +kernel
theorem dX3_note_123 : decode cX3_note 123 = .ok (.aload_n 0, 1) := by decide +kernel
theorem dX3_note_124 : decode cX3_note 124 = .ok (.getfield 9, 3) := by decide +kernel
theorem dX3_note_127 : decode cX3_note 127 = .ok (.getfield 87, 3) := by decide +kernel
theorem dX3_note_130 : decode cX3_note 130 = .ok (.putfield 90, 3) := by decide +kernel
theorem dX3_note_133 : decode cX3_note 133 = .ok (.aload_n 1, 1) := by decide +kernel
theorem dX3_note_134 : decode cX3_note 134 = .ok (.iconst 1, 1) := by decide +kernel
theorem dX3_note_135 : decode cX3_note 135 = .ok (.putfield 91, 3) := by decide +kernel
theorem dX3_note_138 : decode cX3_note 138 = .ok (.aload_n 0, 1) := by decide +kernel
theorem dX3_note_139 : decode cX3_note 139 = .ok (.getfield 9, 3) := by decide +kernel
theorem dX3_note_142 : decode cX3_note 142 = .ok (.dup, 1) := by decide +kernel
theorem dX3_note_143 : decode cX3_note 143 = .ok (.getfield 87, 3) := by decide +kernel
theorem dX3_note_146 : decode cX3_note 146 = .ok (.iconst 1, 1) := by decide +kernel
theorem dX3_note_147 : decode cX3_note 147 = .ok (.iadd, 1) := by decide +kernel
theorem dX3_note_148 : decode cX3_note 148 = .ok (.putfield 87, 3) := by decide +kernel
theorem dX3_note_151 : decode cX3_note 151 = .ok (.return_, 1) := by decide +kernel
theorem dX3_payOut_0 : decode cX3_payOut 0 = .ok (.aload_n 1, 1) := by decide +kernel
theorem dX3_payOut_1 : decode cX3_payOut 1 = .ok (.getfield 70, 3) := by decide +kernel
theorem dX3_payOut_4 : decode cX3_payOut 4 = .ok (.iconst 1, 1) := by decide +kernel
theorem dX3_payOut_5 : decode cX3_payOut 5 = .ok (.if_icmp .ne 21, 3) := by decide +kernel
theorem dX3_payOut_8 : decode cX3_payOut 8 = .ok (.aload_n 0, 1) := by decide +kernel
theorem dX3_payOut_9 : decode cX3_payOut 9 = .ok (.aload_n 1, 1) := by decide +kernel
theorem dX3_payOut_10 : decode cX3_payOut 10 = .ok (.invokevirtual 95, 3) := by decide +kernel
theorem dX3_payOut_13 : decode cX3_payOut 13 = .ok (.aload_n 0, 1) := by decide +kernel
theorem dX3_payOut_14 : decode cX3_payOut 14 = .ok (.aload_n 1, 1) := by decide +kernel
theorem dX3_payOut_15 : decode cX3_payOut 15 = .ok (.invokevirtual 98, 3) := by decide +kernel
theorem dX3_payOut_18 : decode cX3_payOut 18 = .ok (.aload_n 0, 1) := by decide +kernel
theorem dX3_payOut_19 : decode cX3_payOut 19 = .ok (.aload_n 1, 1) := by decide +kernel
theorem dX3_payOut_20 : decode cX3_payOut 20 = .ok (.invokevirtual 101, 3) := by decide +kernel
theorem dX3_payOut_23 : decode cX3_payOut 23 = .ok (.goto 23, 3) := by decide +kernel
theorem dX3_payOut_26 : decode cX3_payOut 26 = .ok (.aload_n 1, 1) := by decide +kernel
theorem dX3_payOut_27 : decode cX3_payOut 27 = .ok (.getfield 70, 3) := by decide +kernel
theorem dX3_payOut_30 : decode cX3_payOut 30 = .ok (.ifCond .ne 11, 3) := by decide +kernel
theorem dX3_payOut_33 : decode cX3_payOut 33 = .ok (.aload_n 0, 1) := by decide +kernel
theorem dX3_payOut_34 : decode cX3_payOut 34 = .ok (.aload_n 1, 1) := by decide +kernel
theorem dX3_payOut_35 : decode cX3_payOut 35 = .ok (.invokevirtual 104, 3) := by decide +kernel
theorem dX3_payOut_38 : decode cX3_payOut 38 = .ok (.goto 8, 3) := by decide +kernel
theorem dX3_payOut_41 : decode cX3_payOut 41 = .ok (.aload_n 0, 1) := by decide +kernel
theorem dX3_payOut_42 : decode cX3_payOut 42 = .ok (.aload_n 1, 1) := by decide +kernel
theorem dX3_payOut_43 : decode cX3_payOut 43 = .ok (.invokevirtual 107, 3) := by decide +kernel
theorem dX3_payOut_46 : decode cX3_payOut 46 = .ok (.aload_n 0, 1) := by decide +kernel
theorem dX3_payOut_47 : decode cX3_payOut 47 = .ok (.aload_n 1, 1) := by decide +kernel
theorem dX3_payOut_48 : decode cX3_payOut 48 = .ok (.invokevirtual 110, 3) := by decide +kernel
theorem dX3_payOut_51 : decode cX3_payOut 51 = .ok (.aload_n 1, 1) := by decide +kernel
theorem dX3_payOut_52 : decode cX3_payOut 52 = .ok (.iconst 1, 1) := by decide +kernel
theorem dX3_payOut_53 : decode cX3_payOut 53 = .ok (.putfield 113, 3) := by decide +kernel
theorem dX3_payOut_56 : decode cX3_payOut 56 = .ok (.return_, 1) := by decide +kernel
theorem dX3_payDividend_0 : decode cX3_payDividend 0 = .ok (.iconst 0, 1) := by decide +kernel
theorem dX3_payDividend_1 : decode cX3_payDividend 1 = .ok (.istore_n 2, 1) := by decide +kernel
theorem dX3_payDividend_2 : decode cX3_payDividend 2 = .ok (.iload_n 2, 1) := by decide +kernel
theorem dX3_payDividend_3 : decode cX3_payDividend 3 = .ok (.aload_n 0, 1) := by decide +kernel
theorem dX3_payDividend_4 : decode cX3_payDividend 4 = .ok (.getfield 9, 3) := by decide +kernel
theorem dX3_payDividend_7 : decode cX3_payDividend 7 = .ok (.getfield 43, 3) := by decide +kernel
theorem dX3_payDividend_10 : decode cX3_payDividend 10 = .ok (.if_icmp .ge 29, 3) := by decide +kernel
theorem dX3_payDividend_13 : decode cX3_payDividend 13 = .ok (.aload_n 0, 1) := by decide +kernel
theorem dX3_payDividend_14 : decode cX3_payDividend 14 = .ok (.iload_n 2, 1) := by decide +kernel
theorem dX3_payDividend_15 : decode cX3_payDividend 15 = .ok (.aload_n 1, 1) := by decide +kernel
theorem dX3_payDividend_16 : decode cX3_payDividend 16 = .ok (.getfield 50, 3) := by decide +kernel
theorem dX3_payDividend_19 : decode cX3_payDividend 19 = .ok (.aload_n 1, 1) := by decide +kernel
theorem dX3_payDividend_20 : decode cX3_payDividend 20 = .ok (.getfield 116, 3) := by decide +kernel
theorem dX3_payDividend_23 : decode cX3_payDividend 23 = .ok (.i2l, 1) := by decide +kernel
theorem dX3_payDividend_24 : decode cX3_payDividend 24 = .ok (.aload_n 1, 1) := by decide +kernel
theorem dX3_payDividend_25 : decode cX3_payDividend 25 = .ok (.iload_n 2, 1) := by decide +kernel
theorem dX3_payDividend_26 : decode cX3_payDividend 26 = .ok (.invokevirtual 119, 3) := by decide +kernel
theorem dX3_payDividend_29 : decode cX3_payDividend 29 = .ok (.lmul, 1) := by decide +kernel
theorem dX3_payDividend_30 : decode cX3_payDividend 30 = .ok (.invokevirtual 122, 3) := by decide +kernel
theorem dX3_payDividend_33 : decode cX3_payDividend 33 = .ok (.iinc 2 1, 3) := by decide +kernel
theorem dX3_payDividend_36 : decode cX3_payDividend 36 = .ok (.goto (-34), 3) := by decide +kernel
theorem dX3_payDividend_39 : decode cX3_payDividend 39 = .ok (.return_, 1) := by decide +kernel
theorem dX3_payLessTax_0 : decode cX3_payLessTax 0 = .ok (.aload_n 0, 1) := by decide +kernel
theorem dX3_payLessTax_1 : decode cX3_payLessTax 1 = .ok (.getfield 9, 3) := by decide +kernel
theorem dX3_payLessTax_4 : decode cX3_payLessTax 4 = .ok (.iload_n 1, 1) := by decide +kernel
theorem dX3_payLessTax_5 : decode cX3_payLessTax 5 = .ok (.invokevirtual 46, 3) := by decide +kernel
theorem dX3_payLessTax_8 : decode cX3_payLessTax 8 = .ok (.astore 5, 2) := by decide +kernel
theorem dX3_payLessTax_10 : decode cX3_payLessTax 10 = .ok (.aload 5, 2) := by decide +kernel
theorem dX3_payLessTax_12 : decode cX3_payLessTax 12 = .ok (.getfield 126, 3) := by decide +kernel
theorem dX3_payLessTax_15 : decode cX3_payLessTax 15 = .ok (.ifCond .eq 29, 3) := by decide +kernel
theorem dX3_payLessTax_18 : decode cX3_payLessTax 18 = .ok (.aload_n 0, 1) := by decide +kernel
theorem dX3_payLessTax_19 : decode cX3_payLessTax 19 = .ok (.getfield 9, 3) := by decide +kernel
theorem dX3_payLessTax_22 : decode cX3_payLessTax 22 = .ok (.aload_n 0, 1) := by decide +kernel
theorem dX3_payLessTax_23 : decode cX3_payLessTax 23 = .ok (.getfield 9, 3) := by decide +kernel
theorem dX3_payLessTax_26 : decode cX3_payLessTax 26 = .ok (.iload_n 2, 1) := by decide +kernel
theorem dX3_payLessTax_27 : decode cX3_payLessTax 27 = .ok (.invokevirtual 129, 3) := by decide +kernel
theorem dX3_payLessTax_30 : decode cX3_payLessTax 30 = .ok (.getfield 132, 3) := by decide +kernel
theorem dX3_payLessTax_33 : decode cX3_payLessTax 33 = .ok (.aload 5, 2) := by decide +kernel
theorem dX3_payLessTax_35 : decode cX3_payLessTax 35 = .ok (.getfield 137, 3) := by decide +kernel
theorem dX3_payLessTax_38 : decode cX3_payLessTax 38 = .ok (.invokevirtual 138, 3) := by decide +kernel
theorem dX3_payLessTax_41 : decode cX3_payLessTax 41 = .ok (.goto 5, 3) := by decide +kernel
theorem dX3_payLessTax_44 : decode cX3_payLessTax 44 = .ok (.bipush 30, 2) := by decide +kernel
theorem dX3_payLessTax_46 : decode cX3_payLessTax 46 = .ok (.istore 6, 2) := by decide +kernel
theorem dX3_payLessTax_48 : decode cX3_payLessTax 48 = .ok (.aload 5, 2) := by decide +kernel
theorem dX3_payLessTax_50 : decode cX3_payLessTax 50 = .ok (.dup, 1) := by decide +kernel
theorem dX3_payLessTax_51 : decode cX3_payLessTax 51 = .ok (.getfield 142, 3) := by decide +kernel
theorem dX3_payLessTax_54 : decode cX3_payLessTax 54 = .ok (.lload_n 3, 1) := by decide +kernel
theorem dX3_payLessTax_55 : decode cX3_payLessTax 55 = .ok (.lload_n 3, 1) := by decide +kernel
theorem dX3_payLessTax_56 : decode cX3_payLessTax 56 = .ok (.iload 6, 2) := by decide +kernel
theorem dX3_payLessTax_58 : decode cX3_payLessTax 58 = .ok (.i2l, 1) := by decide +kernel
theorem dX3_payLessTax_59 : decode cX3_payLessTax 59 = .ok (.lmul, 1) := by decide +kernel
theorem dX3_payLessTax_60 : decode cX3_payLessTax 60 = .ok (.ldc2_w 145, 3) := by decide +kernel
theorem dX3_payLessTax_63 : decode cX3_payLessTax 63 = .ok (.ldiv, 1) := by decide +kernel
theorem dX3_payLessTax_64 : decode cX3_payLessTax 64 = .ok (.lsub, 1) := by decide +kernel
theorem dX3_payLessTax_65 : decode cX3_payLessTax 65 = .ok (.ladd, 1) := by decide +kernel
theorem dX3_payLessTax_66 : decode cX3_payLessTax 66 = .ok (.putfield 142, 3) := by decide +kernel
theorem dX3_payLessTax_69 : decode cX3_payLessTax 69 = .ok (.return_, 1) := by decide +kernel
theorem dX3_payOption_0 : decode cX3_payOption 0 = .ok (.lconst 0, 1) := by decide +kernel
theorem dX3_payOption_1 : decode cX3_payOption 1 = .ok (.lstore_n 2, 1) := by decide +kernel
theorem dX3_payOption_2 : decode cX3_payOption 2 = .ok (.iconst 0, 1) := by decide +kernel
theorem dX3_payOption_3 : decode cX3_payOption 3 = .ok (.istore 4, 2) := by decide +kernel
theorem dX3_payOption_5 : decode cX3_payOption 5 = .ok (.iload 4, 2) := by decide +kernel
theorem dX3_payOption_7 : decode cX3_payOption 7 = .ok (.aload_n 0, 1) := by decide +kernel
theorem dX3_payOption_8 : decode cX3_payOption 8 = .ok (.getfield 9, 3) := by decide +kernel
theorem dX3_payOption_11 : decode cX3_payOption 11 = .ok (.getfield 43, 3) := by decide +kernel
theorem dX3_payOption_14 : decode cX3_payOption 14 = .ok (.if_icmp .ge 18, 3) := by decide +kernel
theorem dX3_payOption_17 : decode cX3_payOption 17 = .ok (.lload_n 2, 1) := by decide +kernel
theorem dX3_payOption_18 : decode cX3_payOption 18 = .ok (.aload_n 1, 1) := by decide +kernel
theorem dX3_payOption_19 : decode cX3_payOption 19 = .ok (.iload 4, 2) := by decide +kernel
theorem dX3_payOption_21 : decode cX3_payOption 21 = .ok (.invokevirtual 147, 3) := by decide +kernel
theorem dX3_payOption_24 : decode cX3_payOption 24 = .ok (.ladd, 1) := by decide +kernel
theorem dX3_payOption_25 : decode cX3_payOption 25 = .ok (.lstore_n 2, 1) := by decide +kernel
theorem dX3_payOption_26 : decode cX3_payOption 26 = .ok (.iinc 4 1, 3) := by decide +kernel
theorem dX3_payOption_29 : decode cX3_payOption 29 = .ok (.goto (-24), 3) := by decide +kernel
theorem dX3_payOption_32 : decode cX3_payOption 32 = .ok (.iconst 0, 1) := by decide +kernel
theorem dX3_payOption_33 : decode cX3_payOption 33 = .ok (.istore 4, 2) := by decide +kernel
theorem dX3_payOption_35 : decode cX3_payOption 35 = .ok (.iload 4, 2) := by decide +kernel
theorem dX3_payOption_37 : decode cX3_payOption 37 = .ok (.aload_n 0, 1) := by decide +kernel
theorem dX3_payOption_38 : decode cX3_payOption 38 = .ok (.getfield 9, 3) := by decide +kernel
theorem dX3_payOption_41 : decode cX3_payOption 41 = .ok (.getfield 43, 3) := by decide +kernel
theorem dX3_payOption_44 : decode cX3_payOption 44 = .ok (.if_icmp .ge 122, 3) := by decide +kernel
theorem dX3_payOption_47 : decode cX3_payOption 47 = .ok (.aload_n 1, 1) := by decide +kernel
theorem dX3_payOption_48 : decode cX3_payOption 48 = .ok (.iload 4, 2) := by decide +kernel
theorem dX3_payOption_50 : decode cX3_payOption 50 = .ok (.invokevirtual 147, 3) := by decide +kernel
theorem dX3_payOption_53 : decode cX3_payOption 53 = .ok (.lstore 5, 2) := by decide +kernel
theorem dX3_payOption_55 : decode cX3_payOption 55 = .ok (.lload_n 2, 1) := by decide +kernel
theorem dX3_payOption_56 : decode cX3_payOption 56 = .ok (.aload_n 1, 1) := by decide +kernel
theorem dX3_payOption_57 : decode cX3_payOption 57 = .ok (.getfield 150, 3) := by decide +kernel
theorem dX3_payOption_60 : decode cX3_payOption 60 = .ok (.i2l, 1) := by decide +kernel
theorem dX3_payOption_61 : decode cX3_payOption 61 = .ok (.lcmp, 1) := by decide +kernel
theorem dX3_payOption_62 : decode cX3_payOption 62 = .ok (.ifCond .le 21, 3) := by decide +kernel
theorem dX3_payOption_65 : decode cX3_payOption 65 = .ok (.lload_n 2, 1) := by decide +kernel
theorem dX3_payOption_66 : decode cX3_payOption 66 = .ok (.lconst 0, 1) := by decide +kernel
theorem dX3_payOption_67 : decode cX3_payOption 67 = .ok (.lcmp, 1) := by decide +kernel
theorem dX3_payOption_68 : decode cX3_payOption 68 = .ok (.ifCond .le 15, 3) := by decide +kernel
theorem dX3_payOption_71 : decode cX3_payOption 71 = .ok (.lload 5, 2) := by decide +kernel
theorem dX3_payOption_73 : decode cX3_payOption 73 = .ok (.aload_n 1, 1) := by decide +kernel
theorem dX3_payOption_74 : decode cX3_payOption 74 = .ok (.getfield 150, 3) := by decide +kernel
theorem dX3_payOption_77 : decode cX3_payOption 77 = .ok (.i2l, 1) := by decide +kernel
theorem dX3_payOption_78 : decode cX3_payOption 78 = .ok (.lmul, 1) := by decide +kernel
theorem dX3_payOption_79 : decode cX3_payOption 79 = .ok (.lload_n 2, 1) := by decide +kernel
theorem dX3_payOption_80 : decode cX3_payOption 80 = .ok (.ldiv, 1) := by decide +kernel
theorem dX3_payOption_81 : decode cX3_payOption 81 = .ok (.lstore 5, 2) := by decide +kernel
theorem dX3_payOption_83 : decode cX3_payOption 83 = .ok (.aload_n 0, 1) := by decide +kernel
theorem dX3_payOption_84 : decode cX3_payOption 84 = .ok (.getfield 9, 3) := by decide +kernel
theorem dX3_payOption_87 : decode cX3_payOption 87 = .ok (.iload 4, 2) := by decide +kernel
theorem dX3_payOption_89 : decode cX3_payOption 89 = .ok (.invokevirtual 46, 3) := by decide +kernel
theorem dX3_payOption_92 : decode cX3_payOption 92 = .ok (.aload_n 1, 1) := by decide +kernel
theorem dX3_payOption_93 : decode cX3_payOption 93 = .ok (.getfield 50, 3) := by decide +kernel
theorem dX3_payOption_96 : decode cX3_payOption 96 = .ok (.lload 5, 2) := by decide +kernel
theorem dX3_payOption_98 : decode cX3_payOption 98 = .ok (.aload_n 0, 1) := by decide +kernel
theorem dX3_payOption_99 : decode cX3_payOption 99 = .ok (.getfield 9, 3) := by decide +kernel
theorem dX3_payOption_102 : decode cX3_payOption 102 = .ok (.getfield 87, 3) := by decide +kernel
theorem dX3_payOption_105 : decode cX3_payOption 105 = .ok (.invokevirtual 153, 3) := by decide +kernel
theorem dX3_payOption_108 : decode cX3_payOption 108 = .ok (.aload_n 0, 1) := by decide +kernel
theorem dX3_payOption_109 : decode cX3_payOption 109 = .ok (.getfield 9, 3) := by decide +kernel
theorem dX3_payOption_112 : decode cX3_payOption 112 = .ok (.aload_n 1, 1) := by decide +kernel
theorem dX3_payOption_113 : decode cX3_payOption 113 = .ok (.getfield 50, 3) := by decide +kernel
theorem dX3_payOption_116 : decode cX3_payOption 116 = .ok (.invokevirtual 129, 3) := by decide +kernel
theorem dX3_payOption_119 : decode cX3_payOption 119 = .ok (.dup, 1) := by decide +kernel
theorem dX3_payOption_120 : decode cX3_payOption 120 = .ok (.getfield 157, 3) := by decide +kernel
theorem dX3_payOption_123 : decode cX3_payOption 123 = .ok (.lload 5, 2) := by decide +kernel
theorem dX3_payOption_125 : decode cX3_payOption 125 = .ok (.ladd, 1) := by decide +kernel
theorem dX3_payOption_126 : decode cX3_payOption 126 = .ok (.putfield 157, 3) := by decide +kernel
theorem dX3_payOption_129 : decode cX3_payOption 129 = .ok (.aload_n 0, 1) := by decide +kernel
theorem dX3_payOption_130 : decode cX3_payOption 130 = .ok (.iload 4, 2) := by decide +kernel
theorem dX3_payOption_132 : decode cX3_payOption 132 = .ok (.aload_n 1, 1) := by decide +kernel
theorem dX3_payOption_133 : decode cX3_payOption 133 = .ok (.getfield 50, 3) := by decide +kernel
theorem dX3_payOption_136 : decode cX3_payOption 136 = .ok (.aload_n 1, 1) := by decide +kernel
theorem dX3_payOption_137 : decode cX3_payOption 137 = .ok (.getfield 116, 3) := by decide +kernel
theorem dX3_payOption_140 : decode cX3_payOption 140 = .ok (.i2l, 1) := by decide +kernel
theorem dX3_payOption_141 : decode cX3_payOption 141 = .ok (.aload_n 1, 1) := by decide +kernel
theorem dX3_payOption_142 : decode cX3_payOption 142 = .ok (.iload 4, 2) := by decide +kernel
theorem dX3_payOption_144 : decode cX3_payOption 144 = .ok (.invokevirtual 119, 3) := by decide +kernel
theorem dX3_payOption_147 : decode cX3_payOption 147 = .ok (.aload_n 1, 1) := by decide +kernel
theorem dX3_payOption_148 : decode cX3_payOption 148 = .ok (.getfield 160, 3) := by decide +kernel
theorem dX3_payOption_151 : decode cX3_payOption 151 = .ok (.i2l, 1) := by decide +kernel
theorem dX3_payOption_152 : decode cX3_payOption 152 = .ok (.lload 5, 2) := by decide +kernel
theorem dX3_payOption_154 : decode cX3_payOption 154 = .ok (.lmul, 1) := by decide +kernel
theorem dX3_payOption_155 : decode cX3_payOption 155 = .ok (.lsub, 1) := by decide +kernel
theorem dX3_payOption_156 : decode cX3_payOption 156 = .ok (.lmul, 1) := by decide +kernel
theorem dX3_payOption_157 : decode cX3_payOption 157 = .ok (.invokevirtual 122, 3) := by decide +kernel
theorem dX3_payOption_160 : decode cX3_payOption 160 = .ok (.iinc 4 1, 3) := by decide +kernel
theorem dX3_payOption_163 : decode cX3_payOption 163 = .ok (.goto (-128), 3) := by decide +kernel
theorem dX3_payOption_166 : decode cX3_payOption 166 = .ok (.return_, 1) := by decide +kernel
theorem dX3_payClaims_0 : decode cX3_payClaims 0 = .ok (.iconst 0, 1) := by decide +kernel
theorem dX3_payClaims_1 : decode cX3_payClaims 1 = .ok (.istore_n 2, 1) := by decide +kernel
theorem dX3_payClaims_2 : decode cX3_payClaims 2 = .ok (.iload_n 2, 1) := by decide +kernel
theorem dX3_payClaims_3 : decode cX3_payClaims 3 = .ok (.aload_n 0, 1) := by decide +kernel
theorem dX3_payClaims_4 : decode cX3_payClaims 4 = .ok (.getfield 9, 3) := by decide +kernel
theorem dX3_payClaims_7 : decode cX3_payClaims 7 = .ok (.getfield 63, 3) := by decide +kernel
theorem dX3_payClaims_10 : decode cX3_payClaims 10 = .ok (.if_icmp .ge 44, 3) := by decide +kernel
theorem dX3_payClaims_13 : decode cX3_payClaims 13 = .ok (.aload_n 0, 1) := by decide +kernel
theorem dX3_payClaims_14 : decode cX3_payClaims 14 = .ok (.getfield 9, 3) := by decide +kernel
theorem dX3_payClaims_17 : decode cX3_payClaims 17 = .ok (.iload_n 2, 1) := by decide +kernel
theorem dX3_payClaims_18 : decode cX3_payClaims 18 = .ok (.invokevirtual 66, 3) := by decide +kernel
theorem dX3_payClaims_21 : decode cX3_payClaims 21 = .ok (.astore_n 3, 1) := by decide +kernel
theorem dX3_payClaims_22 : decode cX3_payClaims 22 = .ok (.aload_n 0, 1) := by decide +kernel
theorem dX3_payClaims_23 : decode cX3_payClaims 23 = .ok (.getfield 9, 3) := by decide +kernel
theorem dX3_payClaims_26 : decode cX3_payClaims 26 = .ok (.aload_n 3, 1) := by decide +kernel
theorem dX3_payClaims_27 : decode cX3_payClaims 27 = .ok (.getfield 163, 3) := by decide +kernel
theorem dX3_payClaims_30 : decode cX3_payClaims 30 = .ok (.aload_n 3, 1) := by decide +kernel
theorem dX3_payClaims_31 : decode cX3_payClaims 31 = .ok (.getfield 166, 3) := by decide +kernel
theorem dX3_payClaims_34 : decode cX3_payClaims 34 = .ok (.aload_n 1, 1) := by decide +kernel
theorem dX3_payClaims_35 : decode cX3_payClaims 35 = .ok (.getfield 116, 3) := by decide +kernel
theorem dX3_payClaims_38 : decode cX3_payClaims 38 = .ok (.i2l, 1) := by decide +kernel
theorem dX3_payClaims_39 : decode cX3_payClaims 39 = .ok (.aload_n 1, 1) := by decide +kernel
theorem dX3_payClaims_40 : decode cX3_payClaims 40 = .ok (.iload_n 2, 1) := by decide +kernel
theorem dX3_payClaims_41 : decode cX3_payClaims 41 = .ok (.invokevirtual 169, 3) := by decide +kernel
theorem dX3_payClaims_44 : decode cX3_payClaims 44 = .ok (.lmul, 1) := by decide +kernel
theorem dX3_payClaims_45 : decode cX3_payClaims 45 = .ok (.invokevirtual 172, 3) := by decide +kernel
theorem dX3_payClaims_48 : decode cX3_payClaims 48 = .ok (.iinc 2 1, 3) := by decide +kernel
theorem dX3_payClaims_51 : decode cX3_payClaims 51 = .ok (.goto (-49), 3) := by decide +kernel
theorem dX3_payClaims_54 : decode cX3_payClaims 54 = .ok (.return_, 1) := by decide +kernel
theorem dX3_splitHoldings_0 : decode cX3_splitHoldings 0 = .ok (.lconst 0, 1) := by decide +kernel
theorem dX3_splitHoldings_1 : decode cX3_splitHoldings 1 = .ok (.lstore_n 2, 1) := by decide +kernel
theorem dX3_splitHoldings_2 : decode cX3_splitHoldings 2 = .ok (.iconst 0, 1) := by decide +kernel
theorem dX3_splitHoldings_3 : decode cX3_splitHoldings 3 = .ok (.istore 4, 2) := by decide +kernel
theorem dX3_splitHoldings_5 : decode cX3_splitHoldings 5 = .ok (.iload 4, 2) := by decide +kernel
theorem dX3_splitHoldings_7 : decode cX3_splitHoldings 7 = .ok (.aload_n 0, 1) := by decide +kernel
theorem dX3_splitHoldings_8 : decode cX3_splitHoldings 8 = .ok (.getfield 9, 3) := by decide +kernel
theorem dX3_splitHoldings_11 : decode cX3_splitHoldings 11 = .ok (.getfield 43, 3) := by decide +kernel
theorem dX3_splitHoldings_14 : decode cX3_splitHoldings 14 = .ok (.if_icmp .ge 34, 3) := by decide +kernel
theorem dX3_splitHoldings_17 : decode cX3_splitHoldings 17 = .ok (.aload_n 0, 1) := by decide +kernel
theorem dX3_splitHoldings_18 : decode cX3_splitHoldings 18 = .ok (.getfield 9, 3) := by decide +kernel
theorem dX3_splitHoldings_21 : decode cX3_splitHoldings 21 = .ok (.iload 4, 2) := by decide +kernel
theorem dX3_splitHoldings_23 : decode cX3_splitHoldings 23 = .ok (.invokevirtual 46, 3) := by decide +kernel
theorem dX3_splitHoldings_26 : decode cX3_splitHoldings 26 = .ok (.getfield 175, 3) := by decide +kernel
theorem dX3_splitHoldings_29 : decode cX3_splitHoldings 29 = .ok (.ifCond .ne 13, 3) := by decide +kernel
theorem dX3_splitHoldings_32 : decode cX3_splitHoldings 32 = .ok (.lload_n 2, 1) := by decide +kernel
theorem dX3_splitHoldings_33 : decode cX3_splitHoldings 33 = .ok (.aload_n 0, 1) := by decide +kernel
theorem dX3_splitHoldings_34 : decode cX3_splitHoldings 34 = .ok (.aload_n 1, 1) := by decide +kernel
theorem dX3_splitHoldings_35 : decode cX3_splitHoldings 35 = .ok (.iload 4, 2) := by decide +kernel
theorem dX3_splitHoldings_37 : decode cX3_splitHoldings 37 = .ok (.invokevirtual 178, 3) := by decide +kernel
theorem dX3_splitHoldings_40 : decode cX3_splitHoldings 40 = .ok (.ladd, 1) := by decide +kernel
theorem dX3_splitHoldings_41 : decode cX3_splitHoldings 41 = .ok (.lstore_n 2, 1) := by decide +kernel
theorem dX3_splitHoldings_42 : decode cX3_splitHoldings 42 = .ok (.iinc 4 1, 3) := by decide +kernel
theorem dX3_splitHoldings_45 : decode cX3_splitHoldings 45 = .ok (.goto (-40), 3) := by decide +kernel
theorem dX3_splitHoldings_48 : decode cX3_splitHoldings 48 = .ok (.aload_n 0, 1) := by decide +kernel
theorem dX3_splitHoldings_49 : decode cX3_splitHoldings 49 = .ok (.getfield 9, 3) := by decide +kernel
theorem dX3_splitHoldings_52 : decode cX3_splitHoldings 52 = .ok (.aload_n 1, 1) := by decide +kernel
theorem dX3_splitHoldings_53 : decode cX3_splitHoldings 53 = .ok (.getfield 50, 3) := by decide +kernel
theorem dX3_splitHoldings_56 : decode cX3_splitHoldings 56 = .ok (.invokevirtual 129, 3) := by decide +kernel
theorem dX3_splitHoldings_59 : decode cX3_splitHoldings 59 = .ok (.lload_n 2, 1) := by decide +kernel
theorem dX3_splitHoldings_60 : decode cX3_splitHoldings 60 = .ok (.putfield 157, 3) := by decide +kernel
theorem dX3_splitHoldings_63 : decode cX3_splitHoldings 63 = .ok (.return_, 1) := by decide +kernel
theorem dX3_splitWithPool_0 : decode cX3_splitWithPool 0 = .ok (.aload_n 0, 1) := by decide +kernel
theorem dX3_splitWithPool_1 : decode cX3_splitWithPool 1 = .ok (.getfield 9, 3) := by decide +kernel
theorem dX3_splitWithPool_4 : decode cX3_splitWithPool 4 = .ok (.iload_n 2, 1) := by decide +kernel
theorem dX3_splitWithPool_5 : decode cX3_splitWithPool 5 = .ok (.invokevirtual 46, 3) := by decide +kernel
theorem dX3_splitWithPool_8 : decode cX3_splitWithPool 8 = .ok (.aload_n 1, 1) := by decide +kernel
theorem dX3_splitWithPool_9 : decode cX3_splitWithPool 9 = .ok (.getfield 50, 3) := by decide +kernel
theorem dX3_splitWithPool_12 : decode cX3_splitWithPool 12 = .ok (.invokevirtual 53, 3) := by decide +kernel
theorem dX3_splitWithPool_15 : decode cX3_splitWithPool 15 = .ok (.lstore_n 3, 1) := by decide +kernel
theorem dX3_splitWithPool_16 : decode cX3_splitWithPool 16 = .ok (.lload_n 3, 1) := by decide +kernel
theorem dX3_splitWithPool_17 : decode cX3_splitWithPool 17 = .ok (.lstore 5, 2) := by decide +kernel
theorem dX3_splitWithPool_19 : decode cX3_splitWithPool 19 = .ok (.lconst 0, 1) := by decide +kernel
theorem dX3_splitWithPool_20 : decode cX3_splitWithPool 20 = .ok (.lstore 7, 2) := by decide +kernel
theorem dX3_splitWithPool_22 : decode cX3_splitWithPool 22 = .ok (.iconst 0, 1) := by decide +kernel
theorem dX3_splitWithPool_23 : decode cX3_splitWithPool 23 = .ok (.istore 9, 2) := by decide +kernel
theorem dX3_splitWithPool_25 : decode cX3_splitWithPool 25 = .ok (.iload 9, 2) := by decide +kernel
theorem dX3_splitWithPool_27 : decode cX3_splitWithPool 27 = .ok (.aload_n 0, 1) := by decide +kernel
theorem dX3_splitWithPool_28 : decode cX3_splitWithPool 28 = .ok (.getfield 9, 3) := by decide +kernel
theorem dX3_splitWithPool_31 : decode cX3_splitWithPool 31 = .ok (.getfield 43, 3) := by decide +kernel
theorem dX3_splitWithPool_34 : decode cX3_splitWithPool 34 = .ok (.if_icmp .ge 79, 3) := by decide +kernel
theorem dX3_splitWithPool_37 : decode cX3_splitWithPool 37 = .ok (.aload_n 0, 1) := by decide +kernel
theorem dX3_splitWithPool_38 : decode cX3_splitWithPool 38 = .ok (.getfield 9, 3) := by decide +kernel
theorem dX3_splitWithPool_41 : decode cX3_splitWithPool 41 = .ok (.iload 9, 2) := by decide +kernel
theorem dX3_splitWithPool_43 : decode cX3_splitWithPool 43 = .ok (.invokevirtual 46, 3) := by decide +kernel
theorem dX3_splitWithPool_46 : decode cX3_splitWithPool 46 = .ok (.astore 10, 2) := by decide +kernel
theorem dX3_splitWithPool_48 : decode cX3_splitWithPool 48 = .ok (.aload 10, 2) := by decide +kernel
theorem dX3_splitWithPool_50 : decode cX3_splitWithPool 50 = .ok (.getfield 175, 3) := by decide +kernel
theorem dX3_splitWithPool_53 : decode cX3_splitWithPool 53 = .ok (.ifCond .eq 54, 3) := by decide +kernel
theorem dX3_splitWithPool_56 : decode cX3_splitWithPool 56 = .ok (.aload 10, 2) := by decide +kernel
theorem dX3_splitWithPool_58 : decode cX3_splitWithPool 58 = .ok (.getfield 182, 3) := by decide +kernel
theorem dX3_splitWithPool_61 : decode cX3_splitWithPool 61 = .ok (.iload_n 2, 1) := by decide +kernel
theorem dX3_splitWithPool_62 : decode cX3_splitWithPool 62 = .ok (.if_icmp .ne 45, 3) := by decide +kernel
theorem dX3_splitWithPool_65 : decode cX3_splitWithPool 65 = .ok (.aload 10, 2) := by decide +kernel
theorem dX3_splitWithPool_67 : decode cX3_splitWithPool 67 = .ok (.aload_n 1, 1) := by decide +kernel
theorem dX3_splitWithPool_68 : decode cX3_splitWithPool 68 = .ok (.getfield 50, 3) := by decide +kernel
theorem dX3_splitWithPool_71 : decode cX3_splitWithPool 71 = .ok (.invokevirtual 53, 3) := by decide +kernel
theorem dX3_splitWithPool_74 : decode cX3_splitWithPool 74 = .ok (.lstore 11, 2) := by decide +kernel
theorem dX3_splitWithPool_76 : decode cX3_splitWithPool 76 = .ok (.lload 5, 2) := by decide +kernel
theorem dX3_splitWithPool_78 : decode cX3_splitWithPool 78 = .ok (.lload 11, 2) := by decide +kernel
theorem dX3_splitWithPool_80 : decode cX3_splitWithPool 80 = .ok (.ladd, 1) := by decide +kernel
theorem dX3_splitWithPool_81 : decode cX3_splitWithPool 81 = .ok (.lstore 5, 2) := by decide +kernel
theorem dX3_splitWithPool_83 : decode cX3_splitWithPool 83 = .ok (.lload 7, 2) := by decide +kernel
theorem dX3_splitWithPool_85 : decode cX3_splitWithPool 85 = .ok (.aload_n 1, 1) := by decide +kernel
theorem dX3_splitWithPool_86 : decode cX3_splitWithPool 86 = .ok (.lload 11, 2) := by decide +kernel
theorem dX3_splitWithPool_88 : decode cX3_splitWithPool 88 = .ok (.invokevirtual 185, 3) := by decide +kernel
theorem dX3_splitWithPool_91 : decode cX3_splitWithPool 91 = .ok (.ladd, 1) := by decide +kernel
theorem dX3_splitWithPool_92 : decode cX3_splitWithPool 92 = .ok (.lstore 7, 2) := by decide +kernel
theorem dX3_splitWithPool_94 : decode cX3_splitWithPool 94 = .ok (.aload_n 0, 1) := by decide +kernel
theorem dX3_splitWithPool_95 : decode cX3_splitWithPool 95 = .ok (.aload_n 1, 1) := by decide +kernel
theorem dX3_splitWithPool_96 : decode cX3_splitWithPool 96 = .ok (.aload 10, 2) := by decide +kernel
theorem dX3_splitWithPool_98 : decode cX3_splitWithPool 98 = .ok (.aload_n 1, 1) := by decide +kernel
theorem dX3_splitWithPool_99 : decode cX3_splitWithPool 99 = .ok (.lload 11, 2) := by decide +kernel
theorem dX3_splitWithPool_101 : decode cX3_splitWithPool 101 = .ok (.invokevirtual 185, 3) := by decide +kernel
theorem dX3_splitWithPool_104 : decode cX3_splitWithPool 104 = .ok (.invokevirtual 189, 3) := by decide +kernel
theorem dX3_splitWithPool_107 : decode cX3_splitWithPool 107 = .ok (.iinc 9 1, 3) := by decide +kernel
theorem dX3_splitWithPool_110 : decode cX3_splitWithPool 110 = .ok (.goto (-85), 3) := by decide +kernel
theorem dX3_splitWithPool_113 : decode cX3_splitWithPool 113 = .ok (.aload_n 1, 1) := by decide +kernel
theorem dX3_splitWithPool_114 : decode cX3_splitWithPool 114 = .ok (.lload 5, 2) := by decide +kernel
theorem dX3_splitWithPool_116 : decode cX3_splitWithPool 116 = .ok (.invokevirtual 185, 3) := by decide +kernel
theorem dX3_splitWithPool_119 : decode cX3_splitWithPool 119 = .ok (.lstore 9, 2) := by decide +kernel
theorem dX3_splitWithPool_121 : decode cX3_splitWithPool 121 = .ok (.aload_n 0, 1) := by decide +kernel
theorem dX3_splitWithPool_122 : decode cX3_splitWithPool 122 = .ok (.aload_n 1, 1) := by decide +kernel
theorem dX3_splitWithPool_123 : decode cX3_splitWithPool 123 = .ok (.aload_n 0, 1) := by decide +kernel
theorem dX3_splitWithPool_124 : decode cX3_splitWithPool 124 = .ok (.getfield 9, 3) := by decide +kernel
theorem dX3_splitWithPool_127 : decode cX3_splitWithPool 127 = .ok (.iload_n 2, 1) := by decide +kernel
theorem dX3_splitWithPool_128 : decode cX3_splitWithPool 128 = .ok (.invokevirtual 46, 3) := by decide +kernel
theorem dX3_splitWithPool_131 : decode cX3_splitWithPool 131 = .ok (.lload 9, 2) := by decide +kernel
theorem dX3_splitWithPool_133 : decode cX3_splitWithPool 133 = .ok (.lload 7, 2) := by decide +kernel
theorem dX3_splitWithPool_135 : decode cX3_splitWithPool 135 = .ok (.lsub, 1) := by decide +kernel
theorem dX3_splitWithPool_136 : decode cX3_splitWithPool 136 = .ok (.invokevirtual 189, 3) := by decide +kernel
theorem dX3_splitWithPool_139 : decode cX3_splitWithPool 139 = .ok (.lload 9, 2) := by decide +kernel
theorem dX3_splitWithPool_141 : decode cX3_splitWithPool 141 = .ok (.lreturn, 1) := by decide +kernel
theorem dX3_splitAccount_0 : decode cX3_splitAccount 0 = .ok (.aload_n 2, 1) := by decide +kernel
theorem dX3_splitAccount_1 : decode cX3_splitAccount 1 = .ok (.aload_n 1, 1) := by decide +kernel
theorem dX3_splitAccount_2 : decode cX3_splitAccount 2 = .ok (.getfield 50, 3) := by decide +kernel
theorem dX3_splitAccount_5 : decode cX3_splitAccount 5 = .ok (.lload_n 3, 1) := by decide +kernel
theorem dX3_splitAccount_6 : decode cX3_splitAccount 6 = .ok (.aload_n 2, 1) := by decide +kernel
theorem dX3_splitAccount_7 : decode cX3_splitAccount 7 = .ok (.aload_n 1, 1) := by decide +kernel
theorem dX3_splitAccount_8 : decode cX3_splitAccount 8 = .ok (.getfield 50, 3) := by decide +kernel
theorem dX3_splitAccount_11 : decode cX3_splitAccount 11 = .ok (.invokevirtual 53, 3) := by decide +kernel
theorem dX3_splitAccount_14 : decode cX3_splitAccount 14 = .ok (.lsub, 1) := by decide +kernel
theorem dX3_splitAccount_15 : decode cX3_splitAccount 15 = .ok (.aload_n 0, 1) := by decide +kernel
theorem dX3_splitAccount_16 : decode cX3_splitAccount 16 = .ok (.getfield 9, 3) := by decide +kernel
theorem dX3_splitAccount_19 : decode cX3_splitAccount 19 = .ok (.getfield 87, 3) := by decide +kernel
theorem dX3_splitAccount_22 : decode cX3_splitAccount 22 = .ok (.invokevirtual 153, 3) := by decide +kernel
theorem dX3_splitAccount_25 : decode cX3_splitAccount 25 = .ok (.aload_n 2, 1) := by decide +kernel
theorem dX3_splitAccount_26 : decode cX3_splitAccount 26 = .ok (.aload_n 1, 1) := by decide +kernel
theorem dX3_splitAccount_27 : decode cX3_splitAccount 27 = .ok (.getfield 50, 3) := by decide +kernel
theorem dX3_splitAccount_30 : decode cX3_splitAccount 30 = .ok (.aload_n 1, 1) := by decide +kernel
theorem dX3_splitAccount_31 : decode cX3_splitAccount 31 = .ok (.aload_n 2, 1) := by decide +kernel
theorem dX3_splitAccount_32 : decode cX3_splitAccount 32 = .ok (.aload_n 1, 1) := by decide +kernel
theorem dX3_splitAccount_33 : decode cX3_splitAccount 33 = .ok (.getfield 50, 3) := by decide +kernel
theorem dX3_splitAccount_36 : decode cX3_splitAccount 36 = .ok (.invokevirtual 193, 3) := by decide +kernel
theorem dX3_splitAccount_39 : decode cX3_splitAccount 39 = .ok (.invokevirtual 185, 3) := by decide +kernel
theorem dX3_splitAccount_42 : decode cX3_splitAccount 42 = .ok (.invokevirtual 196, 3) := by decide +kernel
theorem dX3_splitAccount_45 : decode cX3_splitAccount 45 = .ok (.return_, 1) := by decide +kernel
theorem dX3_splitLoans_0 : decode cX3_splitLoans 0 = .ok (.iconst 0, 1) := by decide +kernel
theorem dX3_splitLoans_1 : decode cX3_splitLoans 1 = .ok (.istore_n 2, 1) := by decide +kernel
theorem dX3_splitLoans_2 : decode cX3_splitLoans 2 = .ok (.iload_n 2, 1) := by decide +kernel
theorem dX3_splitLoans_3 : decode cX3_splitLoans 3 = .ok (.aload_n 0, 1) := by decide +kernel
theorem dX3_splitLoans_4 : decode cX3_splitLoans 4 = .ok (.getfield 9, 3) := by decide +kernel
theorem dX3_splitLoans_7 : decode cX3_splitLoans 7 = .ok (.getfield 199, 3) := by decide +kernel
theorem dX3_splitLoans_10 : decode cX3_splitLoans 10 = .ok (.if_icmp .ge 41, 3) := by decide +kernel
theorem dX3_splitLoans_13 : decode cX3_splitLoans 13 = .ok (.aload_n 0, 1) := by decide +kernel
theorem dX3_splitLoans_14 : decode cX3_splitLoans 14 = .ok (.getfield 9, 3) := by decide +kernel
theorem dX3_splitLoans_17 : decode cX3_splitLoans 17 = .ok (.iload_n 2, 1) := by decide +kernel
theorem dX3_splitLoans_18 : decode cX3_splitLoans 18 = .ok (.invokevirtual 202, 3) := by decide +kernel
theorem dX3_splitLoans_21 : decode cX3_splitLoans 21 = .ok (.astore_n 3, 1) := by decide +kernel
theorem dX3_splitLoans_22 : decode cX3_splitLoans 22 = .ok (.aload_n 3, 1) := by decide +kernel
theorem dX3_splitLoans_23 : decode cX3_splitLoans 23 = .ok (.getfield 206, 3) := by decide +kernel
theorem dX3_splitLoans_26 : decode cX3_splitLoans 26 = .ok (.aload_n 1, 1) := by decide +kernel
theorem dX3_splitLoans_27 : decode cX3_splitLoans 27 = .ok (.getfield 50, 3) := by decide +kernel
theorem dX3_splitLoans_30 : decode cX3_splitLoans 30 = .ok (.if_icmp .ne 15, 3) := by decide +kernel
theorem dX3_splitLoans_33 : decode cX3_splitLoans 33 = .ok (.aload_n 3, 1) := by decide +kernel
theorem dX3_splitLoans_34 : decode cX3_splitLoans 34 = .ok (.aload_n 1, 1) := by decide +kernel
theorem dX3_splitLoans_35 : decode cX3_splitLoans 35 = .ok (.aload_n 3, 1) := by decide +kernel
theorem dX3_splitLoans_36 : decode cX3_splitLoans 36 = .ok (.getfield 209, 3) := by decide +kernel
theorem dX3_splitLoans_39 : decode cX3_splitLoans 39 = .ok (.invokevirtual 185, 3) := by decide +kernel
theorem dX3_splitLoans_42 : decode cX3_splitLoans 42 = .ok (.putfield 209, 3) := by decide +kernel
theorem dX3_splitLoans_45 : decode cX3_splitLoans 45 = .ok (.iinc 2 1, 3) := by decide +kernel
theorem dX3_splitLoans_48 : decode cX3_splitLoans 48 = .ok (.goto (-46), 3) := by decide +kernel
theorem dX3_splitLoans_51 : decode cX3_splitLoans 51 = .ok (.return_, 1) := by decide +kernel
theorem dX3_splitTrades_0 : decode cX3_splitTrades 0 = .ok (.iconst 0, 1) := by decide +kernel
theorem dX3_splitTrades_1 : decode cX3_splitTrades 1 = .ok (.istore_n 2, 1) := by decide +kernel
theorem dX3_splitTrades_2 : decode cX3_splitTrades 2 = .ok (.iload_n 2, 1) := by decide +kernel
theorem dX3_splitTrades_3 : decode cX3_splitTrades 3 = .ok (.aload_n 0, 1) := by decide +kernel
theorem dX3_splitTrades_4 : decode cX3_splitTrades 4 = .ok (.getfield 9, 3) := by decide +kernel
theorem dX3_splitTrades_7 : decode cX3_splitTrades 7 = .ok (.getfield 63, 3) := by decide +kernel
theorem dX3_splitTrades_10 : decode cX3_splitTrades 10 = .ok (.if_icmp .ge 78, 3) := by decide +kernel
theorem dX3_splitTrades_13 : decode cX3_splitTrades 13 = .ok (.aload_n 0, 1) := by decide +kernel
theorem dX3_splitTrades_14 : decode cX3_splitTrades 14 = .ok (.getfield 9, 3) := by decide +kernel
theorem dX3_splitTrades_17 : decode cX3_splitTrades 17 = .ok (.iload_n 2, 1) := by decide +kernel
theorem dX3_splitTrades_18 : decode cX3_splitTrades 18 = .ok (.invokevirtual 66, 3) := by decide +kernel
theorem dX3_splitTrades_21 : decode cX3_splitTrades 21 = .ok (.astore_n 3, 1) := by decide +kernel
theorem dX3_splitTrades_22 : decode cX3_splitTrades 22 = .ok (.aload_n 3, 1) := by decide +kernel
theorem dX3_splitTrades_23 : decode cX3_splitTrades 23 = .ok (.getfield 210, 3) := by decide +kernel
theorem dX3_splitTrades_26 : decode cX3_splitTrades 26 = .ok (.iconst 1, 1) := by decide +kernel
theorem dX3_splitTrades_27 : decode cX3_splitTrades 27 = .ok (.if_icmp .ne 55, 3) := by decide +kernel
theorem dX3_splitTrades_30 : decode cX3_splitTrades 30 = .ok (.aload_n 3, 1) := by decide +kernel
theorem dX3_splitTrades_31 : decode cX3_splitTrades 31 = .ok (.getfield 77, 3) := by decide +kernel
theorem dX3_splitTrades_34 : decode cX3_splitTrades 34 = .ok (.aload_n 1, 1) := by decide +kernel
theorem dX3_splitTrades_35 : decode cX3_splitTrades 35 = .ok (.getfield 50, 3) := by decide +kernel
theorem dX3_splitTrades_38 : decode cX3_splitTrades 38 = .ok (.if_icmp .ne 44, 3) := by decide +kernel
theorem dX3_splitTrades_41 : decode cX3_splitTrades 41 = .ok (.aload_n 3, 1) := by decide +kernel
theorem dX3_splitTrades_42 : decode cX3_splitTrades 42 = .ok (.aload_n 1, 1) := by decide +kernel
theorem dX3_splitTrades_43 : decode cX3_splitTrades 43 = .ok (.aload_n 3, 1) := by decide +kernel
theorem dX3_splitTrades_44 : decode cX3_splitTrades 44 = .ok (.getfield 80, 3) := by decide +kernel
theorem dX3_splitTrades_47 : decode cX3_splitTrades 47 = .ok (.invokevirtual 185, 3) := by decide +kernel
theorem dX3_splitTrades_50 : decode cX3_splitTrades 50 = .ok (.putfield 80, 3) := by decide +kernel
theorem dX3_splitTrades_53 : decode cX3_splitTrades 53 = .ok (.aload_n 3, 1) := by decide +kernel
theorem dX3_splitTrades_54 : decode cX3_splitTrades 54 = .ok (.aload_n 1, 1) := by decide +kernel
theorem dX3_splitTrades_55 : decode cX3_splitTrades 55 = .ok (.aload_n 3, 1) := by decide +kernel
theorem dX3_splitTrades_56 : decode cX3_splitTrades 56 = .ok (.getfield 213, 3) := by decide +kernel
theorem dX3_splitTrades_59 : decode cX3_splitTrades 59 = .ok (.invokevirtual 185, 3) := by decide +kernel
theorem dX3_splitTrades_62 : decode cX3_splitTrades 62 = .ok (.putfield 213, 3) := by decide +kernel
theorem dX3_splitTrades_65 : decode cX3_splitTrades 65 = .ok (.aload_n 3, 1) := by decide +kernel
theorem dX3_splitTrades_66 : decode cX3_splitTrades 66 = .ok (.getfield 80, 3) := by decide +kernel
theorem dX3_splitTrades_69 : decode cX3_splitTrades 69 = .ok (.lconst 0, 1) := by decide +kernel
theorem dX3_splitTrades_70 : decode cX3_splitTrades 70 = .ok (.lcmp, 1) := by decide +kernel
theorem dX3_splitTrades_71 : decode cX3_splitTrades 71 = .ok (.ifCond .ne 11, 3) := by decide +kernel
theorem dX3_splitTrades_74 : decode cX3_splitTrades 74 = .ok (.aload_n 0, 1) := by decide +kernel
theorem dX3_splitTrades_75 : decode cX3_splitTrades 75 = .ok (.getfield 9, 3) := by decide +kernel
theorem dX3_splitTrades_78 : decode cX3_splitTrades 78 = .ok (.aload_n 3, 1) := by decide +kernel
theorem dX3_splitTrades_79 : decode cX3_splitTrades 79 = .ok (.invokevirtual 216, 3) := by decide +kernel
theorem dX3_splitTrades_82 : decode cX3_splitTrades 82 = .ok (.iinc 2 1, 3) := by decide +kernel
theorem dX3_splitTrades_85 : decode cX3_splitTrades 85 = .ok (.goto (-83), 3) := by decide +kernel
theorem dX3_splitTrades_88 : decode cX3_splitTrades 88 = .ok (.return_, 1) := by decide +kernel
theorem dX3_tellFinesOfTrades_0 : decode cX3_tellFinesOfTrades 0 = .ok (.iconst 0, 1) := by decide +kernel
theorem dX3_tellFinesOfTrades_1 : decode cX3_tellFinesOfTrades 1 = .ok (.istore_n 1, 1) := by decide +kernel
theorem dX3_tellFinesOfTrades_2 : decode cX3_tellFinesOfTrades 2 = .ok (.iconst 0, 1) := by decide +kernel
theorem dX3_tellFinesOfTrades_3 : decode cX3_tellFinesOfTrades 3 = .ok (.istore_n 2, 1) := by decide +kernel
theorem dX3_tellFinesOfTrades_4 : decode cX3_tellFinesOfTrades 4 = .ok (.iload_n 2, 1) := by decide +kernel
theorem dX3_tellFinesOfTrades_5 : decode cX3_tellFinesOfTrades 5 = .ok (.aload_n 0, 1) := by decide +kernel
theorem dX3_tellFinesOfTrades_6 : decode cX3_tellFinesOfTrades 6 = .ok (.getfield 9, 3) := by decide +kernel
theorem dX3_tellFinesOfTrades_9 : decode cX3_tellFinesOfTrades 9 = .ok (.getfield 63, 3) := by decide +kernel
theorem dX3_tellFinesOfTrades_12 : decode cX3_tellFinesOfTrades 12 = .ok (.if_icmp .ge 61, 3) := by decide +kernel
theorem dX3_tellFinesOfTrades_15 : decode cX3_tellFinesOfTrades 15 = .ok (.aload_n 0, 1) := by decide +kernel
theorem dX3_tellFinesOfTrades_16 : decode cX3_tellFinesOfTrades 16 = .ok (.getfield 9, 3) := by decide +kernel
theorem dX3_tellFinesOfTrades_19 : decode cX3_tellFinesOfTrades 19 = .ok (.iload_n 2, 1) := by decide +kernel
theorem dX3_tellFinesOfTrades_20 : decode cX3_tellFinesOfTrades 20 = .ok (.invokevirtual 66, 3) := by decide +kernel
theorem dX3_tellFinesOfTrades_23 : decode cX3_tellFinesOfTrades 23 = .ok (.astore_n 3, 1) := by decide +kernel
theorem dX3_tellFinesOfTrades_24 : decode cX3_tellFinesOfTrades 24 = .ok (.aload_n 0, 1) := by decide +kernel
theorem dX3_tellFinesOfTrades_25 : decode cX3_tellFinesOfTrades 25 = .ok (.getfield 9, 3) := by decide +kernel
theorem dX3_tellFinesOfTrades_28 : decode cX3_tellFinesOfTrades 28 = .ok (.aload_n 3, 1) := by decide +kernel
theorem dX3_tellFinesOfTrades_29 : decode cX3_tellFinesOfTrades 29 = .ok (.invokevirtual 73, 3) := by decide +kernel
theorem dX3_tellFinesOfTrades_32 : decode cX3_tellFinesOfTrades 32 = .ok (.ifCond .eq 35, 3) := by decide +kernel
theorem dX3_tellFinesOfTrades_35 : decode cX3_tellFinesOfTrades 35 = .ok (.aload_n 0, 1) := by decide +kernel
theorem dX3_tellFinesOfTrades_36 : decode cX3_tellFinesOfTrades 36 = .ok (.getfield 9, 3) := by decide +kernel
theorem dX3_tellFinesOfTrades_39 : decode cX3_tellFinesOfTrades 39 = .ok (.aload_n 3, 1) := by decide +kernel
theorem dX3_tellFinesOfTrades_40 : decode cX3_tellFinesOfTrades 40 = .ok (.invokevirtual 220, 3) := by decide +kernel
theorem dX3_tellFinesOfTrades_43 : decode cX3_tellFinesOfTrades 43 = .ok (.istore 4, 2) := by decide +kernel
theorem dX3_tellFinesOfTrades_45 : decode cX3_tellFinesOfTrades 45 = .ok (.iload_n 1, 1) := by decide +kernel
theorem dX3_tellFinesOfTrades_46 : decode cX3_tellFinesOfTrades 46 = .ok (.aload_n 0, 1) := by decide +kernel
theorem dX3_tellFinesOfTrades_47 : decode cX3_tellFinesOfTrades 47 = .ok (.iload 4, 2) := by decide +kernel
theorem dX3_tellFinesOfTrades_49 : decode cX3_tellFinesOfTrades 49 = .ok (.aload_n 0, 1) := by decide +kernel
theorem dX3_tellFinesOfTrades_50 : decode cX3_tellFinesOfTrades 50 = .ok (.aload_n 3, 1) := by decide +kernel
theorem dX3_tellFinesOfTrades_51 : decode cX3_tellFinesOfTrades 51 = .ok (.invokevirtual 224, 3) := by decide +kernel
theorem dX3_tellFinesOfTrades_54 : decode cX3_tellFinesOfTrades 54 = .ok (.aload_n 3, 1) := by decide +kernel
theorem dX3_tellFinesOfTrades_55 : decode cX3_tellFinesOfTrades 55 = .ok (.getfield 77, 3) := by decide +kernel
theorem dX3_tellFinesOfTrades_58 : decode cX3_tellFinesOfTrades 58 = .ok (.aload_n 3, 1) := by decide +kernel
theorem dX3_tellFinesOfTrades_59 : decode cX3_tellFinesOfTrades 59 = .ok (.getfield 80, 3) := by decide +kernel
theorem dX3_tellFinesOfTrades_62 : decode cX3_tellFinesOfTrades 62 = .ok (.invokevirtual 227, 3) := by decide +kernel
theorem dX3_tellFinesOfTrades_65 : decode cX3_tellFinesOfTrades 65 = .ok (.iadd, 1) := by decide +kernel
theorem dX3_tellFinesOfTrades_66 : decode cX3_tellFinesOfTrades 66 = .ok (.istore_n 1, 1) := by decide +kernel
theorem dX3_tellFinesOfTrades_67 : decode cX3_tellFinesOfTrades 67 = .ok (.iinc 2 1, 3) := by decide +kernel
theorem dX3_tellFinesOfTrades_70 : decode cX3_tellFinesOfTrades 70 = .ok (.goto (-66), 3) := by decide +kernel
theorem dX3_tellFinesOfTrades_73 : decode cX3_tellFinesOfTrades 73 = .ok (.iload_n 1, 1) := by decide +kernel
theorem dX3_tellFinesOfTrades_74 : decode cX3_tellFinesOfTrades 74 = .ok (.ireturn, 1) := by decide +kernel
theorem dX3_finedFor_0 : decode cX3_finedFor 0 = .ok (.aload_n 0, 1) := by decide +kernel
theorem dX3_finedFor_1 : decode cX3_finedFor 1 = .ok (.getfield 9, 3) := by decide +kernel
theorem dX3_finedFor_4 : decode cX3_finedFor 4 = .ok (.aload_n 1, 1) := by decide +kernel
theorem dX3_finedFor_5 : decode cX3_finedFor 5 = .ok (.getfield 231, 3) := by decide +kernel
theorem dX3_finedFor_8 : decode cX3_finedFor 8 = .ok (.invokevirtual 234, 3) := by decide +kernel
theorem dX3_finedFor_11 : decode cX3_finedFor 11 = .ok (.getfield 238, 3) := by decide +kernel
theorem dX3_finedFor_14 : decode cX3_finedFor 14 = .ok (.ifCond .ne 25, 3) := by decide +kernel
theorem dX3_finedFor_17 : decode cX3_finedFor 17 = .ok (.aload_n 0, 1) := by decide +kernel
theorem dX3_finedFor_18 : decode cX3_finedFor 18 = .ok (.getfield 9, 3) := by decide +kernel
theorem dX3_finedFor_21 : decode cX3_finedFor 21 = .ok (.aload_n 1, 1) := by decide +kernel
theorem dX3_finedFor_22 : decode cX3_finedFor 22 = .ok (.invokevirtual 243, 3) := by decide +kernel
theorem dX3_finedFor_25 : decode cX3_finedFor 25 = .ok (.ifCond .ne 18, 3) := by decide +kernel
theorem dX3_finedFor_28 : decode cX3_finedFor 28 = .ok (.aload_n 0, 1) := by decide +kernel
theorem dX3_finedFor_29 : decode cX3_finedFor 29 = .ok (.getfield 9, 3) := by decide +kernel
theorem dX3_finedFor_32 : decode cX3_finedFor 32 = .ok (.aload_n 1, 1) := by decide +kernel
theorem dX3_finedFor_33 : decode cX3_finedFor 33 = .ok (.invokevirtual 246, 3) := by decide +kernel
theorem dX3_finedFor_36 : decode cX3_finedFor 36 = .ok (.ifCond .eq 7, 3) := by decide +kernel
theorem dX3_finedFor_39 : decode cX3_finedFor 39 = .ok (.iconst 1, 1) := by decide +kernel
theorem dX3_finedFor_40 : decode cX3_finedFor 40 = .ok (.goto 4, 3) := by decide +kernel
theorem dX3_finedFor_43 : decode cX3_finedFor 43 = .ok (.iconst 0, 1) := by decide +kernel
theorem dX3_finedFor_44 : decode cX3_finedFor 44 = .ok (.istore_n 2, 1) := by decide +kernel
theorem dX3_finedFor_45 : decode cX3_finedFor 45 = .ok (.iload_n 2, 1) := by decide +kernel
theorem dX3_finedFor_46 : decode cX3_finedFor 46 = .ok (.ifCond .eq 10, 3) := by decide +kernel
theorem dX3_finedFor_49 : decode cX3_finedFor 49 = .ok (.aload_n 1, 1) := by decide +kernel
theorem dX3_finedFor_50 : decode cX3_finedFor 50 = .ok (.getfield 166, 3) := by decide +kernel
theorem dX3_finedFor_53 : decode cX3_finedFor 53 = .ok (.goto 7, 3) := by decide +kernel
theorem dX3_finedFor_56 : decode cX3_finedFor 56 = .ok (.aload_n 1, 1) := by decide +kernel
theorem dX3_finedFor_57 : decode cX3_finedFor 57 = .ok (.getfield 163, 3) := by decide +kernel
theorem dX3_finedFor_60 : decode cX3_finedFor 60 = .ok (.ireturn, 1) := by decide +kernel
theorem dX3_tellFinesOfLoans_0 : decode cX3_tellFinesOfLoans 0 = .ok (.iconst 0, 1) := by decide +kernel
theorem dX3_tellFinesOfLoans_1 : decode cX3_tellFinesOfLoans 1 = .ok (.istore_n 1, 1) := by decide +kernel
theorem dX3_tellFinesOfLoans_2 : decode cX3_tellFinesOfLoans 2 = .ok (.iconst 0, 1) := by decide +kernel
theorem dX3_tellFinesOfLoans_3 : decode cX3_tellFinesOfLoans 3 = .ok (.istore_n 2, 1) := by decide +kernel
theorem dX3_tellFinesOfLoans_4 : decode cX3_tellFinesOfLoans 4 = .ok (.iload_n 2, 1) := by decide +kernel
theorem dX3_tellFinesOfLoans_5 : decode cX3_tellFinesOfLoans 5 = .ok (.aload_n 0, 1) := by decide +kernel
theorem dX3_tellFinesOfLoans_6 : decode cX3_tellFinesOfLoans 6 = .ok (.getfield 9, 3) := by decide +kernel
theorem dX3_tellFinesOfLoans_9 : decode cX3_tellFinesOfLoans 9 = .ok (.getfield 199, 3) := by decide +kernel
theorem dX3_tellFinesOfLoans_12 : decode cX3_tellFinesOfLoans 12 = .ok (.if_icmp .ge 55, 3) := by decide +kernel
theorem dX3_tellFinesOfLoans_15 : decode cX3_tellFinesOfLoans 15 = .ok (.aload_n 0, 1) := by decide +kernel
theorem dX3_tellFinesOfLoans_16 : decode cX3_tellFinesOfLoans 16 = .ok (.getfield 9, 3) := by decide +kernel
theorem dX3_tellFinesOfLoans_19 : decode cX3_tellFinesOfLoans 19 = .ok (.iload_n 2, 1) := by decide +kernel
theorem dX3_tellFinesOfLoans_20 : decode cX3_tellFinesOfLoans 20 = .ok (.invokevirtual 202, 3) := by decide +kernel
theorem dX3_tellFinesOfLoans_23 : decode cX3_tellFinesOfLoans 23 = .ok (.astore_n 3, 1) := by decide +kernel
theorem dX3_tellFinesOfLoans_24 : decode cX3_tellFinesOfLoans 24 = .ok (.aload_n 3, 1) := by decide +kernel
theorem dX3_tellFinesOfLoans_25 : decode cX3_tellFinesOfLoans 25 = .ok (.getfield 249, 3) := by decide +kernel
theorem dX3_tellFinesOfLoans_28 : decode cX3_tellFinesOfLoans 28 = .ok (.ifCond .eq 33, 3) := by decide +kernel
theorem dX3_tellFinesOfLoans_31 : decode cX3_tellFinesOfLoans 31 = .ok (.aload_n 3, 1) := by decide +kernel
theorem dX3_tellFinesOfLoans_32 : decode cX3_tellFinesOfLoans 32 = .ok (.getfield 252, 3) := by decide +kernel
theorem dX3_tellFinesOfLoans_35 : decode cX3_tellFinesOfLoans 35 = .ok (.ifCond .ne 26, 3) := by decide +kernel
theorem dX3_tellFinesOfLoans_38 : decode cX3_tellFinesOfLoans 38 = .ok (.iload_n 1, 1) := by decide +kernel
theorem dX3_tellFinesOfLoans_39 : decode cX3_tellFinesOfLoans 39 = .ok (.aload_n 0, 1) := by decide +kernel
theorem dX3_tellFinesOfLoans_40 : decode cX3_tellFinesOfLoans 40 = .ok (.aload_n 3, 1) := by decide +kernel
theorem dX3_tellFinesOfLoans_41 : decode cX3_tellFinesOfLoans 41 = .ok (.getfield 255, 3) := by decide +kernel
theorem dX3_tellFinesOfLoans_44 : decode cX3_tellFinesOfLoans 44 = .ok (.aload_n 3, 1) := by decide +kernel
theorem dX3_tellFinesOfLoans_45 : decode cX3_tellFinesOfLoans 45 = .ok (.getfield 258, 3) := by decide +kernel
theorem dX3_tellFinesOfLoans_48 : decode cX3_tellFinesOfLoans 48 = .ok (.aload_n 3, 1) := by decide +kernel
theorem dX3_tellFinesOfLoans_49 : decode cX3_tellFinesOfLoans 49 = .ok (.getfield 206, 3) := by decide +kernel
theorem dX3_tellFinesOfLoans_52 : decode cX3_tellFinesOfLoans 52 = .ok (.aload_n 3, 1) := by decide +kernel
theorem dX3_tellFinesOfLoans_53 : decode cX3_tellFinesOfLoans 53 = .ok (.getfield 209, 3) := by decide +kernel
theorem dX3_tellFinesOfLoans_56 : decode cX3_tellFinesOfLoans 56 = .ok (.invokevirtual 227, 3) := by decide +kernel
theorem dX3_tellFinesOfLoans_59 : decode cX3_tellFinesOfLoans 59 = .ok (.iadd, 1) := by decide +kernel
theorem dX3_tellFinesOfLoans_60 : decode cX3_tellFinesOfLoans 60 = .ok (.istore_n 1, 1) := by decide +kernel
theorem dX3_tellFinesOfLoans_61 : decode cX3_tellFinesOfLoans 61 = .ok (.iinc 2 1, 3) := by decide +kernel
theorem dX3_tellFinesOfLoans_64 : decode cX3_tellFinesOfLoans 64 = .ok (.goto (-60), 3) := by decide +kernel
theorem dX3_tellFinesOfLoans_67 : decode cX3_tellFinesOfLoans 67 = .ok (.iload_n 1, 1) := by decide +kernel
theorem dX3_tellFinesOfLoans_68 : decode cX3_tellFinesOfLoans 68 = .ok (.ireturn, 1) := by decide +kernel
theorem dX3_tellFine_0 : decode cX3_tellFine 0 = .ok (.iload_n 1, 1) := by decide +kernel
theorem dX3_tellFine_1 : decode cX3_tellFine 1 = .ok (.iload_n 2, 1) := by decide +kernel
theorem dX3_tellFine_2 : decode cX3_tellFine 2 = .ok (.if_icmp .ne 5, 3) := by decide +kernel
theorem dX3_tellFine_5 : decode cX3_tellFine 5 = .ok (.iconst 0, 1) := by decide +kernel
theorem dX3_tellFine_6 : decode cX3_tellFine 6 = .ok (.ireturn, 1) := by decide +kernel
theorem dX3_tellFine_7 : decode cX3_tellFine 7 = .ok (.aload_n 0, 1) := by decide +kernel
theorem dX3_tellFine_8 : decode cX3_tellFine 8 = .ok (.getfield 9, 3) := by decide +kernel
theorem dX3_tellFine_11 : decode cX3_tellFine 11 = .ok (.iload_n 3, 1) := by decide +kernel
theorem dX3_tellFine_12 : decode cX3_tellFine 12 = .ok (.lload 4, 2) := by decide +kernel
theorem dX3_tellFine_14 : decode cX3_tellFine 14 = .ok (.invokevirtual 261, 3) := by decide +kernel
theorem dX3_tellFine_17 : decode cX3_tellFine 17 = .ok (.aload_n 0, 1) := by decide +kernel
theorem dX3_tellFine_18 : decode cX3_tellFine 18 = .ok (.getfield 9, 3) := by decide +kernel
theorem dX3_tellFine_21 : decode cX3_tellFine 21 = .ok (.iload_n 3, 1) := by decide +kernel
theorem dX3_tellFine_22 : decode cX3_tellFine 22 = .ok (.invokevirtual 129, 3) := by decide +kernel
theorem dX3_tellFine_25 : decode cX3_tellFine 25 = .ok (.getfield 265, 3) := by decide +kernel
theorem dX3_tellFine_28 : decode cX3_tellFine 28 = .ok (.i2l, 1) := by decide +kernel
theorem dX3_tellFine_29 : decode cX3_tellFine 29 = .ok (.lmul, 1) := by decide +kernel
theorem dX3_tellFine_30 : decode cX3_tellFine 30 = .ok (.ldc2_w 268, 3) := by decide +kernel
theorem dX3_tellFine_33 : decode cX3_tellFine 33 = .ok (.ldiv, 1) := by decide +kernel
theorem dX3_tellFine_34 : decode cX3_tellFine 34 = .ok (.lconst 1, 1) := by decide +kernel
theorem dX3_tellFine_35 : decode cX3_tellFine 35 = .ok (.ladd, 1) := by decide +kernel
theorem dX3_tellFine_36 : decode cX3_tellFine 36 = .ok (.lstore 6, 2) := by decide +kernel
theorem dX3_tellFine_38 : decode cX3_tellFine 38 = .ok (.aload_n 0, 1) := by decide +kernel
theorem dX3_tellFine_39 : decode cX3_tellFine 39 = .ok (.getfield 9, 3) := by decide +kernel
theorem dX3_tellFine_42 : decode cX3_tellFine 42 = .ok (.iload_n 1, 1) := by decide +kernel
theorem dX3_tellFine_43 : decode cX3_tellFine 43 = .ok (.iload_n 2, 1) := by decide +kernel
theorem dX3_tellFine_44 : decode cX3_tellFine 44 = .ok (.lload 6, 2) := by decide +kernel
theorem dX3_tellFine_46 : decode cX3_tellFine 46 = .ok (.invokevirtual 172, 3) := by decide +kernel
theorem dX3_tellFine_49 : decode cX3_tellFine 49 = .ok (.aload_n 0, 1) := by decide +kernel
theorem dX3_tellFine_50 : decode cX3_tellFine 50 = .ok (.getfield 9, 3) := by decide +kernel
theorem dX3_tellFine_53 : decode cX3_tellFine 53 = .ok (.getfield 270, 3) := by decide +kernel
theorem dX3_tellFine_56 : decode cX3_tellFine 56 = .ok (.iload_n 1, 1) := by decide +kernel
theorem dX3_tellFine_57 : decode cX3_tellFine 57 = .ok (.invokevirtual 274, 3) := by decide +kernel
theorem dX3_tellFine_60 : decode cX3_tellFine 60 = .ok (.aload_n 0, 1) := by decide +kernel
theorem dX3_tellFine_61 : decode cX3_tellFine 61 = .ok (.getfield 9, 3) := by decide +kernel
theorem dX3_tellFine_64 : decode cX3_tellFine 64 = .ok (.getfield 270, 3) := by decide +kernel
theorem dX3_tellFine_67 : decode cX3_tellFine 67 = .ok (.iload_n 2, 1) := by decide +kernel
theorem dX3_tellFine_68 : decode cX3_tellFine 68 = .ok (.invokevirtual 274, 3) := by decide +kernel
theorem dX3_tellFine_71 : decode cX3_tellFine 71 = .ok (.iconst 1, 1) := by decide +kernel
theorem dX3_tellFine_72 : decode cX3_tellFine 72 = .ok (.ireturn, 1) := by decide +kernel
