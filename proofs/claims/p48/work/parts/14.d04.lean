theorem dX11_cycle_0 : decode cX11_cycle 0 = .ok (.aload_n 0, 1) := by decide +kernel
theorem dX11_cycle_1 : decode cX11_cycle 1 = .ok (.getfield 33, 3) := by decide +kernel
theorem dX11_cycle_4 : decode cX11_cycle 4 = .ok (.invokevirtual 261, 3) := by decide +kernel
theorem dX11_cycle_7 : decode cX11_cycle 7 = .ok (.aload_n 0, 1) := by decide +kernel
theorem dX11_cycle_8 : decode cX11_cycle 8 = .ok (.getfield 33, 3) := by decide +kernel
theorem dX11_cycle_11 : decode cX11_cycle 11 = .ok (.invokevirtual 264, 3) := by decide +kernel
theorem dX11_cycle_14 : decode cX11_cycle 14 = .ok (.pop2, 1) := by decide +kernel
theorem dX11_cycle_15 : decode cX11_cycle 15 = .ok (.aload_n 0, 1) := by decide +kernel
theorem dX11_cycle_16 : decode cX11_cycle 16 = .ok (.getfield 33, 3) := by decide +kernel
theorem dX11_cycle_19 : decode cX11_cycle 19 = .ok (.invokevirtual 268, 3) := by decide +kernel
theorem dX11_cycle_22 : decode cX11_cycle 22 = .ok (.aload_n 0, 1) := by decide +kernel
theorem dX11_cycle_23 : decode cX11_cycle 23 = .ok (.getfield 33, 3) := by decide +kernel
theorem dX11_cycle_26 : decode cX11_cycle 26 = .ok (.invokevirtual 272, 3) := by decide +kernel
theorem dX11_cycle_29 : decode cX11_cycle 29 = .ok (.iadd, 1) := by decide +kernel
theorem dX11_cycle_30 : decode cX11_cycle 30 = .ok (.istore_n 1, 1) := by decide +kernel
theorem dX11_cycle_31 : decode cX11_cycle 31 = .ok (.aload_n 0, 1) := by decide +kernel
theorem dX11_cycle_32 : decode cX11_cycle 32 = .ok (.getfield 33, 3) := by decide +kernel
theorem dX11_cycle_35 : decode cX11_cycle 35 = .ok (.invokevirtual 275, 3) := by decide +kernel
theorem dX11_cycle_38 : decode cX11_cycle 38 = .ok (.iload_n 1, 1) := by decide +kernel
theorem dX11_cycle_39 : decode cX11_cycle 39 = .ok (.ireturn, 1) := by decide +kernel
theorem dX11_best_0 : decode cX11_best 0 = .ok (.aload_n 0, 1) := by decide +kernel
theorem dX11_best_1 : decode cX11_best 1 = .ok (.getfield 33, 3) := by decide +kernel
theorem dX11_best_4 : decode cX11_best 4 = .ok (.invokevirtual 264, 3) := by decide +kernel
theorem dX11_best_7 : decode cX11_best 7 = .ok (.lreturn, 1) := by decide +kernel
theorem dX11_bestByAll_0 : decode cX11_bestByAll 0 = .ok (.aload_n 0, 1) := by decide +kernel
theorem dX11_bestByAll_1 : decode cX11_bestByAll 1 = .ok (.getfield 33, 3) := by decide +kernel
theorem dX11_bestByAll_4 : decode cX11_bestByAll 4 = .ok (.invokevirtual 278, 3) := by decide +kernel
theorem dX11_bestByAll_7 : decode cX11_bestByAll 7 = .ok (.lreturn, 1) := by decide +kernel
theorem dX11_endDay_0 : decode cX11_endDay 0 = .ok (.aload_n 0, 1) := by decide +kernel
theorem dX11_endDay_1 : decode cX11_endDay 1 = .ok (.getfield 21, 3) := by decide +kernel
theorem dX11_endDay_4 : decode cX11_endDay 4 = .ok (.getfield 150, 3) := by decide +kernel
theorem dX11_endDay_7 : decode cX11_endDay 7 = .ok (.sipush 2000, 3) := by decide +kernel
theorem dX11_endDay_10 : decode cX11_endDay 10 = .ok (.if_icmp .ge 7, 3) := by decide +kernel
theorem dX11_endDay_13 : decode cX11_endDay 13 = .ok (.iconst 1, 1) := by decide +kernel
theorem dX11_endDay_14 : decode cX11_endDay 14 = .ok (.goto 4, 3) := by decide +kernel
theorem dX11_endDay_17 : decode cX11_endDay 17 = .ok (.iconst 0, 1) := by decide +kernel
theorem dX11_endDay_18 : decode cX11_endDay 18 = .ok (.invokestatic 67, 3) := by decide +kernel
theorem dX11_endDay_21 : decode cX11_endDay 21 = .ok (.aload_n 0, 1) := by decide +kernel
theorem dX11_endDay_22 : decode cX11_endDay 22 = .ok (.getfield 40, 3) := by decide +kernel
theorem dX11_endDay_25 : decode cX11_endDay 25 = .ok (.invokevirtual 281, 3) := by decide +kernel
theorem dX11_endDay_28 : decode cX11_endDay 28 = .ok (.aload_n 0, 1) := by decide +kernel
theorem dX11_endDay_29 : decode cX11_endDay 29 = .ok (.getfield 40, 3) := by decide +kernel
theorem dX11_endDay_32 : decode cX11_endDay 32 = .ok (.invokevirtual 284, 3) := by decide +kernel
theorem dX11_endDay_35 : decode cX11_endDay 35 = .ok (.aload_n 0, 1) := by decide +kernel
theorem dX11_endDay_36 : decode cX11_endDay 36 = .ok (.getfield 40, 3) := by decide +kernel
theorem dX11_endDay_39 : decode cX11_endDay 39 = .ok (.invokevirtual 287, 3) := by decide +kernel
theorem dX11_endDay_42 : decode cX11_endDay 42 = .ok (.iadd, 1) := by decide +kernel
theorem dX11_endDay_43 : decode cX11_endDay 43 = .ok (.istore_n 1, 1) := by decide +kernel
theorem dX11_endDay_44 : decode cX11_endDay 44 = .ok (.aload_n 0, 1) := by decide +kernel
theorem dX11_endDay_45 : decode cX11_endDay 45 = .ok (.getfield 40, 3) := by decide +kernel
theorem dX11_endDay_48 : decode cX11_endDay 48 = .ok (.invokevirtual 290, 3) := by decide +kernel
theorem dX11_endDay_51 : decode cX11_endDay 51 = .ok (.aload_n 0, 1) := by decide +kernel
theorem dX11_endDay_52 : decode cX11_endDay 52 = .ok (.getfield 21, 3) := by decide +kernel
theorem dX11_endDay_55 : decode cX11_endDay 55 = .ok (.dup, 1) := by decide +kernel
theorem dX11_endDay_56 : decode cX11_endDay 56 = .ok (.getfield 150, 3) := by decide +kernel
theorem dX11_endDay_59 : decode cX11_endDay 59 = .ok (.iconst 1, 1) := by decide +kernel
theorem dX11_endDay_60 : decode cX11_endDay 60 = .ok (.iadd, 1) := by decide +kernel
theorem dX11_endDay_61 : decode cX11_endDay 61 = .ok (.putfield 150, 3) := by decide +kernel
theorem dX11_endDay_64 : decode cX11_endDay 64 = .ok (.iload_n 1, 1) := by decide +kernel
theorem dX11_endDay_65 : decode cX11_endDay 65 = .ok (.ireturn, 1) := by decide +kernel
theorem dX11_today_0 : decode cX11_today 0 = .ok (.aload_n 0, 1) := by decide +kernel
theorem dX11_today_1 : decode cX11_today 1 = .ok (.getfield 21, 3) := by decide +kernel
theorem dX11_today_4 : decode cX11_today 4 = .ok (.getfield 150, 3) := by decide +kernel
theorem dX11_today_7 : decode cX11_today 7 = .ok (.ireturn, 1) := by decide +kernel
theorem dX11_recall_0 : decode cX11_recall 0 = .ok (.aload_n 0, 1) := by decide +kernel
theorem dX11_recall_1 : decode cX11_recall 1 = .ok (.iload_n 1, 1) := by decide +kernel
theorem dX11_recall_2 : decode cX11_recall 2 = .ok (.invokevirtual 293, 3) := by decide +kernel
theorem dX11_recall_5 : decode cX11_recall 5 = .ok (.aload_n 0, 1) := by decide +kernel
theorem dX11_recall_6 : decode cX11_recall 6 = .ok (.getfield 21, 3) := by decide +kernel
theorem dX11_recall_9 : decode cX11_recall 9 = .ok (.iload_n 1, 1) := by decide +kernel
theorem dX11_recall_10 : decode cX11_recall 10 = .ok (.invokevirtual 296, 3) := by decide +kernel
theorem dX11_recall_13 : decode cX11_recall 13 = .ok (.astore_n 2, 1) := by decide +kernel
theorem dX11_recall_14 : decode cX11_recall 14 = .ok (.aload_n 2, 1) := by decide +kernel
theorem dX11_recall_15 : decode cX11_recall 15 = .ok (.getfield 300, 3) := by decide +kernel
theorem dX11_recall_18 : decode cX11_recall 18 = .ok (.ifCond .ne 14, 3) := by decide +kernel
theorem dX11_recall_21 : decode cX11_recall 21 = .ok (.aload_n 2, 1) := by decide +kernel
theorem dX11_recall_22 : decode cX11_recall 22 = .ok (.getfield 305, 3) := by decide +kernel
theorem dX11_recall_25 : decode cX11_recall 25 = .ok (.ifCond .ne 7, 3) := by decide +kernel
theorem dX11_recall_28 : decode cX11_recall 28 = .ok (.iconst 1, 1) := by decide +kernel
theorem dX11_recall_29 : decode cX11_recall 29 = .ok (.goto 4, 3) := by decide +kernel
theorem dX11_recall_32 : decode cX11_recall 32 = .ok (.iconst 0, 1) := by decide +kernel
theorem dX11_recall_33 : decode cX11_recall 33 = .ok (.invokestatic 67, 3) := by decide +kernel
theorem dX11_recall_36 : decode cX11_recall 36 = .ok (.aload_n 2, 1) := by decide +kernel
theorem dX11_recall_37 : decode cX11_recall 37 = .ok (.iconst 1, 1) := by decide +kernel
theorem dX11_recall_38 : decode cX11_recall 38 = .ok (.putfield 305, 3) := by decide +kernel
theorem dX11_recall_41 : decode cX11_recall 41 = .ok (.aload_n 2, 1) := by decide +kernel
theorem dX11_recall_42 : decode cX11_recall 42 = .ok (.getfield 308, 3) := by decide +kernel
theorem dX11_recall_45 : decode cX11_recall 45 = .ok (.lreturn, 1) := by decide +kernel
theorem dX11_keep_0 : decode cX11_keep 0 = .ok (.aload_n 0, 1) := by decide +kernel
theorem dX11_keep_1 : decode cX11_keep 1 = .ok (.getfield 25, 3) := by decide +kernel
theorem dX11_keep_4 : decode cX11_keep 4 = .ok (.aload_n 0, 1) := by decide +kernel
theorem dX11_keep_5 : decode cX11_keep 5 = .ok (.getfield 21, 3) := by decide +kernel
theorem dX11_keep_8 : decode cX11_keep 8 = .ok (.invokevirtual 310, 3) := by decide +kernel
theorem dX11_keep_11 : decode cX11_keep 11 = .ok (.aload_n 0, 1) := by decide +kernel
theorem dX11_keep_12 : decode cX11_keep 12 = .ok (.iconst 1, 1) := by decide +kernel
theorem dX11_keep_13 : decode cX11_keep 13 = .ok (.putfield 44, 3) := by decide +kernel
theorem dX11_keep_16 : decode cX11_keep 16 = .ok (.aload_n 0, 1) := by decide +kernel
theorem dX11_keep_17 : decode cX11_keep 17 = .ok (.getfield 21, 3) := by decide +kernel
theorem dX11_keep_20 : decode cX11_keep 20 = .ok (.getfield 150, 3) := by decide +kernel
theorem dX11_keep_23 : decode cX11_keep 23 = .ok (.ireturn, 1) := by decide +kernel
theorem dX11_goBack_0 : decode cX11_goBack 0 = .ok (.aload_n 0, 1) := by decide +kernel
theorem dX11_goBack_1 : decode cX11_goBack 1 = .ok (.getfield 44, 3) := by decide +kernel
theorem dX11_goBack_4 : decode cX11_goBack 4 = .ok (.invokestatic 67, 3) := by decide +kernel
theorem dX11_goBack_7 : decode cX11_goBack 7 = .ok (.aload_n 0, 1) := by decide +kernel
theorem dX11_goBack_8 : decode cX11_goBack 8 = .ok (.getfield 21, 3) := by decide +kernel
theorem dX11_goBack_11 : decode cX11_goBack 11 = .ok (.aload_n 0, 1) := by decide +kernel
theorem dX11_goBack_12 : decode cX11_goBack 12 = .ok (.getfield 25, 3) := by decide +kernel
theorem dX11_goBack_15 : decode cX11_goBack 15 = .ok (.invokevirtual 310, 3) := by decide +kernel
theorem dX11_goBack_18 : decode cX11_goBack 18 = .ok (.aload_n 0, 1) := by decide +kernel
theorem dX11_goBack_19 : decode cX11_goBack 19 = .ok (.getfield 21, 3) := by decide +kernel
theorem dX11_goBack_22 : decode cX11_goBack 22 = .ok (.getfield 150, 3) := by decide +kernel
theorem dX11_goBack_25 : decode cX11_goBack 25 = .ok (.ireturn, 1) := by decide +kernel
theorem dX11_announce_0 : decode cX11_announce 0 = .ok (.aload_n 0, 1) := by decide +kernel
theorem dX11_announce_1 : decode cX11_announce 1 = .ok (.iload_n 2, 1) := by decide +kernel
theorem dX11_announce_2 : decode cX11_announce 2 = .ok (.invokevirtual 127, 3) := by decide +kernel
theorem dX11_announce_5 : decode cX11_announce 5 = .ok (.iload_n 1, 1) := by decide +kernel
theorem dX11_announce_6 : decode cX11_announce 6 = .ok (.iconst 0, 1) := by decide +kernel
theorem dX11_announce_7 : decode cX11_announce 7 = .ok (.iconst 2, 1) := by decide +kernel
theorem dX11_announce_8 : decode cX11_announce 8 = .ok (.invokestatic 52, 3) := by decide +kernel
theorem dX11_announce_11 : decode cX11_announce 11 = .ok (.iload_n 3, 1) := by decide +kernel
theorem dX11_announce_12 : decode cX11_announce 12 = .ok (.iconst 1, 1) := by decide +kernel
theorem dX11_announce_13 : decode cX11_announce 13 = .ok (.iload_n 1, 1) := by decide +kernel
theorem dX11_announce_14 : decode cX11_announce 14 = .ok (.iconst 1, 1) := by decide +kernel
theorem dX11_announce_15 : decode cX11_announce 15 = .ok (.if_icmp .ne 7, 3) := by decide +kernel
theorem dX11_announce_18 : decode cX11_announce 18 = .ok (.iconst 3, 1) := by decide +kernel
theorem dX11_announce_19 : decode cX11_announce 19 = .ok (.goto 6, 3) := by decide +kernel
theorem dX11_announce_22 : decode cX11_announce 22 = .ok (.sipush 1000, 3) := by decide +kernel
theorem dX11_announce_25 : decode cX11_announce 25 = .ok (.invokestatic 52, 3) := by decide +kernel
theorem dX11_announce_28 : decode cX11_announce 28 = .ok (.iload_n 1, 1) := by decide +kernel
theorem dX11_announce_29 : decode cX11_announce 29 = .ok (.ifCond .eq 20, 3) := by decide +kernel
theorem dX11_announce_32 : decode cX11_announce 32 = .ok (.iload 4, 2) := by decide +kernel
theorem dX11_announce_34 : decode cX11_announce 34 = .ok (.iconst 1, 1) := by decide +kernel
theorem dX11_announce_35 : decode cX11_announce 35 = .ok (.iload_n 1, 1) := by decide +kernel
theorem dX11_announce_36 : decode cX11_announce 36 = .ok (.iconst 1, 1) := by decide +kernel
theorem dX11_announce_37 : decode cX11_announce 37 = .ok (.if_icmp .ne 7, 3) := by decide +kernel
theorem dX11_announce_40 : decode cX11_announce 40 = .ok (.iconst 3, 1) := by decide +kernel
theorem dX11_announce_41 : decode cX11_announce 41 = .ok (.goto 5, 3) := by decide +kernel
theorem dX11_announce_44 : decode cX11_announce 44 = .ok (.bipush 10, 2) := by decide +kernel
theorem dX11_announce_46 : decode cX11_announce 46 = .ok (.invokestatic 52, 3) := by decide +kernel
theorem dX11_announce_49 : decode cX11_announce 49 = .ok (.iload_n 1, 1) := by decide +kernel
theorem dX11_announce_50 : decode cX11_announce 50 = .ok (.iconst 2, 1) := by decide +kernel
theorem dX11_announce_51 : decode cX11_announce 51 = .ok (.if_icmp .ne 11, 3) := by decide +kernel
theorem dX11_announce_54 : decode cX11_announce 54 = .ok (.iload 5, 2) := by decide +kernel
theorem dX11_announce_56 : decode cX11_announce 56 = .ok (.iconst 0, 1) := by decide +kernel
theorem dX11_announce_57 : decode cX11_announce 57 = .ok (.ldc 100, 2) := by decide +kernel
theorem dX11_announce_59 : decode cX11_announce 59 = .ok (.invokestatic 52, 3) := by decide +kernel
theorem dX11_announce_62 : decode cX11_announce 62 = .ok (.iload 6, 2) := by decide +kernel
theorem dX11_announce_64 : decode cX11_announce 64 = .ok (.aload_n 0, 1) := by decide +kernel
theorem dX11_announce_65 : decode cX11_announce 65 = .ok (.getfield 21, 3) := by decide +kernel
theorem dX11_announce_68 : decode cX11_announce 68 = .ok (.getfield 150, 3) := by decide +kernel
theorem dX11_announce_71 : decode cX11_announce 71 = .ok (.sipush 2000, 3) := by decide +kernel
theorem dX11_announce_74 : decode cX11_announce 74 = .ok (.invokestatic 52, 3) := by decide +kernel
theorem dX11_announce_77 : decode cX11_announce 77 = .ok (.iload 7, 2) := by decide +kernel
theorem dX11_announce_79 : decode cX11_announce 79 = .ok (.iload 6, 2) := by decide +kernel
theorem dX11_announce_81 : decode cX11_announce 81 = .ok (.sipush 2000, 3) := by decide +kernel
theorem dX11_announce_84 : decode cX11_announce 84 = .ok (.invokestatic 52, 3) := by decide +kernel
theorem dX11_announce_87 : decode cX11_announce 87 = .ok (.aload_n 0, 1) := by decide +kernel
theorem dX11_announce_88 : decode cX11_announce 88 = .ok (.getfield 21, 3) := by decide +kernel
theorem dX11_announce_91 : decode cX11_announce 91 = .ok (.getfield 313, 3) := by decide +kernel
theorem dX11_announce_94 : decode cX11_announce 94 = .ok (.bipush 10, 2) := by decide +kernel
theorem dX11_announce_96 : decode cX11_announce 96 = .ok (.if_icmp .ge 7, 3) := by decide +kernel
theorem dX11_announce_99 : decode cX11_announce 99 = .ok (.iconst 1, 1) := by decide +kernel
theorem dX11_announce_100 : decode cX11_announce 100 = .ok (.goto 4, 3) := by decide +kernel
theorem dX11_announce_103 : decode cX11_announce 103 = .ok (.iconst 0, 1) := by decide +kernel
theorem dX11_announce_104 : decode cX11_announce 104 = .ok (.invokestatic 67, 3) := by decide +kernel
theorem dX11_announce_107 : decode cX11_announce 107 = .ok (.aload_n 0, 1) := by decide +kernel
theorem dX11_announce_108 : decode cX11_announce 108 = .ok (.getfield 21, 3) := by decide +kernel
theorem dX11_announce_111 : decode cX11_announce 111 = .ok (.getfield 313, 3) := by decide +kernel
theorem dX11_announce_114 : decode cX11_announce 114 = .ok (.istore 8, 2) := by decide +kernel
theorem dX11_announce_116 : decode cX11_announce 116 = .ok (.aload_n 0, 1) := by decide +kernel
theorem dX11_announce_117 : decode cX11_announce 117 = .ok (.getfield 21, 3) := by decide +kernel
theorem dX11_announce_120 : decode cX11_announce 120 = .ok (.iload 8, 2) := by decide +kernel
theorem dX11_announce_122 : decode cX11_announce 122 = .ok (.invokevirtual 316, 3) := by decide +kernel
theorem dX11_announce_125 : decode cX11_announce 125 = .ok (.astore 9, 2) := by decide +kernel
theorem dX11_announce_127 : decode cX11_announce 127 = .ok (.aload 9, 2) := by decide +kernel
theorem dX11_announce_129 : decode cX11_announce 129 = .ok (.iload_n 1, 1) := by decide +kernel
theorem dX11_announce_130 : decode cX11_announce 130 = .ok (.putfield 320, 3) := by decide +kernel
theorem dX11_announce_133 : decode cX11_announce 133 = .ok (.aload 9, 2) := by decide +kernel
theorem dX11_announce_135 : decode cX11_announce 135 = .ok (.iload_n 2, 1) := by decide +kernel
theorem dX11_announce_136 : decode cX11_announce 136 = .ok (.putfield 325, 3) := by decide +kernel
theorem dX11_announce_139 : decode cX11_announce 139 = .ok (.aload 9, 2) := by decide +kernel
theorem dX11_announce_141 : decode cX11_announce 141 = .ok (.iload_n 3, 1) := by decide +kernel
theorem dX11_announce_142 : decode cX11_announce 142 = .ok (.putfield 326, 3) := by decide +kernel
theorem dX11_announce_145 : decode cX11_announce 145 = .ok (.aload 9, 2) := by decide +kernel
theorem dX11_announce_147 : decode cX11_announce 147 = .ok (.iload 4, 2) := by decide +kernel
theorem dX11_announce_149 : decode cX11_announce 149 = .ok (.putfield 329, 3) := by decide +kernel
theorem dX11_announce_152 : decode cX11_announce 152 = .ok (.aload 9, 2) := by decide +kernel
theorem dX11_announce_154 : decode cX11_announce 154 = .ok (.iload 5, 2) := by decide +kernel
theorem dX11_announce_156 : decode cX11_announce 156 = .ok (.putfield 332, 3) := by decide +kernel
theorem dX11_announce_159 : decode cX11_announce 159 = .ok (.aload 9, 2) := by decide +kernel
theorem dX11_announce_161 : decode cX11_announce 161 = .ok (.iload 6, 2) := by decide +kernel
theorem dX11_announce_163 : decode cX11_announce 163 = .ok (.putfield 335, 3) := by decide +kernel
theorem dX11_announce_166 : decode cX11_announce 166 = .ok (.aload 9, 2) := by decide +kernel
theorem dX11_announce_168 : decode cX11_announce 168 = .ok (.iload 7, 2) := by decide +kernel
theorem dX11_announce_170 : decode cX11_announce 170 = .ok (.putfield 338, 3) := by decide +kernel
theorem dX11_announce_173 : decode cX11_announce 173 = .ok (.aload_n 0, 1) := by decide +kernel
theorem dX11_announce_174 : decode cX11_announce 174 = .ok (.getfield 21, 3) := by decide +kernel
theorem dX11_announce_177 : decode cX11_announce 177 = .ok (.iload 8, 2) := by decide +kernel
theorem dX11_announce_179 : decode cX11_announce 179 = .ok (.iconst 1, 1) := by decide +kernel
theorem dX11_announce_180 : decode cX11_announce 180 = .ok (.iadd, 1) := by decide +kernel
theorem dX11_announce_181 : decode cX11_announce 181 = .ok (.putfield 313, 3) := by decide +kernel
theorem dX11_announce_184 : decode cX11_announce 184 = .ok (.iload 8, 2) := by decide +kernel
theorem dX11_announce_186 : decode cX11_announce 186 = .ok (.ireturn, 1) := by decide +kernel
theorem dX11_units_0 : decode cX11_units 0 = .ok (.aload_n 0, 1) := by decide +kernel
theorem dX11_units_1 : decode cX11_units 1 = .ok (.iload_n 1, 1) := by decide +kernel
theorem dX11_units_2 : decode cX11_units 2 = .ok (.invokevirtual 48, 3) := by decide +kernel
theorem dX11_units_5 : decode cX11_units 5 = .ok (.aload_n 0, 1) := by decide +kernel
theorem dX11_units_6 : decode cX11_units 6 = .ok (.iload_n 2, 1) := by decide +kernel
theorem dX11_units_7 : decode cX11_units 7 = .ok (.invokevirtual 127, 3) := by decide +kernel
theorem dX11_units_10 : decode cX11_units 10 = .ok (.aload_n 0, 1) := by decide +kernel
theorem dX11_units_11 : decode cX11_units 11 = .ok (.getfield 21, 3) := by decide +kernel
theorem dX11_units_14 : decode cX11_units 14 = .ok (.iload_n 1, 1) := by decide +kernel
theorem dX11_units_15 : decode cX11_units 15 = .ok (.invokevirtual 57, 3) := by decide +kernel
theorem dX11_units_18 : decode cX11_units 18 = .ok (.iload_n 2, 1) := by decide +kernel
theorem dX11_units_19 : decode cX11_units 19 = .ok (.invokevirtual 133, 3) := by decide +kernel
theorem dX11_units_22 : decode cX11_units 22 = .ok (.lreturn, 1) := by decide +kernel
theorem dX11_free_0 : decode cX11_free 0 = .ok (.aload_n 0, 1) := by decide +kernel
theorem dX11_free_1 : decode cX11_free 1 = .ok (.iload_n 1, 1) := by decide +kernel
theorem dX11_free_2 : decode cX11_free 2 = .ok (.invokevirtual 48, 3) := by decide +kernel
theorem dX11_free_5 : decode cX11_free 5 = .ok (.aload_n 0, 1) := by decide +kernel
theorem dX11_free_6 : decode cX11_free 6 = .ok (.iload_n 2, 1) := by decide +kernel
theorem dX11_free_7 : decode cX11_free 7 = .ok (.invokevirtual 127, 3) := by decide +kernel
theorem dX11_free_10 : decode cX11_free 10 = .ok (.aload_n 0, 1) := by decide +kernel
theorem dX11_free_11 : decode cX11_free 11 = .ok (.getfield 21, 3) := by decide +kernel
theorem dX11_free_14 : decode cX11_free 14 = .ok (.iload_n 1, 1) := by decide +kernel
theorem dX11_free_15 : decode cX11_free 15 = .ok (.invokevirtual 57, 3) := by decide +kernel
theorem dX11_free_18 : decode cX11_free 18 = .ok (.iload_n 2, 1) := by decide +kernel
theorem dX11_free_19 : decode cX11_free 19 = .ok (.invokevirtual 366, 3) := by decide +kernel
theorem dX11_free_22 : decode cX11_free 22 = .ok (.lreturn, 1) := by decide +kernel
theorem dX11_out_0 : decode cX11_out 0 = .ok (.aload_n 0, 1) := by decide +kernel
theorem dX11_out_1 : decode cX11_out 1 = .ok (.iload_n 1, 1) := by decide +kernel
theorem dX11_out_2 : decode cX11_out 2 = .ok (.invokevirtual 127, 3) := by decide +kernel
theorem dX11_out_5 : decode cX11_out 5 = .ok (.aload_n 0, 1) := by decide +kernel
theorem dX11_out_6 : decode cX11_out 6 = .ok (.getfield 21, 3) := by decide +kernel
theorem dX11_out_9 : decode cX11_out 9 = .ok (.iload_n 1, 1) := by decide +kernel
theorem dX11_out_10 : decode cX11_out 10 = .ok (.invokevirtual 104, 3) := by decide +kernel
theorem dX11_out_13 : decode cX11_out 13 = .ok (.getfield 117, 3) := by decide +kernel
theorem dX11_out_16 : decode cX11_out 16 = .ok (.lreturn, 1) := by decide +kernel
theorem dX11_cash_0 : decode cX11_cash 0 = .ok (.aload_n 0, 1) := by decide +kernel
theorem dX11_cash_1 : decode cX11_cash 1 = .ok (.iload_n 1, 1) := by decide +kernel
theorem dX11_cash_2 : decode cX11_cash 2 = .ok (.invokevirtual 48, 3) := by decide +kernel
theorem dX11_cash_5 : decode cX11_cash 5 = .ok (.aload_n 0, 1) := by decide +kernel
theorem dX11_cash_6 : decode cX11_cash 6 = .ok (.getfield 21, 3) := by decide +kernel
theorem dX11_cash_9 : decode cX11_cash 9 = .ok (.iload_n 1, 1) := by decide +kernel
theorem dX11_cash_10 : decode cX11_cash 10 = .ok (.invokevirtual 57, 3) := by decide +kernel
theorem dX11_cash_13 : decode cX11_cash 13 = .ok (.getfield 80, 3) := by decide +kernel
theorem dX11_cash_16 : decode cX11_cash 16 = .ok (.lreturn, 1) := by decide +kernel
theorem dX11_pledged_0 : decode cX11_pledged 0 = .ok (.aload_n 0, 1) := by decide +kernel
theorem dX11_pledged_1 : decode cX11_pledged 1 = .ok (.iload_n 1, 1) := by decide +kernel
theorem dX11_pledged_2 : decode cX11_pledged 2 = .ok (.invokevirtual 48, 3) := by decide +kernel
theorem dX11_pledged_5 : decode cX11_pledged 5 = .ok (.aload_n 0, 1) := by decide +kernel
theorem dX11_pledged_6 : decode cX11_pledged 6 = .ok (.getfield 21, 3) := by decide +kernel
theorem dX11_pledged_9 : decode cX11_pledged 9 = .ok (.iload_n 1, 1) := by decide +kernel
theorem dX11_pledged_10 : decode cX11_pledged 10 = .ok (.invokevirtual 57, 3) := by decide +kernel
theorem dX11_pledged_13 : decode cX11_pledged 13 = .ok (.getfield 369, 3) := by decide +kernel
theorem dX11_pledged_16 : decode cX11_pledged 16 = .ok (.lreturn, 1) := by decide +kernel
theorem dX11_limit_0 : decode cX11_limit 0 = .ok (.aload_n 0, 1) := by decide +kernel
theorem dX11_limit_1 : decode cX11_limit 1 = .ok (.iload_n 1, 1) := by decide +kernel
theorem dX11_limit_2 : decode cX11_limit 2 = .ok (.invokevirtual 48, 3) := by decide +kernel
theorem dX11_limit_5 : decode cX11_limit 5 = .ok (.aload_n 0, 1) := by decide +kernel
theorem dX11_limit_6 : decode cX11_limit 6 = .ok (.getfield 21, 3) := by decide +kernel
theorem dX11_limit_9 : decode cX11_limit 9 = .ok (.aload_n 0, 1) := by decide +kernel
theorem dX11_limit_10 : decode cX11_limit 10 = .ok (.getfield 21, 3) := by decide +kernel
theorem dX11_limit_13 : decode cX11_limit 13 = .ok (.iload_n 1, 1) := by decide +kernel
theorem dX11_limit_14 : decode cX11_limit 14 = .ok (.invokevirtual 57, 3) := by decide +kernel
theorem dX11_limit_17 : decode cX11_limit 17 = .ok (.invokevirtual 372, 3) := by decide +kernel
theorem dX11_limit_20 : decode cX11_limit 20 = .ok (.lreturn, 1) := by decide +kernel
theorem dX11_isSound_0 : decode cX11_isSound 0 = .ok (.aload_n 0, 1) := by decide +kernel
theorem dX11_isSound_1 : decode cX11_isSound 1 = .ok (.iload_n 1, 1) := by decide +kernel
theorem dX11_isSound_2 : decode cX11_isSound 2 = .ok (.invokevirtual 48, 3) := by decide +kernel
theorem dX11_isSound_5 : decode cX11_isSound 5 = .ok (.aload_n 0, 1) := by decide +kernel
theorem dX11_isSound_6 : decode cX11_isSound 6 = .ok (.getfield 21, 3) := by decide +kernel
theorem dX11_isSound_9 : decode cX11_isSound 9 = .ok (.iload_n 1, 1) := by decide +kernel
theorem dX11_isSound_10 : decode cX11_isSound 10 = .ok (.invokevirtual 145, 3) := by decide +kernel
theorem dX11_isSound_13 : decode cX11_isSound 13 = .ok (.ireturn, 1) := by decide +kernel
theorem dX11_used_0 : decode cX11_used 0 = .ok (.aload_n 0, 1) := by decide +kernel
theorem dX11_used_1 : decode cX11_used 1 = .ok (.iload_n 1, 1) := by decide +kernel
theorem dX11_used_2 : decode cX11_used 2 = .ok (.invokevirtual 48, 3) := by decide +kernel
theorem dX11_used_5 : decode cX11_used 5 = .ok (.aload_n 0, 1) := by decide +kernel
theorem dX11_used_6 : decode cX11_used 6 = .ok (.getfield 21, 3) := by decide +kernel
theorem dX11_used_9 : decode cX11_used 9 = .ok (.iload_n 1, 1) := by decide +kernel
theorem dX11_used_10 : decode cX11_used 10 = .ok (.invokevirtual 57, 3) := by decide +kernel
theorem dX11_used_13 : decode cX11_used 13 = .ok (.astore_n 2, 1) := by decide +kernel
theorem dX11_used_14 : decode cX11_used 14 = .ok (.aload_n 2, 1) := by decide +kernel
theorem dX11_used_15 : decode cX11_used 15 = .ok (.invokevirtual 376, 3) := by decide +kernel
theorem dX11_used_18 : decode cX11_used 18 = .ok (.lstore_n 3, 1) := by decide +kernel
theorem dX11_used_19 : decode cX11_used 19 = .ok (.lload_n 3, 1) := by decide +kernel
theorem dX11_used_20 : decode cX11_used 20 = .ok (.lconst 0, 1) := by decide +kernel
theorem dX11_used_21 : decode cX11_used 21 = .ok (.lcmp, 1) := by decide +kernel
theorem dX11_used_22 : decode cX11_used 22 = .ok (.ifCond .lt 5, 3) := by decide +kernel
theorem dX11_used_25 : decode cX11_used 25 = .ok (.dconst 0, 1) := by decide +kernel
theorem dX11_used_26 : decode cX11_used 26 = .ok (.dreturn, 1) := by decide +kernel
theorem dX11_used_27 : decode cX11_used 27 = .ok (.aload_n 0, 1) := by decide +kernel
theorem dX11_used_28 : decode cX11_used 28 = .ok (.getfield 21, 3) := by decide +kernel
theorem dX11_used_31 : decode cX11_used 31 = .ok (.aload_n 2, 1) := by decide +kernel
theorem dX11_used_32 : decode cX11_used 32 = .ok (.invokevirtual 372, 3) := by decide +kernel
theorem dX11_used_35 : decode cX11_used 35 = .ok (.lstore 5, 2) := by decide +kernel
theorem dX11_used_37 : decode cX11_used 37 = .ok (.lload 5, 2) := by decide +kernel
theorem dX11_used_39 : decode cX11_used 39 = .ok (.lconst 0, 1) := by decide +kernel
theorem dX11_used_40 : decode cX11_used 40 = .ok (.lcmp, 1) := by decide +kernel
theorem dX11_used_41 : decode cX11_used 41 = .ok (.ifCond .ne 14, 3) := by decide +kernel
theorem dX11_used_44 : decode cX11_used 44 = .ok (.ldc2_w 379, 3) := by decide +kernel
theorem dX11_used_47 : decode cX11_used 47 = .ok (.dstore 7, 2) := by decide +kernel
theorem dX11_used_49 : decode cX11_used 49 = .ok (.dload 7, 2) := by decide +kernel
theorem dX11_used_51 : decode cX11_used 51 = .ok (.dload 7, 2) := by decide +kernel
theorem dX11_used_53 : decode cX11_used 53 = .ok (.dmul, 1) := by decide +kernel
theorem dX11_used_54 : decode cX11_used 54 = .ok (.dreturn, 1) := by decide +kernel
theorem dX11_used_55 : decode cX11_used 55 = .ok (.lload_n 3, 1) := by decide +kernel
theorem dX11_used_56 : decode cX11_used 56 = .ok (.lneg, 1) := by decide +kernel
theorem dX11_used_57 : decode cX11_used 57 = .ok (.l2d, 1) := by decide +kernel
theorem dX11_used_58 : decode cX11_used 58 = .ok (.lload 5, 2) := by decide +kernel
theorem dX11_used_60 : decode cX11_used 60 = .ok (.l2d, 1) := by decide +kernel
theorem dX11_used_61 : decode cX11_used 61 = .ok (.ddiv, 1) := by decide +kernel
theorem dX11_used_62 : decode cX11_used 62 = .ok (.dreturn, 1) := by decide +kernel
theorem dX11_ledger_0 : decode cX11_ledger 0 = .ok (.aload_n 0, 1) := by decide +kernel
theorem dX11_ledger_1 : decode cX11_ledger 1 = .ok (.iload_n 1, 1) := by decide +kernel
theorem dX11_ledger_2 : decode cX11_ledger 2 = .ok (.invokevirtual 48, 3) := by decide +kernel
theorem dX11_ledger_5 : decode cX11_ledger 5 = .ok (.aload_n 0, 1) := by decide +kernel
theorem dX11_ledger_6 : decode cX11_ledger 6 = .ok (.getfield 21, 3) := by decide +kernel
theorem dX11_ledger_9 : decode cX11_ledger 9 = .ok (.iload_n 1, 1) := by decide +kernel
theorem dX11_ledger_10 : decode cX11_ledger 10 = .ok (.invokevirtual 57, 3) := by decide +kernel
theorem dX11_ledger_13 : decode cX11_ledger 13 = .ok (.getfield 381, 3) := by decide +kernel
theorem dX11_ledger_16 : decode cX11_ledger 16 = .ok (.lreturn, 1) := by decide +kernel
theorem dX11_status_0 : decode cX11_status 0 = .ok (.aload_n 0, 1) := by decide +kernel
theorem dX11_status_1 : decode cX11_status 1 = .ok (.iload_n 1, 1) := by decide +kernel
theorem dX11_status_2 : decode cX11_status 2 = .ok (.invokevirtual 197, 3) := by decide +kernel
theorem dX11_status_5 : decode cX11_status 5 = .ok (.aload_n 0, 1) := by decide +kernel
theorem dX11_status_6 : decode cX11_status 6 = .ok (.getfield 21, 3) := by decide +kernel
theorem dX11_status_9 : decode cX11_status 9 = .ok (.iload_n 1, 1) := by decide +kernel
theorem dX11_status_10 : decode cX11_status 10 = .ok (.invokevirtual 156, 3) := by decide +kernel
theorem dX11_status_13 : decode cX11_status 13 = .ok (.getfield 200, 3) := by decide +kernel
theorem dX11_status_16 : decode cX11_status 16 = .ok (.ireturn, 1) := by decide +kernel
theorem dX11_tradeOf_0 : decode cX11_tradeOf 0 = .ok (.aload_n 0, 1) := by decide +kernel
theorem dX11_tradeOf_1 : decode cX11_tradeOf 1 = .ok (.iload_n 1, 1) := by decide +kernel
theorem dX11_tradeOf_2 : decode cX11_tradeOf 2 = .ok (.invokevirtual 197, 3) := by decide +kernel
theorem dX11_tradeOf_5 : decode cX11_tradeOf 5 = .ok (.aload_n 0, 1) := by decide +kernel
theorem dX11_tradeOf_6 : decode cX11_tradeOf 6 = .ok (.getfield 21, 3) := by decide +kernel
theorem dX11_tradeOf_9 : decode cX11_tradeOf 9 = .ok (.iload_n 1, 1) := by decide +kernel
theorem dX11_tradeOf_10 : decode cX11_tradeOf 10 = .ok (.invokevirtual 156, 3) := by decide +kernel
theorem dX11_tradeOf_13 : decode cX11_tradeOf 13 = .ok (.getfield 214, 3) := by decide +kernel
theorem dX11_tradeOf_16 : decode cX11_tradeOf 16 = .ok (.ireturn, 1) := by decide +kernel
theorem dX11_tradeUnits_0 : decode cX11_tradeUnits 0 = .ok (.aload_n 0, 1) := by decide +kernel
theorem dX11_tradeUnits_1 : decode cX11_tradeUnits 1 = .ok (.iload_n 1, 1) := by decide +kernel
theorem dX11_tradeUnits_2 : decode cX11_tradeUnits 2 = .ok (.invokevirtual 235, 3) := by decide +kernel
theorem dX11_tradeUnits_5 : decode cX11_tradeUnits 5 = .ok (.aload_n 0, 1) := by decide +kernel
theorem dX11_tradeUnits_6 : decode cX11_tradeUnits 6 = .ok (.getfield 21, 3) := by decide +kernel
theorem dX11_tradeUnits_9 : decode cX11_tradeUnits 9 = .ok (.iload_n 1, 1) := by decide +kernel
theorem dX11_tradeUnits_10 : decode cX11_tradeUnits 10 = .ok (.invokevirtual 217, 3) := by decide +kernel
theorem dX11_tradeUnits_13 : decode cX11_tradeUnits 13 = .ok (.getfield 388, 3) := by decide +kernel
theorem dX11_tradeUnits_16 : decode cX11_tradeUnits 16 = .ok (.lreturn, 1) := by decide +kernel
theorem dX11_tradeAmount_0 : decode cX11_tradeAmount 0 = .ok (.aload_n 0, 1) := by decide +kernel
theorem dX11_tradeAmount_1 : decode cX11_tradeAmount 1 = .ok (.iload_n 1, 1) := by decide +kernel
theorem dX11_tradeAmount_2 : decode cX11_tradeAmount 2 = .ok (.invokevirtual 235, 3) := by decide +kernel
theorem dX11_tradeAmount_5 : decode cX11_tradeAmount 5 = .ok (.aload_n 0, 1) := by decide +kernel
theorem dX11_tradeAmount_6 : decode cX11_tradeAmount 6 = .ok (.getfield 21, 3) := by decide +kernel
theorem dX11_tradeAmount_9 : decode cX11_tradeAmount 9 = .ok (.iload_n 1, 1) := by decide +kernel
theorem dX11_tradeAmount_10 : decode cX11_tradeAmount 10 = .ok (.invokevirtual 217, 3) := by decide +kernel
theorem dX11_tradeAmount_13 : decode cX11_tradeAmount 13 = .ok (.getfield 389, 3) := by decide +kernel
theorem dX11_tradeAmount_16 : decode cX11_tradeAmount 16 = .ok (.lreturn, 1) := by decide +kernel
theorem dX11_causer_0 : decode cX11_causer 0 = .ok (.aload_n 0, 1) := by decide +kernel
theorem dX11_causer_1 : decode cX11_causer 1 = .ok (.iload_n 1, 1) := by decide +kernel
theorem dX11_causer_2 : decode cX11_causer 2 = .ok (.invokevirtual 235, 3) := by decide +kernel
theorem dX11_causer_5 : decode cX11_causer 5 = .ok (.aload_n 0, 1) := by decide +kernel
theorem dX11_causer_6 : decode cX11_causer 6 = .ok (.getfield 21, 3) := by decide +kernel
theorem dX11_causer_9 : decode cX11_causer 9 = .ok (.iload_n 1, 1) := by decide +kernel
theorem dX11_causer_10 : decode cX11_causer 10 = .ok (.invokevirtual 217, 3) := by decide +kernel
theorem dX11_causer_13 : decode cX11_causer 13 = .ok (.astore_n 2, 1) := by decide +kernel
theorem dX11_causer_14 : decode cX11_causer 14 = .ok (.aload_n 0, 1) := by decide +kernel
theorem dX11_causer_15 : decode cX11_causer 15 = .ok (.getfield 21, 3) := by decide +kernel
theorem dX11_causer_18 : decode cX11_causer 18 = .ok (.aload_n 2, 1) := by decide +kernel
theorem dX11_causer_19 : decode cX11_causer 19 = .ok (.invokevirtual 394, 3) := by decide +kernel
theorem dX11_causer_22 : decode cX11_causer 22 = .ok (.invokestatic 67, 3) := by decide +kernel
theorem dX11_causer_25 : decode cX11_causer 25 = .ok (.aload_n 0, 1) := by decide +kernel
theorem dX11_causer_26 : decode cX11_causer 26 = .ok (.getfield 21, 3) := by decide +kernel
theorem dX11_causer_29 : decode cX11_causer 29 = .ok (.aload_n 2, 1) := by decide +kernel
theorem dX11_causer_30 : decode cX11_causer 30 = .ok (.invokevirtual 398, 3) := by decide +kernel
theorem dX11_causer_33 : decode cX11_causer 33 = .ok (.ireturn, 1) := by decide +kernel
theorem dX11_loans_0 : decode cX11_loans 0 = .ok (.aload_n 0, 1) := by decide +kernel
theorem dX11_loans_1 : decode cX11_loans 1 = .ok (.getfield 21, 3) := by decide +kernel
theorem dX11_loans_4 : decode cX11_loans 4 = .ok (.getfield 402, 3) := by decide +kernel
theorem dX11_loans_7 : decode cX11_loans 7 = .ok (.ireturn, 1) := by decide +kernel
theorem dX11_needAccount_0 : decode cX11_needAccount 0 = .ok (.iload_n 1, 1) := by decide +kernel
theorem dX11_needAccount_1 : decode cX11_needAccount 1 = .ok (.aload_n 0, 1) := by decide +kernel
theorem dX11_needAccount_2 : decode cX11_needAccount 2 = .ok (.getfield 21, 3) := by decide +kernel
theorem dX11_needAccount_5 : decode cX11_needAccount 5 = .ok (.getfield 71, 3) := by decide +kernel
theorem dX11_needAccount_8 : decode cX11_needAccount 8 = .ok (.invokestatic 405, 3) := by decide +kernel
theorem dX11_needAccount_11 : decode cX11_needAccount 11 = .ok (.return_, 1) := by decide +kernel
theorem dX11_needSecurity_0 : decode cX11_needSecurity 0 = .ok (.iload_n 1, 1) := by decide +kernel
theorem dX11_needSecurity_1 : decode cX11_needSecurity 1 = .ok (.aload_n 0, 1) := by decide +kernel
theorem dX11_needSecurity_2 : decode cX11_needSecurity 2 = .ok (.getfield 21, 3) := by decide +kernel
theorem dX11_needSecurity_5 : decode cX11_needSecurity 5 = .ok (.getfield 101, 3) := by decide +kernel
theorem dX11_needSecurity_8 : decode cX11_needSecurity 8 = .ok (.invokestatic 405, 3) := by decide +kernel
theorem dX11_needSecurity_11 : decode cX11_needSecurity 11 = .ok (.return_, 1) := by decide +kernel
theorem dX11_needInstruction_0 : decode cX11_needInstruction 0 = .ok (.iload_n 1, 1) := by decide +kernel
theorem dX11_needInstruction_1 : decode cX11_needInstruction 1 = .ok (.aload_n 0, 1) := by decide +kernel
theorem dX11_needInstruction_2 : decode cX11_needInstruction 2 = .ok (.getfield 21, 3) := by decide +kernel
theorem dX11_needInstruction_5 : decode cX11_needInstruction 5 = .ok (.getfield 153, 3) := by decide +kernel
theorem dX11_needInstruction_8 : decode cX11_needInstruction 8 = .ok (.invokestatic 405, 3) := by decide +kernel
theorem dX11_needInstruction_11 : decode cX11_needInstruction 11 = .ok (.return_, 1) := by decide +kernel
theorem dX11_needTrade_0 : decode cX11_needTrade 0 = .ok (.iload_n 1, 1) := by decide +kernel
theorem dX11_needTrade_1 : decode cX11_needTrade 1 = .ok (.aload_n 0, 1) := by decide +kernel
theorem dX11_needTrade_2 : decode cX11_needTrade 2 = .ok (.getfield 21, 3) := by decide +kernel
theorem dX11_needTrade_5 : decode cX11_needTrade 5 = .ok (.getfield 191, 3) := by decide +kernel
theorem dX11_needTrade_8 : decode cX11_needTrade 8 = .ok (.invokestatic 405, 3) := by decide +kernel
theorem dX11_needTrade_11 : decode cX11_needTrade 11 = .ok (.return_, 1) := by decide +kernel
theorem dX11_needLoan_0 : decode cX11_needLoan 0 = .ok (.iload_n 1, 1) := by decide +kernel
theorem dX11_needLoan_1 : decode cX11_needLoan 1 = .ok (.aload_n 0, 1) := by decide +kernel
theorem dX11_needLoan_2 : decode cX11_needLoan 2 = .ok (.getfield 21, 3) := by decide +kernel
theorem dX11_needLoan_5 : decode cX11_needLoan 5 = .ok (.getfield 402, 3) := by decide +kernel
theorem dX11_needLoan_8 : decode cX11_needLoan 8 = .ok (.invokestatic 405, 3) := by decide +kernel
theorem dX11_needLoan_11 : decode cX11_needLoan 11 = .ok (.return_, 1) := by decide +kernel
theorem dX11_needIndex_0 : decode cX11_needIndex 0 = .ok (.iload_n 0, 1) := by decide +kernel
theorem dX11_needIndex_1 : decode cX11_needIndex 1 = .ok (.ifCond .lt 8, 3) := by decide +kernel
theorem dX11_needIndex_4 : decode cX11_needIndex 4 = .ok (.iload_n 0, 1) := by decide +kernel
theorem dX11_needIndex_5 : decode cX11_needIndex 5 = .ok (.iload_n 1, 1) := by decide +kernel
theorem dX11_needIndex_6 : decode cX11_needIndex 6 = .ok (.if_icmp .lt 14, 3) := by decide +kernel
theorem dX11_needIndex_9 : decode cX11_needIndex 9 = .ok (.new 409, 3) := by decide +kernel
theorem dX11_needIndex_12 : decode cX11_needIndex 12 = .ok (.dup, 1) := by decide +kernel
theorem dX11_needIndex_13 : decode cX11_needIndex 13 = .ok (.ldc_w 411, 3) := by decide +kernel
theorem dX11_needIndex_16 : decode cX11_needIndex 16 = .ok (.invokespecial 413, 3) := by decide +kernel
theorem dX11_needIndex_19 : decode cX11_needIndex 19 = .ok (.athrow, 1) := by decide +kernel
theorem dX11_needIndex_20 : decode cX11_needIndex 20 = .ok (.return_, 1) := by decide +kernel
theorem dX11_needRange_0 : decode cX11_needRange 0 = .ok (.iload_n 0, 1) := by decide +kernel
theorem dX11_needRange_1 : decode cX11_needRange 1 = .ok (.iload_n 1, 1) := by decide +kernel
theorem dX11_needRange_2 : decode cX11_needRange 2 = .ok (.if_icmp .lt 12, 3) := by decide +kernel
theorem dX11_needRange_5 : decode cX11_needRange 5 = .ok (.iload_n 0, 1) := by decide +kernel
theorem dX11_needRange_6 : decode cX11_needRange 6 = .ok (.iload_n 2, 1) := by decide +kernel
theorem dX11_needRange_7 : decode cX11_needRange 7 = .ok (.if_icmp .gt 7, 3) := by decide +kernel
theorem dX11_needRange_10 : decode cX11_needRange 10 = .ok (.iconst 1, 1) := by decide +kernel
theorem dX11_needRange_11 : decode cX11_needRange 11 = .ok (.goto 4, 3) := by decide +kernel
theorem dX11_needRange_14 : decode cX11_needRange 14 = .ok (.iconst 0, 1) := by decide +kernel
theorem dX11_needRange_15 : decode cX11_needRange 15 = .ok (.invokestatic 130, 3) := by decide +kernel
theorem dX11_needRange_18 : decode cX11_needRange 18 = .ok (.return_, 1) := by decide +kernel
theorem dX11_needArgument_0 : decode cX11_needArgument 0 = .ok (.iload_n 0, 1) := by decide +kernel
theorem dX11_needArgument_1 : decode cX11_needArgument 1 = .ok (.ifCond .ne 14, 3) := by decide +kernel
theorem dX11_needArgument_4 : decode cX11_needArgument 4 = .ok (.new 416, 3) := by decide +kernel
theorem dX11_needArgument_7 : decode cX11_needArgument 7 = .ok (.dup, 1) := by decide +kernel
theorem dX11_needArgument_8 : decode cX11_needArgument 8 = .ok (.ldc_w 418, 3) := by decide +kernel
theorem dX11_needArgument_11 : decode cX11_needArgument 11 = .ok (.invokespecial 420, 3) := by decide +kernel
theorem dX11_needArgument_14 : decode cX11_needArgument 14 = .ok (.athrow, 1) := by decide +kernel
theorem dX11_needArgument_15 : decode cX11_needArgument 15 = .ok (.return_, 1) := by decide +kernel
theorem dX11_needState_0 : decode cX11_needState 0 = .ok (.iload_n 0, 1) := by decide +kernel
theorem dX11_needState_1 : decode cX11_needState 1 = .ok (.ifCond .ne 14, 3) := by decide +kernel
theorem dX11_needState_4 : decode cX11_needState 4 = .ok (.new 421, 3) := by decide +kernel
theorem dX11_needState_7 : decode cX11_needState 7 = .ok (.dup, 1) := by decide +kernel
theorem dX11_needState_8 : decode cX11_needState 8 = .ok (.ldc_w 423, 3) := by decide +kernel
theorem dX11_needState_11 : decode cX11_needState 11 = .ok (.invokespecial 425, 3) := by decide +kernel
theorem dX11_needState_14 : decode cX11_needState 14 = .ok (.athrow, 1) := by decide +kernel
theorem dX11_needState_15 : decode cX11_needState 15 = .ok (.return_, 1) := by decide +kernel
theorem dX11_copyAll_0 : decode cX11_copyAll 0 = .ok (.aload_n 0, 1) := by decide +kernel
theorem dX11_copyAll_1 : decode cX11_copyAll 1 = .ok (.iconst 0, 1) := by decide +kernel
theorem dX11_copyAll_2 : decode cX11_copyAll 2 = .ok (.aload_n 1, 1) := by decide +kernel
theorem dX11_copyAll_3 : decode cX11_copyAll 3 = .ok (.iconst 0, 1) := by decide +kernel
theorem dX11_copyAll_4 : decode cX11_copyAll 4 = .ok (.aload_n 0, 1) := by decide +kernel
theorem dX11_copyAll_5 : decode cX11_copyAll 5 = .ok (.arraylength, 1) := by decide +kernel
theorem dX11_copyAll_6 : decode cX11_copyAll 6 = .ok (.aload_n 1, 1) := by decide +kernel
theorem dX11_copyAll_7 : decode cX11_copyAll 7 = .ok (.arraylength, 1) := by decide +kernel
theorem dX11_copyAll_8 : decode cX11_copyAll 8 = .ok (.invokestatic 426, 3) := by decide +kernel
theorem dX11_copyAll_11 : decode cX11_copyAll 11 = .ok (.invokestatic 431, 3) := by decide +kernel
theorem dX11_copyAll_14 : decode cX11_copyAll 14 = .ok (.return_, 1) := by decide +kernel
theorem dX11_sumOf_0 : decode cX11_sumOf 0 = .ok (.lconst 0, 1) := by decide +kernel
theorem dX11_sumOf_1 : decode cX11_sumOf 1 = .ok (.lstore_n 1, 1) := by decide +kernel
theorem dX11_sumOf_2 : decode cX11_sumOf 2 = .ok (.iconst 0, 1) := by decide +kernel
theorem dX11_sumOf_3 : decode cX11_sumOf 3 = .ok (.istore_n 3, 1) := by decide +kernel
theorem dX11_sumOf_4 : decode cX11_sumOf 4 = .ok (.iload_n 3, 1) := by decide +kernel
theorem dX11_sumOf_5 : decode cX11_sumOf 5 = .ok (.aload_n 0, 1) := by decide +kernel
theorem dX11_sumOf_6 : decode cX11_sumOf 6 = .ok (.arraylength, 1) := by decide +kernel
theorem dX11_sumOf_7 : decode cX11_sumOf 7 = .ok (.if_icmp .ge 15, 3) := by decide +kernel
theorem dX11_sumOf_10 : decode cX11_sumOf 10 = .ok (.lload_n 1, 1) := by decide +kernel
theorem dX11_sumOf_11 : decode cX11_sumOf 11 = .ok (.aload_n 0, 1) := by decide +kernel
theorem dX11_sumOf_12 : decode cX11_sumOf 12 = .ok (.iload_n 3, 1) := by decide +kernel
theorem dX11_sumOf_13 : decode cX11_sumOf 13 = .ok (.laload, 1) := by decide +kernel
theorem dX11_sumOf_14 : decode cX11_sumOf 14 = .ok (.ladd, 1) := by decide +kernel
theorem dX11_sumOf_15 : decode cX11_sumOf 15 = .ok (.lstore_n 1, 1) := by decide +kernel
theorem dX11_sumOf_16 : decode cX11_sumOf 16 = .ok (.iinc 3 1, 3) := by decide +kernel
theorem dX11_sumOf_19 : decode cX11_sumOf 19 = .ok (.goto (-15), 3) := by decide +kernel
theorem dX11_sumOf_22 : decode cX11_sumOf 22 = .ok (.lload_n 1, 1) := by decide +kernel
theorem dX11_sumOf_23 : decode cX11_sumOf 23 = .ok (.lreturn, 1) := by decide +kernel
theorem dL_cell_0 : decode cL_cell 0 = .ok (.iload_n 1, 1) := by decide +kernel
theorem dL_cell_1 : decode cL_cell 1 = .ok (.aload_n 0, 1) := by decide +kernel
theorem dL_cell_2 : decode cL_cell 2 = .ok (.arraylength, 1) := by decide +kernel
theorem dL_cell_3 : decode cL_cell 3 = .ok (.if_icmp .ge 9, 3) := by decide +kernel
theorem dL_cell_6 : decode cL_cell 6 = .ok (.aload_n 0, 1) := by decide +kernel
theorem dL_cell_7 : decode cL_cell 7 = .ok (.iload_n 1, 1) := by decide +kernel
theorem dL_cell_8 : decode cL_cell 8 = .ok (.iaload, 1) := by decide +kernel
theorem dL_cell_9 : decode cL_cell 9 = .ok (.goto 11, 3) := by decide +kernel
theorem dL_cell_12 : decode cL_cell 12 = .ok (.ldc 7, 2) := by decide +kernel
theorem dL_cell_14 : decode cL_cell 14 = .ok (.iload_n 1, 1) := by decide +kernel
theorem dL_cell_15 : decode cL_cell 15 = .ok (.imul, 1) := by decide +kernel
theorem dL_cell_16 : decode cL_cell 16 = .ok (.sipush 1499, 3) := by decide +kernel
theorem dL_cell_19 : decode cL_cell 19 = .ok (.iadd, 1) := by decide +kernel
theorem dL_cell_20 : decode cL_cell 20 = .ok (.ireturn, 1) := by decide +kernel
theorem dL_low_0 : decode cL_low 0 = .ok (.iload_n 0, 1) := by decide +kernel
theorem dL_low_1 : decode cL_low 1 = .ok (.ldc 8, 2) := by decide +kernel
theorem dL_low_3 : decode cL_low 3 = .ok (.iand, 1) := by decide +kernel
theorem dL_low_4 : decode cL_low 4 = .ok (.iload_n 1, 1) := by decide +kernel
theorem dL_low_5 : decode cL_low 5 = .ok (.irem, 1) := by decide +kernel
theorem dL_low_6 : decode cL_low 6 = .ok (.ireturn, 1) := by decide +kernel
theorem dL_opens_0 : decode cL_opens 0 = .ok (.aload_n 0, 1) := by decide +kernel
theorem dL_opens_1 : decode cL_opens 1 = .ok (.iload_n 1, 1) := by decide +kernel
theorem dL_opens_2 : decode cL_opens 2 = .ok (.iload_n 2, 1) := by decide +kernel
theorem dL_opens_3 : decode cL_opens 3 = .ok (.iload_n 3, 1) := by decide +kernel
theorem dL_opens_4 : decode cL_opens 4 = .ok (.iload 4, 2) := by decide +kernel
theorem dL_opens_6 : decode cL_opens 6 = .ok (.iload 5, 2) := by decide +kernel
theorem dL_opens_8 : decode cL_opens 8 = .ok (.invokevirtual 9, 3) := by decide +kernel
theorem dL_opens_11 : decode cL_opens 11 = .ok (.ireturn, 1) := by decide +kernel
theorem dL_opens_12 : decode cL_opens 12 = .ok (.astore 6, 2) := by decide +kernel
theorem dL_opens_14 : decode cL_opens 14 = .ok (.bipush (-2), 2) := by decide +kernel
theorem dL_opens_16 : decode cL_opens 16 = .ok (.ireturn, 1) := by decide +kernel
theorem dL_opens_17 : decode cL_opens 17 = .ok (.astore 6, 2) := by decide +kernel
theorem dL_opens_19 : decode cL_opens 19 = .ok (.bipush (-3), 2) := by decide +kernel
theorem dL_opens_21 : decode cL_opens 21 = .ok (.ireturn, 1) := by decide +kernel
theorem dL_opens_22 : decode cL_opens 22 = .ok (.astore 6, 2) := by decide +kernel
theorem dL_opens_24 : decode cL_opens 24 = .ok (.bipush (-4), 2) := by decide +kernel
theorem dL_opens_26 : decode cL_opens 26 = .ok (.ireturn, 1) := by decide +kernel
theorem dL_issues_0 : decode cL_issues 0 = .ok (.aload_n 0, 1) := by decide +kernel
theorem dL_issues_1 : decode cL_issues 1 = .ok (.iload_n 1, 1) := by decide +kernel
theorem dL_issues_2 : decode cL_issues 2 = .ok (.iconst 0, 1) := by decide +kernel
theorem dL_issues_3 : decode cL_issues 3 = .ok (.iload_n 2, 1) := by decide +kernel
theorem dL_issues_4 : decode cL_issues 4 = .ok (.iload_n 3, 1) := by decide +kernel
theorem dL_issues_5 : decode cL_issues 5 = .ok (.bipush 100, 2) := by decide +kernel
theorem dL_issues_7 : decode cL_issues 7 = .ok (.invokevirtual 21, 3) := by decide +kernel
theorem dL_issues_10 : decode cL_issues 10 = .ok (.ireturn, 1) := by decide +kernel
theorem dL_issues_11 : decode cL_issues 11 = .ok (.astore 4, 2) := by decide +kernel
theorem dL_issues_13 : decode cL_issues 13 = .ok (.bipush (-2), 2) := by decide +kernel
theorem dL_issues_15 : decode cL_issues 15 = .ok (.ireturn, 1) := by decide +kernel
theorem dL_issues_16 : decode cL_issues 16 = .ok (.astore 4, 2) := by decide +kernel
theorem dL_issues_18 : decode cL_issues 18 = .ok (.bipush (-3), 2) := by decide +kernel
theorem dL_issues_20 : decode cL_issues 20 = .ok (.ireturn, 1) := by decide +kernel
theorem dL_issues_21 : decode cL_issues 21 = .ok (.astore 4, 2) := by decide +kernel
theorem dL_issues_23 : decode cL_issues 23 = .ok (.bipush (-4), 2) := by decide +kernel
theorem dL_issues_25 : decode cL_issues 25 = .ok (.ireturn, 1) := by decide +kernel
theorem dL_blocks_0 : decode cL_blocks 0 = .ok (.aload_n 0, 1) := by decide +kernel
theorem dL_blocks_1 : decode cL_blocks 1 = .ok (.iload_n 1, 1) := by decide +kernel
theorem dL_blocks_2 : decode cL_blocks 2 = .ok (.iload_n 2, 1) := by decide +kernel
theorem dL_blocks_3 : decode cL_blocks 3 = .ok (.iload_n 3, 1) := by decide +kernel
theorem dL_blocks_4 : decode cL_blocks 4 = .ok (.invokevirtual 25, 3) := by decide +kernel
theorem dL_blocks_7 : decode cL_blocks 7 = .ok (.lreturn, 1) := by decide +kernel
theorem dL_blocks_8 : decode cL_blocks 8 = .ok (.astore 4, 2) := by decide +kernel
theorem dL_blocks_10 : decode cL_blocks 10 = .ok (.ldc2_w 29, 3) := by decide +kernel
theorem dL_blocks_13 : decode cL_blocks 13 = .ok (.lreturn, 1) := by decide +kernel
theorem dL_blocks_14 : decode cL_blocks 14 = .ok (.astore 4, 2) := by decide +kernel
theorem dL_blocks_16 : decode cL_blocks 16 = .ok (.ldc2_w 31, 3) := by decide +kernel
theorem dL_blocks_19 : decode cL_blocks 19 = .ok (.lreturn, 1) := by decide +kernel
theorem dL_blocks_20 : decode cL_blocks 20 = .ok (.astore 4, 2) := by decide +kernel
theorem dL_blocks_22 : decode cL_blocks 22 = .ok (.ldc2_w 33, 3) := by decide +kernel
theorem dL_blocks_25 : decode cL_blocks 25 = .ok (.lreturn, 1) := by decide +kernel
theorem dL_instructs_0 : decode cL_instructs 0 = .ok (.aload_n 0, 1) := by decide +kernel
theorem dL_instructs_1 : decode cL_instructs 1 = .ok (.iload_n 1, 1) := by decide +kernel
theorem dL_instructs_2 : decode cL_instructs 2 = .ok (.iload_n 2, 1) := by decide +kernel
theorem dL_instructs_3 : decode cL_instructs 3 = .ok (.iload_n 3, 1) := by decide +kernel
theorem dL_instructs_4 : decode cL_instructs 4 = .ok (.iload 4, 2) := by decide +kernel
theorem dL_instructs_6 : decode cL_instructs 6 = .ok (.iload 5, 2) := by decide +kernel
theorem dL_instructs_8 : decode cL_instructs 8 = .ok (.iload 6, 2) := by decide +kernel
theorem dL_instructs_10 : decode cL_instructs 10 = .ok (.iload 7, 2) := by decide +kernel
theorem dL_instructs_12 : decode cL_instructs 12 = .ok (.iload 5, 2) := by decide +kernel
theorem dL_instructs_14 : decode cL_instructs 14 = .ok (.bipush 10, 2) := by decide +kernel
theorem dL_instructs_16 : decode cL_instructs 16 = .ok (.invokestatic 35, 3) := by decide +kernel
theorem dL_instructs_19 : decode cL_instructs 19 = .ok (.iload 8, 2) := by decide +kernel
theorem dL_instructs_21 : decode cL_instructs 21 = .ok (.invokevirtual 41, 3) := by decide +kernel
theorem dL_instructs_24 : decode cL_instructs 24 = .ok (.ireturn, 1) := by decide +kernel
theorem dL_instructs_25 : decode cL_instructs 25 = .ok (.astore 9, 2) := by decide +kernel
theorem dL_instructs_27 : decode cL_instructs 27 = .ok (.bipush (-2), 2) := by decide +kernel
theorem dL_instructs_29 : decode cL_instructs 29 = .ok (.ireturn, 1) := by decide +kernel
theorem dL_instructs_30 : decode cL_instructs 30 = .ok (.astore 9, 2) := by decide +kernel
theorem dL_instructs_32 : decode cL_instructs 32 = .ok (.bipush (-3), 2) := by decide +kernel
theorem dL_instructs_34 : decode cL_instructs 34 = .ok (.ireturn, 1) := by decide +kernel
theorem dL_instructs_35 : decode cL_instructs 35 = .ok (.astore 9, 2) := by decide +kernel
theorem dL_instructs_37 : decode cL_instructs 37 = .ok (.bipush (-4), 2) := by decide +kernel
theorem dL_instructs_39 : decode cL_instructs 39 = .ok (.ireturn, 1) := by decide +kernel
theorem dL_cancels_0 : decode cL_cancels 0 = .ok (.aload_n 0, 1) := by decide +kernel
theorem dL_cancels_1 : decode cL_cancels 1 = .ok (.iload_n 1, 1) := by decide +kernel
theorem dL_cancels_2 : decode cL_cancels 2 = .ok (.invokevirtual 45, 3) := by decide +kernel
theorem dL_cancels_5 : decode cL_cancels 5 = .ok (.ifCond .eq 7, 3) := by decide +kernel
theorem dL_cancels_8 : decode cL_cancels 8 = .ok (.iconst 1, 1) := by decide +kernel
theorem dL_cancels_9 : decode cL_cancels 9 = .ok (.goto 4, 3) := by decide +kernel
theorem dL_cancels_12 : decode cL_cancels 12 = .ok (.iconst 0, 1) := by decide +kernel
theorem dL_cancels_13 : decode cL_cancels 13 = .ok (.ireturn, 1) := by decide +kernel
theorem dL_cancels_14 : decode cL_cancels 14 = .ok (.astore_n 2, 1) := by decide +kernel
theorem dL_cancels_15 : decode cL_cancels 15 = .ok (.bipush (-2), 2) := by decide +kernel
theorem dL_cancels_17 : decode cL_cancels 17 = .ok (.ireturn, 1) := by decide +kernel
theorem dL_cancels_18 : decode cL_cancels 18 = .ok (.astore_n 2, 1) := by decide +kernel
theorem dL_cancels_19 : decode cL_cancels 19 = .ok (.bipush (-4), 2) := by decide +kernel
theorem dL_cancels_21 : decode cL_cancels 21 = .ok (.ireturn, 1) := by decide +kernel
theorem dL_holds_0 : decode cL_holds 0 = .ok (.aload_n 0, 1) := by decide +kernel
theorem dL_holds_1 : decode cL_holds 1 = .ok (.iload_n 1, 1) := by decide +kernel
theorem dL_holds_2 : decode cL_holds 2 = .ok (.invokevirtual 49, 3) := by decide +kernel
theorem dL_holds_5 : decode cL_holds 5 = .ok (.ifCond .eq 7, 3) := by decide +kernel
theorem dL_holds_8 : decode cL_holds 8 = .ok (.iconst 1, 1) := by decide +kernel
theorem dL_holds_9 : decode cL_holds 9 = .ok (.goto 4, 3) := by decide +kernel
theorem dL_holds_12 : decode cL_holds 12 = .ok (.iconst 0, 1) := by decide +kernel
theorem dL_holds_13 : decode cL_holds 13 = .ok (.ireturn, 1) := by decide +kernel
theorem dL_holds_14 : decode cL_holds 14 = .ok (.astore_n 2, 1) := by decide +kernel
theorem dL_holds_15 : decode cL_holds 15 = .ok (.bipush (-2), 2) := by decide +kernel
theorem dL_holds_17 : decode cL_holds 17 = .ok (.ireturn, 1) := by decide +kernel
theorem dL_holds_18 : decode cL_holds 18 = .ok (.astore_n 2, 1) := by decide +kernel
theorem dL_holds_19 : decode cL_holds 19 = .ok (.bipush (-4), 2) := by decide +kernel
theorem dL_holds_21 : decode cL_holds 21 = .ok (.ireturn, 1) := by decide +kernel
theorem dL_links_0 : decode cL_links 0 = .ok (.aload_n 0, 1) := by decide +kernel
theorem dL_links_1 : decode cL_links 1 = .ok (.iload_n 1, 1) := by decide +kernel
theorem dL_links_2 : decode cL_links 2 = .ok (.iload_n 2, 1) := by decide +kernel
theorem dL_links_3 : decode cL_links 3 = .ok (.iload_n 3, 1) := by decide +kernel
theorem dL_links_4 : decode cL_links 4 = .ok (.invokevirtual 52, 3) := by decide +kernel
theorem dL_links_7 : decode cL_links 7 = .ok (.ireturn, 1) := by decide +kernel
theorem dL_links_8 : decode cL_links 8 = .ok (.astore 4, 2) := by decide +kernel
theorem dL_links_10 : decode cL_links 10 = .ok (.bipush (-2), 2) := by decide +kernel
theorem dL_links_12 : decode cL_links 12 = .ok (.ireturn, 1) := by decide +kernel
theorem dL_links_13 : decode cL_links 13 = .ok (.astore 4, 2) := by decide +kernel
theorem dL_links_15 : decode cL_links 15 = .ok (.bipush (-3), 2) := by decide +kernel
theorem dL_links_17 : decode cL_links 17 = .ok (.ireturn, 1) := by decide +kernel
theorem dL_links_18 : decode cL_links 18 = .ok (.astore 4, 2) := by decide +kernel
theorem dL_links_20 : decode cL_links 20 = .ok (.bipush (-4), 2) := by decide +kernel
theorem dL_links_22 : decode cL_links 22 = .ok (.ireturn, 1) := by decide +kernel
theorem dL_recalls_0 : decode cL_recalls 0 = .ok (.aload_n 0, 1) := by decide +kernel
theorem dL_recalls_1 : decode cL_recalls 1 = .ok (.iload_n 1, 1) := by decide +kernel
theorem dL_recalls_2 : decode cL_recalls 2 = .ok (.invokevirtual 56, 3) := by decide +kernel
theorem dL_recalls_5 : decode cL_recalls 5 = .ok (.lreturn, 1) := by decide +kernel
theorem dL_recalls_6 : decode cL_recalls 6 = .ok (.astore_n 2, 1) := by decide +kernel
theorem dL_recalls_7 : decode cL_recalls 7 = .ok (.ldc2_w 29, 3) := by decide +kernel
theorem dL_recalls_10 : decode cL_recalls 10 = .ok (.lreturn, 1) := by decide +kernel
theorem dL_recalls_11 : decode cL_recalls 11 = .ok (.astore_n 2, 1) := by decide +kernel
theorem dL_recalls_12 : decode cL_recalls 12 = .ok (.ldc2_w 33, 3) := by decide +kernel
theorem dL_recalls_15 : decode cL_recalls 15 = .ok (.lreturn, 1) := by decide +kernel
theorem dL_announces_0 : decode cL_announces 0 = .ok (.aload_n 0, 1) := by decide +kernel
theorem dL_announces_1 : decode cL_announces 1 = .ok (.iload_n 1, 1) := by decide +kernel
theorem dL_announces_2 : decode cL_announces 2 = .ok (.iload_n 2, 1) := by decide +kernel
theorem dL_announces_3 : decode cL_announces 3 = .ok (.iload_n 3, 1) := by decide +kernel
theorem dL_announces_4 : decode cL_announces 4 = .ok (.iload 4, 2) := by decide +kernel
theorem dL_announces_6 : decode cL_announces 6 = .ok (.bipush 20, 2) := by decide +kernel
theorem dL_announces_8 : decode cL_announces 8 = .ok (.iload 5, 2) := by decide +kernel
theorem dL_announces_10 : decode cL_announces 10 = .ok (.iload 5, 2) := by decide +kernel
theorem dL_announces_12 : decode cL_announces 12 = .ok (.iconst 1, 1) := by decide +kernel
theorem dL_announces_13 : decode cL_announces 13 = .ok (.iadd, 1) := by decide +kernel
theorem dL_announces_14 : decode cL_announces 14 = .ok (.invokevirtual 60, 3) := by decide +kernel
theorem dL_announces_17 : decode cL_announces 17 = .ok (.ireturn, 1) := by decide +kernel
theorem dL_announces_18 : decode cL_announces 18 = .ok (.astore 6, 2) := by decide +kernel
theorem dL_announces_20 : decode cL_announces 20 = .ok (.bipush (-2), 2) := by decide +kernel
theorem dL_announces_22 : decode cL_announces 22 = .ok (.ireturn, 1) := by decide +kernel
theorem dL_announces_23 : decode cL_announces 23 = .ok (.astore 6, 2) := by decide +kernel
theorem dL_announces_25 : decode cL_announces 25 = .ok (.bipush (-3), 2) := by decide +kernel
theorem dL_announces_27 : decode cL_announces 27 = .ok (.ireturn, 1) := by decide +kernel
theorem dL_announces_28 : decode cL_announces 28 = .ok (.astore 6, 2) := by decide +kernel
theorem dL_announces_30 : decode cL_announces 30 = .ok (.bipush (-4), 2) := by decide +kernel
theorem dL_announces_32 : decode cL_announces 32 = .ok (.ireturn, 1) := by decide +kernel
theorem dL_causers_0 : decode cL_causers 0 = .ok (.aload_n 0, 1) := by decide +kernel
theorem dL_causers_1 : decode cL_causers 1 = .ok (.iload_n 1, 1) := by decide +kernel
theorem dL_causers_2 : decode cL_causers 2 = .ok (.invokevirtual 64, 3) := by decide +kernel
theorem dL_causers_5 : decode cL_causers 5 = .ok (.ireturn, 1) := by decide +kernel
theorem dL_causers_6 : decode cL_causers 6 = .ok (.astore_n 2, 1) := by decide +kernel
theorem dL_causers_7 : decode cL_causers 7 = .ok (.bipush (-2), 2) := by decide +kernel
theorem dL_causers_9 : decode cL_causers 9 = .ok (.ireturn, 1) := by decide +kernel
theorem dL_causers_10 : decode cL_causers 10 = .ok (.astore_n 2, 1) := by decide +kernel
theorem dL_causers_11 : decode cL_causers 11 = .ok (.bipush (-4), 2) := by decide +kernel
theorem dL_causers_13 : decode cL_causers 13 = .ok (.ireturn, 1) := by decide +kernel
theorem dL_tell_0 : decode cL_tell 0 = .ok (.bipush 60, 2) := by decide +kernel
theorem dL_tell_2 : decode cL_tell 2 = .ok (.newarray .long, 2) := by decide +kernel
theorem dL_tell_4 : decode cL_tell 4 = .ok (.astore_n 2, 1) := by decide +kernel
theorem dL_tell_5 : decode cL_tell 5 = .ok (.iconst 0, 1) := by decide +kernel
theorem dL_tell_6 : decode cL_tell 6 = .ok (.istore_n 3, 1) := by decide +kernel
theorem dL_tell_7 : decode cL_tell 7 = .ok (.iload_n 3, 1) := by decide +kernel
theorem dL_tell_8 : decode cL_tell 8 = .ok (.aload_n 1, 1) := by decide +kernel
theorem dL_tell_9 : decode cL_tell 9 = .ok (.iconst 0, 1) := by decide +kernel
theorem dL_tell_10 : decode cL_tell 10 = .ok (.iaload, 1) := by decide +kernel
theorem dL_tell_11 : decode cL_tell 11 = .ok (.if_icmp .ge 86, 3) := by decide +kernel
theorem dL_tell_14 : decode cL_tell 14 = .ok (.aload_n 2, 1) := by decide +kernel
theorem dL_tell_15 : decode cL_tell 15 = .ok (.iload_n 3, 1) := by decide +kernel
theorem dL_tell_16 : decode cL_tell 16 = .ok (.aload_n 0, 1) := by decide +kernel
theorem dL_tell_17 : decode cL_tell 17 = .ok (.iload_n 3, 1) := by decide +kernel
theorem dL_tell_18 : decode cL_tell 18 = .ok (.invokevirtual 68, 3) := by decide +kernel
theorem dL_tell_21 : decode cL_tell 21 = .ok (.lastore, 1) := by decide +kernel
theorem dL_tell_22 : decode cL_tell 22 = .ok (.aload_n 2, 1) := by decide +kernel
theorem dL_tell_23 : decode cL_tell 23 = .ok (.bipush 6, 2) := by decide +kernel
theorem dL_tell_25 : decode cL_tell 25 = .ok (.iload_n 3, 1) := by decide +kernel
theorem dL_tell_26 : decode cL_tell 26 = .ok (.iadd, 1) := by decide +kernel
theorem dL_tell_27 : decode cL_tell 27 = .ok (.aload_n 0, 1) := by decide +kernel
theorem dL_tell_28 : decode cL_tell 28 = .ok (.iload_n 3, 1) := by decide +kernel
theorem dL_tell_29 : decode cL_tell 29 = .ok (.invokevirtual 71, 3) := by decide +kernel
theorem dL_tell_32 : decode cL_tell 32 = .ok (.lastore, 1) := by decide +kernel
theorem dL_tell_33 : decode cL_tell 33 = .ok (.aload_n 2, 1) := by decide +kernel
theorem dL_tell_34 : decode cL_tell 34 = .ok (.bipush 12, 2) := by decide +kernel
theorem dL_tell_36 : decode cL_tell 36 = .ok (.iload_n 3, 1) := by decide +kernel
theorem dL_tell_37 : decode cL_tell 37 = .ok (.iadd, 1) := by decide +kernel
theorem dL_tell_38 : decode cL_tell 38 = .ok (.aload_n 0, 1) := by decide +kernel
theorem dL_tell_39 : decode cL_tell 39 = .ok (.iload_n 3, 1) := by decide +kernel
theorem dL_tell_40 : decode cL_tell 40 = .ok (.invokevirtual 74, 3) := by decide +kernel
theorem dL_tell_43 : decode cL_tell 43 = .ok (.lastore, 1) := by decide +kernel
theorem dL_tell_44 : decode cL_tell 44 = .ok (.iconst 0, 1) := by decide +kernel
theorem dL_tell_45 : decode cL_tell 45 = .ok (.istore 4, 2) := by decide +kernel
theorem dL_tell_47 : decode cL_tell 47 = .ok (.iload 4, 2) := by decide +kernel
theorem dL_tell_49 : decode cL_tell 49 = .ok (.aload_n 1, 1) := by decide +kernel
theorem dL_tell_50 : decode cL_tell 50 = .ok (.iconst 1, 1) := by decide +kernel
theorem dL_tell_51 : decode cL_tell 51 = .ok (.iaload, 1) := by decide +kernel
theorem dL_tell_52 : decode cL_tell 52 = .ok (.if_icmp .ge 39, 3) := by decide +kernel
theorem dL_tell_55 : decode cL_tell 55 = .ok (.aload_n 2, 1) := by decide +kernel
theorem dL_tell_56 : decode cL_tell 56 = .ok (.bipush 18, 2) := by decide +kernel
theorem dL_tell_58 : decode cL_tell 58 = .ok (.iconst 2, 1) := by decide +kernel
theorem dL_tell_59 : decode cL_tell 59 = .ok (.iload_n 3, 1) := by decide +kernel
theorem dL_tell_60 : decode cL_tell 60 = .ok (.imul, 1) := by decide +kernel
theorem dL_tell_61 : decode cL_tell 61 = .ok (.iadd, 1) := by decide +kernel
theorem dL_tell_62 : decode cL_tell 62 = .ok (.iload 4, 2) := by decide +kernel
theorem dL_tell_64 : decode cL_tell 64 = .ok (.iadd, 1) := by decide +kernel
theorem dL_tell_65 : decode cL_tell 65 = .ok (.ldc2_w 77, 3) := by decide +kernel
theorem dL_tell_68 : decode cL_tell 68 = .ok (.aload_n 0, 1) := by decide +kernel
theorem dL_tell_69 : decode cL_tell 69 = .ok (.iload_n 3, 1) := by decide +kernel
theorem dL_tell_70 : decode cL_tell 70 = .ok (.iload 4, 2) := by decide +kernel
theorem dL_tell_72 : decode cL_tell 72 = .ok (.invokevirtual 79, 3) := by decide +kernel
theorem dL_tell_75 : decode cL_tell 75 = .ok (.lmul, 1) := by decide +kernel
theorem dL_tell_76 : decode cL_tell 76 = .ok (.aload_n 0, 1) := by decide +kernel
theorem dL_tell_77 : decode cL_tell 77 = .ok (.iload_n 3, 1) := by decide +kernel
theorem dL_tell_78 : decode cL_tell 78 = .ok (.iload 4, 2) := by decide +kernel
theorem dL_tell_80 : decode cL_tell 80 = .ok (.invokevirtual 83, 3) := by decide +kernel
theorem dL_tell_83 : decode cL_tell 83 = .ok (.ladd, 1) := by decide +kernel
theorem dL_tell_84 : decode cL_tell 84 = .ok (.lastore, 1) := by decide +kernel
theorem dL_tell_85 : decode cL_tell 85 = .ok (.iinc 4 1, 3) := by decide +kernel
theorem dL_tell_88 : decode cL_tell 88 = .ok (.goto (-41), 3) := by decide +kernel
theorem dL_tell_91 : decode cL_tell 91 = .ok (.iinc 3 1, 3) := by decide +kernel
theorem dL_tell_94 : decode cL_tell 94 = .ok (.goto (-87), 3) := by decide +kernel
theorem dL_tell_97 : decode cL_tell 97 = .ok (.iconst 0, 1) := by decide +kernel
theorem dL_tell_98 : decode cL_tell 98 = .ok (.istore_n 3, 1) := by decide +kernel
theorem dL_tell_99 : decode cL_tell 99 = .ok (.iload_n 3, 1) := by decide +kernel
theorem dL_tell_100 : decode cL_tell 100 = .ok (.aload_n 1, 1) := by decide +kernel
theorem dL_tell_101 : decode cL_tell 101 = .ok (.iconst 2, 1) := by decide +kernel
theorem dL_tell_102 : decode cL_tell 102 = .ok (.iaload, 1) := by decide +kernel
theorem dL_tell_103 : decode cL_tell 103 = .ok (.if_icmp .ge 28, 3) := by decide +kernel
theorem dL_tell_106 : decode cL_tell 106 = .ok (.aload_n 2, 1) := by decide +kernel
theorem dL_tell_107 : decode cL_tell 107 = .ok (.bipush 32, 2) := by decide +kernel
theorem dL_tell_109 : decode cL_tell 109 = .ok (.ldc2_w 86, 3) := by decide +kernel
theorem dL_tell_112 : decode cL_tell 112 = .ok (.aload_n 2, 1) := by decide +kernel
theorem dL_tell_113 : decode cL_tell 113 = .ok (.bipush 32, 2) := by decide +kernel
theorem dL_tell_115 : decode cL_tell 115 = .ok (.laload, 1) := by decide +kernel
theorem dL_tell_116 : decode cL_tell 116 = .ok (.lmul, 1) := by decide +kernel
theorem dL_tell_117 : decode cL_tell 117 = .ok (.aload_n 0, 1) := by decide +kernel
theorem dL_tell_118 : decode cL_tell 118 = .ok (.iload_n 3, 1) := by decide +kernel
theorem dL_tell_119 : decode cL_tell 119 = .ok (.invokevirtual 88, 3) := by decide +kernel
theorem dL_tell_122 : decode cL_tell 122 = .ok (.i2l, 1) := by decide +kernel
theorem dL_tell_123 : decode cL_tell 123 = .ok (.ladd, 1) := by decide +kernel
theorem dL_tell_124 : decode cL_tell 124 = .ok (.lastore, 1) := by decide +kernel
theorem dL_tell_125 : decode cL_tell 125 = .ok (.iinc 3 1, 3) := by decide +kernel
theorem dL_tell_128 : decode cL_tell 128 = .ok (.goto (-29), 3) := by decide +kernel
theorem dL_tell_131 : decode cL_tell 131 = .ok (.iconst 0, 1) := by decide +kernel
theorem dL_tell_132 : decode cL_tell 132 = .ok (.istore_n 3, 1) := by decide +kernel
theorem dL_tell_133 : decode cL_tell 133 = .ok (.iload_n 3, 1) := by decide +kernel
theorem dL_tell_134 : decode cL_tell 134 = .ok (.aload_n 1, 1) := by decide +kernel
theorem dL_tell_135 : decode cL_tell 135 = .ok (.iconst 3, 1) := by decide +kernel
theorem dL_tell_136 : decode cL_tell 136 = .ok (.iaload, 1) := by decide +kernel
theorem dL_tell_137 : decode cL_tell 137 = .ok (.if_icmp .ge 30, 3) := by decide +kernel
theorem dL_tell_140 : decode cL_tell 140 = .ok (.aload_n 2, 1) := by decide +kernel
theorem dL_tell_141 : decode cL_tell 141 = .ok (.bipush 33, 2) := by decide +kernel
theorem dL_tell_143 : decode cL_tell 143 = .ok (.iload_n 3, 1) := by decide +kernel
theorem dL_tell_144 : decode cL_tell 144 = .ok (.iadd, 1) := by decide +kernel
theorem dL_tell_145 : decode cL_tell 145 = .ok (.ldc2_w 77, 3) := by decide +kernel
theorem dL_tell_148 : decode cL_tell 148 = .ok (.aload_n 0, 1) := by decide +kernel
theorem dL_tell_149 : decode cL_tell 149 = .ok (.iload_n 3, 1) := by decide +kernel
theorem dL_tell_150 : decode cL_tell 150 = .ok (.invokevirtual 91, 3) := by decide +kernel
theorem dL_tell_153 : decode cL_tell 153 = .ok (.lmul, 1) := by decide +kernel
theorem dL_tell_154 : decode cL_tell 154 = .ok (.aload_n 0, 1) := by decide +kernel
theorem dL_tell_155 : decode cL_tell 155 = .ok (.iload_n 3, 1) := by decide +kernel
theorem dL_tell_156 : decode cL_tell 156 = .ok (.invokevirtual 94, 3) := by decide +kernel
theorem dL_tell_159 : decode cL_tell 159 = .ok (.ladd, 1) := by decide +kernel
theorem dL_tell_160 : decode cL_tell 160 = .ok (.lastore, 1) := by decide +kernel
theorem dL_tell_161 : decode cL_tell 161 = .ok (.iinc 3 1, 3) := by decide +kernel
theorem dL_tell_164 : decode cL_tell 164 = .ok (.goto (-31), 3) := by decide +kernel
theorem dL_tell_167 : decode cL_tell 167 = .ok (.aload_n 2, 1) := by decide +kernel
theorem dL_tell_168 : decode cL_tell 168 = .ok (.bipush 55, 2) := by decide +kernel
theorem dL_tell_170 : decode cL_tell 170 = .ok (.aload_n 0, 1) := by decide +kernel
theorem dL_tell_171 : decode cL_tell 171 = .ok (.invokevirtual 97, 3) := by decide +kernel
theorem dL_tell_174 : decode cL_tell 174 = .ok (.i2l, 1) := by decide +kernel
theorem dL_tell_175 : decode cL_tell 175 = .ok (.lastore, 1) := by decide +kernel
theorem dL_tell_176 : decode cL_tell 176 = .ok (.aload_n 2, 1) := by decide +kernel
theorem dL_tell_177 : decode cL_tell 177 = .ok (.bipush 56, 2) := by decide +kernel
theorem dL_tell_179 : decode cL_tell 179 = .ok (.aload_n 0, 1) := by decide +kernel
theorem dL_tell_180 : decode cL_tell 180 = .ok (.invokevirtual 101, 3) := by decide +kernel
theorem dL_tell_183 : decode cL_tell 183 = .ok (.i2l, 1) := by decide +kernel
theorem dL_tell_184 : decode cL_tell 184 = .ok (.lastore, 1) := by decide +kernel
theorem dL_tell_185 : decode cL_tell 185 = .ok (.aload_n 2, 1) := by decide +kernel
theorem dL_tell_186 : decode cL_tell 186 = .ok (.bipush 57, 2) := by decide +kernel
theorem dL_tell_188 : decode cL_tell 188 = .ok (.aload_n 0, 1) := by decide +kernel
theorem dL_tell_189 : decode cL_tell 189 = .ok (.invokevirtual 104, 3) := by decide +kernel
theorem dL_tell_192 : decode cL_tell 192 = .ok (.lastore, 1) := by decide +kernel
theorem dL_tell_193 : decode cL_tell 193 = .ok (.aload_n 2, 1) := by decide +kernel
theorem dL_tell_194 : decode cL_tell 194 = .ok (.areturn, 1) := by decide +kernel
theorem dL_same_0 : decode cL_same 0 = .ok (.iconst 0, 1) := by decide +kernel
theorem dL_same_1 : decode cL_same 1 = .ok (.istore_n 2, 1) := by decide +kernel
theorem dL_same_2 : decode cL_same 2 = .ok (.iload_n 2, 1) := by decide +kernel
theorem dL_same_3 : decode cL_same 3 = .ok (.bipush 60, 2) := by decide +kernel
theorem dL_same_5 : decode cL_same 5 = .ok (.if_icmp .ge 21, 3) := by decide +kernel
theorem dL_same_8 : decode cL_same 8 = .ok (.aload_n 0, 1) := by decide +kernel
theorem dL_same_9 : decode cL_same 9 = .ok (.iload_n 2, 1) := by decide +kernel
theorem dL_same_10 : decode cL_same 10 = .ok (.laload, 1) := by decide +kernel
theorem dL_same_11 : decode cL_same 11 = .ok (.aload_n 1, 1) := by decide +kernel
theorem dL_same_12 : decode cL_same 12 = .ok (.iload_n 2, 1) := by decide +kernel
theorem dL_same_13 : decode cL_same 13 = .ok (.laload, 1) := by decide +kernel
theorem dL_same_14 : decode cL_same 14 = .ok (.lcmp, 1) := by decide +kernel
theorem dL_same_15 : decode cL_same 15 = .ok (.ifCond .eq 5, 3) := by decide +kernel
theorem dL_same_18 : decode cL_same 18 = .ok (.iconst 0, 1) := by decide +kernel
theorem dL_same_19 : decode cL_same 19 = .ok (.ireturn, 1) := by decide +kernel
theorem dL_same_20 : decode cL_same 20 = .ok (.iinc 2 1, 3) := by decide +kernel
theorem dL_same_23 : decode cL_same 23 = .ok (.goto (-21), 3) := by decide +kernel
theorem dL_same_26 : decode cL_same 26 = .ok (.iconst 1, 1) := by decide +kernel
theorem dL_same_27 : decode cL_same 27 = .ok (.ireturn, 1) := by decide +kernel
theorem dL_cash_0 : decode cL_cash 0 = .ok (.lconst 0, 1) := by decide +kernel
theorem dL_cash_1 : decode cL_cash 1 = .ok (.lstore_n 2, 1) := by decide +kernel
theorem dL_cash_2 : decode cL_cash 2 = .ok (.iconst 0, 1) := by decide +kernel
theorem dL_cash_3 : decode cL_cash 3 = .ok (.istore 4, 2) := by decide +kernel
theorem dL_cash_5 : decode cL_cash 5 = .ok (.iload 4, 2) := by decide +kernel
theorem dL_cash_7 : decode cL_cash 7 = .ok (.aload_n 1, 1) := by decide +kernel
theorem dL_cash_8 : decode cL_cash 8 = .ok (.iconst 0, 1) := by decide +kernel
theorem dL_cash_9 : decode cL_cash 9 = .ok (.iaload, 1) := by decide +kernel
theorem dL_cash_10 : decode cL_cash 10 = .ok (.if_icmp .ge 18, 3) := by decide +kernel
theorem dL_cash_13 : decode cL_cash 13 = .ok (.lload_n 2, 1) := by decide +kernel
theorem dL_cash_14 : decode cL_cash 14 = .ok (.aload_n 0, 1) := by decide +kernel
theorem dL_cash_15 : decode cL_cash 15 = .ok (.iload 4, 2) := by decide +kernel
theorem dL_cash_17 : decode cL_cash 17 = .ok (.invokevirtual 68, 3) := by decide +kernel
theorem dL_cash_20 : decode cL_cash 20 = .ok (.ladd, 1) := by decide +kernel
theorem dL_cash_21 : decode cL_cash 21 = .ok (.lstore_n 2, 1) := by decide +kernel
theorem dL_cash_22 : decode cL_cash 22 = .ok (.iinc 4 1, 3) := by decide +kernel
theorem dL_cash_25 : decode cL_cash 25 = .ok (.goto (-20), 3) := by decide +kernel
theorem dL_cash_28 : decode cL_cash 28 = .ok (.lload_n 2, 1) := by decide +kernel
theorem dL_cash_29 : decode cL_cash 29 = .ok (.lreturn, 1) := by decide +kernel
theorem dL_asks_0 : decode cL_asks 0 = .ok (.lconst 0, 1) := by decide +kernel
theorem dL_asks_1 : decode cL_asks 1 = .ok (.lstore_n 2, 1) := by decide +kernel
theorem dL_asks_2 : decode cL_asks 2 = .ok (.iconst 0, 1) := by decide +kernel
theorem dL_asks_3 : decode cL_asks 3 = .ok (.istore 4, 2) := by decide +kernel
theorem dL_asks_5 : decode cL_asks 5 = .ok (.iload 4, 2) := by decide +kernel
theorem dL_asks_7 : decode cL_asks 7 = .ok (.aload_n 1, 1) := by decide +kernel
theorem dL_asks_8 : decode cL_asks 8 = .ok (.iconst 0, 1) := by decide +kernel
theorem dL_asks_9 : decode cL_asks 9 = .ok (.iaload, 1) := by decide +kernel
theorem dL_asks_10 : decode cL_asks 10 = .ok (.if_icmp .ge 187, 3) := by decide +kernel
theorem dL_asks_13 : decode cL_asks 13 = .ok (.lload_n 2, 1) := by decide +kernel
theorem dL_asks_14 : decode cL_asks 14 = .ok (.aload_n 0, 1) := by decide +kernel
theorem dL_asks_15 : decode cL_asks 15 = .ok (.iload 4, 2) := by decide +kernel
theorem dL_asks_17 : decode cL_asks 17 = .ok (.invokevirtual 71, 3) := by decide +kernel
theorem dL_asks_20 : decode cL_asks 20 = .ok (.ladd, 1) := by decide +kernel
theorem dL_asks_21 : decode cL_asks 21 = .ok (.lstore_n 2, 1) := by decide +kernel
theorem dL_asks_22 : decode cL_asks 22 = .ok (.aload_n 0, 1) := by decide +kernel
theorem dL_asks_23 : decode cL_asks 23 = .ok (.iload 4, 2) := by decide +kernel
theorem dL_asks_25 : decode cL_asks 25 = .ok (.invokevirtual 68, 3) := by decide +kernel
theorem dL_asks_28 : decode cL_asks 28 = .ok (.aload_n 0, 1) := by decide +kernel
theorem dL_asks_29 : decode cL_asks 29 = .ok (.iload 4, 2) := by decide +kernel
theorem dL_asks_31 : decode cL_asks 31 = .ok (.invokevirtual 74, 3) := by decide +kernel
theorem dL_asks_34 : decode cL_asks 34 = .ok (.lsub, 1) := by decide +kernel
theorem dL_asks_35 : decode cL_asks 35 = .ok (.aload_n 0, 1) := by decide +kernel
theorem dL_asks_36 : decode cL_asks 36 = .ok (.iload 4, 2) := by decide +kernel
theorem dL_asks_38 : decode cL_asks 38 = .ok (.invokevirtual 108, 3) := by decide +kernel
theorem dL_asks_41 : decode cL_asks 41 = .ok (.ladd, 1) := by decide +kernel
theorem dL_asks_42 : decode cL_asks 42 = .ok (.lconst 0, 1) := by decide +kernel
theorem dL_asks_43 : decode cL_asks 43 = .ok (.lcmp, 1) := by decide +kernel
theorem dL_asks_44 : decode cL_asks 44 = .ok (.ifCond .lt 7, 3) := by decide +kernel
theorem dL_asks_47 : decode cL_asks 47 = .ok (.iconst 1, 1) := by decide +kernel
theorem dL_asks_48 : decode cL_asks 48 = .ok (.goto 4, 3) := by decide +kernel
theorem dL_asks_51 : decode cL_asks 51 = .ok (.iconst 0, 1) := by decide +kernel
theorem dL_asks_52 : decode cL_asks 52 = .ok (.istore 5, 2) := by decide +kernel
theorem dL_asks_54 : decode cL_asks 54 = .ok (.iconst 0, 1) := by decide +kernel
theorem dL_asks_55 : decode cL_asks 55 = .ok (.istore 6, 2) := by decide +kernel
theorem dL_asks_57 : decode cL_asks 57 = .ok (.iload 6, 2) := by decide +kernel
theorem dL_asks_59 : decode cL_asks 59 = .ok (.aload_n 1, 1) := by decide +kernel
theorem dL_asks_60 : decode cL_asks 60 = .ok (.iconst 1, 1) := by decide +kernel
theorem dL_asks_61 : decode cL_asks 61 = .ok (.iaload, 1) := by decide +kernel
theorem dL_asks_62 : decode cL_asks 62 = .ok (.if_icmp .ge 67, 3) := by decide +kernel
theorem dL_asks_65 : decode cL_asks 65 = .ok (.iload 5, 2) := by decide +kernel
theorem dL_asks_67 : decode cL_asks 67 = .ok (.aload_n 0, 1) := by decide +kernel
theorem dL_asks_68 : decode cL_asks 68 = .ok (.iload 4, 2) := by decide +kernel
theorem dL_asks_70 : decode cL_asks 70 = .ok (.iload 6, 2) := by decide +kernel
theorem dL_asks_72 : decode cL_asks 72 = .ok (.invokevirtual 83, 3) := by decide +kernel
theorem dL_asks_75 : decode cL_asks 75 = .ok (.lconst 0, 1) := by decide +kernel
theorem dL_asks_76 : decode cL_asks 76 = .ok (.lcmp, 1) := by decide +kernel
theorem dL_asks_77 : decode cL_asks 77 = .ok (.ifCond .lt 7, 3) := by decide +kernel
theorem dL_asks_80 : decode cL_asks 80 = .ok (.iconst 1, 1) := by decide +kernel
theorem dL_asks_81 : decode cL_asks 81 = .ok (.goto 4, 3) := by decide +kernel
theorem dL_asks_84 : decode cL_asks 84 = .ok (.iconst 0, 1) := by decide +kernel
theorem dL_asks_85 : decode cL_asks 85 = .ok (.iand, 1) := by decide +kernel
theorem dL_asks_86 : decode cL_asks 86 = .ok (.istore 5, 2) := by decide +kernel
theorem dL_asks_88 : decode cL_asks 88 = .ok (.aload_n 0, 1) := by decide +kernel
theorem dL_asks_89 : decode cL_asks 89 = .ok (.iload 4, 2) := by decide +kernel
theorem dL_asks_91 : decode cL_asks 91 = .ok (.iload 6, 2) := by decide +kernel
theorem dL_asks_93 : decode cL_asks 93 = .ok (.invokevirtual 83, 3) := by decide +kernel
theorem dL_asks_96 : decode cL_asks 96 = .ok (.aload_n 0, 1) := by decide +kernel
theorem dL_asks_97 : decode cL_asks 97 = .ok (.iload 4, 2) := by decide +kernel
theorem dL_asks_99 : decode cL_asks 99 = .ok (.iload 6, 2) := by decide +kernel
theorem dL_asks_101 : decode cL_asks 101 = .ok (.invokevirtual 79, 3) := by decide +kernel
theorem dL_asks_104 : decode cL_asks 104 = .ok (.lcmp, 1) := by decide +kernel
theorem dL_asks_105 : decode cL_asks 105 = .ok (.ifCond .gt 16, 3) := by decide +kernel
theorem dL_asks_108 : decode cL_asks 108 = .ok (.aload_n 0, 1) := by decide +kernel
theorem dL_asks_109 : decode cL_asks 109 = .ok (.iload 4, 2) := by decide +kernel
theorem dL_asks_111 : decode cL_asks 111 = .ok (.iload 6, 2) := by decide +kernel
theorem dL_asks_113 : decode cL_asks 113 = .ok (.invokevirtual 79, 3) := by decide +kernel
theorem dL_asks_116 : decode cL_asks 116 = .ok (.lconst 0, 1) := by decide +kernel
theorem dL_asks_117 : decode cL_asks 117 = .ok (.lcmp, 1) := by decide +kernel
theorem dL_asks_118 : decode cL_asks 118 = .ok (.ifCond .ge 5, 3) := by decide +kernel
theorem dL_asks_121 : decode cL_asks 121 = .ok (.iconst 0, 1) := by decide +kernel
theorem dL_asks_122 : decode cL_asks 122 = .ok (.ireturn, 1) := by decide +kernel
theorem dL_asks_123 : decode cL_asks 123 = .ok (.iinc 6 1, 3) := by decide +kernel
theorem dL_asks_126 : decode cL_asks 126 = .ok (.goto (-69), 3) := by decide +kernel
theorem dL_asks_129 : decode cL_asks 129 = .ok (.aload_n 0, 1) := by decide +kernel
theorem dL_asks_130 : decode cL_asks 130 = .ok (.iload 4, 2) := by decide +kernel
theorem dL_asks_132 : decode cL_asks 132 = .ok (.invokevirtual 111, 3) := by decide +kernel
theorem dL_asks_135 : decode cL_asks 135 = .ok (.iload 5, 2) := by decide +kernel
theorem dL_asks_137 : decode cL_asks 137 = .ok (.if_icmp .ne 52, 3) := by decide +kernel
theorem dL_asks_140 : decode cL_asks 140 = .ok (.aload_n 0, 1) := by decide +kernel
theorem dL_asks_141 : decode cL_asks 141 = .ok (.iload 4, 2) := by decide +kernel
theorem dL_asks_143 : decode cL_asks 143 = .ok (.invokevirtual 114, 3) := by decide +kernel
theorem dL_asks_146 : decode cL_asks 146 = .ok (.dconst 0, 1) := by decide +kernel
theorem dL_asks_147 : decode cL_asks 147 = .ok (.dcmp .g, 1) := by decide +kernel
theorem dL_asks_148 : decode cL_asks 148 = .ok (.ifCond .ge 14, 3) := by decide +kernel
theorem dL_asks_151 : decode cL_asks 151 = .ok (.aload_n 0, 1) := by decide +kernel
theorem dL_asks_152 : decode cL_asks 152 = .ok (.iload 4, 2) := by decide +kernel
theorem dL_asks_154 : decode cL_asks 154 = .ok (.invokevirtual 108, 3) := by decide +kernel
theorem dL_asks_157 : decode cL_asks 157 = .ok (.lconst 0, 1) := by decide +kernel
theorem dL_asks_158 : decode cL_asks 158 = .ok (.lcmp, 1) := by decide +kernel
theorem dL_asks_159 : decode cL_asks 159 = .ok (.ifCond .ge 30, 3) := by decide +kernel
theorem dL_asks_162 : decode cL_asks 162 = .ok (.aload_n 0, 1) := by decide +kernel
theorem dL_asks_163 : decode cL_asks 163 = .ok (.iload 4, 2) := by decide +kernel
theorem dL_asks_165 : decode cL_asks 165 = .ok (.invokevirtual 68, 3) := by decide +kernel
theorem dL_asks_168 : decode cL_asks 168 = .ok (.aload_n 0, 1) := by decide +kernel
theorem dL_asks_169 : decode cL_asks 169 = .ok (.iload 4, 2) := by decide +kernel
theorem dL_asks_171 : decode cL_asks 171 = .ok (.invokevirtual 74, 3) := by decide +kernel
theorem dL_asks_174 : decode cL_asks 174 = .ok (.lcmp, 1) := by decide +kernel
theorem dL_asks_175 : decode cL_asks 175 = .ok (.ifCond .lt 16, 3) := by decide +kernel
theorem dL_asks_178 : decode cL_asks 178 = .ok (.aload_n 0, 1) := by decide +kernel
theorem dL_asks_179 : decode cL_asks 179 = .ok (.iload 4, 2) := by decide +kernel
theorem dL_asks_181 : decode cL_asks 181 = .ok (.invokevirtual 114, 3) := by decide +kernel
theorem dL_asks_184 : decode cL_asks 184 = .ok (.dconst 0, 1) := by decide +kernel
theorem dL_asks_185 : decode cL_asks 185 = .ok (.dcmp .l, 1) := by decide +kernel
theorem dL_asks_186 : decode cL_asks 186 = .ok (.ifCond .eq 5, 3) := by decide +kernel
theorem dL_asks_189 : decode cL_asks 189 = .ok (.iconst 0, 1) := by decide +kernel
theorem dL_asks_190 : decode cL_asks 190 = .ok (.ireturn, 1) := by decide +kernel
theorem dL_asks_191 : decode cL_asks 191 = .ok (.iinc 4 1, 3) := by decide +kernel
theorem dL_asks_194 : decode cL_asks 194 = .ok (.goto (-189), 3) := by decide +kernel
theorem dL_asks_197 : decode cL_asks 197 = .ok (.iconst 0, 1) := by decide +kernel
theorem dL_asks_198 : decode cL_asks 198 = .ok (.istore 4, 2) := by decide +kernel
theorem dL_asks_200 : decode cL_asks 200 = .ok (.iload 4, 2) := by decide +kernel
theorem dL_asks_202 : decode cL_asks 202 = .ok (.aload_n 1, 1) := by decide +kernel
theorem dL_asks_203 : decode cL_asks 203 = .ok (.iconst 1, 1) := by decide +kernel
theorem dL_asks_204 : decode cL_asks 204 = .ok (.iaload, 1) := by decide +kernel
theorem dL_asks_205 : decode cL_asks 205 = .ok (.if_icmp .ge 56, 3) := by decide +kernel
theorem dL_asks_208 : decode cL_asks 208 = .ok (.lconst 0, 1) := by decide +kernel
theorem dL_asks_209 : decode cL_asks 209 = .ok (.lstore 5, 2) := by decide +kernel
theorem dL_asks_211 : decode cL_asks 211 = .ok (.iconst 0, 1) := by decide +kernel
theorem dL_asks_212 : decode cL_asks 212 = .ok (.istore 7, 2) := by decide +kernel
theorem dL_asks_214 : decode cL_asks 214 = .ok (.iload 7, 2) := by decide +kernel
theorem dL_asks_216 : decode cL_asks 216 = .ok (.aload_n 1, 1) := by decide +kernel
theorem dL_asks_217 : decode cL_asks 217 = .ok (.iconst 0, 1) := by decide +kernel
theorem dL_asks_218 : decode cL_asks 218 = .ok (.iaload, 1) := by decide +kernel
theorem dL_asks_219 : decode cL_asks 219 = .ok (.if_icmp .ge 22, 3) := by decide +kernel
theorem dL_asks_222 : decode cL_asks 222 = .ok (.lload 5, 2) := by decide +kernel
theorem dL_asks_224 : decode cL_asks 224 = .ok (.aload_n 0, 1) := by decide +kernel
theorem dL_asks_225 : decode cL_asks 225 = .ok (.iload 7, 2) := by decide +kernel
theorem dL_asks_227 : decode cL_asks 227 = .ok (.iload 4, 2) := by decide +kernel
theorem dL_asks_229 : decode cL_asks 229 = .ok (.invokevirtual 79, 3) := by decide +kernel
theorem dL_asks_232 : decode cL_asks 232 = .ok (.ladd, 1) := by decide +kernel
theorem dL_asks_233 : decode cL_asks 233 = .ok (.lstore 5, 2) := by decide +kernel
theorem dL_asks_235 : decode cL_asks 235 = .ok (.iinc 7 1, 3) := by decide +kernel
theorem dL_asks_238 : decode cL_asks 238 = .ok (.goto (-24), 3) := by decide +kernel
theorem dL_asks_241 : decode cL_asks 241 = .ok (.lload 5, 2) := by decide +kernel
theorem dL_asks_243 : decode cL_asks 243 = .ok (.aload_n 0, 1) := by decide +kernel
theorem dL_asks_244 : decode cL_asks 244 = .ok (.iload 4, 2) := by decide +kernel
theorem dL_asks_246 : decode cL_asks 246 = .ok (.invokevirtual 118, 3) := by decide +kernel
theorem dL_asks_249 : decode cL_asks 249 = .ok (.lcmp, 1) := by decide +kernel
theorem dL_asks_250 : decode cL_asks 250 = .ok (.ifCond .eq 5, 3) := by decide +kernel
theorem dL_asks_253 : decode cL_asks 253 = .ok (.iconst 0, 1) := by decide +kernel
theorem dL_asks_254 : decode cL_asks 254 = .ok (.ireturn, 1) := by decide +kernel
theorem dL_asks_255 : decode cL_asks 255 = .ok (.iinc 4 1, 3) := by decide +kernel
theorem dL_asks_258 : decode cL_asks 258 = .ok (.goto (-58), 3) := by decide +kernel
theorem dL_asks_261 : decode cL_asks 261 = .ok (.iconst 0, 1) := by decide +kernel
theorem dL_asks_262 : decode cL_asks 262 = .ok (.istore 4, 2) := by decide +kernel
theorem dL_asks_264 : decode cL_asks 264 = .ok (.iload 4, 2) := by decide +kernel
theorem dL_asks_266 : decode cL_asks 266 = .ok (.aload_n 1, 1) := by decide +kernel
theorem dL_asks_267 : decode cL_asks 267 = .ok (.iconst 2, 1) := by decide +kernel
theorem dL_asks_268 : decode cL_asks 268 = .ok (.iaload, 1) := by decide +kernel
theorem dL_asks_269 : decode cL_asks 269 = .ok (.if_icmp .ge 73, 3) := by decide +kernel
theorem dL_asks_272 : decode cL_asks 272 = .ok (.aload_n 0, 1) := by decide +kernel
theorem dL_asks_273 : decode cL_asks 273 = .ok (.iload 4, 2) := by decide +kernel
theorem dL_asks_275 : decode cL_asks 275 = .ok (.invokevirtual 121, 3) := by decide +kernel
theorem dL_asks_278 : decode cL_asks 278 = .ok (.istore 5, 2) := by decide +kernel
theorem dL_asks_280 : decode cL_asks 280 = .ok (.aload_n 0, 1) := by decide +kernel
theorem dL_asks_281 : decode cL_asks 281 = .ok (.iload 4, 2) := by decide +kernel
theorem dL_asks_283 : decode cL_asks 283 = .ok (.invokevirtual 88, 3) := by decide +kernel
theorem dL_asks_286 : decode cL_asks 286 = .ok (.istore 6, 2) := by decide +kernel
theorem dL_asks_288 : decode cL_asks 288 = .ok (.iload 5, 2) := by decide +kernel
theorem dL_asks_290 : decode cL_asks 290 = .ok (.iconst (-1), 1) := by decide +kernel
theorem dL_asks_291 : decode cL_asks 291 = .ok (.if_icmp .lt 43, 3) := by decide +kernel
theorem dL_asks_294 : decode cL_asks 294 = .ok (.iload 5, 2) := by decide +kernel
theorem dL_asks_296 : decode cL_asks 296 = .ok (.aload_n 1, 1) := by decide +kernel
theorem dL_asks_297 : decode cL_asks 297 = .ok (.iconst 3, 1) := by decide +kernel
theorem dL_asks_298 : decode cL_asks 298 = .ok (.iaload, 1) := by decide +kernel
theorem dL_asks_299 : decode cL_asks 299 = .ok (.if_icmp .ge 35, 3) := by decide +kernel
theorem dL_asks_302 : decode cL_asks 302 = .ok (.iload 6, 2) := by decide +kernel
theorem dL_asks_304 : decode cL_asks 304 = .ok (.iconst 1, 1) := by decide +kernel
theorem dL_asks_305 : decode cL_asks 305 = .ok (.if_icmp .ne 8, 3) := by decide +kernel
theorem dL_asks_308 : decode cL_asks 308 = .ok (.iload 5, 2) := by decide +kernel
theorem dL_asks_310 : decode cL_asks 310 = .ok (.ifCond .lt 24, 3) := by decide +kernel
theorem dL_asks_313 : decode cL_asks 313 = .ok (.iload 6, 2) := by decide +kernel
theorem dL_asks_315 : decode cL_asks 315 = .ok (.iconst 2, 1) := by decide +kernel
theorem dL_asks_316 : decode cL_asks 316 = .ok (.if_icmp .ne 8, 3) := by decide +kernel
theorem dL_asks_319 : decode cL_asks 319 = .ok (.iload 5, 2) := by decide +kernel
theorem dL_asks_321 : decode cL_asks 321 = .ok (.ifCond .lt 13, 3) := by decide +kernel
theorem dL_asks_324 : decode cL_asks 324 = .ok (.iload 6, 2) := by decide +kernel
theorem dL_asks_326 : decode cL_asks 326 = .ok (.ifCond .ne 10, 3) := by decide +kernel
theorem dL_asks_329 : decode cL_asks 329 = .ok (.iload 5, 2) := by decide +kernel
theorem dL_asks_331 : decode cL_asks 331 = .ok (.ifCond .lt 5, 3) := by decide +kernel
theorem dL_asks_334 : decode cL_asks 334 = .ok (.iconst 0, 1) := by decide +kernel
theorem dL_asks_335 : decode cL_asks 335 = .ok (.ireturn, 1) := by decide +kernel
theorem dL_asks_336 : decode cL_asks 336 = .ok (.iinc 4 1, 3) := by decide +kernel
theorem dL_asks_339 : decode cL_asks 339 = .ok (.goto (-75), 3) := by decide +kernel
theorem dL_asks_342 : decode cL_asks 342 = .ok (.lload_n 2, 1) := by decide +kernel
theorem dL_asks_343 : decode cL_asks 343 = .ok (.lconst 0, 1) := by decide +kernel
theorem dL_asks_344 : decode cL_asks 344 = .ok (.lcmp, 1) := by decide +kernel
theorem dL_asks_345 : decode cL_asks 345 = .ok (.ifCond .ne 31, 3) := by decide +kernel
theorem dL_asks_348 : decode cL_asks 348 = .ok (.aload_n 0, 1) := by decide +kernel
theorem dL_asks_349 : decode cL_asks 349 = .ok (.invokevirtual 104, 3) := by decide +kernel
theorem dL_asks_352 : decode cL_asks 352 = .ok (.aload_n 0, 1) := by decide +kernel
theorem dL_asks_353 : decode cL_asks 353 = .ok (.invokevirtual 124, 3) := by decide +kernel
theorem dL_asks_356 : decode cL_asks 356 = .ok (.lcmp, 1) := by decide +kernel
theorem dL_asks_357 : decode cL_asks 357 = .ok (.ifCond .ne 19, 3) := by decide +kernel
theorem dL_asks_360 : decode cL_asks 360 = .ok (.aload_n 0, 1) := by decide +kernel
theorem dL_asks_361 : decode cL_asks 361 = .ok (.aload_n 1, 1) := by decide +kernel
theorem dL_asks_362 : decode cL_asks 362 = .ok (.iconst 3, 1) := by decide +kernel
theorem dL_asks_363 : decode cL_asks 363 = .ok (.iaload, 1) := by decide +kernel
theorem dL_asks_364 : decode cL_asks 364 = .ok (.invokestatic 127, 3) := by decide +kernel
theorem dL_asks_367 : decode cL_asks 367 = .ok (.bipush (-2), 2) := by decide +kernel
theorem dL_asks_369 : decode cL_asks 369 = .ok (.if_icmp .ne 7, 3) := by decide +kernel
theorem dL_asks_372 : decode cL_asks 372 = .ok (.iconst 1, 1) := by decide +kernel
theorem dL_asks_373 : decode cL_asks 373 = .ok (.goto 4, 3) := by decide +kernel
theorem dL_asks_376 : decode cL_asks 376 = .ok (.iconst 0, 1) := by decide +kernel
theorem dL_asks_377 : decode cL_asks 377 = .ok (.ireturn, 1) := by decide +kernel
