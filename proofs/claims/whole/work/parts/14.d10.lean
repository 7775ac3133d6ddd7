theorem dX12_pay_0 : decode cX12_pay 0 = .ok (.aload_n 0, 1) := by decide +kernel
theorem dX12_pay_1 : decode cX12_pay 1 = .ok (.getfield 7, 3) := by decide +kernel
theorem dX12_pay_4 : decode cX12_pay 4 = .ok (.sipush 1130, 3) := by decide +kernel
theorem dX12_pay_7 : decode cX12_pay 7 = .ok (.iload_n 1, 1) := by decide +kernel
theorem dX12_pay_8 : decode cX12_pay 8 = .ok (.iadd, 1) := by decide +kernel
theorem dX12_pay_9 : decode cX12_pay 9 = .ok (.lconst 1, 1) := by decide +kernel
theorem dX12_pay_10 : decode cX12_pay 10 = .ok (.lastore, 1) := by decide +kernel
theorem dX12_pay_11 : decode cX12_pay 11 = .ok (.aload_n 0, 1) := by decide +kernel
theorem dX12_pay_12 : decode cX12_pay 12 = .ok (.getfield 7, 3) := by decide +kernel
theorem dX12_pay_15 : decode cX12_pay 15 = .ok (.sipush 1050, 3) := by decide +kernel
theorem dX12_pay_18 : decode cX12_pay 18 = .ok (.iload_n 1, 1) := by decide +kernel
theorem dX12_pay_19 : decode cX12_pay 19 = .ok (.iadd, 1) := by decide +kernel
theorem dX12_pay_20 : decode cX12_pay 20 = .ok (.laload, 1) := by decide +kernel
theorem dX12_pay_21 : decode cX12_pay 21 = .ok (.lconst 1, 1) := by decide +kernel
theorem dX12_pay_22 : decode cX12_pay 22 = .ok (.lcmp, 1) := by decide +kernel
theorem dX12_pay_23 : decode cX12_pay 23 = .ok (.ifCond .ne 9, 3) := by decide +kernel
theorem dX12_pay_26 : decode cX12_pay 26 = .ok (.aload_n 0, 1) := by decide +kernel
theorem dX12_pay_27 : decode cX12_pay 27 = .ok (.iload_n 1, 1) := by decide +kernel
theorem dX12_pay_28 : decode cX12_pay 28 = .ok (.invokevirtual 225, 3) := by decide +kernel
theorem dX12_pay_31 : decode cX12_pay 31 = .ok (.return_, 1) := by decide +kernel
theorem dX12_pay_32 : decode cX12_pay 32 = .ok (.aload_n 0, 1) := by decide +kernel
theorem dX12_pay_33 : decode cX12_pay 33 = .ok (.getfield 7, 3) := by decide +kernel
theorem dX12_pay_36 : decode cX12_pay 36 = .ok (.sipush 1050, 3) := by decide +kernel
theorem dX12_pay_39 : decode cX12_pay 39 = .ok (.iload_n 1, 1) := by decide +kernel
theorem dX12_pay_40 : decode cX12_pay 40 = .ok (.iadd, 1) := by decide +kernel
theorem dX12_pay_41 : decode cX12_pay 41 = .ok (.laload, 1) := by decide +kernel
theorem dX12_pay_42 : decode cX12_pay 42 = .ok (.lconst 0, 1) := by decide +kernel
theorem dX12_pay_43 : decode cX12_pay 43 = .ok (.lcmp, 1) := by decide +kernel
theorem dX12_pay_44 : decode cX12_pay 44 = .ok (.ifCond .ne 11, 3) := by decide +kernel
theorem dX12_pay_47 : decode cX12_pay 47 = .ok (.aload_n 0, 1) := by decide +kernel
theorem dX12_pay_48 : decode cX12_pay 48 = .ok (.iload_n 1, 1) := by decide +kernel
theorem dX12_pay_49 : decode cX12_pay 49 = .ok (.invokevirtual 228, 3) := by decide +kernel
theorem dX12_pay_52 : decode cX12_pay 52 = .ok (.goto 8, 3) := by decide +kernel
theorem dX12_pay_55 : decode cX12_pay 55 = .ok (.aload_n 0, 1) := by decide +kernel
theorem dX12_pay_56 : decode cX12_pay 56 = .ok (.iload_n 1, 1) := by decide +kernel
theorem dX12_pay_57 : decode cX12_pay 57 = .ok (.invokevirtual 231, 3) := by decide +kernel
theorem dX12_pay_60 : decode cX12_pay 60 = .ok (.iconst 0, 1) := by decide +kernel
theorem dX12_pay_61 : decode cX12_pay 61 = .ok (.istore_n 2, 1) := by decide +kernel
theorem dX12_pay_62 : decode cX12_pay 62 = .ok (.iload_n 2, 1) := by decide +kernel
theorem dX12_pay_63 : decode cX12_pay 63 = .ok (.i2l, 1) := by decide +kernel
theorem dX12_pay_64 : decode cX12_pay 64 = .ok (.aload_n 0, 1) := by decide +kernel
theorem dX12_pay_65 : decode cX12_pay 65 = .ok (.getfield 7, 3) := by decide +kernel
theorem dX12_pay_68 : decode cX12_pay 68 = .ok (.sipush 1543, 3) := by decide +kernel
theorem dX12_pay_71 : decode cX12_pay 71 = .ok (.laload, 1) := by decide +kernel
theorem dX12_pay_72 : decode cX12_pay 72 = .ok (.lcmp, 1) := by decide +kernel
theorem dX12_pay_73 : decode cX12_pay 73 = .ok (.ifCond .ge 50, 3) := by decide +kernel
theorem dX12_pay_76 : decode cX12_pay 76 = .ok (.aload_n 0, 1) := by decide +kernel
theorem dX12_pay_77 : decode cX12_pay 77 = .ok (.aload_n 0, 1) := by decide +kernel
theorem dX12_pay_78 : decode cX12_pay 78 = .ok (.iload_n 2, 1) := by decide +kernel
theorem dX12_pay_79 : decode cX12_pay 79 = .ok (.invokevirtual 94, 3) := by decide +kernel
theorem dX12_pay_82 : decode cX12_pay 82 = .ok (.aload_n 0, 1) := by decide +kernel
theorem dX12_pay_83 : decode cX12_pay 83 = .ok (.iload_n 2, 1) := by decide +kernel
theorem dX12_pay_84 : decode cX12_pay 84 = .ok (.invokevirtual 98, 3) := by decide +kernel
theorem dX12_pay_87 : decode cX12_pay 87 = .ok (.aload_n 0, 1) := by decide +kernel
theorem dX12_pay_88 : decode cX12_pay 88 = .ok (.getfield 7, 3) := by decide +kernel
theorem dX12_pay_91 : decode cX12_pay 91 = .ok (.sipush 1340, 3) := by decide +kernel
theorem dX12_pay_94 : decode cX12_pay 94 = .ok (.bipush 20, 2) := by decide +kernel
theorem dX12_pay_96 : decode cX12_pay 96 = .ok (.iload_n 1, 1) := by decide +kernel
theorem dX12_pay_97 : decode cX12_pay 97 = .ok (.imul, 1) := by decide +kernel
theorem dX12_pay_98 : decode cX12_pay 98 = .ok (.iadd, 1) := by decide +kernel
theorem dX12_pay_99 : decode cX12_pay 99 = .ok (.iload_n 2, 1) := by decide +kernel
theorem dX12_pay_100 : decode cX12_pay 100 = .ok (.iadd, 1) := by decide +kernel
theorem dX12_pay_101 : decode cX12_pay 101 = .ok (.laload, 1) := by decide +kernel
theorem dX12_pay_102 : decode cX12_pay 102 = .ok (.aload_n 0, 1) := by decide +kernel
theorem dX12_pay_103 : decode cX12_pay 103 = .ok (.getfield 7, 3) := by decide +kernel
theorem dX12_pay_106 : decode cX12_pay 106 = .ok (.sipush 1070, 3) := by decide +kernel
theorem dX12_pay_109 : decode cX12_pay 109 = .ok (.iload_n 1, 1) := by decide +kernel
theorem dX12_pay_110 : decode cX12_pay 110 = .ok (.iadd, 1) := by decide +kernel
theorem dX12_pay_111 : decode cX12_pay 111 = .ok (.laload, 1) := by decide +kernel
theorem dX12_pay_112 : decode cX12_pay 112 = .ok (.lmul, 1) := by decide +kernel
theorem dX12_pay_113 : decode cX12_pay 113 = .ok (.invokevirtual 208, 3) := by decide +kernel
theorem dX12_pay_116 : decode cX12_pay 116 = .ok (.pop, 1) := by decide +kernel
theorem dX12_pay_117 : decode cX12_pay 117 = .ok (.iinc 2 1, 3) := by decide +kernel
theorem dX12_pay_120 : decode cX12_pay 120 = .ok (.goto (-58), 3) := by decide +kernel
theorem dX12_pay_123 : decode cX12_pay 123 = .ok (.return_, 1) := by decide +kernel
theorem dX12_endDay_0 : decode cX12_endDay 0 = .ok (.aload_n 0, 1) := by decide +kernel
theorem dX12_endDay_1 : decode cX12_endDay 1 = .ok (.aload_n 0, 1) := by decide +kernel
theorem dX12_endDay_2 : decode cX12_endDay 2 = .ok (.getfield 7, 3) := by decide +kernel
theorem dX12_endDay_5 : decode cX12_endDay 5 = .ok (.sipush 1547, 3) := by decide +kernel
theorem dX12_endDay_8 : decode cX12_endDay 8 = .ok (.laload, 1) := by decide +kernel
theorem dX12_endDay_9 : decode cX12_endDay 9 = .ok (.ldc2_w 106, 3) := by decide +kernel
theorem dX12_endDay_12 : decode cX12_endDay 12 = .ok (.lcmp, 1) := by decide +kernel
theorem dX12_endDay_13 : decode cX12_endDay 13 = .ok (.ifCond .ne 7, 3) := by decide +kernel
theorem dX12_endDay_16 : decode cX12_endDay 16 = .ok (.iconst 1, 1) := by decide +kernel
theorem dX12_endDay_17 : decode cX12_endDay 17 = .ok (.goto 4, 3) := by decide +kernel
theorem dX12_endDay_20 : decode cX12_endDay 20 = .ok (.iconst 0, 1) := by decide +kernel
theorem dX12_endDay_21 : decode cX12_endDay 21 = .ok (.invokevirtual 61, 3) := by decide +kernel
theorem dX12_endDay_24 : decode cX12_endDay 24 = .ok (.ifCond .eq 5, 3) := by decide +kernel
theorem dX12_endDay_27 : decode cX12_endDay 27 = .ok (.iconst (-1), 1) := by decide +kernel
theorem dX12_endDay_28 : decode cX12_endDay 28 = .ok (.ireturn, 1) := by decide +kernel
theorem dX12_endDay_29 : decode cX12_endDay 29 = .ok (.iconst 0, 1) := by decide +kernel
theorem dX12_endDay_30 : decode cX12_endDay 30 = .ok (.istore_n 1, 1) := by decide +kernel
theorem dX12_endDay_31 : decode cX12_endDay 31 = .ok (.iload_n 1, 1) := by decide +kernel
theorem dX12_endDay_32 : decode cX12_endDay 32 = .ok (.i2l, 1) := by decide +kernel
theorem dX12_endDay_33 : decode cX12_endDay 33 = .ok (.aload_n 0, 1) := by decide +kernel
theorem dX12_endDay_34 : decode cX12_endDay 34 = .ok (.getfield 7, 3) := by decide +kernel
theorem dX12_endDay_37 : decode cX12_endDay 37 = .ok (.sipush 1546, 3) := by decide +kernel
theorem dX12_endDay_40 : decode cX12_endDay 40 = .ok (.laload, 1) := by decide +kernel
theorem dX12_endDay_41 : decode cX12_endDay 41 = .ok (.lcmp, 1) := by decide +kernel
theorem dX12_endDay_42 : decode cX12_endDay 42 = .ok (.ifCond .ge 63, 3) := by decide +kernel
theorem dX12_endDay_45 : decode cX12_endDay 45 = .ok (.aload_n 0, 1) := by decide +kernel
theorem dX12_endDay_46 : decode cX12_endDay 46 = .ok (.getfield 7, 3) := by decide +kernel
theorem dX12_endDay_49 : decode cX12_endDay 49 = .ok (.sipush 1100, 3) := by decide +kernel
theorem dX12_endDay_52 : decode cX12_endDay 52 = .ok (.iload_n 1, 1) := by decide +kernel
theorem dX12_endDay_53 : decode cX12_endDay 53 = .ok (.iadd, 1) := by decide +kernel
theorem dX12_endDay_54 : decode cX12_endDay 54 = .ok (.laload, 1) := by decide +kernel
theorem dX12_endDay_55 : decode cX12_endDay 55 = .ok (.aload_n 0, 1) := by decide +kernel
theorem dX12_endDay_56 : decode cX12_endDay 56 = .ok (.getfield 7, 3) := by decide +kernel
theorem dX12_endDay_59 : decode cX12_endDay 59 = .ok (.sipush 1547, 3) := by decide +kernel
theorem dX12_endDay_62 : decode cX12_endDay 62 = .ok (.laload, 1) := by decide +kernel
theorem dX12_endDay_63 : decode cX12_endDay 63 = .ok (.lcmp, 1) := by decide +kernel
theorem dX12_endDay_64 : decode cX12_endDay 64 = .ok (.ifCond .ne 8, 3) := by decide +kernel
theorem dX12_endDay_67 : decode cX12_endDay 67 = .ok (.aload_n 0, 1) := by decide +kernel
theorem dX12_endDay_68 : decode cX12_endDay 68 = .ok (.iload_n 1, 1) := by decide +kernel
theorem dX12_endDay_69 : decode cX12_endDay 69 = .ok (.invokevirtual 234, 3) := by decide +kernel
theorem dX12_endDay_72 : decode cX12_endDay 72 = .ok (.aload_n 0, 1) := by decide +kernel
theorem dX12_endDay_73 : decode cX12_endDay 73 = .ok (.getfield 7, 3) := by decide +kernel
theorem dX12_endDay_76 : decode cX12_endDay 76 = .ok (.sipush 1110, 3) := by decide +kernel
theorem dX12_endDay_79 : decode cX12_endDay 79 = .ok (.iload_n 1, 1) := by decide +kernel
theorem dX12_endDay_80 : decode cX12_endDay 80 = .ok (.iadd, 1) := by decide +kernel
theorem dX12_endDay_81 : decode cX12_endDay 81 = .ok (.laload, 1) := by decide +kernel
theorem dX12_endDay_82 : decode cX12_endDay 82 = .ok (.aload_n 0, 1) := by decide +kernel
theorem dX12_endDay_83 : decode cX12_endDay 83 = .ok (.getfield 7, 3) := by decide +kernel
theorem dX12_endDay_86 : decode cX12_endDay 86 = .ok (.sipush 1547, 3) := by decide +kernel
theorem dX12_endDay_89 : decode cX12_endDay 89 = .ok (.laload, 1) := by decide +kernel
theorem dX12_endDay_90 : decode cX12_endDay 90 = .ok (.lcmp, 1) := by decide +kernel
theorem dX12_endDay_91 : decode cX12_endDay 91 = .ok (.ifCond .ne 8, 3) := by decide +kernel
theorem dX12_endDay_94 : decode cX12_endDay 94 = .ok (.aload_n 0, 1) := by decide +kernel
theorem dX12_endDay_95 : decode cX12_endDay 95 = .ok (.iload_n 1, 1) := by decide +kernel
theorem dX12_endDay_96 : decode cX12_endDay 96 = .ok (.invokevirtual 237, 3) := by decide +kernel
theorem dX12_endDay_99 : decode cX12_endDay 99 = .ok (.iinc 1 1, 3) := by decide +kernel
theorem dX12_endDay_102 : decode cX12_endDay 102 = .ok (.goto (-71), 3) := by decide +kernel
theorem dX12_endDay_105 : decode cX12_endDay 105 = .ok (.iconst 0, 1) := by decide +kernel
theorem dX12_endDay_106 : decode cX12_endDay 106 = .ok (.istore_n 1, 1) := by decide +kernel
theorem dX12_endDay_107 : decode cX12_endDay 107 = .ok (.iconst 0, 1) := by decide +kernel
theorem dX12_endDay_108 : decode cX12_endDay 108 = .ok (.istore_n 2, 1) := by decide +kernel
theorem dX12_endDay_109 : decode cX12_endDay 109 = .ok (.iload_n 2, 1) := by decide +kernel
theorem dX12_endDay_110 : decode cX12_endDay 110 = .ok (.i2l, 1) := by decide +kernel
theorem dX12_endDay_111 : decode cX12_endDay 111 = .ok (.aload_n 0, 1) := by decide +kernel
theorem dX12_endDay_112 : decode cX12_endDay 112 = .ok (.getfield 7, 3) := by decide +kernel
theorem dX12_endDay_115 : decode cX12_endDay 115 = .ok (.sipush 1543, 3) := by decide +kernel
theorem dX12_endDay_118 : decode cX12_endDay 118 = .ok (.laload, 1) := by decide +kernel
theorem dX12_endDay_119 : decode cX12_endDay 119 = .ok (.lcmp, 1) := by decide +kernel
theorem dX12_endDay_120 : decode cX12_endDay 120 = .ok (.ifCond .ge 29, 3) := by decide +kernel
theorem dX12_endDay_123 : decode cX12_endDay 123 = .ok (.iload_n 1, 1) := by decide +kernel
theorem dX12_endDay_124 : decode cX12_endDay 124 = .ok (.aload_n 0, 1) := by decide +kernel
theorem dX12_endDay_125 : decode cX12_endDay 125 = .ok (.iload_n 2, 1) := by decide +kernel
theorem dX12_endDay_126 : decode cX12_endDay 126 = .ok (.invokevirtual 132, 3) := by decide +kernel
theorem dX12_endDay_129 : decode cX12_endDay 129 = .ok (.ifCond .eq 11, 3) := by decide +kernel
theorem dX12_endDay_132 : decode cX12_endDay 132 = .ok (.aload_n 0, 1) := by decide +kernel
theorem dX12_endDay_133 : decode cX12_endDay 133 = .ok (.iload_n 2, 1) := by decide +kernel
theorem dX12_endDay_134 : decode cX12_endDay 134 = .ok (.invokevirtual 240, 3) := by decide +kernel
theorem dX12_endDay_137 : decode cX12_endDay 137 = .ok (.goto 4, 3) := by decide +kernel
theorem dX12_endDay_140 : decode cX12_endDay 140 = .ok (.iconst 0, 1) := by decide +kernel
theorem dX12_endDay_141 : decode cX12_endDay 141 = .ok (.iadd, 1) := by decide +kernel
theorem dX12_endDay_142 : decode cX12_endDay 142 = .ok (.istore_n 1, 1) := by decide +kernel
theorem dX12_endDay_143 : decode cX12_endDay 143 = .ok (.iinc 2 1, 3) := by decide +kernel
theorem dX12_endDay_146 : decode cX12_endDay 146 = .ok (.goto (-37), 3) := by decide +kernel
theorem dX12_endDay_149 : decode cX12_endDay 149 = .ok (.iconst 0, 1) := by decide +kernel
theorem dX12_endDay_150 : decode cX12_endDay 150 = .ok (.istore_n 2, 1) := by decide +kernel
theorem dX12_endDay_151 : decode cX12_endDay 151 = .ok (.iload_n 2, 1) := by decide +kernel
theorem dX12_endDay_152 : decode cX12_endDay 152 = .ok (.i2l, 1) := by decide +kernel
theorem dX12_endDay_153 : decode cX12_endDay 153 = .ok (.aload_n 0, 1) := by decide +kernel
theorem dX12_endDay_154 : decode cX12_endDay 154 = .ok (.getfield 7, 3) := by decide +kernel
theorem dX12_endDay_157 : decode cX12_endDay 157 = .ok (.sipush 1545, 3) := by decide +kernel
theorem dX12_endDay_160 : decode cX12_endDay 160 = .ok (.laload, 1) := by decide +kernel
theorem dX12_endDay_161 : decode cX12_endDay 161 = .ok (.lcmp, 1) := by decide +kernel
theorem dX12_endDay_162 : decode cX12_endDay 162 = .ok (.ifCond .ge 103, 3) := by decide +kernel
theorem dX12_endDay_165 : decode cX12_endDay 165 = .ok (.aload_n 0, 1) := by decide +kernel
theorem dX12_endDay_166 : decode cX12_endDay 166 = .ok (.getfield 7, 3) := by decide +kernel
theorem dX12_endDay_169 : decode cX12_endDay 169 = .ok (.sipush 1030, 3) := by decide +kernel
theorem dX12_endDay_172 : decode cX12_endDay 172 = .ok (.iload_n 2, 1) := by decide +kernel
theorem dX12_endDay_173 : decode cX12_endDay 173 = .ok (.iadd, 1) := by decide +kernel
theorem dX12_endDay_174 : decode cX12_endDay 174 = .ok (.laload, 1) := by decide +kernel
theorem dX12_endDay_175 : decode cX12_endDay 175 = .ok (.lconst 1, 1) := by decide +kernel
theorem dX12_endDay_176 : decode cX12_endDay 176 = .ok (.lcmp, 1) := by decide +kernel
theorem dX12_endDay_177 : decode cX12_endDay 177 = .ok (.ifCond .ne 22, 3) := by decide +kernel
theorem dX12_endDay_180 : decode cX12_endDay 180 = .ok (.aload_n 0, 1) := by decide +kernel
theorem dX12_endDay_181 : decode cX12_endDay 181 = .ok (.getfield 7, 3) := by decide +kernel
theorem dX12_endDay_184 : decode cX12_endDay 184 = .ok (.sipush 990, 3) := by decide +kernel
theorem dX12_endDay_187 : decode cX12_endDay 187 = .ok (.iload_n 2, 1) := by decide +kernel
theorem dX12_endDay_188 : decode cX12_endDay 188 = .ok (.iadd, 1) := by decide +kernel
theorem dX12_endDay_189 : decode cX12_endDay 189 = .ok (.laload, 1) := by decide +kernel
theorem dX12_endDay_190 : decode cX12_endDay 190 = .ok (.lconst 0, 1) := by decide +kernel
theorem dX12_endDay_191 : decode cX12_endDay 191 = .ok (.lcmp, 1) := by decide +kernel
theorem dX12_endDay_192 : decode cX12_endDay 192 = .ok (.ifCond .lt 7, 3) := by decide +kernel
theorem dX12_endDay_195 : decode cX12_endDay 195 = .ok (.iconst 1, 1) := by decide +kernel
theorem dX12_endDay_196 : decode cX12_endDay 196 = .ok (.goto 4, 3) := by decide +kernel
theorem dX12_endDay_199 : decode cX12_endDay 199 = .ok (.iconst 0, 1) := by decide +kernel
theorem dX12_endDay_200 : decode cX12_endDay 200 = .ok (.istore_n 3, 1) := by decide +kernel
theorem dX12_endDay_201 : decode cX12_endDay 201 = .ok (.iload_n 1, 1) := by decide +kernel
theorem dX12_endDay_202 : decode cX12_endDay 202 = .ok (.iload_n 3, 1) := by decide +kernel
theorem dX12_endDay_203 : decode cX12_endDay 203 = .ok (.ifCond .eq 53, 3) := by decide +kernel
theorem dX12_endDay_206 : decode cX12_endDay 206 = .ok (.aload_n 0, 1) := by decide +kernel
theorem dX12_endDay_207 : decode cX12_endDay 207 = .ok (.aload_n 0, 1) := by decide +kernel
theorem dX12_endDay_208 : decode cX12_endDay 208 = .ok (.getfield 7, 3) := by decide +kernel
theorem dX12_endDay_211 : decode cX12_endDay 211 = .ok (.sipush 930, 3) := by decide +kernel
theorem dX12_endDay_214 : decode cX12_endDay 214 = .ok (.iload_n 2, 1) := by decide +kernel
theorem dX12_endDay_215 : decode cX12_endDay 215 = .ok (.iadd, 1) := by decide +kernel
theorem dX12_endDay_216 : decode cX12_endDay 216 = .ok (.laload, 1) := by decide +kernel
theorem dX12_endDay_217 : decode cX12_endDay 217 = .ok (.l2i, 1) := by decide +kernel
theorem dX12_endDay_218 : decode cX12_endDay 218 = .ok (.aload_n 0, 1) := by decide +kernel
theorem dX12_endDay_219 : decode cX12_endDay 219 = .ok (.getfield 7, 3) := by decide +kernel
theorem dX12_endDay_222 : decode cX12_endDay 222 = .ok (.sipush 950, 3) := by decide +kernel
theorem dX12_endDay_225 : decode cX12_endDay 225 = .ok (.iload_n 2, 1) := by decide +kernel
theorem dX12_endDay_226 : decode cX12_endDay 226 = .ok (.iadd, 1) := by decide +kernel
theorem dX12_endDay_227 : decode cX12_endDay 227 = .ok (.laload, 1) := by decide +kernel
theorem dX12_endDay_228 : decode cX12_endDay 228 = .ok (.l2i, 1) := by decide +kernel
theorem dX12_endDay_229 : decode cX12_endDay 229 = .ok (.aload_n 0, 1) := by decide +kernel
theorem dX12_endDay_230 : decode cX12_endDay 230 = .ok (.getfield 7, 3) := by decide +kernel
theorem dX12_endDay_233 : decode cX12_endDay 233 = .ok (.sipush 990, 3) := by decide +kernel
theorem dX12_endDay_236 : decode cX12_endDay 236 = .ok (.iload_n 2, 1) := by decide +kernel
theorem dX12_endDay_237 : decode cX12_endDay 237 = .ok (.iadd, 1) := by decide +kernel
theorem dX12_endDay_238 : decode cX12_endDay 238 = .ok (.laload, 1) := by decide +kernel
theorem dX12_endDay_239 : decode cX12_endDay 239 = .ok (.aload_n 0, 1) := by decide +kernel
theorem dX12_endDay_240 : decode cX12_endDay 240 = .ok (.getfield 7, 3) := by decide +kernel
theorem dX12_endDay_243 : decode cX12_endDay 243 = .ok (.sipush 970, 3) := by decide +kernel
theorem dX12_endDay_246 : decode cX12_endDay 246 = .ok (.iload_n 2, 1) := by decide +kernel
theorem dX12_endDay_247 : decode cX12_endDay 247 = .ok (.iadd, 1) := by decide +kernel
theorem dX12_endDay_248 : decode cX12_endDay 248 = .ok (.laload, 1) := by decide +kernel
theorem dX12_endDay_249 : decode cX12_endDay 249 = .ok (.l2i, 1) := by decide +kernel
theorem dX12_endDay_250 : decode cX12_endDay 250 = .ok (.invokevirtual 215, 3) := by decide +kernel
theorem dX12_endDay_253 : decode cX12_endDay 253 = .ok (.goto 4, 3) := by decide +kernel
theorem dX12_endDay_256 : decode cX12_endDay 256 = .ok (.iconst 0, 1) := by decide +kernel
theorem dX12_endDay_257 : decode cX12_endDay 257 = .ok (.iadd, 1) := by decide +kernel
theorem dX12_endDay_258 : decode cX12_endDay 258 = .ok (.istore_n 1, 1) := by decide +kernel
theorem dX12_endDay_259 : decode cX12_endDay 259 = .ok (.iinc 2 1, 3) := by decide +kernel
theorem dX12_endDay_262 : decode cX12_endDay 262 = .ok (.goto (-111), 3) := by decide +kernel
theorem dX12_endDay_265 : decode cX12_endDay 265 = .ok (.iconst 0, 1) := by decide +kernel
theorem dX12_endDay_266 : decode cX12_endDay 266 = .ok (.istore_n 2, 1) := by decide +kernel
theorem dX12_endDay_267 : decode cX12_endDay 267 = .ok (.iload_n 2, 1) := by decide +kernel
theorem dX12_endDay_268 : decode cX12_endDay 268 = .ok (.i2l, 1) := by decide +kernel
theorem dX12_endDay_269 : decode cX12_endDay 269 = .ok (.aload_n 0, 1) := by decide +kernel
theorem dX12_endDay_270 : decode cX12_endDay 270 = .ok (.getfield 7, 3) := by decide +kernel
theorem dX12_endDay_273 : decode cX12_endDay 273 = .ok (.sipush 1543, 3) := by decide +kernel
theorem dX12_endDay_276 : decode cX12_endDay 276 = .ok (.laload, 1) := by decide +kernel
theorem dX12_endDay_277 : decode cX12_endDay 277 = .ok (.lcmp, 1) := by decide +kernel
theorem dX12_endDay_278 : decode cX12_endDay 278 = .ok (.ifCond .ge 118, 3) := by decide +kernel
theorem dX12_endDay_281 : decode cX12_endDay 281 = .ok (.aload_n 0, 1) := by decide +kernel
theorem dX12_endDay_282 : decode cX12_endDay 282 = .ok (.iload_n 2, 1) := by decide +kernel
theorem dX12_endDay_283 : decode cX12_endDay 283 = .ok (.invokevirtual 132, 3) := by decide +kernel
theorem dX12_endDay_286 : decode cX12_endDay 286 = .ok (.istore_n 3, 1) := by decide +kernel
theorem dX12_endDay_287 : decode cX12_endDay 287 = .ok (.aload_n 0, 1) := by decide +kernel
theorem dX12_endDay_288 : decode cX12_endDay 288 = .ok (.getfield 7, 3) := by decide +kernel
theorem dX12_endDay_291 : decode cX12_endDay 291 = .ok (.sipush 850, 3) := by decide +kernel
theorem dX12_endDay_294 : decode cX12_endDay 294 = .ok (.iload_n 2, 1) := by decide +kernel
theorem dX12_endDay_295 : decode cX12_endDay 295 = .ok (.iadd, 1) := by decide +kernel
theorem dX12_endDay_296 : decode cX12_endDay 296 = .ok (.dup2, 1) := by decide +kernel
theorem dX12_endDay_297 : decode cX12_endDay 297 = .ok (.laload, 1) := by decide +kernel
theorem dX12_endDay_298 : decode cX12_endDay 298 = .ok (.iload_n 3, 1) := by decide +kernel
theorem dX12_endDay_299 : decode cX12_endDay 299 = .ok (.ifCond .eq 7, 3) := by decide +kernel
theorem dX12_endDay_302 : decode cX12_endDay 302 = .ok (.lconst 1, 1) := by decide +kernel
theorem dX12_endDay_303 : decode cX12_endDay 303 = .ok (.goto 4, 3) := by decide +kernel
theorem dX12_endDay_306 : decode cX12_endDay 306 = .ok (.lconst 0, 1) := by decide +kernel
theorem dX12_endDay_307 : decode cX12_endDay 307 = .ok (.ladd, 1) := by decide +kernel
theorem dX12_endDay_308 : decode cX12_endDay 308 = .ok (.lastore, 1) := by decide +kernel
theorem dX12_endDay_309 : decode cX12_endDay 309 = .ok (.iload_n 3, 1) := by decide +kernel
theorem dX12_endDay_310 : decode cX12_endDay 310 = .ok (.ifCond .eq 80, 3) := by decide +kernel
theorem dX12_endDay_313 : decode cX12_endDay 313 = .ok (.aload_n 0, 1) := by decide +kernel
theorem dX12_endDay_314 : decode cX12_endDay 314 = .ok (.getfield 7, 3) := by decide +kernel
theorem dX12_endDay_317 : decode cX12_endDay 317 = .ok (.sipush 850, 3) := by decide +kernel
theorem dX12_endDay_320 : decode cX12_endDay 320 = .ok (.iload_n 2, 1) := by decide +kernel
theorem dX12_endDay_321 : decode cX12_endDay 321 = .ok (.iadd, 1) := by decide +kernel
theorem dX12_endDay_322 : decode cX12_endDay 322 = .ok (.laload, 1) := by decide +kernel
theorem dX12_endDay_323 : decode cX12_endDay 323 = .ok (.ldc2_w 243, 3) := by decide +kernel
theorem dX12_endDay_326 : decode cX12_endDay 326 = .ok (.lcmp, 1) := by decide +kernel
theorem dX12_endDay_327 : decode cX12_endDay 327 = .ok (.ifCond .ne 63, 3) := by decide +kernel
theorem dX12_endDay_330 : decode cX12_endDay 330 = .ok (.aload_n 0, 1) := by decide +kernel
theorem dX12_endDay_331 : decode cX12_endDay 331 = .ok (.iload_n 2, 1) := by decide +kernel
theorem dX12_endDay_332 : decode cX12_endDay 332 = .ok (.invokevirtual 200, 3) := by decide +kernel
theorem dX12_endDay_335 : decode cX12_endDay 335 = .ok (.ifCond .eq 55, 3) := by decide +kernel
theorem dX12_endDay_338 : decode cX12_endDay 338 = .ok (.aload_n 0, 1) := by decide +kernel
theorem dX12_endDay_339 : decode cX12_endDay 339 = .ok (.iload_n 2, 1) := by decide +kernel
theorem dX12_endDay_340 : decode cX12_endDay 340 = .ok (.invokevirtual 155, 3) := by decide +kernel
theorem dX12_endDay_343 : decode cX12_endDay 343 = .ok (.aload_n 0, 1) := by decide +kernel
theorem dX12_endDay_344 : decode cX12_endDay 344 = .ok (.getfield 7, 3) := by decide +kernel
theorem dX12_endDay_347 : decode cX12_endDay 347 = .ok (.sipush 790, 3) := by decide +kernel
theorem dX12_endDay_350 : decode cX12_endDay 350 = .ok (.iload_n 2, 1) := by decide +kernel
theorem dX12_endDay_351 : decode cX12_endDay 351 = .ok (.iadd, 1) := by decide +kernel
theorem dX12_endDay_352 : decode cX12_endDay 352 = .ok (.laload, 1) := by decide +kernel
theorem dX12_endDay_353 : decode cX12_endDay 353 = .ok (.lsub, 1) := by decide +kernel
theorem dX12_endDay_354 : decode cX12_endDay 354 = .ok (.lstore 4, 2) := by decide +kernel
theorem dX12_endDay_356 : decode cX12_endDay 356 = .ok (.aload_n 0, 1) := by decide +kernel
theorem dX12_endDay_357 : decode cX12_endDay 357 = .ok (.iload_n 2, 1) := by decide +kernel
theorem dX12_endDay_358 : decode cX12_endDay 358 = .ok (.iconst 2, 1) := by decide +kernel
theorem dX12_endDay_359 : decode cX12_endDay 359 = .ok (.invokevirtual 122, 3) := by decide +kernel
theorem dX12_endDay_362 : decode cX12_endDay 362 = .ok (.aload_n 0, 1) := by decide +kernel
theorem dX12_endDay_363 : decode cX12_endDay 363 = .ok (.aload_n 0, 1) := by decide +kernel
theorem dX12_endDay_364 : decode cX12_endDay 364 = .ok (.iload_n 2, 1) := by decide +kernel
theorem dX12_endDay_365 : decode cX12_endDay 365 = .ok (.invokevirtual 94, 3) := by decide +kernel
theorem dX12_endDay_368 : decode cX12_endDay 368 = .ok (.aload_n 0, 1) := by decide +kernel
theorem dX12_endDay_369 : decode cX12_endDay 369 = .ok (.iload_n 2, 1) := by decide +kernel
theorem dX12_endDay_370 : decode cX12_endDay 370 = .ok (.invokevirtual 98, 3) := by decide +kernel
theorem dX12_endDay_373 : decode cX12_endDay 373 = .ok (.lload 4, 2) := by decide +kernel
theorem dX12_endDay_375 : decode cX12_endDay 375 = .ok (.lconst 0, 1) := by decide +kernel
theorem dX12_endDay_376 : decode cX12_endDay 376 = .ok (.lcmp, 1) := by decide +kernel
theorem dX12_endDay_377 : decode cX12_endDay 377 = .ok (.ifCond .le 8, 3) := by decide +kernel
theorem dX12_endDay_380 : decode cX12_endDay 380 = .ok (.lload 4, 2) := by decide +kernel
theorem dX12_endDay_382 : decode cX12_endDay 382 = .ok (.goto 4, 3) := by decide +kernel
theorem dX12_endDay_385 : decode cX12_endDay 385 = .ok (.lconst 0, 1) := by decide +kernel
theorem dX12_endDay_386 : decode cX12_endDay 386 = .ok (.invokevirtual 208, 3) := by decide +kernel
theorem dX12_endDay_389 : decode cX12_endDay 389 = .ok (.pop, 1) := by decide +kernel
theorem dX12_endDay_390 : decode cX12_endDay 390 = .ok (.iinc 2 1, 3) := by decide +kernel
theorem dX12_endDay_393 : decode cX12_endDay 393 = .ok (.goto (-126), 3) := by decide +kernel
theorem dX12_endDay_396 : decode cX12_endDay 396 = .ok (.aload_n 0, 1) := by decide +kernel
theorem dX12_endDay_397 : decode cX12_endDay 397 = .ok (.getfield 7, 3) := by decide +kernel
theorem dX12_endDay_400 : decode cX12_endDay 400 = .ok (.sipush 1547, 3) := by decide +kernel
theorem dX12_endDay_403 : decode cX12_endDay 403 = .ok (.dup2, 1) := by decide +kernel
theorem dX12_endDay_404 : decode cX12_endDay 404 = .ok (.laload, 1) := by decide +kernel
theorem dX12_endDay_405 : decode cX12_endDay 405 = .ok (.lconst 1, 1) := by decide +kernel
theorem dX12_endDay_406 : decode cX12_endDay 406 = .ok (.ladd, 1) := by decide +kernel
theorem dX12_endDay_407 : decode cX12_endDay 407 = .ok (.lastore, 1) := by decide +kernel
theorem dX12_endDay_408 : decode cX12_endDay 408 = .ok (.iload_n 1, 1) := by decide +kernel
theorem dX12_endDay_409 : decode cX12_endDay 409 = .ok (.ireturn, 1) := by decide +kernel
theorem dX12_today_0 : decode cX12_today 0 = .ok (.aload_n 0, 1) := by decide +kernel
theorem dX12_today_1 : decode cX12_today 1 = .ok (.iconst 0, 1) := by decide +kernel
theorem dX12_today_2 : decode cX12_today 2 = .ok (.invokevirtual 61, 3) := by decide +kernel
theorem dX12_today_5 : decode cX12_today 5 = .ok (.pop, 1) := by decide +kernel
theorem dX12_today_6 : decode cX12_today 6 = .ok (.aload_n 0, 1) := by decide +kernel
theorem dX12_today_7 : decode cX12_today 7 = .ok (.getfield 7, 3) := by decide +kernel
theorem dX12_today_10 : decode cX12_today 10 = .ok (.sipush 1547, 3) := by decide +kernel
theorem dX12_today_13 : decode cX12_today 13 = .ok (.laload, 1) := by decide +kernel
theorem dX12_today_14 : decode cX12_today 14 = .ok (.l2i, 1) := by decide +kernel
theorem dX12_today_15 : decode cX12_today 15 = .ok (.ireturn, 1) := by decide +kernel
theorem dX12_recall_0 : decode cX12_recall 0 = .ok (.aload_n 0, 1) := by decide +kernel
theorem dX12_recall_1 : decode cX12_recall 1 = .ok (.iload_n 1, 1) := by decide +kernel
theorem dX12_recall_2 : decode cX12_recall 2 = .ok (.invokevirtual 245, 3) := by decide +kernel
theorem dX12_recall_5 : decode cX12_recall 5 = .ok (.istore_n 2, 1) := by decide +kernel
theorem dX12_recall_6 : decode cX12_recall 6 = .ok (.aload_n 0, 1) := by decide +kernel
theorem dX12_recall_7 : decode cX12_recall 7 = .ok (.iload_n 2, 1) := by decide +kernel
theorem dX12_recall_8 : decode cX12_recall 8 = .ok (.ifCond .ne 7, 3) := by decide +kernel
theorem dX12_recall_11 : decode cX12_recall 11 = .ok (.iconst 1, 1) := by decide +kernel
theorem dX12_recall_12 : decode cX12_recall 12 = .ok (.goto 38, 3) := by decide +kernel
theorem dX12_recall_15 : decode cX12_recall 15 = .ok (.aload_n 0, 1) := by decide +kernel
theorem dX12_recall_16 : decode cX12_recall 16 = .ok (.getfield 7, 3) := by decide +kernel
theorem dX12_recall_19 : decode cX12_recall 19 = .ok (.sipush 990, 3) := by decide +kernel
theorem dX12_recall_22 : decode cX12_recall 22 = .ok (.iload_n 1, 1) := by decide +kernel
theorem dX12_recall_23 : decode cX12_recall 23 = .ok (.iadd, 1) := by decide +kernel
theorem dX12_recall_24 : decode cX12_recall 24 = .ok (.laload, 1) := by decide +kernel
theorem dX12_recall_25 : decode cX12_recall 25 = .ok (.lconst 0, 1) := by decide +kernel
theorem dX12_recall_26 : decode cX12_recall 26 = .ok (.lcmp, 1) := by decide +kernel
theorem dX12_recall_27 : decode cX12_recall 27 = .ok (.ifCond .lt 18, 3) := by decide +kernel
theorem dX12_recall_30 : decode cX12_recall 30 = .ok (.aload_n 0, 1) := by decide +kernel
theorem dX12_recall_31 : decode cX12_recall 31 = .ok (.getfield 7, 3) := by decide +kernel
theorem dX12_recall_34 : decode cX12_recall 34 = .ok (.sipush 1030, 3) := by decide +kernel
theorem dX12_recall_37 : decode cX12_recall 37 = .ok (.iload_n 1, 1) := by decide +kernel
theorem dX12_recall_38 : decode cX12_recall 38 = .ok (.iadd, 1) := by decide +kernel
theorem dX12_recall_39 : decode cX12_recall 39 = .ok (.laload, 1) := by decide +kernel
theorem dX12_recall_40 : decode cX12_recall 40 = .ok (.lconst 1, 1) := by decide +kernel
theorem dX12_recall_41 : decode cX12_recall 41 = .ok (.lcmp, 1) := by decide +kernel
theorem dX12_recall_42 : decode cX12_recall 42 = .ok (.ifCond .ne 7, 3) := by decide +kernel
theorem dX12_recall_45 : decode cX12_recall 45 = .ok (.iconst 2, 1) := by decide +kernel
theorem dX12_recall_46 : decode cX12_recall 46 = .ok (.goto 4, 3) := by decide +kernel
theorem dX12_recall_49 : decode cX12_recall 49 = .ok (.iconst 0, 1) := by decide +kernel
theorem dX12_recall_50 : decode cX12_recall 50 = .ok (.invokevirtual 61, 3) := by decide +kernel
theorem dX12_recall_53 : decode cX12_recall 53 = .ok (.ifCond .eq 7, 3) := by decide +kernel
theorem dX12_recall_56 : decode cX12_recall 56 = .ok (.ldc2_w 81, 3) := by decide +kernel
theorem dX12_recall_59 : decode cX12_recall 59 = .ok (.lreturn, 1) := by decide +kernel
theorem dX12_recall_60 : decode cX12_recall 60 = .ok (.aload_n 0, 1) := by decide +kernel
theorem dX12_recall_61 : decode cX12_recall 61 = .ok (.getfield 7, 3) := by decide +kernel
theorem dX12_recall_64 : decode cX12_recall 64 = .ok (.sipush 1030, 3) := by decide +kernel
theorem dX12_recall_67 : decode cX12_recall 67 = .ok (.iload_n 1, 1) := by decide +kernel
theorem dX12_recall_68 : decode cX12_recall 68 = .ok (.iadd, 1) := by decide +kernel
theorem dX12_recall_69 : decode cX12_recall 69 = .ok (.lconst 1, 1) := by decide +kernel
theorem dX12_recall_70 : decode cX12_recall 70 = .ok (.lastore, 1) := by decide +kernel
theorem dX12_recall_71 : decode cX12_recall 71 = .ok (.aload_n 0, 1) := by decide +kernel
theorem dX12_recall_72 : decode cX12_recall 72 = .ok (.getfield 7, 3) := by decide +kernel
theorem dX12_recall_75 : decode cX12_recall 75 = .ok (.sipush 990, 3) := by decide +kernel
theorem dX12_recall_78 : decode cX12_recall 78 = .ok (.iload_n 1, 1) := by decide +kernel
theorem dX12_recall_79 : decode cX12_recall 79 = .ok (.iadd, 1) := by decide +kernel
theorem dX12_recall_80 : decode cX12_recall 80 = .ok (.laload, 1) := by decide +kernel
theorem dX12_recall_81 : decode cX12_recall 81 = .ok (.lreturn, 1) := by decide +kernel
theorem dX12_keep_0 : decode cX12_keep 0 = .ok (.aload_n 0, 1) := by decide +kernel
theorem dX12_keep_1 : decode cX12_keep 1 = .ok (.iconst 0, 1) := by decide +kernel
theorem dX12_keep_2 : decode cX12_keep 2 = .ok (.invokevirtual 61, 3) := by decide +kernel
theorem dX12_keep_5 : decode cX12_keep 5 = .ok (.pop, 1) := by decide +kernel
theorem dX12_keep_6 : decode cX12_keep 6 = .ok (.aload_n 0, 1) := by decide +kernel
theorem dX12_keep_7 : decode cX12_keep 7 = .ok (.iconst 1, 1) := by decide +kernel
theorem dX12_keep_8 : decode cX12_keep 8 = .ok (.putfield 248, 3) := by decide +kernel
theorem dX12_keep_11 : decode cX12_keep 11 = .ok (.iconst 0, 1) := by decide +kernel
theorem dX12_keep_12 : decode cX12_keep 12 = .ok (.istore_n 1, 1) := by decide +kernel
theorem dX12_keep_13 : decode cX12_keep 13 = .ok (.iload_n 1, 1) := by decide +kernel
theorem dX12_keep_14 : decode cX12_keep 14 = .ok (.sipush 1550, 3) := by decide +kernel
theorem dX12_keep_17 : decode cX12_keep 17 = .ok (.if_icmp .ge 21, 3) := by decide +kernel
theorem dX12_keep_20 : decode cX12_keep 20 = .ok (.aload_n 0, 1) := by decide +kernel
theorem dX12_keep_21 : decode cX12_keep 21 = .ok (.getfield 13, 3) := by decide +kernel
theorem dX12_keep_24 : decode cX12_keep 24 = .ok (.iload_n 1, 1) := by decide +kernel
theorem dX12_keep_25 : decode cX12_keep 25 = .ok (.aload_n 0, 1) := by decide +kernel
theorem dX12_keep_26 : decode cX12_keep 26 = .ok (.getfield 7, 3) := by decide +kernel
theorem dX12_keep_29 : decode cX12_keep 29 = .ok (.iload_n 1, 1) := by decide +kernel
theorem dX12_keep_30 : decode cX12_keep 30 = .ok (.laload, 1) := by decide +kernel
theorem dX12_keep_31 : decode cX12_keep 31 = .ok (.lastore, 1) := by decide +kernel
theorem dX12_keep_32 : decode cX12_keep 32 = .ok (.iinc 1 1, 3) := by decide +kernel
theorem dX12_keep_35 : decode cX12_keep 35 = .ok (.goto (-22), 3) := by decide +kernel
theorem dX12_keep_38 : decode cX12_keep 38 = .ok (.aload_n 0, 1) := by decide +kernel
theorem dX12_keep_39 : decode cX12_keep 39 = .ok (.getfield 7, 3) := by decide +kernel
theorem dX12_keep_42 : decode cX12_keep 42 = .ok (.sipush 1547, 3) := by decide +kernel
theorem dX12_keep_45 : decode cX12_keep 45 = .ok (.laload, 1) := by decide +kernel
theorem dX12_keep_46 : decode cX12_keep 46 = .ok (.l2i, 1) := by decide +kernel
theorem dX12_keep_47 : decode cX12_keep 47 = .ok (.ireturn, 1) := by decide +kernel
theorem dX12_goBack_0 : decode cX12_goBack 0 = .ok (.aload_n 0, 1) := by decide +kernel
theorem dX12_goBack_1 : decode cX12_goBack 1 = .ok (.aload_n 0, 1) := by decide +kernel
theorem dX12_goBack_2 : decode cX12_goBack 2 = .ok (.getfield 248, 3) := by decide +kernel
theorem dX12_goBack_5 : decode cX12_goBack 5 = .ok (.ifCond .eq 7, 3) := by decide +kernel
theorem dX12_goBack_8 : decode cX12_goBack 8 = .ok (.iconst 0, 1) := by decide +kernel
theorem dX12_goBack_9 : decode cX12_goBack 9 = .ok (.goto 4, 3) := by decide +kernel
theorem dX12_goBack_12 : decode cX12_goBack 12 = .ok (.iconst 1, 1) := by decide +kernel
theorem dX12_goBack_13 : decode cX12_goBack 13 = .ok (.invokevirtual 61, 3) := by decide +kernel
theorem dX12_goBack_16 : decode cX12_goBack 16 = .ok (.ifCond .eq 5, 3) := by decide +kernel
theorem dX12_goBack_19 : decode cX12_goBack 19 = .ok (.iconst (-1), 1) := by decide +kernel
theorem dX12_goBack_20 : decode cX12_goBack 20 = .ok (.ireturn, 1) := by decide +kernel
theorem dX12_goBack_21 : decode cX12_goBack 21 = .ok (.iconst 0, 1) := by decide +kernel
theorem dX12_goBack_22 : decode cX12_goBack 22 = .ok (.istore_n 1, 1) := by decide +kernel
theorem dX12_goBack_23 : decode cX12_goBack 23 = .ok (.iload_n 1, 1) := by decide +kernel
theorem dX12_goBack_24 : decode cX12_goBack 24 = .ok (.sipush 1550, 3) := by decide +kernel
theorem dX12_goBack_27 : decode cX12_goBack 27 = .ok (.if_icmp .ge 21, 3) := by decide +kernel
theorem dX12_goBack_30 : decode cX12_goBack 30 = .ok (.aload_n 0, 1) := by decide +kernel
theorem dX12_goBack_31 : decode cX12_goBack 31 = .ok (.getfield 7, 3) := by decide +kernel
theorem dX12_goBack_34 : decode cX12_goBack 34 = .ok (.iload_n 1, 1) := by decide +kernel
theorem dX12_goBack_35 : decode cX12_goBack 35 = .ok (.aload_n 0, 1) := by decide +kernel
theorem dX12_goBack_36 : decode cX12_goBack 36 = .ok (.getfield 13, 3) := by decide +kernel
theorem dX12_goBack_39 : decode cX12_goBack 39 = .ok (.iload_n 1, 1) := by decide +kernel
theorem dX12_goBack_40 : decode cX12_goBack 40 = .ok (.laload, 1) := by decide +kernel
theorem dX12_goBack_41 : decode cX12_goBack 41 = .ok (.lastore, 1) := by decide +kernel
theorem dX12_goBack_42 : decode cX12_goBack 42 = .ok (.iinc 1 1, 3) := by decide +kernel
theorem dX12_goBack_45 : decode cX12_goBack 45 = .ok (.goto (-22), 3) := by decide +kernel
theorem dX12_goBack_48 : decode cX12_goBack 48 = .ok (.aload_n 0, 1) := by decide +kernel
theorem dX12_goBack_49 : decode cX12_goBack 49 = .ok (.getfield 7, 3) := by decide +kernel
theorem dX12_goBack_52 : decode cX12_goBack 52 = .ok (.sipush 1547, 3) := by decide +kernel
theorem dX12_goBack_55 : decode cX12_goBack 55 = .ok (.laload, 1) := by decide +kernel
theorem dX12_goBack_56 : decode cX12_goBack 56 = .ok (.l2i, 1) := by decide +kernel
theorem dX12_goBack_57 : decode cX12_goBack 57 = .ok (.ireturn, 1) := by decide +kernel
theorem dX12_announce_0 : decode cX12_announce 0 = .ok (.aload_n 0, 1) := by decide +kernel
theorem dX12_announce_1 : decode cX12_announce 1 = .ok (.iload_n 1, 1) := by decide +kernel
theorem dX12_announce_2 : decode cX12_announce 2 = .ok (.i2l, 1) := by decide +kernel
theorem dX12_announce_3 : decode cX12_announce 3 = .ok (.lconst 0, 1) := by decide +kernel
theorem dX12_announce_4 : decode cX12_announce 4 = .ok (.ldc2_w 36, 3) := by decide +kernel
theorem dX12_announce_7 : decode cX12_announce 7 = .ok (.invokevirtual 32, 3) := by decide +kernel
theorem dX12_announce_10 : decode cX12_announce 10 = .ok (.ifCond .eq 60, 3) := by decide +kernel
theorem dX12_announce_13 : decode cX12_announce 13 = .ok (.aload_n 0, 1) := by decide +kernel
theorem dX12_announce_14 : decode cX12_announce 14 = .ok (.iload_n 3, 1) := by decide +kernel
theorem dX12_announce_15 : decode cX12_announce 15 = .ok (.i2l, 1) := by decide +kernel
theorem dX12_announce_16 : decode cX12_announce 16 = .ok (.lconst 1, 1) := by decide +kernel
theorem dX12_announce_17 : decode cX12_announce 17 = .ok (.iload_n 1, 1) := by decide +kernel
theorem dX12_announce_18 : decode cX12_announce 18 = .ok (.iconst 1, 1) := by decide +kernel
theorem dX12_announce_19 : decode cX12_announce 19 = .ok (.if_icmp .ne 9, 3) := by decide +kernel
theorem dX12_announce_22 : decode cX12_announce 22 = .ok (.ldc2_w 88, 3) := by decide +kernel
theorem dX12_announce_25 : decode cX12_announce 25 = .ok (.goto 6, 3) := by decide +kernel
theorem dX12_announce_28 : decode cX12_announce 28 = .ok (.ldc2_w 72, 3) := by decide +kernel
theorem dX12_announce_31 : decode cX12_announce 31 = .ok (.invokevirtual 32, 3) := by decide +kernel
theorem dX12_announce_34 : decode cX12_announce 34 = .ok (.ifCond .eq 36, 3) := by decide +kernel
theorem dX12_announce_37 : decode cX12_announce 37 = .ok (.iload_n 1, 1) := by decide +kernel
theorem dX12_announce_38 : decode cX12_announce 38 = .ok (.ifCond .eq 28, 3) := by decide +kernel
theorem dX12_announce_41 : decode cX12_announce 41 = .ok (.aload_n 0, 1) := by decide +kernel
theorem dX12_announce_42 : decode cX12_announce 42 = .ok (.iload 4, 2) := by decide +kernel
theorem dX12_announce_44 : decode cX12_announce 44 = .ok (.i2l, 1) := by decide +kernel
theorem dX12_announce_45 : decode cX12_announce 45 = .ok (.lconst 1, 1) := by decide +kernel
theorem dX12_announce_46 : decode cX12_announce 46 = .ok (.iload_n 1, 1) := by decide +kernel
theorem dX12_announce_47 : decode cX12_announce 47 = .ok (.iconst 1, 1) := by decide +kernel
theorem dX12_announce_48 : decode cX12_announce 48 = .ok (.if_icmp .ne 9, 3) := by decide +kernel
theorem dX12_announce_51 : decode cX12_announce 51 = .ok (.ldc2_w 88, 3) := by decide +kernel
theorem dX12_announce_54 : decode cX12_announce 54 = .ok (.goto 6, 3) := by decide +kernel
theorem dX12_announce_57 : decode cX12_announce 57 = .ok (.ldc2_w 59, 3) := by decide +kernel
theorem dX12_announce_60 : decode cX12_announce 60 = .ok (.invokevirtual 32, 3) := by decide +kernel
theorem dX12_announce_63 : decode cX12_announce 63 = .ok (.ifCond .eq 7, 3) := by decide +kernel
theorem dX12_announce_66 : decode cX12_announce 66 = .ok (.iconst 1, 1) := by decide +kernel
theorem dX12_announce_67 : decode cX12_announce 67 = .ok (.goto 4, 3) := by decide +kernel
theorem dX12_announce_70 : decode cX12_announce 70 = .ok (.iconst 0, 1) := by decide +kernel
theorem dX12_announce_71 : decode cX12_announce 71 = .ok (.istore 8, 2) := by decide +kernel
theorem dX12_announce_73 : decode cX12_announce 73 = .ok (.iload 8, 2) := by decide +kernel
theorem dX12_announce_75 : decode cX12_announce 75 = .ok (.iload_n 1, 1) := by decide +kernel
theorem dX12_announce_76 : decode cX12_announce 76 = .ok (.iconst 2, 1) := by decide +kernel
theorem dX12_announce_77 : decode cX12_announce 77 = .ok (.if_icmp .ne 17, 3) := by decide +kernel
theorem dX12_announce_80 : decode cX12_announce 80 = .ok (.aload_n 0, 1) := by decide +kernel
theorem dX12_announce_81 : decode cX12_announce 81 = .ok (.iload 5, 2) := by decide +kernel
theorem dX12_announce_83 : decode cX12_announce 83 = .ok (.i2l, 1) := by decide +kernel
theorem dX12_announce_84 : decode cX12_announce 84 = .ok (.lconst 0, 1) := by decide +kernel
theorem dX12_announce_85 : decode cX12_announce 85 = .ok (.ldc2_w 70, 3) := by decide +kernel
theorem dX12_announce_88 : decode cX12_announce 88 = .ok (.invokevirtual 32, 3) := by decide +kernel
theorem dX12_announce_91 : decode cX12_announce 91 = .ok (.ifCond .eq 44, 3) := by decide +kernel
theorem dX12_announce_94 : decode cX12_announce 94 = .ok (.aload_n 0, 1) := by decide +kernel
theorem dX12_announce_95 : decode cX12_announce 95 = .ok (.iload 6, 2) := by decide +kernel
theorem dX12_announce_97 : decode cX12_announce 97 = .ok (.i2l, 1) := by decide +kernel
theorem dX12_announce_98 : decode cX12_announce 98 = .ok (.aload_n 0, 1) := by decide +kernel
theorem dX12_announce_99 : decode cX12_announce 99 = .ok (.getfield 7, 3) := by decide +kernel
theorem dX12_announce_102 : decode cX12_announce 102 = .ok (.sipush 1547, 3) := by decide +kernel
theorem dX12_announce_105 : decode cX12_announce 105 = .ok (.laload, 1) := by decide +kernel
theorem dX12_announce_106 : decode cX12_announce 106 = .ok (.ldc2_w 106, 3) := by decide +kernel
theorem dX12_announce_109 : decode cX12_announce 109 = .ok (.invokevirtual 32, 3) := by decide +kernel
theorem dX12_announce_112 : decode cX12_announce 112 = .ok (.ifCond .eq 23, 3) := by decide +kernel
theorem dX12_announce_115 : decode cX12_announce 115 = .ok (.aload_n 0, 1) := by decide +kernel
theorem dX12_announce_116 : decode cX12_announce 116 = .ok (.iload 7, 2) := by decide +kernel
theorem dX12_announce_118 : decode cX12_announce 118 = .ok (.i2l, 1) := by decide +kernel
theorem dX12_announce_119 : decode cX12_announce 119 = .ok (.iload 6, 2) := by decide +kernel
theorem dX12_announce_121 : decode cX12_announce 121 = .ok (.i2l, 1) := by decide +kernel
theorem dX12_announce_122 : decode cX12_announce 122 = .ok (.ldc2_w 106, 3) := by decide +kernel
theorem dX12_announce_125 : decode cX12_announce 125 = .ok (.invokevirtual 32, 3) := by decide +kernel
theorem dX12_announce_128 : decode cX12_announce 128 = .ok (.ifCond .eq 7, 3) := by decide +kernel
theorem dX12_announce_131 : decode cX12_announce 131 = .ok (.iconst 1, 1) := by decide +kernel
theorem dX12_announce_132 : decode cX12_announce 132 = .ok (.goto 4, 3) := by decide +kernel
theorem dX12_announce_135 : decode cX12_announce 135 = .ok (.iconst 0, 1) := by decide +kernel
theorem dX12_announce_136 : decode cX12_announce 136 = .ok (.iand, 1) := by decide +kernel
theorem dX12_announce_137 : decode cX12_announce 137 = .ok (.istore 8, 2) := by decide +kernel
theorem dX12_announce_139 : decode cX12_announce 139 = .ok (.aload_n 0, 1) := by decide +kernel
theorem dX12_announce_140 : decode cX12_announce 140 = .ok (.aload_n 0, 1) := by decide +kernel
theorem dX12_announce_141 : decode cX12_announce 141 = .ok (.iload_n 2, 1) := by decide +kernel
theorem dX12_announce_142 : decode cX12_announce 142 = .ok (.invokevirtual 78, 3) := by decide +kernel
theorem dX12_announce_145 : decode cX12_announce 145 = .ok (.ifCond .ne 7, 3) := by decide +kernel
theorem dX12_announce_148 : decode cX12_announce 148 = .ok (.iconst 1, 1) := by decide +kernel
theorem dX12_announce_149 : decode cX12_announce 149 = .ok (.goto 32, 3) := by decide +kernel
theorem dX12_announce_152 : decode cX12_announce 152 = .ok (.iload 8, 2) := by decide +kernel
theorem dX12_announce_154 : decode cX12_announce 154 = .ok (.ifCond .ne 7, 3) := by decide +kernel
theorem dX12_announce_157 : decode cX12_announce 157 = .ok (.iconst 2, 1) := by decide +kernel
theorem dX12_announce_158 : decode cX12_announce 158 = .ok (.goto 23, 3) := by decide +kernel
theorem dX12_announce_161 : decode cX12_announce 161 = .ok (.aload_n 0, 1) := by decide +kernel
theorem dX12_announce_162 : decode cX12_announce 162 = .ok (.getfield 7, 3) := by decide +kernel
theorem dX12_announce_165 : decode cX12_announce 165 = .ok (.sipush 1546, 3) := by decide +kernel
theorem dX12_announce_168 : decode cX12_announce 168 = .ok (.laload, 1) := by decide +kernel
theorem dX12_announce_169 : decode cX12_announce 169 = .ok (.ldc2_w 59, 3) := by decide +kernel
theorem dX12_announce_172 : decode cX12_announce 172 = .ok (.lcmp, 1) := by decide +kernel
theorem dX12_announce_173 : decode cX12_announce 173 = .ok (.ifCond .ne 7, 3) := by decide +kernel
theorem dX12_announce_176 : decode cX12_announce 176 = .ok (.iconst 3, 1) := by decide +kernel
theorem dX12_announce_177 : decode cX12_announce 177 = .ok (.goto 4, 3) := by decide +kernel
theorem dX12_announce_180 : decode cX12_announce 180 = .ok (.iconst 0, 1) := by decide +kernel
theorem dX12_announce_181 : decode cX12_announce 181 = .ok (.invokevirtual 61, 3) := by decide +kernel
theorem dX12_announce_184 : decode cX12_announce 184 = .ok (.ifCond .eq 5, 3) := by decide +kernel
theorem dX12_announce_187 : decode cX12_announce 187 = .ok (.iconst (-1), 1) := by decide +kernel
theorem dX12_announce_188 : decode cX12_announce 188 = .ok (.ireturn, 1) := by decide +kernel
theorem dX12_announce_189 : decode cX12_announce 189 = .ok (.aload_n 0, 1) := by decide +kernel
theorem dX12_announce_190 : decode cX12_announce 190 = .ok (.getfield 7, 3) := by decide +kernel
theorem dX12_announce_193 : decode cX12_announce 193 = .ok (.sipush 1546, 3) := by decide +kernel
theorem dX12_announce_196 : decode cX12_announce 196 = .ok (.laload, 1) := by decide +kernel
theorem dX12_announce_197 : decode cX12_announce 197 = .ok (.l2i, 1) := by decide +kernel
theorem dX12_announce_198 : decode cX12_announce 198 = .ok (.istore 9, 2) := by decide +kernel
theorem dX12_announce_200 : decode cX12_announce 200 = .ok (.aload_n 0, 1) := by decide +kernel
theorem dX12_announce_201 : decode cX12_announce 201 = .ok (.getfield 7, 3) := by decide +kernel
theorem dX12_announce_204 : decode cX12_announce 204 = .ok (.sipush 1050, 3) := by decide +kernel
theorem dX12_announce_207 : decode cX12_announce 207 = .ok (.iload 9, 2) := by decide +kernel
theorem dX12_announce_209 : decode cX12_announce 209 = .ok (.iadd, 1) := by decide +kernel
theorem dX12_announce_210 : decode cX12_announce 210 = .ok (.iload_n 1, 1) := by decide +kernel
theorem dX12_announce_211 : decode cX12_announce 211 = .ok (.i2l, 1) := by decide +kernel
theorem dX12_announce_212 : decode cX12_announce 212 = .ok (.lastore, 1) := by decide +kernel
theorem dX12_announce_213 : decode cX12_announce 213 = .ok (.aload_n 0, 1) := by decide +kernel
theorem dX12_announce_214 : decode cX12_announce 214 = .ok (.getfield 7, 3) := by decide +kernel
theorem dX12_announce_217 : decode cX12_announce 217 = .ok (.sipush 1060, 3) := by decide +kernel
theorem dX12_announce_220 : decode cX12_announce 220 = .ok (.iload 9, 2) := by decide +kernel
theorem dX12_announce_222 : decode cX12_announce 222 = .ok (.iadd, 1) := by decide +kernel
theorem dX12_announce_223 : decode cX12_announce 223 = .ok (.iload_n 2, 1) := by decide +kernel
theorem dX12_announce_224 : decode cX12_announce 224 = .ok (.i2l, 1) := by decide +kernel
theorem dX12_announce_225 : decode cX12_announce 225 = .ok (.lastore, 1) := by decide +kernel
theorem dX12_announce_226 : decode cX12_announce 226 = .ok (.aload_n 0, 1) := by decide +kernel
theorem dX12_announce_227 : decode cX12_announce 227 = .ok (.getfield 7, 3) := by decide +kernel
theorem dX12_announce_230 : decode cX12_announce 230 = .ok (.sipush 1070, 3) := by decide +kernel
theorem dX12_announce_233 : decode cX12_announce 233 = .ok (.iload 9, 2) := by decide +kernel
theorem dX12_announce_235 : decode cX12_announce 235 = .ok (.iadd, 1) := by decide +kernel
theorem dX12_announce_236 : decode cX12_announce 236 = .ok (.iload_n 3, 1) := by decide +kernel
theorem dX12_announce_237 : decode cX12_announce 237 = .ok (.i2l, 1) := by decide +kernel
theorem dX12_announce_238 : decode cX12_announce 238 = .ok (.lastore, 1) := by decide +kernel
theorem dX12_announce_239 : decode cX12_announce 239 = .ok (.aload_n 0, 1) := by decide +kernel
theorem dX12_announce_240 : decode cX12_announce 240 = .ok (.getfield 7, 3) := by decide +kernel
theorem dX12_announce_243 : decode cX12_announce 243 = .ok (.sipush 1080, 3) := by decide +kernel
theorem dX12_announce_246 : decode cX12_announce 246 = .ok (.iload 9, 2) := by decide +kernel
theorem dX12_announce_248 : decode cX12_announce 248 = .ok (.iadd, 1) := by decide +kernel
theorem dX12_announce_249 : decode cX12_announce 249 = .ok (.iload 4, 2) := by decide +kernel
theorem dX12_announce_251 : decode cX12_announce 251 = .ok (.i2l, 1) := by decide +kernel
theorem dX12_announce_252 : decode cX12_announce 252 = .ok (.lastore, 1) := by decide +kernel
theorem dX12_announce_253 : decode cX12_announce 253 = .ok (.aload_n 0, 1) := by decide +kernel
theorem dX12_announce_254 : decode cX12_announce 254 = .ok (.getfield 7, 3) := by decide +kernel
theorem dX12_announce_257 : decode cX12_announce 257 = .ok (.sipush 1090, 3) := by decide +kernel
theorem dX12_announce_260 : decode cX12_announce 260 = .ok (.iload 9, 2) := by decide +kernel
theorem dX12_announce_262 : decode cX12_announce 262 = .ok (.iadd, 1) := by decide +kernel
theorem dX12_announce_263 : decode cX12_announce 263 = .ok (.iload 5, 2) := by decide +kernel
theorem dX12_announce_265 : decode cX12_announce 265 = .ok (.i2l, 1) := by decide +kernel
theorem dX12_announce_266 : decode cX12_announce 266 = .ok (.lastore, 1) := by decide +kernel
theorem dX12_announce_267 : decode cX12_announce 267 = .ok (.aload_n 0, 1) := by decide +kernel
theorem dX12_announce_268 : decode cX12_announce 268 = .ok (.getfield 7, 3) := by decide +kernel
theorem dX12_announce_271 : decode cX12_announce 271 = .ok (.sipush 1100, 3) := by decide +kernel
theorem dX12_announce_274 : decode cX12_announce 274 = .ok (.iload 9, 2) := by decide +kernel
theorem dX12_announce_276 : decode cX12_announce 276 = .ok (.iadd, 1) := by decide +kernel
theorem dX12_announce_277 : decode cX12_announce 277 = .ok (.iload 6, 2) := by decide +kernel
theorem dX12_announce_279 : decode cX12_announce 279 = .ok (.i2l, 1) := by decide +kernel
theorem dX12_announce_280 : decode cX12_announce 280 = .ok (.lastore, 1) := by decide +kernel
theorem dX12_announce_281 : decode cX12_announce 281 = .ok (.aload_n 0, 1) := by decide +kernel
theorem dX12_announce_282 : decode cX12_announce 282 = .ok (.getfield 7, 3) := by decide +kernel
theorem dX12_announce_285 : decode cX12_announce 285 = .ok (.sipush 1110, 3) := by decide +kernel
theorem dX12_announce_288 : decode cX12_announce 288 = .ok (.iload 9, 2) := by decide +kernel
theorem dX12_announce_290 : decode cX12_announce 290 = .ok (.iadd, 1) := by decide +kernel
theorem dX12_announce_291 : decode cX12_announce 291 = .ok (.iload 7, 2) := by decide +kernel
theorem dX12_announce_293 : decode cX12_announce 293 = .ok (.i2l, 1) := by decide +kernel
theorem dX12_announce_294 : decode cX12_announce 294 = .ok (.lastore, 1) := by decide +kernel
theorem dX12_announce_295 : decode cX12_announce 295 = .ok (.aload_n 0, 1) := by decide +kernel
theorem dX12_announce_296 : decode cX12_announce 296 = .ok (.getfield 7, 3) := by decide +kernel
theorem dX12_announce_299 : decode cX12_announce 299 = .ok (.sipush 1120, 3) := by decide +kernel
theorem dX12_announce_302 : decode cX12_announce 302 = .ok (.iload 9, 2) := by decide +kernel
theorem dX12_announce_304 : decode cX12_announce 304 = .ok (.iadd, 1) := by decide +kernel
theorem dX12_announce_305 : decode cX12_announce 305 = .ok (.lconst 0, 1) := by decide +kernel
theorem dX12_announce_306 : decode cX12_announce 306 = .ok (.lastore, 1) := by decide +kernel
theorem dX12_announce_307 : decode cX12_announce 307 = .ok (.aload_n 0, 1) := by decide +kernel
theorem dX12_announce_308 : decode cX12_announce 308 = .ok (.getfield 7, 3) := by decide +kernel
theorem dX12_announce_311 : decode cX12_announce 311 = .ok (.sipush 1130, 3) := by decide +kernel
theorem dX12_announce_314 : decode cX12_announce 314 = .ok (.iload 9, 2) := by decide +kernel
theorem dX12_announce_316 : decode cX12_announce 316 = .ok (.iadd, 1) := by decide +kernel
theorem dX12_announce_317 : decode cX12_announce 317 = .ok (.lconst 0, 1) := by decide +kernel
theorem dX12_announce_318 : decode cX12_announce 318 = .ok (.lastore, 1) := by decide +kernel
theorem dX12_announce_319 : decode cX12_announce 319 = .ok (.iconst 0, 1) := by decide +kernel
theorem dX12_announce_320 : decode cX12_announce 320 = .ok (.istore 10, 2) := by decide +kernel
theorem dX12_announce_322 : decode cX12_announce 322 = .ok (.iload 10, 2) := by decide +kernel
theorem dX12_announce_324 : decode cX12_announce 324 = .ok (.bipush 10, 2) := by decide +kernel
theorem dX12_announce_326 : decode cX12_announce 326 = .ok (.if_icmp .ge 45, 3) := by decide +kernel
theorem dX12_announce_329 : decode cX12_announce 329 = .ok (.aload_n 0, 1) := by decide +kernel
theorem dX12_announce_330 : decode cX12_announce 330 = .ok (.getfield 7, 3) := by decide +kernel
theorem dX12_announce_333 : decode cX12_announce 333 = .ok (.sipush 1140, 3) := by decide +kernel
theorem dX12_announce_336 : decode cX12_announce 336 = .ok (.bipush 10, 2) := by decide +kernel
theorem dX12_announce_338 : decode cX12_announce 338 = .ok (.iload 9, 2) := by decide +kernel
theorem dX12_announce_340 : decode cX12_announce 340 = .ok (.imul, 1) := by decide +kernel
theorem dX12_announce_341 : decode cX12_announce 341 = .ok (.iadd, 1) := by decide +kernel
theorem dX12_announce_342 : decode cX12_announce 342 = .ok (.iload 10, 2) := by decide +kernel
theorem dX12_announce_344 : decode cX12_announce 344 = .ok (.iadd, 1) := by decide +kernel
theorem dX12_announce_345 : decode cX12_announce 345 = .ok (.lconst 0, 1) := by decide +kernel
theorem dX12_announce_346 : decode cX12_announce 346 = .ok (.lastore, 1) := by decide +kernel
theorem dX12_announce_347 : decode cX12_announce 347 = .ok (.aload_n 0, 1) := by decide +kernel
theorem dX12_announce_348 : decode cX12_announce 348 = .ok (.getfield 7, 3) := by decide +kernel
theorem dX12_announce_351 : decode cX12_announce 351 = .ok (.sipush 1240, 3) := by decide +kernel
theorem dX12_announce_354 : decode cX12_announce 354 = .ok (.bipush 10, 2) := by decide +kernel
theorem dX12_announce_356 : decode cX12_announce 356 = .ok (.iload 9, 2) := by decide +kernel
theorem dX12_announce_358 : decode cX12_announce 358 = .ok (.imul, 1) := by decide +kernel
theorem dX12_announce_359 : decode cX12_announce 359 = .ok (.iadd, 1) := by decide +kernel
theorem dX12_announce_360 : decode cX12_announce 360 = .ok (.iload 10, 2) := by decide +kernel
theorem dX12_announce_362 : decode cX12_announce 362 = .ok (.iadd, 1) := by decide +kernel
theorem dX12_announce_363 : decode cX12_announce 363 = .ok (.lconst 0, 1) := by decide +kernel
theorem dX12_announce_364 : decode cX12_announce 364 = .ok (.lastore, 1) := by decide +kernel
theorem dX12_announce_365 : decode cX12_announce 365 = .ok (.iinc 10 1, 3) := by decide +kernel
theorem dX12_announce_368 : decode cX12_announce 368 = .ok (.goto (-46), 3) := by decide +kernel
theorem dX12_announce_371 : decode cX12_announce 371 = .ok (.iconst 0, 1) := by decide +kernel
theorem dX12_announce_372 : decode cX12_announce 372 = .ok (.istore 10, 2) := by decide +kernel
theorem dX12_announce_374 : decode cX12_announce 374 = .ok (.iload 10, 2) := by decide +kernel
theorem dX12_announce_376 : decode cX12_announce 376 = .ok (.bipush 20, 2) := by decide +kernel
theorem dX12_announce_378 : decode cX12_announce 378 = .ok (.if_icmp .ge 27, 3) := by decide +kernel
theorem dX12_announce_381 : decode cX12_announce 381 = .ok (.aload_n 0, 1) := by decide +kernel
theorem dX12_announce_382 : decode cX12_announce 382 = .ok (.getfield 7, 3) := by decide +kernel
theorem dX12_announce_385 : decode cX12_announce 385 = .ok (.sipush 1340, 3) := by decide +kernel
theorem dX12_announce_388 : decode cX12_announce 388 = .ok (.bipush 20, 2) := by decide +kernel
theorem dX12_announce_390 : decode cX12_announce 390 = .ok (.iload 9, 2) := by decide +kernel
theorem dX12_announce_392 : decode cX12_announce 392 = .ok (.imul, 1) := by decide +kernel
theorem dX12_announce_393 : decode cX12_announce 393 = .ok (.iadd, 1) := by decide +kernel
theorem dX12_announce_394 : decode cX12_announce 394 = .ok (.iload 10, 2) := by decide +kernel
theorem dX12_announce_396 : decode cX12_announce 396 = .ok (.iadd, 1) := by decide +kernel
theorem dX12_announce_397 : decode cX12_announce 397 = .ok (.lconst 0, 1) := by decide +kernel
theorem dX12_announce_398 : decode cX12_announce 398 = .ok (.lastore, 1) := by decide +kernel
theorem dX12_announce_399 : decode cX12_announce 399 = .ok (.iinc 10 1, 3) := by decide +kernel
theorem dX12_announce_402 : decode cX12_announce 402 = .ok (.goto (-28), 3) := by decide +kernel
theorem dX12_announce_405 : decode cX12_announce 405 = .ok (.aload_n 0, 1) := by decide +kernel
theorem dX12_announce_406 : decode cX12_announce 406 = .ok (.getfield 7, 3) := by decide +kernel
theorem dX12_announce_409 : decode cX12_announce 409 = .ok (.sipush 1546, 3) := by decide +kernel
theorem dX12_announce_412 : decode cX12_announce 412 = .ok (.dup2, 1) := by decide +kernel
theorem dX12_announce_413 : decode cX12_announce 413 = .ok (.laload, 1) := by decide +kernel
theorem dX12_announce_414 : decode cX12_announce 414 = .ok (.lconst 1, 1) := by decide +kernel
theorem dX12_announce_415 : decode cX12_announce 415 = .ok (.ladd, 1) := by decide +kernel
theorem dX12_announce_416 : decode cX12_announce 416 = .ok (.lastore, 1) := by decide +kernel
theorem dX12_announce_417 : decode cX12_announce 417 = .ok (.iload 9, 2) := by decide +kernel
theorem dX12_announce_419 : decode cX12_announce 419 = .ok (.ireturn, 1) := by decide +kernel
theorem dX12_elect_0 : decode cX12_elect 0 = .ok (.aload_n 0, 1) := by decide +kernel
theorem dX12_elect_1 : decode cX12_elect 1 = .ok (.iload_n 1, 1) := by decide +kernel
theorem dX12_elect_2 : decode cX12_elect 2 = .ok (.invokevirtual 55, 3) := by decide +kernel
theorem dX12_elect_5 : decode cX12_elect 5 = .ok (.ifCond .eq 15, 3) := by decide +kernel
theorem dX12_elect_8 : decode cX12_elect 8 = .ok (.aload_n 0, 1) := by decide +kernel
theorem dX12_elect_9 : decode cX12_elect 9 = .ok (.iload_n 2, 1) := by decide +kernel
theorem dX12_elect_10 : decode cX12_elect 10 = .ok (.invokevirtual 252, 3) := by decide +kernel
theorem dX12_elect_13 : decode cX12_elect 13 = .ok (.ifCond .eq 7, 3) := by decide +kernel
theorem dX12_elect_16 : decode cX12_elect 16 = .ok (.iconst 1, 1) := by decide +kernel
theorem dX12_elect_17 : decode cX12_elect 17 = .ok (.goto 4, 3) := by decide +kernel
theorem dX12_elect_20 : decode cX12_elect 20 = .ok (.iconst 0, 1) := by decide +kernel
theorem dX12_elect_21 : decode cX12_elect 21 = .ok (.istore 4, 2) := by decide +kernel
theorem dX12_elect_23 : decode cX12_elect 23 = .ok (.iload 4, 2) := by decide +kernel
theorem dX12_elect_25 : decode cX12_elect 25 = .ok (.ifCond .eq 75, 3) := by decide +kernel
theorem dX12_elect_28 : decode cX12_elect 28 = .ok (.aload_n 0, 1) := by decide +kernel
theorem dX12_elect_29 : decode cX12_elect 29 = .ok (.getfield 7, 3) := by decide +kernel
theorem dX12_elect_32 : decode cX12_elect 32 = .ok (.sipush 1050, 3) := by decide +kernel
theorem dX12_elect_35 : decode cX12_elect 35 = .ok (.iload_n 2, 1) := by decide +kernel
theorem dX12_elect_36 : decode cX12_elect 36 = .ok (.iadd, 1) := by decide +kernel
theorem dX12_elect_37 : decode cX12_elect 37 = .ok (.laload, 1) := by decide +kernel
theorem dX12_elect_38 : decode cX12_elect 38 = .ok (.ldc2_w 36, 3) := by decide +kernel
theorem dX12_elect_41 : decode cX12_elect 41 = .ok (.lcmp, 1) := by decide +kernel
theorem dX12_elect_42 : decode cX12_elect 42 = .ok (.ifCond .ne 54, 3) := by decide +kernel
theorem dX12_elect_45 : decode cX12_elect 45 = .ok (.aload_n 0, 1) := by decide +kernel
theorem dX12_elect_46 : decode cX12_elect 46 = .ok (.getfield 7, 3) := by decide +kernel
theorem dX12_elect_49 : decode cX12_elect 49 = .ok (.sipush 1120, 3) := by decide +kernel
theorem dX12_elect_52 : decode cX12_elect 52 = .ok (.iload_n 2, 1) := by decide +kernel
theorem dX12_elect_53 : decode cX12_elect 53 = .ok (.iadd, 1) := by decide +kernel
theorem dX12_elect_54 : decode cX12_elect 54 = .ok (.laload, 1) := by decide +kernel
theorem dX12_elect_55 : decode cX12_elect 55 = .ok (.lconst 0, 1) := by decide +kernel
theorem dX12_elect_56 : decode cX12_elect 56 = .ok (.lcmp, 1) := by decide +kernel
theorem dX12_elect_57 : decode cX12_elect 57 = .ok (.ifCond .eq 39, 3) := by decide +kernel
theorem dX12_elect_60 : decode cX12_elect 60 = .ok (.aload_n 0, 1) := by decide +kernel
theorem dX12_elect_61 : decode cX12_elect 61 = .ok (.getfield 7, 3) := by decide +kernel
theorem dX12_elect_64 : decode cX12_elect 64 = .ok (.sipush 1130, 3) := by decide +kernel
theorem dX12_elect_67 : decode cX12_elect 67 = .ok (.iload_n 2, 1) := by decide +kernel
theorem dX12_elect_68 : decode cX12_elect 68 = .ok (.iadd, 1) := by decide +kernel
theorem dX12_elect_69 : decode cX12_elect 69 = .ok (.laload, 1) := by decide +kernel
theorem dX12_elect_70 : decode cX12_elect 70 = .ok (.lconst 1, 1) := by decide +kernel
theorem dX12_elect_71 : decode cX12_elect 71 = .ok (.lcmp, 1) := by decide +kernel
theorem dX12_elect_72 : decode cX12_elect 72 = .ok (.ifCond .eq 24, 3) := by decide +kernel
theorem dX12_elect_75 : decode cX12_elect 75 = .ok (.aload_n 0, 1) := by decide +kernel
theorem dX12_elect_76 : decode cX12_elect 76 = .ok (.getfield 7, 3) := by decide +kernel
theorem dX12_elect_79 : decode cX12_elect 79 = .ok (.sipush 1140, 3) := by decide +kernel
theorem dX12_elect_82 : decode cX12_elect 82 = .ok (.bipush 10, 2) := by decide +kernel
theorem dX12_elect_84 : decode cX12_elect 84 = .ok (.iload_n 2, 1) := by decide +kernel
theorem dX12_elect_85 : decode cX12_elect 85 = .ok (.imul, 1) := by decide +kernel
theorem dX12_elect_86 : decode cX12_elect 86 = .ok (.iadd, 1) := by decide +kernel
theorem dX12_elect_87 : decode cX12_elect 87 = .ok (.iload_n 1, 1) := by decide +kernel
theorem dX12_elect_88 : decode cX12_elect 88 = .ok (.iadd, 1) := by decide +kernel
theorem dX12_elect_89 : decode cX12_elect 89 = .ok (.laload, 1) := by decide +kernel
theorem dX12_elect_90 : decode cX12_elect 90 = .ok (.iload_n 3, 1) := by decide +kernel
theorem dX12_elect_91 : decode cX12_elect 91 = .ok (.i2l, 1) := by decide +kernel
theorem dX12_elect_92 : decode cX12_elect 92 = .ok (.lcmp, 1) := by decide +kernel
theorem dX12_elect_93 : decode cX12_elect 93 = .ok (.ifCond .ge 7, 3) := by decide +kernel
theorem dX12_elect_96 : decode cX12_elect 96 = .ok (.iconst 1, 1) := by decide +kernel
theorem dX12_elect_97 : decode cX12_elect 97 = .ok (.goto 4, 3) := by decide +kernel
theorem dX12_elect_100 : decode cX12_elect 100 = .ok (.iconst 0, 1) := by decide +kernel
theorem dX12_elect_101 : decode cX12_elect 101 = .ok (.istore 5, 2) := by decide +kernel
theorem dX12_elect_103 : decode cX12_elect 103 = .ok (.aload_n 0, 1) := by decide +kernel
theorem dX12_elect_104 : decode cX12_elect 104 = .ok (.iload 4, 2) := by decide +kernel
theorem dX12_elect_106 : decode cX12_elect 106 = .ok (.ifCond .ne 7, 3) := by decide +kernel
theorem dX12_elect_109 : decode cX12_elect 109 = .ok (.iconst 1, 1) := by decide +kernel
theorem dX12_elect_110 : decode cX12_elect 110 = .ok (.goto 21, 3) := by decide +kernel
theorem dX12_elect_113 : decode cX12_elect 113 = .ok (.iload_n 3, 1) := by decide +kernel
theorem dX12_elect_114 : decode cX12_elect 114 = .ok (.ifCond .ge 7, 3) := by decide +kernel
theorem dX12_elect_117 : decode cX12_elect 117 = .ok (.iconst 2, 1) := by decide +kernel
theorem dX12_elect_118 : decode cX12_elect 118 = .ok (.goto 13, 3) := by decide +kernel
theorem dX12_elect_121 : decode cX12_elect 121 = .ok (.iload 5, 2) := by decide +kernel
theorem dX12_elect_123 : decode cX12_elect 123 = .ok (.ifCond .eq 7, 3) := by decide +kernel
theorem dX12_elect_126 : decode cX12_elect 126 = .ok (.iconst 3, 1) := by decide +kernel
theorem dX12_elect_127 : decode cX12_elect 127 = .ok (.goto 4, 3) := by decide +kernel
theorem dX12_elect_130 : decode cX12_elect 130 = .ok (.iconst 0, 1) := by decide +kernel
theorem dX12_elect_131 : decode cX12_elect 131 = .ok (.invokevirtual 61, 3) := by decide +kernel
theorem dX12_elect_134 : decode cX12_elect 134 = .ok (.ifCond .eq 7, 3) := by decide +kernel
theorem dX12_elect_137 : decode cX12_elect 137 = .ok (.ldc2_w 81, 3) := by decide +kernel
theorem dX12_elect_140 : decode cX12_elect 140 = .ok (.lreturn, 1) := by decide +kernel
theorem dX12_elect_141 : decode cX12_elect 141 = .ok (.aload_n 0, 1) := by decide +kernel
theorem dX12_elect_142 : decode cX12_elect 142 = .ok (.getfield 7, 3) := by decide +kernel
theorem dX12_elect_145 : decode cX12_elect 145 = .ok (.sipush 1240, 3) := by decide +kernel
theorem dX12_elect_148 : decode cX12_elect 148 = .ok (.bipush 10, 2) := by decide +kernel
theorem dX12_elect_150 : decode cX12_elect 150 = .ok (.iload_n 2, 1) := by decide +kernel
theorem dX12_elect_151 : decode cX12_elect 151 = .ok (.imul, 1) := by decide +kernel
theorem dX12_elect_152 : decode cX12_elect 152 = .ok (.iadd, 1) := by decide +kernel
theorem dX12_elect_153 : decode cX12_elect 153 = .ok (.iload_n 1, 1) := by decide +kernel
theorem dX12_elect_154 : decode cX12_elect 154 = .ok (.iadd, 1) := by decide +kernel
theorem dX12_elect_155 : decode cX12_elect 155 = .ok (.laload, 1) := by decide +kernel
theorem dX12_elect_156 : decode cX12_elect 156 = .ok (.lstore 6, 2) := by decide +kernel
theorem dX12_elect_158 : decode cX12_elect 158 = .ok (.aload_n 0, 1) := by decide +kernel
theorem dX12_elect_159 : decode cX12_elect 159 = .ok (.getfield 7, 3) := by decide +kernel
theorem dX12_elect_162 : decode cX12_elect 162 = .ok (.sipush 1240, 3) := by decide +kernel
theorem dX12_elect_165 : decode cX12_elect 165 = .ok (.bipush 10, 2) := by decide +kernel
theorem dX12_elect_167 : decode cX12_elect 167 = .ok (.iload_n 2, 1) := by decide +kernel
theorem dX12_elect_168 : decode cX12_elect 168 = .ok (.imul, 1) := by decide +kernel
theorem dX12_elect_169 : decode cX12_elect 169 = .ok (.iadd, 1) := by decide +kernel
theorem dX12_elect_170 : decode cX12_elect 170 = .ok (.iload_n 1, 1) := by decide +kernel
theorem dX12_elect_171 : decode cX12_elect 171 = .ok (.iadd, 1) := by decide +kernel
theorem dX12_elect_172 : decode cX12_elect 172 = .ok (.iload_n 3, 1) := by decide +kernel
theorem dX12_elect_173 : decode cX12_elect 173 = .ok (.i2l, 1) := by decide +kernel
theorem dX12_elect_174 : decode cX12_elect 174 = .ok (.lastore, 1) := by decide +kernel
theorem dX12_elect_175 : decode cX12_elect 175 = .ok (.lload 6, 2) := by decide +kernel
theorem dX12_elect_177 : decode cX12_elect 177 = .ok (.lreturn, 1) := by decide +kernel
theorem dX12_entitled_0 : decode cX12_entitled 0 = .ok (.aload_n 0, 1) := by decide +kernel
theorem dX12_entitled_1 : decode cX12_entitled 1 = .ok (.iload_n 1, 1) := by decide +kernel
theorem dX12_entitled_2 : decode cX12_entitled 2 = .ok (.invokevirtual 252, 3) := by decide +kernel
theorem dX12_entitled_5 : decode cX12_entitled 5 = .ok (.ifCond .eq 15, 3) := by decide +kernel
theorem dX12_entitled_8 : decode cX12_entitled 8 = .ok (.aload_n 0, 1) := by decide +kernel
theorem dX12_entitled_9 : decode cX12_entitled 9 = .ok (.iload_n 2, 1) := by decide +kernel
theorem dX12_entitled_10 : decode cX12_entitled 10 = .ok (.invokevirtual 55, 3) := by decide +kernel
theorem dX12_entitled_13 : decode cX12_entitled 13 = .ok (.ifCond .eq 7, 3) := by decide +kernel
theorem dX12_entitled_16 : decode cX12_entitled 16 = .ok (.iconst 1, 1) := by decide +kernel
theorem dX12_entitled_17 : decode cX12_entitled 17 = .ok (.goto 4, 3) := by decide +kernel
theorem dX12_entitled_20 : decode cX12_entitled 20 = .ok (.iconst 0, 1) := by decide +kernel
theorem dX12_entitled_21 : decode cX12_entitled 21 = .ok (.istore_n 3, 1) := by decide +kernel
theorem dX12_entitled_22 : decode cX12_entitled 22 = .ok (.aload_n 0, 1) := by decide +kernel
theorem dX12_entitled_23 : decode cX12_entitled 23 = .ok (.iload_n 3, 1) := by decide +kernel
theorem dX12_entitled_24 : decode cX12_entitled 24 = .ok (.ifCond .eq 7, 3) := by decide +kernel
theorem dX12_entitled_27 : decode cX12_entitled 27 = .ok (.iconst 0, 1) := by decide +kernel
theorem dX12_entitled_28 : decode cX12_entitled 28 = .ok (.goto 4, 3) := by decide +kernel
theorem dX12_entitled_31 : decode cX12_entitled 31 = .ok (.iconst 1, 1) := by decide +kernel
theorem dX12_entitled_32 : decode cX12_entitled 32 = .ok (.invokevirtual 61, 3) := by decide +kernel
theorem dX12_entitled_35 : decode cX12_entitled 35 = .ok (.ifCond .eq 7, 3) := by decide +kernel
theorem dX12_entitled_38 : decode cX12_entitled 38 = .ok (.ldc2_w 81, 3) := by decide +kernel
theorem dX12_entitled_41 : decode cX12_entitled 41 = .ok (.lreturn, 1) := by decide +kernel
theorem dX12_entitled_42 : decode cX12_entitled 42 = .ok (.aload_n 0, 1) := by decide +kernel
theorem dX12_entitled_43 : decode cX12_entitled 43 = .ok (.getfield 7, 3) := by decide +kernel
theorem dX12_entitled_46 : decode cX12_entitled 46 = .ok (.sipush 1120, 3) := by decide +kernel
theorem dX12_entitled_49 : decode cX12_entitled 49 = .ok (.iload_n 1, 1) := by decide +kernel
theorem dX12_entitled_50 : decode cX12_entitled 50 = .ok (.iadd, 1) := by decide +kernel
theorem dX12_entitled_51 : decode cX12_entitled 51 = .ok (.laload, 1) := by decide +kernel
theorem dX12_entitled_52 : decode cX12_entitled 52 = .ok (.lconst 0, 1) := by decide +kernel
theorem dX12_entitled_53 : decode cX12_entitled 53 = .ok (.lcmp, 1) := by decide +kernel
theorem dX12_entitled_54 : decode cX12_entitled 54 = .ok (.ifCond .ne 9, 3) := by decide +kernel
theorem dX12_entitled_57 : decode cX12_entitled 57 = .ok (.ldc2_w 81, 3) := by decide +kernel
theorem dX12_entitled_60 : decode cX12_entitled 60 = .ok (.goto 18, 3) := by decide +kernel
theorem dX12_entitled_63 : decode cX12_entitled 63 = .ok (.aload_n 0, 1) := by decide +kernel
theorem dX12_entitled_64 : decode cX12_entitled 64 = .ok (.getfield 7, 3) := by decide +kernel
theorem dX12_entitled_67 : decode cX12_entitled 67 = .ok (.sipush 1140, 3) := by decide +kernel
theorem dX12_entitled_70 : decode cX12_entitled 70 = .ok (.bipush 10, 2) := by decide +kernel
theorem dX12_entitled_72 : decode cX12_entitled 72 = .ok (.iload_n 1, 1) := by decide +kernel
theorem dX12_entitled_73 : decode cX12_entitled 73 = .ok (.imul, 1) := by decide +kernel
theorem dX12_entitled_74 : decode cX12_entitled 74 = .ok (.iadd, 1) := by decide +kernel
theorem dX12_entitled_75 : decode cX12_entitled 75 = .ok (.iload_n 2, 1) := by decide +kernel
theorem dX12_entitled_76 : decode cX12_entitled 76 = .ok (.iadd, 1) := by decide +kernel
theorem dX12_entitled_77 : decode cX12_entitled 77 = .ok (.laload, 1) := by decide +kernel
theorem dX12_entitled_78 : decode cX12_entitled 78 = .ok (.lreturn, 1) := by decide +kernel
theorem dX12_entitledAnew_0 : decode cX12_entitledAnew 0 = .ok (.aload_n 0, 1) := by decide +kernel
theorem dX12_entitledAnew_1 : decode cX12_entitledAnew 1 = .ok (.iload_n 1, 1) := by decide +kernel
theorem dX12_entitledAnew_2 : decode cX12_entitledAnew 2 = .ok (.iload_n 2, 1) := by decide +kernel
theorem dX12_entitledAnew_3 : decode cX12_entitledAnew 3 = .ok (.invokevirtual 255, 3) := by decide +kernel
theorem dX12_entitledAnew_6 : decode cX12_entitledAnew 6 = .ok (.lreturn, 1) := by decide +kernel
theorem dX12_isPaid_0 : decode cX12_isPaid 0 = .ok (.aload_n 0, 1) := by decide +kernel
theorem dX12_isPaid_1 : decode cX12_isPaid 1 = .ok (.aload_n 0, 1) := by decide +kernel
theorem dX12_isPaid_2 : decode cX12_isPaid 2 = .ok (.iload_n 1, 1) := by decide +kernel
theorem dX12_isPaid_3 : decode cX12_isPaid 3 = .ok (.invokevirtual 252, 3) := by decide +kernel
theorem dX12_isPaid_6 : decode cX12_isPaid 6 = .ok (.ifCond .eq 7, 3) := by decide +kernel
theorem dX12_isPaid_9 : decode cX12_isPaid 9 = .ok (.iconst 0, 1) := by decide +kernel
theorem dX12_isPaid_10 : decode cX12_isPaid 10 = .ok (.goto 4, 3) := by decide +kernel
theorem dX12_isPaid_13 : decode cX12_isPaid 13 = .ok (.iconst 1, 1) := by decide +kernel
theorem dX12_isPaid_14 : decode cX12_isPaid 14 = .ok (.invokevirtual 61, 3) := by decide +kernel
theorem dX12_isPaid_17 : decode cX12_isPaid 17 = .ok (.ifCond .ne 22, 3) := by decide +kernel
theorem dX12_isPaid_20 : decode cX12_isPaid 20 = .ok (.aload_n 0, 1) := by decide +kernel
theorem dX12_isPaid_21 : decode cX12_isPaid 21 = .ok (.getfield 7, 3) := by decide +kernel
theorem dX12_isPaid_24 : decode cX12_isPaid 24 = .ok (.sipush 1130, 3) := by decide +kernel
theorem dX12_isPaid_27 : decode cX12_isPaid 27 = .ok (.iload_n 1, 1) := by decide +kernel
theorem dX12_isPaid_28 : decode cX12_isPaid 28 = .ok (.iadd, 1) := by decide +kernel
theorem dX12_isPaid_29 : decode cX12_isPaid 29 = .ok (.laload, 1) := by decide +kernel
theorem dX12_isPaid_30 : decode cX12_isPaid 30 = .ok (.lconst 1, 1) := by decide +kernel
theorem dX12_isPaid_31 : decode cX12_isPaid 31 = .ok (.lcmp, 1) := by decide +kernel
theorem dX12_isPaid_32 : decode cX12_isPaid 32 = .ok (.ifCond .ne 7, 3) := by decide +kernel
theorem dX12_isPaid_35 : decode cX12_isPaid 35 = .ok (.iconst 1, 1) := by decide +kernel
theorem dX12_isPaid_36 : decode cX12_isPaid 36 = .ok (.goto 4, 3) := by decide +kernel
theorem dX12_isPaid_39 : decode cX12_isPaid 39 = .ok (.iconst 0, 1) := by decide +kernel
theorem dX12_isPaid_40 : decode cX12_isPaid 40 = .ok (.ireturn, 1) := by decide +kernel
theorem dX12_isPair_0 : decode cX12_isPair 0 = .ok (.aload_n 0, 1) := by decide +kernel
theorem dX12_isPair_1 : decode cX12_isPair 1 = .ok (.iload_n 1, 1) := by decide +kernel
theorem dX12_isPair_2 : decode cX12_isPair 2 = .ok (.invokevirtual 55, 3) := by decide +kernel
theorem dX12_isPair_5 : decode cX12_isPair 5 = .ok (.ifCond .eq 15, 3) := by decide +kernel
theorem dX12_isPair_8 : decode cX12_isPair 8 = .ok (.aload_n 0, 1) := by decide +kernel
theorem dX12_isPair_9 : decode cX12_isPair 9 = .ok (.iload_n 2, 1) := by decide +kernel
theorem dX12_isPair_10 : decode cX12_isPair 10 = .ok (.invokevirtual 78, 3) := by decide +kernel
theorem dX12_isPair_13 : decode cX12_isPair 13 = .ok (.ifCond .eq 7, 3) := by decide +kernel
theorem dX12_isPair_16 : decode cX12_isPair 16 = .ok (.iconst 1, 1) := by decide +kernel
theorem dX12_isPair_17 : decode cX12_isPair 17 = .ok (.goto 4, 3) := by decide +kernel
theorem dX12_isPair_20 : decode cX12_isPair 20 = .ok (.iconst 0, 1) := by decide +kernel
theorem dX12_isPair_21 : decode cX12_isPair 21 = .ok (.ireturn, 1) := by decide +kernel
theorem dX12_units_0 : decode cX12_units 0 = .ok (.aload_n 0, 1) := by decide +kernel
theorem dX12_units_1 : decode cX12_units 1 = .ok (.aload_n 0, 1) := by decide +kernel
theorem dX12_units_2 : decode cX12_units 2 = .ok (.iload_n 1, 1) := by decide +kernel
theorem dX12_units_3 : decode cX12_units 3 = .ok (.iload_n 2, 1) := by decide +kernel
theorem dX12_units_4 : decode cX12_units 4 = .ok (.invokevirtual 258, 3) := by decide +kernel
theorem dX12_units_7 : decode cX12_units 7 = .ok (.ifCond .eq 7, 3) := by decide +kernel
theorem dX12_units_10 : decode cX12_units 10 = .ok (.iconst 0, 1) := by decide +kernel
theorem dX12_units_11 : decode cX12_units 11 = .ok (.goto 4, 3) := by decide +kernel
theorem dX12_units_14 : decode cX12_units 14 = .ok (.iconst 1, 1) := by decide +kernel
theorem dX12_units_15 : decode cX12_units 15 = .ok (.invokevirtual 61, 3) := by decide +kernel
theorem dX12_units_18 : decode cX12_units 18 = .ok (.ifCond .eq 9, 3) := by decide +kernel
theorem dX12_units_21 : decode cX12_units 21 = .ok (.ldc2_w 81, 3) := by decide +kernel
theorem dX12_units_24 : decode cX12_units 24 = .ok (.goto 16, 3) := by decide +kernel
theorem dX12_units_27 : decode cX12_units 27 = .ok (.aload_n 0, 1) := by decide +kernel
theorem dX12_units_28 : decode cX12_units 28 = .ok (.getfield 7, 3) := by decide +kernel
theorem dX12_units_31 : decode cX12_units 31 = .ok (.bipush 100, 2) := by decide +kernel
theorem dX12_units_33 : decode cX12_units 33 = .ok (.iconst 4, 1) := by decide +kernel
theorem dX12_units_34 : decode cX12_units 34 = .ok (.iload_n 1, 1) := by decide +kernel
theorem dX12_units_35 : decode cX12_units 35 = .ok (.imul, 1) := by decide +kernel
theorem dX12_units_36 : decode cX12_units 36 = .ok (.iadd, 1) := by decide +kernel
theorem dX12_units_37 : decode cX12_units 37 = .ok (.iload_n 2, 1) := by decide +kernel
theorem dX12_units_38 : decode cX12_units 38 = .ok (.iadd, 1) := by decide +kernel
theorem dX12_units_39 : decode cX12_units 39 = .ok (.laload, 1) := by decide +kernel
theorem dX12_units_40 : decode cX12_units 40 = .ok (.lreturn, 1) := by decide +kernel
theorem dX12_free_0 : decode cX12_free 0 = .ok (.aload_n 0, 1) := by decide +kernel
theorem dX12_free_1 : decode cX12_free 1 = .ok (.aload_n 0, 1) := by decide +kernel
theorem dX12_free_2 : decode cX12_free 2 = .ok (.iload_n 1, 1) := by decide +kernel
theorem dX12_free_3 : decode cX12_free 3 = .ok (.iload_n 2, 1) := by decide +kernel
theorem dX12_free_4 : decode cX12_free 4 = .ok (.invokevirtual 258, 3) := by decide +kernel
theorem dX12_free_7 : decode cX12_free 7 = .ok (.ifCond .eq 7, 3) := by decide +kernel
theorem dX12_free_10 : decode cX12_free 10 = .ok (.iconst 0, 1) := by decide +kernel
theorem dX12_free_11 : decode cX12_free 11 = .ok (.goto 4, 3) := by decide +kernel
theorem dX12_free_14 : decode cX12_free 14 = .ok (.iconst 1, 1) := by decide +kernel
theorem dX12_free_15 : decode cX12_free 15 = .ok (.invokevirtual 61, 3) := by decide +kernel
theorem dX12_free_18 : decode cX12_free 18 = .ok (.ifCond .eq 9, 3) := by decide +kernel
theorem dX12_free_21 : decode cX12_free 21 = .ok (.ldc2_w 81, 3) := by decide +kernel
theorem dX12_free_24 : decode cX12_free 24 = .ok (.goto 9, 3) := by decide +kernel
theorem dX12_free_27 : decode cX12_free 27 = .ok (.aload_n 0, 1) := by decide +kernel
theorem dX12_free_28 : decode cX12_free 28 = .ok (.iload_n 1, 1) := by decide +kernel
theorem dX12_free_29 : decode cX12_free 29 = .ok (.iload_n 2, 1) := by decide +kernel
theorem dX12_free_30 : decode cX12_free 30 = .ok (.invokevirtual 38, 3) := by decide +kernel
theorem dX12_free_33 : decode cX12_free 33 = .ok (.lreturn, 1) := by decide +kernel
theorem dX12_out_0 : decode cX12_out 0 = .ok (.aload_n 0, 1) := by decide +kernel
theorem dX12_out_1 : decode cX12_out 1 = .ok (.aload_n 0, 1) := by decide +kernel
theorem dX12_out_2 : decode cX12_out 2 = .ok (.iload_n 1, 1) := by decide +kernel
theorem dX12_out_3 : decode cX12_out 3 = .ok (.invokevirtual 78, 3) := by decide +kernel
theorem dX12_out_6 : decode cX12_out 6 = .ok (.ifCond .eq 7, 3) := by decide +kernel
theorem dX12_out_9 : decode cX12_out 9 = .ok (.iconst 0, 1) := by decide +kernel
theorem dX12_out_10 : decode cX12_out 10 = .ok (.goto 4, 3) := by decide +kernel
theorem dX12_out_13 : decode cX12_out 13 = .ok (.iconst 1, 1) := by decide +kernel
theorem dX12_out_14 : decode cX12_out 14 = .ok (.invokevirtual 61, 3) := by decide +kernel
theorem dX12_out_17 : decode cX12_out 17 = .ok (.ifCond .eq 9, 3) := by decide +kernel
theorem dX12_out_20 : decode cX12_out 20 = .ok (.ldc2_w 81, 3) := by decide +kernel
theorem dX12_out_23 : decode cX12_out 23 = .ok (.goto 13, 3) := by decide +kernel
theorem dX12_out_26 : decode cX12_out 26 = .ok (.aload_n 0, 1) := by decide +kernel
theorem dX12_out_27 : decode cX12_out 27 = .ok (.getfield 7, 3) := by decide +kernel
theorem dX12_out_30 : decode cX12_out 30 = .ok (.sipush 192, 3) := by decide +kernel
theorem dX12_out_33 : decode cX12_out 33 = .ok (.iload_n 1, 1) := by decide +kernel
theorem dX12_out_34 : decode cX12_out 34 = .ok (.iadd, 1) := by decide +kernel
theorem dX12_out_35 : decode cX12_out 35 = .ok (.laload, 1) := by decide +kernel
theorem dX12_out_36 : decode cX12_out 36 = .ok (.lreturn, 1) := by decide +kernel
