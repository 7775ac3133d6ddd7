theorem dL_instruct_0 : decode cL_instruct 0 = .ok (.aload_n 1, 1) := by decide +kernel
theorem dL_instruct_1 : decode cL_instruct 1 = .ok (.iconst 2, 1) := by decide +kernel
theorem dL_instruct_2 : decode cL_instruct 2 = .ok (.iaload, 1) := by decide +kernel
theorem dL_instruct_3 : decode cL_instruct 3 = .ok (.bipush 28, 2) := by decide +kernel
theorem dL_instruct_5 : decode cL_instruct 5 = .ok (.if_icmp .ge 11, 3) := by decide +kernel
theorem dL_instruct_8 : decode cL_instruct 8 = .ok (.aload_n 1, 1) := by decide +kernel
theorem dL_instruct_9 : decode cL_instruct 9 = .ok (.iconst 3, 1) := by decide +kernel
theorem dL_instruct_10 : decode cL_instruct 10 = .ok (.iaload, 1) := by decide +kernel
theorem dL_instruct_11 : decode cL_instruct 11 = .ok (.bipush 14, 2) := by decide +kernel
theorem dL_instruct_13 : decode cL_instruct 13 = .ok (.if_icmp .ne 6, 3) := by decide +kernel
theorem dL_instruct_16 : decode cL_instruct 16 = .ok (.bipush (-9), 2) := by decide +kernel
theorem dL_instruct_18 : decode cL_instruct 18 = .ok (.ireturn, 1) := by decide +kernel
theorem dL_instruct_19 : decode cL_instruct 19 = .ok (.iload_n 2, 1) := by decide +kernel
theorem dL_instruct_20 : decode cL_instruct 20 = .ok (.aload_n 1, 1) := by decide +kernel
theorem dL_instruct_21 : decode cL_instruct 21 = .ok (.iconst 0, 1) := by decide +kernel
theorem dL_instruct_22 : decode cL_instruct 22 = .ok (.iaload, 1) := by decide +kernel
theorem dL_instruct_23 : decode cL_instruct 23 = .ok (.invokestatic 35, 3) := by decide +kernel
theorem dL_instruct_26 : decode cL_instruct 26 = .ok (.istore_n 3, 1) := by decide +kernel
theorem dL_instruct_27 : decode cL_instruct 27 = .ok (.iload_n 2, 1) := by decide +kernel
theorem dL_instruct_28 : decode cL_instruct 28 = .ok (.iconst 3, 1) := by decide +kernel
theorem dL_instruct_29 : decode cL_instruct 29 = .ok (.ishr, 1) := by decide +kernel
theorem dL_instruct_30 : decode cL_instruct 30 = .ok (.aload_n 1, 1) := by decide +kernel
theorem dL_instruct_31 : decode cL_instruct 31 = .ok (.iconst 0, 1) := by decide +kernel
theorem dL_instruct_32 : decode cL_instruct 32 = .ok (.iaload, 1) := by decide +kernel
theorem dL_instruct_33 : decode cL_instruct 33 = .ok (.iconst 1, 1) := by decide +kernel
theorem dL_instruct_34 : decode cL_instruct 34 = .ok (.iadd, 1) := by decide +kernel
theorem dL_instruct_35 : decode cL_instruct 35 = .ok (.invokestatic 35, 3) := by decide +kernel
theorem dL_instruct_38 : decode cL_instruct 38 = .ok (.iload_n 2, 1) := by decide +kernel
theorem dL_instruct_39 : decode cL_instruct 39 = .ok (.bipush 9, 2) := by decide +kernel
theorem dL_instruct_41 : decode cL_instruct 41 = .ok (.ishr, 1) := by decide +kernel
theorem dL_instruct_42 : decode cL_instruct 42 = .ok (.bipush 31, 2) := by decide +kernel
theorem dL_instruct_44 : decode cL_instruct 44 = .ok (.invokestatic 35, 3) := by decide +kernel
theorem dL_instruct_47 : decode cL_instruct 47 = .ok (.bipush 30, 2) := by decide +kernel
theorem dL_instruct_49 : decode cL_instruct 49 = .ok (.idiv, 1) := by decide +kernel
theorem dL_instruct_50 : decode cL_instruct 50 = .ok (.isub, 1) := by decide +kernel
theorem dL_instruct_51 : decode cL_instruct 51 = .ok (.istore 4, 2) := by decide +kernel
theorem dL_instruct_53 : decode cL_instruct 53 = .ok (.iload_n 2, 1) := by decide +kernel
theorem dL_instruct_54 : decode cL_instruct 54 = .ok (.iconst 5, 1) := by decide +kernel
theorem dL_instruct_55 : decode cL_instruct 55 = .ok (.ishr, 1) := by decide +kernel
theorem dL_instruct_56 : decode cL_instruct 56 = .ok (.aload_n 1, 1) := by decide +kernel
theorem dL_instruct_57 : decode cL_instruct 57 = .ok (.iconst 1, 1) := by decide +kernel
theorem dL_instruct_58 : decode cL_instruct 58 = .ok (.iaload, 1) := by decide +kernel
theorem dL_instruct_59 : decode cL_instruct 59 = .ok (.invokestatic 35, 3) := by decide +kernel
theorem dL_instruct_62 : decode cL_instruct 62 = .ok (.istore 5, 2) := by decide +kernel
theorem dL_instruct_64 : decode cL_instruct 64 = .ok (.iconst 1, 1) := by decide +kernel
theorem dL_instruct_65 : decode cL_instruct 65 = .ok (.iload_n 2, 1) := by decide +kernel
theorem dL_instruct_66 : decode cL_instruct 66 = .ok (.bipush 6, 2) := by decide +kernel
theorem dL_instruct_68 : decode cL_instruct 68 = .ok (.ishr, 1) := by decide +kernel
theorem dL_instruct_69 : decode cL_instruct 69 = .ok (.bipush 60, 2) := by decide +kernel
theorem dL_instruct_71 : decode cL_instruct 71 = .ok (.invokestatic 35, 3) := by decide +kernel
theorem dL_instruct_74 : decode cL_instruct 74 = .ok (.iadd, 1) := by decide +kernel
theorem dL_instruct_75 : decode cL_instruct 75 = .ok (.istore 6, 2) := by decide +kernel
theorem dL_instruct_77 : decode cL_instruct 77 = .ok (.iload_n 2, 1) := by decide +kernel
theorem dL_instruct_78 : decode cL_instruct 78 = .ok (.bipush 8, 2) := by decide +kernel
theorem dL_instruct_80 : decode cL_instruct 80 = .ok (.ishr, 1) := by decide +kernel
theorem dL_instruct_81 : decode cL_instruct 81 = .ok (.sipush 900, 3) := by decide +kernel
theorem dL_instruct_84 : decode cL_instruct 84 = .ok (.invokestatic 35, 3) := by decide +kernel
theorem dL_instruct_87 : decode cL_instruct 87 = .ok (.istore 7, 2) := by decide +kernel
theorem dL_instruct_89 : decode cL_instruct 89 = .ok (.aload_n 0, 1) := by decide +kernel
theorem dL_instruct_90 : decode cL_instruct 90 = .ok (.invokevirtual 97, 3) := by decide +kernel
theorem dL_instruct_93 : decode cL_instruct 93 = .ok (.iload_n 2, 1) := by decide +kernel
theorem dL_instruct_94 : decode cL_instruct 94 = .ok (.bipush 10, 2) := by decide +kernel
theorem dL_instruct_96 : decode cL_instruct 96 = .ok (.ishr, 1) := by decide +kernel
theorem dL_instruct_97 : decode cL_instruct 97 = .ok (.iconst 3, 1) := by decide +kernel
theorem dL_instruct_98 : decode cL_instruct 98 = .ok (.invokestatic 35, 3) := by decide +kernel
theorem dL_instruct_101 : decode cL_instruct 101 = .ok (.iadd, 1) := by decide +kernel
theorem dL_instruct_102 : decode cL_instruct 102 = .ok (.iload_n 2, 1) := by decide +kernel
theorem dL_instruct_103 : decode cL_instruct 103 = .ok (.bipush 12, 2) := by decide +kernel
theorem dL_instruct_105 : decode cL_instruct 105 = .ok (.ishr, 1) := by decide +kernel
theorem dL_instruct_106 : decode cL_instruct 106 = .ok (.bipush 19, 2) := by decide +kernel
theorem dL_instruct_108 : decode cL_instruct 108 = .ok (.invokestatic 35, 3) := by decide +kernel
theorem dL_instruct_111 : decode cL_instruct 111 = .ok (.bipush 18, 2) := by decide +kernel
theorem dL_instruct_113 : decode cL_instruct 113 = .ok (.idiv, 1) := by decide +kernel
theorem dL_instruct_114 : decode cL_instruct 114 = .ok (.isub, 1) := by decide +kernel
theorem dL_instruct_115 : decode cL_instruct 115 = .ok (.istore 8, 2) := by decide +kernel
theorem dL_instruct_117 : decode cL_instruct 117 = .ok (.iload_n 2, 1) := by decide +kernel
theorem dL_instruct_118 : decode cL_instruct 118 = .ok (.bipush 11, 2) := by decide +kernel
theorem dL_instruct_120 : decode cL_instruct 120 = .ok (.ishr, 1) := by decide +kernel
theorem dL_instruct_121 : decode cL_instruct 121 = .ok (.iconst 3, 1) := by decide +kernel
theorem dL_instruct_122 : decode cL_instruct 122 = .ok (.invokestatic 35, 3) := by decide +kernel
theorem dL_instruct_125 : decode cL_instruct 125 = .ok (.ifCond .ne 17, 3) := by decide +kernel
theorem dL_instruct_128 : decode cL_instruct 128 = .ok (.iconst 1, 1) := by decide +kernel
theorem dL_instruct_129 : decode cL_instruct 129 = .ok (.iload_n 2, 1) := by decide +kernel
theorem dL_instruct_130 : decode cL_instruct 130 = .ok (.bipush 12, 2) := by decide +kernel
theorem dL_instruct_132 : decode cL_instruct 132 = .ok (.ishr, 1) := by decide +kernel
theorem dL_instruct_133 : decode cL_instruct 133 = .ok (.bipush 9, 2) := by decide +kernel
theorem dL_instruct_135 : decode cL_instruct 135 = .ok (.invokestatic 35, 3) := by decide +kernel
theorem dL_instruct_138 : decode cL_instruct 138 = .ok (.iadd, 1) := by decide +kernel
theorem dL_instruct_139 : decode cL_instruct 139 = .ok (.goto 4, 3) := by decide +kernel
theorem dL_instruct_142 : decode cL_instruct 142 = .ok (.iconst 0, 1) := by decide +kernel
theorem dL_instruct_143 : decode cL_instruct 143 = .ok (.istore 9, 2) := by decide +kernel
theorem dL_instruct_145 : decode cL_instruct 145 = .ok (.aload_n 0, 1) := by decide +kernel
theorem dL_instruct_146 : decode cL_instruct 146 = .ok (.iload_n 3, 1) := by decide +kernel
theorem dL_instruct_147 : decode cL_instruct 147 = .ok (.iload 4, 2) := by decide +kernel
theorem dL_instruct_149 : decode cL_instruct 149 = .ok (.iconst 1, 1) := by decide +kernel
theorem dL_instruct_150 : decode cL_instruct 150 = .ok (.iload 5, 2) := by decide +kernel
theorem dL_instruct_152 : decode cL_instruct 152 = .ok (.iload 6, 2) := by decide +kernel
theorem dL_instruct_154 : decode cL_instruct 154 = .ok (.iload 7, 2) := by decide +kernel
theorem dL_instruct_156 : decode cL_instruct 156 = .ok (.iload 8, 2) := by decide +kernel
theorem dL_instruct_158 : decode cL_instruct 158 = .ok (.iload 9, 2) := by decide +kernel
theorem dL_instruct_160 : decode cL_instruct 160 = .ok (.invokestatic 131, 3) := by decide +kernel
theorem dL_instruct_163 : decode cL_instruct 163 = .ok (.istore 10, 2) := by decide +kernel
theorem dL_instruct_165 : decode cL_instruct 165 = .ok (.iload 10, 2) := by decide +kernel
theorem dL_instruct_167 : decode cL_instruct 167 = .ok (.ifCond .lt 104, 3) := by decide +kernel
theorem dL_instruct_170 : decode cL_instruct 170 = .ok (.aload_n 1, 1) := by decide +kernel
theorem dL_instruct_171 : decode cL_instruct 171 = .ok (.iconst 2, 1) := by decide +kernel
theorem dL_instruct_172 : decode cL_instruct 172 = .ok (.dup2, 1) := by decide +kernel
theorem dL_instruct_173 : decode cL_instruct 173 = .ok (.iaload, 1) := by decide +kernel
theorem dL_instruct_174 : decode cL_instruct 174 = .ok (.iconst 1, 1) := by decide +kernel
theorem dL_instruct_175 : decode cL_instruct 175 = .ok (.iadd, 1) := by decide +kernel
theorem dL_instruct_176 : decode cL_instruct 176 = .ok (.iastore, 1) := by decide +kernel
theorem dL_instruct_177 : decode cL_instruct 177 = .ok (.aload_n 1, 1) := by decide +kernel
theorem dL_instruct_178 : decode cL_instruct 178 = .ok (.iconst 3, 1) := by decide +kernel
theorem dL_instruct_179 : decode cL_instruct 179 = .ok (.dup2, 1) := by decide +kernel
theorem dL_instruct_180 : decode cL_instruct 180 = .ok (.iaload, 1) := by decide +kernel
theorem dL_instruct_181 : decode cL_instruct 181 = .ok (.aload_n 0, 1) := by decide +kernel
theorem dL_instruct_182 : decode cL_instruct 182 = .ok (.iload 10, 2) := by decide +kernel
theorem dL_instruct_184 : decode cL_instruct 184 = .ok (.invokevirtual 121, 3) := by decide +kernel
theorem dL_instruct_187 : decode cL_instruct 187 = .ok (.aload_n 1, 1) := by decide +kernel
theorem dL_instruct_188 : decode cL_instruct 188 = .ok (.iconst 3, 1) := by decide +kernel
theorem dL_instruct_189 : decode cL_instruct 189 = .ok (.iaload, 1) := by decide +kernel
theorem dL_instruct_190 : decode cL_instruct 190 = .ok (.if_icmp .ne 7, 3) := by decide +kernel
theorem dL_instruct_193 : decode cL_instruct 193 = .ok (.iconst 1, 1) := by decide +kernel
theorem dL_instruct_194 : decode cL_instruct 194 = .ok (.goto 4, 3) := by decide +kernel
theorem dL_instruct_197 : decode cL_instruct 197 = .ok (.iconst 0, 1) := by decide +kernel
theorem dL_instruct_198 : decode cL_instruct 198 = .ok (.iadd, 1) := by decide +kernel
theorem dL_instruct_199 : decode cL_instruct 199 = .ok (.iastore, 1) := by decide +kernel
theorem dL_instruct_200 : decode cL_instruct 200 = .ok (.aload_n 0, 1) := by decide +kernel
theorem dL_instruct_201 : decode cL_instruct 201 = .ok (.iload 4, 2) := by decide +kernel
theorem dL_instruct_203 : decode cL_instruct 203 = .ok (.iload_n 3, 1) := by decide +kernel
theorem dL_instruct_204 : decode cL_instruct 204 = .ok (.iconst 0, 1) := by decide +kernel
theorem dL_instruct_205 : decode cL_instruct 205 = .ok (.iload 5, 2) := by decide +kernel
theorem dL_instruct_207 : decode cL_instruct 207 = .ok (.iload 6, 2) := by decide +kernel
theorem dL_instruct_209 : decode cL_instruct 209 = .ok (.iload 7, 2) := by decide +kernel
theorem dL_instruct_211 : decode cL_instruct 211 = .ok (.iload_n 2, 1) := by decide +kernel
theorem dL_instruct_212 : decode cL_instruct 212 = .ok (.bipush 13, 2) := by decide +kernel
theorem dL_instruct_214 : decode cL_instruct 214 = .ok (.ishr, 1) := by decide +kernel
theorem dL_instruct_215 : decode cL_instruct 215 = .ok (.iconst 4, 1) := by decide +kernel
theorem dL_instruct_216 : decode cL_instruct 216 = .ok (.invokestatic 35, 3) := by decide +kernel
theorem dL_instruct_219 : decode cL_instruct 219 = .ok (.iadd, 1) := by decide +kernel
theorem dL_instruct_220 : decode cL_instruct 220 = .ok (.iload 8, 2) := by decide +kernel
theorem dL_instruct_222 : decode cL_instruct 222 = .ok (.iload 9, 2) := by decide +kernel
theorem dL_instruct_224 : decode cL_instruct 224 = .ok (.invokestatic 131, 3) := by decide +kernel
theorem dL_instruct_227 : decode cL_instruct 227 = .ok (.istore 11, 2) := by decide +kernel
theorem dL_instruct_229 : decode cL_instruct 229 = .ok (.iload 11, 2) := by decide +kernel
theorem dL_instruct_231 : decode cL_instruct 231 = .ok (.iload 10, 2) := by decide +kernel
theorem dL_instruct_233 : decode cL_instruct 233 = .ok (.iconst 1, 1) := by decide +kernel
theorem dL_instruct_234 : decode cL_instruct 234 = .ok (.iadd, 1) := by decide +kernel
theorem dL_instruct_235 : decode cL_instruct 235 = .ok (.if_icmp .eq 6, 3) := by decide +kernel
theorem dL_instruct_238 : decode cL_instruct 238 = .ok (.bipush (-100), 2) := by decide +kernel
theorem dL_instruct_240 : decode cL_instruct 240 = .ok (.ireturn, 1) := by decide +kernel
theorem dL_instruct_241 : decode cL_instruct 241 = .ok (.aload_n 1, 1) := by decide +kernel
theorem dL_instruct_242 : decode cL_instruct 242 = .ok (.iconst 2, 1) := by decide +kernel
theorem dL_instruct_243 : decode cL_instruct 243 = .ok (.dup2, 1) := by decide +kernel
theorem dL_instruct_244 : decode cL_instruct 244 = .ok (.iaload, 1) := by decide +kernel
theorem dL_instruct_245 : decode cL_instruct 245 = .ok (.iconst 1, 1) := by decide +kernel
theorem dL_instruct_246 : decode cL_instruct 246 = .ok (.iadd, 1) := by decide +kernel
theorem dL_instruct_247 : decode cL_instruct 247 = .ok (.iastore, 1) := by decide +kernel
theorem dL_instruct_248 : decode cL_instruct 248 = .ok (.aload_n 1, 1) := by decide +kernel
theorem dL_instruct_249 : decode cL_instruct 249 = .ok (.iconst 3, 1) := by decide +kernel
theorem dL_instruct_250 : decode cL_instruct 250 = .ok (.dup2, 1) := by decide +kernel
theorem dL_instruct_251 : decode cL_instruct 251 = .ok (.iaload, 1) := by decide +kernel
theorem dL_instruct_252 : decode cL_instruct 252 = .ok (.aload_n 0, 1) := by decide +kernel
theorem dL_instruct_253 : decode cL_instruct 253 = .ok (.iload 11, 2) := by decide +kernel
theorem dL_instruct_255 : decode cL_instruct 255 = .ok (.invokevirtual 121, 3) := by decide +kernel
theorem dL_instruct_258 : decode cL_instruct 258 = .ok (.aload_n 1, 1) := by decide +kernel
theorem dL_instruct_259 : decode cL_instruct 259 = .ok (.iconst 3, 1) := by decide +kernel
theorem dL_instruct_260 : decode cL_instruct 260 = .ok (.iaload, 1) := by decide +kernel
theorem dL_instruct_261 : decode cL_instruct 261 = .ok (.if_icmp .ne 7, 3) := by decide +kernel
theorem dL_instruct_264 : decode cL_instruct 264 = .ok (.iconst 1, 1) := by decide +kernel
theorem dL_instruct_265 : decode cL_instruct 265 = .ok (.goto 4, 3) := by decide +kernel
theorem dL_instruct_268 : decode cL_instruct 268 = .ok (.iconst 0, 1) := by decide +kernel
theorem dL_instruct_269 : decode cL_instruct 269 = .ok (.iadd, 1) := by decide +kernel
theorem dL_instruct_270 : decode cL_instruct 270 = .ok (.iastore, 1) := by decide +kernel
theorem dL_instruct_271 : decode cL_instruct 271 = .ok (.iload 10, 2) := by decide +kernel
theorem dL_instruct_273 : decode cL_instruct 273 = .ok (.ireturn, 1) := by decide +kernel
theorem dL_act_0 : decode cL_act 0 = .ok (.iload_n 2, 1) := by decide +kernel
theorem dL_act_1 : decode cL_act 1 = .ok (.aload_n 1, 1) := by decide +kernel
theorem dL_act_2 : decode cL_act 2 = .ok (.iconst 0, 1) := by decide +kernel
theorem dL_act_3 : decode cL_act 3 = .ok (.iaload, 1) := by decide +kernel
theorem dL_act_4 : decode cL_act 4 = .ok (.iconst 1, 1) := by decide +kernel
theorem dL_act_5 : decode cL_act 5 = .ok (.iadd, 1) := by decide +kernel
theorem dL_act_6 : decode cL_act 6 = .ok (.invokestatic 35, 3) := by decide +kernel
theorem dL_act_9 : decode cL_act 9 = .ok (.iload_n 2, 1) := by decide +kernel
theorem dL_act_10 : decode cL_act 10 = .ok (.bipush 9, 2) := by decide +kernel
theorem dL_act_12 : decode cL_act 12 = .ok (.ishr, 1) := by decide +kernel
theorem dL_act_13 : decode cL_act 13 = .ok (.bipush 31, 2) := by decide +kernel
theorem dL_act_15 : decode cL_act 15 = .ok (.invokestatic 35, 3) := by decide +kernel
theorem dL_act_18 : decode cL_act 18 = .ok (.bipush 30, 2) := by decide +kernel
theorem dL_act_20 : decode cL_act 20 = .ok (.idiv, 1) := by decide +kernel
theorem dL_act_21 : decode cL_act 21 = .ok (.isub, 1) := by decide +kernel
theorem dL_act_22 : decode cL_act 22 = .ok (.istore 4, 2) := by decide +kernel
theorem dL_act_24 : decode cL_act 24 = .ok (.iload_n 2, 1) := by decide +kernel
theorem dL_act_25 : decode cL_act 25 = .ok (.iconst 2, 1) := by decide +kernel
theorem dL_act_26 : decode cL_act 26 = .ok (.ishr, 1) := by decide +kernel
theorem dL_act_27 : decode cL_act 27 = .ok (.aload_n 1, 1) := by decide +kernel
theorem dL_act_28 : decode cL_act 28 = .ok (.iconst 2, 1) := by decide +kernel
theorem dL_act_29 : decode cL_act 29 = .ok (.iaload, 1) := by decide +kernel
theorem dL_act_30 : decode cL_act 30 = .ok (.iconst 1, 1) := by decide +kernel
theorem dL_act_31 : decode cL_act 31 = .ok (.iadd, 1) := by decide +kernel
theorem dL_act_32 : decode cL_act 32 = .ok (.invokestatic 35, 3) := by decide +kernel
theorem dL_act_35 : decode cL_act 35 = .ok (.istore 5, 2) := by decide +kernel
theorem dL_act_37 : decode cL_act 37 = .ok (.iload_n 3, 1) := by decide +kernel
theorem dL_act_38 : decode cL_act 38 = .ok (.tableswitch 259 0 8 #[50, 50, 50, 50, 57, 87, 114, 158, 174], 50) := by decide +kernel
theorem dL_act_88 : decode cL_act 88 = .ok (.aload_n 0, 1) := by decide +kernel
theorem dL_act_89 : decode cL_act 89 = .ok (.aload_n 1, 1) := by decide +kernel
theorem dL_act_90 : decode cL_act 90 = .ok (.iload_n 2, 1) := by decide +kernel
theorem dL_act_91 : decode cL_act 91 = .ok (.invokestatic 135, 3) := by decide +kernel
theorem dL_act_94 : decode cL_act 94 = .ok (.ireturn, 1) := by decide +kernel
theorem dL_act_95 : decode cL_act 95 = .ok (.aload_n 0, 1) := by decide +kernel
theorem dL_act_96 : decode cL_act 96 = .ok (.iload 4, 2) := by decide +kernel
theorem dL_act_98 : decode cL_act 98 = .ok (.iload_n 2, 1) := by decide +kernel
theorem dL_act_99 : decode cL_act 99 = .ok (.iconst 4, 1) := by decide +kernel
theorem dL_act_100 : decode cL_act 100 = .ok (.ishr, 1) := by decide +kernel
theorem dL_act_101 : decode cL_act 101 = .ok (.aload_n 1, 1) := by decide +kernel
theorem dL_act_102 : decode cL_act 102 = .ok (.iconst 1, 1) := by decide +kernel
theorem dL_act_103 : decode cL_act 103 = .ok (.iaload, 1) := by decide +kernel
theorem dL_act_104 : decode cL_act 104 = .ok (.iconst 1, 1) := by decide +kernel
theorem dL_act_105 : decode cL_act 105 = .ok (.iadd, 1) := by decide +kernel
theorem dL_act_106 : decode cL_act 106 = .ok (.invokestatic 35, 3) := by decide +kernel
theorem dL_act_109 : decode cL_act 109 = .ok (.iload_n 2, 1) := by decide +kernel
theorem dL_act_110 : decode cL_act 110 = .ok (.bipush 6, 2) := by decide +kernel
theorem dL_act_112 : decode cL_act 112 = .ok (.ishr, 1) := by decide +kernel
theorem dL_act_113 : decode cL_act 113 = .ok (.bipush 40, 2) := by decide +kernel
theorem dL_act_115 : decode cL_act 115 = .ok (.invokestatic 35, 3) := by decide +kernel
theorem dL_act_118 : decode cL_act 118 = .ok (.iconst 1, 1) := by decide +kernel
theorem dL_act_119 : decode cL_act 119 = .ok (.isub, 1) := by decide +kernel
theorem dL_act_120 : decode cL_act 120 = .ok (.invokestatic 138, 3) := by decide +kernel
theorem dL_act_123 : decode cL_act 123 = .ok (.l2i, 1) := by decide +kernel
theorem dL_act_124 : decode cL_act 124 = .ok (.ireturn, 1) := by decide +kernel
theorem dL_act_125 : decode cL_act 125 = .ok (.iload_n 2, 1) := by decide +kernel
theorem dL_act_126 : decode cL_act 126 = .ok (.bipush 8, 2) := by decide +kernel
theorem dL_act_128 : decode cL_act 128 = .ok (.ishr, 1) := by decide +kernel
theorem dL_act_129 : decode cL_act 129 = .ok (.iconst 3, 1) := by decide +kernel
theorem dL_act_130 : decode cL_act 130 = .ok (.invokestatic 35, 3) := by decide +kernel
theorem dL_act_133 : decode cL_act 133 = .ok (.ifCond .ne 12, 3) := by decide +kernel
theorem dL_act_136 : decode cL_act 136 = .ok (.aload_n 0, 1) := by decide +kernel
theorem dL_act_137 : decode cL_act 137 = .ok (.iload 5, 2) := by decide +kernel
theorem dL_act_139 : decode cL_act 139 = .ok (.invokestatic 142, 3) := by decide +kernel
theorem dL_act_142 : decode cL_act 142 = .ok (.goto 9, 3) := by decide +kernel
theorem dL_act_145 : decode cL_act 145 = .ok (.aload_n 0, 1) := by decide +kernel
theorem dL_act_146 : decode cL_act 146 = .ok (.iload 5, 2) := by decide +kernel
theorem dL_act_148 : decode cL_act 148 = .ok (.invokestatic 145, 3) := by decide +kernel
theorem dL_act_151 : decode cL_act 151 = .ok (.ireturn, 1) := by decide +kernel
theorem dL_act_152 : decode cL_act 152 = .ok (.aload_n 0, 1) := by decide +kernel
theorem dL_act_153 : decode cL_act 153 = .ok (.iload_n 2, 1) := by decide +kernel
theorem dL_act_154 : decode cL_act 154 = .ok (.iconst 3, 1) := by decide +kernel
theorem dL_act_155 : decode cL_act 155 = .ok (.ishr, 1) := by decide +kernel
theorem dL_act_156 : decode cL_act 156 = .ok (.aload_n 1, 1) := by decide +kernel
theorem dL_act_157 : decode cL_act 157 = .ok (.iconst 3, 1) := by decide +kernel
theorem dL_act_158 : decode cL_act 158 = .ok (.iaload, 1) := by decide +kernel
theorem dL_act_159 : decode cL_act 159 = .ok (.iconst 1, 1) := by decide +kernel
theorem dL_act_160 : decode cL_act 160 = .ok (.iadd, 1) := by decide +kernel
theorem dL_act_161 : decode cL_act 161 = .ok (.invokestatic 35, 3) := by decide +kernel
theorem dL_act_164 : decode cL_act 164 = .ok (.iload_n 2, 1) := by decide +kernel
theorem dL_act_165 : decode cL_act 165 = .ok (.bipush 6, 2) := by decide +kernel
theorem dL_act_167 : decode cL_act 167 = .ok (.ishr, 1) := by decide +kernel
theorem dL_act_168 : decode cL_act 168 = .ok (.aload_n 1, 1) := by decide +kernel
theorem dL_act_169 : decode cL_act 169 = .ok (.iconst 3, 1) := by decide +kernel
theorem dL_act_170 : decode cL_act 170 = .ok (.iaload, 1) := by decide +kernel
theorem dL_act_171 : decode cL_act 171 = .ok (.iconst 1, 1) := by decide +kernel
theorem dL_act_172 : decode cL_act 172 = .ok (.iadd, 1) := by decide +kernel
theorem dL_act_173 : decode cL_act 173 = .ok (.invokestatic 35, 3) := by decide +kernel
theorem dL_act_176 : decode cL_act 176 = .ok (.iload_n 2, 1) := by decide +kernel
theorem dL_act_177 : decode cL_act 177 = .ok (.bipush 9, 2) := by decide +kernel
theorem dL_act_179 : decode cL_act 179 = .ok (.ishr, 1) := by decide +kernel
theorem dL_act_180 : decode cL_act 180 = .ok (.iconst 2, 1) := by decide +kernel
theorem dL_act_181 : decode cL_act 181 = .ok (.invokestatic 35, 3) := by decide +kernel
theorem dL_act_184 : decode cL_act 184 = .ok (.ifCond .ne 7, 3) := by decide +kernel
theorem dL_act_187 : decode cL_act 187 = .ok (.iconst 1, 1) := by decide +kernel
theorem dL_act_188 : decode cL_act 188 = .ok (.goto 4, 3) := by decide +kernel
theorem dL_act_191 : decode cL_act 191 = .ok (.iconst 0, 1) := by decide +kernel
theorem dL_act_192 : decode cL_act 192 = .ok (.invokestatic 148, 3) := by decide +kernel
theorem dL_act_195 : decode cL_act 195 = .ok (.ireturn, 1) := by decide +kernel
theorem dL_act_196 : decode cL_act 196 = .ok (.aload_n 0, 1) := by decide +kernel
theorem dL_act_197 : decode cL_act 197 = .ok (.iload_n 2, 1) := by decide +kernel
theorem dL_act_198 : decode cL_act 198 = .ok (.aload_n 0, 1) := by decide +kernel
theorem dL_act_199 : decode cL_act 199 = .ok (.invokevirtual 101, 3) := by decide +kernel
theorem dL_act_202 : decode cL_act 202 = .ok (.iconst 1, 1) := by decide +kernel
theorem dL_act_203 : decode cL_act 203 = .ok (.iadd, 1) := by decide +kernel
theorem dL_act_204 : decode cL_act 204 = .ok (.invokestatic 35, 3) := by decide +kernel
theorem dL_act_207 : decode cL_act 207 = .ok (.invokestatic 152, 3) := by decide +kernel
theorem dL_act_210 : decode cL_act 210 = .ok (.l2i, 1) := by decide +kernel
theorem dL_act_211 : decode cL_act 211 = .ok (.ireturn, 1) := by decide +kernel
theorem dL_act_212 : decode cL_act 212 = .ok (.aload_n 1, 1) := by decide +kernel
theorem dL_act_213 : decode cL_act 213 = .ok (.iconst 4, 1) := by decide +kernel
theorem dL_act_214 : decode cL_act 214 = .ok (.iaload, 1) := by decide +kernel
theorem dL_act_215 : decode cL_act 215 = .ok (.iconst 5, 1) := by decide +kernel
theorem dL_act_216 : decode cL_act 216 = .ok (.if_icmp .ne 8, 3) := by decide +kernel
theorem dL_act_219 : decode cL_act 219 = .ok (.bipush (-9), 2) := by decide +kernel
theorem dL_act_221 : decode cL_act 221 = .ok (.goto 55, 3) := by decide +kernel
theorem dL_act_224 : decode cL_act 224 = .ok (.aload_n 0, 1) := by decide +kernel
theorem dL_act_225 : decode cL_act 225 = .ok (.iload_n 2, 1) := by decide +kernel
theorem dL_act_226 : decode cL_act 226 = .ok (.iconst 4, 1) := by decide +kernel
theorem dL_act_227 : decode cL_act 227 = .ok (.invokestatic 35, 3) := by decide +kernel
theorem dL_act_230 : decode cL_act 230 = .ok (.iload_n 2, 1) := by decide +kernel
theorem dL_act_231 : decode cL_act 231 = .ok (.iconst 2, 1) := by decide +kernel
theorem dL_act_232 : decode cL_act 232 = .ok (.ishr, 1) := by decide +kernel
theorem dL_act_233 : decode cL_act 233 = .ok (.aload_n 1, 1) := by decide +kernel
theorem dL_act_234 : decode cL_act 234 = .ok (.iconst 1, 1) := by decide +kernel
theorem dL_act_235 : decode cL_act 235 = .ok (.iaload, 1) := by decide +kernel
theorem dL_act_236 : decode cL_act 236 = .ok (.iconst 1, 1) := by decide +kernel
theorem dL_act_237 : decode cL_act 237 = .ok (.iadd, 1) := by decide +kernel
theorem dL_act_238 : decode cL_act 238 = .ok (.invokestatic 35, 3) := by decide +kernel
theorem dL_act_241 : decode cL_act 241 = .ok (.iconst 1, 1) := by decide +kernel
theorem dL_act_242 : decode cL_act 242 = .ok (.iload_n 2, 1) := by decide +kernel
theorem dL_act_243 : decode cL_act 243 = .ok (.iconst 4, 1) := by decide +kernel
theorem dL_act_244 : decode cL_act 244 = .ok (.ishr, 1) := by decide +kernel
theorem dL_act_245 : decode cL_act 245 = .ok (.iconst 3, 1) := by decide +kernel
theorem dL_act_246 : decode cL_act 246 = .ok (.invokestatic 35, 3) := by decide +kernel
theorem dL_act_249 : decode cL_act 249 = .ok (.iadd, 1) := by decide +kernel
theorem dL_act_250 : decode cL_act 250 = .ok (.iconst 1, 1) := by decide +kernel
theorem dL_act_251 : decode cL_act 251 = .ok (.iload_n 2, 1) := by decide +kernel
theorem dL_act_252 : decode cL_act 252 = .ok (.bipush 6, 2) := by decide +kernel
theorem dL_act_254 : decode cL_act 254 = .ok (.ishr, 1) := by decide +kernel
theorem dL_act_255 : decode cL_act 255 = .ok (.iconst 3, 1) := by decide +kernel
theorem dL_act_256 : decode cL_act 256 = .ok (.invokestatic 35, 3) := by decide +kernel
theorem dL_act_259 : decode cL_act 259 = .ok (.iadd, 1) := by decide +kernel
theorem dL_act_260 : decode cL_act 260 = .ok (.aload_n 0, 1) := by decide +kernel
theorem dL_act_261 : decode cL_act 261 = .ok (.invokevirtual 97, 3) := by decide +kernel
theorem dL_act_264 : decode cL_act 264 = .ok (.iload_n 2, 1) := by decide +kernel
theorem dL_act_265 : decode cL_act 265 = .ok (.bipush 8, 2) := by decide +kernel
theorem dL_act_267 : decode cL_act 267 = .ok (.ishr, 1) := by decide +kernel
theorem dL_act_268 : decode cL_act 268 = .ok (.iconst 2, 1) := by decide +kernel
theorem dL_act_269 : decode cL_act 269 = .ok (.invokestatic 35, 3) := by decide +kernel
theorem dL_act_272 : decode cL_act 272 = .ok (.iadd, 1) := by decide +kernel
theorem dL_act_273 : decode cL_act 273 = .ok (.invokestatic 156, 3) := by decide +kernel
theorem dL_act_276 : decode cL_act 276 = .ok (.istore 6, 2) := by decide +kernel
theorem dL_act_278 : decode cL_act 278 = .ok (.aload_n 1, 1) := by decide +kernel
theorem dL_act_279 : decode cL_act 279 = .ok (.iconst 4, 1) := by decide +kernel
theorem dL_act_280 : decode cL_act 280 = .ok (.dup2, 1) := by decide +kernel
theorem dL_act_281 : decode cL_act 281 = .ok (.iaload, 1) := by decide +kernel
theorem dL_act_282 : decode cL_act 282 = .ok (.iload 6, 2) := by decide +kernel
theorem dL_act_284 : decode cL_act 284 = .ok (.ifCond .ge 7, 3) := by decide +kernel
theorem dL_act_287 : decode cL_act 287 = .ok (.iconst 0, 1) := by decide +kernel
theorem dL_act_288 : decode cL_act 288 = .ok (.goto 4, 3) := by decide +kernel
theorem dL_act_291 : decode cL_act 291 = .ok (.iconst 1, 1) := by decide +kernel
theorem dL_act_292 : decode cL_act 292 = .ok (.iadd, 1) := by decide +kernel
theorem dL_act_293 : decode cL_act 293 = .ok (.iastore, 1) := by decide +kernel
theorem dL_act_294 : decode cL_act 294 = .ok (.iload 6, 2) := by decide +kernel
theorem dL_act_296 : decode cL_act 296 = .ok (.ireturn, 1) := by decide +kernel
theorem dL_act_297 : decode cL_act 297 = .ok (.aload_n 0, 1) := by decide +kernel
theorem dL_act_298 : decode cL_act 298 = .ok (.iload_n 2, 1) := by decide +kernel
theorem dL_act_299 : decode cL_act 299 = .ok (.aload_n 1, 1) := by decide +kernel
theorem dL_act_300 : decode cL_act 300 = .ok (.iconst 1, 1) := by decide +kernel
theorem dL_act_301 : decode cL_act 301 = .ok (.iaload, 1) := by decide +kernel
theorem dL_act_302 : decode cL_act 302 = .ok (.invokestatic 35, 3) := by decide +kernel
theorem dL_act_305 : decode cL_act 305 = .ok (.iconst 1, 1) := by decide +kernel
theorem dL_act_306 : decode cL_act 306 = .ok (.iload_n 2, 1) := by decide +kernel
theorem dL_act_307 : decode cL_act 307 = .ok (.iconst 2, 1) := by decide +kernel
theorem dL_act_308 : decode cL_act 308 = .ok (.ishr, 1) := by decide +kernel
theorem dL_act_309 : decode cL_act 309 = .ok (.bipush 40, 2) := by decide +kernel
theorem dL_act_311 : decode cL_act 311 = .ok (.invokestatic 35, 3) := by decide +kernel
theorem dL_act_314 : decode cL_act 314 = .ok (.iadd, 1) := by decide +kernel
theorem dL_act_315 : decode cL_act 315 = .ok (.invokevirtual 160, 3) := by decide +kernel
theorem dL_act_318 : decode cL_act 318 = .ok (.ireturn, 1) := by decide +kernel
theorem dX0_init_0 : decode cX0_init 0 = .ok (.aload_n 0, 1) := by decide +kernel
theorem dX0_init_1 : decode cX0_init 1 = .ok (.invokespecial 3, 3) := by decide +kernel
theorem dX0_init_4 : decode cX0_init 4 = .ok (.aload_n 0, 1) := by decide +kernel
theorem dX0_init_5 : decode cX0_init 5 = .ok (.iconst (-1), 1) := by decide +kernel
theorem dX0_init_6 : decode cX0_init 6 = .ok (.putfield 9, 3) := by decide +kernel
theorem dX0_init_9 : decode cX0_init 9 = .ok (.aload_n 0, 1) := by decide +kernel
theorem dX0_init_10 : decode cX0_init 10 = .ok (.iconst 4, 1) := by decide +kernel
theorem dX0_init_11 : decode cX0_init 11 = .ok (.newarray .long, 2) := by decide +kernel
theorem dX0_init_13 : decode cX0_init 13 = .ok (.putfield 15, 3) := by decide +kernel
theorem dX0_init_16 : decode cX0_init 16 = .ok (.aload_n 0, 1) := by decide +kernel
theorem dX0_init_17 : decode cX0_init 17 = .ok (.iconst 4, 1) := by decide +kernel
theorem dX0_init_18 : decode cX0_init 18 = .ok (.newarray .long, 2) := by decide +kernel
theorem dX0_init_20 : decode cX0_init 20 = .ok (.putfield 19, 3) := by decide +kernel
theorem dX0_init_23 : decode cX0_init 23 = .ok (.aload_n 0, 1) := by decide +kernel
theorem dX0_init_24 : decode cX0_init 24 = .ok (.bipush 44, 2) := by decide +kernel
theorem dX0_init_26 : decode cX0_init 26 = .ok (.newarray .long, 2) := by decide +kernel
theorem dX0_init_28 : decode cX0_init 28 = .ok (.putfield 22, 3) := by decide +kernel
theorem dX0_init_31 : decode cX0_init 31 = .ok (.return_, 1) := by decide +kernel
theorem dX1_init_0 : decode cX1_init 0 = .ok (.aload_n 0, 1) := by decide +kernel
theorem dX1_init_1 : decode cX1_init 1 = .ok (.invokespecial 3, 3) := by decide +kernel
theorem dX1_init_4 : decode cX1_init 4 = .ok (.aload_n 0, 1) := by decide +kernel
theorem dX1_init_5 : decode cX1_init 5 = .ok (.bipush 11, 2) := by decide +kernel
theorem dX1_init_7 : decode cX1_init 7 = .ok (.anewarray 9, 3) := by decide +kernel
theorem dX1_init_10 : decode cX1_init 10 = .ok (.putfield 11, 3) := by decide +kernel
theorem dX1_init_13 : decode cX1_init 13 = .ok (.aload_n 0, 1) := by decide +kernel
theorem dX1_init_14 : decode cX1_init 14 = .ok (.iconst 5, 1) := by decide +kernel
theorem dX1_init_15 : decode cX1_init 15 = .ok (.anewarray 17, 3) := by decide +kernel
theorem dX1_init_18 : decode cX1_init 18 = .ok (.putfield 19, 3) := by decide +kernel
theorem dX1_init_21 : decode cX1_init 21 = .ok (.aload_n 0, 1) := by decide +kernel
theorem dX1_init_22 : decode cX1_init 22 = .ok (.bipush 41, 2) := by decide +kernel
theorem dX1_init_24 : decode cX1_init 24 = .ok (.anewarray 23, 3) := by decide +kernel
theorem dX1_init_27 : decode cX1_init 27 = .ok (.putfield 25, 3) := by decide +kernel
theorem dX1_init_30 : decode cX1_init 30 = .ok (.aload_n 0, 1) := by decide +kernel
theorem dX1_init_31 : decode cX1_init 31 = .ok (.bipush 21, 2) := by decide +kernel
theorem dX1_init_33 : decode cX1_init 33 = .ok (.anewarray 29, 3) := by decide +kernel
theorem dX1_init_36 : decode cX1_init 36 = .ok (.putfield 31, 3) := by decide +kernel
theorem dX1_init_39 : decode cX1_init 39 = .ok (.aload_n 0, 1) := by decide +kernel
theorem dX1_init_40 : decode cX1_init 40 = .ok (.bipush 11, 2) := by decide +kernel
theorem dX1_init_42 : decode cX1_init 42 = .ok (.anewarray 35, 3) := by decide +kernel
theorem dX1_init_45 : decode cX1_init 45 = .ok (.putfield 37, 3) := by decide +kernel
theorem dX1_init_48 : decode cX1_init 48 = .ok (.aload_n 0, 1) := by decide +kernel
theorem dX1_init_49 : decode cX1_init 49 = .ok (.bipush 21, 2) := by decide +kernel
theorem dX1_init_51 : decode cX1_init 51 = .ok (.anewarray 41, 3) := by decide +kernel
theorem dX1_init_54 : decode cX1_init 54 = .ok (.putfield 43, 3) := by decide +kernel
theorem dX1_init_57 : decode cX1_init 57 = .ok (.aload_n 0, 1) := by decide +kernel
theorem dX1_init_58 : decode cX1_init 58 = .ok (.bipush 11, 2) := by decide +kernel
theorem dX1_init_60 : decode cX1_init 60 = .ok (.anewarray 47, 3) := by decide +kernel
theorem dX1_init_63 : decode cX1_init 63 = .ok (.putfield 49, 3) := by decide +kernel
theorem dX1_init_66 : decode cX1_init 66 = .ok (.aload_n 0, 1) := by decide +kernel
theorem dX1_init_67 : decode cX1_init 67 = .ok (.bipush 9, 2) := by decide +kernel
theorem dX1_init_69 : decode cX1_init 69 = .ok (.newarray .long, 2) := by decide +kernel
theorem dX1_init_71 : decode cX1_init 71 = .ok (.putfield 53, 3) := by decide +kernel
theorem dX1_init_74 : decode cX1_init 74 = .ok (.aload_n 0, 1) := by decide +kernel
theorem dX1_init_75 : decode cX1_init 75 = .ok (.aload_n 1, 1) := by decide +kernel
theorem dX1_init_76 : decode cX1_init 76 = .ok (.putfield 57, 3) := by decide +kernel
theorem dX1_init_79 : decode cX1_init 79 = .ok (.iconst 0, 1) := by decide +kernel
theorem dX1_init_80 : decode cX1_init 80 = .ok (.istore_n 2, 1) := by decide +kernel
theorem dX1_init_81 : decode cX1_init 81 = .ok (.iload_n 2, 1) := by decide +kernel
theorem dX1_init_82 : decode cX1_init 82 = .ok (.aload_n 0, 1) := by decide +kernel
theorem dX1_init_83 : decode cX1_init 83 = .ok (.getfield 11, 3) := by decide +kernel
theorem dX1_init_86 : decode cX1_init 86 = .ok (.arraylength, 1) := by decide +kernel
theorem dX1_init_87 : decode cX1_init 87 = .ok (.if_icmp .ge 22, 3) := by decide +kernel
theorem dX1_init_90 : decode cX1_init 90 = .ok (.aload_n 0, 1) := by decide +kernel
theorem dX1_init_91 : decode cX1_init 91 = .ok (.getfield 11, 3) := by decide +kernel
theorem dX1_init_94 : decode cX1_init 94 = .ok (.iload_n 2, 1) := by decide +kernel
theorem dX1_init_95 : decode cX1_init 95 = .ok (.new 9, 3) := by decide +kernel
theorem dX1_init_98 : decode cX1_init 98 = .ok (.dup, 1) := by decide +kernel
theorem dX1_init_99 : decode cX1_init 99 = .ok (.invokespecial 61, 3) := by decide +kernel
theorem dX1_init_102 : decode cX1_init 102 = .ok (.aastore, 1) := by decide +kernel
theorem dX1_init_103 : decode cX1_init 103 = .ok (.iinc 2 1, 3) := by decide +kernel
theorem dX1_init_106 : decode cX1_init 106 = .ok (.goto (-25), 3) := by decide +kernel
theorem dX1_init_109 : decode cX1_init 109 = .ok (.iconst 0, 1) := by decide +kernel
theorem dX1_init_110 : decode cX1_init 110 = .ok (.istore_n 2, 1) := by decide +kernel
theorem dX1_init_111 : decode cX1_init 111 = .ok (.iload_n 2, 1) := by decide +kernel
theorem dX1_init_112 : decode cX1_init 112 = .ok (.aload_n 0, 1) := by decide +kernel
theorem dX1_init_113 : decode cX1_init 113 = .ok (.getfield 19, 3) := by decide +kernel
theorem dX1_init_116 : decode cX1_init 116 = .ok (.arraylength, 1) := by decide +kernel
theorem dX1_init_117 : decode cX1_init 117 = .ok (.if_icmp .ge 22, 3) := by decide +kernel
theorem dX1_init_120 : decode cX1_init 120 = .ok (.aload_n 0, 1) := by decide +kernel
theorem dX1_init_121 : decode cX1_init 121 = .ok (.getfield 19, 3) := by decide +kernel
theorem dX1_init_124 : decode cX1_init 124 = .ok (.iload_n 2, 1) := by decide +kernel
theorem dX1_init_125 : decode cX1_init 125 = .ok (.new 17, 3) := by decide +kernel
theorem dX1_init_128 : decode cX1_init 128 = .ok (.dup, 1) := by decide +kernel
theorem dX1_init_129 : decode cX1_init 129 = .ok (.invokespecial 62, 3) := by decide +kernel
theorem dX1_init_132 : decode cX1_init 132 = .ok (.aastore, 1) := by decide +kernel
theorem dX1_init_133 : decode cX1_init 133 = .ok (.iinc 2 1, 3) := by decide +kernel
theorem dX1_init_136 : decode cX1_init 136 = .ok (.goto (-25), 3) := by decide +kernel
theorem dX1_init_139 : decode cX1_init 139 = .ok (.iconst 0, 1) := by decide +kernel
theorem dX1_init_140 : decode cX1_init 140 = .ok (.istore_n 2, 1) := by decide +kernel
theorem dX1_init_141 : decode cX1_init 141 = .ok (.iload_n 2, 1) := by decide +kernel
theorem dX1_init_142 : decode cX1_init 142 = .ok (.aload_n 0, 1) := by decide +kernel
theorem dX1_init_143 : decode cX1_init 143 = .ok (.getfield 25, 3) := by decide +kernel
theorem dX1_init_146 : decode cX1_init 146 = .ok (.arraylength, 1) := by decide +kernel
theorem dX1_init_147 : decode cX1_init 147 = .ok (.if_icmp .ge 22, 3) := by decide +kernel
theorem dX1_init_150 : decode cX1_init 150 = .ok (.aload_n 0, 1) := by decide +kernel
theorem dX1_init_151 : decode cX1_init 151 = .ok (.getfield 25, 3) := by decide +kernel
theorem dX1_init_154 : decode cX1_init 154 = .ok (.iload_n 2, 1) := by decide +kernel
theorem dX1_init_155 : decode cX1_init 155 = .ok (.new 23, 3) := by decide +kernel
theorem dX1_init_158 : decode cX1_init 158 = .ok (.dup, 1) := by decide +kernel
theorem dX1_init_159 : decode cX1_init 159 = .ok (.invokespecial 63, 3) := by decide +kernel
theorem dX1_init_162 : decode cX1_init 162 = .ok (.aastore, 1) := by decide +kernel
theorem dX1_init_163 : decode cX1_init 163 = .ok (.iinc 2 1, 3) := by decide +kernel
theorem dX1_init_166 : decode cX1_init 166 = .ok (.goto (-25), 3) := by decide +kernel
theorem dX1_init_169 : decode cX1_init 169 = .ok (.iconst 0, 1) := by decide +kernel
theorem dX1_init_170 : decode cX1_init 170 = .ok (.istore_n 2, 1) := by decide +kernel
theorem dX1_init_171 : decode cX1_init 171 = .ok (.iload_n 2, 1) := by decide +kernel
theorem dX1_init_172 : decode cX1_init 172 = .ok (.aload_n 0, 1) := by decide +kernel
theorem dX1_init_173 : decode cX1_init 173 = .ok (.getfield 31, 3) := by decide +kernel
theorem dX1_init_176 : decode cX1_init 176 = .ok (.arraylength, 1) := by decide +kernel
theorem dX1_init_177 : decode cX1_init 177 = .ok (.if_icmp .ge 23, 3) := by decide +kernel
theorem dX1_init_180 : decode cX1_init 180 = .ok (.aload_n 0, 1) := by decide +kernel
theorem dX1_init_181 : decode cX1_init 181 = .ok (.getfield 31, 3) := by decide +kernel
theorem dX1_init_184 : decode cX1_init 184 = .ok (.iload_n 2, 1) := by decide +kernel
theorem dX1_init_185 : decode cX1_init 185 = .ok (.new 29, 3) := by decide +kernel
theorem dX1_init_188 : decode cX1_init 188 = .ok (.dup, 1) := by decide +kernel
theorem dX1_init_189 : decode cX1_init 189 = .ok (.iload_n 2, 1) := by decide +kernel
theorem dX1_init_190 : decode cX1_init 190 = .ok (.invokespecial 64, 3) := by decide +kernel
theorem dX1_init_193 : decode cX1_init 193 = .ok (.aastore, 1) := by decide +kernel
theorem dX1_init_194 : decode cX1_init 194 = .ok (.iinc 2 1, 3) := by decide +kernel
theorem dX1_init_197 : decode cX1_init 197 = .ok (.goto (-26), 3) := by decide +kernel
theorem dX1_init_200 : decode cX1_init 200 = .ok (.iconst 0, 1) := by decide +kernel
theorem dX1_init_201 : decode cX1_init 201 = .ok (.istore_n 2, 1) := by decide +kernel
theorem dX1_init_202 : decode cX1_init 202 = .ok (.iload_n 2, 1) := by decide +kernel
theorem dX1_init_203 : decode cX1_init 203 = .ok (.aload_n 0, 1) := by decide +kernel
theorem dX1_init_204 : decode cX1_init 204 = .ok (.getfield 37, 3) := by decide +kernel
theorem dX1_init_207 : decode cX1_init 207 = .ok (.arraylength, 1) := by decide +kernel
theorem dX1_init_208 : decode cX1_init 208 = .ok (.if_icmp .ge 22, 3) := by decide +kernel
theorem dX1_init_211 : decode cX1_init 211 = .ok (.aload_n 0, 1) := by decide +kernel
theorem dX1_init_212 : decode cX1_init 212 = .ok (.getfield 37, 3) := by decide +kernel
theorem dX1_init_215 : decode cX1_init 215 = .ok (.iload_n 2, 1) := by decide +kernel
theorem dX1_init_216 : decode cX1_init 216 = .ok (.new 35, 3) := by decide +kernel
theorem dX1_init_219 : decode cX1_init 219 = .ok (.dup, 1) := by decide +kernel
theorem dX1_init_220 : decode cX1_init 220 = .ok (.invokespecial 67, 3) := by decide +kernel
theorem dX1_init_223 : decode cX1_init 223 = .ok (.aastore, 1) := by decide +kernel
theorem dX1_init_224 : decode cX1_init 224 = .ok (.iinc 2 1, 3) := by decide +kernel
theorem dX1_init_227 : decode cX1_init 227 = .ok (.goto (-25), 3) := by decide +kernel
theorem dX1_init_230 : decode cX1_init 230 = .ok (.iconst 0, 1) := by decide +kernel
theorem dX1_init_231 : decode cX1_init 231 = .ok (.istore_n 2, 1) := by decide +kernel
theorem dX1_init_232 : decode cX1_init 232 = .ok (.iload_n 2, 1) := by decide +kernel
theorem dX1_init_233 : decode cX1_init 233 = .ok (.aload_n 0, 1) := by decide +kernel
theorem dX1_init_234 : decode cX1_init 234 = .ok (.getfield 43, 3) := by decide +kernel
theorem dX1_init_237 : decode cX1_init 237 = .ok (.arraylength, 1) := by decide +kernel
theorem dX1_init_238 : decode cX1_init 238 = .ok (.if_icmp .ge 22, 3) := by decide +kernel
theorem dX1_init_241 : decode cX1_init 241 = .ok (.aload_n 0, 1) := by decide +kernel
theorem dX1_init_242 : decode cX1_init 242 = .ok (.getfield 43, 3) := by decide +kernel
theorem dX1_init_245 : decode cX1_init 245 = .ok (.iload_n 2, 1) := by decide +kernel
theorem dX1_init_246 : decode cX1_init 246 = .ok (.new 41, 3) := by decide +kernel
theorem dX1_init_249 : decode cX1_init 249 = .ok (.dup, 1) := by decide +kernel
theorem dX1_init_250 : decode cX1_init 250 = .ok (.invokespecial 68, 3) := by decide +kernel
theorem dX1_init_253 : decode cX1_init 253 = .ok (.aastore, 1) := by decide +kernel
theorem dX1_init_254 : decode cX1_init 254 = .ok (.iinc 2 1, 3) := by decide +kernel
theorem dX1_init_257 : decode cX1_init 257 = .ok (.goto (-25), 3) := by decide +kernel
theorem dX1_init_260 : decode cX1_init 260 = .ok (.iconst 0, 1) := by decide +kernel
theorem dX1_init_261 : decode cX1_init 261 = .ok (.istore_n 2, 1) := by decide +kernel
theorem dX1_init_262 : decode cX1_init 262 = .ok (.iload_n 2, 1) := by decide +kernel
theorem dX1_init_263 : decode cX1_init 263 = .ok (.aload_n 0, 1) := by decide +kernel
theorem dX1_init_264 : decode cX1_init 264 = .ok (.getfield 49, 3) := by decide +kernel
theorem dX1_init_267 : decode cX1_init 267 = .ok (.arraylength, 1) := by decide +kernel
theorem dX1_init_268 : decode cX1_init 268 = .ok (.if_icmp .ge 22, 3) := by decide +kernel
theorem dX1_init_271 : decode cX1_init 271 = .ok (.aload_n 0, 1) := by decide +kernel
theorem dX1_init_272 : decode cX1_init 272 = .ok (.getfield 49, 3) := by decide +kernel
theorem dX1_init_275 : decode cX1_init 275 = .ok (.iload_n 2, 1) := by decide +kernel
theorem dX1_init_276 : decode cX1_init 276 = .ok (.new 47, 3) := by decide +kernel
theorem dX1_init_279 : decode cX1_init 279 = .ok (.dup, 1) := by decide +kernel
theorem dX1_init_280 : decode cX1_init 280 = .ok (.invokespecial 69, 3) := by decide +kernel
theorem dX1_init_283 : decode cX1_init 283 = .ok (.aastore, 1) := by decide +kernel
theorem dX1_init_284 : decode cX1_init 284 = .ok (.iinc 2 1, 3) := by decide +kernel
theorem dX1_init_287 : decode cX1_init 287 = .ok (.goto (-25), 3) := by decide +kernel
theorem dX1_init_290 : decode cX1_init 290 = .ok (.iconst 0, 1) := by decide +kernel
theorem dX1_init_291 : decode cX1_init 291 = .ok (.istore_n 2, 1) := by decide +kernel
theorem dX1_init_292 : decode cX1_init 292 = .ok (.iload_n 2, 1) := by decide +kernel
theorem dX1_init_293 : decode cX1_init 293 = .ok (.aload_n 0, 1) := by decide +kernel
theorem dX1_init_294 : decode cX1_init 294 = .ok (.getfield 53, 3) := by decide +kernel
theorem dX1_init_297 : decode cX1_init 297 = .ok (.arraylength, 1) := by decide +kernel
theorem dX1_init_298 : decode cX1_init 298 = .ok (.if_icmp .ge 18, 3) := by decide +kernel
theorem dX1_init_301 : decode cX1_init 301 = .ok (.aload_n 0, 1) := by decide +kernel
theorem dX1_init_302 : decode cX1_init 302 = .ok (.getfield 53, 3) := by decide +kernel
theorem dX1_init_305 : decode cX1_init 305 = .ok (.iload_n 2, 1) := by decide +kernel
theorem dX1_init_306 : decode cX1_init 306 = .ok (.ldc2_w 70, 3) := by decide +kernel
theorem dX1_init_309 : decode cX1_init 309 = .ok (.lastore, 1) := by decide +kernel
theorem dX1_init_310 : decode cX1_init 310 = .ok (.iinc 2 1, 3) := by decide +kernel
theorem dX1_init_313 : decode cX1_init 313 = .ok (.goto (-21), 3) := by decide +kernel
theorem dX1_init_316 : decode cX1_init 316 = .ok (.return_, 1) := by decide +kernel
theorem dX2_init_0 : decode cX2_init 0 = .ok (.aload_n 0, 1) := by decide +kernel
theorem dX2_init_1 : decode cX2_init 1 = .ok (.invokespecial 3, 3) := by decide +kernel
theorem dX2_init_4 : decode cX2_init 4 = .ok (.aload_n 0, 1) := by decide +kernel
theorem dX2_init_5 : decode cX2_init 5 = .ok (.bipush 20, 2) := by decide +kernel
theorem dX2_init_7 : decode cX2_init 7 = .ok (.newarray .int, 2) := by decide +kernel
theorem dX2_init_9 : decode cX2_init 9 = .ok (.putfield 9, 3) := by decide +kernel
theorem dX2_init_12 : decode cX2_init 12 = .ok (.aload_n 0, 1) := by decide +kernel
theorem dX2_init_13 : decode cX2_init 13 = .ok (.bipush 11, 2) := by decide +kernel
theorem dX2_init_15 : decode cX2_init 15 = .ok (.newarray .long, 2) := by decide +kernel
theorem dX2_init_17 : decode cX2_init 17 = .ok (.putfield 15, 3) := by decide +kernel
theorem dX2_init_20 : decode cX2_init 20 = .ok (.aload_n 0, 1) := by decide +kernel
theorem dX2_init_21 : decode cX2_init 21 = .ok (.bipush 10, 2) := by decide +kernel
theorem dX2_init_23 : decode cX2_init 23 = .ok (.newarray .long, 2) := by decide +kernel
theorem dX2_init_25 : decode cX2_init 25 = .ok (.putfield 19, 3) := by decide +kernel
theorem dX2_init_28 : decode cX2_init 28 = .ok (.aload_n 0, 1) := by decide +kernel
theorem dX2_init_29 : decode cX2_init 29 = .ok (.aload_n 1, 1) := by decide +kernel
theorem dX2_init_30 : decode cX2_init 30 = .ok (.putfield 22, 3) := by decide +kernel
theorem dX2_init_33 : decode cX2_init 33 = .ok (.return_, 1) := by decide +kernel
theorem dX3_init_0 : decode cX3_init 0 = .ok (.aload_n 0, 1) := by decide +kernel
theorem dX3_init_1 : decode cX3_init 1 = .ok (.invokespecial 3, 3) := by decide +kernel
theorem dX3_init_4 : decode cX3_init 4 = .ok (.aload_n 0, 1) := by decide +kernel
theorem dX3_init_5 : decode cX3_init 5 = .ok (.aload_n 1, 1) := by decide +kernel
theorem dX3_init_6 : decode cX3_init 6 = .ok (.putfield 9, 3) := by decide +kernel
theorem dX3_init_9 : decode cX3_init 9 = .ok (.return_, 1) := by decide +kernel
theorem dX4_init_0 : decode cX4_init 0 = .ok (.aload_n 0, 1) := by decide +kernel
theorem dX4_init_1 : decode cX4_init 1 = .ok (.invokespecial 3, 3) := by decide +kernel
theorem dX4_init_4 : decode cX4_init 4 = .ok (.aload_n 0, 1) := by decide +kernel
theorem dX4_init_5 : decode cX4_init 5 = .ok (.bipush 10, 2) := by decide +kernel
theorem dX4_init_7 : decode cX4_init 7 = .ok (.newarray .long, 2) := by decide +kernel
theorem dX4_init_9 : decode cX4_init 9 = .ok (.putfield 9, 3) := by decide +kernel
theorem dX4_init_12 : decode cX4_init 12 = .ok (.aload_n 0, 1) := by decide +kernel
theorem dX4_init_13 : decode cX4_init 13 = .ok (.bipush 10, 2) := by decide +kernel
theorem dX4_init_15 : decode cX4_init 15 = .ok (.newarray .long, 2) := by decide +kernel
theorem dX4_init_17 : decode cX4_init 17 = .ok (.putfield 15, 3) := by decide +kernel
theorem dX4_init_20 : decode cX4_init 20 = .ok (.aload_n 0, 1) := by decide +kernel
theorem dX4_init_21 : decode cX4_init 21 = .ok (.bipush 20, 2) := by decide +kernel
theorem dX4_init_23 : decode cX4_init 23 = .ok (.newarray .long, 2) := by decide +kernel
theorem dX4_init_25 : decode cX4_init 25 = .ok (.putfield 18, 3) := by decide +kernel
theorem dX4_init_28 : decode cX4_init 28 = .ok (.return_, 1) := by decide +kernel
theorem dX5_init_0 : decode cX5_init 0 = .ok (.aload_n 0, 1) := by decide +kernel
theorem dX5_init_1 : decode cX5_init 1 = .ok (.invokespecial 3, 3) := by decide +kernel
theorem dX5_init_4 : decode cX5_init 4 = .ok (.aload_n 0, 1) := by decide +kernel
theorem dX5_init_5 : decode cX5_init 5 = .ok (.iconst 0, 1) := by decide +kernel
theorem dX5_init_6 : decode cX5_init 6 = .ok (.putfield 9, 3) := by decide +kernel
theorem dX5_init_9 : decode cX5_init 9 = .ok (.aload_n 0, 1) := by decide +kernel
theorem dX5_init_10 : decode cX5_init 10 = .ok (.iconst (-1), 1) := by decide +kernel
theorem dX5_init_11 : decode cX5_init 11 = .ok (.putfield 15, 3) := by decide +kernel
theorem dX5_init_14 : decode cX5_init 14 = .ok (.return_, 1) := by decide +kernel
theorem dX6_init_0 : decode cX6_init 0 = .ok (.aload_n 0, 1) := by decide +kernel
theorem dX6_init_1 : decode cX6_init 1 = .ok (.invokespecial 1, 3) := by decide +kernel
theorem dX6_init_4 : decode cX6_init 4 = .ok (.return_, 1) := by decide +kernel
theorem dX7_init_0 : decode cX7_init 0 = .ok (.aload_n 0, 1) := by decide +kernel
theorem dX7_init_1 : decode cX7_init 1 = .ok (.invokespecial 1, 3) := by decide +kernel
theorem dX7_init_4 : decode cX7_init 4 = .ok (.return_, 1) := by decide +kernel
theorem dX8_init_0 : decode cX8_init 0 = .ok (.aload_n 0, 1) := by decide +kernel
theorem dX8_init_1 : decode cX8_init 1 = .ok (.invokespecial 3, 3) := by decide +kernel
theorem dX8_init_4 : decode cX8_init 4 = .ok (.aload_n 0, 1) := by decide +kernel
theorem dX8_init_5 : decode cX8_init 5 = .ok (.bipush 10, 2) := by decide +kernel
theorem dX8_init_7 : decode cX8_init 7 = .ok (.newarray .int, 2) := by decide +kernel
theorem dX8_init_9 : decode cX8_init 9 = .ok (.putfield 9, 3) := by decide +kernel
theorem dX8_init_12 : decode cX8_init 12 = .ok (.return_, 1) := by decide +kernel
theorem dX9_init_0 : decode cX9_init 0 = .ok (.aload_n 0, 1) := by decide +kernel
theorem dX9_init_1 : decode cX9_init 1 = .ok (.invokespecial 1, 3) := by decide +kernel
theorem dX9_init_4 : decode cX9_init 4 = .ok (.return_, 1) := by decide +kernel
theorem dX10_init_0 : decode cX10_init 0 = .ok (.aload_n 0, 1) := by decide +kernel
theorem dX10_init_1 : decode cX10_init 1 = .ok (.invokespecial 3, 3) := by decide +kernel
theorem dX10_init_4 : decode cX10_init 4 = .ok (.aload_n 0, 1) := by decide +kernel
theorem dX10_init_5 : decode cX10_init 5 = .ok (.iconst 1, 1) := by decide +kernel
theorem dX10_init_6 : decode cX10_init 6 = .ok (.putfield 9, 3) := by decide +kernel
theorem dX10_init_9 : decode cX10_init 9 = .ok (.aload_n 0, 1) := by decide +kernel
theorem dX10_init_10 : decode cX10_init 10 = .ok (.iload_n 1, 1) := by decide +kernel
theorem dX10_init_11 : decode cX10_init 11 = .ok (.putfield 15, 3) := by decide +kernel
theorem dX10_init_14 : decode cX10_init 14 = .ok (.return_, 1) := by decide +kernel
theorem dX11_init_0 : decode cX11_init 0 = .ok (.aload_n 0, 1) := by decide +kernel
theorem dX11_init_1 : decode cX11_init 1 = .ok (.invokespecial 1, 3) := by decide +kernel
theorem dX11_init_4 : decode cX11_init 4 = .ok (.aload_n 0, 1) := by decide +kernel
theorem dX11_init_5 : decode cX11_init 5 = .ok (.new 7, 3) := by decide +kernel
theorem dX11_init_8 : decode cX11_init 8 = .ok (.dup, 1) := by decide +kernel
theorem dX11_init_9 : decode cX11_init 9 = .ok (.invokespecial 9, 3) := by decide +kernel
theorem dX11_init_12 : decode cX11_init 12 = .ok (.putfield 10, 3) := by decide +kernel
theorem dX11_init_15 : decode cX11_init 15 = .ok (.aload_n 0, 1) := by decide +kernel
theorem dX11_init_16 : decode cX11_init 16 = .ok (.new 16, 3) := by decide +kernel
theorem dX11_init_19 : decode cX11_init 19 = .ok (.dup, 1) := by decide +kernel
theorem dX11_init_20 : decode cX11_init 20 = .ok (.aload_n 0, 1) := by decide +kernel
theorem dX11_init_21 : decode cX11_init 21 = .ok (.getfield 10, 3) := by decide +kernel
theorem dX11_init_24 : decode cX11_init 24 = .ok (.invokespecial 18, 3) := by decide +kernel
theorem dX11_init_27 : decode cX11_init 27 = .ok (.putfield 21, 3) := by decide +kernel
theorem dX11_init_30 : decode cX11_init 30 = .ok (.aload_n 0, 1) := by decide +kernel
theorem dX11_init_31 : decode cX11_init 31 = .ok (.new 16, 3) := by decide +kernel
theorem dX11_init_34 : decode cX11_init 34 = .ok (.dup, 1) := by decide +kernel
theorem dX11_init_35 : decode cX11_init 35 = .ok (.aload_n 0, 1) := by decide +kernel
theorem dX11_init_36 : decode cX11_init 36 = .ok (.getfield 10, 3) := by decide +kernel
theorem dX11_init_39 : decode cX11_init 39 = .ok (.invokespecial 18, 3) := by decide +kernel
theorem dX11_init_42 : decode cX11_init 42 = .ok (.putfield 25, 3) := by decide +kernel
theorem dX11_init_45 : decode cX11_init 45 = .ok (.aload_n 0, 1) := by decide +kernel
theorem dX11_init_46 : decode cX11_init 46 = .ok (.new 28, 3) := by decide +kernel
theorem dX11_init_49 : decode cX11_init 49 = .ok (.dup, 1) := by decide +kernel
theorem dX11_init_50 : decode cX11_init 50 = .ok (.aload_n 0, 1) := by decide +kernel
theorem dX11_init_51 : decode cX11_init 51 = .ok (.getfield 21, 3) := by decide +kernel
theorem dX11_init_54 : decode cX11_init 54 = .ok (.invokespecial 30, 3) := by decide +kernel
theorem dX11_init_57 : decode cX11_init 57 = .ok (.putfield 33, 3) := by decide +kernel
theorem dX11_init_60 : decode cX11_init 60 = .ok (.aload_n 0, 1) := by decide +kernel
theorem dX11_init_61 : decode cX11_init 61 = .ok (.new 37, 3) := by decide +kernel
theorem dX11_init_64 : decode cX11_init 64 = .ok (.dup, 1) := by decide +kernel
theorem dX11_init_65 : decode cX11_init 65 = .ok (.aload_n 0, 1) := by decide +kernel
theorem dX11_init_66 : decode cX11_init 66 = .ok (.getfield 21, 3) := by decide +kernel
theorem dX11_init_69 : decode cX11_init 69 = .ok (.invokespecial 39, 3) := by decide +kernel
theorem dX11_init_72 : decode cX11_init 72 = .ok (.putfield 40, 3) := by decide +kernel
theorem dX11_init_75 : decode cX11_init 75 = .ok (.aload_n 0, 1) := by decide +kernel
theorem dX11_init_76 : decode cX11_init 76 = .ok (.iconst 0, 1) := by decide +kernel
theorem dX11_init_77 : decode cX11_init 77 = .ok (.putfield 44, 3) := by decide +kernel
theorem dX11_init_80 : decode cX11_init 80 = .ok (.return_, 1) := by decide +kernel
