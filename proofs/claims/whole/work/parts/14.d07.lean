theorem dX12_amend_0 : decode cX12_amend 0 = .ok (.aload_n 0, 1) := by decide +kernel
theorem dX12_amend_1 : decode cX12_amend 1 = .ok (.iload_n 2, 1) := by decide +kernel
theorem dX12_amend_2 : decode cX12_amend 2 = .ok (.i2l, 1) := by decide +kernel
theorem dX12_amend_3 : decode cX12_amend 3 = .ok (.lconst 0, 1) := by decide +kernel
theorem dX12_amend_4 : decode cX12_amend 4 = .ok (.ldc2_w 104, 3) := by decide +kernel
theorem dX12_amend_7 : decode cX12_amend 7 = .ok (.invokevirtual 32, 3) := by decide +kernel
theorem dX12_amend_10 : decode cX12_amend 10 = .ok (.istore_n 3, 1) := by decide +kernel
theorem dX12_amend_11 : decode cX12_amend 11 = .ok (.aload_n 0, 1) := by decide +kernel
theorem dX12_amend_12 : decode cX12_amend 12 = .ok (.iload_n 1, 1) := by decide +kernel
theorem dX12_amend_13 : decode cX12_amend 13 = .ok (.invokevirtual 119, 3) := by decide +kernel
theorem dX12_amend_16 : decode cX12_amend 16 = .ok (.ifCond .eq 22, 3) := by decide +kernel
theorem dX12_amend_19 : decode cX12_amend 19 = .ok (.aload_n 0, 1) := by decide +kernel
theorem dX12_amend_20 : decode cX12_amend 20 = .ok (.getfield 7, 3) := by decide +kernel
theorem dX12_amend_23 : decode cX12_amend 23 = .ok (.sipush 570, 3) := by decide +kernel
theorem dX12_amend_26 : decode cX12_amend 26 = .ok (.iload_n 1, 1) := by decide +kernel
theorem dX12_amend_27 : decode cX12_amend 27 = .ok (.iadd, 1) := by decide +kernel
theorem dX12_amend_28 : decode cX12_amend 28 = .ok (.laload, 1) := by decide +kernel
theorem dX12_amend_29 : decode cX12_amend 29 = .ok (.lconst 0, 1) := by decide +kernel
theorem dX12_amend_30 : decode cX12_amend 30 = .ok (.lcmp, 1) := by decide +kernel
theorem dX12_amend_31 : decode cX12_amend 31 = .ok (.ifCond .ne 7, 3) := by decide +kernel
theorem dX12_amend_34 : decode cX12_amend 34 = .ok (.iconst 1, 1) := by decide +kernel
theorem dX12_amend_35 : decode cX12_amend 35 = .ok (.goto 4, 3) := by decide +kernel
theorem dX12_amend_38 : decode cX12_amend 38 = .ok (.iconst 0, 1) := by decide +kernel
theorem dX12_amend_39 : decode cX12_amend 39 = .ok (.istore 4, 2) := by decide +kernel
theorem dX12_amend_41 : decode cX12_amend 41 = .ok (.aload_n 0, 1) := by decide +kernel
theorem dX12_amend_42 : decode cX12_amend 42 = .ok (.getfield 7, 3) := by decide +kernel
theorem dX12_amend_45 : decode cX12_amend 45 = .ok (.sipush 410, 3) := by decide +kernel
theorem dX12_amend_48 : decode cX12_amend 48 = .ok (.iload 4, 2) := by decide +kernel
theorem dX12_amend_50 : decode cX12_amend 50 = .ok (.ifCond .eq 7, 3) := by decide +kernel
theorem dX12_amend_53 : decode cX12_amend 53 = .ok (.iload_n 1, 1) := by decide +kernel
theorem dX12_amend_54 : decode cX12_amend 54 = .ok (.goto 4, 3) := by decide +kernel
theorem dX12_amend_57 : decode cX12_amend 57 = .ok (.iconst 0, 1) := by decide +kernel
theorem dX12_amend_58 : decode cX12_amend 58 = .ok (.iadd, 1) := by decide +kernel
theorem dX12_amend_59 : decode cX12_amend 59 = .ok (.laload, 1) := by decide +kernel
theorem dX12_amend_60 : decode cX12_amend 60 = .ok (.lstore 5, 2) := by decide +kernel
theorem dX12_amend_62 : decode cX12_amend 62 = .ok (.iconst (-1), 1) := by decide +kernel
theorem dX12_amend_63 : decode cX12_amend 63 = .ok (.istore 7, 2) := by decide +kernel
theorem dX12_amend_65 : decode cX12_amend 65 = .ok (.iload 4, 2) := by decide +kernel
theorem dX12_amend_67 : decode cX12_amend 67 = .ok (.ifCond .eq 26, 3) := by decide +kernel
theorem dX12_amend_70 : decode cX12_amend 70 = .ok (.iload_n 3, 1) := by decide +kernel
theorem dX12_amend_71 : decode cX12_amend 71 = .ok (.ifCond .eq 22, 3) := by decide +kernel
theorem dX12_amend_74 : decode cX12_amend 74 = .ok (.aload_n 0, 1) := by decide +kernel
theorem dX12_amend_75 : decode cX12_amend 75 = .ok (.getfield 7, 3) := by decide +kernel
theorem dX12_amend_78 : decode cX12_amend 78 = .ok (.sipush 410, 3) := by decide +kernel
theorem dX12_amend_81 : decode cX12_amend 81 = .ok (.iload_n 1, 1) := by decide +kernel
theorem dX12_amend_82 : decode cX12_amend 82 = .ok (.iadd, 1) := by decide +kernel
theorem dX12_amend_83 : decode cX12_amend 83 = .ok (.iload_n 2, 1) := by decide +kernel
theorem dX12_amend_84 : decode cX12_amend 84 = .ok (.i2l, 1) := by decide +kernel
theorem dX12_amend_85 : decode cX12_amend 85 = .ok (.lastore, 1) := by decide +kernel
theorem dX12_amend_86 : decode cX12_amend 86 = .ok (.aload_n 0, 1) := by decide +kernel
theorem dX12_amend_87 : decode cX12_amend 87 = .ok (.iload_n 1, 1) := by decide +kernel
theorem dX12_amend_88 : decode cX12_amend 88 = .ok (.invokevirtual 110, 3) := by decide +kernel
theorem dX12_amend_91 : decode cX12_amend 91 = .ok (.istore 7, 2) := by decide +kernel
theorem dX12_amend_93 : decode cX12_amend 93 = .ok (.iload 7, 2) := by decide +kernel
theorem dX12_amend_95 : decode cX12_amend 95 = .ok (.ifCond .lt 22, 3) := by decide +kernel
theorem dX12_amend_98 : decode cX12_amend 98 = .ok (.aload_n 0, 1) := by decide +kernel
theorem dX12_amend_99 : decode cX12_amend 99 = .ok (.getfield 7, 3) := by decide +kernel
theorem dX12_amend_102 : decode cX12_amend 102 = .ok (.sipush 1543, 3) := by decide +kernel
theorem dX12_amend_105 : decode cX12_amend 105 = .ok (.laload, 1) := by decide +kernel
theorem dX12_amend_106 : decode cX12_amend 106 = .ok (.ldc2_w 113, 3) := by decide +kernel
theorem dX12_amend_109 : decode cX12_amend 109 = .ok (.lcmp, 1) := by decide +kernel
theorem dX12_amend_110 : decode cX12_amend 110 = .ok (.ifCond .ne 7, 3) := by decide +kernel
theorem dX12_amend_113 : decode cX12_amend 113 = .ok (.iconst 1, 1) := by decide +kernel
theorem dX12_amend_114 : decode cX12_amend 114 = .ok (.goto 4, 3) := by decide +kernel
theorem dX12_amend_117 : decode cX12_amend 117 = .ok (.iconst 0, 1) := by decide +kernel
theorem dX12_amend_118 : decode cX12_amend 118 = .ok (.istore 8, 2) := by decide +kernel
theorem dX12_amend_120 : decode cX12_amend 120 = .ok (.aload_n 0, 1) := by decide +kernel
theorem dX12_amend_121 : decode cX12_amend 121 = .ok (.aload_n 0, 1) := by decide +kernel
theorem dX12_amend_122 : decode cX12_amend 122 = .ok (.iload_n 1, 1) := by decide +kernel
theorem dX12_amend_123 : decode cX12_amend 123 = .ok (.invokevirtual 119, 3) := by decide +kernel
theorem dX12_amend_126 : decode cX12_amend 126 = .ok (.ifCond .ne 7, 3) := by decide +kernel
theorem dX12_amend_129 : decode cX12_amend 129 = .ok (.iconst 1, 1) := by decide +kernel
theorem dX12_amend_130 : decode cX12_amend 130 = .ok (.goto 26, 3) := by decide +kernel
theorem dX12_amend_133 : decode cX12_amend 133 = .ok (.iload_n 3, 1) := by decide +kernel
theorem dX12_amend_134 : decode cX12_amend 134 = .ok (.ifCond .ne 7, 3) := by decide +kernel
theorem dX12_amend_137 : decode cX12_amend 137 = .ok (.iconst 2, 1) := by decide +kernel
theorem dX12_amend_138 : decode cX12_amend 138 = .ok (.goto 18, 3) := by decide +kernel
theorem dX12_amend_141 : decode cX12_amend 141 = .ok (.iload 4, 2) := by decide +kernel
theorem dX12_amend_143 : decode cX12_amend 143 = .ok (.ifCond .eq 8, 3) := by decide +kernel
theorem dX12_amend_146 : decode cX12_amend 146 = .ok (.iload 8, 2) := by decide +kernel
theorem dX12_amend_148 : decode cX12_amend 148 = .ok (.ifCond .eq 7, 3) := by decide +kernel
theorem dX12_amend_151 : decode cX12_amend 151 = .ok (.iconst 3, 1) := by decide +kernel
theorem dX12_amend_152 : decode cX12_amend 152 = .ok (.goto 4, 3) := by decide +kernel
theorem dX12_amend_155 : decode cX12_amend 155 = .ok (.iconst 0, 1) := by decide +kernel
theorem dX12_amend_156 : decode cX12_amend 156 = .ok (.invokevirtual 61, 3) := by decide +kernel
theorem dX12_amend_159 : decode cX12_amend 159 = .ok (.ifCond .eq 26, 3) := by decide +kernel
theorem dX12_amend_162 : decode cX12_amend 162 = .ok (.aload_n 0, 1) := by decide +kernel
theorem dX12_amend_163 : decode cX12_amend 163 = .ok (.getfield 7, 3) := by decide +kernel
theorem dX12_amend_166 : decode cX12_amend 166 = .ok (.sipush 410, 3) := by decide +kernel
theorem dX12_amend_169 : decode cX12_amend 169 = .ok (.iload 4, 2) := by decide +kernel
theorem dX12_amend_171 : decode cX12_amend 171 = .ok (.ifCond .eq 7, 3) := by decide +kernel
theorem dX12_amend_174 : decode cX12_amend 174 = .ok (.iload_n 1, 1) := by decide +kernel
theorem dX12_amend_175 : decode cX12_amend 175 = .ok (.goto 4, 3) := by decide +kernel
theorem dX12_amend_178 : decode cX12_amend 178 = .ok (.iconst 0, 1) := by decide +kernel
theorem dX12_amend_179 : decode cX12_amend 179 = .ok (.iadd, 1) := by decide +kernel
theorem dX12_amend_180 : decode cX12_amend 180 = .ok (.lload 5, 2) := by decide +kernel
theorem dX12_amend_182 : decode cX12_amend 182 = .ok (.lastore, 1) := by decide +kernel
theorem dX12_amend_183 : decode cX12_amend 183 = .ok (.iconst (-1), 1) := by decide +kernel
theorem dX12_amend_184 : decode cX12_amend 184 = .ok (.ireturn, 1) := by decide +kernel
theorem dX12_amend_185 : decode cX12_amend 185 = .ok (.iload 7, 2) := by decide +kernel
theorem dX12_amend_187 : decode cX12_amend 187 = .ok (.ifCond .ge 7, 3) := by decide +kernel
theorem dX12_amend_190 : decode cX12_amend 190 = .ok (.iconst (-1), 1) := by decide +kernel
theorem dX12_amend_191 : decode cX12_amend 191 = .ok (.goto 10, 3) := by decide +kernel
theorem dX12_amend_194 : decode cX12_amend 194 = .ok (.aload_n 0, 1) := by decide +kernel
theorem dX12_amend_195 : decode cX12_amend 195 = .ok (.iload_n 1, 1) := by decide +kernel
theorem dX12_amend_196 : decode cX12_amend 196 = .ok (.iload 7, 2) := by decide +kernel
theorem dX12_amend_198 : decode cX12_amend 198 = .ok (.invokevirtual 115, 3) := by decide +kernel
theorem dX12_amend_201 : decode cX12_amend 201 = .ok (.ireturn, 1) := by decide +kernel
theorem dX12_over_0 : decode cX12_over 0 = .ok (.aload_n 0, 1) := by decide +kernel
theorem dX12_over_1 : decode cX12_over 1 = .ok (.getfield 7, 3) := by decide +kernel
theorem dX12_over_4 : decode cX12_over 4 = .ok (.sipush 870, 3) := by decide +kernel
theorem dX12_over_7 : decode cX12_over 7 = .ok (.iload_n 1, 1) := by decide +kernel
theorem dX12_over_8 : decode cX12_over 8 = .ok (.iadd, 1) := by decide +kernel
theorem dX12_over_9 : decode cX12_over 9 = .ok (.iload_n 2, 1) := by decide +kernel
theorem dX12_over_10 : decode cX12_over 10 = .ok (.i2l, 1) := by decide +kernel
theorem dX12_over_11 : decode cX12_over 11 = .ok (.lastore, 1) := by decide +kernel
theorem dX12_over_12 : decode cX12_over 12 = .ok (.aload_n 0, 1) := by decide +kernel
theorem dX12_over_13 : decode cX12_over 13 = .ok (.getfield 7, 3) := by decide +kernel
theorem dX12_over_16 : decode cX12_over 16 = .ok (.sipush 570, 3) := by decide +kernel
theorem dX12_over_19 : decode cX12_over 19 = .ok (.aload_n 0, 1) := by decide +kernel
theorem dX12_over_20 : decode cX12_over 20 = .ok (.getfield 7, 3) := by decide +kernel
theorem dX12_over_23 : decode cX12_over 23 = .ok (.sipush 730, 3) := by decide +kernel
theorem dX12_over_26 : decode cX12_over 26 = .ok (.iload_n 1, 1) := by decide +kernel
theorem dX12_over_27 : decode cX12_over 27 = .ok (.iadd, 1) := by decide +kernel
theorem dX12_over_28 : decode cX12_over 28 = .ok (.laload, 1) := by decide +kernel
theorem dX12_over_29 : decode cX12_over 29 = .ok (.l2i, 1) := by decide +kernel
theorem dX12_over_30 : decode cX12_over 30 = .ok (.iadd, 1) := by decide +kernel
theorem dX12_over_31 : decode cX12_over 31 = .ok (.iconst 1, 1) := by decide +kernel
theorem dX12_over_32 : decode cX12_over 32 = .ok (.iload_n 2, 1) := by decide +kernel
theorem dX12_over_33 : decode cX12_over 33 = .ok (.iadd, 1) := by decide +kernel
theorem dX12_over_34 : decode cX12_over 34 = .ok (.i2l, 1) := by decide +kernel
theorem dX12_over_35 : decode cX12_over 35 = .ok (.lastore, 1) := by decide +kernel
theorem dX12_over_36 : decode cX12_over 36 = .ok (.aload_n 0, 1) := by decide +kernel
theorem dX12_over_37 : decode cX12_over 37 = .ok (.getfield 7, 3) := by decide +kernel
theorem dX12_over_40 : decode cX12_over 40 = .ok (.sipush 570, 3) := by decide +kernel
theorem dX12_over_43 : decode cX12_over 43 = .ok (.aload_n 0, 1) := by decide +kernel
theorem dX12_over_44 : decode cX12_over 44 = .ok (.getfield 7, 3) := by decide +kernel
theorem dX12_over_47 : decode cX12_over 47 = .ok (.sipush 750, 3) := by decide +kernel
theorem dX12_over_50 : decode cX12_over 50 = .ok (.iload_n 1, 1) := by decide +kernel
theorem dX12_over_51 : decode cX12_over 51 = .ok (.iadd, 1) := by decide +kernel
theorem dX12_over_52 : decode cX12_over 52 = .ok (.laload, 1) := by decide +kernel
theorem dX12_over_53 : decode cX12_over 53 = .ok (.l2i, 1) := by decide +kernel
theorem dX12_over_54 : decode cX12_over 54 = .ok (.iadd, 1) := by decide +kernel
theorem dX12_over_55 : decode cX12_over 55 = .ok (.iconst 1, 1) := by decide +kernel
theorem dX12_over_56 : decode cX12_over 56 = .ok (.iload_n 2, 1) := by decide +kernel
theorem dX12_over_57 : decode cX12_over 57 = .ok (.iadd, 1) := by decide +kernel
theorem dX12_over_58 : decode cX12_over 58 = .ok (.i2l, 1) := by decide +kernel
theorem dX12_over_59 : decode cX12_over 59 = .ok (.lastore, 1) := by decide +kernel
theorem dX12_over_60 : decode cX12_over 60 = .ok (.aload_n 0, 1) := by decide +kernel
theorem dX12_over_61 : decode cX12_over 61 = .ok (.iload_n 1, 1) := by decide +kernel
theorem dX12_over_62 : decode cX12_over 62 = .ok (.invokevirtual 90, 3) := by decide +kernel
theorem dX12_over_65 : decode cX12_over 65 = .ok (.iconst 0, 1) := by decide +kernel
theorem dX12_over_66 : decode cX12_over 66 = .ok (.istore_n 3, 1) := by decide +kernel
theorem dX12_over_67 : decode cX12_over 67 = .ok (.iconst 0, 1) := by decide +kernel
theorem dX12_over_68 : decode cX12_over 68 = .ok (.istore 4, 2) := by decide +kernel
theorem dX12_over_70 : decode cX12_over 70 = .ok (.iload 4, 2) := by decide +kernel
theorem dX12_over_72 : decode cX12_over 72 = .ok (.i2l, 1) := by decide +kernel
theorem dX12_over_73 : decode cX12_over 73 = .ok (.aload_n 0, 1) := by decide +kernel
theorem dX12_over_74 : decode cX12_over 74 = .ok (.getfield 7, 3) := by decide +kernel
theorem dX12_over_77 : decode cX12_over 77 = .ok (.sipush 1544, 3) := by decide +kernel
theorem dX12_over_80 : decode cX12_over 80 = .ok (.laload, 1) := by decide +kernel
theorem dX12_over_81 : decode cX12_over 81 = .ok (.lcmp, 1) := by decide +kernel
theorem dX12_over_82 : decode cX12_over 82 = .ok (.ifCond .ge 131, 3) := by decide +kernel
theorem dX12_over_85 : decode cX12_over 85 = .ok (.iload_n 2, 1) := by decide +kernel
theorem dX12_over_86 : decode cX12_over 86 = .ok (.iconst 2, 1) := by decide +kernel
theorem dX12_over_87 : decode cX12_over 87 = .ok (.if_icmp .ne 41, 3) := by decide +kernel
theorem dX12_over_90 : decode cX12_over 90 = .ok (.aload_n 0, 1) := by decide +kernel
theorem dX12_over_91 : decode cX12_over 91 = .ok (.getfield 7, 3) := by decide +kernel
theorem dX12_over_94 : decode cX12_over 94 = .ok (.sipush 890, 3) := by decide +kernel
theorem dX12_over_97 : decode cX12_over 97 = .ok (.iload 4, 2) := by decide +kernel
theorem dX12_over_99 : decode cX12_over 99 = .ok (.iadd, 1) := by decide +kernel
theorem dX12_over_100 : decode cX12_over 100 = .ok (.laload, 1) := by decide +kernel
theorem dX12_over_101 : decode cX12_over 101 = .ok (.iload_n 1, 1) := by decide +kernel
theorem dX12_over_102 : decode cX12_over 102 = .ok (.i2l, 1) := by decide +kernel
theorem dX12_over_103 : decode cX12_over 103 = .ok (.lcmp, 1) := by decide +kernel
theorem dX12_over_104 : decode cX12_over 104 = .ok (.ifCond .eq 20, 3) := by decide +kernel
theorem dX12_over_107 : decode cX12_over 107 = .ok (.aload_n 0, 1) := by decide +kernel
theorem dX12_over_108 : decode cX12_over 108 = .ok (.getfield 7, 3) := by decide +kernel
theorem dX12_over_111 : decode cX12_over 111 = .ok (.sipush 900, 3) := by decide +kernel
theorem dX12_over_114 : decode cX12_over 114 = .ok (.iload 4, 2) := by decide +kernel
theorem dX12_over_116 : decode cX12_over 116 = .ok (.iadd, 1) := by decide +kernel
theorem dX12_over_117 : decode cX12_over 117 = .ok (.laload, 1) := by decide +kernel
theorem dX12_over_118 : decode cX12_over 118 = .ok (.iload_n 1, 1) := by decide +kernel
theorem dX12_over_119 : decode cX12_over 119 = .ok (.i2l, 1) := by decide +kernel
theorem dX12_over_120 : decode cX12_over 120 = .ok (.lcmp, 1) := by decide +kernel
theorem dX12_over_121 : decode cX12_over 121 = .ok (.ifCond .ne 7, 3) := by decide +kernel
theorem dX12_over_124 : decode cX12_over 124 = .ok (.iconst 1, 1) := by decide +kernel
theorem dX12_over_125 : decode cX12_over 125 = .ok (.goto 4, 3) := by decide +kernel
theorem dX12_over_128 : decode cX12_over 128 = .ok (.iconst 0, 1) := by decide +kernel
theorem dX12_over_129 : decode cX12_over 129 = .ok (.istore 5, 2) := by decide +kernel
theorem dX12_over_131 : decode cX12_over 131 = .ok (.aload_n 0, 1) := by decide +kernel
theorem dX12_over_132 : decode cX12_over 132 = .ok (.getfield 7, 3) := by decide +kernel
theorem dX12_over_135 : decode cX12_over 135 = .ok (.sipush 890, 3) := by decide +kernel
theorem dX12_over_138 : decode cX12_over 138 = .ok (.iload_n 3, 1) := by decide +kernel
theorem dX12_over_139 : decode cX12_over 139 = .ok (.iadd, 1) := by decide +kernel
theorem dX12_over_140 : decode cX12_over 140 = .ok (.aload_n 0, 1) := by decide +kernel
theorem dX12_over_141 : decode cX12_over 141 = .ok (.getfield 7, 3) := by decide +kernel
theorem dX12_over_144 : decode cX12_over 144 = .ok (.sipush 890, 3) := by decide +kernel
theorem dX12_over_147 : decode cX12_over 147 = .ok (.iload 4, 2) := by decide +kernel
theorem dX12_over_149 : decode cX12_over 149 = .ok (.iadd, 1) := by decide +kernel
theorem dX12_over_150 : decode cX12_over 150 = .ok (.laload, 1) := by decide +kernel
theorem dX12_over_151 : decode cX12_over 151 = .ok (.lastore, 1) := by decide +kernel
theorem dX12_over_152 : decode cX12_over 152 = .ok (.aload_n 0, 1) := by decide +kernel
theorem dX12_over_153 : decode cX12_over 153 = .ok (.getfield 7, 3) := by decide +kernel
theorem dX12_over_156 : decode cX12_over 156 = .ok (.sipush 900, 3) := by decide +kernel
theorem dX12_over_159 : decode cX12_over 159 = .ok (.iload_n 3, 1) := by decide +kernel
theorem dX12_over_160 : decode cX12_over 160 = .ok (.iadd, 1) := by decide +kernel
theorem dX12_over_161 : decode cX12_over 161 = .ok (.aload_n 0, 1) := by decide +kernel
theorem dX12_over_162 : decode cX12_over 162 = .ok (.getfield 7, 3) := by decide +kernel
theorem dX12_over_165 : decode cX12_over 165 = .ok (.sipush 900, 3) := by decide +kernel
theorem dX12_over_168 : decode cX12_over 168 = .ok (.iload 4, 2) := by decide +kernel
theorem dX12_over_170 : decode cX12_over 170 = .ok (.iadd, 1) := by decide +kernel
theorem dX12_over_171 : decode cX12_over 171 = .ok (.laload, 1) := by decide +kernel
theorem dX12_over_172 : decode cX12_over 172 = .ok (.lastore, 1) := by decide +kernel
theorem dX12_over_173 : decode cX12_over 173 = .ok (.aload_n 0, 1) := by decide +kernel
theorem dX12_over_174 : decode cX12_over 174 = .ok (.getfield 7, 3) := by decide +kernel
theorem dX12_over_177 : decode cX12_over 177 = .ok (.sipush 910, 3) := by decide +kernel
theorem dX12_over_180 : decode cX12_over 180 = .ok (.iload_n 3, 1) := by decide +kernel
theorem dX12_over_181 : decode cX12_over 181 = .ok (.iadd, 1) := by decide +kernel
theorem dX12_over_182 : decode cX12_over 182 = .ok (.aload_n 0, 1) := by decide +kernel
theorem dX12_over_183 : decode cX12_over 183 = .ok (.getfield 7, 3) := by decide +kernel
theorem dX12_over_186 : decode cX12_over 186 = .ok (.sipush 910, 3) := by decide +kernel
theorem dX12_over_189 : decode cX12_over 189 = .ok (.iload 4, 2) := by decide +kernel
theorem dX12_over_191 : decode cX12_over 191 = .ok (.iadd, 1) := by decide +kernel
theorem dX12_over_192 : decode cX12_over 192 = .ok (.laload, 1) := by decide +kernel
theorem dX12_over_193 : decode cX12_over 193 = .ok (.lastore, 1) := by decide +kernel
theorem dX12_over_194 : decode cX12_over 194 = .ok (.iload_n 3, 1) := by decide +kernel
theorem dX12_over_195 : decode cX12_over 195 = .ok (.iload 5, 2) := by decide +kernel
theorem dX12_over_197 : decode cX12_over 197 = .ok (.ifCond .eq 7, 3) := by decide +kernel
theorem dX12_over_200 : decode cX12_over 200 = .ok (.iconst 0, 1) := by decide +kernel
theorem dX12_over_201 : decode cX12_over 201 = .ok (.goto 4, 3) := by decide +kernel
theorem dX12_over_204 : decode cX12_over 204 = .ok (.iconst 1, 1) := by decide +kernel
theorem dX12_over_205 : decode cX12_over 205 = .ok (.iadd, 1) := by decide +kernel
theorem dX12_over_206 : decode cX12_over 206 = .ok (.istore_n 3, 1) := by decide +kernel
theorem dX12_over_207 : decode cX12_over 207 = .ok (.iinc 4 1, 3) := by decide +kernel
theorem dX12_over_210 : decode cX12_over 210 = .ok (.goto (-140), 3) := by decide +kernel
theorem dX12_over_213 : decode cX12_over 213 = .ok (.aload_n 0, 1) := by decide +kernel
theorem dX12_over_214 : decode cX12_over 214 = .ok (.getfield 7, 3) := by decide +kernel
theorem dX12_over_217 : decode cX12_over 217 = .ok (.sipush 1544, 3) := by decide +kernel
theorem dX12_over_220 : decode cX12_over 220 = .ok (.iload_n 3, 1) := by decide +kernel
theorem dX12_over_221 : decode cX12_over 221 = .ok (.i2l, 1) := by decide +kernel
theorem dX12_over_222 : decode cX12_over 222 = .ok (.lastore, 1) := by decide +kernel
theorem dX12_over_223 : decode cX12_over 223 = .ok (.return_, 1) := by decide +kernel
theorem dX12_cancel_0 : decode cX12_cancel 0 = .ok (.aload_n 0, 1) := by decide +kernel
theorem dX12_cancel_1 : decode cX12_cancel 1 = .ok (.aload_n 0, 1) := by decide +kernel
theorem dX12_cancel_2 : decode cX12_cancel 2 = .ok (.iload_n 1, 1) := by decide +kernel
theorem dX12_cancel_3 : decode cX12_cancel 3 = .ok (.invokevirtual 119, 3) := by decide +kernel
theorem dX12_cancel_6 : decode cX12_cancel 6 = .ok (.ifCond .ne 7, 3) := by decide +kernel
theorem dX12_cancel_9 : decode cX12_cancel 9 = .ok (.iconst 1, 1) := by decide +kernel
theorem dX12_cancel_10 : decode cX12_cancel 10 = .ok (.goto 23, 3) := by decide +kernel
theorem dX12_cancel_13 : decode cX12_cancel 13 = .ok (.aload_n 0, 1) := by decide +kernel
theorem dX12_cancel_14 : decode cX12_cancel 14 = .ok (.getfield 7, 3) := by decide +kernel
theorem dX12_cancel_17 : decode cX12_cancel 17 = .ok (.sipush 570, 3) := by decide +kernel
theorem dX12_cancel_20 : decode cX12_cancel 20 = .ok (.iload_n 1, 1) := by decide +kernel
theorem dX12_cancel_21 : decode cX12_cancel 21 = .ok (.iadd, 1) := by decide +kernel
theorem dX12_cancel_22 : decode cX12_cancel 22 = .ok (.laload, 1) := by decide +kernel
theorem dX12_cancel_23 : decode cX12_cancel 23 = .ok (.lconst 1, 1) := by decide +kernel
theorem dX12_cancel_24 : decode cX12_cancel 24 = .ok (.lcmp, 1) := by decide +kernel
theorem dX12_cancel_25 : decode cX12_cancel 25 = .ok (.ifCond .le 7, 3) := by decide +kernel
theorem dX12_cancel_28 : decode cX12_cancel 28 = .ok (.iconst 2, 1) := by decide +kernel
theorem dX12_cancel_29 : decode cX12_cancel 29 = .ok (.goto 4, 3) := by decide +kernel
theorem dX12_cancel_32 : decode cX12_cancel 32 = .ok (.iconst 0, 1) := by decide +kernel
theorem dX12_cancel_33 : decode cX12_cancel 33 = .ok (.invokevirtual 61, 3) := by decide +kernel
theorem dX12_cancel_36 : decode cX12_cancel 36 = .ok (.ifCond .eq 5, 3) := by decide +kernel
theorem dX12_cancel_39 : decode cX12_cancel 39 = .ok (.iconst 0, 1) := by decide +kernel
theorem dX12_cancel_40 : decode cX12_cancel 40 = .ok (.ireturn, 1) := by decide +kernel
theorem dX12_cancel_41 : decode cX12_cancel 41 = .ok (.aload_n 0, 1) := by decide +kernel
theorem dX12_cancel_42 : decode cX12_cancel 42 = .ok (.getfield 7, 3) := by decide +kernel
theorem dX12_cancel_45 : decode cX12_cancel 45 = .ok (.sipush 570, 3) := by decide +kernel
theorem dX12_cancel_48 : decode cX12_cancel 48 = .ok (.iload_n 1, 1) := by decide +kernel
theorem dX12_cancel_49 : decode cX12_cancel 49 = .ok (.iadd, 1) := by decide +kernel
theorem dX12_cancel_50 : decode cX12_cancel 50 = .ok (.laload, 1) := by decide +kernel
theorem dX12_cancel_51 : decode cX12_cancel 51 = .ok (.lconst 0, 1) := by decide +kernel
theorem dX12_cancel_52 : decode cX12_cancel 52 = .ok (.lcmp, 1) := by decide +kernel
theorem dX12_cancel_53 : decode cX12_cancel 53 = .ok (.ifCond .ne 38, 3) := by decide +kernel
theorem dX12_cancel_56 : decode cX12_cancel 56 = .ok (.aload_n 0, 1) := by decide +kernel
theorem dX12_cancel_57 : decode cX12_cancel 57 = .ok (.getfield 7, 3) := by decide +kernel
theorem dX12_cancel_60 : decode cX12_cancel 60 = .ok (.sipush 570, 3) := by decide +kernel
theorem dX12_cancel_63 : decode cX12_cancel 63 = .ok (.iload_n 1, 1) := by decide +kernel
theorem dX12_cancel_64 : decode cX12_cancel 64 = .ok (.iadd, 1) := by decide +kernel
theorem dX12_cancel_65 : decode cX12_cancel 65 = .ok (.ldc2_w 88, 3) := by decide +kernel
theorem dX12_cancel_68 : decode cX12_cancel 68 = .ok (.lastore, 1) := by decide +kernel
theorem dX12_cancel_69 : decode cX12_cancel 69 = .ok (.aload_n 0, 1) := by decide +kernel
theorem dX12_cancel_70 : decode cX12_cancel 70 = .ok (.getfield 16, 3) := by decide +kernel
theorem dX12_cancel_73 : decode cX12_cancel 73 = .ok (.aload_n 0, 1) := by decide +kernel
theorem dX12_cancel_74 : decode cX12_cancel 74 = .ok (.getfield 7, 3) := by decide +kernel
theorem dX12_cancel_77 : decode cX12_cancel 77 = .ok (.sipush 210, 3) := by decide +kernel
theorem dX12_cancel_80 : decode cX12_cancel 80 = .ok (.iload_n 1, 1) := by decide +kernel
theorem dX12_cancel_81 : decode cX12_cancel 81 = .ok (.iadd, 1) := by decide +kernel
theorem dX12_cancel_82 : decode cX12_cancel 82 = .ok (.laload, 1) := by decide +kernel
theorem dX12_cancel_83 : decode cX12_cancel 83 = .ok (.l2i, 1) := by decide +kernel
theorem dX12_cancel_84 : decode cX12_cancel 84 = .ok (.dup2, 1) := by decide +kernel
theorem dX12_cancel_85 : decode cX12_cancel 85 = .ok (.iaload, 1) := by decide +kernel
theorem dX12_cancel_86 : decode cX12_cancel 86 = .ok (.iconst 1, 1) := by decide +kernel
theorem dX12_cancel_87 : decode cX12_cancel 87 = .ok (.iadd, 1) := by decide +kernel
theorem dX12_cancel_88 : decode cX12_cancel 88 = .ok (.iastore, 1) := by decide +kernel
theorem dX12_cancel_89 : decode cX12_cancel 89 = .ok (.iconst 1, 1) := by decide +kernel
theorem dX12_cancel_90 : decode cX12_cancel 90 = .ok (.ireturn, 1) := by decide +kernel
theorem dX12_cancel_91 : decode cX12_cancel 91 = .ok (.aload_n 0, 1) := by decide +kernel
theorem dX12_cancel_92 : decode cX12_cancel 92 = .ok (.getfield 7, 3) := by decide +kernel
theorem dX12_cancel_95 : decode cX12_cancel 95 = .ok (.sipush 650, 3) := by decide +kernel
theorem dX12_cancel_98 : decode cX12_cancel 98 = .ok (.iload_n 1, 1) := by decide +kernel
theorem dX12_cancel_99 : decode cX12_cancel 99 = .ok (.iadd, 1) := by decide +kernel
theorem dX12_cancel_100 : decode cX12_cancel 100 = .ok (.laload, 1) := by decide +kernel
theorem dX12_cancel_101 : decode cX12_cancel 101 = .ok (.l2i, 1) := by decide +kernel
theorem dX12_cancel_102 : decode cX12_cancel 102 = .ok (.istore_n 2, 1) := by decide +kernel
theorem dX12_cancel_103 : decode cX12_cancel 103 = .ok (.aload_n 0, 1) := by decide +kernel
theorem dX12_cancel_104 : decode cX12_cancel 104 = .ok (.getfield 7, 3) := by decide +kernel
theorem dX12_cancel_107 : decode cX12_cancel 107 = .ok (.sipush 690, 3) := by decide +kernel
theorem dX12_cancel_110 : decode cX12_cancel 110 = .ok (.iload_n 1, 1) := by decide +kernel
theorem dX12_cancel_111 : decode cX12_cancel 111 = .ok (.iadd, 1) := by decide +kernel
theorem dX12_cancel_112 : decode cX12_cancel 112 = .ok (.lconst 1, 1) := by decide +kernel
theorem dX12_cancel_113 : decode cX12_cancel 113 = .ok (.lastore, 1) := by decide +kernel
theorem dX12_cancel_114 : decode cX12_cancel 114 = .ok (.aload_n 0, 1) := by decide +kernel
theorem dX12_cancel_115 : decode cX12_cancel 115 = .ok (.getfield 7, 3) := by decide +kernel
theorem dX12_cancel_118 : decode cX12_cancel 118 = .ok (.sipush 690, 3) := by decide +kernel
theorem dX12_cancel_121 : decode cX12_cancel 121 = .ok (.aload_n 0, 1) := by decide +kernel
theorem dX12_cancel_122 : decode cX12_cancel 122 = .ok (.getfield 7, 3) := by decide +kernel
theorem dX12_cancel_125 : decode cX12_cancel 125 = .ok (.sipush 730, 3) := by decide +kernel
theorem dX12_cancel_128 : decode cX12_cancel 128 = .ok (.iload_n 2, 1) := by decide +kernel
theorem dX12_cancel_129 : decode cX12_cancel 129 = .ok (.iadd, 1) := by decide +kernel
theorem dX12_cancel_130 : decode cX12_cancel 130 = .ok (.laload, 1) := by decide +kernel
theorem dX12_cancel_131 : decode cX12_cancel 131 = .ok (.l2i, 1) := by decide +kernel
theorem dX12_cancel_132 : decode cX12_cancel 132 = .ok (.iadd, 1) := by decide +kernel
theorem dX12_cancel_133 : decode cX12_cancel 133 = .ok (.laload, 1) := by decide +kernel
theorem dX12_cancel_134 : decode cX12_cancel 134 = .ok (.lconst 1, 1) := by decide +kernel
theorem dX12_cancel_135 : decode cX12_cancel 135 = .ok (.lcmp, 1) := by decide +kernel
theorem dX12_cancel_136 : decode cX12_cancel 136 = .ok (.ifCond .ne 32, 3) := by decide +kernel
theorem dX12_cancel_139 : decode cX12_cancel 139 = .ok (.aload_n 0, 1) := by decide +kernel
theorem dX12_cancel_140 : decode cX12_cancel 140 = .ok (.getfield 7, 3) := by decide +kernel
theorem dX12_cancel_143 : decode cX12_cancel 143 = .ok (.sipush 690, 3) := by decide +kernel
theorem dX12_cancel_146 : decode cX12_cancel 146 = .ok (.aload_n 0, 1) := by decide +kernel
theorem dX12_cancel_147 : decode cX12_cancel 147 = .ok (.getfield 7, 3) := by decide +kernel
theorem dX12_cancel_150 : decode cX12_cancel 150 = .ok (.sipush 750, 3) := by decide +kernel
theorem dX12_cancel_153 : decode cX12_cancel 153 = .ok (.iload_n 2, 1) := by decide +kernel
theorem dX12_cancel_154 : decode cX12_cancel 154 = .ok (.iadd, 1) := by decide +kernel
theorem dX12_cancel_155 : decode cX12_cancel 155 = .ok (.laload, 1) := by decide +kernel
theorem dX12_cancel_156 : decode cX12_cancel 156 = .ok (.l2i, 1) := by decide +kernel
theorem dX12_cancel_157 : decode cX12_cancel 157 = .ok (.iadd, 1) := by decide +kernel
theorem dX12_cancel_158 : decode cX12_cancel 158 = .ok (.laload, 1) := by decide +kernel
theorem dX12_cancel_159 : decode cX12_cancel 159 = .ok (.lconst 1, 1) := by decide +kernel
theorem dX12_cancel_160 : decode cX12_cancel 160 = .ok (.lcmp, 1) := by decide +kernel
theorem dX12_cancel_161 : decode cX12_cancel 161 = .ok (.ifCond .ne 7, 3) := by decide +kernel
theorem dX12_cancel_164 : decode cX12_cancel 164 = .ok (.iconst 1, 1) := by decide +kernel
theorem dX12_cancel_165 : decode cX12_cancel 165 = .ok (.goto 4, 3) := by decide +kernel
theorem dX12_cancel_168 : decode cX12_cancel 168 = .ok (.iconst 0, 1) := by decide +kernel
theorem dX12_cancel_169 : decode cX12_cancel 169 = .ok (.istore_n 3, 1) := by decide +kernel
theorem dX12_cancel_170 : decode cX12_cancel 170 = .ok (.iload_n 3, 1) := by decide +kernel
theorem dX12_cancel_171 : decode cX12_cancel 171 = .ok (.ifCond .eq 9, 3) := by decide +kernel
theorem dX12_cancel_174 : decode cX12_cancel 174 = .ok (.aload_n 0, 1) := by decide +kernel
theorem dX12_cancel_175 : decode cX12_cancel 175 = .ok (.iload_n 2, 1) := by decide +kernel
theorem dX12_cancel_176 : decode cX12_cancel 176 = .ok (.iconst 2, 1) := by decide +kernel
theorem dX12_cancel_177 : decode cX12_cancel 177 = .ok (.invokevirtual 122, 3) := by decide +kernel
theorem dX12_cancel_180 : decode cX12_cancel 180 = .ok (.iload_n 3, 1) := by decide +kernel
theorem dX12_cancel_181 : decode cX12_cancel 181 = .ok (.ireturn, 1) := by decide +kernel
theorem dX12_hold_0 : decode cX12_hold 0 = .ok (.aload_n 0, 1) := by decide +kernel
theorem dX12_hold_1 : decode cX12_hold 1 = .ok (.aload_n 0, 1) := by decide +kernel
theorem dX12_hold_2 : decode cX12_hold 2 = .ok (.iload_n 1, 1) := by decide +kernel
theorem dX12_hold_3 : decode cX12_hold 3 = .ok (.invokevirtual 119, 3) := by decide +kernel
theorem dX12_hold_6 : decode cX12_hold 6 = .ok (.ifCond .ne 7, 3) := by decide +kernel
theorem dX12_hold_9 : decode cX12_hold 9 = .ok (.iconst 1, 1) := by decide +kernel
theorem dX12_hold_10 : decode cX12_hold 10 = .ok (.goto 23, 3) := by decide +kernel
theorem dX12_hold_13 : decode cX12_hold 13 = .ok (.aload_n 0, 1) := by decide +kernel
theorem dX12_hold_14 : decode cX12_hold 14 = .ok (.getfield 7, 3) := by decide +kernel
theorem dX12_hold_17 : decode cX12_hold 17 = .ok (.sipush 570, 3) := by decide +kernel
theorem dX12_hold_20 : decode cX12_hold 20 = .ok (.iload_n 1, 1) := by decide +kernel
theorem dX12_hold_21 : decode cX12_hold 21 = .ok (.iadd, 1) := by decide +kernel
theorem dX12_hold_22 : decode cX12_hold 22 = .ok (.laload, 1) := by decide +kernel
theorem dX12_hold_23 : decode cX12_hold 23 = .ok (.lconst 1, 1) := by decide +kernel
theorem dX12_hold_24 : decode cX12_hold 24 = .ok (.lcmp, 1) := by decide +kernel
theorem dX12_hold_25 : decode cX12_hold 25 = .ok (.ifCond .le 7, 3) := by decide +kernel
theorem dX12_hold_28 : decode cX12_hold 28 = .ok (.iconst 2, 1) := by decide +kernel
theorem dX12_hold_29 : decode cX12_hold 29 = .ok (.goto 4, 3) := by decide +kernel
theorem dX12_hold_32 : decode cX12_hold 32 = .ok (.iconst 0, 1) := by decide +kernel
theorem dX12_hold_33 : decode cX12_hold 33 = .ok (.invokevirtual 61, 3) := by decide +kernel
theorem dX12_hold_36 : decode cX12_hold 36 = .ok (.ifCond .eq 5, 3) := by decide +kernel
theorem dX12_hold_39 : decode cX12_hold 39 = .ok (.iconst 0, 1) := by decide +kernel
theorem dX12_hold_40 : decode cX12_hold 40 = .ok (.ireturn, 1) := by decide +kernel
theorem dX12_hold_41 : decode cX12_hold 41 = .ok (.aload_n 0, 1) := by decide +kernel
theorem dX12_hold_42 : decode cX12_hold 42 = .ok (.getfield 7, 3) := by decide +kernel
theorem dX12_hold_45 : decode cX12_hold 45 = .ok (.sipush 610, 3) := by decide +kernel
theorem dX12_hold_48 : decode cX12_hold 48 = .ok (.iload_n 1, 1) := by decide +kernel
theorem dX12_hold_49 : decode cX12_hold 49 = .ok (.iadd, 1) := by decide +kernel
theorem dX12_hold_50 : decode cX12_hold 50 = .ok (.lconst 1, 1) := by decide +kernel
theorem dX12_hold_51 : decode cX12_hold 51 = .ok (.aload_n 0, 1) := by decide +kernel
theorem dX12_hold_52 : decode cX12_hold 52 = .ok (.getfield 7, 3) := by decide +kernel
theorem dX12_hold_55 : decode cX12_hold 55 = .ok (.sipush 610, 3) := by decide +kernel
theorem dX12_hold_58 : decode cX12_hold 58 = .ok (.iload_n 1, 1) := by decide +kernel
theorem dX12_hold_59 : decode cX12_hold 59 = .ok (.iadd, 1) := by decide +kernel
theorem dX12_hold_60 : decode cX12_hold 60 = .ok (.laload, 1) := by decide +kernel
theorem dX12_hold_61 : decode cX12_hold 61 = .ok (.lsub, 1) := by decide +kernel
theorem dX12_hold_62 : decode cX12_hold 62 = .ok (.lastore, 1) := by decide +kernel
theorem dX12_hold_63 : decode cX12_hold 63 = .ok (.aload_n 0, 1) := by decide +kernel
theorem dX12_hold_64 : decode cX12_hold 64 = .ok (.getfield 7, 3) := by decide +kernel
theorem dX12_hold_67 : decode cX12_hold 67 = .ok (.sipush 610, 3) := by decide +kernel
theorem dX12_hold_70 : decode cX12_hold 70 = .ok (.iload_n 1, 1) := by decide +kernel
theorem dX12_hold_71 : decode cX12_hold 71 = .ok (.iadd, 1) := by decide +kernel
theorem dX12_hold_72 : decode cX12_hold 72 = .ok (.laload, 1) := by decide +kernel
theorem dX12_hold_73 : decode cX12_hold 73 = .ok (.lconst 1, 1) := by decide +kernel
theorem dX12_hold_74 : decode cX12_hold 74 = .ok (.lcmp, 1) := by decide +kernel
theorem dX12_hold_75 : decode cX12_hold 75 = .ok (.ifCond .ne 7, 3) := by decide +kernel
theorem dX12_hold_78 : decode cX12_hold 78 = .ok (.iconst 1, 1) := by decide +kernel
theorem dX12_hold_79 : decode cX12_hold 79 = .ok (.goto 4, 3) := by decide +kernel
theorem dX12_hold_82 : decode cX12_hold 82 = .ok (.iconst 0, 1) := by decide +kernel
theorem dX12_hold_83 : decode cX12_hold 83 = .ok (.ireturn, 1) := by decide +kernel
theorem dX12_link_0 : decode cX12_link 0 = .ok (.aload_n 0, 1) := by decide +kernel
theorem dX12_link_1 : decode cX12_link 1 = .ok (.iload_n 1, 1) := by decide +kernel
theorem dX12_link_2 : decode cX12_link 2 = .ok (.invokevirtual 126, 3) := by decide +kernel
theorem dX12_link_5 : decode cX12_link 5 = .ok (.ifCond .eq 15, 3) := by decide +kernel
theorem dX12_link_8 : decode cX12_link 8 = .ok (.aload_n 0, 1) := by decide +kernel
theorem dX12_link_9 : decode cX12_link 9 = .ok (.iload_n 2, 1) := by decide +kernel
theorem dX12_link_10 : decode cX12_link 10 = .ok (.invokevirtual 126, 3) := by decide +kernel
theorem dX12_link_13 : decode cX12_link 13 = .ok (.ifCond .eq 7, 3) := by decide +kernel
theorem dX12_link_16 : decode cX12_link 16 = .ok (.iconst 1, 1) := by decide +kernel
theorem dX12_link_17 : decode cX12_link 17 = .ok (.goto 4, 3) := by decide +kernel
theorem dX12_link_20 : decode cX12_link 20 = .ok (.iconst 0, 1) := by decide +kernel
theorem dX12_link_21 : decode cX12_link 21 = .ok (.istore 4, 2) := by decide +kernel
theorem dX12_link_23 : decode cX12_link 23 = .ok (.iconst 0, 1) := by decide +kernel
theorem dX12_link_24 : decode cX12_link 24 = .ok (.istore 5, 2) := by decide +kernel
theorem dX12_link_26 : decode cX12_link 26 = .ok (.iconst 0, 1) := by decide +kernel
theorem dX12_link_27 : decode cX12_link 27 = .ok (.istore 6, 2) := by decide +kernel
theorem dX12_link_29 : decode cX12_link 29 = .ok (.iload 6, 2) := by decide +kernel
theorem dX12_link_31 : decode cX12_link 31 = .ok (.i2l, 1) := by decide +kernel
theorem dX12_link_32 : decode cX12_link 32 = .ok (.aload_n 0, 1) := by decide +kernel
theorem dX12_link_33 : decode cX12_link 33 = .ok (.getfield 7, 3) := by decide +kernel
theorem dX12_link_36 : decode cX12_link 36 = .ok (.sipush 1544, 3) := by decide +kernel
theorem dX12_link_39 : decode cX12_link 39 = .ok (.laload, 1) := by decide +kernel
theorem dX12_link_40 : decode cX12_link 40 = .ok (.lcmp, 1) := by decide +kernel
theorem dX12_link_41 : decode cX12_link 41 = .ok (.ifCond .ge 87, 3) := by decide +kernel
theorem dX12_link_44 : decode cX12_link 44 = .ok (.iload 5, 2) := by decide +kernel
theorem dX12_link_46 : decode cX12_link 46 = .ok (.aload_n 0, 1) := by decide +kernel
theorem dX12_link_47 : decode cX12_link 47 = .ok (.getfield 7, 3) := by decide +kernel
theorem dX12_link_50 : decode cX12_link 50 = .ok (.sipush 890, 3) := by decide +kernel
theorem dX12_link_53 : decode cX12_link 53 = .ok (.iload 6, 2) := by decide +kernel
theorem dX12_link_55 : decode cX12_link 55 = .ok (.iadd, 1) := by decide +kernel
theorem dX12_link_56 : decode cX12_link 56 = .ok (.laload, 1) := by decide +kernel
theorem dX12_link_57 : decode cX12_link 57 = .ok (.iload_n 1, 1) := by decide +kernel
theorem dX12_link_58 : decode cX12_link 58 = .ok (.i2l, 1) := by decide +kernel
theorem dX12_link_59 : decode cX12_link 59 = .ok (.lcmp, 1) := by decide +kernel
theorem dX12_link_60 : decode cX12_link 60 = .ok (.ifCond .ne 20, 3) := by decide +kernel
theorem dX12_link_63 : decode cX12_link 63 = .ok (.aload_n 0, 1) := by decide +kernel
theorem dX12_link_64 : decode cX12_link 64 = .ok (.getfield 7, 3) := by decide +kernel
theorem dX12_link_67 : decode cX12_link 67 = .ok (.sipush 900, 3) := by decide +kernel
theorem dX12_link_70 : decode cX12_link 70 = .ok (.iload 6, 2) := by decide +kernel
theorem dX12_link_72 : decode cX12_link 72 = .ok (.iadd, 1) := by decide +kernel
theorem dX12_link_73 : decode cX12_link 73 = .ok (.laload, 1) := by decide +kernel
theorem dX12_link_74 : decode cX12_link 74 = .ok (.iload_n 2, 1) := by decide +kernel
theorem dX12_link_75 : decode cX12_link 75 = .ok (.i2l, 1) := by decide +kernel
theorem dX12_link_76 : decode cX12_link 76 = .ok (.lcmp, 1) := by decide +kernel
theorem dX12_link_77 : decode cX12_link 77 = .ok (.ifCond .eq 37, 3) := by decide +kernel
theorem dX12_link_80 : decode cX12_link 80 = .ok (.aload_n 0, 1) := by decide +kernel
theorem dX12_link_81 : decode cX12_link 81 = .ok (.getfield 7, 3) := by decide +kernel
theorem dX12_link_84 : decode cX12_link 84 = .ok (.sipush 890, 3) := by decide +kernel
theorem dX12_link_87 : decode cX12_link 87 = .ok (.iload 6, 2) := by decide +kernel
theorem dX12_link_89 : decode cX12_link 89 = .ok (.iadd, 1) := by decide +kernel
theorem dX12_link_90 : decode cX12_link 90 = .ok (.laload, 1) := by decide +kernel
theorem dX12_link_91 : decode cX12_link 91 = .ok (.iload_n 2, 1) := by decide +kernel
theorem dX12_link_92 : decode cX12_link 92 = .ok (.i2l, 1) := by decide +kernel
theorem dX12_link_93 : decode cX12_link 93 = .ok (.lcmp, 1) := by decide +kernel
theorem dX12_link_94 : decode cX12_link 94 = .ok (.ifCond .ne 24, 3) := by decide +kernel
theorem dX12_link_97 : decode cX12_link 97 = .ok (.aload_n 0, 1) := by decide +kernel
theorem dX12_link_98 : decode cX12_link 98 = .ok (.getfield 7, 3) := by decide +kernel
theorem dX12_link_101 : decode cX12_link 101 = .ok (.sipush 900, 3) := by decide +kernel
theorem dX12_link_104 : decode cX12_link 104 = .ok (.iload 6, 2) := by decide +kernel
theorem dX12_link_106 : decode cX12_link 106 = .ok (.iadd, 1) := by decide +kernel
theorem dX12_link_107 : decode cX12_link 107 = .ok (.laload, 1) := by decide +kernel
theorem dX12_link_108 : decode cX12_link 108 = .ok (.iload_n 1, 1) := by decide +kernel
theorem dX12_link_109 : decode cX12_link 109 = .ok (.i2l, 1) := by decide +kernel
theorem dX12_link_110 : decode cX12_link 110 = .ok (.lcmp, 1) := by decide +kernel
theorem dX12_link_111 : decode cX12_link 111 = .ok (.ifCond .ne 7, 3) := by decide +kernel
theorem dX12_link_114 : decode cX12_link 114 = .ok (.iconst 1, 1) := by decide +kernel
theorem dX12_link_115 : decode cX12_link 115 = .ok (.goto 4, 3) := by decide +kernel
theorem dX12_link_118 : decode cX12_link 118 = .ok (.iconst 0, 1) := by decide +kernel
theorem dX12_link_119 : decode cX12_link 119 = .ok (.ior, 1) := by decide +kernel
theorem dX12_link_120 : decode cX12_link 120 = .ok (.istore 5, 2) := by decide +kernel
theorem dX12_link_122 : decode cX12_link 122 = .ok (.iinc 6 1, 3) := by decide +kernel
theorem dX12_link_125 : decode cX12_link 125 = .ok (.goto (-96), 3) := by decide +kernel
theorem dX12_link_128 : decode cX12_link 128 = .ok (.iload 4, 2) := by decide +kernel
theorem dX12_link_130 : decode cX12_link 130 = .ok (.ifCond .eq 57, 3) := by decide +kernel
theorem dX12_link_133 : decode cX12_link 133 = .ok (.aload_n 0, 1) := by decide +kernel
theorem dX12_link_134 : decode cX12_link 134 = .ok (.getfield 7, 3) := by decide +kernel
theorem dX12_link_137 : decode cX12_link 137 = .ok (.sipush 870, 3) := by decide +kernel
theorem dX12_link_140 : decode cX12_link 140 = .ok (.iload_n 1, 1) := by decide +kernel
theorem dX12_link_141 : decode cX12_link 141 = .ok (.iadd, 1) := by decide +kernel
theorem dX12_link_142 : decode cX12_link 142 = .ok (.laload, 1) := by decide +kernel
theorem dX12_link_143 : decode cX12_link 143 = .ok (.lconst 0, 1) := by decide +kernel
theorem dX12_link_144 : decode cX12_link 144 = .ok (.lcmp, 1) := by decide +kernel
theorem dX12_link_145 : decode cX12_link 145 = .ok (.ifCond .gt 38, 3) := by decide +kernel
theorem dX12_link_148 : decode cX12_link 148 = .ok (.aload_n 0, 1) := by decide +kernel
theorem dX12_link_149 : decode cX12_link 149 = .ok (.getfield 7, 3) := by decide +kernel
theorem dX12_link_152 : decode cX12_link 152 = .ok (.sipush 870, 3) := by decide +kernel
theorem dX12_link_155 : decode cX12_link 155 = .ok (.iload_n 2, 1) := by decide +kernel
theorem dX12_link_156 : decode cX12_link 156 = .ok (.iadd, 1) := by decide +kernel
theorem dX12_link_157 : decode cX12_link 157 = .ok (.laload, 1) := by decide +kernel
theorem dX12_link_158 : decode cX12_link 158 = .ok (.lconst 0, 1) := by decide +kernel
theorem dX12_link_159 : decode cX12_link 159 = .ok (.lcmp, 1) := by decide +kernel
theorem dX12_link_160 : decode cX12_link 160 = .ok (.ifCond .gt 23, 3) := by decide +kernel
theorem dX12_link_163 : decode cX12_link 163 = .ok (.iload 5, 2) := by decide +kernel
theorem dX12_link_165 : decode cX12_link 165 = .ok (.ifCond .ne 18, 3) := by decide +kernel
theorem dX12_link_168 : decode cX12_link 168 = .ok (.aload_n 0, 1) := by decide +kernel
theorem dX12_link_169 : decode cX12_link 169 = .ok (.getfield 7, 3) := by decide +kernel
theorem dX12_link_172 : decode cX12_link 172 = .ok (.sipush 1544, 3) := by decide +kernel
theorem dX12_link_175 : decode cX12_link 175 = .ok (.laload, 1) := by decide +kernel
theorem dX12_link_176 : decode cX12_link 176 = .ok (.ldc2_w 59, 3) := by decide +kernel
theorem dX12_link_179 : decode cX12_link 179 = .ok (.lcmp, 1) := by decide +kernel
theorem dX12_link_180 : decode cX12_link 180 = .ok (.ifCond .ne 7, 3) := by decide +kernel
theorem dX12_link_183 : decode cX12_link 183 = .ok (.iconst 1, 1) := by decide +kernel
theorem dX12_link_184 : decode cX12_link 184 = .ok (.goto 4, 3) := by decide +kernel
theorem dX12_link_187 : decode cX12_link 187 = .ok (.iconst 0, 1) := by decide +kernel
theorem dX12_link_188 : decode cX12_link 188 = .ok (.istore 6, 2) := by decide +kernel
theorem dX12_link_190 : decode cX12_link 190 = .ok (.aload_n 0, 1) := by decide +kernel
theorem dX12_link_191 : decode cX12_link 191 = .ok (.iload 4, 2) := by decide +kernel
theorem dX12_link_193 : decode cX12_link 193 = .ok (.ifCond .ne 7, 3) := by decide +kernel
theorem dX12_link_196 : decode cX12_link 196 = .ok (.iconst 1, 1) := by decide +kernel
theorem dX12_link_197 : decode cX12_link 197 = .ok (.goto 22, 3) := by decide +kernel
theorem dX12_link_200 : decode cX12_link 200 = .ok (.iload_n 1, 1) := by decide +kernel
theorem dX12_link_201 : decode cX12_link 201 = .ok (.iload_n 2, 1) := by decide +kernel
theorem dX12_link_202 : decode cX12_link 202 = .ok (.if_icmp .ne 7, 3) := by decide +kernel
theorem dX12_link_205 : decode cX12_link 205 = .ok (.iconst 2, 1) := by decide +kernel
theorem dX12_link_206 : decode cX12_link 206 = .ok (.goto 13, 3) := by decide +kernel
theorem dX12_link_209 : decode cX12_link 209 = .ok (.iload 6, 2) := by decide +kernel
theorem dX12_link_211 : decode cX12_link 211 = .ok (.ifCond .eq 7, 3) := by decide +kernel
theorem dX12_link_214 : decode cX12_link 214 = .ok (.iconst 3, 1) := by decide +kernel
theorem dX12_link_215 : decode cX12_link 215 = .ok (.goto 4, 3) := by decide +kernel
theorem dX12_link_218 : decode cX12_link 218 = .ok (.iconst 0, 1) := by decide +kernel
theorem dX12_link_219 : decode cX12_link 219 = .ok (.invokevirtual 61, 3) := by decide +kernel
theorem dX12_link_222 : decode cX12_link 222 = .ok (.ifCond .eq 5, 3) := by decide +kernel
theorem dX12_link_225 : decode cX12_link 225 = .ok (.iconst (-1), 1) := by decide +kernel
theorem dX12_link_226 : decode cX12_link 226 = .ok (.ireturn, 1) := by decide +kernel
theorem dX12_link_227 : decode cX12_link 227 = .ok (.aload_n 0, 1) := by decide +kernel
theorem dX12_link_228 : decode cX12_link 228 = .ok (.getfield 7, 3) := by decide +kernel
theorem dX12_link_231 : decode cX12_link 231 = .ok (.sipush 1544, 3) := by decide +kernel
theorem dX12_link_234 : decode cX12_link 234 = .ok (.laload, 1) := by decide +kernel
theorem dX12_link_235 : decode cX12_link 235 = .ok (.l2i, 1) := by decide +kernel
theorem dX12_link_236 : decode cX12_link 236 = .ok (.istore 7, 2) := by decide +kernel
theorem dX12_link_238 : decode cX12_link 238 = .ok (.aload_n 0, 1) := by decide +kernel
theorem dX12_link_239 : decode cX12_link 239 = .ok (.getfield 7, 3) := by decide +kernel
theorem dX12_link_242 : decode cX12_link 242 = .ok (.sipush 890, 3) := by decide +kernel
theorem dX12_link_245 : decode cX12_link 245 = .ok (.iload 7, 2) := by decide +kernel
theorem dX12_link_247 : decode cX12_link 247 = .ok (.iadd, 1) := by decide +kernel
theorem dX12_link_248 : decode cX12_link 248 = .ok (.iload_n 1, 1) := by decide +kernel
theorem dX12_link_249 : decode cX12_link 249 = .ok (.i2l, 1) := by decide +kernel
theorem dX12_link_250 : decode cX12_link 250 = .ok (.lastore, 1) := by decide +kernel
theorem dX12_link_251 : decode cX12_link 251 = .ok (.aload_n 0, 1) := by decide +kernel
theorem dX12_link_252 : decode cX12_link 252 = .ok (.getfield 7, 3) := by decide +kernel
theorem dX12_link_255 : decode cX12_link 255 = .ok (.sipush 900, 3) := by decide +kernel
theorem dX12_link_258 : decode cX12_link 258 = .ok (.iload 7, 2) := by decide +kernel
theorem dX12_link_260 : decode cX12_link 260 = .ok (.iadd, 1) := by decide +kernel
theorem dX12_link_261 : decode cX12_link 261 = .ok (.iload_n 2, 1) := by decide +kernel
theorem dX12_link_262 : decode cX12_link 262 = .ok (.i2l, 1) := by decide +kernel
theorem dX12_link_263 : decode cX12_link 263 = .ok (.lastore, 1) := by decide +kernel
theorem dX12_link_264 : decode cX12_link 264 = .ok (.aload_n 0, 1) := by decide +kernel
theorem dX12_link_265 : decode cX12_link 265 = .ok (.getfield 7, 3) := by decide +kernel
theorem dX12_link_268 : decode cX12_link 268 = .ok (.sipush 910, 3) := by decide +kernel
theorem dX12_link_271 : decode cX12_link 271 = .ok (.iload 7, 2) := by decide +kernel
theorem dX12_link_273 : decode cX12_link 273 = .ok (.iadd, 1) := by decide +kernel
theorem dX12_link_274 : decode cX12_link 274 = .ok (.iload_n 3, 1) := by decide +kernel
theorem dX12_link_275 : decode cX12_link 275 = .ok (.ifCond .eq 7, 3) := by decide +kernel
theorem dX12_link_278 : decode cX12_link 278 = .ok (.lconst 1, 1) := by decide +kernel
theorem dX12_link_279 : decode cX12_link 279 = .ok (.goto 4, 3) := by decide +kernel
theorem dX12_link_282 : decode cX12_link 282 = .ok (.lconst 0, 1) := by decide +kernel
theorem dX12_link_283 : decode cX12_link 283 = .ok (.lastore, 1) := by decide +kernel
theorem dX12_link_284 : decode cX12_link 284 = .ok (.aload_n 0, 1) := by decide +kernel
theorem dX12_link_285 : decode cX12_link 285 = .ok (.getfield 7, 3) := by decide +kernel
theorem dX12_link_288 : decode cX12_link 288 = .ok (.sipush 1544, 3) := by decide +kernel
theorem dX12_link_291 : decode cX12_link 291 = .ok (.dup2, 1) := by decide +kernel
theorem dX12_link_292 : decode cX12_link 292 = .ok (.laload, 1) := by decide +kernel
theorem dX12_link_293 : decode cX12_link 293 = .ok (.lconst 1, 1) := by decide +kernel
theorem dX12_link_294 : decode cX12_link 294 = .ok (.ladd, 1) := by decide +kernel
theorem dX12_link_295 : decode cX12_link 295 = .ok (.lastore, 1) := by decide +kernel
theorem dX12_link_296 : decode cX12_link 296 = .ok (.iload 7, 2) := by decide +kernel
theorem dX12_link_298 : decode cX12_link 298 = .ok (.iconst 1, 1) := by decide +kernel
theorem dX12_link_299 : decode cX12_link 299 = .ok (.iadd, 1) := by decide +kernel
theorem dX12_link_300 : decode cX12_link 300 = .ok (.ireturn, 1) := by decide +kernel
theorem dX12_due_0 : decode cX12_due 0 = .ok (.aload_n 0, 1) := by decide +kernel
theorem dX12_due_1 : decode cX12_due 1 = .ok (.getfield 7, 3) := by decide +kernel
theorem dX12_due_4 : decode cX12_due 4 = .ok (.sipush 870, 3) := by decide +kernel
theorem dX12_due_7 : decode cX12_due 7 = .ok (.iload_n 1, 1) := by decide +kernel
theorem dX12_due_8 : decode cX12_due 8 = .ok (.iadd, 1) := by decide +kernel
theorem dX12_due_9 : decode cX12_due 9 = .ok (.laload, 1) := by decide +kernel
theorem dX12_due_10 : decode cX12_due 10 = .ok (.lconst 0, 1) := by decide +kernel
theorem dX12_due_11 : decode cX12_due 11 = .ok (.lcmp, 1) := by decide +kernel
theorem dX12_due_12 : decode cX12_due 12 = .ok (.ifCond .ne 39, 3) := by decide +kernel
theorem dX12_due_15 : decode cX12_due 15 = .ok (.aload_n 0, 1) := by decide +kernel
theorem dX12_due_16 : decode cX12_due 16 = .ok (.getfield 7, 3) := by decide +kernel
theorem dX12_due_19 : decode cX12_due 19 = .ok (.sipush 450, 3) := by decide +kernel
theorem dX12_due_22 : decode cX12_due 22 = .ok (.aload_n 0, 1) := by decide +kernel
theorem dX12_due_23 : decode cX12_due 23 = .ok (.getfield 7, 3) := by decide +kernel
theorem dX12_due_26 : decode cX12_due 26 = .ok (.sipush 730, 3) := by decide +kernel
theorem dX12_due_29 : decode cX12_due 29 = .ok (.iload_n 1, 1) := by decide +kernel
theorem dX12_due_30 : decode cX12_due 30 = .ok (.iadd, 1) := by decide +kernel
theorem dX12_due_31 : decode cX12_due 31 = .ok (.laload, 1) := by decide +kernel
theorem dX12_due_32 : decode cX12_due 32 = .ok (.l2i, 1) := by decide +kernel
theorem dX12_due_33 : decode cX12_due 33 = .ok (.iadd, 1) := by decide +kernel
theorem dX12_due_34 : decode cX12_due 34 = .ok (.laload, 1) := by decide +kernel
theorem dX12_due_35 : decode cX12_due 35 = .ok (.aload_n 0, 1) := by decide +kernel
theorem dX12_due_36 : decode cX12_due 36 = .ok (.getfield 7, 3) := by decide +kernel
theorem dX12_due_39 : decode cX12_due 39 = .ok (.sipush 1547, 3) := by decide +kernel
theorem dX12_due_42 : decode cX12_due 42 = .ok (.laload, 1) := by decide +kernel
theorem dX12_due_43 : decode cX12_due 43 = .ok (.lcmp, 1) := by decide +kernel
theorem dX12_due_44 : decode cX12_due 44 = .ok (.ifCond .gt 7, 3) := by decide +kernel
theorem dX12_due_47 : decode cX12_due 47 = .ok (.iconst 1, 1) := by decide +kernel
theorem dX12_due_48 : decode cX12_due 48 = .ok (.goto 4, 3) := by decide +kernel
theorem dX12_due_51 : decode cX12_due 51 = .ok (.iconst 0, 1) := by decide +kernel
theorem dX12_due_52 : decode cX12_due 52 = .ok (.ireturn, 1) := by decide +kernel
theorem dX12_heldUp_0 : decode cX12_heldUp 0 = .ok (.aload_n 0, 1) := by decide +kernel
theorem dX12_heldUp_1 : decode cX12_heldUp 1 = .ok (.getfield 7, 3) := by decide +kernel
theorem dX12_heldUp_4 : decode cX12_heldUp 4 = .ok (.sipush 610, 3) := by decide +kernel
theorem dX12_heldUp_7 : decode cX12_heldUp 7 = .ok (.aload_n 0, 1) := by decide +kernel
theorem dX12_heldUp_8 : decode cX12_heldUp 8 = .ok (.getfield 7, 3) := by decide +kernel
theorem dX12_heldUp_11 : decode cX12_heldUp 11 = .ok (.sipush 730, 3) := by decide +kernel
theorem dX12_heldUp_14 : decode cX12_heldUp 14 = .ok (.iload_n 1, 1) := by decide +kernel
theorem dX12_heldUp_15 : decode cX12_heldUp 15 = .ok (.iadd, 1) := by decide +kernel
theorem dX12_heldUp_16 : decode cX12_heldUp 16 = .ok (.laload, 1) := by decide +kernel
theorem dX12_heldUp_17 : decode cX12_heldUp 17 = .ok (.l2i, 1) := by decide +kernel
theorem dX12_heldUp_18 : decode cX12_heldUp 18 = .ok (.iadd, 1) := by decide +kernel
theorem dX12_heldUp_19 : decode cX12_heldUp 19 = .ok (.laload, 1) := by decide +kernel
theorem dX12_heldUp_20 : decode cX12_heldUp 20 = .ok (.lconst 1, 1) := by decide +kernel
theorem dX12_heldUp_21 : decode cX12_heldUp 21 = .ok (.lcmp, 1) := by decide +kernel
theorem dX12_heldUp_22 : decode cX12_heldUp 22 = .ok (.ifCond .eq 28, 3) := by decide +kernel
theorem dX12_heldUp_25 : decode cX12_heldUp 25 = .ok (.aload_n 0, 1) := by decide +kernel
theorem dX12_heldUp_26 : decode cX12_heldUp 26 = .ok (.getfield 7, 3) := by decide +kernel
theorem dX12_heldUp_29 : decode cX12_heldUp 29 = .ok (.sipush 610, 3) := by decide +kernel
theorem dX12_heldUp_32 : decode cX12_heldUp 32 = .ok (.aload_n 0, 1) := by decide +kernel
theorem dX12_heldUp_33 : decode cX12_heldUp 33 = .ok (.getfield 7, 3) := by decide +kernel
theorem dX12_heldUp_36 : decode cX12_heldUp 36 = .ok (.sipush 750, 3) := by decide +kernel
theorem dX12_heldUp_39 : decode cX12_heldUp 39 = .ok (.iload_n 1, 1) := by decide +kernel
theorem dX12_heldUp_40 : decode cX12_heldUp 40 = .ok (.iadd, 1) := by decide +kernel
theorem dX12_heldUp_41 : decode cX12_heldUp 41 = .ok (.laload, 1) := by decide +kernel
theorem dX12_heldUp_42 : decode cX12_heldUp 42 = .ok (.l2i, 1) := by decide +kernel
theorem dX12_heldUp_43 : decode cX12_heldUp 43 = .ok (.iadd, 1) := by decide +kernel
theorem dX12_heldUp_44 : decode cX12_heldUp 44 = .ok (.laload, 1) := by decide +kernel
theorem dX12_heldUp_45 : decode cX12_heldUp 45 = .ok (.lconst 1, 1) := by decide +kernel
theorem dX12_heldUp_46 : decode cX12_heldUp 46 = .ok (.lcmp, 1) := by decide +kernel
theorem dX12_heldUp_47 : decode cX12_heldUp 47 = .ok (.ifCond .ne 7, 3) := by decide +kernel
theorem dX12_heldUp_50 : decode cX12_heldUp 50 = .ok (.iconst 1, 1) := by decide +kernel
theorem dX12_heldUp_51 : decode cX12_heldUp 51 = .ok (.goto 4, 3) := by decide +kernel
theorem dX12_heldUp_54 : decode cX12_heldUp 54 = .ok (.iconst 0, 1) := by decide +kernel
theorem dX12_heldUp_55 : decode cX12_heldUp 55 = .ok (.ireturn, 1) := by decide +kernel
theorem dX12_linked_0 : decode cX12_linked 0 = .ok (.iconst 0, 1) := by decide +kernel
theorem dX12_linked_1 : decode cX12_linked 1 = .ok (.istore_n 2, 1) := by decide +kernel
theorem dX12_linked_2 : decode cX12_linked 2 = .ok (.iconst 0, 1) := by decide +kernel
theorem dX12_linked_3 : decode cX12_linked 3 = .ok (.istore_n 3, 1) := by decide +kernel
theorem dX12_linked_4 : decode cX12_linked 4 = .ok (.iload_n 3, 1) := by decide +kernel
theorem dX12_linked_5 : decode cX12_linked 5 = .ok (.i2l, 1) := by decide +kernel
theorem dX12_linked_6 : decode cX12_linked 6 = .ok (.aload_n 0, 1) := by decide +kernel
theorem dX12_linked_7 : decode cX12_linked 7 = .ok (.getfield 7, 3) := by decide +kernel
theorem dX12_linked_10 : decode cX12_linked 10 = .ok (.sipush 1544, 3) := by decide +kernel
theorem dX12_linked_13 : decode cX12_linked 13 = .ok (.laload, 1) := by decide +kernel
theorem dX12_linked_14 : decode cX12_linked 14 = .ok (.lcmp, 1) := by decide +kernel
theorem dX12_linked_15 : decode cX12_linked 15 = .ok (.ifCond .ge 49, 3) := by decide +kernel
theorem dX12_linked_18 : decode cX12_linked 18 = .ok (.iload_n 2, 1) := by decide +kernel
theorem dX12_linked_19 : decode cX12_linked 19 = .ok (.aload_n 0, 1) := by decide +kernel
theorem dX12_linked_20 : decode cX12_linked 20 = .ok (.getfield 7, 3) := by decide +kernel
theorem dX12_linked_23 : decode cX12_linked 23 = .ok (.sipush 890, 3) := by decide +kernel
theorem dX12_linked_26 : decode cX12_linked 26 = .ok (.iload_n 3, 1) := by decide +kernel
theorem dX12_linked_27 : decode cX12_linked 27 = .ok (.iadd, 1) := by decide +kernel
theorem dX12_linked_28 : decode cX12_linked 28 = .ok (.laload, 1) := by decide +kernel
theorem dX12_linked_29 : decode cX12_linked 29 = .ok (.iload_n 1, 1) := by decide +kernel
theorem dX12_linked_30 : decode cX12_linked 30 = .ok (.i2l, 1) := by decide +kernel
theorem dX12_linked_31 : decode cX12_linked 31 = .ok (.lcmp, 1) := by decide +kernel
theorem dX12_linked_32 : decode cX12_linked 32 = .ok (.ifCond .eq 19, 3) := by decide +kernel
theorem dX12_linked_35 : decode cX12_linked 35 = .ok (.aload_n 0, 1) := by decide +kernel
theorem dX12_linked_36 : decode cX12_linked 36 = .ok (.getfield 7, 3) := by decide +kernel
theorem dX12_linked_39 : decode cX12_linked 39 = .ok (.sipush 900, 3) := by decide +kernel
theorem dX12_linked_42 : decode cX12_linked 42 = .ok (.iload_n 3, 1) := by decide +kernel
theorem dX12_linked_43 : decode cX12_linked 43 = .ok (.iadd, 1) := by decide +kernel
theorem dX12_linked_44 : decode cX12_linked 44 = .ok (.laload, 1) := by decide +kernel
theorem dX12_linked_45 : decode cX12_linked 45 = .ok (.iload_n 1, 1) := by decide +kernel
theorem dX12_linked_46 : decode cX12_linked 46 = .ok (.i2l, 1) := by decide +kernel
theorem dX12_linked_47 : decode cX12_linked 47 = .ok (.lcmp, 1) := by decide +kernel
theorem dX12_linked_48 : decode cX12_linked 48 = .ok (.ifCond .ne 7, 3) := by decide +kernel
theorem dX12_linked_51 : decode cX12_linked 51 = .ok (.iconst 1, 1) := by decide +kernel
theorem dX12_linked_52 : decode cX12_linked 52 = .ok (.goto 4, 3) := by decide +kernel
theorem dX12_linked_55 : decode cX12_linked 55 = .ok (.iconst 0, 1) := by decide +kernel
theorem dX12_linked_56 : decode cX12_linked 56 = .ok (.ior, 1) := by decide +kernel
theorem dX12_linked_57 : decode cX12_linked 57 = .ok (.istore_n 2, 1) := by decide +kernel
theorem dX12_linked_58 : decode cX12_linked 58 = .ok (.iinc 3 1, 3) := by decide +kernel
theorem dX12_linked_61 : decode cX12_linked 61 = .ok (.goto (-57), 3) := by decide +kernel
theorem dX12_linked_64 : decode cX12_linked 64 = .ok (.iload_n 2, 1) := by decide +kernel
theorem dX12_linked_65 : decode cX12_linked 65 = .ok (.ireturn, 1) := by decide +kernel
theorem dX12_candidates_0 : decode cX12_candidates 0 = .ok (.aload_n 0, 1) := by decide +kernel
theorem dX12_candidates_1 : decode cX12_candidates 1 = .ok (.iconst 0, 1) := by decide +kernel
theorem dX12_candidates_2 : decode cX12_candidates 2 = .ok (.putfield 129, 3) := by decide +kernel
theorem dX12_candidates_5 : decode cX12_candidates 5 = .ok (.iconst 0, 1) := by decide +kernel
theorem dX12_candidates_6 : decode cX12_candidates 6 = .ok (.istore_n 1, 1) := by decide +kernel
theorem dX12_candidates_7 : decode cX12_candidates 7 = .ok (.iload_n 1, 1) := by decide +kernel
theorem dX12_candidates_8 : decode cX12_candidates 8 = .ok (.i2l, 1) := by decide +kernel
theorem dX12_candidates_9 : decode cX12_candidates 9 = .ok (.aload_n 0, 1) := by decide +kernel
theorem dX12_candidates_10 : decode cX12_candidates 10 = .ok (.getfield 7, 3) := by decide +kernel
theorem dX12_candidates_13 : decode cX12_candidates 13 = .ok (.sipush 1543, 3) := by decide +kernel
theorem dX12_candidates_16 : decode cX12_candidates 16 = .ok (.laload, 1) := by decide +kernel
theorem dX12_candidates_17 : decode cX12_candidates 17 = .ok (.lcmp, 1) := by decide +kernel
theorem dX12_candidates_18 : decode cX12_candidates 18 = .ok (.ifCond .ge 36, 3) := by decide +kernel
theorem dX12_candidates_21 : decode cX12_candidates 21 = .ok (.aload_n 0, 1) := by decide +kernel
theorem dX12_candidates_22 : decode cX12_candidates 22 = .ok (.getfield 23, 3) := by decide +kernel
theorem dX12_candidates_25 : decode cX12_candidates 25 = .ok (.iload_n 1, 1) := by decide +kernel
theorem dX12_candidates_26 : decode cX12_candidates 26 = .ok (.aload_n 0, 1) := by decide +kernel
theorem dX12_candidates_27 : decode cX12_candidates 27 = .ok (.iload_n 1, 1) := by decide +kernel
theorem dX12_candidates_28 : decode cX12_candidates 28 = .ok (.invokevirtual 132, 3) := by decide +kernel
theorem dX12_candidates_31 : decode cX12_candidates 31 = .ok (.ifCond .eq 15, 3) := by decide +kernel
theorem dX12_candidates_34 : decode cX12_candidates 34 = .ok (.aload_n 0, 1) := by decide +kernel
theorem dX12_candidates_35 : decode cX12_candidates 35 = .ok (.iload_n 1, 1) := by decide +kernel
theorem dX12_candidates_36 : decode cX12_candidates 36 = .ok (.invokevirtual 135, 3) := by decide +kernel
theorem dX12_candidates_39 : decode cX12_candidates 39 = .ok (.ifCond .ne 7, 3) := by decide +kernel
theorem dX12_candidates_42 : decode cX12_candidates 42 = .ok (.iconst 0, 1) := by decide +kernel
theorem dX12_candidates_43 : decode cX12_candidates 43 = .ok (.goto 4, 3) := by decide +kernel
theorem dX12_candidates_46 : decode cX12_candidates 46 = .ok (.iconst 1, 1) := by decide +kernel
theorem dX12_candidates_47 : decode cX12_candidates 47 = .ok (.iastore, 1) := by decide +kernel
theorem dX12_candidates_48 : decode cX12_candidates 48 = .ok (.iinc 1 1, 3) := by decide +kernel
theorem dX12_candidates_51 : decode cX12_candidates 51 = .ok (.goto (-44), 3) := by decide +kernel
theorem dX12_candidates_54 : decode cX12_candidates 54 = .ok (.iconst 0, 1) := by decide +kernel
theorem dX12_candidates_55 : decode cX12_candidates 55 = .ok (.istore_n 1, 1) := by decide +kernel
theorem dX12_candidates_56 : decode cX12_candidates 56 = .ok (.iload_n 1, 1) := by decide +kernel
theorem dX12_candidates_57 : decode cX12_candidates 57 = .ok (.ifCond .lt 145, 3) := by decide +kernel
theorem dX12_candidates_60 : decode cX12_candidates 60 = .ok (.aload_n 0, 1) := by decide +kernel
theorem dX12_candidates_61 : decode cX12_candidates 61 = .ok (.getfield 129, 3) := by decide +kernel
theorem dX12_candidates_64 : decode cX12_candidates 64 = .ok (.bipush 10, 2) := by decide +kernel
theorem dX12_candidates_66 : decode cX12_candidates 66 = .ok (.if_icmp .ge 136, 3) := by decide +kernel
theorem dX12_candidates_69 : decode cX12_candidates 69 = .ok (.iconst (-1), 1) := by decide +kernel
theorem dX12_candidates_70 : decode cX12_candidates 70 = .ok (.istore_n 1, 1) := by decide +kernel
theorem dX12_candidates_71 : decode cX12_candidates 71 = .ok (.iconst 0, 1) := by decide +kernel
theorem dX12_candidates_72 : decode cX12_candidates 72 = .ok (.istore_n 2, 1) := by decide +kernel
theorem dX12_candidates_73 : decode cX12_candidates 73 = .ok (.iload_n 2, 1) := by decide +kernel
theorem dX12_candidates_74 : decode cX12_candidates 74 = .ok (.i2l, 1) := by decide +kernel
theorem dX12_candidates_75 : decode cX12_candidates 75 = .ok (.aload_n 0, 1) := by decide +kernel
theorem dX12_candidates_76 : decode cX12_candidates 76 = .ok (.getfield 7, 3) := by decide +kernel
theorem dX12_candidates_79 : decode cX12_candidates 79 = .ok (.sipush 1543, 3) := by decide +kernel
theorem dX12_candidates_82 : decode cX12_candidates 82 = .ok (.laload, 1) := by decide +kernel
theorem dX12_candidates_83 : decode cX12_candidates 83 = .ok (.lcmp, 1) := by decide +kernel
theorem dX12_candidates_84 : decode cX12_candidates 84 = .ok (.ifCond .ge 84, 3) := by decide +kernel
theorem dX12_candidates_87 : decode cX12_candidates 87 = .ok (.aload_n 0, 1) := by decide +kernel
theorem dX12_candidates_88 : decode cX12_candidates 88 = .ok (.getfield 23, 3) := by decide +kernel
theorem dX12_candidates_91 : decode cX12_candidates 91 = .ok (.iload_n 2, 1) := by decide +kernel
theorem dX12_candidates_92 : decode cX12_candidates 92 = .ok (.iaload, 1) := by decide +kernel
theorem dX12_candidates_93 : decode cX12_candidates 93 = .ok (.ifCond .ne 57, 3) := by decide +kernel
theorem dX12_candidates_96 : decode cX12_candidates 96 = .ok (.iload_n 1, 1) := by decide +kernel
theorem dX12_candidates_97 : decode cX12_candidates 97 = .ok (.ifCond .lt 49, 3) := by decide +kernel
theorem dX12_candidates_100 : decode cX12_candidates 100 = .ok (.aload_n 0, 1) := by decide +kernel
theorem dX12_candidates_101 : decode cX12_candidates 101 = .ok (.getfield 7, 3) := by decide +kernel
theorem dX12_candidates_104 : decode cX12_candidates 104 = .ok (.sipush 810, 3) := by decide +kernel
theorem dX12_candidates_107 : decode cX12_candidates 107 = .ok (.iload_n 2, 1) := by decide +kernel
theorem dX12_candidates_108 : decode cX12_candidates 108 = .ok (.iadd, 1) := by decide +kernel
theorem dX12_candidates_109 : decode cX12_candidates 109 = .ok (.laload, 1) := by decide +kernel
theorem dX12_candidates_110 : decode cX12_candidates 110 = .ok (.aload_n 0, 1) := by decide +kernel
theorem dX12_candidates_111 : decode cX12_candidates 111 = .ok (.getfield 7, 3) := by decide +kernel
theorem dX12_candidates_114 : decode cX12_candidates 114 = .ok (.sipush 850, 3) := by decide +kernel
theorem dX12_candidates_117 : decode cX12_candidates 117 = .ok (.iload_n 2, 1) := by decide +kernel
theorem dX12_candidates_118 : decode cX12_candidates 118 = .ok (.iadd, 1) := by decide +kernel
theorem dX12_candidates_119 : decode cX12_candidates 119 = .ok (.laload, 1) := by decide +kernel
theorem dX12_candidates_120 : decode cX12_candidates 120 = .ok (.ladd, 1) := by decide +kernel
theorem dX12_candidates_121 : decode cX12_candidates 121 = .ok (.aload_n 0, 1) := by decide +kernel
theorem dX12_candidates_122 : decode cX12_candidates 122 = .ok (.getfield 7, 3) := by decide +kernel
theorem dX12_candidates_125 : decode cX12_candidates 125 = .ok (.sipush 810, 3) := by decide +kernel
theorem dX12_candidates_128 : decode cX12_candidates 128 = .ok (.iload_n 1, 1) := by decide +kernel
theorem dX12_candidates_129 : decode cX12_candidates 129 = .ok (.iadd, 1) := by decide +kernel
theorem dX12_candidates_130 : decode cX12_candidates 130 = .ok (.laload, 1) := by decide +kernel
theorem dX12_candidates_131 : decode cX12_candidates 131 = .ok (.aload_n 0, 1) := by decide +kernel
theorem dX12_candidates_132 : decode cX12_candidates 132 = .ok (.getfield 7, 3) := by decide +kernel
theorem dX12_candidates_135 : decode cX12_candidates 135 = .ok (.sipush 850, 3) := by decide +kernel
theorem dX12_candidates_138 : decode cX12_candidates 138 = .ok (.iload_n 1, 1) := by decide +kernel
theorem dX12_candidates_139 : decode cX12_candidates 139 = .ok (.iadd, 1) := by decide +kernel
theorem dX12_candidates_140 : decode cX12_candidates 140 = .ok (.laload, 1) := by decide +kernel
theorem dX12_candidates_141 : decode cX12_candidates 141 = .ok (.ladd, 1) := by decide +kernel
theorem dX12_candidates_142 : decode cX12_candidates 142 = .ok (.lcmp, 1) := by decide +kernel
theorem dX12_candidates_143 : decode cX12_candidates 143 = .ok (.ifCond .le 7, 3) := by decide +kernel
theorem dX12_candidates_146 : decode cX12_candidates 146 = .ok (.iconst 1, 1) := by decide +kernel
theorem dX12_candidates_147 : decode cX12_candidates 147 = .ok (.goto 4, 3) := by decide +kernel
theorem dX12_candidates_150 : decode cX12_candidates 150 = .ok (.iconst 0, 1) := by decide +kernel
theorem dX12_candidates_151 : decode cX12_candidates 151 = .ok (.istore_n 3, 1) := by decide +kernel
theorem dX12_candidates_152 : decode cX12_candidates 152 = .ok (.iload_n 3, 1) := by decide +kernel
theorem dX12_candidates_153 : decode cX12_candidates 153 = .ok (.ifCond .eq 7, 3) := by decide +kernel
theorem dX12_candidates_156 : decode cX12_candidates 156 = .ok (.iload_n 2, 1) := by decide +kernel
theorem dX12_candidates_157 : decode cX12_candidates 157 = .ok (.goto 4, 3) := by decide +kernel
theorem dX12_candidates_160 : decode cX12_candidates 160 = .ok (.iload_n 1, 1) := by decide +kernel
theorem dX12_candidates_161 : decode cX12_candidates 161 = .ok (.istore_n 1, 1) := by decide +kernel
theorem dX12_candidates_162 : decode cX12_candidates 162 = .ok (.iinc 2 1, 3) := by decide +kernel
theorem dX12_candidates_165 : decode cX12_candidates 165 = .ok (.goto (-92), 3) := by decide +kernel
theorem dX12_candidates_168 : decode cX12_candidates 168 = .ok (.iload_n 1, 1) := by decide +kernel
theorem dX12_candidates_169 : decode cX12_candidates 169 = .ok (.ifCond .lt (-113), 3) := by decide +kernel
theorem dX12_candidates_172 : decode cX12_candidates 172 = .ok (.aload_n 0, 1) := by decide +kernel
theorem dX12_candidates_173 : decode cX12_candidates 173 = .ok (.getfield 23, 3) := by decide +kernel
theorem dX12_candidates_176 : decode cX12_candidates 176 = .ok (.iload_n 1, 1) := by decide +kernel
theorem dX12_candidates_177 : decode cX12_candidates 177 = .ok (.iconst 1, 1) := by decide +kernel
theorem dX12_candidates_178 : decode cX12_candidates 178 = .ok (.iastore, 1) := by decide +kernel
theorem dX12_candidates_179 : decode cX12_candidates 179 = .ok (.aload_n 0, 1) := by decide +kernel
theorem dX12_candidates_180 : decode cX12_candidates 180 = .ok (.getfield 20, 3) := by decide +kernel
theorem dX12_candidates_183 : decode cX12_candidates 183 = .ok (.aload_n 0, 1) := by decide +kernel
theorem dX12_candidates_184 : decode cX12_candidates 184 = .ok (.getfield 129, 3) := by decide +kernel
theorem dX12_candidates_187 : decode cX12_candidates 187 = .ok (.iload_n 1, 1) := by decide +kernel
theorem dX12_candidates_188 : decode cX12_candidates 188 = .ok (.iastore, 1) := by decide +kernel
theorem dX12_candidates_189 : decode cX12_candidates 189 = .ok (.aload_n 0, 1) := by decide +kernel
theorem dX12_candidates_190 : decode cX12_candidates 190 = .ok (.dup, 1) := by decide +kernel
theorem dX12_candidates_191 : decode cX12_candidates 191 = .ok (.getfield 129, 3) := by decide +kernel
theorem dX12_candidates_194 : decode cX12_candidates 194 = .ok (.iconst 1, 1) := by decide +kernel
theorem dX12_candidates_195 : decode cX12_candidates 195 = .ok (.iadd, 1) := by decide +kernel
theorem dX12_candidates_196 : decode cX12_candidates 196 = .ok (.putfield 129, 3) := by decide +kernel
theorem dX12_candidates_199 : decode cX12_candidates 199 = .ok (.goto (-143), 3) := by decide +kernel
theorem dX12_candidates_202 : decode cX12_candidates 202 = .ok (.return_, 1) := by decide +kernel
theorem dX12_move_0 : decode cX12_move 0 = .ok (.aload_n 0, 1) := by decide +kernel
theorem dX12_move_1 : decode cX12_move 1 = .ok (.iload_n 1, 1) := by decide +kernel
theorem dX12_move_2 : decode cX12_move 2 = .ok (.invokevirtual 101, 3) := by decide +kernel
theorem dX12_move_5 : decode cX12_move 5 = .ok (.istore 6, 2) := by decide +kernel
theorem dX12_move_7 : decode cX12_move 7 = .ok (.aload_n 0, 1) := by decide +kernel
theorem dX12_move_8 : decode cX12_move 8 = .ok (.getfield 7, 3) := by decide +kernel
theorem dX12_move_11 : decode cX12_move 11 = .ok (.bipush 100, 2) := by decide +kernel
theorem dX12_move_13 : decode cX12_move 13 = .ok (.iconst 4, 1) := by decide +kernel
theorem dX12_move_14 : decode cX12_move 14 = .ok (.aload_n 0, 1) := by decide +kernel
theorem dX12_move_15 : decode cX12_move 15 = .ok (.iload_n 1, 1) := by decide +kernel
theorem dX12_move_16 : decode cX12_move 16 = .ok (.invokevirtual 94, 3) := by decide +kernel
theorem dX12_move_19 : decode cX12_move 19 = .ok (.imul, 1) := by decide +kernel
theorem dX12_move_20 : decode cX12_move 20 = .ok (.iadd, 1) := by decide +kernel
theorem dX12_move_21 : decode cX12_move 21 = .ok (.iload 6, 2) := by decide +kernel
theorem dX12_move_23 : decode cX12_move 23 = .ok (.iadd, 1) := by decide +kernel
theorem dX12_move_24 : decode cX12_move 24 = .ok (.dup2, 1) := by decide +kernel
theorem dX12_move_25 : decode cX12_move 25 = .ok (.laload, 1) := by decide +kernel
theorem dX12_move_26 : decode cX12_move 26 = .ok (.lload_n 2, 1) := by decide +kernel
theorem dX12_move_27 : decode cX12_move 27 = .ok (.lsub, 1) := by decide +kernel
theorem dX12_move_28 : decode cX12_move 28 = .ok (.lastore, 1) := by decide +kernel
theorem dX12_move_29 : decode cX12_move 29 = .ok (.aload_n 0, 1) := by decide +kernel
theorem dX12_move_30 : decode cX12_move 30 = .ok (.getfield 7, 3) := by decide +kernel
theorem dX12_move_33 : decode cX12_move 33 = .ok (.bipush 100, 2) := by decide +kernel
theorem dX12_move_35 : decode cX12_move 35 = .ok (.iconst 4, 1) := by decide +kernel
theorem dX12_move_36 : decode cX12_move 36 = .ok (.aload_n 0, 1) := by decide +kernel
theorem dX12_move_37 : decode cX12_move 37 = .ok (.iload_n 1, 1) := by decide +kernel
theorem dX12_move_38 : decode cX12_move 38 = .ok (.invokevirtual 98, 3) := by decide +kernel
theorem dX12_move_41 : decode cX12_move 41 = .ok (.imul, 1) := by decide +kernel
theorem dX12_move_42 : decode cX12_move 42 = .ok (.iadd, 1) := by decide +kernel
theorem dX12_move_43 : decode cX12_move 43 = .ok (.iload 6, 2) := by decide +kernel
theorem dX12_move_45 : decode cX12_move 45 = .ok (.iadd, 1) := by decide +kernel
theorem dX12_move_46 : decode cX12_move 46 = .ok (.dup2, 1) := by decide +kernel
theorem dX12_move_47 : decode cX12_move 47 = .ok (.laload, 1) := by decide +kernel
theorem dX12_move_48 : decode cX12_move 48 = .ok (.lload_n 2, 1) := by decide +kernel
theorem dX12_move_49 : decode cX12_move 49 = .ok (.ladd, 1) := by decide +kernel
theorem dX12_move_50 : decode cX12_move 50 = .ok (.lastore, 1) := by decide +kernel
theorem dX12_move_51 : decode cX12_move 51 = .ok (.aload_n 0, 1) := by decide +kernel
theorem dX12_move_52 : decode cX12_move 52 = .ok (.getfield 7, 3) := by decide +kernel
theorem dX12_move_55 : decode cX12_move 55 = .ok (.bipush 30, 2) := by decide +kernel
theorem dX12_move_57 : decode cX12_move 57 = .ok (.aload_n 0, 1) := by decide +kernel
theorem dX12_move_58 : decode cX12_move 58 = .ok (.iload_n 1, 1) := by decide +kernel
theorem dX12_move_59 : decode cX12_move 59 = .ok (.invokevirtual 94, 3) := by decide +kernel
theorem dX12_move_62 : decode cX12_move 62 = .ok (.iadd, 1) := by decide +kernel
theorem dX12_move_63 : decode cX12_move 63 = .ok (.dup2, 1) := by decide +kernel
theorem dX12_move_64 : decode cX12_move 64 = .ok (.laload, 1) := by decide +kernel
theorem dX12_move_65 : decode cX12_move 65 = .ok (.lload 4, 2) := by decide +kernel
theorem dX12_move_67 : decode cX12_move 67 = .ok (.ladd, 1) := by decide +kernel
theorem dX12_move_68 : decode cX12_move 68 = .ok (.lastore, 1) := by decide +kernel
theorem dX12_move_69 : decode cX12_move 69 = .ok (.aload_n 0, 1) := by decide +kernel
theorem dX12_move_70 : decode cX12_move 70 = .ok (.getfield 7, 3) := by decide +kernel
theorem dX12_move_73 : decode cX12_move 73 = .ok (.bipush 30, 2) := by decide +kernel
theorem dX12_move_75 : decode cX12_move 75 = .ok (.aload_n 0, 1) := by decide +kernel
theorem dX12_move_76 : decode cX12_move 76 = .ok (.iload_n 1, 1) := by decide +kernel
theorem dX12_move_77 : decode cX12_move 77 = .ok (.invokevirtual 98, 3) := by decide +kernel
theorem dX12_move_80 : decode cX12_move 80 = .ok (.iadd, 1) := by decide +kernel
theorem dX12_move_81 : decode cX12_move 81 = .ok (.dup2, 1) := by decide +kernel
theorem dX12_move_82 : decode cX12_move 82 = .ok (.laload, 1) := by decide +kernel
theorem dX12_move_83 : decode cX12_move 83 = .ok (.lload 4, 2) := by decide +kernel
theorem dX12_move_85 : decode cX12_move 85 = .ok (.lsub, 1) := by decide +kernel
theorem dX12_move_86 : decode cX12_move 86 = .ok (.lastore, 1) := by decide +kernel
theorem dX12_move_87 : decode cX12_move 87 = .ok (.return_, 1) := by decide +kernel
theorem dX12_has_0 : decode cX12_has 0 = .ok (.aload_n 0, 1) := by decide +kernel
theorem dX12_has_1 : decode cX12_has 1 = .ok (.getfield 7, 3) := by decide +kernel
theorem dX12_has_4 : decode cX12_has 4 = .ok (.sipush 870, 3) := by decide +kernel
theorem dX12_has_7 : decode cX12_has 7 = .ok (.iload_n 2, 1) := by decide +kernel
theorem dX12_has_8 : decode cX12_has 8 = .ok (.iadd, 1) := by decide +kernel
theorem dX12_has_9 : decode cX12_has 9 = .ok (.laload, 1) := by decide +kernel
theorem dX12_has_10 : decode cX12_has 10 = .ok (.lconst 1, 1) := by decide +kernel
theorem dX12_has_11 : decode cX12_has 11 = .ok (.lcmp, 1) := by decide +kernel
theorem dX12_has_12 : decode cX12_has 12 = .ok (.ifCond .ne 7, 3) := by decide +kernel
theorem dX12_has_15 : decode cX12_has 15 = .ok (.iconst 1, 1) := by decide +kernel
theorem dX12_has_16 : decode cX12_has 16 = .ok (.goto 4, 3) := by decide +kernel
theorem dX12_has_19 : decode cX12_has 19 = .ok (.iconst 0, 1) := by decide +kernel
theorem dX12_has_20 : decode cX12_has 20 = .ok (.istore_n 3, 1) := by decide +kernel
theorem dX12_has_21 : decode cX12_has 21 = .ok (.iconst 0, 1) := by decide +kernel
theorem dX12_has_22 : decode cX12_has 22 = .ok (.istore 4, 2) := by decide +kernel
theorem dX12_has_24 : decode cX12_has 24 = .ok (.iload 4, 2) := by decide +kernel
theorem dX12_has_26 : decode cX12_has 26 = .ok (.aload_n 0, 1) := by decide +kernel
theorem dX12_has_27 : decode cX12_has 27 = .ok (.getfield 129, 3) := by decide +kernel
theorem dX12_has_30 : decode cX12_has 30 = .ok (.if_icmp .ge 38, 3) := by decide +kernel
theorem dX12_has_33 : decode cX12_has 33 = .ok (.iload_n 3, 1) := by decide +kernel
theorem dX12_has_34 : decode cX12_has 34 = .ok (.aload_n 0, 1) := by decide +kernel
theorem dX12_has_35 : decode cX12_has 35 = .ok (.getfield 20, 3) := by decide +kernel
theorem dX12_has_38 : decode cX12_has 38 = .ok (.iload 4, 2) := by decide +kernel
theorem dX12_has_40 : decode cX12_has 40 = .ok (.iaload, 1) := by decide +kernel
theorem dX12_has_41 : decode cX12_has 41 = .ok (.iload_n 2, 1) := by decide +kernel
theorem dX12_has_42 : decode cX12_has 42 = .ok (.if_icmp .ne 17, 3) := by decide +kernel
theorem dX12_has_45 : decode cX12_has 45 = .ok (.iload_n 1, 1) := by decide +kernel
theorem dX12_has_46 : decode cX12_has 46 = .ok (.iload 4, 2) := by decide +kernel
theorem dX12_has_48 : decode cX12_has 48 = .ok (.ishr, 1) := by decide +kernel
theorem dX12_has_49 : decode cX12_has 49 = .ok (.iconst 1, 1) := by decide +kernel
theorem dX12_has_50 : decode cX12_has 50 = .ok (.iand, 1) := by decide +kernel
theorem dX12_has_51 : decode cX12_has 51 = .ok (.iconst 1, 1) := by decide +kernel
theorem dX12_has_52 : decode cX12_has 52 = .ok (.if_icmp .ne 7, 3) := by decide +kernel
theorem dX12_has_55 : decode cX12_has 55 = .ok (.iconst 1, 1) := by decide +kernel
theorem dX12_has_56 : decode cX12_has 56 = .ok (.goto 4, 3) := by decide +kernel
theorem dX12_has_59 : decode cX12_has 59 = .ok (.iconst 0, 1) := by decide +kernel
theorem dX12_has_60 : decode cX12_has 60 = .ok (.ior, 1) := by decide +kernel
theorem dX12_has_61 : decode cX12_has 61 = .ok (.istore_n 3, 1) := by decide +kernel
theorem dX12_has_62 : decode cX12_has 62 = .ok (.iinc 4 1, 3) := by decide +kernel
theorem dX12_has_65 : decode cX12_has 65 = .ok (.goto (-41), 3) := by decide +kernel
theorem dX12_has_68 : decode cX12_has 68 = .ok (.iload_n 3, 1) := by decide +kernel
theorem dX12_has_69 : decode cX12_has 69 = .ok (.ireturn, 1) := by decide +kernel
