theorem dX11_lend_0 : decode cX11_lend 0 = .ok (.aload_n 0, 1) := by decide +kernel
theorem dX11_lend_1 : decode cX11_lend 1 = .ok (.iload_n 1, 1) := by decide +kernel
theorem dX11_lend_2 : decode cX11_lend 2 = .ok (.invokevirtual 48, 3) := by decide +kernel
theorem dX11_lend_5 : decode cX11_lend 5 = .ok (.aload_n 0, 1) := by decide +kernel
theorem dX11_lend_6 : decode cX11_lend 6 = .ok (.getfield 21, 3) := by decide +kernel
theorem dX11_lend_9 : decode cX11_lend 9 = .ok (.iload_n 1, 1) := by decide +kernel
theorem dX11_lend_10 : decode cX11_lend 10 = .ok (.invokevirtual 57, 3) := by decide +kernel
theorem dX11_lend_13 : decode cX11_lend 13 = .ok (.astore_n 2, 1) := by decide +kernel
theorem dX11_lend_14 : decode cX11_lend 14 = .ok (.aload_n 2, 1) := by decide +kernel
theorem dX11_lend_15 : decode cX11_lend 15 = .ok (.aload_n 2, 1) := by decide +kernel
theorem dX11_lend_16 : decode cX11_lend 16 = .ok (.getfield 87, 3) := by decide +kernel
theorem dX11_lend_19 : decode cX11_lend 19 = .ok (.ifCond .ne 7, 3) := by decide +kernel
theorem dX11_lend_22 : decode cX11_lend 22 = .ok (.iconst 1, 1) := by decide +kernel
theorem dX11_lend_23 : decode cX11_lend 23 = .ok (.goto 4, 3) := by decide +kernel
theorem dX11_lend_26 : decode cX11_lend 26 = .ok (.iconst 0, 1) := by decide +kernel
theorem dX11_lend_27 : decode cX11_lend 27 = .ok (.putfield 87, 3) := by decide +kernel
theorem dX11_lend_30 : decode cX11_lend 30 = .ok (.aload_n 2, 1) := by decide +kernel
theorem dX11_lend_31 : decode cX11_lend 31 = .ok (.getfield 87, 3) := by decide +kernel
theorem dX11_lend_34 : decode cX11_lend 34 = .ok (.ireturn, 1) := by decide +kernel
theorem dX11_relieve_0 : decode cX11_relieve 0 = .ok (.aload_n 0, 1) := by decide +kernel
theorem dX11_relieve_1 : decode cX11_relieve 1 = .ok (.iload_n 1, 1) := by decide +kernel
theorem dX11_relieve_2 : decode cX11_relieve 2 = .ok (.invokevirtual 48, 3) := by decide +kernel
theorem dX11_relieve_5 : decode cX11_relieve 5 = .ok (.aload_n 0, 1) := by decide +kernel
theorem dX11_relieve_6 : decode cX11_relieve 6 = .ok (.getfield 21, 3) := by decide +kernel
theorem dX11_relieve_9 : decode cX11_relieve 9 = .ok (.iload_n 1, 1) := by decide +kernel
theorem dX11_relieve_10 : decode cX11_relieve 10 = .ok (.invokevirtual 57, 3) := by decide +kernel
theorem dX11_relieve_13 : decode cX11_relieve 13 = .ok (.astore_n 2, 1) := by decide +kernel
theorem dX11_relieve_14 : decode cX11_relieve 14 = .ok (.aload_n 2, 1) := by decide +kernel
theorem dX11_relieve_15 : decode cX11_relieve 15 = .ok (.aload_n 2, 1) := by decide +kernel
theorem dX11_relieve_16 : decode cX11_relieve 16 = .ok (.getfield 90, 3) := by decide +kernel
theorem dX11_relieve_19 : decode cX11_relieve 19 = .ok (.ifCond .ne 7, 3) := by decide +kernel
theorem dX11_relieve_22 : decode cX11_relieve 22 = .ok (.iconst 1, 1) := by decide +kernel
theorem dX11_relieve_23 : decode cX11_relieve 23 = .ok (.goto 4, 3) := by decide +kernel
theorem dX11_relieve_26 : decode cX11_relieve 26 = .ok (.iconst 0, 1) := by decide +kernel
theorem dX11_relieve_27 : decode cX11_relieve 27 = .ok (.putfield 90, 3) := by decide +kernel
theorem dX11_relieve_30 : decode cX11_relieve 30 = .ok (.aload_n 2, 1) := by decide +kernel
theorem dX11_relieve_31 : decode cX11_relieve 31 = .ok (.getfield 90, 3) := by decide +kernel
theorem dX11_relieve_34 : decode cX11_relieve 34 = .ok (.ireturn, 1) := by decide +kernel
theorem dX11_treaty_0 : decode cX11_treaty 0 = .ok (.iload_n 1, 1) := by decide +kernel
theorem dX11_treaty_1 : decode cX11_treaty 1 = .ok (.iconst 0, 1) := by decide +kernel
theorem dX11_treaty_2 : decode cX11_treaty 2 = .ok (.iconst 2, 1) := by decide +kernel
theorem dX11_treaty_3 : decode cX11_treaty 3 = .ok (.invokestatic 52, 3) := by decide +kernel
theorem dX11_treaty_6 : decode cX11_treaty 6 = .ok (.iload_n 2, 1) := by decide +kernel
theorem dX11_treaty_7 : decode cX11_treaty 7 = .ok (.iconst 0, 1) := by decide +kernel
theorem dX11_treaty_8 : decode cX11_treaty 8 = .ok (.iconst 2, 1) := by decide +kernel
theorem dX11_treaty_9 : decode cX11_treaty 9 = .ok (.invokestatic 52, 3) := by decide +kernel
theorem dX11_treaty_12 : decode cX11_treaty 12 = .ok (.iload_n 3, 1) := by decide +kernel
theorem dX11_treaty_13 : decode cX11_treaty 13 = .ok (.iconst 0, 1) := by decide +kernel
theorem dX11_treaty_14 : decode cX11_treaty 14 = .ok (.bipush 30, 2) := by decide +kernel
theorem dX11_treaty_16 : decode cX11_treaty 16 = .ok (.invokestatic 52, 3) := by decide +kernel
theorem dX11_treaty_19 : decode cX11_treaty 19 = .ok (.aload_n 0, 1) := by decide +kernel
theorem dX11_treaty_20 : decode cX11_treaty 20 = .ok (.getfield 21, 3) := by decide +kernel
theorem dX11_treaty_23 : decode cX11_treaty 23 = .ok (.iload_n 1, 1) := by decide +kernel
theorem dX11_treaty_24 : decode cX11_treaty 24 = .ok (.iload_n 2, 1) := by decide +kernel
theorem dX11_treaty_25 : decode cX11_treaty 25 = .ok (.invokevirtual 93, 3) := by decide +kernel
theorem dX11_treaty_28 : decode cX11_treaty 28 = .ok (.istore 4, 2) := by decide +kernel
theorem dX11_treaty_30 : decode cX11_treaty 30 = .ok (.aload_n 0, 1) := by decide +kernel
theorem dX11_treaty_31 : decode cX11_treaty 31 = .ok (.getfield 21, 3) := by decide +kernel
theorem dX11_treaty_34 : decode cX11_treaty 34 = .ok (.iload_n 1, 1) := by decide +kernel
theorem dX11_treaty_35 : decode cX11_treaty 35 = .ok (.iload_n 2, 1) := by decide +kernel
theorem dX11_treaty_36 : decode cX11_treaty 36 = .ok (.iload_n 3, 1) := by decide +kernel
theorem dX11_treaty_37 : decode cX11_treaty 37 = .ok (.invokevirtual 97, 3) := by decide +kernel
theorem dX11_treaty_40 : decode cX11_treaty 40 = .ok (.iload 4, 2) := by decide +kernel
theorem dX11_treaty_42 : decode cX11_treaty 42 = .ok (.ireturn, 1) := by decide +kernel
theorem dX11_issue_0 : decode cX11_issue 0 = .ok (.aload_n 0, 1) := by decide +kernel
theorem dX11_issue_1 : decode cX11_issue 1 = .ok (.iload_n 1, 1) := by decide +kernel
theorem dX11_issue_2 : decode cX11_issue 2 = .ok (.invokevirtual 48, 3) := by decide +kernel
theorem dX11_issue_5 : decode cX11_issue 5 = .ok (.iload_n 2, 1) := by decide +kernel
theorem dX11_issue_6 : decode cX11_issue 6 = .ok (.iconst 0, 1) := by decide +kernel
theorem dX11_issue_7 : decode cX11_issue 7 = .ok (.iconst 2, 1) := by decide +kernel
theorem dX11_issue_8 : decode cX11_issue 8 = .ok (.invokestatic 52, 3) := by decide +kernel
theorem dX11_issue_11 : decode cX11_issue 11 = .ok (.iload_n 3, 1) := by decide +kernel
theorem dX11_issue_12 : decode cX11_issue 12 = .ok (.iconst 1, 1) := by decide +kernel
theorem dX11_issue_13 : decode cX11_issue 13 = .ok (.ldc 100, 2) := by decide +kernel
theorem dX11_issue_15 : decode cX11_issue 15 = .ok (.invokestatic 52, 3) := by decide +kernel
theorem dX11_issue_18 : decode cX11_issue 18 = .ok (.iload 4, 2) := by decide +kernel
theorem dX11_issue_20 : decode cX11_issue 20 = .ok (.iconst 1, 1) := by decide +kernel
theorem dX11_issue_21 : decode cX11_issue 21 = .ok (.sipush 1000, 3) := by decide +kernel
theorem dX11_issue_24 : decode cX11_issue 24 = .ok (.invokestatic 52, 3) := by decide +kernel
theorem dX11_issue_27 : decode cX11_issue 27 = .ok (.iload 5, 2) := by decide +kernel
theorem dX11_issue_29 : decode cX11_issue 29 = .ok (.iconst 0, 1) := by decide +kernel
theorem dX11_issue_30 : decode cX11_issue 30 = .ok (.sipush 500, 3) := by decide +kernel
theorem dX11_issue_33 : decode cX11_issue 33 = .ok (.invokestatic 52, 3) := by decide +kernel
theorem dX11_issue_36 : decode cX11_issue 36 = .ok (.aload_n 0, 1) := by decide +kernel
theorem dX11_issue_37 : decode cX11_issue 37 = .ok (.getfield 21, 3) := by decide +kernel
theorem dX11_issue_40 : decode cX11_issue 40 = .ok (.getfield 101, 3) := by decide +kernel
theorem dX11_issue_43 : decode cX11_issue 43 = .ok (.iconst 4, 1) := by decide +kernel
theorem dX11_issue_44 : decode cX11_issue 44 = .ok (.if_icmp .ge 7, 3) := by decide +kernel
theorem dX11_issue_47 : decode cX11_issue 47 = .ok (.iconst 1, 1) := by decide +kernel
theorem dX11_issue_48 : decode cX11_issue 48 = .ok (.goto 4, 3) := by decide +kernel
theorem dX11_issue_51 : decode cX11_issue 51 = .ok (.iconst 0, 1) := by decide +kernel
theorem dX11_issue_52 : decode cX11_issue 52 = .ok (.invokestatic 67, 3) := by decide +kernel
theorem dX11_issue_55 : decode cX11_issue 55 = .ok (.aload_n 0, 1) := by decide +kernel
theorem dX11_issue_56 : decode cX11_issue 56 = .ok (.getfield 21, 3) := by decide +kernel
theorem dX11_issue_59 : decode cX11_issue 59 = .ok (.getfield 101, 3) := by decide +kernel
theorem dX11_issue_62 : decode cX11_issue 62 = .ok (.istore 6, 2) := by decide +kernel
theorem dX11_issue_64 : decode cX11_issue 64 = .ok (.aload_n 0, 1) := by decide +kernel
theorem dX11_issue_65 : decode cX11_issue 65 = .ok (.getfield 21, 3) := by decide +kernel
theorem dX11_issue_68 : decode cX11_issue 68 = .ok (.iload 6, 2) := by decide +kernel
theorem dX11_issue_70 : decode cX11_issue 70 = .ok (.invokevirtual 104, 3) := by decide +kernel
theorem dX11_issue_73 : decode cX11_issue 73 = .ok (.astore 7, 2) := by decide +kernel
theorem dX11_issue_75 : decode cX11_issue 75 = .ok (.aload 7, 2) := by decide +kernel
theorem dX11_issue_77 : decode cX11_issue 77 = .ok (.iload_n 2, 1) := by decide +kernel
theorem dX11_issue_78 : decode cX11_issue 78 = .ok (.putfield 108, 3) := by decide +kernel
theorem dX11_issue_81 : decode cX11_issue 81 = .ok (.aload 7, 2) := by decide +kernel
theorem dX11_issue_83 : decode cX11_issue 83 = .ok (.iload 4, 2) := by decide +kernel
theorem dX11_issue_85 : decode cX11_issue 85 = .ok (.putfield 111, 3) := by decide +kernel
theorem dX11_issue_88 : decode cX11_issue 88 = .ok (.aload 7, 2) := by decide +kernel
theorem dX11_issue_90 : decode cX11_issue 90 = .ok (.iload 5, 2) := by decide +kernel
theorem dX11_issue_92 : decode cX11_issue 92 = .ok (.putfield 114, 3) := by decide +kernel
theorem dX11_issue_95 : decode cX11_issue 95 = .ok (.aload 7, 2) := by decide +kernel
theorem dX11_issue_97 : decode cX11_issue 97 = .ok (.iload_n 3, 1) := by decide +kernel
theorem dX11_issue_98 : decode cX11_issue 98 = .ok (.i2l, 1) := by decide +kernel
theorem dX11_issue_99 : decode cX11_issue 99 = .ok (.putfield 117, 3) := by decide +kernel
theorem dX11_issue_102 : decode cX11_issue 102 = .ok (.aload_n 0, 1) := by decide +kernel
theorem dX11_issue_103 : decode cX11_issue 103 = .ok (.getfield 21, 3) := by decide +kernel
theorem dX11_issue_106 : decode cX11_issue 106 = .ok (.iload 6, 2) := by decide +kernel
theorem dX11_issue_108 : decode cX11_issue 108 = .ok (.iconst 1, 1) := by decide +kernel
theorem dX11_issue_109 : decode cX11_issue 109 = .ok (.iadd, 1) := by decide +kernel
theorem dX11_issue_110 : decode cX11_issue 110 = .ok (.putfield 101, 3) := by decide +kernel
theorem dX11_issue_113 : decode cX11_issue 113 = .ok (.aload_n 0, 1) := by decide +kernel
theorem dX11_issue_114 : decode cX11_issue 114 = .ok (.getfield 21, 3) := by decide +kernel
theorem dX11_issue_117 : decode cX11_issue 117 = .ok (.iload_n 1, 1) := by decide +kernel
theorem dX11_issue_118 : decode cX11_issue 118 = .ok (.invokevirtual 57, 3) := by decide +kernel
theorem dX11_issue_121 : decode cX11_issue 121 = .ok (.iload 6, 2) := by decide +kernel
theorem dX11_issue_123 : decode cX11_issue 123 = .ok (.iload_n 3, 1) := by decide +kernel
theorem dX11_issue_124 : decode cX11_issue 124 = .ok (.i2l, 1) := by decide +kernel
theorem dX11_issue_125 : decode cX11_issue 125 = .ok (.aload_n 0, 1) := by decide +kernel
theorem dX11_issue_126 : decode cX11_issue 126 = .ok (.getfield 21, 3) := by decide +kernel
theorem dX11_issue_129 : decode cX11_issue 129 = .ok (.getfield 120, 3) := by decide +kernel
theorem dX11_issue_132 : decode cX11_issue 132 = .ok (.invokevirtual 123, 3) := by decide +kernel
theorem dX11_issue_135 : decode cX11_issue 135 = .ok (.iload 6, 2) := by decide +kernel
theorem dX11_issue_137 : decode cX11_issue 137 = .ok (.ireturn, 1) := by decide +kernel
theorem dX11_setPrice_0 : decode cX11_setPrice 0 = .ok (.aload_n 0, 1) := by decide +kernel
theorem dX11_setPrice_1 : decode cX11_setPrice 1 = .ok (.iload_n 1, 1) := by decide +kernel
theorem dX11_setPrice_2 : decode cX11_setPrice 2 = .ok (.invokevirtual 127, 3) := by decide +kernel
theorem dX11_setPrice_5 : decode cX11_setPrice 5 = .ok (.iload_n 2, 1) := by decide +kernel
theorem dX11_setPrice_6 : decode cX11_setPrice 6 = .ok (.iconst 1, 1) := by decide +kernel
theorem dX11_setPrice_7 : decode cX11_setPrice 7 = .ok (.sipush 1000, 3) := by decide +kernel
theorem dX11_setPrice_10 : decode cX11_setPrice 10 = .ok (.invokestatic 52, 3) := by decide +kernel
theorem dX11_setPrice_13 : decode cX11_setPrice 13 = .ok (.aload_n 0, 1) := by decide +kernel
theorem dX11_setPrice_14 : decode cX11_setPrice 14 = .ok (.getfield 21, 3) := by decide +kernel
theorem dX11_setPrice_17 : decode cX11_setPrice 17 = .ok (.iload_n 1, 1) := by decide +kernel
theorem dX11_setPrice_18 : decode cX11_setPrice 18 = .ok (.invokevirtual 104, 3) := by decide +kernel
theorem dX11_setPrice_21 : decode cX11_setPrice 21 = .ok (.astore_n 3, 1) := by decide +kernel
theorem dX11_setPrice_22 : decode cX11_setPrice 22 = .ok (.aload_n 3, 1) := by decide +kernel
theorem dX11_setPrice_23 : decode cX11_setPrice 23 = .ok (.getfield 111, 3) := by decide +kernel
theorem dX11_setPrice_26 : decode cX11_setPrice 26 = .ok (.istore 4, 2) := by decide +kernel
theorem dX11_setPrice_28 : decode cX11_setPrice 28 = .ok (.aload_n 3, 1) := by decide +kernel
theorem dX11_setPrice_29 : decode cX11_setPrice 29 = .ok (.iload_n 2, 1) := by decide +kernel
theorem dX11_setPrice_30 : decode cX11_setPrice 30 = .ok (.putfield 111, 3) := by decide +kernel
theorem dX11_setPrice_33 : decode cX11_setPrice 33 = .ok (.iload 4, 2) := by decide +kernel
theorem dX11_setPrice_35 : decode cX11_setPrice 35 = .ok (.ireturn, 1) := by decide +kernel
theorem dX11_block_0 : decode cX11_block 0 = .ok (.aload_n 0, 1) := by decide +kernel
theorem dX11_block_1 : decode cX11_block 1 = .ok (.iload_n 1, 1) := by decide +kernel
theorem dX11_block_2 : decode cX11_block 2 = .ok (.invokevirtual 48, 3) := by decide +kernel
theorem dX11_block_5 : decode cX11_block 5 = .ok (.aload_n 0, 1) := by decide +kernel
theorem dX11_block_6 : decode cX11_block 6 = .ok (.iload_n 2, 1) := by decide +kernel
theorem dX11_block_7 : decode cX11_block 7 = .ok (.invokevirtual 127, 3) := by decide +kernel
theorem dX11_block_10 : decode cX11_block 10 = .ok (.iload_n 3, 1) := by decide +kernel
theorem dX11_block_11 : decode cX11_block 11 = .ok (.ifCond .lt 7, 3) := by decide +kernel
theorem dX11_block_14 : decode cX11_block 14 = .ok (.iconst 1, 1) := by decide +kernel
theorem dX11_block_15 : decode cX11_block 15 = .ok (.goto 4, 3) := by decide +kernel
theorem dX11_block_18 : decode cX11_block 18 = .ok (.iconst 0, 1) := by decide +kernel
theorem dX11_block_19 : decode cX11_block 19 = .ok (.invokestatic 130, 3) := by decide +kernel
theorem dX11_block_22 : decode cX11_block 22 = .ok (.aload_n 0, 1) := by decide +kernel
theorem dX11_block_23 : decode cX11_block 23 = .ok (.getfield 21, 3) := by decide +kernel
theorem dX11_block_26 : decode cX11_block 26 = .ok (.iload_n 1, 1) := by decide +kernel
theorem dX11_block_27 : decode cX11_block 27 = .ok (.invokevirtual 57, 3) := by decide +kernel
theorem dX11_block_30 : decode cX11_block 30 = .ok (.astore 4, 2) := by decide +kernel
theorem dX11_block_32 : decode cX11_block 32 = .ok (.iload_n 3, 1) := by decide +kernel
theorem dX11_block_33 : decode cX11_block 33 = .ok (.i2l, 1) := by decide +kernel
theorem dX11_block_34 : decode cX11_block 34 = .ok (.aload 4, 2) := by decide +kernel
theorem dX11_block_36 : decode cX11_block 36 = .ok (.iload_n 2, 1) := by decide +kernel
theorem dX11_block_37 : decode cX11_block 37 = .ok (.invokevirtual 133, 3) := by decide +kernel
theorem dX11_block_40 : decode cX11_block 40 = .ok (.lcmp, 1) := by decide +kernel
theorem dX11_block_41 : decode cX11_block 41 = .ok (.ifCond .gt 7, 3) := by decide +kernel
theorem dX11_block_44 : decode cX11_block 44 = .ok (.iconst 1, 1) := by decide +kernel
theorem dX11_block_45 : decode cX11_block 45 = .ok (.goto 4, 3) := by decide +kernel
theorem dX11_block_48 : decode cX11_block 48 = .ok (.iconst 0, 1) := by decide +kernel
theorem dX11_block_49 : decode cX11_block 49 = .ok (.invokestatic 67, 3) := by decide +kernel
theorem dX11_block_52 : decode cX11_block 52 = .ok (.aload 4, 2) := by decide +kernel
theorem dX11_block_54 : decode cX11_block 54 = .ok (.iload_n 2, 1) := by decide +kernel
theorem dX11_block_55 : decode cX11_block 55 = .ok (.invokevirtual 137, 3) := by decide +kernel
theorem dX11_block_58 : decode cX11_block 58 = .ok (.lstore 5, 2) := by decide +kernel
theorem dX11_block_60 : decode cX11_block 60 = .ok (.aload 4, 2) := by decide +kernel
theorem dX11_block_62 : decode cX11_block 62 = .ok (.iload_n 2, 1) := by decide +kernel
theorem dX11_block_63 : decode cX11_block 63 = .ok (.iload_n 3, 1) := by decide +kernel
theorem dX11_block_64 : decode cX11_block 64 = .ok (.i2l, 1) := by decide +kernel
theorem dX11_block_65 : decode cX11_block 65 = .ok (.invokevirtual 140, 3) := by decide +kernel
theorem dX11_block_68 : decode cX11_block 68 = .ok (.lload 5, 2) := by decide +kernel
theorem dX11_block_70 : decode cX11_block 70 = .ok (.lreturn, 1) := by decide +kernel
theorem dX11_bring_0 : decode cX11_bring 0 = .ok (.aload_n 0, 1) := by decide +kernel
theorem dX11_bring_1 : decode cX11_bring 1 = .ok (.iload_n 1, 1) := by decide +kernel
theorem dX11_bring_2 : decode cX11_bring 2 = .ok (.invokevirtual 48, 3) := by decide +kernel
theorem dX11_bring_5 : decode cX11_bring 5 = .ok (.iload_n 2, 1) := by decide +kernel
theorem dX11_bring_6 : decode cX11_bring 6 = .ok (.ldc 144, 2) := by decide +kernel
theorem dX11_bring_8 : decode cX11_bring 8 = .ok (.ldc 56, 2) := by decide +kernel
theorem dX11_bring_10 : decode cX11_bring 10 = .ok (.invokestatic 52, 3) := by decide +kernel
theorem dX11_bring_13 : decode cX11_bring 13 = .ok (.aload_n 0, 1) := by decide +kernel
theorem dX11_bring_14 : decode cX11_bring 14 = .ok (.getfield 21, 3) := by decide +kernel
theorem dX11_bring_17 : decode cX11_bring 17 = .ok (.iload_n 1, 1) := by decide +kernel
theorem dX11_bring_18 : decode cX11_bring 18 = .ok (.invokevirtual 57, 3) := by decide +kernel
theorem dX11_bring_21 : decode cX11_bring 21 = .ok (.astore_n 3, 1) := by decide +kernel
theorem dX11_bring_22 : decode cX11_bring 22 = .ok (.aload_n 3, 1) := by decide +kernel
theorem dX11_bring_23 : decode cX11_bring 23 = .ok (.dup, 1) := by decide +kernel
theorem dX11_bring_24 : decode cX11_bring 24 = .ok (.getfield 80, 3) := by decide +kernel
theorem dX11_bring_27 : decode cX11_bring 27 = .ok (.iload_n 2, 1) := by decide +kernel
theorem dX11_bring_28 : decode cX11_bring 28 = .ok (.i2l, 1) := by decide +kernel
theorem dX11_bring_29 : decode cX11_bring 29 = .ok (.ladd, 1) := by decide +kernel
theorem dX11_bring_30 : decode cX11_bring 30 = .ok (.putfield 80, 3) := by decide +kernel
theorem dX11_bring_33 : decode cX11_bring 33 = .ok (.iload_n 2, 1) := by decide +kernel
theorem dX11_bring_34 : decode cX11_bring 34 = .ok (.ifCond .ge 14, 3) := by decide +kernel
theorem dX11_bring_37 : decode cX11_bring 37 = .ok (.aload_n 0, 1) := by decide +kernel
theorem dX11_bring_38 : decode cX11_bring 38 = .ok (.getfield 21, 3) := by decide +kernel
theorem dX11_bring_41 : decode cX11_bring 41 = .ok (.iload_n 1, 1) := by decide +kernel
theorem dX11_bring_42 : decode cX11_bring 42 = .ok (.invokevirtual 145, 3) := by decide +kernel
theorem dX11_bring_45 : decode cX11_bring 45 = .ok (.ifCond .eq 7, 3) := by decide +kernel
theorem dX11_bring_48 : decode cX11_bring 48 = .ok (.iconst 1, 1) := by decide +kernel
theorem dX11_bring_49 : decode cX11_bring 49 = .ok (.goto 4, 3) := by decide +kernel
theorem dX11_bring_52 : decode cX11_bring 52 = .ok (.iconst 0, 1) := by decide +kernel
theorem dX11_bring_53 : decode cX11_bring 53 = .ok (.istore 4, 2) := by decide +kernel
theorem dX11_bring_55 : decode cX11_bring 55 = .ok (.iload 4, 2) := by decide +kernel
theorem dX11_bring_57 : decode cX11_bring 57 = .ok (.ifCond .ne 14, 3) := by decide +kernel
theorem dX11_bring_60 : decode cX11_bring 60 = .ok (.aload_n 3, 1) := by decide +kernel
theorem dX11_bring_61 : decode cX11_bring 61 = .ok (.dup, 1) := by decide +kernel
theorem dX11_bring_62 : decode cX11_bring 62 = .ok (.getfield 80, 3) := by decide +kernel
theorem dX11_bring_65 : decode cX11_bring 65 = .ok (.iload_n 2, 1) := by decide +kernel
theorem dX11_bring_66 : decode cX11_bring 66 = .ok (.i2l, 1) := by decide +kernel
theorem dX11_bring_67 : decode cX11_bring 67 = .ok (.lsub, 1) := by decide +kernel
theorem dX11_bring_68 : decode cX11_bring 68 = .ok (.putfield 80, 3) := by decide +kernel
theorem dX11_bring_71 : decode cX11_bring 71 = .ok (.iload 4, 2) := by decide +kernel
theorem dX11_bring_73 : decode cX11_bring 73 = .ok (.invokestatic 67, 3) := by decide +kernel
theorem dX11_bring_76 : decode cX11_bring 76 = .ok (.aload_n 3, 1) := by decide +kernel
theorem dX11_bring_77 : decode cX11_bring 77 = .ok (.getfield 80, 3) := by decide +kernel
theorem dX11_bring_80 : decode cX11_bring 80 = .ok (.lreturn, 1) := by decide +kernel
theorem dX11_instruct_0 : decode cX11_instruct 0 = .ok (.aload_n 0, 1) := by decide +kernel
theorem dX11_instruct_1 : decode cX11_instruct 1 = .ok (.iload_n 1, 1) := by decide +kernel
theorem dX11_instruct_2 : decode cX11_instruct 2 = .ok (.invokevirtual 48, 3) := by decide +kernel
theorem dX11_instruct_5 : decode cX11_instruct 5 = .ok (.aload_n 0, 1) := by decide +kernel
theorem dX11_instruct_6 : decode cX11_instruct 6 = .ok (.iload_n 2, 1) := by decide +kernel
theorem dX11_instruct_7 : decode cX11_instruct 7 = .ok (.invokevirtual 48, 3) := by decide +kernel
theorem dX11_instruct_10 : decode cX11_instruct 10 = .ok (.aload_n 0, 1) := by decide +kernel
theorem dX11_instruct_11 : decode cX11_instruct 11 = .ok (.iload 4, 2) := by decide +kernel
theorem dX11_instruct_13 : decode cX11_instruct 13 = .ok (.invokevirtual 127, 3) := by decide +kernel
theorem dX11_instruct_16 : decode cX11_instruct 16 = .ok (.iload_n 1, 1) := by decide +kernel
theorem dX11_instruct_17 : decode cX11_instruct 17 = .ok (.iload_n 2, 1) := by decide +kernel
theorem dX11_instruct_18 : decode cX11_instruct 18 = .ok (.if_icmp .eq 7, 3) := by decide +kernel
theorem dX11_instruct_21 : decode cX11_instruct 21 = .ok (.iconst 1, 1) := by decide +kernel
theorem dX11_instruct_22 : decode cX11_instruct 22 = .ok (.goto 4, 3) := by decide +kernel
theorem dX11_instruct_25 : decode cX11_instruct 25 = .ok (.iconst 0, 1) := by decide +kernel
theorem dX11_instruct_26 : decode cX11_instruct 26 = .ok (.invokestatic 130, 3) := by decide +kernel
theorem dX11_instruct_29 : decode cX11_instruct 29 = .ok (.iload 5, 2) := by decide +kernel
theorem dX11_instruct_31 : decode cX11_instruct 31 = .ok (.iconst 1, 1) := by decide +kernel
theorem dX11_instruct_32 : decode cX11_instruct 32 = .ok (.ldc 100, 2) := by decide +kernel
theorem dX11_instruct_34 : decode cX11_instruct 34 = .ok (.invokestatic 52, 3) := by decide +kernel
theorem dX11_instruct_37 : decode cX11_instruct 37 = .ok (.iload 6, 2) := by decide +kernel
theorem dX11_instruct_39 : decode cX11_instruct 39 = .ok (.iconst 0, 1) := by decide +kernel
theorem dX11_instruct_40 : decode cX11_instruct 40 = .ok (.ldc 149, 2) := by decide +kernel
theorem dX11_instruct_42 : decode cX11_instruct 42 = .ok (.invokestatic 52, 3) := by decide +kernel
theorem dX11_instruct_45 : decode cX11_instruct 45 = .ok (.iload 7, 2) := by decide +kernel
theorem dX11_instruct_47 : decode cX11_instruct 47 = .ok (.aload_n 0, 1) := by decide +kernel
theorem dX11_instruct_48 : decode cX11_instruct 48 = .ok (.getfield 21, 3) := by decide +kernel
theorem dX11_instruct_51 : decode cX11_instruct 51 = .ok (.getfield 150, 3) := by decide +kernel
theorem dX11_instruct_54 : decode cX11_instruct 54 = .ok (.sipush 2000, 3) := by decide +kernel
theorem dX11_instruct_57 : decode cX11_instruct 57 = .ok (.invokestatic 52, 3) := by decide +kernel
theorem dX11_instruct_60 : decode cX11_instruct 60 = .ok (.iload 8, 2) := by decide +kernel
theorem dX11_instruct_62 : decode cX11_instruct 62 = .ok (.iconst 0, 1) := by decide +kernel
theorem dX11_instruct_63 : decode cX11_instruct 63 = .ok (.bipush 9, 2) := by decide +kernel
theorem dX11_instruct_65 : decode cX11_instruct 65 = .ok (.invokestatic 52, 3) := by decide +kernel
theorem dX11_instruct_68 : decode cX11_instruct 68 = .ok (.iload 9, 2) := by decide +kernel
theorem dX11_instruct_70 : decode cX11_instruct 70 = .ok (.iconst 0, 1) := by decide +kernel
theorem dX11_instruct_71 : decode cX11_instruct 71 = .ok (.iload 5, 2) := by decide +kernel
theorem dX11_instruct_73 : decode cX11_instruct 73 = .ok (.invokestatic 52, 3) := by decide +kernel
theorem dX11_instruct_76 : decode cX11_instruct 76 = .ok (.aload_n 0, 1) := by decide +kernel
theorem dX11_instruct_77 : decode cX11_instruct 77 = .ok (.getfield 21, 3) := by decide +kernel
theorem dX11_instruct_80 : decode cX11_instruct 80 = .ok (.getfield 153, 3) := by decide +kernel
theorem dX11_instruct_83 : decode cX11_instruct 83 = .ok (.bipush 40, 2) := by decide +kernel
theorem dX11_instruct_85 : decode cX11_instruct 85 = .ok (.if_icmp .ge 7, 3) := by decide +kernel
theorem dX11_instruct_88 : decode cX11_instruct 88 = .ok (.iconst 1, 1) := by decide +kernel
theorem dX11_instruct_89 : decode cX11_instruct 89 = .ok (.goto 4, 3) := by decide +kernel
theorem dX11_instruct_92 : decode cX11_instruct 92 = .ok (.iconst 0, 1) := by decide +kernel
theorem dX11_instruct_93 : decode cX11_instruct 93 = .ok (.invokestatic 67, 3) := by decide +kernel
theorem dX11_instruct_96 : decode cX11_instruct 96 = .ok (.aload_n 0, 1) := by decide +kernel
theorem dX11_instruct_97 : decode cX11_instruct 97 = .ok (.getfield 21, 3) := by decide +kernel
theorem dX11_instruct_100 : decode cX11_instruct 100 = .ok (.getfield 153, 3) := by decide +kernel
theorem dX11_instruct_103 : decode cX11_instruct 103 = .ok (.istore 10, 2) := by decide +kernel
theorem dX11_instruct_105 : decode cX11_instruct 105 = .ok (.aload_n 0, 1) := by decide +kernel
theorem dX11_instruct_106 : decode cX11_instruct 106 = .ok (.getfield 21, 3) := by decide +kernel
theorem dX11_instruct_109 : decode cX11_instruct 109 = .ok (.iload 10, 2) := by decide +kernel
theorem dX11_instruct_111 : decode cX11_instruct 111 = .ok (.invokevirtual 156, 3) := by decide +kernel
theorem dX11_instruct_114 : decode cX11_instruct 114 = .ok (.astore 11, 2) := by decide +kernel
theorem dX11_instruct_116 : decode cX11_instruct 116 = .ok (.aload 11, 2) := by decide +kernel
theorem dX11_instruct_118 : decode cX11_instruct 118 = .ok (.iload_n 1, 1) := by decide +kernel
theorem dX11_instruct_119 : decode cX11_instruct 119 = .ok (.putfield 160, 3) := by decide +kernel
theorem dX11_instruct_122 : decode cX11_instruct 122 = .ok (.aload 11, 2) := by decide +kernel
theorem dX11_instruct_124 : decode cX11_instruct 124 = .ok (.iload_n 2, 1) := by decide +kernel
theorem dX11_instruct_125 : decode cX11_instruct 125 = .ok (.putfield 164, 3) := by decide +kernel
theorem dX11_instruct_128 : decode cX11_instruct 128 = .ok (.aload 11, 2) := by decide +kernel
theorem dX11_instruct_130 : decode cX11_instruct 130 = .ok (.iload_n 3, 1) := by decide +kernel
theorem dX11_instruct_131 : decode cX11_instruct 131 = .ok (.putfield 167, 3) := by decide +kernel
theorem dX11_instruct_134 : decode cX11_instruct 134 = .ok (.aload 11, 2) := by decide +kernel
theorem dX11_instruct_136 : decode cX11_instruct 136 = .ok (.iload 4, 2) := by decide +kernel
theorem dX11_instruct_138 : decode cX11_instruct 138 = .ok (.putfield 170, 3) := by decide +kernel
theorem dX11_instruct_141 : decode cX11_instruct 141 = .ok (.aload 11, 2) := by decide +kernel
theorem dX11_instruct_143 : decode cX11_instruct 143 = .ok (.iload 5, 2) := by decide +kernel
theorem dX11_instruct_145 : decode cX11_instruct 145 = .ok (.putfield 172, 3) := by decide +kernel
theorem dX11_instruct_148 : decode cX11_instruct 148 = .ok (.aload 11, 2) := by decide +kernel
theorem dX11_instruct_150 : decode cX11_instruct 150 = .ok (.iload 6, 2) := by decide +kernel
theorem dX11_instruct_152 : decode cX11_instruct 152 = .ok (.putfield 175, 3) := by decide +kernel
theorem dX11_instruct_155 : decode cX11_instruct 155 = .ok (.aload 11, 2) := by decide +kernel
theorem dX11_instruct_157 : decode cX11_instruct 157 = .ok (.iload 7, 2) := by decide +kernel
theorem dX11_instruct_159 : decode cX11_instruct 159 = .ok (.putfield 178, 3) := by decide +kernel
theorem dX11_instruct_162 : decode cX11_instruct 162 = .ok (.aload 11, 2) := by decide +kernel
theorem dX11_instruct_164 : decode cX11_instruct 164 = .ok (.iload 8, 2) := by decide +kernel
theorem dX11_instruct_166 : decode cX11_instruct 166 = .ok (.putfield 181, 3) := by decide +kernel
theorem dX11_instruct_169 : decode cX11_instruct 169 = .ok (.aload 11, 2) := by decide +kernel
theorem dX11_instruct_171 : decode cX11_instruct 171 = .ok (.iload 9, 2) := by decide +kernel
theorem dX11_instruct_173 : decode cX11_instruct 173 = .ok (.putfield 184, 3) := by decide +kernel
theorem dX11_instruct_176 : decode cX11_instruct 176 = .ok (.aload_n 0, 1) := by decide +kernel
theorem dX11_instruct_177 : decode cX11_instruct 177 = .ok (.getfield 21, 3) := by decide +kernel
theorem dX11_instruct_180 : decode cX11_instruct 180 = .ok (.aload 11, 2) := by decide +kernel
theorem dX11_instruct_182 : decode cX11_instruct 182 = .ok (.iload 6, 2) := by decide +kernel
theorem dX11_instruct_184 : decode cX11_instruct 184 = .ok (.invokevirtual 187, 3) := by decide +kernel
theorem dX11_instruct_187 : decode cX11_instruct 187 = .ok (.istore 12, 2) := by decide +kernel
theorem dX11_instruct_189 : decode cX11_instruct 189 = .ok (.iload 12, 2) := by decide +kernel
theorem dX11_instruct_191 : decode cX11_instruct 191 = .ok (.iconst (-1), 1) := by decide +kernel
theorem dX11_instruct_192 : decode cX11_instruct 192 = .ok (.if_icmp .eq 15, 3) := by decide +kernel
theorem dX11_instruct_195 : decode cX11_instruct 195 = .ok (.aload_n 0, 1) := by decide +kernel
theorem dX11_instruct_196 : decode cX11_instruct 196 = .ok (.getfield 21, 3) := by decide +kernel
theorem dX11_instruct_199 : decode cX11_instruct 199 = .ok (.getfield 191, 3) := by decide +kernel
theorem dX11_instruct_202 : decode cX11_instruct 202 = .ok (.bipush 20, 2) := by decide +kernel
theorem dX11_instruct_204 : decode cX11_instruct 204 = .ok (.if_icmp .ge 7, 3) := by decide +kernel
theorem dX11_instruct_207 : decode cX11_instruct 207 = .ok (.iconst 1, 1) := by decide +kernel
theorem dX11_instruct_208 : decode cX11_instruct 208 = .ok (.goto 4, 3) := by decide +kernel
theorem dX11_instruct_211 : decode cX11_instruct 211 = .ok (.iconst 0, 1) := by decide +kernel
theorem dX11_instruct_212 : decode cX11_instruct 212 = .ok (.invokestatic 67, 3) := by decide +kernel
theorem dX11_instruct_215 : decode cX11_instruct 215 = .ok (.aload_n 0, 1) := by decide +kernel
theorem dX11_instruct_216 : decode cX11_instruct 216 = .ok (.getfield 21, 3) := by decide +kernel
theorem dX11_instruct_219 : decode cX11_instruct 219 = .ok (.iload 10, 2) := by decide +kernel
theorem dX11_instruct_221 : decode cX11_instruct 221 = .ok (.iconst 1, 1) := by decide +kernel
theorem dX11_instruct_222 : decode cX11_instruct 222 = .ok (.iadd, 1) := by decide +kernel
theorem dX11_instruct_223 : decode cX11_instruct 223 = .ok (.putfield 153, 3) := by decide +kernel
theorem dX11_instruct_226 : decode cX11_instruct 226 = .ok (.iload 12, 2) := by decide +kernel
theorem dX11_instruct_228 : decode cX11_instruct 228 = .ok (.iconst (-1), 1) := by decide +kernel
theorem dX11_instruct_229 : decode cX11_instruct 229 = .ok (.if_icmp .eq 15, 3) := by decide +kernel
theorem dX11_instruct_232 : decode cX11_instruct 232 = .ok (.aload_n 0, 1) := by decide +kernel
theorem dX11_instruct_233 : decode cX11_instruct 233 = .ok (.getfield 21, 3) := by decide +kernel
theorem dX11_instruct_236 : decode cX11_instruct 236 = .ok (.iload 10, 2) := by decide +kernel
theorem dX11_instruct_238 : decode cX11_instruct 238 = .ok (.iload 12, 2) := by decide +kernel
theorem dX11_instruct_240 : decode cX11_instruct 240 = .ok (.invokevirtual 194, 3) := by decide +kernel
theorem dX11_instruct_243 : decode cX11_instruct 243 = .ok (.pop, 1) := by decide +kernel
theorem dX11_instruct_244 : decode cX11_instruct 244 = .ok (.iload 10, 2) := by decide +kernel
theorem dX11_instruct_246 : decode cX11_instruct 246 = .ok (.ireturn, 1) := by decide +kernel
theorem dX11_amend_0 : decode cX11_amend 0 = .ok (.aload_n 0, 1) := by decide +kernel
theorem dX11_amend_1 : decode cX11_amend 1 = .ok (.iload_n 1, 1) := by decide +kernel
theorem dX11_amend_2 : decode cX11_amend 2 = .ok (.invokevirtual 197, 3) := by decide +kernel
theorem dX11_amend_5 : decode cX11_amend 5 = .ok (.iload_n 2, 1) := by decide +kernel
theorem dX11_amend_6 : decode cX11_amend 6 = .ok (.iconst 0, 1) := by decide +kernel
theorem dX11_amend_7 : decode cX11_amend 7 = .ok (.ldc 149, 2) := by decide +kernel
theorem dX11_amend_9 : decode cX11_amend 9 = .ok (.invokestatic 52, 3) := by decide +kernel
theorem dX11_amend_12 : decode cX11_amend 12 = .ok (.aload_n 0, 1) := by decide +kernel
theorem dX11_amend_13 : decode cX11_amend 13 = .ok (.getfield 21, 3) := by decide +kernel
theorem dX11_amend_16 : decode cX11_amend 16 = .ok (.iload_n 1, 1) := by decide +kernel
theorem dX11_amend_17 : decode cX11_amend 17 = .ok (.invokevirtual 156, 3) := by decide +kernel
theorem dX11_amend_20 : decode cX11_amend 20 = .ok (.astore_n 3, 1) := by decide +kernel
theorem dX11_amend_21 : decode cX11_amend 21 = .ok (.aload_n 3, 1) := by decide +kernel
theorem dX11_amend_22 : decode cX11_amend 22 = .ok (.getfield 200, 3) := by decide +kernel
theorem dX11_amend_25 : decode cX11_amend 25 = .ok (.ifCond .ne 7, 3) := by decide +kernel
theorem dX11_amend_28 : decode cX11_amend 28 = .ok (.iconst 1, 1) := by decide +kernel
theorem dX11_amend_29 : decode cX11_amend 29 = .ok (.goto 4, 3) := by decide +kernel
theorem dX11_amend_32 : decode cX11_amend 32 = .ok (.iconst 0, 1) := by decide +kernel
theorem dX11_amend_33 : decode cX11_amend 33 = .ok (.invokestatic 67, 3) := by decide +kernel
theorem dX11_amend_36 : decode cX11_amend 36 = .ok (.aload_n 0, 1) := by decide +kernel
theorem dX11_amend_37 : decode cX11_amend 37 = .ok (.getfield 21, 3) := by decide +kernel
theorem dX11_amend_40 : decode cX11_amend 40 = .ok (.aload_n 3, 1) := by decide +kernel
theorem dX11_amend_41 : decode cX11_amend 41 = .ok (.iload_n 2, 1) := by decide +kernel
theorem dX11_amend_42 : decode cX11_amend 42 = .ok (.invokevirtual 187, 3) := by decide +kernel
theorem dX11_amend_45 : decode cX11_amend 45 = .ok (.istore 4, 2) := by decide +kernel
theorem dX11_amend_47 : decode cX11_amend 47 = .ok (.iload 4, 2) := by decide +kernel
theorem dX11_amend_49 : decode cX11_amend 49 = .ok (.iconst (-1), 1) := by decide +kernel
theorem dX11_amend_50 : decode cX11_amend 50 = .ok (.if_icmp .eq 15, 3) := by decide +kernel
theorem dX11_amend_53 : decode cX11_amend 53 = .ok (.aload_n 0, 1) := by decide +kernel
theorem dX11_amend_54 : decode cX11_amend 54 = .ok (.getfield 21, 3) := by decide +kernel
theorem dX11_amend_57 : decode cX11_amend 57 = .ok (.getfield 191, 3) := by decide +kernel
theorem dX11_amend_60 : decode cX11_amend 60 = .ok (.bipush 20, 2) := by decide +kernel
theorem dX11_amend_62 : decode cX11_amend 62 = .ok (.if_icmp .ge 7, 3) := by decide +kernel
theorem dX11_amend_65 : decode cX11_amend 65 = .ok (.iconst 1, 1) := by decide +kernel
theorem dX11_amend_66 : decode cX11_amend 66 = .ok (.goto 4, 3) := by decide +kernel
theorem dX11_amend_69 : decode cX11_amend 69 = .ok (.iconst 0, 1) := by decide +kernel
theorem dX11_amend_70 : decode cX11_amend 70 = .ok (.invokestatic 67, 3) := by decide +kernel
theorem dX11_amend_73 : decode cX11_amend 73 = .ok (.aload_n 3, 1) := by decide +kernel
theorem dX11_amend_74 : decode cX11_amend 74 = .ok (.iload_n 2, 1) := by decide +kernel
theorem dX11_amend_75 : decode cX11_amend 75 = .ok (.putfield 175, 3) := by decide +kernel
theorem dX11_amend_78 : decode cX11_amend 78 = .ok (.iload 4, 2) := by decide +kernel
theorem dX11_amend_80 : decode cX11_amend 80 = .ok (.iconst (-1), 1) := by decide +kernel
theorem dX11_amend_81 : decode cX11_amend 81 = .ok (.if_icmp .ne 7, 3) := by decide +kernel
theorem dX11_amend_84 : decode cX11_amend 84 = .ok (.iconst (-1), 1) := by decide +kernel
theorem dX11_amend_85 : decode cX11_amend 85 = .ok (.goto 13, 3) := by decide +kernel
theorem dX11_amend_88 : decode cX11_amend 88 = .ok (.aload_n 0, 1) := by decide +kernel
theorem dX11_amend_89 : decode cX11_amend 89 = .ok (.getfield 21, 3) := by decide +kernel
theorem dX11_amend_92 : decode cX11_amend 92 = .ok (.iload_n 1, 1) := by decide +kernel
theorem dX11_amend_93 : decode cX11_amend 93 = .ok (.iload 4, 2) := by decide +kernel
theorem dX11_amend_95 : decode cX11_amend 95 = .ok (.invokevirtual 194, 3) := by decide +kernel
theorem dX11_amend_98 : decode cX11_amend 98 = .ok (.ireturn, 1) := by decide +kernel
theorem dX11_cancel_0 : decode cX11_cancel 0 = .ok (.aload_n 0, 1) := by decide +kernel
theorem dX11_cancel_1 : decode cX11_cancel 1 = .ok (.iload_n 1, 1) := by decide +kernel
theorem dX11_cancel_2 : decode cX11_cancel 2 = .ok (.invokevirtual 197, 3) := by decide +kernel
theorem dX11_cancel_5 : decode cX11_cancel 5 = .ok (.aload_n 0, 1) := by decide +kernel
theorem dX11_cancel_6 : decode cX11_cancel 6 = .ok (.getfield 21, 3) := by decide +kernel
theorem dX11_cancel_9 : decode cX11_cancel 9 = .ok (.iload_n 1, 1) := by decide +kernel
theorem dX11_cancel_10 : decode cX11_cancel 10 = .ok (.invokevirtual 156, 3) := by decide +kernel
theorem dX11_cancel_13 : decode cX11_cancel 13 = .ok (.astore_n 2, 1) := by decide +kernel
theorem dX11_cancel_14 : decode cX11_cancel 14 = .ok (.aload_n 2, 1) := by decide +kernel
theorem dX11_cancel_15 : decode cX11_cancel 15 = .ok (.invokevirtual 203, 3) := by decide +kernel
theorem dX11_cancel_18 : decode cX11_cancel 18 = .ok (.invokestatic 67, 3) := by decide +kernel
theorem dX11_cancel_21 : decode cX11_cancel 21 = .ok (.aload_n 2, 1) := by decide +kernel
theorem dX11_cancel_22 : decode cX11_cancel 22 = .ok (.getfield 200, 3) := by decide +kernel
theorem dX11_cancel_25 : decode cX11_cancel 25 = .ok (.ifCond .ne 13, 3) := by decide +kernel
theorem dX11_cancel_28 : decode cX11_cancel 28 = .ok (.aload_n 0, 1) := by decide +kernel
theorem dX11_cancel_29 : decode cX11_cancel 29 = .ok (.getfield 21, 3) := by decide +kernel
theorem dX11_cancel_32 : decode cX11_cancel 32 = .ok (.aload_n 2, 1) := by decide +kernel
theorem dX11_cancel_33 : decode cX11_cancel 33 = .ok (.invokevirtual 207, 3) := by decide +kernel
theorem dX11_cancel_36 : decode cX11_cancel 36 = .ok (.iconst 1, 1) := by decide +kernel
theorem dX11_cancel_37 : decode cX11_cancel 37 = .ok (.ireturn, 1) := by decide +kernel
theorem dX11_cancel_38 : decode cX11_cancel 38 = .ok (.aload_n 2, 1) := by decide +kernel
theorem dX11_cancel_39 : decode cX11_cancel 39 = .ok (.iconst 1, 1) := by decide +kernel
theorem dX11_cancel_40 : decode cX11_cancel 40 = .ok (.putfield 211, 3) := by decide +kernel
theorem dX11_cancel_43 : decode cX11_cancel 43 = .ok (.aload_n 0, 1) := by decide +kernel
theorem dX11_cancel_44 : decode cX11_cancel 44 = .ok (.getfield 21, 3) := by decide +kernel
theorem dX11_cancel_47 : decode cX11_cancel 47 = .ok (.aload_n 2, 1) := by decide +kernel
theorem dX11_cancel_48 : decode cX11_cancel 48 = .ok (.getfield 214, 3) := by decide +kernel
theorem dX11_cancel_51 : decode cX11_cancel 51 = .ok (.invokevirtual 217, 3) := by decide +kernel
theorem dX11_cancel_54 : decode cX11_cancel 54 = .ok (.astore_n 3, 1) := by decide +kernel
theorem dX11_cancel_55 : decode cX11_cancel 55 = .ok (.aload_n 0, 1) := by decide +kernel
theorem dX11_cancel_56 : decode cX11_cancel 56 = .ok (.getfield 21, 3) := by decide +kernel
theorem dX11_cancel_59 : decode cX11_cancel 59 = .ok (.aload_n 3, 1) := by decide +kernel
theorem dX11_cancel_60 : decode cX11_cancel 60 = .ok (.getfield 220, 3) := by decide +kernel
theorem dX11_cancel_63 : decode cX11_cancel 63 = .ok (.invokevirtual 156, 3) := by decide +kernel
theorem dX11_cancel_66 : decode cX11_cancel 66 = .ok (.getfield 211, 3) := by decide +kernel
theorem dX11_cancel_69 : decode cX11_cancel 69 = .ok (.ifCond .eq 20, 3) := by decide +kernel
theorem dX11_cancel_72 : decode cX11_cancel 72 = .ok (.aload_n 0, 1) := by decide +kernel
theorem dX11_cancel_73 : decode cX11_cancel 73 = .ok (.getfield 21, 3) := by decide +kernel
theorem dX11_cancel_76 : decode cX11_cancel 76 = .ok (.aload_n 3, 1) := by decide +kernel
theorem dX11_cancel_77 : decode cX11_cancel 77 = .ok (.getfield 225, 3) := by decide +kernel
theorem dX11_cancel_80 : decode cX11_cancel 80 = .ok (.invokevirtual 156, 3) := by decide +kernel
theorem dX11_cancel_83 : decode cX11_cancel 83 = .ok (.getfield 211, 3) := by decide +kernel
theorem dX11_cancel_86 : decode cX11_cancel 86 = .ok (.ifCond .ne 5, 3) := by decide +kernel
theorem dX11_cancel_89 : decode cX11_cancel 89 = .ok (.iconst 0, 1) := by decide +kernel
theorem dX11_cancel_90 : decode cX11_cancel 90 = .ok (.ireturn, 1) := by decide +kernel
theorem dX11_cancel_91 : decode cX11_cancel 91 = .ok (.aload_n 0, 1) := by decide +kernel
theorem dX11_cancel_92 : decode cX11_cancel 92 = .ok (.getfield 21, 3) := by decide +kernel
theorem dX11_cancel_95 : decode cX11_cancel 95 = .ok (.aload_n 3, 1) := by decide +kernel
theorem dX11_cancel_96 : decode cX11_cancel 96 = .ok (.invokevirtual 228, 3) := by decide +kernel
theorem dX11_cancel_99 : decode cX11_cancel 99 = .ok (.iconst 1, 1) := by decide +kernel
theorem dX11_cancel_100 : decode cX11_cancel 100 = .ok (.ireturn, 1) := by decide +kernel
theorem dX11_hold_0 : decode cX11_hold 0 = .ok (.aload_n 0, 1) := by decide +kernel
theorem dX11_hold_1 : decode cX11_hold 1 = .ok (.iload_n 1, 1) := by decide +kernel
theorem dX11_hold_2 : decode cX11_hold 2 = .ok (.invokevirtual 197, 3) := by decide +kernel
theorem dX11_hold_5 : decode cX11_hold 5 = .ok (.aload_n 0, 1) := by decide +kernel
theorem dX11_hold_6 : decode cX11_hold 6 = .ok (.getfield 21, 3) := by decide +kernel
theorem dX11_hold_9 : decode cX11_hold 9 = .ok (.iload_n 1, 1) := by decide +kernel
theorem dX11_hold_10 : decode cX11_hold 10 = .ok (.invokevirtual 156, 3) := by decide +kernel
theorem dX11_hold_13 : decode cX11_hold 13 = .ok (.astore_n 2, 1) := by decide +kernel
theorem dX11_hold_14 : decode cX11_hold 14 = .ok (.aload_n 2, 1) := by decide +kernel
theorem dX11_hold_15 : decode cX11_hold 15 = .ok (.invokevirtual 203, 3) := by decide +kernel
theorem dX11_hold_18 : decode cX11_hold 18 = .ok (.invokestatic 67, 3) := by decide +kernel
theorem dX11_hold_21 : decode cX11_hold 21 = .ok (.aload_n 2, 1) := by decide +kernel
theorem dX11_hold_22 : decode cX11_hold 22 = .ok (.aload_n 2, 1) := by decide +kernel
theorem dX11_hold_23 : decode cX11_hold 23 = .ok (.getfield 232, 3) := by decide +kernel
theorem dX11_hold_26 : decode cX11_hold 26 = .ok (.ifCond .ne 7, 3) := by decide +kernel
theorem dX11_hold_29 : decode cX11_hold 29 = .ok (.iconst 1, 1) := by decide +kernel
theorem dX11_hold_30 : decode cX11_hold 30 = .ok (.goto 4, 3) := by decide +kernel
theorem dX11_hold_33 : decode cX11_hold 33 = .ok (.iconst 0, 1) := by decide +kernel
theorem dX11_hold_34 : decode cX11_hold 34 = .ok (.putfield 232, 3) := by decide +kernel
theorem dX11_hold_37 : decode cX11_hold 37 = .ok (.aload_n 2, 1) := by decide +kernel
theorem dX11_hold_38 : decode cX11_hold 38 = .ok (.getfield 232, 3) := by decide +kernel
theorem dX11_hold_41 : decode cX11_hold 41 = .ok (.ireturn, 1) := by decide +kernel
theorem dX11_link_0 : decode cX11_link 0 = .ok (.aload_n 0, 1) := by decide +kernel
theorem dX11_link_1 : decode cX11_link 1 = .ok (.iload_n 1, 1) := by decide +kernel
theorem dX11_link_2 : decode cX11_link 2 = .ok (.invokevirtual 235, 3) := by decide +kernel
theorem dX11_link_5 : decode cX11_link 5 = .ok (.aload_n 0, 1) := by decide +kernel
theorem dX11_link_6 : decode cX11_link 6 = .ok (.iload_n 2, 1) := by decide +kernel
theorem dX11_link_7 : decode cX11_link 7 = .ok (.invokevirtual 235, 3) := by decide +kernel
theorem dX11_link_10 : decode cX11_link 10 = .ok (.iload_n 1, 1) := by decide +kernel
theorem dX11_link_11 : decode cX11_link 11 = .ok (.iload_n 2, 1) := by decide +kernel
theorem dX11_link_12 : decode cX11_link 12 = .ok (.if_icmp .eq 7, 3) := by decide +kernel
theorem dX11_link_15 : decode cX11_link 15 = .ok (.iconst 1, 1) := by decide +kernel
theorem dX11_link_16 : decode cX11_link 16 = .ok (.goto 4, 3) := by decide +kernel
theorem dX11_link_19 : decode cX11_link 19 = .ok (.iconst 0, 1) := by decide +kernel
theorem dX11_link_20 : decode cX11_link 20 = .ok (.invokestatic 130, 3) := by decide +kernel
theorem dX11_link_23 : decode cX11_link 23 = .ok (.aload_n 0, 1) := by decide +kernel
theorem dX11_link_24 : decode cX11_link 24 = .ok (.getfield 21, 3) := by decide +kernel
theorem dX11_link_27 : decode cX11_link 27 = .ok (.iload_n 1, 1) := by decide +kernel
theorem dX11_link_28 : decode cX11_link 28 = .ok (.invokevirtual 217, 3) := by decide +kernel
theorem dX11_link_31 : decode cX11_link 31 = .ok (.getfield 238, 3) := by decide +kernel
theorem dX11_link_34 : decode cX11_link 34 = .ok (.iconst 1, 1) := by decide +kernel
theorem dX11_link_35 : decode cX11_link 35 = .ok (.if_icmp .ne 22, 3) := by decide +kernel
theorem dX11_link_38 : decode cX11_link 38 = .ok (.aload_n 0, 1) := by decide +kernel
theorem dX11_link_39 : decode cX11_link 39 = .ok (.getfield 21, 3) := by decide +kernel
theorem dX11_link_42 : decode cX11_link 42 = .ok (.iload_n 2, 1) := by decide +kernel
theorem dX11_link_43 : decode cX11_link 43 = .ok (.invokevirtual 217, 3) := by decide +kernel
theorem dX11_link_46 : decode cX11_link 46 = .ok (.getfield 238, 3) := by decide +kernel
theorem dX11_link_49 : decode cX11_link 49 = .ok (.iconst 1, 1) := by decide +kernel
theorem dX11_link_50 : decode cX11_link 50 = .ok (.if_icmp .ne 7, 3) := by decide +kernel
theorem dX11_link_53 : decode cX11_link 53 = .ok (.iconst 1, 1) := by decide +kernel
theorem dX11_link_54 : decode cX11_link 54 = .ok (.goto 4, 3) := by decide +kernel
theorem dX11_link_57 : decode cX11_link 57 = .ok (.iconst 0, 1) := by decide +kernel
theorem dX11_link_58 : decode cX11_link 58 = .ok (.invokestatic 67, 3) := by decide +kernel
theorem dX11_link_61 : decode cX11_link 61 = .ok (.aload_n 0, 1) := by decide +kernel
theorem dX11_link_62 : decode cX11_link 62 = .ok (.getfield 21, 3) := by decide +kernel
theorem dX11_link_65 : decode cX11_link 65 = .ok (.iload_n 1, 1) := by decide +kernel
theorem dX11_link_66 : decode cX11_link 66 = .ok (.iload_n 2, 1) := by decide +kernel
theorem dX11_link_67 : decode cX11_link 67 = .ok (.invokevirtual 239, 3) := by decide +kernel
theorem dX11_link_70 : decode cX11_link 70 = .ok (.ifCond .ne 19, 3) := by decide +kernel
theorem dX11_link_73 : decode cX11_link 73 = .ok (.aload_n 0, 1) := by decide +kernel
theorem dX11_link_74 : decode cX11_link 74 = .ok (.getfield 21, 3) := by decide +kernel
theorem dX11_link_77 : decode cX11_link 77 = .ok (.getfield 243, 3) := by decide +kernel
theorem dX11_link_80 : decode cX11_link 80 = .ok (.bipush 10, 2) := by decide +kernel
theorem dX11_link_82 : decode cX11_link 82 = .ok (.if_icmp .ge 7, 3) := by decide +kernel
theorem dX11_link_85 : decode cX11_link 85 = .ok (.iconst 1, 1) := by decide +kernel
theorem dX11_link_86 : decode cX11_link 86 = .ok (.goto 4, 3) := by decide +kernel
theorem dX11_link_89 : decode cX11_link 89 = .ok (.iconst 0, 1) := by decide +kernel
theorem dX11_link_90 : decode cX11_link 90 = .ok (.invokestatic 67, 3) := by decide +kernel
theorem dX11_link_93 : decode cX11_link 93 = .ok (.aload_n 0, 1) := by decide +kernel
theorem dX11_link_94 : decode cX11_link 94 = .ok (.getfield 21, 3) := by decide +kernel
theorem dX11_link_97 : decode cX11_link 97 = .ok (.aload_n 0, 1) := by decide +kernel
theorem dX11_link_98 : decode cX11_link 98 = .ok (.getfield 21, 3) := by decide +kernel
theorem dX11_link_101 : decode cX11_link 101 = .ok (.getfield 243, 3) := by decide +kernel
theorem dX11_link_104 : decode cX11_link 104 = .ok (.invokevirtual 246, 3) := by decide +kernel
theorem dX11_link_107 : decode cX11_link 107 = .ok (.astore 4, 2) := by decide +kernel
theorem dX11_link_109 : decode cX11_link 109 = .ok (.aload 4, 2) := by decide +kernel
theorem dX11_link_111 : decode cX11_link 111 = .ok (.iload_n 1, 1) := by decide +kernel
theorem dX11_link_112 : decode cX11_link 112 = .ok (.putfield 250, 3) := by decide +kernel
theorem dX11_link_115 : decode cX11_link 115 = .ok (.aload 4, 2) := by decide +kernel
theorem dX11_link_117 : decode cX11_link 117 = .ok (.iload_n 2, 1) := by decide +kernel
theorem dX11_link_118 : decode cX11_link 118 = .ok (.putfield 255, 3) := by decide +kernel
theorem dX11_link_121 : decode cX11_link 121 = .ok (.aload 4, 2) := by decide +kernel
theorem dX11_link_123 : decode cX11_link 123 = .ok (.iload_n 3, 1) := by decide +kernel
theorem dX11_link_124 : decode cX11_link 124 = .ok (.putfield 258, 3) := by decide +kernel
theorem dX11_link_127 : decode cX11_link 127 = .ok (.aload_n 0, 1) := by decide +kernel
theorem dX11_link_128 : decode cX11_link 128 = .ok (.getfield 21, 3) := by decide +kernel
theorem dX11_link_131 : decode cX11_link 131 = .ok (.dup, 1) := by decide +kernel
theorem dX11_link_132 : decode cX11_link 132 = .ok (.getfield 243, 3) := by decide +kernel
theorem dX11_link_135 : decode cX11_link 135 = .ok (.iconst 1, 1) := by decide +kernel
theorem dX11_link_136 : decode cX11_link 136 = .ok (.iadd, 1) := by decide +kernel
theorem dX11_link_137 : decode cX11_link 137 = .ok (.putfield 243, 3) := by decide +kernel
theorem dX11_link_140 : decode cX11_link 140 = .ok (.aload_n 0, 1) := by decide +kernel
theorem dX11_link_141 : decode cX11_link 141 = .ok (.getfield 21, 3) := by decide +kernel
theorem dX11_link_144 : decode cX11_link 144 = .ok (.getfield 243, 3) := by decide +kernel
theorem dX11_link_147 : decode cX11_link 147 = .ok (.ireturn, 1) := by decide +kernel
theorem dX11_cycle_0 : decode cX11_cycle 0 = .ok (.aload_n 0, 1) := by decide +kernel
theorem dX11_cycle_1 : decode cX11_cycle 1 = .ok (.getfield 33, 3) := by decide +kernel
theorem dX11_cycle_4 : decode cX11_cycle 4 = .ok (.invokevirtual 261, 3) := by decide +kernel
theorem dX11_cycle_7 : decode cX11_cycle 7 = .ok (.aload_n 0, 1) := by decide +kernel
theorem dX11_cycle_8 : decode cX11_cycle 8 = .ok (.getfield 33, 3) := by decide +kernel
theorem dX11_cycle_11 : decode cX11_cycle 11 = .ok (.invokevirtual 264, 3) := by decide +kernel
theorem dX11_cycle_14 : decode cX11_cycle 14 = .ok (.pop2, 1) := by decide +kernel
theorem dX11_cycle_15 : decode cX11_cycle 15 = .ok (.aload_n 0, 1) := by decide +kernel
theorem dX11_cycle_16 : decode cX11_cycle 16 = .ok (.getfield 33, 3) := by decide +kernel
theorem dX11_cycle_19 : decode cX11_cycle 19 = .ok (.invokevirtual 268, 3) := by decide +kernel
theorem dX11_cycle_22 : decode cX11_cycle 22 = .ok (.aload_n 0, 1) := by decide +kernel
theorem dX11_cycle_23 : decode cX11_cycle 23 = .ok (.getfield 33, 3) := by decide +kernel
theorem dX11_cycle_26 : decode cX11_cycle 26 = .ok (.invokevirtual 272, 3) := by decide +kernel
theorem dX11_cycle_29 : decode cX11_cycle 29 = .ok (.iadd, 1) := by decide +kernel
theorem dX11_cycle_30 : decode cX11_cycle 30 = .ok (.istore_n 1, 1) := by decide +kernel
theorem dX11_cycle_31 : decode cX11_cycle 31 = .ok (.aload_n 0, 1) := by decide +kernel
theorem dX11_cycle_32 : decode cX11_cycle 32 = .ok (.getfield 33, 3) := by decide +kernel
theorem dX11_cycle_35 : decode cX11_cycle 35 = .ok (.invokevirtual 275, 3) := by decide +kernel
theorem dX11_cycle_38 : decode cX11_cycle 38 = .ok (.iload_n 1, 1) := by decide +kernel
theorem dX11_cycle_39 : decode cX11_cycle 39 = .ok (.ireturn, 1) := by decide +kernel
theorem dX11_best_0 : decode cX11_best 0 = .ok (.aload_n 0, 1) := by decide +kernel
theorem dX11_best_1 : decode cX11_best 1 = .ok (.getfield 33, 3) := by decide +kernel
theorem dX11_best_4 : decode cX11_best 4 = .ok (.invokevirtual 264, 3) := by decide +kernel
theorem dX11_best_7 : decode cX11_best 7 = .ok (.lreturn, 1) := by decide +kernel
theorem dX11_bestByAll_0 : decode cX11_bestByAll 0 = .ok (.aload_n 0, 1) := by decide +kernel
theorem dX11_bestByAll_1 : decode cX11_bestByAll 1 = .ok (.getfield 33, 3) := by decide +kernel
theorem dX11_bestByAll_4 : decode cX11_bestByAll 4 = .ok (.invokevirtual 278, 3) := by decide +kernel
theorem dX11_bestByAll_7 : decode cX11_bestByAll 7 = .ok (.lreturn, 1) := by decide +kernel
theorem dX11_endDay_0 : decode cX11_endDay 0 = .ok (.aload_n 0, 1) := by decide +kernel
theorem dX11_endDay_1 : decode cX11_endDay 1 = .ok (.getfield 21, 3) := by decide +kernel
theorem dX11_endDay_4 : decode cX11_endDay 4 = .ok (.getfield 150, 3) := by decide +kernel
theorem dX11_endDay_7 : decode cX11_endDay 7 = .ok (.sipush 2000, 3) := by decide +kernel
theorem dX11_endDay_10 : decode cX11_endDay 10 = .ok (.if_icmp .ge 7, 3) := by decide +kernel
theorem dX11_endDay_13 : decode cX11_endDay 13 = .ok (.iconst 1, 1) := by decide +kernel
theorem dX11_endDay_14 : decode cX11_endDay 14 = .ok (.goto 4, 3) := by decide +kernel
theorem dX11_endDay_17 : decode cX11_endDay 17 = .ok (.iconst 0, 1) := by decide +kernel
theorem dX11_endDay_18 : decode cX11_endDay 18 = .ok (.invokestatic 67, 3) := by decide +kernel
theorem dX11_endDay_21 : decode cX11_endDay 21 = .ok (.aload_n 0, 1) := by decide +kernel
theorem dX11_endDay_22 : decode cX11_endDay 22 = .ok (.getfield 40, 3) := by decide +kernel
theorem dX11_endDay_25 : decode cX11_endDay 25 = .ok (.invokevirtual 281, 3) := by decide +kernel
theorem dX11_endDay_28 : decode cX11_endDay 28 = .ok (.aload_n 0, 1) := by decide +kernel
theorem dX11_endDay_29 : decode cX11_endDay 29 = .ok (.getfield 40, 3) := by decide +kernel
theorem dX11_endDay_32 : decode cX11_endDay 32 = .ok (.invokevirtual 284, 3) := by decide +kernel
theorem dX11_endDay_35 : decode cX11_endDay 35 = .ok (.aload_n 0, 1) := by decide +kernel
theorem dX11_endDay_36 : decode cX11_endDay 36 = .ok (.getfield 40, 3) := by decide +kernel
theorem dX11_endDay_39 : decode cX11_endDay 39 = .ok (.invokevirtual 287, 3) := by decide +kernel
theorem dX11_endDay_42 : decode cX11_endDay 42 = .ok (.iadd, 1) := by decide +kernel
theorem dX11_endDay_43 : decode cX11_endDay 43 = .ok (.istore_n 1, 1) := by decide +kernel
theorem dX11_endDay_44 : decode cX11_endDay 44 = .ok (.aload_n 0, 1) := by decide +kernel
theorem dX11_endDay_45 : decode cX11_endDay 45 = .ok (.getfield 40, 3) := by decide +kernel
theorem dX11_endDay_48 : decode cX11_endDay 48 = .ok (.invokevirtual 290, 3) := by decide +kernel
theorem dX11_endDay_51 : decode cX11_endDay 51 = .ok (.aload_n 0, 1) := by decide +kernel
theorem dX11_endDay_52 : decode cX11_endDay 52 = .ok (.getfield 21, 3) := by decide +kernel
theorem dX11_endDay_55 : decode cX11_endDay 55 = .ok (.dup, 1) := by decide +kernel
theorem dX11_endDay_56 : decode cX11_endDay 56 = .ok (.getfield 150, 3) := by decide +kernel
theorem dX11_endDay_59 : decode cX11_endDay 59 = .ok (.iconst 1, 1) := by decide +kernel
theorem dX11_endDay_60 : decode cX11_endDay 60 = .ok (.iadd, 1) := by decide +kernel
theorem dX11_endDay_61 : decode cX11_endDay 61 = .ok (.putfield 150, 3) := by decide +kernel
theorem dX11_endDay_64 : decode cX11_endDay 64 = .ok (.iload_n 1, 1) := by decide +kernel
theorem dX11_endDay_65 : decode cX11_endDay 65 = .ok (.ireturn, 1) := by decide +kernel
theorem dX11_today_0 : decode cX11_today 0 = .ok (.aload_n 0, 1) := by decide +kernel
theorem dX11_today_1 : decode cX11_today 1 = .ok (.getfield 21, 3) := by decide +kernel
theorem dX11_today_4 : decode cX11_today 4 = .ok (.getfield 150, 3) := by decide +kernel
theorem dX11_today_7 : decode cX11_today 7 = .ok (.ireturn, 1) := by decide +kernel
theorem dX11_recall_0 : decode cX11_recall 0 = .ok (.aload_n 0, 1) := by decide +kernel
theorem dX11_recall_1 : decode cX11_recall 1 = .ok (.iload_n 1, 1) := by decide +kernel
theorem dX11_recall_2 : decode cX11_recall 2 = .ok (.invokevirtual 293, 3) := by decide +kernel
theorem dX11_recall_5 : decode cX11_recall 5 = .ok (.aload_n 0, 1) := by decide +kernel
theorem dX11_recall_6 : decode cX11_recall 6 = .ok (.getfield 21, 3) := by decide +kernel
theorem dX11_recall_9 : decode cX11_recall 9 = .ok (.iload_n 1, 1) := by decide +kernel
theorem dX11_recall_10 : decode cX11_recall 10 = .ok (.invokevirtual 296, 3) := by decide +kernel
theorem dX11_recall_13 : decode cX11_recall 13 = .ok (.astore_n 2, 1) := by decide +kernel
theorem dX11_recall_14 : decode cX11_recall 14 = .ok (.aload_n 2, 1) := by decide +kernel
theorem dX11_recall_15 : decode cX11_recall 15 = .ok (.getfield 300, 3) := by decide +kernel
theorem dX11_recall_18 : decode cX11_recall 18 = .ok (.ifCond .ne 14, 3) := by decide +kernel
theorem dX11_recall_21 : decode cX11_recall 21 = .ok (.aload_n 2, 1) := by decide +kernel
theorem dX11_recall_22 : decode cX11_recall 22 = .ok (.getfield 305, 3) := by decide +kernel
theorem dX11_recall_25 : decode cX11_recall 25 = .ok (.ifCond .ne 7, 3) := by decide +kernel
theorem dX11_recall_28 : decode cX11_recall 28 = .ok (.iconst 1, 1) := by decide +kernel
theorem dX11_recall_29 : decode cX11_recall 29 = .ok (.goto 4, 3) := by decide +kernel
theorem dX11_recall_32 : decode cX11_recall 32 = .ok (.iconst 0, 1) := by decide +kernel
theorem dX11_recall_33 : decode cX11_recall 33 = .ok (.invokestatic 67, 3) := by decide +kernel
theorem dX11_recall_36 : decode cX11_recall 36 = .ok (.aload_n 2, 1) := by decide +kernel
theorem dX11_recall_37 : decode cX11_recall 37 = .ok (.iconst 1, 1) := by decide +kernel
theorem dX11_recall_38 : decode cX11_recall 38 = .ok (.putfield 305, 3) := by decide +kernel
theorem dX11_recall_41 : decode cX11_recall 41 = .ok (.aload_n 2, 1) := by decide +kernel
theorem dX11_recall_42 : decode cX11_recall 42 = .ok (.getfield 308, 3) := by decide +kernel
theorem dX11_recall_45 : decode cX11_recall 45 = .ok (.lreturn, 1) := by decide +kernel
theorem dX11_keep_0 : decode cX11_keep 0 = .ok (.aload_n 0, 1) := by decide +kernel
theorem dX11_keep_1 : decode cX11_keep 1 = .ok (.getfield 25, 3) := by decide +kernel
theorem dX11_keep_4 : decode cX11_keep 4 = .ok (.aload_n 0, 1) := by decide +kernel
theorem dX11_keep_5 : decode cX11_keep 5 = .ok (.getfield 21, 3) := by decide +kernel
theorem dX11_keep_8 : decode cX11_keep 8 = .ok (.invokevirtual 310, 3) := by decide +kernel
theorem dX11_keep_11 : decode cX11_keep 11 = .ok (.aload_n 0, 1) := by decide +kernel
theorem dX11_keep_12 : decode cX11_keep 12 = .ok (.iconst 1, 1) := by decide +kernel
theorem dX11_keep_13 : decode cX11_keep 13 = .ok (.putfield 44, 3) := by decide +kernel
theorem dX11_keep_16 : decode cX11_keep 16 = .ok (.aload_n 0, 1) := by decide +kernel
theorem dX11_keep_17 : decode cX11_keep 17 = .ok (.getfield 21, 3) := by decide +kernel
theorem dX11_keep_20 : decode cX11_keep 20 = .ok (.getfield 150, 3) := by decide +kernel
theorem dX11_keep_23 : decode cX11_keep 23 = .ok (.ireturn, 1) := by decide +kernel
theorem dX11_goBack_0 : decode cX11_goBack 0 = .ok (.aload_n 0, 1) := by decide +kernel
theorem dX11_goBack_1 : decode cX11_goBack 1 = .ok (.getfield 44, 3) := by decide +kernel
theorem dX11_goBack_4 : decode cX11_goBack 4 = .ok (.invokestatic 67, 3) := by decide +kernel
theorem dX11_goBack_7 : decode cX11_goBack 7 = .ok (.aload_n 0, 1) := by decide +kernel
theorem dX11_goBack_8 : decode cX11_goBack 8 = .ok (.getfield 21, 3) := by decide +kernel
theorem dX11_goBack_11 : decode cX11_goBack 11 = .ok (.aload_n 0, 1) := by decide +kernel
theorem dX11_goBack_12 : decode cX11_goBack 12 = .ok (.getfield 25, 3) := by decide +kernel
theorem dX11_goBack_15 : decode cX11_goBack 15 = .ok (.invokevirtual 310, 3) := by decide +kernel
theorem dX11_goBack_18 : decode cX11_goBack 18 = .ok (.aload_n 0, 1) := by decide +kernel
theorem dX11_goBack_19 : decode cX11_goBack 19 = .ok (.getfield 21, 3) := by decide +kernel
theorem dX11_goBack_22 : decode cX11_goBack 22 = .ok (.getfield 150, 3) := by decide +kernel
theorem dX11_goBack_25 : decode cX11_goBack 25 = .ok (.ireturn, 1) := by decide +kernel
theorem dX11_announce_0 : decode cX11_announce 0 = .ok (.aload_n 0, 1) := by decide +kernel
theorem dX11_announce_1 : decode cX11_announce 1 = .ok (.iload_n 2, 1) := by decide +kernel
theorem dX11_announce_2 : decode cX11_announce 2 = .ok (.invokevirtual 127, 3) := by decide +kernel
theorem dX11_announce_5 : decode cX11_announce 5 = .ok (.iload_n 1, 1) := by decide +kernel
theorem dX11_announce_6 : decode cX11_announce 6 = .ok (.iconst 0, 1) := by decide +kernel
theorem dX11_announce_7 : decode cX11_announce 7 = .ok (.iconst 2, 1) := by decide +kernel
theorem dX11_announce_8 : decode cX11_announce 8 = .ok (.invokestatic 52, 3) := by decide +kernel
theorem dX11_announce_11 : decode cX11_announce 11 = .ok (.iload_n 3, 1) := by decide +kernel
theorem dX11_announce_12 : decode cX11_announce 12 = .ok (.iconst 1, 1) := by decide +kernel
theorem dX11_announce_13 : decode cX11_announce 13 = .ok (.iload_n 1, 1) := by decide +kernel
theorem dX11_announce_14 : decode cX11_announce 14 = .ok (.iconst 1, 1) := by decide +kernel
theorem dX11_announce_15 : decode cX11_announce 15 = .ok (.if_icmp .ne 7, 3) := by decide +kernel
theorem dX11_announce_18 : decode cX11_announce 18 = .ok (.iconst 3, 1) := by decide +kernel
theorem dX11_announce_19 : decode cX11_announce 19 = .ok (.goto 6, 3) := by decide +kernel
theorem dX11_announce_22 : decode cX11_announce 22 = .ok (.sipush 1000, 3) := by decide +kernel
theorem dX11_announce_25 : decode cX11_announce 25 = .ok (.invokestatic 52, 3) := by decide +kernel
theorem dX11_announce_28 : decode cX11_announce 28 = .ok (.iload_n 1, 1) := by decide +kernel
theorem dX11_announce_29 : decode cX11_announce 29 = .ok (.ifCond .eq 20, 3) := by decide +kernel
theorem dX11_announce_32 : decode cX11_announce 32 = .ok (.iload 4, 2) := by decide +kernel
theorem dX11_announce_34 : decode cX11_announce 34 = .ok (.iconst 1, 1) := by decide +kernel
theorem dX11_announce_35 : decode cX11_announce 35 = .ok (.iload_n 1, 1) := by decide +kernel
theorem dX11_announce_36 : decode cX11_announce 36 = .ok (.iconst 1, 1) := by decide +kernel
theorem dX11_announce_37 : decode cX11_announce 37 = .ok (.if_icmp .ne 7, 3) := by decide +kernel
theorem dX11_announce_40 : decode cX11_announce 40 = .ok (.iconst 3, 1) := by decide +kernel
theorem dX11_announce_41 : decode cX11_announce 41 = .ok (.goto 5, 3) := by decide +kernel
theorem dX11_announce_44 : decode cX11_announce 44 = .ok (.bipush 10, 2) := by decide +kernel
theorem dX11_announce_46 : decode cX11_announce 46 = .ok (.invokestatic 52, 3) := by decide +kernel
theorem dX11_announce_49 : decode cX11_announce 49 = .ok (.iload_n 1, 1) := by decide +kernel
theorem dX11_announce_50 : decode cX11_announce 50 = .ok (.iconst 2, 1) := by decide +kernel
theorem dX11_announce_51 : decode cX11_announce 51 = .ok (.if_icmp .ne 11, 3) := by decide +kernel
theorem dX11_announce_54 : decode cX11_announce 54 = .ok (.iload 5, 2) := by decide +kernel
theorem dX11_announce_56 : decode cX11_announce 56 = .ok (.iconst 0, 1) := by decide +kernel
theorem dX11_announce_57 : decode cX11_announce 57 = .ok (.ldc 100, 2) := by decide +kernel
theorem dX11_announce_59 : decode cX11_announce 59 = .ok (.invokestatic 52, 3) := by decide +kernel
theorem dX11_announce_62 : decode cX11_announce 62 = .ok (.iload 6, 2) := by decide +kernel
theorem dX11_announce_64 : decode cX11_announce 64 = .ok (.aload_n 0, 1) := by decide +kernel
theorem dX11_announce_65 : decode cX11_announce 65 = .ok (.getfield 21, 3) := by decide +kernel
theorem dX11_announce_68 : decode cX11_announce 68 = .ok (.getfield 150, 3) := by decide +kernel
theorem dX11_announce_71 : decode cX11_announce 71 = .ok (.sipush 2000, 3) := by decide +kernel
theorem dX11_announce_74 : decode cX11_announce 74 = .ok (.invokestatic 52, 3) := by decide +kernel
theorem dX11_announce_77 : decode cX11_announce 77 = .ok (.iload 7, 2) := by decide +kernel
theorem dX11_announce_79 : decode cX11_announce 79 = .ok (.iload 6, 2) := by decide +kernel
theorem dX11_announce_81 : decode cX11_announce 81 = .ok (.sipush 2000, 3) := by decide +kernel
theorem dX11_announce_84 : decode cX11_announce 84 = .ok (.invokestatic 52, 3) := by decide +kernel
theorem dX11_announce_87 : decode cX11_announce 87 = .ok (.aload_n 0, 1) := by decide +kernel
theorem dX11_announce_88 : decode cX11_announce 88 = .ok (.getfield 21, 3) := by decide +kernel
theorem dX11_announce_91 : decode cX11_announce 91 = .ok (.getfield 313, 3) := by decide +kernel
theorem dX11_announce_94 : decode cX11_announce 94 = .ok (.bipush 10, 2) := by decide +kernel
theorem dX11_announce_96 : decode cX11_announce 96 = .ok (.if_icmp .ge 7, 3) := by decide +kernel
theorem dX11_announce_99 : decode cX11_announce 99 = .ok (.iconst 1, 1) := by decide +kernel
theorem dX11_announce_100 : decode cX11_announce 100 = .ok (.goto 4, 3) := by decide +kernel
theorem dX11_announce_103 : decode cX11_announce 103 = .ok (.iconst 0, 1) := by decide +kernel
theorem dX11_announce_104 : decode cX11_announce 104 = .ok (.invokestatic 67, 3) := by decide +kernel
theorem dX11_announce_107 : decode cX11_announce 107 = .ok (.aload_n 0, 1) := by decide +kernel
theorem dX11_announce_108 : decode cX11_announce 108 = .ok (.getfield 21, 3) := by decide +kernel
theorem dX11_announce_111 : decode cX11_announce 111 = .ok (.getfield 313, 3) := by decide +kernel
theorem dX11_announce_114 : decode cX11_announce 114 = .ok (.istore 8, 2) := by decide +kernel
theorem dX11_announce_116 : decode cX11_announce 116 = .ok (.aload_n 0, 1) := by decide +kernel
theorem dX11_announce_117 : decode cX11_announce 117 = .ok (.getfield 21, 3) := by decide +kernel
theorem dX11_announce_120 : decode cX11_announce 120 = .ok (.iload 8, 2) := by decide +kernel
theorem dX11_announce_122 : decode cX11_announce 122 = .ok (.invokevirtual 316, 3) := by decide +kernel
theorem dX11_announce_125 : decode cX11_announce 125 = .ok (.astore 9, 2) := by decide +kernel
theorem dX11_announce_127 : decode cX11_announce 127 = .ok (.aload 9, 2) := by decide +kernel
theorem dX11_announce_129 : decode cX11_announce 129 = .ok (.iload_n 1, 1) := by decide +kernel
theorem dX11_announce_130 : decode cX11_announce 130 = .ok (.putfield 320, 3) := by decide +kernel
theorem dX11_announce_133 : decode cX11_announce 133 = .ok (.aload 9, 2) := by decide +kernel
theorem dX11_announce_135 : decode cX11_announce 135 = .ok (.iload_n 2, 1) := by decide +kernel
theorem dX11_announce_136 : decode cX11_announce 136 = .ok (.putfield 325, 3) := by decide +kernel
theorem dX11_announce_139 : decode cX11_announce 139 = .ok (.aload 9, 2) := by decide +kernel
theorem dX11_announce_141 : decode cX11_announce 141 = .ok (.iload_n 3, 1) := by decide +kernel
theorem dX11_announce_142 : decode cX11_announce 142 = .ok (.putfield 326, 3) := by decide +kernel
theorem dX11_announce_145 : decode cX11_announce 145 = .ok (.aload 9, 2) := by decide +kernel
theorem dX11_announce_147 : decode cX11_announce 147 = .ok (.iload 4, 2) := by decide +kernel
theorem dX11_announce_149 : decode cX11_announce 149 = .ok (.putfield 329, 3) := by decide +kernel
theorem dX11_announce_152 : decode cX11_announce 152 = .ok (.aload 9, 2) := by decide +kernel
theorem dX11_announce_154 : decode cX11_announce 154 = .ok (.iload 5, 2) := by decide +kernel
theorem dX11_announce_156 : decode cX11_announce 156 = .ok (.putfield 332, 3) := by decide +kernel
theorem dX11_announce_159 : decode cX11_announce 159 = .ok (.aload 9, 2) := by decide +kernel
theorem dX11_announce_161 : decode cX11_announce 161 = .ok (.iload 6, 2) := by decide +kernel
theorem dX11_announce_163 : decode cX11_announce 163 = .ok (.putfield 335, 3) := by decide +kernel
theorem dX11_announce_166 : decode cX11_announce 166 = .ok (.aload 9, 2) := by decide +kernel
theorem dX11_announce_168 : decode cX11_announce 168 = .ok (.iload 7, 2) := by decide +kernel
theorem dX11_announce_170 : decode cX11_announce 170 = .ok (.putfield 338, 3) := by decide +kernel
theorem dX11_announce_173 : decode cX11_announce 173 = .ok (.aload_n 0, 1) := by decide +kernel
theorem dX11_announce_174 : decode cX11_announce 174 = .ok (.getfield 21, 3) := by decide +kernel
theorem dX11_announce_177 : decode cX11_announce 177 = .ok (.iload 8, 2) := by decide +kernel
theorem dX11_announce_179 : decode cX11_announce 179 = .ok (.iconst 1, 1) := by decide +kernel
theorem dX11_announce_180 : decode cX11_announce 180 = .ok (.iadd, 1) := by decide +kernel
theorem dX11_announce_181 : decode cX11_announce 181 = .ok (.putfield 313, 3) := by decide +kernel
theorem dX11_announce_184 : decode cX11_announce 184 = .ok (.iload 8, 2) := by decide +kernel
theorem dX11_announce_186 : decode cX11_announce 186 = .ok (.ireturn, 1) := by decide +kernel
theorem dX11_elect_0 : decode cX11_elect 0 = .ok (.aload_n 0, 1) := by decide +kernel
theorem dX11_elect_1 : decode cX11_elect 1 = .ok (.iload_n 1, 1) := by decide +kernel
theorem dX11_elect_2 : decode cX11_elect 2 = .ok (.invokevirtual 48, 3) := by decide +kernel
theorem dX11_elect_5 : decode cX11_elect 5 = .ok (.aload_n 0, 1) := by decide +kernel
theorem dX11_elect_6 : decode cX11_elect 6 = .ok (.iload_n 2, 1) := by decide +kernel
theorem dX11_elect_7 : decode cX11_elect 7 = .ok (.invokevirtual 341, 3) := by decide +kernel
theorem dX11_elect_10 : decode cX11_elect 10 = .ok (.iload_n 3, 1) := by decide +kernel
theorem dX11_elect_11 : decode cX11_elect 11 = .ok (.ifCond .lt 7, 3) := by decide +kernel
theorem dX11_elect_14 : decode cX11_elect 14 = .ok (.iconst 1, 1) := by decide +kernel
theorem dX11_elect_15 : decode cX11_elect 15 = .ok (.goto 4, 3) := by decide +kernel
theorem dX11_elect_18 : decode cX11_elect 18 = .ok (.iconst 0, 1) := by decide +kernel
theorem dX11_elect_19 : decode cX11_elect 19 = .ok (.invokestatic 130, 3) := by decide +kernel
theorem dX11_elect_22 : decode cX11_elect 22 = .ok (.aload_n 0, 1) := by decide +kernel
theorem dX11_elect_23 : decode cX11_elect 23 = .ok (.getfield 21, 3) := by decide +kernel
theorem dX11_elect_26 : decode cX11_elect 26 = .ok (.iload_n 2, 1) := by decide +kernel
theorem dX11_elect_27 : decode cX11_elect 27 = .ok (.invokevirtual 316, 3) := by decide +kernel
theorem dX11_elect_30 : decode cX11_elect 30 = .ok (.astore 4, 2) := by decide +kernel
theorem dX11_elect_32 : decode cX11_elect 32 = .ok (.aload 4, 2) := by decide +kernel
theorem dX11_elect_34 : decode cX11_elect 34 = .ok (.getfield 320, 3) := by decide +kernel
theorem dX11_elect_37 : decode cX11_elect 37 = .ok (.iconst 2, 1) := by decide +kernel
theorem dX11_elect_38 : decode cX11_elect 38 = .ok (.if_icmp .ne 23, 3) := by decide +kernel
theorem dX11_elect_41 : decode cX11_elect 41 = .ok (.aload 4, 2) := by decide +kernel
theorem dX11_elect_43 : decode cX11_elect 43 = .ok (.getfield 344, 3) := by decide +kernel
theorem dX11_elect_46 : decode cX11_elect 46 = .ok (.ifCond .eq 15, 3) := by decide +kernel
theorem dX11_elect_49 : decode cX11_elect 49 = .ok (.aload 4, 2) := by decide +kernel
theorem dX11_elect_51 : decode cX11_elect 51 = .ok (.getfield 347, 3) := by decide +kernel
theorem dX11_elect_54 : decode cX11_elect 54 = .ok (.ifCond .ne 7, 3) := by decide +kernel
theorem dX11_elect_57 : decode cX11_elect 57 = .ok (.iconst 1, 1) := by decide +kernel
theorem dX11_elect_58 : decode cX11_elect 58 = .ok (.goto 4, 3) := by decide +kernel
theorem dX11_elect_61 : decode cX11_elect 61 = .ok (.iconst 0, 1) := by decide +kernel
theorem dX11_elect_62 : decode cX11_elect 62 = .ok (.invokestatic 67, 3) := by decide +kernel
theorem dX11_elect_65 : decode cX11_elect 65 = .ok (.iload_n 3, 1) := by decide +kernel
theorem dX11_elect_66 : decode cX11_elect 66 = .ok (.i2l, 1) := by decide +kernel
theorem dX11_elect_67 : decode cX11_elect 67 = .ok (.aload 4, 2) := by decide +kernel
theorem dX11_elect_69 : decode cX11_elect 69 = .ok (.iload_n 1, 1) := by decide +kernel
theorem dX11_elect_70 : decode cX11_elect 70 = .ok (.invokevirtual 350, 3) := by decide +kernel
theorem dX11_elect_73 : decode cX11_elect 73 = .ok (.lcmp, 1) := by decide +kernel
theorem dX11_elect_74 : decode cX11_elect 74 = .ok (.ifCond .gt 7, 3) := by decide +kernel
theorem dX11_elect_77 : decode cX11_elect 77 = .ok (.iconst 1, 1) := by decide +kernel
theorem dX11_elect_78 : decode cX11_elect 78 = .ok (.goto 4, 3) := by decide +kernel
theorem dX11_elect_81 : decode cX11_elect 81 = .ok (.iconst 0, 1) := by decide +kernel
theorem dX11_elect_82 : decode cX11_elect 82 = .ok (.invokestatic 67, 3) := by decide +kernel
theorem dX11_elect_85 : decode cX11_elect 85 = .ok (.aload 4, 2) := by decide +kernel
theorem dX11_elect_87 : decode cX11_elect 87 = .ok (.iload_n 1, 1) := by decide +kernel
theorem dX11_elect_88 : decode cX11_elect 88 = .ok (.invokevirtual 353, 3) := by decide +kernel
theorem dX11_elect_91 : decode cX11_elect 91 = .ok (.lstore 5, 2) := by decide +kernel
theorem dX11_elect_93 : decode cX11_elect 93 = .ok (.aload 4, 2) := by decide +kernel
theorem dX11_elect_95 : decode cX11_elect 95 = .ok (.iload_n 1, 1) := by decide +kernel
theorem dX11_elect_96 : decode cX11_elect 96 = .ok (.iload_n 3, 1) := by decide +kernel
theorem dX11_elect_97 : decode cX11_elect 97 = .ok (.i2l, 1) := by decide +kernel
theorem dX11_elect_98 : decode cX11_elect 98 = .ok (.invokevirtual 356, 3) := by decide +kernel
theorem dX11_elect_101 : decode cX11_elect 101 = .ok (.lload 5, 2) := by decide +kernel
theorem dX11_elect_103 : decode cX11_elect 103 = .ok (.lreturn, 1) := by decide +kernel
theorem dX11_entitled_0 : decode cX11_entitled 0 = .ok (.aload_n 0, 1) := by decide +kernel
theorem dX11_entitled_1 : decode cX11_entitled 1 = .ok (.iload_n 1, 1) := by decide +kernel
theorem dX11_entitled_2 : decode cX11_entitled 2 = .ok (.invokevirtual 341, 3) := by decide +kernel
theorem dX11_entitled_5 : decode cX11_entitled 5 = .ok (.aload_n 0, 1) := by decide +kernel
theorem dX11_entitled_6 : decode cX11_entitled 6 = .ok (.iload_n 2, 1) := by decide +kernel
theorem dX11_entitled_7 : decode cX11_entitled 7 = .ok (.invokevirtual 48, 3) := by decide +kernel
theorem dX11_entitled_10 : decode cX11_entitled 10 = .ok (.aload_n 0, 1) := by decide +kernel
theorem dX11_entitled_11 : decode cX11_entitled 11 = .ok (.getfield 21, 3) := by decide +kernel
theorem dX11_entitled_14 : decode cX11_entitled 14 = .ok (.iload_n 1, 1) := by decide +kernel
theorem dX11_entitled_15 : decode cX11_entitled 15 = .ok (.invokevirtual 316, 3) := by decide +kernel
theorem dX11_entitled_18 : decode cX11_entitled 18 = .ok (.astore_n 3, 1) := by decide +kernel
theorem dX11_entitled_19 : decode cX11_entitled 19 = .ok (.aload_n 3, 1) := by decide +kernel
theorem dX11_entitled_20 : decode cX11_entitled 20 = .ok (.getfield 344, 3) := by decide +kernel
theorem dX11_entitled_23 : decode cX11_entitled 23 = .ok (.ifCond .eq 11, 3) := by decide +kernel
theorem dX11_entitled_26 : decode cX11_entitled 26 = .ok (.aload_n 3, 1) := by decide +kernel
theorem dX11_entitled_27 : decode cX11_entitled 27 = .ok (.iload_n 2, 1) := by decide +kernel
theorem dX11_entitled_28 : decode cX11_entitled 28 = .ok (.invokevirtual 350, 3) := by decide +kernel
theorem dX11_entitled_31 : decode cX11_entitled 31 = .ok (.goto 6, 3) := by decide +kernel
theorem dX11_entitled_34 : decode cX11_entitled 34 = .ok (.ldc2_w 359, 3) := by decide +kernel
theorem dX11_entitled_37 : decode cX11_entitled 37 = .ok (.lreturn, 1) := by decide +kernel
theorem dX11_entitledAnew_0 : decode cX11_entitledAnew 0 = .ok (.aload_n 0, 1) := by decide +kernel
theorem dX11_entitledAnew_1 : decode cX11_entitledAnew 1 = .ok (.iload_n 1, 1) := by decide +kernel
theorem dX11_entitledAnew_2 : decode cX11_entitledAnew 2 = .ok (.invokevirtual 341, 3) := by decide +kernel
theorem dX11_entitledAnew_5 : decode cX11_entitledAnew 5 = .ok (.aload_n 0, 1) := by decide +kernel
theorem dX11_entitledAnew_6 : decode cX11_entitledAnew 6 = .ok (.iload_n 2, 1) := by decide +kernel
theorem dX11_entitledAnew_7 : decode cX11_entitledAnew 7 = .ok (.invokevirtual 48, 3) := by decide +kernel
theorem dX11_entitledAnew_10 : decode cX11_entitledAnew 10 = .ok (.aload_n 0, 1) := by decide +kernel
theorem dX11_entitledAnew_11 : decode cX11_entitledAnew 11 = .ok (.getfield 21, 3) := by decide +kernel
theorem dX11_entitledAnew_14 : decode cX11_entitledAnew 14 = .ok (.iload_n 1, 1) := by decide +kernel
theorem dX11_entitledAnew_15 : decode cX11_entitledAnew 15 = .ok (.invokevirtual 316, 3) := by decide +kernel
theorem dX11_entitledAnew_18 : decode cX11_entitledAnew 18 = .ok (.astore_n 3, 1) := by decide +kernel
theorem dX11_entitledAnew_19 : decode cX11_entitledAnew 19 = .ok (.aload_n 3, 1) := by decide +kernel
theorem dX11_entitledAnew_20 : decode cX11_entitledAnew 20 = .ok (.getfield 344, 3) := by decide +kernel
theorem dX11_entitledAnew_23 : decode cX11_entitledAnew 23 = .ok (.ifCond .eq 25, 3) := by decide +kernel
theorem dX11_entitledAnew_26 : decode cX11_entitledAnew 26 = .ok (.aload_n 0, 1) := by decide +kernel
theorem dX11_entitledAnew_27 : decode cX11_entitledAnew 27 = .ok (.getfield 21, 3) := by decide +kernel
theorem dX11_entitledAnew_30 : decode cX11_entitledAnew 30 = .ok (.iload_n 2, 1) := by decide +kernel
theorem dX11_entitledAnew_31 : decode cX11_entitledAnew 31 = .ok (.invokevirtual 57, 3) := by decide +kernel
theorem dX11_entitledAnew_34 : decode cX11_entitledAnew 34 = .ok (.aload_n 3, 1) := by decide +kernel
theorem dX11_entitledAnew_35 : decode cX11_entitledAnew 35 = .ok (.getfield 361, 3) := by decide +kernel
theorem dX11_entitledAnew_38 : decode cX11_entitledAnew 38 = .ok (.aload_n 3, 1) := by decide +kernel
theorem dX11_entitledAnew_39 : decode cX11_entitledAnew 39 = .ok (.getfield 325, 3) := by decide +kernel
theorem dX11_entitledAnew_42 : decode cX11_entitledAnew 42 = .ok (.invokevirtual 362, 3) := by decide +kernel
theorem dX11_entitledAnew_45 : decode cX11_entitledAnew 45 = .ok (.goto 6, 3) := by decide +kernel
theorem dX11_entitledAnew_48 : decode cX11_entitledAnew 48 = .ok (.ldc2_w 359, 3) := by decide +kernel
theorem dX11_entitledAnew_51 : decode cX11_entitledAnew 51 = .ok (.lreturn, 1) := by decide +kernel
theorem dX11_isPaid_0 : decode cX11_isPaid 0 = .ok (.aload_n 0, 1) := by decide +kernel
theorem dX11_isPaid_1 : decode cX11_isPaid 1 = .ok (.iload_n 1, 1) := by decide +kernel
theorem dX11_isPaid_2 : decode cX11_isPaid 2 = .ok (.invokevirtual 341, 3) := by decide +kernel
theorem dX11_isPaid_5 : decode cX11_isPaid 5 = .ok (.aload_n 0, 1) := by decide +kernel
theorem dX11_isPaid_6 : decode cX11_isPaid 6 = .ok (.getfield 21, 3) := by decide +kernel
theorem dX11_isPaid_9 : decode cX11_isPaid 9 = .ok (.iload_n 1, 1) := by decide +kernel
theorem dX11_isPaid_10 : decode cX11_isPaid 10 = .ok (.invokevirtual 316, 3) := by decide +kernel
theorem dX11_isPaid_13 : decode cX11_isPaid 13 = .ok (.getfield 347, 3) := by decide +kernel
theorem dX11_isPaid_16 : decode cX11_isPaid 16 = .ok (.ireturn, 1) := by decide +kernel
theorem dX11_units_0 : decode cX11_units 0 = .ok (.aload_n 0, 1) := by decide +kernel
theorem dX11_units_1 : decode cX11_units 1 = .ok (.iload_n 1, 1) := by decide +kernel
theorem dX11_units_2 : decode cX11_units 2 = .ok (.invokevirtual 48, 3) := by decide +kernel
theorem dX11_units_5 : decode cX11_units 5 = .ok (.aload_n 0, 1) := by decide +kernel
theorem dX11_units_6 : decode cX11_units 6 = .ok (.iload_n 2, 1) := by decide +kernel
theorem dX11_units_7 : decode cX11_units 7 = .ok (.invokevirtual 127, 3) := by decide +kernel
theorem dX11_units_10 : decode cX11_units 10 = .ok (.aload_n 0, 1) := by decide +kernel
theorem dX11_units_11 : decode cX11_units 11 = .ok (.getfield 21, 3) := by decide +kernel
theorem dX11_units_14 : decode cX11_units 14 = .ok (.iload_n 1, 1) := by decide +kernel
theorem dX11_units_15 : decode cX11_units 15 = .ok (.invokevirtual 57, 3) := by decide +kernel
theorem dX11_units_18 : decode cX11_units 18 = .ok (.iload_n 2, 1) := by decide +kernel
theorem dX11_units_19 : decode cX11_units 19 = .ok (.invokevirtual 133, 3) := by decide +kernel
theorem dX11_units_22 : decode cX11_units 22 = .ok (.lreturn, 1) := by decide +kernel
theorem dX11_free_0 : decode cX11_free 0 = .ok (.aload_n 0, 1) := by decide +kernel
theorem dX11_free_1 : decode cX11_free 1 = .ok (.iload_n 1, 1) := by decide +kernel
theorem dX11_free_2 : decode cX11_free 2 = .ok (.invokevirtual 48, 3) := by decide +kernel
theorem dX11_free_5 : decode cX11_free 5 = .ok (.aload_n 0, 1) := by decide +kernel
theorem dX11_free_6 : decode cX11_free 6 = .ok (.iload_n 2, 1) := by decide +kernel
theorem dX11_free_7 : decode cX11_free 7 = .ok (.invokevirtual 127, 3) := by decide +kernel
theorem dX11_free_10 : decode cX11_free 10 = .ok (.aload_n 0, 1) := by decide +kernel
theorem dX11_free_11 : decode cX11_free 11 = .ok (.getfield 21, 3) := by decide +kernel
theorem dX11_free_14 : decode cX11_free 14 = .ok (.iload_n 1, 1) := by decide +kernel
theorem dX11_free_15 : decode cX11_free 15 = .ok (.invokevirtual 57, 3) := by decide +kernel
theorem dX11_free_18 : decode cX11_free 18 = .ok (.iload_n 2, 1) := by decide +kernel
theorem dX11_free_19 : decode cX11_free 19 = .ok (.invokevirtual 366, 3) := by decide +kernel
theorem dX11_free_22 : decode cX11_free 22 = .ok (.lreturn, 1) := by decide +kernel
theorem dX11_out_0 : decode cX11_out 0 = .ok (.aload_n 0, 1) := by decide +kernel
theorem dX11_out_1 : decode cX11_out 1 = .ok (.iload_n 1, 1) := by decide +kernel
theorem dX11_out_2 : decode cX11_out 2 = .ok (.invokevirtual 127, 3) := by decide +kernel
theorem dX11_out_5 : decode cX11_out 5 = .ok (.aload_n 0, 1) := by decide +kernel
theorem dX11_out_6 : decode cX11_out 6 = .ok (.getfield 21, 3) := by decide +kernel
theorem dX11_out_9 : decode cX11_out 9 = .ok (.iload_n 1, 1) := by decide +kernel
theorem dX11_out_10 : decode cX11_out 10 = .ok (.invokevirtual 104, 3) := by decide +kernel
theorem dX11_out_13 : decode cX11_out 13 = .ok (.getfield 117, 3) := by decide +kernel
theorem dX11_out_16 : decode cX11_out 16 = .ok (.lreturn, 1) := by decide +kernel
theorem dX11_cash_0 : decode cX11_cash 0 = .ok (.aload_n 0, 1) := by decide +kernel
theorem dX11_cash_1 : decode cX11_cash 1 = .ok (.iload_n 1, 1) := by decide +kernel
theorem dX11_cash_2 : decode cX11_cash 2 = .ok (.invokevirtual 48, 3) := by decide +kernel
theorem dX11_cash_5 : decode cX11_cash 5 = .ok (.aload_n 0, 1) := by decide +kernel
theorem dX11_cash_6 : decode cX11_cash 6 = .ok (.getfield 21, 3) := by decide +kernel
theorem dX11_cash_9 : decode cX11_cash 9 = .ok (.iload_n 1, 1) := by decide +kernel
theorem dX11_cash_10 : decode cX11_cash 10 = .ok (.invokevirtual 57, 3) := by decide +kernel
theorem dX11_cash_13 : decode cX11_cash 13 = .ok (.getfield 80, 3) := by decide +kernel
theorem dX11_cash_16 : decode cX11_cash 16 = .ok (.lreturn, 1) := by decide +kernel
