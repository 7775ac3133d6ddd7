theorem dX0_heldOf_0 : decode cX0_heldOf 0 = .ok (.iload_n 1, 1) := by decide +kernel
theorem dX0_heldOf_1 : decode cX0_heldOf 1 = .ok (.ifCond .lt 21, 3) := by decide +kernel
theorem dX0_heldOf_4 : decode cX0_heldOf 4 = .ok (.iload_n 1, 1) := by decide +kernel
theorem dX0_heldOf_5 : decode cX0_heldOf 5 = .ok (.aload_n 0, 1) := by decide +kernel
theorem dX0_heldOf_6 : decode cX0_heldOf 6 = .ok (.getfield 15, 3) := by decide +kernel
theorem dX0_heldOf_9 : decode cX0_heldOf 9 = .ok (.arraylength, 1) := by decide +kernel
theorem dX0_heldOf_10 : decode cX0_heldOf 10 = .ok (.if_icmp .ge 12, 3) := by decide +kernel
theorem dX0_heldOf_13 : decode cX0_heldOf 13 = .ok (.aload_n 0, 1) := by decide +kernel
theorem dX0_heldOf_14 : decode cX0_heldOf 14 = .ok (.getfield 15, 3) := by decide +kernel
theorem dX0_heldOf_17 : decode cX0_heldOf 17 = .ok (.iload_n 1, 1) := by decide +kernel
theorem dX0_heldOf_18 : decode cX0_heldOf 18 = .ok (.laload, 1) := by decide +kernel
theorem dX0_heldOf_19 : decode cX0_heldOf 19 = .ok (.goto 4, 3) := by decide +kernel
theorem dX0_heldOf_22 : decode cX0_heldOf 22 = .ok (.lconst 0, 1) := by decide +kernel
theorem dX0_heldOf_23 : decode cX0_heldOf 23 = .ok (.lreturn, 1) := by decide +kernel
theorem dX0_blockedOf_0 : decode cX0_blockedOf 0 = .ok (.iload_n 1, 1) := by decide +kernel
theorem dX0_blockedOf_1 : decode cX0_blockedOf 1 = .ok (.ifCond .lt 21, 3) := by decide +kernel
theorem dX0_blockedOf_4 : decode cX0_blockedOf 4 = .ok (.iload_n 1, 1) := by decide +kernel
theorem dX0_blockedOf_5 : decode cX0_blockedOf 5 = .ok (.aload_n 0, 1) := by decide +kernel
theorem dX0_blockedOf_6 : decode cX0_blockedOf 6 = .ok (.getfield 19, 3) := by decide +kernel
theorem dX0_blockedOf_9 : decode cX0_blockedOf 9 = .ok (.arraylength, 1) := by decide +kernel
theorem dX0_blockedOf_10 : decode cX0_blockedOf 10 = .ok (.if_icmp .ge 12, 3) := by decide +kernel
theorem dX0_blockedOf_13 : decode cX0_blockedOf 13 = .ok (.aload_n 0, 1) := by decide +kernel
theorem dX0_blockedOf_14 : decode cX0_blockedOf 14 = .ok (.getfield 19, 3) := by decide +kernel
theorem dX0_blockedOf_17 : decode cX0_blockedOf 17 = .ok (.iload_n 1, 1) := by decide +kernel
theorem dX0_blockedOf_18 : decode cX0_blockedOf 18 = .ok (.laload, 1) := by decide +kernel
theorem dX0_blockedOf_19 : decode cX0_blockedOf 19 = .ok (.goto 4, 3) := by decide +kernel
theorem dX0_blockedOf_22 : decode cX0_blockedOf 22 = .ok (.lconst 0, 1) := by decide +kernel
theorem dX0_blockedOf_23 : decode cX0_blockedOf 23 = .ok (.lreturn, 1) := by decide +kernel
theorem dX0_freeOf_0 : decode cX0_freeOf 0 = .ok (.iload_n 1, 1) := by decide +kernel
theorem dX0_freeOf_1 : decode cX0_freeOf 1 = .ok (.ifCond .lt 25, 3) := by decide +kernel
theorem dX0_freeOf_4 : decode cX0_freeOf 4 = .ok (.iload_n 1, 1) := by decide +kernel
theorem dX0_freeOf_5 : decode cX0_freeOf 5 = .ok (.aload_n 0, 1) := by decide +kernel
theorem dX0_freeOf_6 : decode cX0_freeOf 6 = .ok (.getfield 15, 3) := by decide +kernel
theorem dX0_freeOf_9 : decode cX0_freeOf 9 = .ok (.arraylength, 1) := by decide +kernel
theorem dX0_freeOf_10 : decode cX0_freeOf 10 = .ok (.if_icmp .ge 16, 3) := by decide +kernel
theorem dX0_freeOf_13 : decode cX0_freeOf 13 = .ok (.iload_n 1, 1) := by decide +kernel
theorem dX0_freeOf_14 : decode cX0_freeOf 14 = .ok (.aload_n 0, 1) := by decide +kernel
theorem dX0_freeOf_15 : decode cX0_freeOf 15 = .ok (.getfield 19, 3) := by decide +kernel
theorem dX0_freeOf_18 : decode cX0_freeOf 18 = .ok (.arraylength, 1) := by decide +kernel
theorem dX0_freeOf_19 : decode cX0_freeOf 19 = .ok (.if_icmp .ge 7, 3) := by decide +kernel
theorem dX0_freeOf_22 : decode cX0_freeOf 22 = .ok (.iconst 1, 1) := by decide +kernel
theorem dX0_freeOf_23 : decode cX0_freeOf 23 = .ok (.goto 4, 3) := by decide +kernel
theorem dX0_freeOf_26 : decode cX0_freeOf 26 = .ok (.iconst 0, 1) := by decide +kernel
theorem dX0_freeOf_27 : decode cX0_freeOf 27 = .ok (.istore_n 2, 1) := by decide +kernel
theorem dX0_freeOf_28 : decode cX0_freeOf 28 = .ok (.iload_n 2, 1) := by decide +kernel
theorem dX0_freeOf_29 : decode cX0_freeOf 29 = .ok (.ifCond .eq 19, 3) := by decide +kernel
theorem dX0_freeOf_32 : decode cX0_freeOf 32 = .ok (.aload_n 0, 1) := by decide +kernel
theorem dX0_freeOf_33 : decode cX0_freeOf 33 = .ok (.getfield 15, 3) := by decide +kernel
theorem dX0_freeOf_36 : decode cX0_freeOf 36 = .ok (.iload_n 1, 1) := by decide +kernel
theorem dX0_freeOf_37 : decode cX0_freeOf 37 = .ok (.laload, 1) := by decide +kernel
theorem dX0_freeOf_38 : decode cX0_freeOf 38 = .ok (.aload_n 0, 1) := by decide +kernel
theorem dX0_freeOf_39 : decode cX0_freeOf 39 = .ok (.getfield 19, 3) := by decide +kernel
theorem dX0_freeOf_42 : decode cX0_freeOf 42 = .ok (.iload_n 1, 1) := by decide +kernel
theorem dX0_freeOf_43 : decode cX0_freeOf 43 = .ok (.laload, 1) := by decide +kernel
theorem dX0_freeOf_44 : decode cX0_freeOf 44 = .ok (.lsub, 1) := by decide +kernel
theorem dX0_freeOf_45 : decode cX0_freeOf 45 = .ok (.goto 4, 3) := by decide +kernel
theorem dX0_freeOf_48 : decode cX0_freeOf 48 = .ok (.lconst 0, 1) := by decide +kernel
theorem dX0_freeOf_49 : decode cX0_freeOf 49 = .ok (.lreturn, 1) := by decide +kernel
theorem dX0_freeCash_0 : decode cX0_freeCash 0 = .ok (.aload_n 0, 1) := by decide +kernel
theorem dX0_freeCash_1 : decode cX0_freeCash 1 = .ok (.getfield 25, 3) := by decide +kernel
theorem dX0_freeCash_4 : decode cX0_freeCash 4 = .ok (.aload_n 0, 1) := by decide +kernel
theorem dX0_freeCash_5 : decode cX0_freeCash 5 = .ok (.getfield 29, 3) := by decide +kernel
theorem dX0_freeCash_8 : decode cX0_freeCash 8 = .ok (.lsub, 1) := by decide +kernel
theorem dX0_freeCash_9 : decode cX0_freeCash 9 = .ok (.lreturn, 1) := by decide +kernel
theorem dX0_setBlocked_0 : decode cX0_setBlocked 0 = .ok (.iload_n 1, 1) := by decide +kernel
theorem dX0_setBlocked_1 : decode cX0_setBlocked 1 = .ok (.ifCond .lt 19, 3) := by decide +kernel
theorem dX0_setBlocked_4 : decode cX0_setBlocked 4 = .ok (.iload_n 1, 1) := by decide +kernel
theorem dX0_setBlocked_5 : decode cX0_setBlocked 5 = .ok (.aload_n 0, 1) := by decide +kernel
theorem dX0_setBlocked_6 : decode cX0_setBlocked 6 = .ok (.getfield 19, 3) := by decide +kernel
theorem dX0_setBlocked_9 : decode cX0_setBlocked 9 = .ok (.arraylength, 1) := by decide +kernel
theorem dX0_setBlocked_10 : decode cX0_setBlocked 10 = .ok (.if_icmp .ge 10, 3) := by decide +kernel
theorem dX0_setBlocked_13 : decode cX0_setBlocked 13 = .ok (.aload_n 0, 1) := by decide +kernel
theorem dX0_setBlocked_14 : decode cX0_setBlocked 14 = .ok (.getfield 19, 3) := by decide +kernel
theorem dX0_setBlocked_17 : decode cX0_setBlocked 17 = .ok (.iload_n 1, 1) := by decide +kernel
theorem dX0_setBlocked_18 : decode cX0_setBlocked 18 = .ok (.lload_n 2, 1) := by decide +kernel
theorem dX0_setBlocked_19 : decode cX0_setBlocked 19 = .ok (.lastore, 1) := by decide +kernel
theorem dX0_setBlocked_20 : decode cX0_setBlocked 20 = .ok (.return_, 1) := by decide +kernel
theorem dX0_shift_0 : decode cX0_shift 0 = .ok (.iload_n 1, 1) := by decide +kernel
theorem dX0_shift_1 : decode cX0_shift 1 = .ok (.ifCond .lt 22, 3) := by decide +kernel
theorem dX0_shift_4 : decode cX0_shift 4 = .ok (.iload_n 1, 1) := by decide +kernel
theorem dX0_shift_5 : decode cX0_shift 5 = .ok (.aload_n 0, 1) := by decide +kernel
theorem dX0_shift_6 : decode cX0_shift 6 = .ok (.getfield 15, 3) := by decide +kernel
theorem dX0_shift_9 : decode cX0_shift 9 = .ok (.arraylength, 1) := by decide +kernel
theorem dX0_shift_10 : decode cX0_shift 10 = .ok (.if_icmp .ge 13, 3) := by decide +kernel
theorem dX0_shift_13 : decode cX0_shift 13 = .ok (.aload_n 0, 1) := by decide +kernel
theorem dX0_shift_14 : decode cX0_shift 14 = .ok (.getfield 15, 3) := by decide +kernel
theorem dX0_shift_17 : decode cX0_shift 17 = .ok (.iload_n 1, 1) := by decide +kernel
theorem dX0_shift_18 : decode cX0_shift 18 = .ok (.dup2, 1) := by decide +kernel
theorem dX0_shift_19 : decode cX0_shift 19 = .ok (.laload, 1) := by decide +kernel
theorem dX0_shift_20 : decode cX0_shift 20 = .ok (.lload_n 2, 1) := by decide +kernel
theorem dX0_shift_21 : decode cX0_shift 21 = .ok (.ladd, 1) := by decide +kernel
theorem dX0_shift_22 : decode cX0_shift 22 = .ok (.lastore, 1) := by decide +kernel
theorem dX0_shift_23 : decode cX0_shift 23 = .ok (.return_, 1) := by decide +kernel
theorem dX0_move_0 : decode cX0_move 0 = .ok (.aload_n 0, 1) := by decide +kernel
theorem dX0_move_1 : decode cX0_move 1 = .ok (.iload_n 1, 1) := by decide +kernel
theorem dX0_move_2 : decode cX0_move 2 = .ok (.lload_n 2, 1) := by decide +kernel
theorem dX0_move_3 : decode cX0_move 3 = .ok (.invokevirtual 32, 3) := by decide +kernel
theorem dX0_move_6 : decode cX0_move 6 = .ok (.iload 4, 2) := by decide +kernel
theorem dX0_move_8 : decode cX0_move 8 = .ok (.iconst 4, 1) := by decide +kernel
theorem dX0_move_9 : decode cX0_move 9 = .ok (.imul, 1) := by decide +kernel
theorem dX0_move_10 : decode cX0_move 10 = .ok (.iload_n 1, 1) := by decide +kernel
theorem dX0_move_11 : decode cX0_move 11 = .ok (.iadd, 1) := by decide +kernel
theorem dX0_move_12 : decode cX0_move 12 = .ok (.istore 5, 2) := by decide +kernel
theorem dX0_move_14 : decode cX0_move 14 = .ok (.iload 5, 2) := by decide +kernel
theorem dX0_move_16 : decode cX0_move 16 = .ok (.ifCond .lt 24, 3) := by decide +kernel
theorem dX0_move_19 : decode cX0_move 19 = .ok (.iload 5, 2) := by decide +kernel
theorem dX0_move_21 : decode cX0_move 21 = .ok (.aload_n 0, 1) := by decide +kernel
theorem dX0_move_22 : decode cX0_move 22 = .ok (.getfield 22, 3) := by decide +kernel
theorem dX0_move_25 : decode cX0_move 25 = .ok (.arraylength, 1) := by decide +kernel
theorem dX0_move_26 : decode cX0_move 26 = .ok (.if_icmp .ge 14, 3) := by decide +kernel
theorem dX0_move_29 : decode cX0_move 29 = .ok (.aload_n 0, 1) := by decide +kernel
theorem dX0_move_30 : decode cX0_move 30 = .ok (.getfield 22, 3) := by decide +kernel
theorem dX0_move_33 : decode cX0_move 33 = .ok (.iload 5, 2) := by decide +kernel
theorem dX0_move_35 : decode cX0_move 35 = .ok (.dup2, 1) := by decide +kernel
theorem dX0_move_36 : decode cX0_move 36 = .ok (.laload, 1) := by decide +kernel
theorem dX0_move_37 : decode cX0_move 37 = .ok (.lload_n 2, 1) := by decide +kernel
theorem dX0_move_38 : decode cX0_move 38 = .ok (.ladd, 1) := by decide +kernel
theorem dX0_move_39 : decode cX0_move 39 = .ok (.lastore, 1) := by decide +kernel
theorem dX0_move_40 : decode cX0_move 40 = .ok (.return_, 1) := by decide +kernel
theorem dX0_copyFrom_0 : decode cX0_copyFrom 0 = .ok (.aload_n 0, 1) := by decide +kernel
theorem dX0_copyFrom_1 : decode cX0_copyFrom 1 = .ok (.aload_n 1, 1) := by decide +kernel
theorem dX0_copyFrom_2 : decode cX0_copyFrom 2 = .ok (.getfield 36, 3) := by decide +kernel
theorem dX0_copyFrom_5 : decode cX0_copyFrom 5 = .ok (.putfield 36, 3) := by decide +kernel
theorem dX0_copyFrom_8 : decode cX0_copyFrom 8 = .ok (.aload_n 0, 1) := by decide +kernel
theorem dX0_copyFrom_9 : decode cX0_copyFrom 9 = .ok (.aload_n 1, 1) := by decide +kernel
theorem dX0_copyFrom_10 : decode cX0_copyFrom 10 = .ok (.getfield 9, 3) := by decide +kernel
theorem dX0_copyFrom_13 : decode cX0_copyFrom 13 = .ok (.putfield 9, 3) := by decide +kernel
theorem dX0_copyFrom_16 : decode cX0_copyFrom 16 = .ok (.aload_n 0, 1) := by decide +kernel
theorem dX0_copyFrom_17 : decode cX0_copyFrom 17 = .ok (.aload_n 1, 1) := by decide +kernel
theorem dX0_copyFrom_18 : decode cX0_copyFrom 18 = .ok (.getfield 39, 3) := by decide +kernel
theorem dX0_copyFrom_21 : decode cX0_copyFrom 21 = .ok (.putfield 39, 3) := by decide +kernel
theorem dX0_copyFrom_24 : decode cX0_copyFrom 24 = .ok (.aload_n 0, 1) := by decide +kernel
theorem dX0_copyFrom_25 : decode cX0_copyFrom 25 = .ok (.aload_n 1, 1) := by decide +kernel
theorem dX0_copyFrom_26 : decode cX0_copyFrom 26 = .ok (.getfield 43, 3) := by decide +kernel
theorem dX0_copyFrom_29 : decode cX0_copyFrom 29 = .ok (.putfield 43, 3) := by decide +kernel
theorem dX0_copyFrom_32 : decode cX0_copyFrom 32 = .ok (.aload_n 0, 1) := by decide +kernel
theorem dX0_copyFrom_33 : decode cX0_copyFrom 33 = .ok (.aload_n 1, 1) := by decide +kernel
theorem dX0_copyFrom_34 : decode cX0_copyFrom 34 = .ok (.getfield 46, 3) := by decide +kernel
theorem dX0_copyFrom_37 : decode cX0_copyFrom 37 = .ok (.putfield 46, 3) := by decide +kernel
theorem dX0_copyFrom_40 : decode cX0_copyFrom 40 = .ok (.aload_n 0, 1) := by decide +kernel
theorem dX0_copyFrom_41 : decode cX0_copyFrom 41 = .ok (.aload_n 1, 1) := by decide +kernel
theorem dX0_copyFrom_42 : decode cX0_copyFrom 42 = .ok (.getfield 25, 3) := by decide +kernel
theorem dX0_copyFrom_45 : decode cX0_copyFrom 45 = .ok (.putfield 25, 3) := by decide +kernel
theorem dX0_copyFrom_48 : decode cX0_copyFrom 48 = .ok (.aload_n 0, 1) := by decide +kernel
theorem dX0_copyFrom_49 : decode cX0_copyFrom 49 = .ok (.aload_n 1, 1) := by decide +kernel
theorem dX0_copyFrom_50 : decode cX0_copyFrom 50 = .ok (.getfield 29, 3) := by decide +kernel
theorem dX0_copyFrom_53 : decode cX0_copyFrom 53 = .ok (.putfield 29, 3) := by decide +kernel
theorem dX0_copyFrom_56 : decode cX0_copyFrom 56 = .ok (.aload_n 0, 1) := by decide +kernel
theorem dX0_copyFrom_57 : decode cX0_copyFrom 57 = .ok (.aload_n 1, 1) := by decide +kernel
theorem dX0_copyFrom_58 : decode cX0_copyFrom 58 = .ok (.getfield 49, 3) := by decide +kernel
theorem dX0_copyFrom_61 : decode cX0_copyFrom 61 = .ok (.putfield 49, 3) := by decide +kernel
theorem dX0_copyFrom_64 : decode cX0_copyFrom 64 = .ok (.aload_n 0, 1) := by decide +kernel
theorem dX0_copyFrom_65 : decode cX0_copyFrom 65 = .ok (.aload_n 1, 1) := by decide +kernel
theorem dX0_copyFrom_66 : decode cX0_copyFrom 66 = .ok (.getfield 52, 3) := by decide +kernel
theorem dX0_copyFrom_69 : decode cX0_copyFrom 69 = .ok (.putfield 52, 3) := by decide +kernel
theorem dX0_copyFrom_72 : decode cX0_copyFrom 72 = .ok (.aload_n 1, 1) := by decide +kernel
theorem dX0_copyFrom_73 : decode cX0_copyFrom 73 = .ok (.getfield 15, 3) := by decide +kernel
theorem dX0_copyFrom_76 : decode cX0_copyFrom 76 = .ok (.aload_n 0, 1) := by decide +kernel
theorem dX0_copyFrom_77 : decode cX0_copyFrom 77 = .ok (.getfield 15, 3) := by decide +kernel
theorem dX0_copyFrom_80 : decode cX0_copyFrom 80 = .ok (.invokestatic 55, 3) := by decide +kernel
theorem dX0_copyFrom_83 : decode cX0_copyFrom 83 = .ok (.aload_n 1, 1) := by decide +kernel
theorem dX0_copyFrom_84 : decode cX0_copyFrom 84 = .ok (.getfield 19, 3) := by decide +kernel
theorem dX0_copyFrom_87 : decode cX0_copyFrom 87 = .ok (.aload_n 0, 1) := by decide +kernel
theorem dX0_copyFrom_88 : decode cX0_copyFrom 88 = .ok (.getfield 19, 3) := by decide +kernel
theorem dX0_copyFrom_91 : decode cX0_copyFrom 91 = .ok (.invokestatic 55, 3) := by decide +kernel
theorem dX0_copyFrom_94 : decode cX0_copyFrom 94 = .ok (.aload_n 1, 1) := by decide +kernel
theorem dX0_copyFrom_95 : decode cX0_copyFrom 95 = .ok (.getfield 22, 3) := by decide +kernel
theorem dX0_copyFrom_98 : decode cX0_copyFrom 98 = .ok (.aload_n 0, 1) := by decide +kernel
theorem dX0_copyFrom_99 : decode cX0_copyFrom 99 = .ok (.getfield 22, 3) := by decide +kernel
theorem dX0_copyFrom_102 : decode cX0_copyFrom 102 = .ok (.invokestatic 55, 3) := by decide +kernel
theorem dX0_copyFrom_105 : decode cX0_copyFrom 105 = .ok (.return_, 1) := by decide +kernel
theorem dX1_account_0 : decode cX1_account 0 = .ok (.aload_n 0, 1) := by decide +kernel
theorem dX1_account_1 : decode cX1_account 1 = .ok (.getfield 11, 3) := by decide +kernel
theorem dX1_account_4 : decode cX1_account 4 = .ok (.iload_n 1, 1) := by decide +kernel
theorem dX1_account_5 : decode cX1_account 5 = .ok (.ifCond .lt 9, 3) := by decide +kernel
theorem dX1_account_8 : decode cX1_account 8 = .ok (.iload_n 1, 1) := by decide +kernel
theorem dX1_account_9 : decode cX1_account 9 = .ok (.bipush 10, 2) := by decide +kernel
theorem dX1_account_11 : decode cX1_account 11 = .ok (.if_icmp .le 8, 3) := by decide +kernel
theorem dX1_account_14 : decode cX1_account 14 = .ok (.bipush 10, 2) := by decide +kernel
theorem dX1_account_16 : decode cX1_account 16 = .ok (.goto 4, 3) := by decide +kernel
theorem dX1_account_19 : decode cX1_account 19 = .ok (.iload_n 1, 1) := by decide +kernel
theorem dX1_account_20 : decode cX1_account 20 = .ok (.aaload, 1) := by decide +kernel
theorem dX1_account_21 : decode cX1_account 21 = .ok (.areturn, 1) := by decide +kernel
theorem dX1_security_0 : decode cX1_security 0 = .ok (.aload_n 0, 1) := by decide +kernel
theorem dX1_security_1 : decode cX1_security 1 = .ok (.getfield 19, 3) := by decide +kernel
theorem dX1_security_4 : decode cX1_security 4 = .ok (.iload_n 1, 1) := by decide +kernel
theorem dX1_security_5 : decode cX1_security 5 = .ok (.ifCond .lt 8, 3) := by decide +kernel
theorem dX1_security_8 : decode cX1_security 8 = .ok (.iload_n 1, 1) := by decide +kernel
theorem dX1_security_9 : decode cX1_security 9 = .ok (.iconst 4, 1) := by decide +kernel
theorem dX1_security_10 : decode cX1_security 10 = .ok (.if_icmp .le 7, 3) := by decide +kernel
theorem dX1_security_13 : decode cX1_security 13 = .ok (.iconst 4, 1) := by decide +kernel
theorem dX1_security_14 : decode cX1_security 14 = .ok (.goto 4, 3) := by decide +kernel
theorem dX1_security_17 : decode cX1_security 17 = .ok (.iload_n 1, 1) := by decide +kernel
theorem dX1_security_18 : decode cX1_security 18 = .ok (.aaload, 1) := by decide +kernel
theorem dX1_security_19 : decode cX1_security 19 = .ok (.areturn, 1) := by decide +kernel
theorem dX1_instruction_0 : decode cX1_instruction 0 = .ok (.aload_n 0, 1) := by decide +kernel
theorem dX1_instruction_1 : decode cX1_instruction 1 = .ok (.getfield 25, 3) := by decide +kernel
theorem dX1_instruction_4 : decode cX1_instruction 4 = .ok (.iload_n 1, 1) := by decide +kernel
theorem dX1_instruction_5 : decode cX1_instruction 5 = .ok (.ifCond .lt 9, 3) := by decide +kernel
theorem dX1_instruction_8 : decode cX1_instruction 8 = .ok (.iload_n 1, 1) := by decide +kernel
theorem dX1_instruction_9 : decode cX1_instruction 9 = .ok (.bipush 40, 2) := by decide +kernel
theorem dX1_instruction_11 : decode cX1_instruction 11 = .ok (.if_icmp .le 8, 3) := by decide +kernel
theorem dX1_instruction_14 : decode cX1_instruction 14 = .ok (.bipush 40, 2) := by decide +kernel
theorem dX1_instruction_16 : decode cX1_instruction 16 = .ok (.goto 4, 3) := by decide +kernel
theorem dX1_instruction_19 : decode cX1_instruction 19 = .ok (.iload_n 1, 1) := by decide +kernel
theorem dX1_instruction_20 : decode cX1_instruction 20 = .ok (.aaload, 1) := by decide +kernel
theorem dX1_instruction_21 : decode cX1_instruction 21 = .ok (.areturn, 1) := by decide +kernel
theorem dX1_trade_0 : decode cX1_trade 0 = .ok (.aload_n 0, 1) := by decide +kernel
theorem dX1_trade_1 : decode cX1_trade 1 = .ok (.getfield 31, 3) := by decide +kernel
theorem dX1_trade_4 : decode cX1_trade 4 = .ok (.iload_n 1, 1) := by decide +kernel
theorem dX1_trade_5 : decode cX1_trade 5 = .ok (.ifCond .lt 9, 3) := by decide +kernel
theorem dX1_trade_8 : decode cX1_trade 8 = .ok (.iload_n 1, 1) := by decide +kernel
theorem dX1_trade_9 : decode cX1_trade 9 = .ok (.bipush 20, 2) := by decide +kernel
theorem dX1_trade_11 : decode cX1_trade 11 = .ok (.if_icmp .le 8, 3) := by decide +kernel
theorem dX1_trade_14 : decode cX1_trade 14 = .ok (.bipush 20, 2) := by decide +kernel
theorem dX1_trade_16 : decode cX1_trade 16 = .ok (.goto 4, 3) := by decide +kernel
theorem dX1_trade_19 : decode cX1_trade 19 = .ok (.iload_n 1, 1) := by decide +kernel
theorem dX1_trade_20 : decode cX1_trade 20 = .ok (.aaload, 1) := by decide +kernel
theorem dX1_trade_21 : decode cX1_trade 21 = .ok (.areturn, 1) := by decide +kernel
theorem dX1_linkAt_0 : decode cX1_linkAt 0 = .ok (.aload_n 0, 1) := by decide +kernel
theorem dX1_linkAt_1 : decode cX1_linkAt 1 = .ok (.getfield 37, 3) := by decide +kernel
theorem dX1_linkAt_4 : decode cX1_linkAt 4 = .ok (.iload_n 1, 1) := by decide +kernel
theorem dX1_linkAt_5 : decode cX1_linkAt 5 = .ok (.ifCond .lt 9, 3) := by decide +kernel
theorem dX1_linkAt_8 : decode cX1_linkAt 8 = .ok (.iload_n 1, 1) := by decide +kernel
theorem dX1_linkAt_9 : decode cX1_linkAt 9 = .ok (.bipush 10, 2) := by decide +kernel
theorem dX1_linkAt_11 : decode cX1_linkAt 11 = .ok (.if_icmp .le 8, 3) := by decide +kernel
theorem dX1_linkAt_14 : decode cX1_linkAt 14 = .ok (.bipush 10, 2) := by decide +kernel
theorem dX1_linkAt_16 : decode cX1_linkAt 16 = .ok (.goto 4, 3) := by decide +kernel
theorem dX1_linkAt_19 : decode cX1_linkAt 19 = .ok (.iload_n 1, 1) := by decide +kernel
theorem dX1_linkAt_20 : decode cX1_linkAt 20 = .ok (.aaload, 1) := by decide +kernel
theorem dX1_linkAt_21 : decode cX1_linkAt 21 = .ok (.areturn, 1) := by decide +kernel
theorem dX1_loanAt_0 : decode cX1_loanAt 0 = .ok (.aload_n 0, 1) := by decide +kernel
theorem dX1_loanAt_1 : decode cX1_loanAt 1 = .ok (.getfield 43, 3) := by decide +kernel
theorem dX1_loanAt_4 : decode cX1_loanAt 4 = .ok (.iload_n 1, 1) := by decide +kernel
theorem dX1_loanAt_5 : decode cX1_loanAt 5 = .ok (.ifCond .lt 9, 3) := by decide +kernel
theorem dX1_loanAt_8 : decode cX1_loanAt 8 = .ok (.iload_n 1, 1) := by decide +kernel
theorem dX1_loanAt_9 : decode cX1_loanAt 9 = .ok (.bipush 20, 2) := by decide +kernel
theorem dX1_loanAt_11 : decode cX1_loanAt 11 = .ok (.if_icmp .le 8, 3) := by decide +kernel
theorem dX1_loanAt_14 : decode cX1_loanAt 14 = .ok (.bipush 20, 2) := by decide +kernel
theorem dX1_loanAt_16 : decode cX1_loanAt 16 = .ok (.goto 4, 3) := by decide +kernel
theorem dX1_loanAt_19 : decode cX1_loanAt 19 = .ok (.iload_n 1, 1) := by decide +kernel
theorem dX1_loanAt_20 : decode cX1_loanAt 20 = .ok (.aaload, 1) := by decide +kernel
theorem dX1_loanAt_21 : decode cX1_loanAt 21 = .ok (.areturn, 1) := by decide +kernel
theorem dX1_event_0 : decode cX1_event 0 = .ok (.aload_n 0, 1) := by decide +kernel
theorem dX1_event_1 : decode cX1_event 1 = .ok (.getfield 49, 3) := by decide +kernel
theorem dX1_event_4 : decode cX1_event 4 = .ok (.iload_n 1, 1) := by decide +kernel
theorem dX1_event_5 : decode cX1_event 5 = .ok (.ifCond .lt 9, 3) := by decide +kernel
theorem dX1_event_8 : decode cX1_event 8 = .ok (.iload_n 1, 1) := by decide +kernel
theorem dX1_event_9 : decode cX1_event 9 = .ok (.bipush 10, 2) := by decide +kernel
theorem dX1_event_11 : decode cX1_event 11 = .ok (.if_icmp .le 8, 3) := by decide +kernel
theorem dX1_event_14 : decode cX1_event 14 = .ok (.bipush 10, 2) := by decide +kernel
theorem dX1_event_16 : decode cX1_event 16 = .ok (.goto 4, 3) := by decide +kernel
theorem dX1_event_19 : decode cX1_event 19 = .ok (.iload_n 1, 1) := by decide +kernel
theorem dX1_event_20 : decode cX1_event 20 = .ok (.aaload, 1) := by decide +kernel
theorem dX1_event_21 : decode cX1_event 21 = .ok (.areturn, 1) := by decide +kernel
theorem dX1_copyFrom_0 : decode cX1_copyFrom 0 = .ok (.iconst 0, 1) := by decide +kernel
theorem dX1_copyFrom_1 : decode cX1_copyFrom 1 = .ok (.istore_n 2, 1) := by decide +kernel
theorem dX1_copyFrom_2 : decode cX1_copyFrom 2 = .ok (.iload_n 2, 1) := by decide +kernel
theorem dX1_copyFrom_3 : decode cX1_copyFrom 3 = .ok (.bipush 10, 2) := by decide +kernel
theorem dX1_copyFrom_5 : decode cX1_copyFrom 5 = .ok (.if_icmp .gt 22, 3) := by decide +kernel
theorem dX1_copyFrom_8 : decode cX1_copyFrom 8 = .ok (.aload_n 0, 1) := by decide +kernel
theorem dX1_copyFrom_9 : decode cX1_copyFrom 9 = .ok (.iload_n 2, 1) := by decide +kernel
theorem dX1_copyFrom_10 : decode cX1_copyFrom 10 = .ok (.invokevirtual 72, 3) := by decide +kernel
theorem dX1_copyFrom_13 : decode cX1_copyFrom 13 = .ok (.aload_n 1, 1) := by decide +kernel
theorem dX1_copyFrom_14 : decode cX1_copyFrom 14 = .ok (.iload_n 2, 1) := by decide +kernel
theorem dX1_copyFrom_15 : decode cX1_copyFrom 15 = .ok (.invokevirtual 72, 3) := by decide +kernel
theorem dX1_copyFrom_18 : decode cX1_copyFrom 18 = .ok (.invokevirtual 76, 3) := by decide +kernel
theorem dX1_copyFrom_21 : decode cX1_copyFrom 21 = .ok (.iinc 2 1, 3) := by decide +kernel
theorem dX1_copyFrom_24 : decode cX1_copyFrom 24 = .ok (.goto (-22), 3) := by decide +kernel
theorem dX1_copyFrom_27 : decode cX1_copyFrom 27 = .ok (.iconst 0, 1) := by decide +kernel
theorem dX1_copyFrom_28 : decode cX1_copyFrom 28 = .ok (.istore_n 2, 1) := by decide +kernel
theorem dX1_copyFrom_29 : decode cX1_copyFrom 29 = .ok (.iload_n 2, 1) := by decide +kernel
theorem dX1_copyFrom_30 : decode cX1_copyFrom 30 = .ok (.iconst 4, 1) := by decide +kernel
theorem dX1_copyFrom_31 : decode cX1_copyFrom 31 = .ok (.if_icmp .gt 22, 3) := by decide +kernel
theorem dX1_copyFrom_34 : decode cX1_copyFrom 34 = .ok (.aload_n 0, 1) := by decide +kernel
theorem dX1_copyFrom_35 : decode cX1_copyFrom 35 = .ok (.iload_n 2, 1) := by decide +kernel
theorem dX1_copyFrom_36 : decode cX1_copyFrom 36 = .ok (.invokevirtual 80, 3) := by decide +kernel
theorem dX1_copyFrom_39 : decode cX1_copyFrom 39 = .ok (.aload_n 1, 1) := by decide +kernel
theorem dX1_copyFrom_40 : decode cX1_copyFrom 40 = .ok (.iload_n 2, 1) := by decide +kernel
theorem dX1_copyFrom_41 : decode cX1_copyFrom 41 = .ok (.invokevirtual 80, 3) := by decide +kernel
theorem dX1_copyFrom_44 : decode cX1_copyFrom 44 = .ok (.invokevirtual 84, 3) := by decide +kernel
theorem dX1_copyFrom_47 : decode cX1_copyFrom 47 = .ok (.iinc 2 1, 3) := by decide +kernel
theorem dX1_copyFrom_50 : decode cX1_copyFrom 50 = .ok (.goto (-21), 3) := by decide +kernel
theorem dX1_copyFrom_53 : decode cX1_copyFrom 53 = .ok (.iconst 0, 1) := by decide +kernel
theorem dX1_copyFrom_54 : decode cX1_copyFrom 54 = .ok (.istore_n 2, 1) := by decide +kernel
theorem dX1_copyFrom_55 : decode cX1_copyFrom 55 = .ok (.iload_n 2, 1) := by decide +kernel
theorem dX1_copyFrom_56 : decode cX1_copyFrom 56 = .ok (.bipush 40, 2) := by decide +kernel
theorem dX1_copyFrom_58 : decode cX1_copyFrom 58 = .ok (.if_icmp .gt 22, 3) := by decide +kernel
theorem dX1_copyFrom_61 : decode cX1_copyFrom 61 = .ok (.aload_n 0, 1) := by decide +kernel
theorem dX1_copyFrom_62 : decode cX1_copyFrom 62 = .ok (.iload_n 2, 1) := by decide +kernel
theorem dX1_copyFrom_63 : decode cX1_copyFrom 63 = .ok (.invokevirtual 87, 3) := by decide +kernel
theorem dX1_copyFrom_66 : decode cX1_copyFrom 66 = .ok (.aload_n 1, 1) := by decide +kernel
theorem dX1_copyFrom_67 : decode cX1_copyFrom 67 = .ok (.iload_n 2, 1) := by decide +kernel
theorem dX1_copyFrom_68 : decode cX1_copyFrom 68 = .ok (.invokevirtual 87, 3) := by decide +kernel
theorem dX1_copyFrom_71 : decode cX1_copyFrom 71 = .ok (.invokevirtual 91, 3) := by decide +kernel
theorem dX1_copyFrom_74 : decode cX1_copyFrom 74 = .ok (.iinc 2 1, 3) := by decide +kernel
theorem dX1_copyFrom_77 : decode cX1_copyFrom 77 = .ok (.goto (-22), 3) := by decide +kernel
theorem dX1_copyFrom_80 : decode cX1_copyFrom 80 = .ok (.iconst 0, 1) := by decide +kernel
theorem dX1_copyFrom_81 : decode cX1_copyFrom 81 = .ok (.istore_n 2, 1) := by decide +kernel
theorem dX1_copyFrom_82 : decode cX1_copyFrom 82 = .ok (.iload_n 2, 1) := by decide +kernel
theorem dX1_copyFrom_83 : decode cX1_copyFrom 83 = .ok (.bipush 20, 2) := by decide +kernel
theorem dX1_copyFrom_85 : decode cX1_copyFrom 85 = .ok (.if_icmp .gt 22, 3) := by decide +kernel
theorem dX1_copyFrom_88 : decode cX1_copyFrom 88 = .ok (.aload_n 0, 1) := by decide +kernel
theorem dX1_copyFrom_89 : decode cX1_copyFrom 89 = .ok (.iload_n 2, 1) := by decide +kernel
theorem dX1_copyFrom_90 : decode cX1_copyFrom 90 = .ok (.invokevirtual 94, 3) := by decide +kernel
theorem dX1_copyFrom_93 : decode cX1_copyFrom 93 = .ok (.aload_n 1, 1) := by decide +kernel
theorem dX1_copyFrom_94 : decode cX1_copyFrom 94 = .ok (.iload_n 2, 1) := by decide +kernel
theorem dX1_copyFrom_95 : decode cX1_copyFrom 95 = .ok (.invokevirtual 94, 3) := by decide +kernel
theorem dX1_copyFrom_98 : decode cX1_copyFrom 98 = .ok (.invokevirtual 98, 3) := by decide +kernel
theorem dX1_copyFrom_101 : decode cX1_copyFrom 101 = .ok (.iinc 2 1, 3) := by decide +kernel
theorem dX1_copyFrom_104 : decode cX1_copyFrom 104 = .ok (.goto (-22), 3) := by decide +kernel
theorem dX1_copyFrom_107 : decode cX1_copyFrom 107 = .ok (.iconst 0, 1) := by decide +kernel
theorem dX1_copyFrom_108 : decode cX1_copyFrom 108 = .ok (.istore_n 2, 1) := by decide +kernel
theorem dX1_copyFrom_109 : decode cX1_copyFrom 109 = .ok (.iload_n 2, 1) := by decide +kernel
theorem dX1_copyFrom_110 : decode cX1_copyFrom 110 = .ok (.bipush 10, 2) := by decide +kernel
theorem dX1_copyFrom_112 : decode cX1_copyFrom 112 = .ok (.if_icmp .gt 22, 3) := by decide +kernel
theorem dX1_copyFrom_115 : decode cX1_copyFrom 115 = .ok (.aload_n 0, 1) := by decide +kernel
theorem dX1_copyFrom_116 : decode cX1_copyFrom 116 = .ok (.iload_n 2, 1) := by decide +kernel
theorem dX1_copyFrom_117 : decode cX1_copyFrom 117 = .ok (.invokevirtual 101, 3) := by decide +kernel
theorem dX1_copyFrom_120 : decode cX1_copyFrom 120 = .ok (.aload_n 1, 1) := by decide +kernel
theorem dX1_copyFrom_121 : decode cX1_copyFrom 121 = .ok (.iload_n 2, 1) := by decide +kernel
theorem dX1_copyFrom_122 : decode cX1_copyFrom 122 = .ok (.invokevirtual 101, 3) := by decide +kernel
theorem dX1_copyFrom_125 : decode cX1_copyFrom 125 = .ok (.invokevirtual 105, 3) := by decide +kernel
theorem dX1_copyFrom_128 : decode cX1_copyFrom 128 = .ok (.iinc 2 1, 3) := by decide +kernel
theorem dX1_copyFrom_131 : decode cX1_copyFrom 131 = .ok (.goto (-22), 3) := by decide +kernel
theorem dX1_copyFrom_134 : decode cX1_copyFrom 134 = .ok (.iconst 0, 1) := by decide +kernel
theorem dX1_copyFrom_135 : decode cX1_copyFrom 135 = .ok (.istore_n 2, 1) := by decide +kernel
theorem dX1_copyFrom_136 : decode cX1_copyFrom 136 = .ok (.iload_n 2, 1) := by decide +kernel
theorem dX1_copyFrom_137 : decode cX1_copyFrom 137 = .ok (.bipush 20, 2) := by decide +kernel
theorem dX1_copyFrom_139 : decode cX1_copyFrom 139 = .ok (.if_icmp .gt 22, 3) := by decide +kernel
theorem dX1_copyFrom_142 : decode cX1_copyFrom 142 = .ok (.aload_n 0, 1) := by decide +kernel
theorem dX1_copyFrom_143 : decode cX1_copyFrom 143 = .ok (.iload_n 2, 1) := by decide +kernel
theorem dX1_copyFrom_144 : decode cX1_copyFrom 144 = .ok (.invokevirtual 108, 3) := by decide +kernel
theorem dX1_copyFrom_147 : decode cX1_copyFrom 147 = .ok (.aload_n 1, 1) := by decide +kernel
theorem dX1_copyFrom_148 : decode cX1_copyFrom 148 = .ok (.iload_n 2, 1) := by decide +kernel
theorem dX1_copyFrom_149 : decode cX1_copyFrom 149 = .ok (.invokevirtual 108, 3) := by decide +kernel
theorem dX1_copyFrom_152 : decode cX1_copyFrom 152 = .ok (.invokevirtual 112, 3) := by decide +kernel
theorem dX1_copyFrom_155 : decode cX1_copyFrom 155 = .ok (.iinc 2 1, 3) := by decide +kernel
theorem dX1_copyFrom_158 : decode cX1_copyFrom 158 = .ok (.goto (-22), 3) := by decide +kernel
theorem dX1_copyFrom_161 : decode cX1_copyFrom 161 = .ok (.iconst 0, 1) := by decide +kernel
theorem dX1_copyFrom_162 : decode cX1_copyFrom 162 = .ok (.istore_n 2, 1) := by decide +kernel
theorem dX1_copyFrom_163 : decode cX1_copyFrom 163 = .ok (.iload_n 2, 1) := by decide +kernel
theorem dX1_copyFrom_164 : decode cX1_copyFrom 164 = .ok (.bipush 10, 2) := by decide +kernel
theorem dX1_copyFrom_166 : decode cX1_copyFrom 166 = .ok (.if_icmp .gt 22, 3) := by decide +kernel
theorem dX1_copyFrom_169 : decode cX1_copyFrom 169 = .ok (.aload_n 0, 1) := by decide +kernel
theorem dX1_copyFrom_170 : decode cX1_copyFrom 170 = .ok (.iload_n 2, 1) := by decide +kernel
theorem dX1_copyFrom_171 : decode cX1_copyFrom 171 = .ok (.invokevirtual 115, 3) := by decide +kernel
theorem dX1_copyFrom_174 : decode cX1_copyFrom 174 = .ok (.aload_n 1, 1) := by decide +kernel
theorem dX1_copyFrom_175 : decode cX1_copyFrom 175 = .ok (.iload_n 2, 1) := by decide +kernel
theorem dX1_copyFrom_176 : decode cX1_copyFrom 176 = .ok (.invokevirtual 115, 3) := by decide +kernel
theorem dX1_copyFrom_179 : decode cX1_copyFrom 179 = .ok (.invokevirtual 119, 3) := by decide +kernel
theorem dX1_copyFrom_182 : decode cX1_copyFrom 182 = .ok (.iinc 2 1, 3) := by decide +kernel
theorem dX1_copyFrom_185 : decode cX1_copyFrom 185 = .ok (.goto (-22), 3) := by decide +kernel
theorem dX1_copyFrom_188 : decode cX1_copyFrom 188 = .ok (.aload_n 1, 1) := by decide +kernel
theorem dX1_copyFrom_189 : decode cX1_copyFrom 189 = .ok (.getfield 53, 3) := by decide +kernel
theorem dX1_copyFrom_192 : decode cX1_copyFrom 192 = .ok (.aload_n 0, 1) := by decide +kernel
theorem dX1_copyFrom_193 : decode cX1_copyFrom 193 = .ok (.getfield 53, 3) := by decide +kernel
theorem dX1_copyFrom_196 : decode cX1_copyFrom 196 = .ok (.invokestatic 122, 3) := by decide +kernel
theorem dX1_copyFrom_199 : decode cX1_copyFrom 199 = .ok (.aload_n 0, 1) := by decide +kernel
theorem dX1_copyFrom_200 : decode cX1_copyFrom 200 = .ok (.aload_n 1, 1) := by decide +kernel
theorem dX1_copyFrom_201 : decode cX1_copyFrom 201 = .ok (.invokevirtual 126, 3) := by decide +kernel
theorem dX1_copyFrom_204 : decode cX1_copyFrom 204 = .ok (.return_, 1) := by decide +kernel
theorem dX1_copyCounts_0 : decode cX1_copyCounts 0 = .ok (.aload_n 0, 1) := by decide +kernel
theorem dX1_copyCounts_1 : decode cX1_copyCounts 1 = .ok (.aload_n 1, 1) := by decide +kernel
theorem dX1_copyCounts_2 : decode cX1_copyCounts 2 = .ok (.getfield 130, 3) := by decide +kernel
theorem dX1_copyCounts_5 : decode cX1_copyCounts 5 = .ok (.putfield 130, 3) := by decide +kernel
theorem dX1_copyCounts_8 : decode cX1_copyCounts 8 = .ok (.aload_n 0, 1) := by decide +kernel
theorem dX1_copyCounts_9 : decode cX1_copyCounts 9 = .ok (.aload_n 1, 1) := by decide +kernel
theorem dX1_copyCounts_10 : decode cX1_copyCounts 10 = .ok (.getfield 134, 3) := by decide +kernel
theorem dX1_copyCounts_13 : decode cX1_copyCounts 13 = .ok (.putfield 134, 3) := by decide +kernel
theorem dX1_copyCounts_16 : decode cX1_copyCounts 16 = .ok (.aload_n 0, 1) := by decide +kernel
theorem dX1_copyCounts_17 : decode cX1_copyCounts 17 = .ok (.aload_n 1, 1) := by decide +kernel
theorem dX1_copyCounts_18 : decode cX1_copyCounts 18 = .ok (.getfield 137, 3) := by decide +kernel
theorem dX1_copyCounts_21 : decode cX1_copyCounts 21 = .ok (.putfield 137, 3) := by decide +kernel
theorem dX1_copyCounts_24 : decode cX1_copyCounts 24 = .ok (.aload_n 0, 1) := by decide +kernel
theorem dX1_copyCounts_25 : decode cX1_copyCounts 25 = .ok (.aload_n 1, 1) := by decide +kernel
theorem dX1_copyCounts_26 : decode cX1_copyCounts 26 = .ok (.getfield 140, 3) := by decide +kernel
theorem dX1_copyCounts_29 : decode cX1_copyCounts 29 = .ok (.putfield 140, 3) := by decide +kernel
theorem dX1_copyCounts_32 : decode cX1_copyCounts 32 = .ok (.aload_n 0, 1) := by decide +kernel
theorem dX1_copyCounts_33 : decode cX1_copyCounts 33 = .ok (.aload_n 1, 1) := by decide +kernel
theorem dX1_copyCounts_34 : decode cX1_copyCounts 34 = .ok (.getfield 143, 3) := by decide +kernel
theorem dX1_copyCounts_37 : decode cX1_copyCounts 37 = .ok (.putfield 143, 3) := by decide +kernel
theorem dX1_copyCounts_40 : decode cX1_copyCounts 40 = .ok (.aload_n 0, 1) := by decide +kernel
theorem dX1_copyCounts_41 : decode cX1_copyCounts 41 = .ok (.aload_n 1, 1) := by decide +kernel
theorem dX1_copyCounts_42 : decode cX1_copyCounts 42 = .ok (.getfield 146, 3) := by decide +kernel
theorem dX1_copyCounts_45 : decode cX1_copyCounts 45 = .ok (.putfield 146, 3) := by decide +kernel
theorem dX1_copyCounts_48 : decode cX1_copyCounts 48 = .ok (.aload_n 0, 1) := by decide +kernel
theorem dX1_copyCounts_49 : decode cX1_copyCounts 49 = .ok (.aload_n 1, 1) := by decide +kernel
theorem dX1_copyCounts_50 : decode cX1_copyCounts 50 = .ok (.getfield 149, 3) := by decide +kernel
theorem dX1_copyCounts_53 : decode cX1_copyCounts 53 = .ok (.putfield 149, 3) := by decide +kernel
theorem dX1_copyCounts_56 : decode cX1_copyCounts 56 = .ok (.aload_n 0, 1) := by decide +kernel
theorem dX1_copyCounts_57 : decode cX1_copyCounts 57 = .ok (.aload_n 1, 1) := by decide +kernel
theorem dX1_copyCounts_58 : decode cX1_copyCounts 58 = .ok (.getfield 152, 3) := by decide +kernel
theorem dX1_copyCounts_61 : decode cX1_copyCounts 61 = .ok (.putfield 152, 3) := by decide +kernel
theorem dX1_copyCounts_64 : decode cX1_copyCounts 64 = .ok (.aload_n 0, 1) := by decide +kernel
theorem dX1_copyCounts_65 : decode cX1_copyCounts 65 = .ok (.aload_n 1, 1) := by decide +kernel
theorem dX1_copyCounts_66 : decode cX1_copyCounts 66 = .ok (.getfield 155, 3) := by decide +kernel
theorem dX1_copyCounts_69 : decode cX1_copyCounts 69 = .ok (.putfield 155, 3) := by decide +kernel
theorem dX1_copyCounts_72 : decode cX1_copyCounts 72 = .ok (.return_, 1) := by decide +kernel
theorem dX1_treatyTax_0 : decode cX1_treatyTax 0 = .ok (.iload_n 1, 1) := by decide +kernel
theorem dX1_treatyTax_1 : decode cX1_treatyTax 1 = .ok (.iconst 3, 1) := by decide +kernel
theorem dX1_treatyTax_2 : decode cX1_treatyTax 2 = .ok (.imul, 1) := by decide +kernel
theorem dX1_treatyTax_3 : decode cX1_treatyTax 3 = .ok (.iload_n 2, 1) := by decide +kernel
theorem dX1_treatyTax_4 : decode cX1_treatyTax 4 = .ok (.iadd, 1) := by decide +kernel
theorem dX1_treatyTax_5 : decode cX1_treatyTax 5 = .ok (.istore_n 3, 1) := by decide +kernel
theorem dX1_treatyTax_6 : decode cX1_treatyTax 6 = .ok (.iload_n 3, 1) := by decide +kernel
theorem dX1_treatyTax_7 : decode cX1_treatyTax 7 = .ok (.ifCond .lt 22, 3) := by decide +kernel
theorem dX1_treatyTax_10 : decode cX1_treatyTax 10 = .ok (.iload_n 3, 1) := by decide +kernel
theorem dX1_treatyTax_11 : decode cX1_treatyTax 11 = .ok (.aload_n 0, 1) := by decide +kernel
theorem dX1_treatyTax_12 : decode cX1_treatyTax 12 = .ok (.getfield 53, 3) := by decide +kernel
theorem dX1_treatyTax_15 : decode cX1_treatyTax 15 = .ok (.arraylength, 1) := by decide +kernel
theorem dX1_treatyTax_16 : decode cX1_treatyTax 16 = .ok (.if_icmp .ge 13, 3) := by decide +kernel
theorem dX1_treatyTax_19 : decode cX1_treatyTax 19 = .ok (.aload_n 0, 1) := by decide +kernel
theorem dX1_treatyTax_20 : decode cX1_treatyTax 20 = .ok (.getfield 53, 3) := by decide +kernel
theorem dX1_treatyTax_23 : decode cX1_treatyTax 23 = .ok (.iload_n 3, 1) := by decide +kernel
theorem dX1_treatyTax_24 : decode cX1_treatyTax 24 = .ok (.laload, 1) := by decide +kernel
theorem dX1_treatyTax_25 : decode cX1_treatyTax 25 = .ok (.l2i, 1) := by decide +kernel
theorem dX1_treatyTax_26 : decode cX1_treatyTax 26 = .ok (.goto 5, 3) := by decide +kernel
theorem dX1_treatyTax_29 : decode cX1_treatyTax 29 = .ok (.bipush 30, 2) := by decide +kernel
theorem dX1_treatyTax_31 : decode cX1_treatyTax 31 = .ok (.ireturn, 1) := by decide +kernel
theorem dX1_worthOf_0 : decode cX1_worthOf 0 = .ok (.lload_n 2, 1) := by decide +kernel
theorem dX1_worthOf_1 : decode cX1_worthOf 1 = .ok (.aload_n 0, 1) := by decide +kernel
theorem dX1_worthOf_2 : decode cX1_worthOf 2 = .ok (.iload_n 1, 1) := by decide +kernel
theorem dX1_worthOf_3 : decode cX1_worthOf 3 = .ok (.invokevirtual 80, 3) := by decide +kernel
theorem dX1_worthOf_6 : decode cX1_worthOf 6 = .ok (.getfield 158, 3) := by decide +kernel
theorem dX1_worthOf_9 : decode cX1_worthOf 9 = .ok (.i2l, 1) := by decide +kernel
theorem dX1_worthOf_10 : decode cX1_worthOf 10 = .ok (.lmul, 1) := by decide +kernel
theorem dX1_worthOf_11 : decode cX1_worthOf 11 = .ok (.lreturn, 1) := by decide +kernel
theorem dX1_limitOf_0 : decode cX1_limitOf 0 = .ok (.lconst 0, 1) := by decide +kernel
theorem dX1_limitOf_1 : decode cX1_limitOf 1 = .ok (.lstore_n 2, 1) := by decide +kernel
theorem dX1_limitOf_2 : decode cX1_limitOf 2 = .ok (.iconst 0, 1) := by decide +kernel
theorem dX1_limitOf_3 : decode cX1_limitOf 3 = .ok (.istore 4, 2) := by decide +kernel
theorem dX1_limitOf_5 : decode cX1_limitOf 5 = .ok (.iload 4, 2) := by decide +kernel
theorem dX1_limitOf_7 : decode cX1_limitOf 7 = .ok (.aload_n 0, 1) := by decide +kernel
theorem dX1_limitOf_8 : decode cX1_limitOf 8 = .ok (.getfield 134, 3) := by decide +kernel
theorem dX1_limitOf_11 : decode cX1_limitOf 11 = .ok (.if_icmp .ge 29, 3) := by decide +kernel
theorem dX1_limitOf_14 : decode cX1_limitOf 14 = .ok (.lload_n 2, 1) := by decide +kernel
theorem dX1_limitOf_15 : decode cX1_limitOf 15 = .ok (.aload_n 1, 1) := by decide +kernel
theorem dX1_limitOf_16 : decode cX1_limitOf 16 = .ok (.iload 4, 2) := by decide +kernel
theorem dX1_limitOf_18 : decode cX1_limitOf 18 = .ok (.invokevirtual 161, 3) := by decide +kernel
theorem dX1_limitOf_21 : decode cX1_limitOf 21 = .ok (.aload_n 0, 1) := by decide +kernel
theorem dX1_limitOf_22 : decode cX1_limitOf 22 = .ok (.iload 4, 2) := by decide +kernel
theorem dX1_limitOf_24 : decode cX1_limitOf 24 = .ok (.invokevirtual 80, 3) := by decide +kernel
theorem dX1_limitOf_27 : decode cX1_limitOf 27 = .ok (.getfield 158, 3) := by decide +kernel
theorem dX1_limitOf_30 : decode cX1_limitOf 30 = .ok (.i2l, 1) := by decide +kernel
theorem dX1_limitOf_31 : decode cX1_limitOf 31 = .ok (.lmul, 1) := by decide +kernel
theorem dX1_limitOf_32 : decode cX1_limitOf 32 = .ok (.ladd, 1) := by decide +kernel
theorem dX1_limitOf_33 : decode cX1_limitOf 33 = .ok (.lstore_n 2, 1) := by decide +kernel
theorem dX1_limitOf_34 : decode cX1_limitOf 34 = .ok (.iinc 4 1, 3) := by decide +kernel
theorem dX1_limitOf_37 : decode cX1_limitOf 37 = .ok (.goto (-32), 3) := by decide +kernel
theorem dX1_limitOf_40 : decode cX1_limitOf 40 = .ok (.aload_n 1, 1) := by decide +kernel
theorem dX1_limitOf_41 : decode cX1_limitOf 41 = .ok (.getfield 165, 3) := by decide +kernel
theorem dX1_limitOf_44 : decode cX1_limitOf 44 = .ok (.lload_n 2, 1) := by decide +kernel
theorem dX1_limitOf_45 : decode cX1_limitOf 45 = .ok (.ldc2_w 169, 3) := by decide +kernel
theorem dX1_limitOf_48 : decode cX1_limitOf 48 = .ok (.ldiv, 1) := by decide +kernel
theorem dX1_limitOf_49 : decode cX1_limitOf 49 = .ok (.ladd, 1) := by decide +kernel
theorem dX1_limitOf_50 : decode cX1_limitOf 50 = .ok (.lreturn, 1) := by decide +kernel
theorem dX1_isFirm_0 : decode cX1_isFirm 0 = .ok (.aload_n 0, 1) := by decide +kernel
theorem dX1_isFirm_1 : decode cX1_isFirm 1 = .ok (.iload_n 1, 1) := by decide +kernel
theorem dX1_isFirm_2 : decode cX1_isFirm 2 = .ok (.invokevirtual 72, 3) := by decide +kernel
theorem dX1_isFirm_5 : decode cX1_isFirm 5 = .ok (.astore_n 2, 1) := by decide +kernel
theorem dX1_isFirm_6 : decode cX1_isFirm 6 = .ok (.iconst 0, 1) := by decide +kernel
theorem dX1_isFirm_7 : decode cX1_isFirm 7 = .ok (.istore_n 3, 1) := by decide +kernel
theorem dX1_isFirm_8 : decode cX1_isFirm 8 = .ok (.iload_n 3, 1) := by decide +kernel
theorem dX1_isFirm_9 : decode cX1_isFirm 9 = .ok (.aload_n 0, 1) := by decide +kernel
theorem dX1_isFirm_10 : decode cX1_isFirm 10 = .ok (.getfield 134, 3) := by decide +kernel
theorem dX1_isFirm_13 : decode cX1_isFirm 13 = .ok (.if_icmp .ge 21, 3) := by decide +kernel
theorem dX1_isFirm_16 : decode cX1_isFirm 16 = .ok (.aload_n 2, 1) := by decide +kernel
theorem dX1_isFirm_17 : decode cX1_isFirm 17 = .ok (.iload_n 3, 1) := by decide +kernel
theorem dX1_isFirm_18 : decode cX1_isFirm 18 = .ok (.invokevirtual 161, 3) := by decide +kernel
theorem dX1_isFirm_21 : decode cX1_isFirm 21 = .ok (.lconst 0, 1) := by decide +kernel
theorem dX1_isFirm_22 : decode cX1_isFirm 22 = .ok (.lcmp, 1) := by decide +kernel
theorem dX1_isFirm_23 : decode cX1_isFirm 23 = .ok (.ifCond .ge 5, 3) := by decide +kernel
theorem dX1_isFirm_26 : decode cX1_isFirm 26 = .ok (.iconst 0, 1) := by decide +kernel
theorem dX1_isFirm_27 : decode cX1_isFirm 27 = .ok (.ireturn, 1) := by decide +kernel
theorem dX1_isFirm_28 : decode cX1_isFirm 28 = .ok (.iinc 3 1, 3) := by decide +kernel
theorem dX1_isFirm_31 : decode cX1_isFirm 31 = .ok (.goto (-23), 3) := by decide +kernel
theorem dX1_isFirm_34 : decode cX1_isFirm 34 = .ok (.aload_n 2, 1) := by decide +kernel
theorem dX1_isFirm_35 : decode cX1_isFirm 35 = .ok (.invokevirtual 171, 3) := by decide +kernel
theorem dX1_isFirm_38 : decode cX1_isFirm 38 = .ok (.aload_n 0, 1) := by decide +kernel
theorem dX1_isFirm_39 : decode cX1_isFirm 39 = .ok (.aload_n 2, 1) := by decide +kernel
theorem dX1_isFirm_40 : decode cX1_isFirm 40 = .ok (.invokevirtual 175, 3) := by decide +kernel
theorem dX1_isFirm_43 : decode cX1_isFirm 43 = .ok (.ladd, 1) := by decide +kernel
theorem dX1_isFirm_44 : decode cX1_isFirm 44 = .ok (.lconst 0, 1) := by decide +kernel
theorem dX1_isFirm_45 : decode cX1_isFirm 45 = .ok (.lcmp, 1) := by decide +kernel
theorem dX1_isFirm_46 : decode cX1_isFirm 46 = .ok (.ifCond .lt 7, 3) := by decide +kernel
theorem dX1_isFirm_49 : decode cX1_isFirm 49 = .ok (.iconst 1, 1) := by decide +kernel
theorem dX1_isFirm_50 : decode cX1_isFirm 50 = .ok (.goto 4, 3) := by decide +kernel
theorem dX1_isFirm_53 : decode cX1_isFirm 53 = .ok (.iconst 0, 1) := by decide +kernel
theorem dX1_isFirm_54 : decode cX1_isFirm 54 = .ok (.ireturn, 1) := by decide +kernel
theorem dX1_owe_0 : decode cX1_owe 0 = .ok (.aload_n 0, 1) := by decide +kernel
theorem dX1_owe_1 : decode cX1_owe 1 = .ok (.iload_n 1, 1) := by decide +kernel
theorem dX1_owe_2 : decode cX1_owe 2 = .ok (.invokevirtual 72, 3) := by decide +kernel
theorem dX1_owe_5 : decode cX1_owe 5 = .ok (.dup, 1) := by decide +kernel
theorem dX1_owe_6 : decode cX1_owe 6 = .ok (.getfield 179, 3) := by decide +kernel
theorem dX1_owe_9 : decode cX1_owe 9 = .ok (.lload_n 3, 1) := by decide +kernel
theorem dX1_owe_10 : decode cX1_owe 10 = .ok (.lsub, 1) := by decide +kernel
theorem dX1_owe_11 : decode cX1_owe 11 = .ok (.putfield 179, 3) := by decide +kernel
theorem dX1_owe_14 : decode cX1_owe 14 = .ok (.aload_n 0, 1) := by decide +kernel
theorem dX1_owe_15 : decode cX1_owe 15 = .ok (.iload_n 2, 1) := by decide +kernel
theorem dX1_owe_16 : decode cX1_owe 16 = .ok (.invokevirtual 72, 3) := by decide +kernel
theorem dX1_owe_19 : decode cX1_owe 19 = .ok (.dup, 1) := by decide +kernel
theorem dX1_owe_20 : decode cX1_owe 20 = .ok (.getfield 179, 3) := by decide +kernel
theorem dX1_owe_23 : decode cX1_owe 23 = .ok (.lload_n 3, 1) := by decide +kernel
theorem dX1_owe_24 : decode cX1_owe 24 = .ok (.ladd, 1) := by decide +kernel
theorem dX1_owe_25 : decode cX1_owe 25 = .ok (.putfield 179, 3) := by decide +kernel
theorem dX1_owe_28 : decode cX1_owe 28 = .ok (.return_, 1) := by decide +kernel
theorem dX1_partnerFor_0 : decode cX1_partnerFor 0 = .ok (.iconst (-1), 1) := by decide +kernel
theorem dX1_partnerFor_1 : decode cX1_partnerFor 1 = .ok (.istore_n 3, 1) := by decide +kernel
theorem dX1_partnerFor_2 : decode cX1_partnerFor 2 = .ok (.iconst 3, 1) := by decide +kernel
theorem dX1_partnerFor_3 : decode cX1_partnerFor 3 = .ok (.istore 4, 2) := by decide +kernel
theorem dX1_partnerFor_5 : decode cX1_partnerFor 5 = .ok (.iconst 0, 1) := by decide +kernel
theorem dX1_partnerFor_6 : decode cX1_partnerFor 6 = .ok (.istore 5, 2) := by decide +kernel
theorem dX1_partnerFor_8 : decode cX1_partnerFor 8 = .ok (.iload 5, 2) := by decide +kernel
theorem dX1_partnerFor_10 : decode cX1_partnerFor 10 = .ok (.aload_n 0, 1) := by decide +kernel
theorem dX1_partnerFor_11 : decode cX1_partnerFor 11 = .ok (.getfield 137, 3) := by decide +kernel
theorem dX1_partnerFor_14 : decode cX1_partnerFor 14 = .ok (.if_icmp .ge 53, 3) := by decide +kernel
theorem dX1_partnerFor_17 : decode cX1_partnerFor 17 = .ok (.aload_n 0, 1) := by decide +kernel
theorem dX1_partnerFor_18 : decode cX1_partnerFor 18 = .ok (.iload 5, 2) := by decide +kernel
theorem dX1_partnerFor_20 : decode cX1_partnerFor 20 = .ok (.invokevirtual 87, 3) := by decide +kernel
theorem dX1_partnerFor_23 : decode cX1_partnerFor 23 = .ok (.astore 6, 2) := by decide +kernel
theorem dX1_partnerFor_25 : decode cX1_partnerFor 25 = .ok (.aload 6, 2) := by decide +kernel
theorem dX1_partnerFor_27 : decode cX1_partnerFor 27 = .ok (.getfield 182, 3) := by decide +kernel
theorem dX1_partnerFor_30 : decode cX1_partnerFor 30 = .ok (.iload_n 2, 1) := by decide +kernel
theorem dX1_partnerFor_31 : decode cX1_partnerFor 31 = .ok (.isub, 1) := by decide +kernel
theorem dX1_partnerFor_32 : decode cX1_partnerFor 32 = .ok (.invokestatic 185, 3) := by decide +kernel
theorem dX1_partnerFor_35 : decode cX1_partnerFor 35 = .ok (.istore 7, 2) := by decide +kernel
theorem dX1_partnerFor_37 : decode cX1_partnerFor 37 = .ok (.aload 6, 2) := by decide +kernel
theorem dX1_partnerFor_39 : decode cX1_partnerFor 39 = .ok (.aload_n 1, 1) := by decide +kernel
theorem dX1_partnerFor_40 : decode cX1_partnerFor 40 = .ok (.iload_n 2, 1) := by decide +kernel
theorem dX1_partnerFor_41 : decode cX1_partnerFor 41 = .ok (.invokevirtual 191, 3) := by decide +kernel
theorem dX1_partnerFor_44 : decode cX1_partnerFor 44 = .ok (.ifCond .eq 17, 3) := by decide +kernel
theorem dX1_partnerFor_47 : decode cX1_partnerFor 47 = .ok (.iload 7, 2) := by decide +kernel
theorem dX1_partnerFor_49 : decode cX1_partnerFor 49 = .ok (.iload 4, 2) := by decide +kernel
theorem dX1_partnerFor_51 : decode cX1_partnerFor 51 = .ok (.if_icmp .ge 10, 3) := by decide +kernel
theorem dX1_partnerFor_54 : decode cX1_partnerFor 54 = .ok (.iload 5, 2) := by decide +kernel
theorem dX1_partnerFor_56 : decode cX1_partnerFor 56 = .ok (.istore_n 3, 1) := by decide +kernel
theorem dX1_partnerFor_57 : decode cX1_partnerFor 57 = .ok (.iload 7, 2) := by decide +kernel
theorem dX1_partnerFor_59 : decode cX1_partnerFor 59 = .ok (.istore 4, 2) := by decide +kernel
theorem dX1_partnerFor_61 : decode cX1_partnerFor 61 = .ok (.iinc 5 1, 3) := by decide +kernel
theorem dX1_partnerFor_64 : decode cX1_partnerFor 64 = .ok (.goto (-56), 3) := by decide +kernel
theorem dX1_partnerFor_67 : decode cX1_partnerFor 67 = .ok (.iload_n 3, 1) := by decide +kernel
theorem dX1_partnerFor_68 : decode cX1_partnerFor 68 = .ok (.ireturn, 1) := by decide +kernel
theorem dX1_match_0 : decode cX1_match 0 = .ok (.aload_n 0, 1) := by decide +kernel
theorem dX1_match_1 : decode cX1_match 1 = .ok (.iload_n 1, 1) := by decide +kernel
theorem dX1_match_2 : decode cX1_match 2 = .ok (.invokevirtual 87, 3) := by decide +kernel
theorem dX1_match_5 : decode cX1_match 5 = .ok (.astore_n 3, 1) := by decide +kernel
theorem dX1_match_6 : decode cX1_match 6 = .ok (.aload_n 0, 1) := by decide +kernel
theorem dX1_match_7 : decode cX1_match 7 = .ok (.iload_n 2, 1) := by decide +kernel
theorem dX1_match_8 : decode cX1_match 8 = .ok (.invokevirtual 87, 3) := by decide +kernel
theorem dX1_match_11 : decode cX1_match 11 = .ok (.astore 4, 2) := by decide +kernel
theorem dX1_match_13 : decode cX1_match 13 = .ok (.aload_n 0, 1) := by decide +kernel
theorem dX1_match_14 : decode cX1_match 14 = .ok (.getfield 140, 3) := by decide +kernel
theorem dX1_match_17 : decode cX1_match 17 = .ok (.istore 5, 2) := by decide +kernel
theorem dX1_match_19 : decode cX1_match 19 = .ok (.aload_n 0, 1) := by decide +kernel
theorem dX1_match_20 : decode cX1_match 20 = .ok (.iload 5, 2) := by decide +kernel
theorem dX1_match_22 : decode cX1_match 22 = .ok (.invokevirtual 94, 3) := by decide +kernel
theorem dX1_match_25 : decode cX1_match 25 = .ok (.astore 6, 2) := by decide +kernel
theorem dX1_match_27 : decode cX1_match 27 = .ok (.aload 6, 2) := by decide +kernel
theorem dX1_match_29 : decode cX1_match 29 = .ok (.aload_n 3, 1) := by decide +kernel
theorem dX1_match_30 : decode cX1_match 30 = .ok (.getfield 195, 3) := by decide +kernel
theorem dX1_match_33 : decode cX1_match 33 = .ok (.ifCond .eq 7, 3) := by decide +kernel
theorem dX1_match_36 : decode cX1_match 36 = .ok (.iload_n 1, 1) := by decide +kernel
theorem dX1_match_37 : decode cX1_match 37 = .ok (.goto 4, 3) := by decide +kernel
theorem dX1_match_40 : decode cX1_match 40 = .ok (.iload_n 2, 1) := by decide +kernel
theorem dX1_match_41 : decode cX1_match 41 = .ok (.putfield 199, 3) := by decide +kernel
theorem dX1_match_44 : decode cX1_match 44 = .ok (.aload 6, 2) := by decide +kernel
theorem dX1_match_46 : decode cX1_match 46 = .ok (.aload_n 3, 1) := by decide +kernel
theorem dX1_match_47 : decode cX1_match 47 = .ok (.getfield 195, 3) := by decide +kernel
theorem dX1_match_50 : decode cX1_match 50 = .ok (.ifCond .eq 7, 3) := by decide +kernel
theorem dX1_match_53 : decode cX1_match 53 = .ok (.iload_n 2, 1) := by decide +kernel
theorem dX1_match_54 : decode cX1_match 54 = .ok (.goto 4, 3) := by decide +kernel
theorem dX1_match_57 : decode cX1_match 57 = .ok (.iload_n 1, 1) := by decide +kernel
theorem dX1_match_58 : decode cX1_match 58 = .ok (.putfield 202, 3) := by decide +kernel
theorem dX1_match_61 : decode cX1_match 61 = .ok (.aload 6, 2) := by decide +kernel
theorem dX1_match_63 : decode cX1_match 63 = .ok (.aload_n 3, 1) := by decide +kernel
theorem dX1_match_64 : decode cX1_match 64 = .ok (.getfield 195, 3) := by decide +kernel
theorem dX1_match_67 : decode cX1_match 67 = .ok (.ifCond .eq 10, 3) := by decide +kernel
theorem dX1_match_70 : decode cX1_match 70 = .ok (.aload_n 3, 1) := by decide +kernel
theorem dX1_match_71 : decode cX1_match 71 = .ok (.getfield 205, 3) := by decide +kernel
theorem dX1_match_74 : decode cX1_match 74 = .ok (.goto 8, 3) := by decide +kernel
theorem dX1_match_77 : decode cX1_match 77 = .ok (.aload 4, 2) := by decide +kernel
theorem dX1_match_79 : decode cX1_match 79 = .ok (.getfield 205, 3) := by decide +kernel
theorem dX1_match_82 : decode cX1_match 82 = .ok (.putfield 207, 3) := by decide +kernel
theorem dX1_match_85 : decode cX1_match 85 = .ok (.aload 6, 2) := by decide +kernel
theorem dX1_match_87 : decode cX1_match 87 = .ok (.aload_n 3, 1) := by decide +kernel
theorem dX1_match_88 : decode cX1_match 88 = .ok (.getfield 195, 3) := by decide +kernel
theorem dX1_match_91 : decode cX1_match 91 = .ok (.ifCond .eq 11, 3) := by decide +kernel
theorem dX1_match_94 : decode cX1_match 94 = .ok (.aload 4, 2) := by decide +kernel
theorem dX1_match_96 : decode cX1_match 96 = .ok (.getfield 205, 3) := by decide +kernel
theorem dX1_match_99 : decode cX1_match 99 = .ok (.goto 7, 3) := by decide +kernel
theorem dX1_match_102 : decode cX1_match 102 = .ok (.aload_n 3, 1) := by decide +kernel
theorem dX1_match_103 : decode cX1_match 103 = .ok (.getfield 205, 3) := by decide +kernel
theorem dX1_match_106 : decode cX1_match 106 = .ok (.putfield 210, 3) := by decide +kernel
theorem dX1_match_109 : decode cX1_match 109 = .ok (.aload 6, 2) := by decide +kernel
theorem dX1_match_111 : decode cX1_match 111 = .ok (.aload_n 3, 1) := by decide +kernel
theorem dX1_match_112 : decode cX1_match 112 = .ok (.getfield 213, 3) := by decide +kernel
theorem dX1_match_115 : decode cX1_match 115 = .ok (.putfield 215, 3) := by decide +kernel
theorem dX1_match_118 : decode cX1_match 118 = .ok (.aload 6, 2) := by decide +kernel
theorem dX1_match_120 : decode cX1_match 120 = .ok (.aload_n 3, 1) := by decide +kernel
theorem dX1_match_121 : decode cX1_match 121 = .ok (.getfield 216, 3) := by decide +kernel
theorem dX1_match_124 : decode cX1_match 124 = .ok (.i2l, 1) := by decide +kernel
theorem dX1_match_125 : decode cX1_match 125 = .ok (.putfield 219, 3) := by decide +kernel
theorem dX1_match_128 : decode cX1_match 128 = .ok (.aload 6, 2) := by decide +kernel
theorem dX1_match_130 : decode cX1_match 130 = .ok (.aload_n 3, 1) := by decide +kernel
theorem dX1_match_131 : decode cX1_match 131 = .ok (.getfield 182, 3) := by decide +kernel
theorem dX1_match_134 : decode cX1_match 134 = .ok (.aload 4, 2) := by decide +kernel
theorem dX1_match_136 : decode cX1_match 136 = .ok (.getfield 182, 3) := by decide +kernel
theorem dX1_match_139 : decode cX1_match 139 = .ok (.invokestatic 221, 3) := by decide +kernel
theorem dX1_match_142 : decode cX1_match 142 = .ok (.i2l, 1) := by decide +kernel
theorem dX1_match_143 : decode cX1_match 143 = .ok (.putfield 225, 3) := by decide +kernel
theorem dX1_match_146 : decode cX1_match 146 = .ok (.aload 6, 2) := by decide +kernel
theorem dX1_match_148 : decode cX1_match 148 = .ok (.aload_n 3, 1) := by decide +kernel
theorem dX1_match_149 : decode cX1_match 149 = .ok (.getfield 227, 3) := by decide +kernel
theorem dX1_match_152 : decode cX1_match 152 = .ok (.putfield 230, 3) := by decide +kernel
theorem dX1_match_155 : decode cX1_match 155 = .ok (.aload 6, 2) := by decide +kernel
theorem dX1_match_157 : decode cX1_match 157 = .ok (.aload_n 3, 1) := by decide +kernel
theorem dX1_match_158 : decode cX1_match 158 = .ok (.getfield 231, 3) := by decide +kernel
theorem dX1_match_161 : decode cX1_match 161 = .ok (.aload 4, 2) := by decide +kernel
theorem dX1_match_163 : decode cX1_match 163 = .ok (.getfield 231, 3) := by decide +kernel
theorem dX1_match_166 : decode cX1_match 166 = .ok (.invokestatic 234, 3) := by decide +kernel
theorem dX1_match_169 : decode cX1_match 169 = .ok (.putfield 237, 3) := by decide +kernel
theorem dX1_match_172 : decode cX1_match 172 = .ok (.aload_n 3, 1) := by decide +kernel
theorem dX1_match_173 : decode cX1_match 173 = .ok (.getfield 238, 3) := by decide +kernel
theorem dX1_match_176 : decode cX1_match 176 = .ok (.ifCond .eq 11, 3) := by decide +kernel
theorem dX1_match_179 : decode cX1_match 179 = .ok (.aload 4, 2) := by decide +kernel
theorem dX1_match_181 : decode cX1_match 181 = .ok (.getfield 238, 3) := by decide +kernel
theorem dX1_match_184 : decode cX1_match 184 = .ok (.ifCond .ne 7, 3) := by decide +kernel
theorem dX1_match_187 : decode cX1_match 187 = .ok (.iconst 1, 1) := by decide +kernel
theorem dX1_match_188 : decode cX1_match 188 = .ok (.goto 4, 3) := by decide +kernel
theorem dX1_match_191 : decode cX1_match 191 = .ok (.iconst 0, 1) := by decide +kernel
theorem dX1_match_192 : decode cX1_match 192 = .ok (.istore 7, 2) := by decide +kernel
theorem dX1_match_194 : decode cX1_match 194 = .ok (.aload 6, 2) := by decide +kernel
theorem dX1_match_196 : decode cX1_match 196 = .ok (.iload 7, 2) := by decide +kernel
theorem dX1_match_198 : decode cX1_match 198 = .ok (.ifCond .eq 7, 3) := by decide +kernel
theorem dX1_match_201 : decode cX1_match 201 = .ok (.lconst 0, 1) := by decide +kernel
theorem dX1_match_202 : decode cX1_match 202 = .ok (.goto 16, 3) := by decide +kernel
theorem dX1_match_205 : decode cX1_match 205 = .ok (.aload_n 3, 1) := by decide +kernel
theorem dX1_match_206 : decode cX1_match 206 = .ok (.getfield 238, 3) := by decide +kernel
theorem dX1_match_209 : decode cX1_match 209 = .ok (.aload 4, 2) := by decide +kernel
theorem dX1_match_211 : decode cX1_match 211 = .ok (.getfield 238, 3) := by decide +kernel
theorem dX1_match_214 : decode cX1_match 214 = .ok (.invokestatic 234, 3) := by decide +kernel
theorem dX1_match_217 : decode cX1_match 217 = .ok (.i2l, 1) := by decide +kernel
theorem dX1_match_218 : decode cX1_match 218 = .ok (.putfield 241, 3) := by decide +kernel
theorem dX1_match_221 : decode cX1_match 221 = .ok (.aload_n 0, 1) := by decide +kernel
theorem dX1_match_222 : decode cX1_match 222 = .ok (.iload 5, 2) := by decide +kernel
theorem dX1_match_224 : decode cX1_match 224 = .ok (.iconst 1, 1) := by decide +kernel
theorem dX1_match_225 : decode cX1_match 225 = .ok (.iadd, 1) := by decide +kernel
theorem dX1_match_226 : decode cX1_match 226 = .ok (.putfield 140, 3) := by decide +kernel
theorem dX1_match_229 : decode cX1_match 229 = .ok (.aload_n 3, 1) := by decide +kernel
theorem dX1_match_230 : decode cX1_match 230 = .ok (.iload 5, 2) := by decide +kernel
theorem dX1_match_232 : decode cX1_match 232 = .ok (.putfield 243, 3) := by decide +kernel
theorem dX1_match_235 : decode cX1_match 235 = .ok (.aload 4, 2) := by decide +kernel
theorem dX1_match_237 : decode cX1_match 237 = .ok (.iload 5, 2) := by decide +kernel
theorem dX1_match_239 : decode cX1_match 239 = .ok (.putfield 243, 3) := by decide +kernel
theorem dX1_match_242 : decode cX1_match 242 = .ok (.aload_n 0, 1) := by decide +kernel
theorem dX1_match_243 : decode cX1_match 243 = .ok (.aload 6, 2) := by decide +kernel
theorem dX1_match_245 : decode cX1_match 245 = .ok (.iconst 1, 1) := by decide +kernel
theorem dX1_match_246 : decode cX1_match 246 = .ok (.invokevirtual 245, 3) := by decide +kernel
theorem dX1_match_249 : decode cX1_match 249 = .ok (.aload_n 0, 1) := by decide +kernel
theorem dX1_match_250 : decode cX1_match 250 = .ok (.aload 6, 2) := by decide +kernel
theorem dX1_match_252 : decode cX1_match 252 = .ok (.invokevirtual 249, 3) := by decide +kernel
theorem dX1_match_255 : decode cX1_match 255 = .ok (.iload 5, 2) := by decide +kernel
theorem dX1_match_257 : decode cX1_match 257 = .ok (.ireturn, 1) := by decide +kernel
theorem dX1_putStatus_0 : decode cX1_putStatus 0 = .ok (.aload_n 1, 1) := by decide +kernel
theorem dX1_putStatus_1 : decode cX1_putStatus 1 = .ok (.iload_n 2, 1) := by decide +kernel
theorem dX1_putStatus_2 : decode cX1_putStatus 2 = .ok (.putfield 252, 3) := by decide +kernel
theorem dX1_putStatus_5 : decode cX1_putStatus 5 = .ok (.aload_n 0, 1) := by decide +kernel
theorem dX1_putStatus_6 : decode cX1_putStatus 6 = .ok (.aload_n 1, 1) := by decide +kernel
theorem dX1_putStatus_7 : decode cX1_putStatus 7 = .ok (.getfield 199, 3) := by decide +kernel
theorem dX1_putStatus_10 : decode cX1_putStatus 10 = .ok (.invokevirtual 87, 3) := by decide +kernel
theorem dX1_putStatus_13 : decode cX1_putStatus 13 = .ok (.iload_n 2, 1) := by decide +kernel
theorem dX1_putStatus_14 : decode cX1_putStatus 14 = .ok (.putfield 255, 3) := by decide +kernel
theorem dX1_putStatus_17 : decode cX1_putStatus 17 = .ok (.aload_n 0, 1) := by decide +kernel
theorem dX1_putStatus_18 : decode cX1_putStatus 18 = .ok (.aload_n 1, 1) := by decide +kernel
theorem dX1_putStatus_19 : decode cX1_putStatus 19 = .ok (.getfield 202, 3) := by decide +kernel
theorem dX1_putStatus_22 : decode cX1_putStatus 22 = .ok (.invokevirtual 87, 3) := by decide +kernel
theorem dX1_putStatus_25 : decode cX1_putStatus 25 = .ok (.iload_n 2, 1) := by decide +kernel
theorem dX1_putStatus_26 : decode cX1_putStatus 26 = .ok (.putfield 255, 3) := by decide +kernel
theorem dX1_putStatus_29 : decode cX1_putStatus 29 = .ok (.return_, 1) := by decide +kernel
theorem dX1_tellBoth_0 : decode cX1_tellBoth 0 = .ok (.aload_n 0, 1) := by decide +kernel
theorem dX1_tellBoth_1 : decode cX1_tellBoth 1 = .ok (.getfield 57, 3) := by decide +kernel
theorem dX1_tellBoth_4 : decode cX1_tellBoth 4 = .ok (.aload_n 1, 1) := by decide +kernel
theorem dX1_tellBoth_5 : decode cX1_tellBoth 5 = .ok (.getfield 207, 3) := by decide +kernel
theorem dX1_tellBoth_8 : decode cX1_tellBoth 8 = .ok (.invokevirtual 256, 3) := by decide +kernel
theorem dX1_tellBoth_11 : decode cX1_tellBoth 11 = .ok (.aload_n 0, 1) := by decide +kernel
theorem dX1_tellBoth_12 : decode cX1_tellBoth 12 = .ok (.getfield 57, 3) := by decide +kernel
theorem dX1_tellBoth_15 : decode cX1_tellBoth 15 = .ok (.aload_n 1, 1) := by decide +kernel
theorem dX1_tellBoth_16 : decode cX1_tellBoth 16 = .ok (.getfield 210, 3) := by decide +kernel
theorem dX1_tellBoth_19 : decode cX1_tellBoth 19 = .ok (.invokevirtual 256, 3) := by decide +kernel
theorem dX1_tellBoth_22 : decode cX1_tellBoth 22 = .ok (.return_, 1) := by decide +kernel
theorem dX1_cancelInstruction_0 : decode cX1_cancelInstruction 0 = .ok (.aload_n 1, 1) := by decide +kernel
theorem dX1_cancelInstruction_1 : decode cX1_cancelInstruction 1 = .ok (.iconst 3, 1) := by decide +kernel
theorem dX1_cancelInstruction_2 : decode cX1_cancelInstruction 2 = .ok (.putfield 255, 3) := by decide +kernel
theorem dX1_cancelInstruction_5 : decode cX1_cancelInstruction 5 = .ok (.aload_n 0, 1) := by decide +kernel
theorem dX1_cancelInstruction_6 : decode cX1_cancelInstruction 6 = .ok (.getfield 57, 3) := by decide +kernel
theorem dX1_cancelInstruction_9 : decode cX1_cancelInstruction 9 = .ok (.aload_n 1, 1) := by decide +kernel
theorem dX1_cancelInstruction_10 : decode cX1_cancelInstruction 10 = .ok (.getfield 205, 3) := by decide +kernel
theorem dX1_cancelInstruction_13 : decode cX1_cancelInstruction 13 = .ok (.invokevirtual 256, 3) := by decide +kernel
theorem dX1_cancelInstruction_16 : decode cX1_cancelInstruction 16 = .ok (.return_, 1) := by decide +kernel
theorem dX1_cancelTrade_0 : decode cX1_cancelTrade 0 = .ok (.aload_n 0, 1) := by decide +kernel
theorem dX1_cancelTrade_1 : decode cX1_cancelTrade 1 = .ok (.aload_n 1, 1) := by decide +kernel
theorem dX1_cancelTrade_2 : decode cX1_cancelTrade 2 = .ok (.iconst 3, 1) := by decide +kernel
theorem dX1_cancelTrade_3 : decode cX1_cancelTrade 3 = .ok (.invokevirtual 245, 3) := by decide +kernel
theorem dX1_cancelTrade_6 : decode cX1_cancelTrade 6 = .ok (.aload_n 0, 1) := by decide +kernel
theorem dX1_cancelTrade_7 : decode cX1_cancelTrade 7 = .ok (.aload_n 1, 1) := by decide +kernel
theorem dX1_cancelTrade_8 : decode cX1_cancelTrade 8 = .ok (.invokevirtual 249, 3) := by decide +kernel
theorem dX1_cancelTrade_11 : decode cX1_cancelTrade 11 = .ok (.iconst 0, 1) := by decide +kernel
theorem dX1_cancelTrade_12 : decode cX1_cancelTrade 12 = .ok (.istore_n 2, 1) := by decide +kernel
theorem dX1_cancelTrade_13 : decode cX1_cancelTrade 13 = .ok (.iconst 0, 1) := by decide +kernel
theorem dX1_cancelTrade_14 : decode cX1_cancelTrade 14 = .ok (.istore_n 3, 1) := by decide +kernel
theorem dX1_cancelTrade_15 : decode cX1_cancelTrade 15 = .ok (.iload_n 3, 1) := by decide +kernel
theorem dX1_cancelTrade_16 : decode cX1_cancelTrade 16 = .ok (.aload_n 0, 1) := by decide +kernel
theorem dX1_cancelTrade_17 : decode cX1_cancelTrade 17 = .ok (.getfield 143, 3) := by decide +kernel
theorem dX1_cancelTrade_20 : decode cX1_cancelTrade 20 = .ok (.if_icmp .ge 40, 3) := by decide +kernel
theorem dX1_cancelTrade_23 : decode cX1_cancelTrade 23 = .ok (.aload_n 0, 1) := by decide +kernel
theorem dX1_cancelTrade_24 : decode cX1_cancelTrade 24 = .ok (.iload_n 3, 1) := by decide +kernel
theorem dX1_cancelTrade_25 : decode cX1_cancelTrade 25 = .ok (.invokevirtual 101, 3) := by decide +kernel
theorem dX1_cancelTrade_28 : decode cX1_cancelTrade 28 = .ok (.aload_n 1, 1) := by decide +kernel
theorem dX1_cancelTrade_29 : decode cX1_cancelTrade 29 = .ok (.getfield 261, 3) := by decide +kernel
theorem dX1_cancelTrade_32 : decode cX1_cancelTrade 32 = .ok (.invokevirtual 264, 3) := by decide +kernel
theorem dX1_cancelTrade_35 : decode cX1_cancelTrade 35 = .ok (.ifCond .ne 19, 3) := by decide +kernel
theorem dX1_cancelTrade_38 : decode cX1_cancelTrade 38 = .ok (.aload_n 0, 1) := by decide +kernel
theorem dX1_cancelTrade_39 : decode cX1_cancelTrade 39 = .ok (.iload_n 2, 1) := by decide +kernel
theorem dX1_cancelTrade_40 : decode cX1_cancelTrade 40 = .ok (.invokevirtual 101, 3) := by decide +kernel
theorem dX1_cancelTrade_43 : decode cX1_cancelTrade 43 = .ok (.aload_n 0, 1) := by decide +kernel
theorem dX1_cancelTrade_44 : decode cX1_cancelTrade 44 = .ok (.iload_n 3, 1) := by decide +kernel
theorem dX1_cancelTrade_45 : decode cX1_cancelTrade 45 = .ok (.invokevirtual 101, 3) := by decide +kernel
theorem dX1_cancelTrade_48 : decode cX1_cancelTrade 48 = .ok (.invokevirtual 105, 3) := by decide +kernel
theorem dX1_cancelTrade_51 : decode cX1_cancelTrade 51 = .ok (.iinc 2 1, 3) := by decide +kernel
theorem dX1_cancelTrade_54 : decode cX1_cancelTrade 54 = .ok (.iinc 3 1, 3) := by decide +kernel
theorem dX1_cancelTrade_57 : decode cX1_cancelTrade 57 = .ok (.goto (-42), 3) := by decide +kernel
theorem dX1_cancelTrade_60 : decode cX1_cancelTrade 60 = .ok (.aload_n 0, 1) := by decide +kernel
theorem dX1_cancelTrade_61 : decode cX1_cancelTrade 61 = .ok (.iload_n 2, 1) := by decide +kernel
theorem dX1_cancelTrade_62 : decode cX1_cancelTrade 62 = .ok (.putfield 143, 3) := by decide +kernel
theorem dX1_cancelTrade_65 : decode cX1_cancelTrade 65 = .ok (.return_, 1) := by decide +kernel
theorem dX1_isDue_0 : decode cX1_isDue 0 = .ok (.aload_n 1, 1) := by decide +kernel
theorem dX1_isDue_1 : decode cX1_isDue 1 = .ok (.getfield 252, 3) := by decide +kernel
theorem dX1_isDue_4 : decode cX1_isDue 4 = .ok (.iconst 1, 1) := by decide +kernel
theorem dX1_isDue_5 : decode cX1_isDue 5 = .ok (.if_icmp .ne 18, 3) := by decide +kernel
theorem dX1_isDue_8 : decode cX1_isDue 8 = .ok (.aload_n 1, 1) := by decide +kernel
theorem dX1_isDue_9 : decode cX1_isDue 9 = .ok (.getfield 230, 3) := by decide +kernel
theorem dX1_isDue_12 : decode cX1_isDue 12 = .ok (.aload_n 0, 1) := by decide +kernel
theorem dX1_isDue_13 : decode cX1_isDue 13 = .ok (.getfield 152, 3) := by decide +kernel
theorem dX1_isDue_16 : decode cX1_isDue 16 = .ok (.if_icmp .gt 7, 3) := by decide +kernel
theorem dX1_isDue_19 : decode cX1_isDue 19 = .ok (.iconst 1, 1) := by decide +kernel
theorem dX1_isDue_20 : decode cX1_isDue 20 = .ok (.goto 4, 3) := by decide +kernel
theorem dX1_isDue_23 : decode cX1_isDue 23 = .ok (.iconst 0, 1) := by decide +kernel
theorem dX1_isDue_24 : decode cX1_isDue 24 = .ok (.ireturn, 1) := by decide +kernel
theorem dX1_isHeldUp_0 : decode cX1_isHeldUp 0 = .ok (.aload_n 0, 1) := by decide +kernel
theorem dX1_isHeldUp_1 : decode cX1_isHeldUp 1 = .ok (.aload_n 1, 1) := by decide +kernel
theorem dX1_isHeldUp_2 : decode cX1_isHeldUp 2 = .ok (.getfield 199, 3) := by decide +kernel
theorem dX1_isHeldUp_5 : decode cX1_isHeldUp 5 = .ok (.invokevirtual 87, 3) := by decide +kernel
theorem dX1_isHeldUp_8 : decode cX1_isHeldUp 8 = .ok (.getfield 268, 3) := by decide +kernel
theorem dX1_isHeldUp_11 : decode cX1_isHeldUp 11 = .ok (.ifCond .ne 17, 3) := by decide +kernel
theorem dX1_isHeldUp_14 : decode cX1_isHeldUp 14 = .ok (.aload_n 0, 1) := by decide +kernel
theorem dX1_isHeldUp_15 : decode cX1_isHeldUp 15 = .ok (.aload_n 1, 1) := by decide +kernel
theorem dX1_isHeldUp_16 : decode cX1_isHeldUp 16 = .ok (.getfield 202, 3) := by decide +kernel
theorem dX1_isHeldUp_19 : decode cX1_isHeldUp 19 = .ok (.invokevirtual 87, 3) := by decide +kernel
theorem dX1_isHeldUp_22 : decode cX1_isHeldUp 22 = .ok (.getfield 268, 3) := by decide +kernel
theorem dX1_isHeldUp_25 : decode cX1_isHeldUp 25 = .ok (.ifCond .eq 7, 3) := by decide +kernel
theorem dX1_isHeldUp_28 : decode cX1_isHeldUp 28 = .ok (.iconst 1, 1) := by decide +kernel
theorem dX1_isHeldUp_29 : decode cX1_isHeldUp 29 = .ok (.goto 4, 3) := by decide +kernel
theorem dX1_isHeldUp_32 : decode cX1_isHeldUp 32 = .ok (.iconst 0, 1) := by decide +kernel
theorem dX1_isHeldUp_33 : decode cX1_isHeldUp 33 = .ok (.ireturn, 1) := by decide +kernel
theorem dX1_isLacking_0 : decode cX1_isLacking 0 = .ok (.aload_n 0, 1) := by decide +kernel
theorem dX1_isLacking_1 : decode cX1_isLacking 1 = .ok (.aload_n 1, 1) := by decide +kernel
theorem dX1_isLacking_2 : decode cX1_isLacking 2 = .ok (.getfield 207, 3) := by decide +kernel
theorem dX1_isLacking_5 : decode cX1_isLacking 5 = .ok (.invokevirtual 72, 3) := by decide +kernel
theorem dX1_isLacking_8 : decode cX1_isLacking 8 = .ok (.aload_n 1, 1) := by decide +kernel
theorem dX1_isLacking_9 : decode cX1_isLacking 9 = .ok (.getfield 215, 3) := by decide +kernel
theorem dX1_isLacking_12 : decode cX1_isLacking 12 = .ok (.invokevirtual 161, 3) := by decide +kernel
theorem dX1_isLacking_15 : decode cX1_isLacking 15 = .ok (.aload_n 1, 1) := by decide +kernel
theorem dX1_isLacking_16 : decode cX1_isLacking 16 = .ok (.getfield 219, 3) := by decide +kernel
theorem dX1_isLacking_19 : decode cX1_isLacking 19 = .ok (.lcmp, 1) := by decide +kernel
theorem dX1_isLacking_20 : decode cX1_isLacking 20 = .ok (.ifCond .ge 7, 3) := by decide +kernel
theorem dX1_isLacking_23 : decode cX1_isLacking 23 = .ok (.iconst 1, 1) := by decide +kernel
theorem dX1_isLacking_24 : decode cX1_isLacking 24 = .ok (.goto 4, 3) := by decide +kernel
theorem dX1_isLacking_27 : decode cX1_isLacking 27 = .ok (.iconst 0, 1) := by decide +kernel
theorem dX1_isLacking_28 : decode cX1_isLacking 28 = .ok (.ireturn, 1) := by decide +kernel
theorem dX1_isLinked_0 : decode cX1_isLinked 0 = .ok (.iconst 0, 1) := by decide +kernel
theorem dX1_isLinked_1 : decode cX1_isLinked 1 = .ok (.istore_n 2, 1) := by decide +kernel
theorem dX1_isLinked_2 : decode cX1_isLinked 2 = .ok (.iload_n 2, 1) := by decide +kernel
theorem dX1_isLinked_3 : decode cX1_isLinked 3 = .ok (.aload_n 0, 1) := by decide +kernel
theorem dX1_isLinked_4 : decode cX1_isLinked 4 = .ok (.getfield 143, 3) := by decide +kernel
theorem dX1_isLinked_7 : decode cX1_isLinked 7 = .ok (.if_icmp .ge 26, 3) := by decide +kernel
theorem dX1_isLinked_10 : decode cX1_isLinked 10 = .ok (.aload_n 0, 1) := by decide +kernel
theorem dX1_isLinked_11 : decode cX1_isLinked 11 = .ok (.iload_n 2, 1) := by decide +kernel
theorem dX1_isLinked_12 : decode cX1_isLinked 12 = .ok (.invokevirtual 101, 3) := by decide +kernel
theorem dX1_isLinked_15 : decode cX1_isLinked 15 = .ok (.aload_n 1, 1) := by decide +kernel
theorem dX1_isLinked_16 : decode cX1_isLinked 16 = .ok (.getfield 261, 3) := by decide +kernel
theorem dX1_isLinked_19 : decode cX1_isLinked 19 = .ok (.invokevirtual 264, 3) := by decide +kernel
theorem dX1_isLinked_22 : decode cX1_isLinked 22 = .ok (.ifCond .eq 5, 3) := by decide +kernel
theorem dX1_isLinked_25 : decode cX1_isLinked 25 = .ok (.iconst 1, 1) := by decide +kernel
theorem dX1_isLinked_26 : decode cX1_isLinked 26 = .ok (.ireturn, 1) := by decide +kernel
theorem dX1_isLinked_27 : decode cX1_isLinked 27 = .ok (.iinc 2 1, 3) := by decide +kernel
theorem dX1_isLinked_30 : decode cX1_isLinked 30 = .ok (.goto (-28), 3) := by decide +kernel
theorem dX1_isLinked_33 : decode cX1_isLinked 33 = .ok (.iconst 0, 1) := by decide +kernel
theorem dX1_isLinked_34 : decode cX1_isLinked 34 = .ok (.ireturn, 1) := by decide +kernel
theorem dX1_isLinkOf_0 : decode cX1_isLinkOf 0 = .ok (.iconst 0, 1) := by decide +kernel
theorem dX1_isLinkOf_1 : decode cX1_isLinkOf 1 = .ok (.istore_n 3, 1) := by decide +kernel
theorem dX1_isLinkOf_2 : decode cX1_isLinkOf 2 = .ok (.iload_n 3, 1) := by decide +kernel
theorem dX1_isLinkOf_3 : decode cX1_isLinkOf 3 = .ok (.aload_n 0, 1) := by decide +kernel
theorem dX1_isLinkOf_4 : decode cX1_isLinkOf 4 = .ok (.getfield 143, 3) := by decide +kernel
theorem dX1_isLinkOf_7 : decode cX1_isLinkOf 7 = .ok (.if_icmp .ge 35, 3) := by decide +kernel
theorem dX1_isLinkOf_10 : decode cX1_isLinkOf 10 = .ok (.aload_n 0, 1) := by decide +kernel
theorem dX1_isLinkOf_11 : decode cX1_isLinkOf 11 = .ok (.iload_n 3, 1) := by decide +kernel
theorem dX1_isLinkOf_12 : decode cX1_isLinkOf 12 = .ok (.invokevirtual 101, 3) := by decide +kernel
theorem dX1_isLinkOf_15 : decode cX1_isLinkOf 15 = .ok (.iload_n 1, 1) := by decide +kernel
theorem dX1_isLinkOf_16 : decode cX1_isLinkOf 16 = .ok (.invokevirtual 264, 3) := by decide +kernel
theorem dX1_isLinkOf_19 : decode cX1_isLinkOf 19 = .ok (.ifCond .eq 17, 3) := by decide +kernel
theorem dX1_isLinkOf_22 : decode cX1_isLinkOf 22 = .ok (.aload_n 0, 1) := by decide +kernel
theorem dX1_isLinkOf_23 : decode cX1_isLinkOf 23 = .ok (.iload_n 3, 1) := by decide +kernel
theorem dX1_isLinkOf_24 : decode cX1_isLinkOf 24 = .ok (.invokevirtual 101, 3) := by decide +kernel
theorem dX1_isLinkOf_27 : decode cX1_isLinkOf 27 = .ok (.iload_n 2, 1) := by decide +kernel
theorem dX1_isLinkOf_28 : decode cX1_isLinkOf 28 = .ok (.invokevirtual 264, 3) := by decide +kernel
theorem dX1_isLinkOf_31 : decode cX1_isLinkOf 31 = .ok (.ifCond .eq 5, 3) := by decide +kernel
theorem dX1_isLinkOf_34 : decode cX1_isLinkOf 34 = .ok (.iconst 1, 1) := by decide +kernel
theorem dX1_isLinkOf_35 : decode cX1_isLinkOf 35 = .ok (.ireturn, 1) := by decide +kernel
theorem dX1_isLinkOf_36 : decode cX1_isLinkOf 36 = .ok (.iinc 3 1, 3) := by decide +kernel
theorem dX1_isLinkOf_39 : decode cX1_isLinkOf 39 = .ok (.goto (-37), 3) := by decide +kernel
theorem dX1_isLinkOf_42 : decode cX1_isLinkOf 42 = .ok (.iconst 0, 1) := by decide +kernel
theorem dX1_isLinkOf_43 : decode cX1_isLinkOf 43 = .ok (.ireturn, 1) := by decide +kernel
theorem dX1_shift_0 : decode cX1_shift 0 = .ok (.aload_n 0, 1) := by decide +kernel
theorem dX1_shift_1 : decode cX1_shift 1 = .ok (.aload_n 1, 1) := by decide +kernel
theorem dX1_shift_2 : decode cX1_shift 2 = .ok (.getfield 207, 3) := by decide +kernel
theorem dX1_shift_5 : decode cX1_shift 5 = .ok (.invokevirtual 72, 3) := by decide +kernel
theorem dX1_shift_8 : decode cX1_shift 8 = .ok (.aload_n 1, 1) := by decide +kernel
theorem dX1_shift_9 : decode cX1_shift 9 = .ok (.getfield 215, 3) := by decide +kernel
theorem dX1_shift_12 : decode cX1_shift 12 = .ok (.lload_n 2, 1) := by decide +kernel
theorem dX1_shift_13 : decode cX1_shift 13 = .ok (.lneg, 1) := by decide +kernel
theorem dX1_shift_14 : decode cX1_shift 14 = .ok (.invokevirtual 271, 3) := by decide +kernel
theorem dX1_shift_17 : decode cX1_shift 17 = .ok (.aload_n 0, 1) := by decide +kernel
theorem dX1_shift_18 : decode cX1_shift 18 = .ok (.aload_n 1, 1) := by decide +kernel
theorem dX1_shift_19 : decode cX1_shift 19 = .ok (.getfield 210, 3) := by decide +kernel
theorem dX1_shift_22 : decode cX1_shift 22 = .ok (.invokevirtual 72, 3) := by decide +kernel
theorem dX1_shift_25 : decode cX1_shift 25 = .ok (.aload_n 1, 1) := by decide +kernel
theorem dX1_shift_26 : decode cX1_shift 26 = .ok (.getfield 215, 3) := by decide +kernel
theorem dX1_shift_29 : decode cX1_shift 29 = .ok (.lload_n 2, 1) := by decide +kernel
theorem dX1_shift_30 : decode cX1_shift 30 = .ok (.invokevirtual 271, 3) := by decide +kernel
theorem dX1_shift_33 : decode cX1_shift 33 = .ok (.aload_n 0, 1) := by decide +kernel
theorem dX1_shift_34 : decode cX1_shift 34 = .ok (.aload_n 1, 1) := by decide +kernel
theorem dX1_shift_35 : decode cX1_shift 35 = .ok (.lload 4, 2) := by decide +kernel
theorem dX1_shift_37 : decode cX1_shift 37 = .ok (.invokevirtual 275, 3) := by decide +kernel
theorem dX1_shift_40 : decode cX1_shift 40 = .ok (.return_, 1) := by decide +kernel
theorem dX1_payFor_0 : decode cX1_payFor 0 = .ok (.aload_n 0, 1) := by decide +kernel
theorem dX1_payFor_1 : decode cX1_payFor 1 = .ok (.aload_n 1, 1) := by decide +kernel
theorem dX1_payFor_2 : decode cX1_payFor 2 = .ok (.getfield 210, 3) := by decide +kernel
theorem dX1_payFor_5 : decode cX1_payFor 5 = .ok (.invokevirtual 72, 3) := by decide +kernel
theorem dX1_payFor_8 : decode cX1_payFor 8 = .ok (.dup, 1) := by decide +kernel
theorem dX1_payFor_9 : decode cX1_payFor 9 = .ok (.getfield 279, 3) := by decide +kernel
theorem dX1_payFor_12 : decode cX1_payFor 12 = .ok (.lload_n 2, 1) := by decide +kernel
theorem dX1_payFor_13 : decode cX1_payFor 13 = .ok (.lsub, 1) := by decide +kernel
theorem dX1_payFor_14 : decode cX1_payFor 14 = .ok (.putfield 279, 3) := by decide +kernel
theorem dX1_payFor_17 : decode cX1_payFor 17 = .ok (.aload_n 0, 1) := by decide +kernel
theorem dX1_payFor_18 : decode cX1_payFor 18 = .ok (.aload_n 1, 1) := by decide +kernel
theorem dX1_payFor_19 : decode cX1_payFor 19 = .ok (.getfield 207, 3) := by decide +kernel
theorem dX1_payFor_22 : decode cX1_payFor 22 = .ok (.invokevirtual 72, 3) := by decide +kernel
theorem dX1_payFor_25 : decode cX1_payFor 25 = .ok (.dup, 1) := by decide +kernel
theorem dX1_payFor_26 : decode cX1_payFor 26 = .ok (.getfield 279, 3) := by decide +kernel
theorem dX1_payFor_29 : decode cX1_payFor 29 = .ok (.lload_n 2, 1) := by decide +kernel
theorem dX1_payFor_30 : decode cX1_payFor 30 = .ok (.ladd, 1) := by decide +kernel
theorem dX1_payFor_31 : decode cX1_payFor 31 = .ok (.putfield 279, 3) := by decide +kernel
theorem dX1_payFor_34 : decode cX1_payFor 34 = .ok (.return_, 1) := by decide +kernel
theorem dX1_settleWhole_0 : decode cX1_settleWhole 0 = .ok (.aload_n 0, 1) := by decide +kernel
theorem dX1_settleWhole_1 : decode cX1_settleWhole 1 = .ok (.aload_n 1, 1) := by decide +kernel
theorem dX1_settleWhole_2 : decode cX1_settleWhole 2 = .ok (.getfield 207, 3) := by decide +kernel
theorem dX1_settleWhole_5 : decode cX1_settleWhole 5 = .ok (.aload_n 1, 1) := by decide +kernel
theorem dX1_settleWhole_6 : decode cX1_settleWhole 6 = .ok (.getfield 210, 3) := by decide +kernel
theorem dX1_settleWhole_9 : decode cX1_settleWhole 9 = .ok (.aload_n 1, 1) := by decide +kernel
theorem dX1_settleWhole_10 : decode cX1_settleWhole 10 = .ok (.getfield 215, 3) := by decide +kernel
theorem dX1_settleWhole_13 : decode cX1_settleWhole 13 = .ok (.aload_n 1, 1) := by decide +kernel
theorem dX1_settleWhole_14 : decode cX1_settleWhole 14 = .ok (.getfield 219, 3) := by decide +kernel
theorem dX1_settleWhole_17 : decode cX1_settleWhole 17 = .ok (.invokevirtual 282, 3) := by decide +kernel
theorem dX1_settleWhole_20 : decode cX1_settleWhole 20 = .ok (.aload_n 0, 1) := by decide +kernel
theorem dX1_settleWhole_21 : decode cX1_settleWhole 21 = .ok (.aload_n 1, 1) := by decide +kernel
theorem dX1_settleWhole_22 : decode cX1_settleWhole 22 = .ok (.aload_n 1, 1) := by decide +kernel
theorem dX1_settleWhole_23 : decode cX1_settleWhole 23 = .ok (.getfield 225, 3) := by decide +kernel
theorem dX1_settleWhole_26 : decode cX1_settleWhole 26 = .ok (.invokevirtual 275, 3) := by decide +kernel
theorem dX1_settleWhole_29 : decode cX1_settleWhole 29 = .ok (.aload_n 0, 1) := by decide +kernel
theorem dX1_settleWhole_30 : decode cX1_settleWhole 30 = .ok (.aload_n 1, 1) := by decide +kernel
theorem dX1_settleWhole_31 : decode cX1_settleWhole 31 = .ok (.iconst 2, 1) := by decide +kernel
theorem dX1_settleWhole_32 : decode cX1_settleWhole 32 = .ok (.invokevirtual 245, 3) := by decide +kernel
theorem dX1_settleWhole_35 : decode cX1_settleWhole 35 = .ok (.aload_n 0, 1) := by decide +kernel
theorem dX1_settleWhole_36 : decode cX1_settleWhole 36 = .ok (.aload_n 1, 1) := by decide +kernel
theorem dX1_settleWhole_37 : decode cX1_settleWhole 37 = .ok (.invokevirtual 249, 3) := by decide +kernel
theorem dX1_settleWhole_40 : decode cX1_settleWhole 40 = .ok (.return_, 1) := by decide +kernel
theorem dX1_settlePart_0 : decode cX1_settlePart 0 = .ok (.aload_n 0, 1) := by decide +kernel
theorem dX1_settlePart_1 : decode cX1_settlePart 1 = .ok (.aload_n 1, 1) := by decide +kernel
theorem dX1_settlePart_2 : decode cX1_settlePart 2 = .ok (.getfield 207, 3) := by decide +kernel
theorem dX1_settlePart_5 : decode cX1_settlePart 5 = .ok (.aload_n 1, 1) := by decide +kernel
theorem dX1_settlePart_6 : decode cX1_settlePart 6 = .ok (.getfield 210, 3) := by decide +kernel
theorem dX1_settlePart_9 : decode cX1_settlePart 9 = .ok (.aload_n 1, 1) := by decide +kernel
theorem dX1_settlePart_10 : decode cX1_settlePart 10 = .ok (.getfield 215, 3) := by decide +kernel
theorem dX1_settlePart_13 : decode cX1_settlePart 13 = .ok (.lload_n 2, 1) := by decide +kernel
theorem dX1_settlePart_14 : decode cX1_settlePart 14 = .ok (.invokevirtual 282, 3) := by decide +kernel
theorem dX1_settlePart_17 : decode cX1_settlePart 17 = .ok (.aload_n 0, 1) := by decide +kernel
theorem dX1_settlePart_18 : decode cX1_settlePart 18 = .ok (.aload_n 1, 1) := by decide +kernel
theorem dX1_settlePart_19 : decode cX1_settlePart 19 = .ok (.lload 4, 2) := by decide +kernel
theorem dX1_settlePart_21 : decode cX1_settlePart 21 = .ok (.invokevirtual 275, 3) := by decide +kernel
theorem dX1_settlePart_24 : decode cX1_settlePart 24 = .ok (.aload_n 1, 1) := by decide +kernel
theorem dX1_settlePart_25 : decode cX1_settlePart 25 = .ok (.dup, 1) := by decide +kernel
theorem dX1_settlePart_26 : decode cX1_settlePart 26 = .ok (.getfield 219, 3) := by decide +kernel
theorem dX1_settlePart_29 : decode cX1_settlePart 29 = .ok (.lload_n 2, 1) := by decide +kernel
theorem dX1_settlePart_30 : decode cX1_settlePart 30 = .ok (.lsub, 1) := by decide +kernel
theorem dX1_settlePart_31 : decode cX1_settlePart 31 = .ok (.putfield 219, 3) := by decide +kernel
theorem dX1_settlePart_34 : decode cX1_settlePart 34 = .ok (.aload_n 1, 1) := by decide +kernel
theorem dX1_settlePart_35 : decode cX1_settlePart 35 = .ok (.dup, 1) := by decide +kernel
theorem dX1_settlePart_36 : decode cX1_settlePart 36 = .ok (.getfield 225, 3) := by decide +kernel
theorem dX1_settlePart_39 : decode cX1_settlePart 39 = .ok (.lload 4, 2) := by decide +kernel
theorem dX1_settlePart_41 : decode cX1_settlePart 41 = .ok (.lsub, 1) := by decide +kernel
theorem dX1_settlePart_42 : decode cX1_settlePart 42 = .ok (.putfield 225, 3) := by decide +kernel
theorem dX1_settlePart_45 : decode cX1_settlePart 45 = .ok (.aload_n 0, 1) := by decide +kernel
theorem dX1_settlePart_46 : decode cX1_settlePart 46 = .ok (.aload_n 1, 1) := by decide +kernel
theorem dX1_settlePart_47 : decode cX1_settlePart 47 = .ok (.invokevirtual 249, 3) := by decide +kernel
theorem dX1_settlePart_50 : decode cX1_settlePart 50 = .ok (.return_, 1) := by decide +kernel
