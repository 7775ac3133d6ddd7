theorem dX0_init_0 : decode cX0_init 0 = .ok (.aload_n 0, 1) := by decide +kernel
theorem dX0_init_1 : decode cX0_init 1 = .ok (.invokespecial 3, 3) := by decide +kernel
theorem dX0_init_4 : decode cX0_init 4 = .ok (.aload_n 0, 1) := by decide +kernel
theorem dX0_init_5 : decode cX0_init 5 = .ok (.iconst (-1), 1) := by decide +kernel
theorem dX0_init_6 : decode cX0_init 6 = .ok (.putfield 9, 3) := by decide +kernel
theorem dX0_init_9 : decode cX0_init 9 = .ok (.aload_n 0, 1) := by decide +kernel
theorem dX0_init_10 : decode cX0_init 10 = .ok (.iconst 4, 1) := by decide +kernel
theorem dX0_init_11 : decode cX0_init 11 = .ok (.newarray .long, 2) := by decide +kernel
theorem dX0_init_13 : decode cX0_init 13 = .ok (.putfield 15, 3) := by decide +kernel
theorem dX0_init_16 : decode cX0_init 16 = .ok (.aload_n 0, 1) := by decide +kernel
theorem dX0_init_17 : decode cX0_init 17 = .ok (.iconst 4, 1) := by decide +kernel
theorem dX0_init_18 : decode cX0_init 18 = .ok (.newarray .long, 2) := by decide +kernel
theorem dX0_init_20 : decode cX0_init 20 = .ok (.putfield 19, 3) := by decide +kernel
theorem dX0_init_23 : decode cX0_init 23 = .ok (.aload_n 0, 1) := by decide +kernel
theorem dX0_init_24 : decode cX0_init 24 = .ok (.bipush 44, 2) := by decide +kernel
theorem dX0_init_26 : decode cX0_init 26 = .ok (.newarray .long, 2) := by decide +kernel
theorem dX0_init_28 : decode cX0_init 28 = .ok (.putfield 22, 3) := by decide +kernel
theorem dX0_init_31 : decode cX0_init 31 = .ok (.return_, 1) := by decide +kernel
theorem dX0_heldOf_0 : decode cX0_heldOf 0 = .ok (.iload_n 1, 1) := by decide +kernel
theorem dX0_heldOf_1 : decode cX0_heldOf 1 = .ok (.ifCond .lt 21, 3) := by decide +kernel
theorem dX0_heldOf_4 : decode cX0_heldOf 4 = .ok (.iload_n 1, 1) := by decide +kernel
theorem dX0_heldOf_5 : decode cX0_heldOf 5 = .ok (.aload_n 0, 1) := by decide +kernel
theorem dX0_heldOf_6 : decode cX0_heldOf 6 = .ok (.getfield 15, 3) := by decide +kernel
theorem dX0_heldOf_9 : decode cX0_heldOf 9 = .ok (.arraylength, 1) := by decide +kernel
theorem dX0_heldOf_10 : decode cX0_heldOf 10 = .ok (.if_icmp .ge 12, 3) := by decide +kernel
theorem dX0_heldOf_13 : decode cX0_heldOf 13 = .ok (.aload_n 0, 1) := by decide +kernel
theorem dX0_heldOf_14 : decode cX0_heldOf 14 = .ok (.getfield 15, 3) := by decide +kernel
theorem dX0_heldOf_17 : decode cX0_heldOf 17 = .ok (.iload_n 1, 1) := by decide +kernel
theorem dX0_heldOf_18 : decode cX0_heldOf 18 = .ok (.laload, 1) := by decide +kernel
theorem dX0_heldOf_19 : decode cX0_heldOf 19 = .ok (.goto 4, 3) := by decide +kernel
theorem dX0_heldOf_22 : decode cX0_heldOf 22 = .ok (.lconst 0, 1) := by decide +kernel
theorem dX0_heldOf_23 : decode cX0_heldOf 23 = .ok (.lreturn, 1) := by decide +kernel
theorem dX0_blockedOf_0 : decode cX0_blockedOf 0 = .ok (.iload_n 1, 1) := by decide +kernel
theorem dX0_blockedOf_1 : decode cX0_blockedOf 1 = .ok (.ifCond .lt 21, 3) := by decide +kernel
theorem dX0_blockedOf_4 : decode cX0_blockedOf 4 = .ok (.iload_n 1, 1) := by decide +kernel
theorem dX0_blockedOf_5 : decode cX0_blockedOf 5 = .ok (.aload_n 0, 1) := by decide +kernel
theorem dX0_blockedOf_6 : decode cX0_blockedOf 6 = .ok (.getfield 19, 3) := by decide +kernel
theorem dX0_blockedOf_9 : decode cX0_blockedOf 9 = .ok (.arraylength, 1) := by decide +kernel
theorem dX0_blockedOf_10 : decode cX0_blockedOf 10 = .ok (.if_icmp .ge 12, 3) := by decide +kernel
theorem dX0_blockedOf_13 : decode cX0_blockedOf 13 = .ok (.aload_n 0, 1) := by decide +kernel
theorem dX0_blockedOf_14 : decode cX0_blockedOf 14 = .ok (.getfield 19, 3) := by decide +kernel
theorem dX0_blockedOf_17 : decode cX0_blockedOf 17 = .ok (.iload_n 1, 1) := by decide +kernel
theorem dX0_blockedOf_18 : decode cX0_blockedOf 18 = .ok (.laload, 1) := by decide +kernel
theorem dX0_blockedOf_19 : decode cX0_blockedOf 19 = .ok (.goto 4, 3) := by decide +kernel
theorem dX0_blockedOf_22 : decode cX0_blockedOf 22 = .ok (.lconst 0, 1) := by decide +kernel
theorem dX0_blockedOf_23 : decode cX0_blockedOf 23 = .ok (.lreturn, 1) := by decide +kernel
theorem dX0_freeOf_0 : decode cX0_freeOf 0 = .ok (.iload_n 1, 1) := by decide +kernel
theorem dX0_freeOf_1 : decode cX0_freeOf 1 = .ok (.ifCond .lt 25, 3) := by decide +kernel
theorem dX0_freeOf_4 : decode cX0_freeOf 4 = .ok (.iload_n 1, 1) := by decide +kernel
theorem dX0_freeOf_5 : decode cX0_freeOf 5 = .ok (.aload_n 0, 1) := by decide +kernel
theorem dX0_freeOf_6 : decode cX0_freeOf 6 = .ok (.getfield 15, 3) := by decide +kernel
theorem dX0_freeOf_9 : decode cX0_freeOf 9 = .ok (.arraylength, 1) := by decide +kernel
theorem dX0_freeOf_10 : decode cX0_freeOf 10 = .ok (.if_icmp .ge 16, 3) := by decide +kernel
theorem dX0_freeOf_13 : decode cX0_freeOf 13 = .ok (.iload_n 1, 1) := by decide +kernel
theorem dX0_freeOf_14 : decode cX0_freeOf 14 = .ok (.aload_n 0, 1) := by decide +kernel
theorem dX0_freeOf_15 : decode cX0_freeOf 15 = .ok (.getfield 19, 3) := by decide +kernel
theorem dX0_freeOf_18 : decode cX0_freeOf 18 = .ok (.arraylength, 1) := by decide +kernel
theorem dX0_freeOf_19 : decode cX0_freeOf 19 = .ok (.if_icmp .ge 7, 3) := by decide +kernel
theorem dX0_freeOf_22 : decode cX0_freeOf 22 = .ok (.iconst 1, 1) := by decide +kernel
theorem dX0_freeOf_23 : decode cX0_freeOf 23 = .ok (.goto 4, 3) := by decide +kernel
theorem dX0_freeOf_26 : decode cX0_freeOf 26 = .ok (.iconst 0, 1) := by decide +kernel
theorem dX0_freeOf_27 : decode cX0_freeOf 27 = .ok (.istore_n 2, 1) := by decide +kernel
theorem dX0_freeOf_28 : decode cX0_freeOf 28 = .ok (.iload_n 2, 1) := by decide +kernel
theorem dX0_freeOf_29 : decode cX0_freeOf 29 = .ok (.ifCond .eq 19, 3) := by decide +kernel
theorem dX0_freeOf_32 : decode cX0_freeOf 32 = .ok (.aload_n 0, 1) := by decide +kernel
theorem dX0_freeOf_33 : decode cX0_freeOf 33 = .ok (.getfield 15, 3) := by decide +kernel
theorem dX0_freeOf_36 : decode cX0_freeOf 36 = .ok (.iload_n 1, 1) := by decide +kernel
theorem dX0_freeOf_37 : decode cX0_freeOf 37 = .ok (.laload, 1) := by decide +kernel
theorem dX0_freeOf_38 : decode cX0_freeOf 38 = .ok (.aload_n 0, 1) := by decide +kernel
theorem dX0_freeOf_39 : decode cX0_freeOf 39 = .ok (.getfield 19, 3) := by decide +kernel
theorem dX0_freeOf_42 : decode cX0_freeOf 42 = .ok (.iload_n 1, 1) := by decide +kernel
theorem dX0_freeOf_43 : decode cX0_freeOf 43 = .ok (.laload, 1) := by decide +kernel
theorem dX0_freeOf_44 : decode cX0_freeOf 44 = .ok (.lsub, 1) := by decide +kernel
theorem dX0_freeOf_45 : decode cX0_freeOf 45 = .ok (.goto 4, 3) := by decide +kernel
theorem dX0_freeOf_48 : decode cX0_freeOf 48 = .ok (.lconst 0, 1) := by decide +kernel
theorem dX0_freeOf_49 : decode cX0_freeOf 49 = .ok (.lreturn, 1) := by decide +kernel
theorem dX0_freeCash_0 : decode cX0_freeCash 0 = .ok (.aload_n 0, 1) := by decide +kernel
theorem dX0_freeCash_1 : decode cX0_freeCash 1 = .ok (.getfield 25, 3) := by decide +kernel
theorem dX0_freeCash_4 : decode cX0_freeCash 4 = .ok (.aload_n 0, 1) := by decide +kernel
theorem dX0_freeCash_5 : decode cX0_freeCash 5 = .ok (.getfield 29, 3) := by decide +kernel
theorem dX0_freeCash_8 : decode cX0_freeCash 8 = .ok (.lsub, 1) := by decide +kernel
theorem dX0_freeCash_9 : decode cX0_freeCash 9 = .ok (.lreturn, 1) := by decide +kernel
theorem dX0_setBlocked_0 : decode cX0_setBlocked 0 = .ok (.iload_n 1, 1) := by decide +kernel
theorem dX0_setBlocked_1 : decode cX0_setBlocked 1 = .ok (.ifCond .lt 19, 3) := by decide +kernel
theorem dX0_setBlocked_4 : decode cX0_setBlocked 4 = .ok (.iload_n 1, 1) := by decide +kernel
theorem dX0_setBlocked_5 : decode cX0_setBlocked 5 = .ok (.aload_n 0, 1) := by decide +kernel
theorem dX0_setBlocked_6 : decode cX0_setBlocked 6 = .ok (.getfield 19, 3) := by decide +kernel
theorem dX0_setBlocked_9 : decode cX0_setBlocked 9 = .ok (.arraylength, 1) := by decide +kernel
theorem dX0_setBlocked_10 : decode cX0_setBlocked 10 = .ok (.if_icmp .ge 10, 3) := by decide +kernel
theorem dX0_setBlocked_13 : decode cX0_setBlocked 13 = .ok (.aload_n 0, 1) := by decide +kernel
theorem dX0_setBlocked_14 : decode cX0_setBlocked 14 = .ok (.getfield 19, 3) := by decide +kernel
theorem dX0_setBlocked_17 : decode cX0_setBlocked 17 = .ok (.iload_n 1, 1) := by decide +kernel
theorem dX0_setBlocked_18 : decode cX0_setBlocked 18 = .ok (.lload_n 2, 1) := by decide +kernel
theorem dX0_setBlocked_19 : decode cX0_setBlocked 19 = .ok (.lastore, 1) := by decide +kernel
theorem dX0_setBlocked_20 : decode cX0_setBlocked 20 = .ok (.return_, 1) := by decide +kernel
theorem dX0_shift_0 : decode cX0_shift 0 = .ok (.iload_n 1, 1) := by decide +kernel
theorem dX0_shift_1 : decode cX0_shift 1 = .ok (.ifCond .lt 22, 3) := by decide +kernel
theorem dX0_shift_4 : decode cX0_shift 4 = .ok (.iload_n 1, 1) := by decide +kernel
theorem dX0_shift_5 : decode cX0_shift 5 = .ok (.aload_n 0, 1) := by decide +kernel
theorem dX0_shift_6 : decode cX0_shift 6 = .ok (.getfield 15, 3) := by decide +kernel
theorem dX0_shift_9 : decode cX0_shift 9 = .ok (.arraylength, 1) := by decide +kernel
theorem dX0_shift_10 : decode cX0_shift 10 = .ok (.if_icmp .ge 13, 3) := by decide +kernel
theorem dX0_shift_13 : decode cX0_shift 13 = .ok (.aload_n 0, 1) := by decide +kernel
theorem dX0_shift_14 : decode cX0_shift 14 = .ok (.getfield 15, 3) := by decide +kernel
theorem dX0_shift_17 : decode cX0_shift 17 = .ok (.iload_n 1, 1) := by decide +kernel
theorem dX0_shift_18 : decode cX0_shift 18 = .ok (.dup2, 1) := by decide +kernel
theorem dX0_shift_19 : decode cX0_shift 19 = .ok (.laload, 1) := by decide +kernel
theorem dX0_shift_20 : decode cX0_shift 20 = .ok (.lload_n 2, 1) := by decide +kernel
theorem dX0_shift_21 : decode cX0_shift 21 = .ok (.ladd, 1) := by decide +kernel
theorem dX0_shift_22 : decode cX0_shift 22 = .ok (.lastore, 1) := by decide +kernel
theorem dX0_shift_23 : decode cX0_shift 23 = .ok (.return_, 1) := by decide +kernel
theorem dX0_move_0 : decode cX0_move 0 = .ok (.aload_n 0, 1) := by decide +kernel
theorem dX0_move_1 : decode cX0_move 1 = .ok (.iload_n 1, 1) := by decide +kernel
theorem dX0_move_2 : decode cX0_move 2 = .ok (.lload_n 2, 1) := by decide +kernel
theorem dX0_move_3 : decode cX0_move 3 = .ok (.invokevirtual 32, 3) := by decide +kernel
theorem dX0_move_6 : decode cX0_move 6 = .ok (.iload 4, 2) := by decide +kernel
theorem dX0_move_8 : decode cX0_move 8 = .ok (.iconst 4, 1) := by decide +kernel
theorem dX0_move_9 : decode cX0_move 9 = .ok (.imul, 1) := by decide +kernel
theorem dX0_move_10 : decode cX0_move 10 = .ok (.iload_n 1, 1) := by decide +kernel
theorem dX0_move_11 : decode cX0_move 11 = .ok (.iadd, 1) := by decide +kernel
theorem dX0_move_12 : decode cX0_move 12 = .ok (.istore 5, 2) := by decide +kernel
theorem dX0_move_14 : decode cX0_move 14 = .ok (.iload 5, 2) := by decide +kernel
theorem dX0_move_16 : decode cX0_move 16 = .ok (.ifCond .lt 24, 3) := by decide +kernel
theorem dX0_move_19 : decode cX0_move 19 = .ok (.iload 5, 2) := by decide +kernel
theorem dX0_move_21 : decode cX0_move 21 = .ok (.aload_n 0, 1) := by decide +kernel
theorem dX0_move_22 : decode cX0_move 22 = .ok (.getfield 22, 3) := by decide +kernel
theorem dX0_move_25 : decode cX0_move 25 = .ok (.arraylength, 1) := by decide +kernel
theorem dX0_move_26 : decode cX0_move 26 = .ok (.if_icmp .ge 14, 3) := by decide +kernel
theorem dX0_move_29 : decode cX0_move 29 = .ok (.aload_n 0, 1) := by decide +kernel
theorem dX0_move_30 : decode cX0_move 30 = .ok (.getfield 22, 3) := by decide +kernel
theorem dX0_move_33 : decode cX0_move 33 = .ok (.iload 5, 2) := by decide +kernel
theorem dX0_move_35 : decode cX0_move 35 = .ok (.dup2, 1) := by decide +kernel
theorem dX0_move_36 : decode cX0_move 36 = .ok (.laload, 1) := by decide +kernel
theorem dX0_move_37 : decode cX0_move 37 = .ok (.lload_n 2, 1) := by decide +kernel
theorem dX0_move_38 : decode cX0_move 38 = .ok (.ladd, 1) := by decide +kernel
theorem dX0_move_39 : decode cX0_move 39 = .ok (.lastore, 1) := by decide +kernel
theorem dX0_move_40 : decode cX0_move 40 = .ok (.return_, 1) := by decide +kernel
theorem dX0_movedUpTo_0 : decode cX0_movedUpTo 0 = .ok (.lconst 0, 1) := by decide +kernel
theorem dX0_movedUpTo_1 : decode cX0_movedUpTo 1 = .ok (.lstore_n 3, 1) := by decide +kernel
theorem dX0_movedUpTo_2 : decode cX0_movedUpTo 2 = .ok (.iconst 0, 1) := by decide +kernel
theorem dX0_movedUpTo_3 : decode cX0_movedUpTo 3 = .ok (.istore 5, 2) := by decide +kernel
theorem dX0_movedUpTo_5 : decode cX0_movedUpTo 5 = .ok (.iload 5, 2) := by decide +kernel
theorem dX0_movedUpTo_7 : decode cX0_movedUpTo 7 = .ok (.iload_n 1, 1) := by decide +kernel
theorem dX0_movedUpTo_8 : decode cX0_movedUpTo 8 = .ok (.if_icmp .gt 49, 3) := by decide +kernel
theorem dX0_movedUpTo_11 : decode cX0_movedUpTo 11 = .ok (.iload 5, 2) := by decide +kernel
theorem dX0_movedUpTo_13 : decode cX0_movedUpTo 13 = .ok (.bipush 10, 2) := by decide +kernel
theorem dX0_movedUpTo_15 : decode cX0_movedUpTo 15 = .ok (.if_icmp .gt 42, 3) := by decide +kernel
theorem dX0_movedUpTo_18 : decode cX0_movedUpTo 18 = .ok (.iload 5, 2) := by decide +kernel
theorem dX0_movedUpTo_20 : decode cX0_movedUpTo 20 = .ok (.iconst 4, 1) := by decide +kernel
theorem dX0_movedUpTo_21 : decode cX0_movedUpTo 21 = .ok (.imul, 1) := by decide +kernel
theorem dX0_movedUpTo_22 : decode cX0_movedUpTo 22 = .ok (.iload_n 2, 1) := by decide +kernel
theorem dX0_movedUpTo_23 : decode cX0_movedUpTo 23 = .ok (.iadd, 1) := by decide +kernel
theorem dX0_movedUpTo_24 : decode cX0_movedUpTo 24 = .ok (.istore 6, 2) := by decide +kernel
theorem dX0_movedUpTo_26 : decode cX0_movedUpTo 26 = .ok (.iload 6, 2) := by decide +kernel
theorem dX0_movedUpTo_28 : decode cX0_movedUpTo 28 = .ok (.ifCond .lt 23, 3) := by decide +kernel
theorem dX0_movedUpTo_31 : decode cX0_movedUpTo 31 = .ok (.iload 6, 2) := by decide +kernel
theorem dX0_movedUpTo_33 : decode cX0_movedUpTo 33 = .ok (.aload_n 0, 1) := by decide +kernel
theorem dX0_movedUpTo_34 : decode cX0_movedUpTo 34 = .ok (.getfield 22, 3) := by decide +kernel
theorem dX0_movedUpTo_37 : decode cX0_movedUpTo 37 = .ok (.arraylength, 1) := by decide +kernel
theorem dX0_movedUpTo_38 : decode cX0_movedUpTo 38 = .ok (.if_icmp .ge 13, 3) := by decide +kernel
theorem dX0_movedUpTo_41 : decode cX0_movedUpTo 41 = .ok (.lload_n 3, 1) := by decide +kernel
theorem dX0_movedUpTo_42 : decode cX0_movedUpTo 42 = .ok (.aload_n 0, 1) := by decide +kernel
theorem dX0_movedUpTo_43 : decode cX0_movedUpTo 43 = .ok (.getfield 22, 3) := by decide +kernel
theorem dX0_movedUpTo_46 : decode cX0_movedUpTo 46 = .ok (.iload 6, 2) := by decide +kernel
theorem dX0_movedUpTo_48 : decode cX0_movedUpTo 48 = .ok (.laload, 1) := by decide +kernel
theorem dX0_movedUpTo_49 : decode cX0_movedUpTo 49 = .ok (.ladd, 1) := by decide +kernel
theorem dX0_movedUpTo_50 : decode cX0_movedUpTo 50 = .ok (.lstore_n 3, 1) := by decide +kernel
theorem dX0_movedUpTo_51 : decode cX0_movedUpTo 51 = .ok (.iinc 5 1, 3) := by decide +kernel
theorem dX0_movedUpTo_54 : decode cX0_movedUpTo 54 = .ok (.goto (-49), 3) := by decide +kernel
theorem dX0_movedUpTo_57 : decode cX0_movedUpTo 57 = .ok (.lload_n 3, 1) := by decide +kernel
theorem dX0_movedUpTo_58 : decode cX0_movedUpTo 58 = .ok (.lreturn, 1) := by decide +kernel
theorem dX0_copyFrom_0 : decode cX0_copyFrom 0 = .ok (.aload_n 0, 1) := by decide +kernel
theorem dX0_copyFrom_1 : decode cX0_copyFrom 1 = .ok (.aload_n 1, 1) := by decide +kernel
theorem dX0_copyFrom_2 : decode cX0_copyFrom 2 = .ok (.getfield 36, 3) := by decide +kernel
theorem dX0_copyFrom_5 : decode cX0_copyFrom 5 = .ok (.putfield 36, 3) := by decide +kernel
theorem dX0_copyFrom_8 : decode cX0_copyFrom 8 = .ok (.aload_n 0, 1) := by decide +kernel
theorem dX0_copyFrom_9 : decode cX0_copyFrom 9 = .ok (.aload_n 1, 1) := by decide +kernel
theorem dX0_copyFrom_10 : decode cX0_copyFrom 10 = .ok (.getfield 9, 3) := by decide +kernel
theorem dX0_copyFrom_13 : decode cX0_copyFrom 13 = .ok (.putfield 9, 3) := by decide +kernel
theorem dX0_copyFrom_16 : decode cX0_copyFrom 16 = .ok (.aload_n 0, 1) := by decide +kernel
theorem dX0_copyFrom_17 : decode cX0_copyFrom 17 = .ok (.aload_n 1, 1) := by decide +kernel
theorem dX0_copyFrom_18 : decode cX0_copyFrom 18 = .ok (.getfield 39, 3) := by decide +kernel
theorem dX0_copyFrom_21 : decode cX0_copyFrom 21 = .ok (.putfield 39, 3) := by decide +kernel
theorem dX0_copyFrom_24 : decode cX0_copyFrom 24 = .ok (.aload_n 0, 1) := by decide +kernel
theorem dX0_copyFrom_25 : decode cX0_copyFrom 25 = .ok (.aload_n 1, 1) := by decide +kernel
theorem dX0_copyFrom_26 : decode cX0_copyFrom 26 = .ok (.getfield 43, 3) := by decide +kernel
theorem dX0_copyFrom_29 : decode cX0_copyFrom 29 = .ok (.putfield 43, 3) := by decide +kernel
theorem dX0_copyFrom_32 : decode cX0_copyFrom 32 = .ok (.aload_n 0, 1) := by decide +kernel
theorem dX0_copyFrom_33 : decode cX0_copyFrom 33 = .ok (.aload_n 1, 1) := by decide +kernel
theorem dX0_copyFrom_34 : decode cX0_copyFrom 34 = .ok (.getfield 46, 3) := by decide +kernel
theorem dX0_copyFrom_37 : decode cX0_copyFrom 37 = .ok (.putfield 46, 3) := by decide +kernel
theorem dX0_copyFrom_40 : decode cX0_copyFrom 40 = .ok (.aload_n 0, 1) := by decide +kernel
theorem dX0_copyFrom_41 : decode cX0_copyFrom 41 = .ok (.aload_n 1, 1) := by decide +kernel
theorem dX0_copyFrom_42 : decode cX0_copyFrom 42 = .ok (.getfield 25, 3) := by decide +kernel
theorem dX0_copyFrom_45 : decode cX0_copyFrom 45 = .ok (.putfield 25, 3) := by decide +kernel
theorem dX0_copyFrom_48 : decode cX0_copyFrom 48 = .ok (.aload_n 0, 1) := by decide +kernel
theorem dX0_copyFrom_49 : decode cX0_copyFrom 49 = .ok (.aload_n 1, 1) := by decide +kernel
theorem dX0_copyFrom_50 : decode cX0_copyFrom 50 = .ok (.getfield 29, 3) := by decide +kernel
theorem dX0_copyFrom_53 : decode cX0_copyFrom 53 = .ok (.putfield 29, 3) := by decide +kernel
theorem dX0_copyFrom_56 : decode cX0_copyFrom 56 = .ok (.aload_n 0, 1) := by decide +kernel
theorem dX0_copyFrom_57 : decode cX0_copyFrom 57 = .ok (.aload_n 1, 1) := by decide +kernel
theorem dX0_copyFrom_58 : decode cX0_copyFrom 58 = .ok (.getfield 49, 3) := by decide +kernel
theorem dX0_copyFrom_61 : decode cX0_copyFrom 61 = .ok (.putfield 49, 3) := by decide +kernel
theorem dX0_copyFrom_64 : decode cX0_copyFrom 64 = .ok (.aload_n 0, 1) := by decide +kernel
theorem dX0_copyFrom_65 : decode cX0_copyFrom 65 = .ok (.aload_n 1, 1) := by decide +kernel
theorem dX0_copyFrom_66 : decode cX0_copyFrom 66 = .ok (.getfield 52, 3) := by decide +kernel
theorem dX0_copyFrom_69 : decode cX0_copyFrom 69 = .ok (.putfield 52, 3) := by decide +kernel
theorem dX0_copyFrom_72 : decode cX0_copyFrom 72 = .ok (.aload_n 1, 1) := by decide +kernel
theorem dX0_copyFrom_73 : decode cX0_copyFrom 73 = .ok (.getfield 15, 3) := by decide +kernel
theorem dX0_copyFrom_76 : decode cX0_copyFrom 76 = .ok (.aload_n 0, 1) := by decide +kernel
theorem dX0_copyFrom_77 : decode cX0_copyFrom 77 = .ok (.getfield 15, 3) := by decide +kernel
theorem dX0_copyFrom_80 : decode cX0_copyFrom 80 = .ok (.invokestatic 55, 3) := by decide +kernel
theorem dX0_copyFrom_83 : decode cX0_copyFrom 83 = .ok (.aload_n 1, 1) := by decide +kernel
theorem dX0_copyFrom_84 : decode cX0_copyFrom 84 = .ok (.getfield 19, 3) := by decide +kernel
theorem dX0_copyFrom_87 : decode cX0_copyFrom 87 = .ok (.aload_n 0, 1) := by decide +kernel
theorem dX0_copyFrom_88 : decode cX0_copyFrom 88 = .ok (.getfield 19, 3) := by decide +kernel
theorem dX0_copyFrom_91 : decode cX0_copyFrom 91 = .ok (.invokestatic 55, 3) := by decide +kernel
theorem dX0_copyFrom_94 : decode cX0_copyFrom 94 = .ok (.aload_n 1, 1) := by decide +kernel
theorem dX0_copyFrom_95 : decode cX0_copyFrom 95 = .ok (.getfield 22, 3) := by decide +kernel
theorem dX0_copyFrom_98 : decode cX0_copyFrom 98 = .ok (.aload_n 0, 1) := by decide +kernel
theorem dX0_copyFrom_99 : decode cX0_copyFrom 99 = .ok (.getfield 22, 3) := by decide +kernel
theorem dX0_copyFrom_102 : decode cX0_copyFrom 102 = .ok (.invokestatic 55, 3) := by decide +kernel
theorem dX0_copyFrom_105 : decode cX0_copyFrom 105 = .ok (.return_, 1) := by decide +kernel
theorem dX1_init_0 : decode cX1_init 0 = .ok (.aload_n 0, 1) := by decide +kernel
theorem dX1_init_1 : decode cX1_init 1 = .ok (.invokespecial 3, 3) := by decide +kernel
theorem dX1_init_4 : decode cX1_init 4 = .ok (.aload_n 0, 1) := by decide +kernel
theorem dX1_init_5 : decode cX1_init 5 = .ok (.bipush 11, 2) := by decide +kernel
theorem dX1_init_7 : decode cX1_init 7 = .ok (.anewarray 9, 3) := by decide +kernel
theorem dX1_init_10 : decode cX1_init 10 = .ok (.putfield 11, 3) := by decide +kernel
theorem dX1_init_13 : decode cX1_init 13 = .ok (.aload_n 0, 1) := by decide +kernel
theorem dX1_init_14 : decode cX1_init 14 = .ok (.iconst 5, 1) := by decide +kernel
theorem dX1_init_15 : decode cX1_init 15 = .ok (.anewarray 17, 3) := by decide +kernel
theorem dX1_init_18 : decode cX1_init 18 = .ok (.putfield 19, 3) := by decide +kernel
theorem dX1_init_21 : decode cX1_init 21 = .ok (.aload_n 0, 1) := by decide +kernel
theorem dX1_init_22 : decode cX1_init 22 = .ok (.bipush 41, 2) := by decide +kernel
theorem dX1_init_24 : decode cX1_init 24 = .ok (.anewarray 23, 3) := by decide +kernel
theorem dX1_init_27 : decode cX1_init 27 = .ok (.putfield 25, 3) := by decide +kernel
theorem dX1_init_30 : decode cX1_init 30 = .ok (.aload_n 0, 1) := by decide +kernel
theorem dX1_init_31 : decode cX1_init 31 = .ok (.bipush 21, 2) := by decide +kernel
theorem dX1_init_33 : decode cX1_init 33 = .ok (.anewarray 29, 3) := by decide +kernel
theorem dX1_init_36 : decode cX1_init 36 = .ok (.putfield 31, 3) := by decide +kernel
theorem dX1_init_39 : decode cX1_init 39 = .ok (.aload_n 0, 1) := by decide +kernel
theorem dX1_init_40 : decode cX1_init 40 = .ok (.bipush 11, 2) := by decide +kernel
theorem dX1_init_42 : decode cX1_init 42 = .ok (.anewarray 35, 3) := by decide +kernel
theorem dX1_init_45 : decode cX1_init 45 = .ok (.putfield 37, 3) := by decide +kernel
theorem dX1_init_48 : decode cX1_init 48 = .ok (.aload_n 0, 1) := by decide +kernel
theorem dX1_init_49 : decode cX1_init 49 = .ok (.bipush 21, 2) := by decide +kernel
theorem dX1_init_51 : decode cX1_init 51 = .ok (.anewarray 41, 3) := by decide +kernel
theorem dX1_init_54 : decode cX1_init 54 = .ok (.putfield 43, 3) := by decide +kernel
theorem dX1_init_57 : decode cX1_init 57 = .ok (.aload_n 0, 1) := by decide +kernel
theorem dX1_init_58 : decode cX1_init 58 = .ok (.bipush 11, 2) := by decide +kernel
theorem dX1_init_60 : decode cX1_init 60 = .ok (.anewarray 47, 3) := by decide +kernel
theorem dX1_init_63 : decode cX1_init 63 = .ok (.putfield 49, 3) := by decide +kernel
theorem dX1_init_66 : decode cX1_init 66 = .ok (.aload_n 0, 1) := by decide +kernel
theorem dX1_init_67 : decode cX1_init 67 = .ok (.bipush 9, 2) := by decide +kernel
theorem dX1_init_69 : decode cX1_init 69 = .ok (.newarray .long, 2) := by decide +kernel
theorem dX1_init_71 : decode cX1_init 71 = .ok (.putfield 53, 3) := by decide +kernel
theorem dX1_init_74 : decode cX1_init 74 = .ok (.aload_n 0, 1) := by decide +kernel
theorem dX1_init_75 : decode cX1_init 75 = .ok (.aload_n 1, 1) := by decide +kernel
theorem dX1_init_76 : decode cX1_init 76 = .ok (.putfield 57, 3) := by decide +kernel
theorem dX1_init_79 : decode cX1_init 79 = .ok (.iconst 0, 1) := by decide +kernel
theorem dX1_init_80 : decode cX1_init 80 = .ok (.istore_n 2, 1) := by decide +kernel
theorem dX1_init_81 : decode cX1_init 81 = .ok (.iload_n 2, 1) := by decide +kernel
theorem dX1_init_82 : decode cX1_init 82 = .ok (.aload_n 0, 1) := by decide +kernel
theorem dX1_init_83 : decode cX1_init 83 = .ok (.getfield 11, 3) := by decide +kernel
theorem dX1_init_86 : decode cX1_init 86 = .ok (.arraylength, 1) := by decide +kernel
theorem dX1_init_87 : decode cX1_init 87 = .ok (.if_icmp .ge 22, 3) := by decide +kernel
theorem dX1_init_90 : decode cX1_init 90 = .ok (.aload_n 0, 1) := by decide +kernel
theorem dX1_init_91 : decode cX1_init 91 = .ok (.getfield 11, 3) := by decide +kernel
theorem dX1_init_94 : decode cX1_init 94 = .ok (.iload_n 2, 1) := by decide +kernel
theorem dX1_init_95 : decode cX1_init 95 = .ok (.new 9, 3) := by decide +kernel
theorem dX1_init_98 : decode cX1_init 98 = .ok (.dup, 1) := by decide +kernel
theorem dX1_init_99 : decode cX1_init 99 = .ok (.invokespecial 61, 3) := by decide +kernel
theorem dX1_init_102 : decode cX1_init 102 = .ok (.aastore, 1) := by decide +kernel
theorem dX1_init_103 : decode cX1_init 103 = .ok (.iinc 2 1, 3) := by decide +kernel
theorem dX1_init_106 : decode cX1_init 106 = .ok (.goto (-25), 3) := by decide +kernel
theorem dX1_init_109 : decode cX1_init 109 = .ok (.iconst 0, 1) := by decide +kernel
theorem dX1_init_110 : decode cX1_init 110 = .ok (.istore_n 2, 1) := by decide +kernel
theorem dX1_init_111 : decode cX1_init 111 = .ok (.iload_n 2, 1) := by decide +kernel
theorem dX1_init_112 : decode cX1_init 112 = .ok (.aload_n 0, 1) := by decide +kernel
theorem dX1_init_113 : decode cX1_init 113 = .ok (.getfield 19, 3) := by decide +kernel
theorem dX1_init_116 : decode cX1_init 116 = .ok (.arraylength, 1) := by decide +kernel
theorem dX1_init_117 : decode cX1_init 117 = .ok (.if_icmp .ge 22, 3) := by decide +kernel
theorem dX1_init_120 : decode cX1_init 120 = .ok (.aload_n 0, 1) := by decide +kernel
theorem dX1_init_121 : decode cX1_init 121 = .ok (.getfield 19, 3) := by decide +kernel
theorem dX1_init_124 : decode cX1_init 124 = .ok (.iload_n 2, 1) := by decide +kernel
theorem dX1_init_125 : decode cX1_init 125 = .ok (.new 17, 3) := by decide +kernel
theorem dX1_init_128 : decode cX1_init 128 = .ok (.dup, 1) := by decide +kernel
theorem dX1_init_129 : decode cX1_init 129 = .ok (.invokespecial 62, 3) := by decide +kernel
theorem dX1_init_132 : decode cX1_init 132 = .ok (.aastore, 1) := by decide +kernel
theorem dX1_init_133 : decode cX1_init 133 = .ok (.iinc 2 1, 3) := by decide +kernel
theorem dX1_init_136 : decode cX1_init 136 = .ok (.goto (-25), 3) := by decide +kernel
theorem dX1_init_139 : decode cX1_init 139 = .ok (.iconst 0, 1) := by decide +kernel
theorem dX1_init_140 : decode cX1_init 140 = .ok (.istore_n 2, 1) := by decide +kernel
theorem dX1_init_141 : decode cX1_init 141 = .ok (.iload_n 2, 1) := by decide +kernel
theorem dX1_init_142 : decode cX1_init 142 = .ok (.aload_n 0, 1) := by decide +kernel
theorem dX1_init_143 : decode cX1_init 143 = .ok (.getfield 25, 3) := by decide +kernel
theorem dX1_init_146 : decode cX1_init 146 = .ok (.arraylength, 1) := by decide +kernel
theorem dX1_init_147 : decode cX1_init 147 = .ok (.if_icmp .ge 22, 3) := by decide +kernel
theorem dX1_init_150 : decode cX1_init 150 = .ok (.aload_n 0, 1) := by decide +kernel
theorem dX1_init_151 : decode cX1_init 151 = .ok (.getfield 25, 3) := by decide +kernel
theorem dX1_init_154 : decode cX1_init 154 = .ok (.iload_n 2, 1) := by decide +kernel
theorem dX1_init_155 : decode cX1_init 155 = .ok (.new 23, 3) := by decide +kernel
theorem dX1_init_158 : decode cX1_init 158 = .ok (.dup, 1) := by decide +kernel
theorem dX1_init_159 : decode cX1_init 159 = .ok (.invokespecial 63, 3) := by decide +kernel
theorem dX1_init_162 : decode cX1_init 162 = .ok (.aastore, 1) := by decide +kernel
theorem dX1_init_163 : decode cX1_init 163 = .ok (.iinc 2 1, 3) := by decide +kernel
theorem dX1_init_166 : decode cX1_init 166 = .ok (.goto (-25), 3) := by decide +kernel
theorem dX1_init_169 : decode cX1_init 169 = .ok (.iconst 0, 1) := by decide +kernel
theorem dX1_init_170 : decode cX1_init 170 = .ok (.istore_n 2, 1) := by decide +kernel
theorem dX1_init_171 : decode cX1_init 171 = .ok (.iload_n 2, 1) := by decide +kernel
theorem dX1_init_172 : decode cX1_init 172 = .ok (.aload_n 0, 1) := by decide +kernel
theorem dX1_init_173 : decode cX1_init 173 = .ok (.getfield 31, 3) := by decide +kernel
theorem dX1_init_176 : decode cX1_init 176 = .ok (.arraylength, 1) := by decide +kernel
theorem dX1_init_177 : decode cX1_init 177 = .ok (.if_icmp .ge 23, 3) := by decide +kernel
theorem dX1_init_180 : decode cX1_init 180 = .ok (.aload_n 0, 1) := by decide +kernel
theorem dX1_init_181 : decode cX1_init 181 = .ok (.getfield 31, 3) := by decide +kernel
theorem dX1_init_184 : decode cX1_init 184 = .ok (.iload_n 2, 1) := by decide +kernel
theorem dX1_init_185 : decode cX1_init 185 = .ok (.new 29, 3) := by decide +kernel
theorem dX1_init_188 : decode cX1_init 188 = .ok (.dup, 1) := by decide +kernel
theorem dX1_init_189 : decode cX1_init 189 = .ok (.iload_n 2, 1) := by decide +kernel
theorem dX1_init_190 : decode cX1_init 190 = .ok (.invokespecial 64, 3) := by decide +kernel
theorem dX1_init_193 : decode cX1_init 193 = .ok (.aastore, 1) := by decide +kernel
theorem dX1_init_194 : decode cX1_init 194 = .ok (.iinc 2 1, 3) := by decide +kernel
theorem dX1_init_197 : decode cX1_init 197 = .ok (.goto (-26), 3) := by decide +kernel
theorem dX1_init_200 : decode cX1_init 200 = .ok (.iconst 0, 1) := by decide +kernel
theorem dX1_init_201 : decode cX1_init 201 = .ok (.istore_n 2, 1) := by decide +kernel
theorem dX1_init_202 : decode cX1_init 202 = .ok (.iload_n 2, 1) := by decide +kernel
theorem dX1_init_203 : decode cX1_init 203 = .ok (.aload_n 0, 1) := by decide +kernel
theorem dX1_init_204 : decode cX1_init 204 = .ok (.getfield 37, 3) := by decide +kernel
theorem dX1_init_207 : decode cX1_init 207 = .ok (.arraylength, 1) := by decide +kernel
theorem dX1_init_208 : decode cX1_init 208 = .ok (.if_icmp .ge 22, 3) := by decide +kernel
theorem dX1_init_211 : decode cX1_init 211 = .ok (.aload_n 0, 1) := by decide +kernel
theorem dX1_init_212 : decode cX1_init 212 = .ok (.getfield 37, 3) := by decide +kernel
theorem dX1_init_215 : decode cX1_init 215 = .ok (.iload_n 2, 1) := by decide +kernel
theorem dX1_init_216 : decode cX1_init 216 = .ok (.new 35, 3) := by decide +kernel
theorem dX1_init_219 : decode cX1_init 219 = .ok (.dup, 1) := by decide +kernel
theorem dX1_init_220 : decode cX1_init 220 = .ok (.invokespecial 67, 3) := by decide +kernel
theorem dX1_init_223 : decode cX1_init 223 = .ok (.aastore, 1) := by decide +kernel
theorem dX1_init_224 : decode cX1_init 224 = .ok (.iinc 2 1, 3) := by decide +kernel
theorem dX1_init_227 : decode cX1_init 227 = .ok (.goto (-25), 3) := by decide +kernel
theorem dX1_init_230 : decode cX1_init 230 = .ok (.iconst 0, 1) := by decide +kernel
theorem dX1_init_231 : decode cX1_init 231 = .ok (.istore_n 2, 1) := by decide +kernel
theorem dX1_init_232 : decode cX1_init 232 = .ok (.iload_n 2, 1) := by decide +kernel
theorem dX1_init_233 : decode cX1_init 233 = .ok (.aload_n 0, 1) := by decide +kernel
theorem dX1_init_234 : decode cX1_init 234 = .ok (.getfield 43, 3) := by decide +kernel
theorem dX1_init_237 : decode cX1_init 237 = .ok (.arraylength, 1) := by decide +kernel
theorem dX1_init_238 : decode cX1_init 238 = .ok (.if_icmp .ge 22, 3) := by decide +kernel
theorem dX1_init_241 : decode cX1_init 241 = .ok (.aload_n 0, 1) := by decide +kernel
theorem dX1_init_242 : decode cX1_init 242 = .ok (.getfield 43, 3) := by decide +kernel
theorem dX1_init_245 : decode cX1_init 245 = .ok (.iload_n 2, 1) := by decide +kernel
theorem dX1_init_246 : decode cX1_init 246 = .ok (.new 41, 3) := by decide +kernel
theorem dX1_init_249 : decode cX1_init 249 = .ok (.dup, 1) := by decide +kernel
theorem dX1_init_250 : decode cX1_init 250 = .ok (.invokespecial 68, 3) := by decide +kernel
theorem dX1_init_253 : decode cX1_init 253 = .ok (.aastore, 1) := by decide +kernel
theorem dX1_init_254 : decode cX1_init 254 = .ok (.iinc 2 1, 3) := by decide +kernel
theorem dX1_init_257 : decode cX1_init 257 = .ok (.goto (-25), 3) := by decide +kernel
theorem dX1_init_260 : decode cX1_init 260 = .ok (.iconst 0, 1) := by decide +kernel
theorem dX1_init_261 : decode cX1_init 261 = .ok (.istore_n 2, 1) := by decide +kernel
theorem dX1_init_262 : decode cX1_init 262 = .ok (.iload_n 2, 1) := by decide +kernel
theorem dX1_init_263 : decode cX1_init 263 = .ok (.aload_n 0, 1) := by decide +kernel
theorem dX1_init_264 : decode cX1_init 264 = .ok (.getfield 49, 3) := by decide +kernel
theorem dX1_init_267 : decode cX1_init 267 = .ok (.arraylength, 1) := by decide +kernel
theorem dX1_init_268 : decode cX1_init 268 = .ok (.if_icmp .ge 22, 3) := by decide +kernel
theorem dX1_init_271 : decode cX1_init 271 = .ok (.aload_n 0, 1) := by decide +kernel
theorem dX1_init_272 : decode cX1_init 272 = .ok (.getfield 49, 3) := by decide +kernel
theorem dX1_init_275 : decode cX1_init 275 = .ok (.iload_n 2, 1) := by decide +kernel
theorem dX1_init_276 : decode cX1_init 276 = .ok (.new 47, 3) := by decide +kernel
theorem dX1_init_279 : decode cX1_init 279 = .ok (.dup, 1) := by decide +kernel
theorem dX1_init_280 : decode cX1_init 280 = .ok (.invokespecial 69, 3) := by decide +kernel
theorem dX1_init_283 : decode cX1_init 283 = .ok (.aastore, 1) := by decide +kernel
theorem dX1_init_284 : decode cX1_init 284 = .ok (.iinc 2 1, 3) := by decide +kernel
theorem dX1_init_287 : decode cX1_init 287 = .ok (.goto (-25), 3) := by decide +kernel
theorem dX1_init_290 : decode cX1_init 290 = .ok (.iconst 0, 1) := by decide +kernel
theorem dX1_init_291 : decode cX1_init 291 = .ok (.istore_n 2, 1) := by decide +kernel
theorem dX1_init_292 : decode cX1_init 292 = .ok (.iload_n 2, 1) := by decide +kernel
theorem dX1_init_293 : decode cX1_init 293 = .ok (.aload_n 0, 1) := by decide +kernel
theorem dX1_init_294 : decode cX1_init 294 = .ok (.getfield 53, 3) := by decide +kernel
theorem dX1_init_297 : decode cX1_init 297 = .ok (.arraylength, 1) := by decide +kernel
theorem dX1_init_298 : decode cX1_init 298 = .ok (.if_icmp .ge 18, 3) := by decide +kernel
theorem dX1_init_301 : decode cX1_init 301 = .ok (.aload_n 0, 1) := by decide +kernel
theorem dX1_init_302 : decode cX1_init 302 = .ok (.getfield 53, 3) := by decide +kernel
theorem dX1_init_305 : decode cX1_init 305 = .ok (.iload_n 2, 1) := by decide +kernel
theorem dX1_init_306 : decode cX1_init 306 = .ok (.ldc2_w 70, 3) := by decide +kernel
theorem dX1_init_309 : decode cX1_init 309 = .ok (.lastore, 1) := by decide +kernel
theorem dX1_init_310 : decode cX1_init 310 = .ok (.iinc 2 1, 3) := by decide +kernel
theorem dX1_init_313 : decode cX1_init 313 = .ok (.goto (-21), 3) := by decide +kernel
theorem dX1_init_316 : decode cX1_init 316 = .ok (.return_, 1) := by decide +kernel
theorem dX1_account_0 : decode cX1_account 0 = .ok (.aload_n 0, 1) := by decide +kernel
theorem dX1_account_1 : decode cX1_account 1 = .ok (.getfield 11, 3) := by decide +kernel
theorem dX1_account_4 : decode cX1_account 4 = .ok (.iload_n 1, 1) := by decide +kernel
theorem dX1_account_5 : decode cX1_account 5 = .ok (.ifCond .lt 9, 3) := by decide +kernel
theorem dX1_account_8 : decode cX1_account 8 = .ok (.iload_n 1, 1) := by decide +kernel
theorem dX1_account_9 : decode cX1_account 9 = .ok (.bipush 10, 2) := by decide +kernel
theorem dX1_account_11 : decode cX1_account 11 = .ok (.if_icmp .le 8, 3) := by decide +kernel
theorem dX1_account_14 : decode cX1_account 14 = .ok (.bipush 10, 2) := by decide +kernel
theorem dX1_account_16 : decode cX1_account 16 = .ok (.goto 4, 3) := by decide +kernel
theorem dX1_account_19 : decode cX1_account 19 = .ok (.iload_n 1, 1) := by decide +kernel
theorem dX1_account_20 : decode cX1_account 20 = .ok (.aaload, 1) := by decide +kernel
theorem dX1_account_21 : decode cX1_account 21 = .ok (.areturn, 1) := by decide +kernel
theorem dX1_security_0 : decode cX1_security 0 = .ok (.aload_n 0, 1) := by decide +kernel
theorem dX1_security_1 : decode cX1_security 1 = .ok (.getfield 19, 3) := by decide +kernel
theorem dX1_security_4 : decode cX1_security 4 = .ok (.iload_n 1, 1) := by decide +kernel
theorem dX1_security_5 : decode cX1_security 5 = .ok (.ifCond .lt 8, 3) := by decide +kernel
theorem dX1_security_8 : decode cX1_security 8 = .ok (.iload_n 1, 1) := by decide +kernel
theorem dX1_security_9 : decode cX1_security 9 = .ok (.iconst 4, 1) := by decide +kernel
theorem dX1_security_10 : decode cX1_security 10 = .ok (.if_icmp .le 7, 3) := by decide +kernel
theorem dX1_security_13 : decode cX1_security 13 = .ok (.iconst 4, 1) := by decide +kernel
theorem dX1_security_14 : decode cX1_security 14 = .ok (.goto 4, 3) := by decide +kernel
theorem dX1_security_17 : decode cX1_security 17 = .ok (.iload_n 1, 1) := by decide +kernel
theorem dX1_security_18 : decode cX1_security 18 = .ok (.aaload, 1) := by decide +kernel
theorem dX1_security_19 : decode cX1_security 19 = .ok (.areturn, 1) := by decide +kernel
theorem dX1_instruction_0 : decode cX1_instruction 0 = .ok (.aload_n 0, 1) := by decide +kernel
theorem dX1_instruction_1 : decode cX1_instruction 1 = .ok (.getfield 25, 3) := by decide +kernel
theorem dX1_instruction_4 : decode cX1_instruction 4 = .ok (.iload_n 1, 1) := by decide +kernel
theorem dX1_instruction_5 : decode cX1_instruction 5 = .ok (.ifCond .lt 9, 3) := by decide +kernel
theorem dX1_instruction_8 : decode cX1_instruction 8 = .ok (.iload_n 1, 1) := by decide +kernel
theorem dX1_instruction_9 : decode cX1_instruction 9 = .ok (.bipush 40, 2) := by decide +kernel
theorem dX1_instruction_11 : decode cX1_instruction 11 = .ok (.if_icmp .le 8, 3) := by decide +kernel
theorem dX1_instruction_14 : decode cX1_instruction 14 = .ok (.bipush 40, 2) := by decide +kernel
theorem dX1_instruction_16 : decode cX1_instruction 16 = .ok (.goto 4, 3) := by decide +kernel
theorem dX1_instruction_19 : decode cX1_instruction 19 = .ok (.iload_n 1, 1) := by decide +kernel
theorem dX1_instruction_20 : decode cX1_instruction 20 = .ok (.aaload, 1) := by decide +kernel
theorem dX1_instruction_21 : decode cX1_instruction 21 = .ok (.areturn, 1) := by decide +kernel
theorem dX1_trade_0 : decode cX1_trade 0 = .ok (.aload_n 0, 1) := by decide +kernel
theorem dX1_trade_1 : decode cX1_trade 1 = .ok (.getfield 31, 3) := by decide +kernel
theorem dX1_trade_4 : decode cX1_trade 4 = .ok (.iload_n 1, 1) := by decide +kernel
theorem dX1_trade_5 : decode cX1_trade 5 = .ok (.ifCond .lt 9, 3) := by decide +kernel
theorem dX1_trade_8 : decode cX1_trade 8 = .ok (.iload_n 1, 1) := by decide +kernel
theorem dX1_trade_9 : decode cX1_trade 9 = .ok (.bipush 20, 2) := by decide +kernel
theorem dX1_trade_11 : decode cX1_trade 11 = .ok (.if_icmp .le 8, 3) := by decide +kernel
theorem dX1_trade_14 : decode cX1_trade 14 = .ok (.bipush 20, 2) := by decide +kernel
theorem dX1_trade_16 : decode cX1_trade 16 = .ok (.goto 4, 3) := by decide +kernel
theorem dX1_trade_19 : decode cX1_trade 19 = .ok (.iload_n 1, 1) := by decide +kernel
theorem dX1_trade_20 : decode cX1_trade 20 = .ok (.aaload, 1) := by decide +kernel
theorem dX1_trade_21 : decode cX1_trade 21 = .ok (.areturn, 1) := by decide +kernel
theorem dX1_linkAt_0 : decode cX1_linkAt 0 = .ok (.aload_n 0, 1) := by decide +kernel
theorem dX1_linkAt_1 : decode cX1_linkAt 1 = .ok (.getfield 37, 3) := by decide +kernel
theorem dX1_linkAt_4 : decode cX1_linkAt 4 = .ok (.iload_n 1, 1) := by decide +kernel
theorem dX1_linkAt_5 : decode cX1_linkAt 5 = .ok (.ifCond .lt 9, 3) := by decide +kernel
theorem dX1_linkAt_8 : decode cX1_linkAt 8 = .ok (.iload_n 1, 1) := by decide +kernel
theorem dX1_linkAt_9 : decode cX1_linkAt 9 = .ok (.bipush 10, 2) := by decide +kernel
theorem dX1_linkAt_11 : decode cX1_linkAt 11 = .ok (.if_icmp .le 8, 3) := by decide +kernel
theorem dX1_linkAt_14 : decode cX1_linkAt 14 = .ok (.bipush 10, 2) := by decide +kernel
theorem dX1_linkAt_16 : decode cX1_linkAt 16 = .ok (.goto 4, 3) := by decide +kernel
theorem dX1_linkAt_19 : decode cX1_linkAt 19 = .ok (.iload_n 1, 1) := by decide +kernel
theorem dX1_linkAt_20 : decode cX1_linkAt 20 = .ok (.aaload, 1) := by decide +kernel
theorem dX1_linkAt_21 : decode cX1_linkAt 21 = .ok (.areturn, 1) := by decide +kernel
theorem dX1_loanAt_0 : decode cX1_loanAt 0 = .ok (.aload_n 0, 1) := by decide +kernel
theorem dX1_loanAt_1 : decode cX1_loanAt 1 = .ok (.getfield 43, 3) := by decide +kernel
theorem dX1_loanAt_4 : decode cX1_loanAt 4 = .ok (.iload_n 1, 1) := by decide +kernel
theorem dX1_loanAt_5 : decode cX1_loanAt 5 = .ok (.ifCond .lt 9, 3) := by decide +kernel
theorem dX1_loanAt_8 : decode cX1_loanAt 8 = .ok (.iload_n 1, 1) := by decide +kernel
theorem dX1_loanAt_9 : decode cX1_loanAt 9 = .ok (.bipush 20, 2) := by decide +kernel
theorem dX1_loanAt_11 : decode cX1_loanAt 11 = .ok (.if_icmp .le 8, 3) := by decide +kernel
theorem dX1_loanAt_14 : decode cX1_loanAt 14 = .ok (.bipush 20, 2) := by decide +kernel
theorem dX1_loanAt_16 : decode cX1_loanAt 16 = .ok (.goto 4, 3) := by decide +kernel
theorem dX1_loanAt_19 : decode cX1_loanAt 19 = .ok (.iload_n 1, 1) := by decide +kernel
theorem dX1_loanAt_20 : decode cX1_loanAt 20 = .ok (.aaload, 1) := by decide +kernel
theorem dX1_loanAt_21 : decode cX1_loanAt 21 = .ok (.areturn, 1) := by decide +kernel
theorem dX1_event_0 : decode cX1_event 0 = .ok (.aload_n 0, 1) := by decide +kernel
theorem dX1_event_1 : decode cX1_event 1 = .ok (.getfield 49, 3) := by decide +kernel
theorem dX1_event_4 : decode cX1_event 4 = .ok (.iload_n 1, 1) := by decide +kernel
theorem dX1_event_5 : decode cX1_event 5 = .ok (.ifCond .lt 9, 3) := by decide +kernel
theorem dX1_event_8 : decode cX1_event 8 = .ok (.iload_n 1, 1) := by decide +kernel
theorem dX1_event_9 : decode cX1_event 9 = .ok (.bipush 10, 2) := by decide +kernel
theorem dX1_event_11 : decode cX1_event 11 = .ok (.if_icmp .le 8, 3) := by decide +kernel
theorem dX1_event_14 : decode cX1_event 14 = .ok (.bipush 10, 2) := by decide +kernel
theorem dX1_event_16 : decode cX1_event 16 = .ok (.goto 4, 3) := by decide +kernel
theorem dX1_event_19 : decode cX1_event 19 = .ok (.iload_n 1, 1) := by decide +kernel
theorem dX1_event_20 : decode cX1_event 20 = .ok (.aaload, 1) := by decide +kernel
theorem dX1_event_21 : decode cX1_event 21 = .ok (.areturn, 1) := by decide +kernel
theorem dX1_copyFrom_0 : decode cX1_copyFrom 0 = .ok (.iconst 0, 1) := by decide +kernel
theorem dX1_copyFrom_1 : decode cX1_copyFrom 1 = .ok (.istore_n 2, 1) := by decide +kernel
theorem dX1_copyFrom_2 : decode cX1_copyFrom 2 = .ok (.iload_n 2, 1) := by decide +kernel
theorem dX1_copyFrom_3 : decode cX1_copyFrom 3 = .ok (.bipush 10, 2) := by decide +kernel
theorem dX1_copyFrom_5 : decode cX1_copyFrom 5 = .ok (.if_icmp .gt 22, 3) := by decide +kernel
theorem dX1_copyFrom_8 : decode cX1_copyFrom 8 = .ok (.aload_n 0, 1) := by decide +kernel
theorem dX1_copyFrom_9 : decode cX1_copyFrom 9 = .ok (.iload_n 2, 1) := by decide +kernel
theorem dX1_copyFrom_10 : decode cX1_copyFrom 10 = .ok (.invokevirtual 72, 3) := by decide +kernel
theorem dX1_copyFrom_13 : decode cX1_copyFrom 13 = .ok (.aload_n 1, 1) := by decide +kernel
theorem dX1_copyFrom_14 : decode cX1_copyFrom 14 = .ok (.iload_n 2, 1) := by decide +kernel
theorem dX1_copyFrom_15 : decode cX1_copyFrom 15 = .ok (.invokevirtual 72, 3) := by decide +kernel
theorem dX1_copyFrom_18 : decode cX1_copyFrom 18 = .ok (.invokevirtual 76, 3) := by decide +kernel
theorem dX1_copyFrom_21 : decode cX1_copyFrom 21 = .ok (.iinc 2 1, 3) := by decide +kernel
theorem dX1_copyFrom_24 : decode cX1_copyFrom 24 = .ok (.goto (-22), 3) := by decide +kernel
theorem dX1_copyFrom_27 : decode cX1_copyFrom 27 = .ok (.iconst 0, 1) := by decide +kernel
theorem dX1_copyFrom_28 : decode cX1_copyFrom 28 = .ok (.istore_n 2, 1) := by decide +kernel
theorem dX1_copyFrom_29 : decode cX1_copyFrom 29 = .ok (.iload_n 2, 1) := by decide +kernel
theorem dX1_copyFrom_30 : decode cX1_copyFrom 30 = .ok (.iconst 4, 1) := by decide +kernel
theorem dX1_copyFrom_31 : decode cX1_copyFrom 31 = .ok (.if_icmp .gt 22, 3) := by decide +kernel
theorem dX1_copyFrom_34 : decode cX1_copyFrom 34 = .ok (.aload_n 0, 1) := by decide +kernel
theorem dX1_copyFrom_35 : decode cX1_copyFrom 35 = .ok (.iload_n 2, 1) := by decide +kernel
theorem dX1_copyFrom_36 : decode cX1_copyFrom 36 = .ok (.invokevirtual 80, 3) := by decide +kernel
theorem dX1_copyFrom_39 : decode cX1_copyFrom 39 = .ok (.aload_n 1, 1) := by decide +kernel
theorem dX1_copyFrom_40 : decode cX1_copyFrom 40 = .ok (.iload_n 2, 1) := by decide +kernel
theorem dX1_copyFrom_41 : decode cX1_copyFrom 41 = .ok (.invokevirtual 80, 3) := by decide +kernel
theorem dX1_copyFrom_44 : decode cX1_copyFrom 44 = .ok (.invokevirtual 84, 3) := by decide +kernel
theorem dX1_copyFrom_47 : decode cX1_copyFrom 47 = .ok (.iinc 2 1, 3) := by decide +kernel
theorem dX1_copyFrom_50 : decode cX1_copyFrom 50 = .ok (.goto (-21), 3) := by decide +kernel
theorem dX1_copyFrom_53 : decode cX1_copyFrom 53 = .ok (.iconst 0, 1) := by decide +kernel
theorem dX1_copyFrom_54 : decode cX1_copyFrom 54 = .ok (.istore_n 2, 1) := by decide +kernel
theorem dX1_copyFrom_55 : decode cX1_copyFrom 55 = .ok (.iload_n 2, 1) := by decide +kernel
theorem dX1_copyFrom_56 : decode cX1_copyFrom 56 = .ok (.bipush 40, 2) := by decide +kernel
theorem dX1_copyFrom_58 : decode cX1_copyFrom 58 = .ok (.if_icmp .gt 22, 3) := by decide +kernel
theorem dX1_copyFrom_61 : decode cX1_copyFrom 61 = .ok (.aload_n 0, 1) := by decide +kernel
theorem dX1_copyFrom_62 : decode cX1_copyFrom 62 = .ok (.iload_n 2, 1) := by decide +kernel
theorem dX1_copyFrom_63 : decode cX1_copyFrom 63 = .ok (.invokevirtual 87, 3) := by decide +kernel
theorem dX1_copyFrom_66 : decode cX1_copyFrom 66 = .ok (.aload_n 1, 1) := by decide +kernel
theorem dX1_copyFrom_67 : decode cX1_copyFrom 67 = .ok (.iload_n 2, 1) := by decide +kernel
theorem dX1_copyFrom_68 : decode cX1_copyFrom 68 = .ok (.invokevirtual 87, 3) := by decide +kernel
theorem dX1_copyFrom_71 : decode cX1_copyFrom 71 = .ok (.invokevirtual 91, 3) := by decide +kernel
theorem dX1_copyFrom_74 : decode cX1_copyFrom 74 = .ok (.iinc 2 1, 3) := by decide +kernel
theorem dX1_copyFrom_77 : decode cX1_copyFrom 77 = .ok (.goto (-22), 3) := by decide +kernel
theorem dX1_copyFrom_80 : decode cX1_copyFrom 80 = .ok (.iconst 0, 1) := by decide +kernel
theorem dX1_copyFrom_81 : decode cX1_copyFrom 81 = .ok (.istore_n 2, 1) := by decide +kernel
theorem dX1_copyFrom_82 : decode cX1_copyFrom 82 = .ok (.iload_n 2, 1) := by decide +kernel
theorem dX1_copyFrom_83 : decode cX1_copyFrom 83 = .ok (.bipush 20, 2) := by decide +kernel
theorem dX1_copyFrom_85 : decode cX1_copyFrom 85 = .ok (.if_icmp .gt 22, 3) := by decide +kernel
theorem dX1_copyFrom_88 : decode cX1_copyFrom 88 = .ok (.aload_n 0, 1) := by decide +kernel
theorem dX1_copyFrom_89 : decode cX1_copyFrom 89 = .ok (.iload_n 2, 1) := by decide +kernel
theorem dX1_copyFrom_90 : decode cX1_copyFrom 90 = .ok (.invokevirtual 94, 3) := by decide +kernel
theorem dX1_copyFrom_93 : decode cX1_copyFrom 93 = .ok (.aload_n 1, 1) := by decide +kernel
theorem dX1_copyFrom_94 : decode cX1_copyFrom 94 = .ok (.iload_n 2, 1) := by decide +kernel
theorem dX1_copyFrom_95 : decode cX1_copyFrom 95 = .ok (.invokevirtual 94, 3) := by decide +kernel
theorem dX1_copyFrom_98 : decode cX1_copyFrom 98 = .ok (.invokevirtual 98, 3) := by decide +kernel
theorem dX1_copyFrom_101 : decode cX1_copyFrom 101 = .ok (.iinc 2 1, 3) := by decide +kernel
theorem dX1_copyFrom_104 : decode cX1_copyFrom 104 = .ok (.goto (-22), 3) := by decide +kernel
theorem dX1_copyFrom_107 : decode cX1_copyFrom 107 = .ok (.iconst 0, 1) := by decide +kernel
theorem dX1_copyFrom_108 : decode cX1_copyFrom 108 = .ok (.istore_n 2, 1) := by decide +kernel
theorem dX1_copyFrom_109 : decode cX1_copyFrom 109 = .ok (.iload_n 2, 1) := by decide +kernel
theorem dX1_copyFrom_110 : decode cX1_copyFrom 110 = .ok (.bipush 10, 2) := by decide +kernel
theorem dX1_copyFrom_112 : decode cX1_copyFrom 112 = .ok (.if_icmp .gt 22, 3) := by decide +kernel
theorem dX1_copyFrom_115 : decode cX1_copyFrom 115 = .ok (.aload_n 0, 1) := by decide +kernel
theorem dX1_copyFrom_116 : decode cX1_copyFrom 116 = .ok (.iload_n 2, 1) := by decide +kernel
theorem dX1_copyFrom_117 : decode cX1_copyFrom 117 = .ok (.invokevirtual 101, 3) := by decide +kernel
theorem dX1_copyFrom_120 : decode cX1_copyFrom 120 = .ok (.aload_n 1, 1) := by decide +kernel
theorem dX1_copyFrom_121 : decode cX1_copyFrom 121 = .ok (.iload_n 2, 1) := by decide +kernel
theorem dX1_copyFrom_122 : decode cX1_copyFrom 122 = .ok (.invokevirtual 101, 3) := by decide +kernel
theorem dX1_copyFrom_125 : decode cX1_copyFrom 125 = .ok (.invokevirtual 105, 3) := by decide +kernel
theorem dX1_copyFrom_128 : decode cX1_copyFrom 128 = .ok (.iinc 2 1, 3) := by decide +kernel
theorem dX1_copyFrom_131 : decode cX1_copyFrom 131 = .ok (.goto (-22), 3) := by decide +kernel
theorem dX1_copyFrom_134 : decode cX1_copyFrom 134 = .ok (.iconst 0, 1) := by decide +kernel
theorem dX1_copyFrom_135 : decode cX1_copyFrom 135 = .ok (.istore_n 2, 1) := by decide +kernel
theorem dX1_copyFrom_136 : decode cX1_copyFrom 136 = .ok (.iload_n 2, 1) := by decide +kernel
theorem dX1_copyFrom_137 : decode cX1_copyFrom 137 = .ok (.bipush 20, 2) := by decide +kernel
theorem dX1_copyFrom_139 : decode cX1_copyFrom 139 = .ok (.if_icmp .gt 22, 3) := by decide +kernel
theorem dX1_copyFrom_142 : decode cX1_copyFrom 142 = .ok (.aload_n 0, 1) := by decide +kernel
theorem dX1_copyFrom_143 : decode cX1_copyFrom 143 = .ok (.iload_n 2, 1) := by decide +kernel
theorem dX1_copyFrom_144 : decode cX1_copyFrom 144 = .ok (.invokevirtual 108, 3) := by decide +kernel
theorem dX1_copyFrom_147 : decode cX1_copyFrom 147 = .ok (.aload_n 1, 1) := by decide +kernel
theorem dX1_copyFrom_148 : decode cX1_copyFrom 148 = .ok (.iload_n 2, 1) := by decide +kernel
theorem dX1_copyFrom_149 : decode cX1_copyFrom 149 = .ok (.invokevirtual 108, 3) := by decide +kernel
theorem dX1_copyFrom_152 : decode cX1_copyFrom 152 = .ok (.invokevirtual 112, 3) := by decide +kernel
theorem dX1_copyFrom_155 : decode cX1_copyFrom 155 = .ok (.iinc 2 1, 3) := by decide +kernel
theorem dX1_copyFrom_158 : decode cX1_copyFrom 158 = .ok (.goto (-22), 3) := by decide +kernel
theorem dX1_copyFrom_161 : decode cX1_copyFrom 161 = .ok (.iconst 0, 1) := by decide +kernel
theorem dX1_copyFrom_162 : decode cX1_copyFrom 162 = .ok (.istore_n 2, 1) := by decide +kernel
theorem dX1_copyFrom_163 : decode cX1_copyFrom 163 = .ok (.iload_n 2, 1) := by decide +kernel
theorem dX1_copyFrom_164 : decode cX1_copyFrom 164 = .ok (.bipush 10, 2) := by decide +kernel
theorem dX1_copyFrom_166 : decode cX1_copyFrom 166 = .ok (.if_icmp .gt 22, 3) := by decide +kernel
theorem dX1_copyFrom_169 : decode cX1_copyFrom 169 = .ok (.aload_n 0, 1) := by decide +kernel
theorem dX1_copyFrom_170 : decode cX1_copyFrom 170 = .ok (.iload_n 2, 1) := by decide +kernel
theorem dX1_copyFrom_171 : decode cX1_copyFrom 171 = .ok (.invokevirtual 115, 3) := by decide +kernel
theorem dX1_copyFrom_174 : decode cX1_copyFrom 174 = .ok (.aload_n 1, 1) := by decide +kernel
theorem dX1_copyFrom_175 : decode cX1_copyFrom 175 = .ok (.iload_n 2, 1) := by decide +kernel
theorem dX1_copyFrom_176 : decode cX1_copyFrom 176 = .ok (.invokevirtual 115, 3) := by decide +kernel
theorem dX1_copyFrom_179 : decode cX1_copyFrom 179 = .ok (.invokevirtual 119, 3) := by decide +kernel
theorem dX1_copyFrom_182 : decode cX1_copyFrom 182 = .ok (.iinc 2 1, 3) := by decide +kernel
theorem dX1_copyFrom_185 : decode cX1_copyFrom 185 = .ok (.goto (-22), 3) := by decide +kernel
theorem dX1_copyFrom_188 : decode cX1_copyFrom 188 = .ok (.aload_n 1, 1) := by decide +kernel
theorem dX1_copyFrom_189 : decode cX1_copyFrom 189 = .ok (.getfield 53, 3) := by decide +kernel
theorem dX1_copyFrom_192 : decode cX1_copyFrom 192 = .ok (.aload_n 0, 1) := by decide +kernel
theorem dX1_copyFrom_193 : decode cX1_copyFrom 193 = .ok (.getfield 53, 3) := by decide +kernel
theorem dX1_copyFrom_196 : decode cX1_copyFrom 196 = .ok (.invokestatic 122, 3) := by decide +kernel
theorem dX1_copyFrom_199 : decode cX1_copyFrom 199 = .ok (.aload_n 0, 1) := by decide +kernel
theorem dX1_copyFrom_200 : decode cX1_copyFrom 200 = .ok (.aload_n 1, 1) := by decide +kernel
theorem dX1_copyFrom_201 : decode cX1_copyFrom 201 = .ok (.invokevirtual 126, 3) := by decide +kernel
theorem dX1_copyFrom_204 : decode cX1_copyFrom 204 = .ok (.return_, 1) := by decide +kernel
theorem dX1_copyCounts_0 : decode cX1_copyCounts 0 = .ok (.aload_n 0, 1) := by decide +kernel
theorem dX1_copyCounts_1 : decode cX1_copyCounts 1 = .ok (.aload_n 1, 1) := by decide +kernel
theorem dX1_copyCounts_2 : decode cX1_copyCounts 2 = .ok (.getfield 130, 3) := by decide +kernel
theorem dX1_copyCounts_5 : decode cX1_copyCounts 5 = .ok (.putfield 130, 3) := by decide +kernel
theorem dX1_copyCounts_8 : decode cX1_copyCounts 8 = .ok (.aload_n 0, 1) := by decide +kernel
theorem dX1_copyCounts_9 : decode cX1_copyCounts 9 = .ok (.aload_n 1, 1) := by decide +kernel
theorem dX1_copyCounts_10 : decode cX1_copyCounts 10 = .ok (.getfield 134, 3) := by decide +kernel
theorem dX1_copyCounts_13 : decode cX1_copyCounts 13 = .ok (.putfield 134, 3) := by decide +kernel
theorem dX1_copyCounts_16 : decode cX1_copyCounts 16 = .ok (.aload_n 0, 1) := by decide +kernel
theorem dX1_copyCounts_17 : decode cX1_copyCounts 17 = .ok (.aload_n 1, 1) := by decide +kernel
theorem dX1_copyCounts_18 : decode cX1_copyCounts 18 = .ok (.getfield 137, 3) := by decide +kernel
theorem dX1_copyCounts_21 : decode cX1_copyCounts 21 = .ok (.putfield 137, 3) := by decide +kernel
theorem dX1_copyCounts_24 : decode cX1_copyCounts 24 = .ok (.aload_n 0, 1) := by decide +kernel
theorem dX1_copyCounts_25 : decode cX1_copyCounts 25 = .ok (.aload_n 1, 1) := by decide +kernel
theorem dX1_copyCounts_26 : decode cX1_copyCounts 26 = .ok (.getfield 140, 3) := by decide +kernel
theorem dX1_copyCounts_29 : decode cX1_copyCounts 29 = .ok (.putfield 140, 3) := by decide +kernel
theorem dX1_copyCounts_32 : decode cX1_copyCounts 32 = .ok (.aload_n 0, 1) := by decide +kernel
theorem dX1_copyCounts_33 : decode cX1_copyCounts 33 = .ok (.aload_n 1, 1) := by decide +kernel
theorem dX1_copyCounts_34 : decode cX1_copyCounts 34 = .ok (.getfield 143, 3) := by decide +kernel
theorem dX1_copyCounts_37 : decode cX1_copyCounts 37 = .ok (.putfield 143, 3) := by decide +kernel
theorem dX1_copyCounts_40 : decode cX1_copyCounts 40 = .ok (.aload_n 0, 1) := by decide +kernel
theorem dX1_copyCounts_41 : decode cX1_copyCounts 41 = .ok (.aload_n 1, 1) := by decide +kernel
theorem dX1_copyCounts_42 : decode cX1_copyCounts 42 = .ok (.getfield 146, 3) := by decide +kernel
theorem dX1_copyCounts_45 : decode cX1_copyCounts 45 = .ok (.putfield 146, 3) := by decide +kernel
theorem dX1_copyCounts_48 : decode cX1_copyCounts 48 = .ok (.aload_n 0, 1) := by decide +kernel
theorem dX1_copyCounts_49 : decode cX1_copyCounts 49 = .ok (.aload_n 1, 1) := by decide +kernel
theorem dX1_copyCounts_50 : decode cX1_copyCounts 50 = .ok (.getfield 149, 3) := by decide +kernel
theorem dX1_copyCounts_53 : decode cX1_copyCounts 53 = .ok (.putfield 149, 3) := by decide +kernel
theorem dX1_copyCounts_56 : decode cX1_copyCounts 56 = .ok (.aload_n 0, 1) := by decide +kernel
theorem dX1_copyCounts_57 : decode cX1_copyCounts 57 = .ok (.aload_n 1, 1) := by decide +kernel
theorem dX1_copyCounts_58 : decode cX1_copyCounts 58 = .ok (.getfield 152, 3) := by decide +kernel
theorem dX1_copyCounts_61 : decode cX1_copyCounts 61 = .ok (.putfield 152, 3) := by decide +kernel
theorem dX1_copyCounts_64 : decode cX1_copyCounts 64 = .ok (.aload_n 0, 1) := by decide +kernel
theorem dX1_copyCounts_65 : decode cX1_copyCounts 65 = .ok (.aload_n 1, 1) := by decide +kernel
theorem dX1_copyCounts_66 : decode cX1_copyCounts 66 = .ok (.getfield 155, 3) := by decide +kernel
theorem dX1_copyCounts_69 : decode cX1_copyCounts 69 = .ok (.putfield 155, 3) := by decide +kernel
theorem dX1_copyCounts_72 : decode cX1_copyCounts 72 = .ok (.return_, 1) := by decide +kernel
theorem dX1_treatyTax_0 : decode cX1_treatyTax 0 = .ok (.iload_n 1, 1) := by decide +kernel
theorem dX1_treatyTax_1 : decode cX1_treatyTax 1 = .ok (.iconst 3, 1) := by decide +kernel
theorem dX1_treatyTax_2 : decode cX1_treatyTax 2 = .ok (.imul, 1) := by decide +kernel
theorem dX1_treatyTax_3 : decode cX1_treatyTax 3 = .ok (.iload_n 2, 1) := by decide +kernel
theorem dX1_treatyTax_4 : decode cX1_treatyTax 4 = .ok (.iadd, 1) := by decide +kernel
theorem dX1_treatyTax_5 : decode cX1_treatyTax 5 = .ok (.istore_n 3, 1) := by decide +kernel
theorem dX1_treatyTax_6 : decode cX1_treatyTax 6 = .ok (.iload_n 3, 1) := by decide +kernel
theorem dX1_treatyTax_7 : decode cX1_treatyTax 7 = .ok (.ifCond .lt 22, 3) := by decide +kernel
theorem dX1_treatyTax_10 : decode cX1_treatyTax 10 = .ok (.iload_n 3, 1) := by decide +kernel
theorem dX1_treatyTax_11 : decode cX1_treatyTax 11 = .ok (.aload_n 0, 1) := by decide +kernel
theorem dX1_treatyTax_12 : decode cX1_treatyTax 12 = .ok (.getfield 53, 3) := by decide +kernel
theorem dX1_treatyTax_15 : decode cX1_treatyTax 15 = .ok (.arraylength, 1) := by decide +kernel
theorem dX1_treatyTax_16 : decode cX1_treatyTax 16 = .ok (.if_icmp .ge 13, 3) := by decide +kernel
theorem dX1_treatyTax_19 : decode cX1_treatyTax 19 = .ok (.aload_n 0, 1) := by decide +kernel
theorem dX1_treatyTax_20 : decode cX1_treatyTax 20 = .ok (.getfield 53, 3) := by decide +kernel
theorem dX1_treatyTax_23 : decode cX1_treatyTax 23 = .ok (.iload_n 3, 1) := by decide +kernel
theorem dX1_treatyTax_24 : decode cX1_treatyTax 24 = .ok (.laload, 1) := by decide +kernel
theorem dX1_treatyTax_25 : decode cX1_treatyTax 25 = .ok (.l2i, 1) := by decide +kernel
theorem dX1_treatyTax_26 : decode cX1_treatyTax 26 = .ok (.goto 5, 3) := by decide +kernel
theorem dX1_treatyTax_29 : decode cX1_treatyTax 29 = .ok (.bipush 30, 2) := by decide +kernel
theorem dX1_treatyTax_31 : decode cX1_treatyTax 31 = .ok (.ireturn, 1) := by decide +kernel
theorem dX1_setTreatyTax_0 : decode cX1_setTreatyTax 0 = .ok (.iload_n 1, 1) := by decide +kernel
theorem dX1_setTreatyTax_1 : decode cX1_setTreatyTax 1 = .ok (.iconst 3, 1) := by decide +kernel
theorem dX1_setTreatyTax_2 : decode cX1_setTreatyTax 2 = .ok (.imul, 1) := by decide +kernel
theorem dX1_setTreatyTax_3 : decode cX1_setTreatyTax 3 = .ok (.iload_n 2, 1) := by decide +kernel
theorem dX1_setTreatyTax_4 : decode cX1_setTreatyTax 4 = .ok (.iadd, 1) := by decide +kernel
theorem dX1_setTreatyTax_5 : decode cX1_setTreatyTax 5 = .ok (.istore 4, 2) := by decide +kernel
theorem dX1_setTreatyTax_7 : decode cX1_setTreatyTax 7 = .ok (.iload 4, 2) := by decide +kernel
theorem dX1_setTreatyTax_9 : decode cX1_setTreatyTax 9 = .ok (.ifCond .lt 22, 3) := by decide +kernel
theorem dX1_setTreatyTax_12 : decode cX1_setTreatyTax 12 = .ok (.iload 4, 2) := by decide +kernel
theorem dX1_setTreatyTax_14 : decode cX1_setTreatyTax 14 = .ok (.aload_n 0, 1) := by decide +kernel
theorem dX1_setTreatyTax_15 : decode cX1_setTreatyTax 15 = .ok (.getfield 53, 3) := by decide +kernel
theorem dX1_setTreatyTax_18 : decode cX1_setTreatyTax 18 = .ok (.arraylength, 1) := by decide +kernel
theorem dX1_setTreatyTax_19 : decode cX1_setTreatyTax 19 = .ok (.if_icmp .ge 12, 3) := by decide +kernel
theorem dX1_setTreatyTax_22 : decode cX1_setTreatyTax 22 = .ok (.aload_n 0, 1) := by decide +kernel
theorem dX1_setTreatyTax_23 : decode cX1_setTreatyTax 23 = .ok (.getfield 53, 3) := by decide +kernel
theorem dX1_setTreatyTax_26 : decode cX1_setTreatyTax 26 = .ok (.iload 4, 2) := by decide +kernel
theorem dX1_setTreatyTax_28 : decode cX1_setTreatyTax 28 = .ok (.iload_n 3, 1) := by decide +kernel
theorem dX1_setTreatyTax_29 : decode cX1_setTreatyTax 29 = .ok (.i2l, 1) := by decide +kernel
theorem dX1_setTreatyTax_30 : decode cX1_setTreatyTax 30 = .ok (.lastore, 1) := by decide +kernel
theorem dX1_setTreatyTax_31 : decode cX1_setTreatyTax 31 = .ok (.return_, 1) := by decide +kernel
theorem dX1_worthOf_0 : decode cX1_worthOf 0 = .ok (.lload_n 2, 1) := by decide +kernel
theorem dX1_worthOf_1 : decode cX1_worthOf 1 = .ok (.aload_n 0, 1) := by decide +kernel
theorem dX1_worthOf_2 : decode cX1_worthOf 2 = .ok (.iload_n 1, 1) := by decide +kernel
theorem dX1_worthOf_3 : decode cX1_worthOf 3 = .ok (.invokevirtual 80, 3) := by decide +kernel
theorem dX1_worthOf_6 : decode cX1_worthOf 6 = .ok (.getfield 158, 3) := by decide +kernel
theorem dX1_worthOf_9 : decode cX1_worthOf 9 = .ok (.i2l, 1) := by decide +kernel
theorem dX1_worthOf_10 : decode cX1_worthOf 10 = .ok (.lmul, 1) := by decide +kernel
theorem dX1_worthOf_11 : decode cX1_worthOf 11 = .ok (.lreturn, 1) := by decide +kernel
theorem dX1_limitOf_0 : decode cX1_limitOf 0 = .ok (.lconst 0, 1) := by decide +kernel
theorem dX1_limitOf_1 : decode cX1_limitOf 1 = .ok (.lstore_n 2, 1) := by decide +kernel
theorem dX1_limitOf_2 : decode cX1_limitOf 2 = .ok (.iconst 0, 1) := by decide +kernel
theorem dX1_limitOf_3 : decode cX1_limitOf 3 = .ok (.istore 4, 2) := by decide +kernel
theorem dX1_limitOf_5 : decode cX1_limitOf 5 = .ok (.iload 4, 2) := by decide +kernel
theorem dX1_limitOf_7 : decode cX1_limitOf 7 = .ok (.aload_n 0, 1) := by decide +kernel
theorem dX1_limitOf_8 : decode cX1_limitOf 8 = .ok (.getfield 134, 3) := by decide +kernel
theorem dX1_limitOf_11 : decode cX1_limitOf 11 = .ok (.if_icmp .ge 29, 3) := by decide +kernel
theorem dX1_limitOf_14 : decode cX1_limitOf 14 = .ok (.lload_n 2, 1) := by decide +kernel
theorem dX1_limitOf_15 : decode cX1_limitOf 15 = .ok (.aload_n 1, 1) := by decide +kernel
theorem dX1_limitOf_16 : decode cX1_limitOf 16 = .ok (.iload 4, 2) := by decide +kernel
theorem dX1_limitOf_18 : decode cX1_limitOf 18 = .ok (.invokevirtual 161, 3) := by decide +kernel
theorem dX1_limitOf_21 : decode cX1_limitOf 21 = .ok (.aload_n 0, 1) := by decide +kernel
theorem dX1_limitOf_22 : decode cX1_limitOf 22 = .ok (.iload 4, 2) := by decide +kernel
theorem dX1_limitOf_24 : decode cX1_limitOf 24 = .ok (.invokevirtual 80, 3) := by decide +kernel
theorem dX1_limitOf_27 : decode cX1_limitOf 27 = .ok (.getfield 158, 3) := by decide +kernel
theorem dX1_limitOf_30 : decode cX1_limitOf 30 = .ok (.i2l, 1) := by decide +kernel
theorem dX1_limitOf_31 : decode cX1_limitOf 31 = .ok (.lmul, 1) := by decide +kernel
theorem dX1_limitOf_32 : decode cX1_limitOf 32 = .ok (.ladd, 1) := by decide +kernel
theorem dX1_limitOf_33 : decode cX1_limitOf 33 = .ok (.lstore_n 2, 1) := by decide +kernel
theorem dX1_limitOf_34 : decode cX1_limitOf 34 = .ok (.iinc 4 1, 3) := by decide +kernel
theorem dX1_limitOf_37 : decode cX1_limitOf 37 = .ok (.goto (-32), 3) := by decide +kernel
theorem dX1_limitOf_40 : decode cX1_limitOf 40 = .ok (.aload_n 1, 1) := by decide +kernel
theorem dX1_limitOf_41 : decode cX1_limitOf 41 = .ok (.getfield 165, 3) := by decide +kernel
theorem dX1_limitOf_44 : decode cX1_limitOf 44 = .ok (.lload_n 2, 1) := by decide +kernel
theorem dX1_limitOf_45 : decode cX1_limitOf 45 = .ok (.ldc2_w 169, 3) := by decide +kernel
theorem dX1_limitOf_48 : decode cX1_limitOf 48 = .ok (.ldiv, 1) := by decide +kernel
theorem dX1_limitOf_49 : decode cX1_limitOf 49 = .ok (.ladd, 1) := by decide +kernel
theorem dX1_limitOf_50 : decode cX1_limitOf 50 = .ok (.lreturn, 1) := by decide +kernel
theorem dX1_isFirm_0 : decode cX1_isFirm 0 = .ok (.aload_n 0, 1) := by decide +kernel
theorem dX1_isFirm_1 : decode cX1_isFirm 1 = .ok (.iload_n 1, 1) := by decide +kernel
theorem dX1_isFirm_2 : decode cX1_isFirm 2 = .ok (.invokevirtual 72, 3) := by decide +kernel
theorem dX1_isFirm_5 : decode cX1_isFirm 5 = .ok (.astore_n 2, 1) := by decide +kernel
theorem dX1_isFirm_6 : decode cX1_isFirm 6 = .ok (.iconst 0, 1) := by decide +kernel
theorem dX1_isFirm_7 : decode cX1_isFirm 7 = .ok (.istore_n 3, 1) := by decide +kernel
theorem dX1_isFirm_8 : decode cX1_isFirm 8 = .ok (.iload_n 3, 1) := by decide +kernel
theorem dX1_isFirm_9 : decode cX1_isFirm 9 = .ok (.aload_n 0, 1) := by decide +kernel
theorem dX1_isFirm_10 : decode cX1_isFirm 10 = .ok (.getfield 134, 3) := by decide +kernel
theorem dX1_isFirm_13 : decode cX1_isFirm 13 = .ok (.if_icmp .ge 21, 3) := by decide +kernel
theorem dX1_isFirm_16 : decode cX1_isFirm 16 = .ok (.aload_n 2, 1) := by decide +kernel
theorem dX1_isFirm_17 : decode cX1_isFirm 17 = .ok (.iload_n 3, 1) := by decide +kernel
theorem dX1_isFirm_18 : decode cX1_isFirm 18 = .ok (.invokevirtual 161, 3) := by decide +kernel
theorem dX1_isFirm_21 : decode cX1_isFirm 21 = .ok (.lconst 0, 1) := by decide +kernel
theorem dX1_isFirm_22 : decode cX1_isFirm 22 = .ok (.lcmp, 1) := by decide +kernel
theorem dX1_isFirm_23 : decode cX1_isFirm 23 = .ok (.ifCond .ge 5, 3) := by decide +kernel
theorem dX1_isFirm_26 : decode cX1_isFirm 26 = .ok (.iconst 0, 1) := by decide +kernel
theorem dX1_isFirm_27 : decode cX1_isFirm 27 = .ok (.ireturn, 1) := by decide +kernel
theorem dX1_isFirm_28 : decode cX1_isFirm 28 = .ok (.iinc 3 1, 3) := by decide +kernel
theorem dX1_isFirm_31 : decode cX1_isFirm 31 = .ok (.goto (-23), 3) := by decide +kernel
theorem dX1_isFirm_34 : decode cX1_isFirm 34 = .ok (.aload_n 2, 1) := by decide +kernel
theorem dX1_isFirm_35 : decode cX1_isFirm 35 = .ok (.invokevirtual 171, 3) := by decide +kernel
theorem dX1_isFirm_38 : decode cX1_isFirm 38 = .ok (.aload_n 0, 1) := by decide +kernel
theorem dX1_isFirm_39 : decode cX1_isFirm 39 = .ok (.aload_n 2, 1) := by decide +kernel
theorem dX1_isFirm_40 : decode cX1_isFirm 40 = .ok (.invokevirtual 175, 3) := by decide +kernel
theorem dX1_isFirm_43 : decode cX1_isFirm 43 = .ok (.ladd, 1) := by decide +kernel
theorem dX1_isFirm_44 : decode cX1_isFirm 44 = .ok (.lconst 0, 1) := by decide +kernel
theorem dX1_isFirm_45 : decode cX1_isFirm 45 = .ok (.lcmp, 1) := by decide +kernel
theorem dX1_isFirm_46 : decode cX1_isFirm 46 = .ok (.ifCond .lt 7, 3) := by decide +kernel
theorem dX1_isFirm_49 : decode cX1_isFirm 49 = .ok (.iconst 1, 1) := by decide +kernel
theorem dX1_isFirm_50 : decode cX1_isFirm 50 = .ok (.goto 4, 3) := by decide +kernel
theorem dX1_isFirm_53 : decode cX1_isFirm 53 = .ok (.iconst 0, 1) := by decide +kernel
theorem dX1_isFirm_54 : decode cX1_isFirm 54 = .ok (.ireturn, 1) := by decide +kernel
theorem dX1_owe_0 : decode cX1_owe 0 = .ok (.aload_n 0, 1) := by decide +kernel
theorem dX1_owe_1 : decode cX1_owe 1 = .ok (.iload_n 1, 1) := by decide +kernel
theorem dX1_owe_2 : decode cX1_owe 2 = .ok (.invokevirtual 72, 3) := by decide +kernel
theorem dX1_owe_5 : decode cX1_owe 5 = .ok (.dup, 1) := by decide +kernel
theorem dX1_owe_6 : decode cX1_owe 6 = .ok (.getfield 179, 3) := by decide +kernel
theorem dX1_owe_9 : decode cX1_owe 9 = .ok (.lload_n 3, 1) := by decide +kernel
theorem dX1_owe_10 : decode cX1_owe 10 = .ok (.lsub, 1) := by decide +kernel
theorem dX1_owe_11 : decode cX1_owe 11 = .ok (.putfield 179, 3) := by decide +kernel
theorem dX1_owe_14 : decode cX1_owe 14 = .ok (.aload_n 0, 1) := by decide +kernel
theorem dX1_owe_15 : decode cX1_owe 15 = .ok (.iload_n 2, 1) := by decide +kernel
theorem dX1_owe_16 : decode cX1_owe 16 = .ok (.invokevirtual 72, 3) := by decide +kernel
theorem dX1_owe_19 : decode cX1_owe 19 = .ok (.dup, 1) := by decide +kernel
theorem dX1_owe_20 : decode cX1_owe 20 = .ok (.getfield 179, 3) := by decide +kernel
theorem dX1_owe_23 : decode cX1_owe 23 = .ok (.lload_n 3, 1) := by decide +kernel
theorem dX1_owe_24 : decode cX1_owe 24 = .ok (.ladd, 1) := by decide +kernel
theorem dX1_owe_25 : decode cX1_owe 25 = .ok (.putfield 179, 3) := by decide +kernel
theorem dX1_owe_28 : decode cX1_owe 28 = .ok (.return_, 1) := by decide +kernel
theorem dX1_partnerFor_0 : decode cX1_partnerFor 0 = .ok (.iconst (-1), 1) := by decide +kernel
theorem dX1_partnerFor_1 : decode cX1_partnerFor 1 = .ok (.istore_n 3, 1) := by decide +kernel
theorem dX1_partnerFor_2 : decode cX1_partnerFor 2 = .ok (.iconst 3, 1) := by decide +kernel
theorem dX1_partnerFor_3 : decode cX1_partnerFor 3 = .ok (.istore 4, 2) := by decide +kernel
theorem dX1_partnerFor_5 : decode cX1_partnerFor 5 = .ok (.iconst 0, 1) := by decide +kernel
theorem dX1_partnerFor_6 : decode cX1_partnerFor 6 = .ok (.istore 5, 2) := by decide +kernel
theorem dX1_partnerFor_8 : decode cX1_partnerFor 8 = .ok (.iload 5, 2) := by decide +kernel
theorem dX1_partnerFor_10 : decode cX1_partnerFor 10 = .ok (.aload_n 0, 1) := by decide +kernel
theorem dX1_partnerFor_11 : decode cX1_partnerFor 11 = .ok (.getfield 137, 3) := by decide +kernel
theorem dX1_partnerFor_14 : decode cX1_partnerFor 14 = .ok (.if_icmp .ge 53, 3) := by decide +kernel
theorem dX1_partnerFor_17 : decode cX1_partnerFor 17 = .ok (.aload_n 0, 1) := by decide +kernel
theorem dX1_partnerFor_18 : decode cX1_partnerFor 18 = .ok (.iload 5, 2) := by decide +kernel
theorem dX1_partnerFor_20 : decode cX1_partnerFor 20 = .ok (.invokevirtual 87, 3) := by decide +kernel
theorem dX1_partnerFor_23 : decode cX1_partnerFor 23 = .ok (.astore 6, 2) := by decide +kernel
theorem dX1_partnerFor_25 : decode cX1_partnerFor 25 = .ok (.aload 6, 2) := by decide +kernel
theorem dX1_partnerFor_27 : decode cX1_partnerFor 27 = .ok (.getfield 182, 3) := by decide +kernel
theorem dX1_partnerFor_30 : decode cX1_partnerFor 30 = .ok (.iload_n 2, 1) := by decide +kernel
theorem dX1_partnerFor_31 : decode cX1_partnerFor 31 = .ok (.isub, 1) := by decide +kernel
theorem dX1_partnerFor_32 : decode cX1_partnerFor 32 = .ok (.invokestatic 185, 3) := by decide +kernel
theorem dX1_partnerFor_35 : decode cX1_partnerFor 35 = .ok (.istore 7, 2) := by decide +kernel
theorem dX1_partnerFor_37 : decode cX1_partnerFor 37 = .ok (.aload 6, 2) := by decide +kernel
theorem dX1_partnerFor_39 : decode cX1_partnerFor 39 = .ok (.aload_n 1, 1) := by decide +kernel
theorem dX1_partnerFor_40 : decode cX1_partnerFor 40 = .ok (.iload_n 2, 1) := by decide +kernel
theorem dX1_partnerFor_41 : decode cX1_partnerFor 41 = .ok (.invokevirtual 191, 3) := by decide +kernel
theorem dX1_partnerFor_44 : decode cX1_partnerFor 44 = .ok (.ifCond .eq 17, 3) := by decide +kernel
theorem dX1_partnerFor_47 : decode cX1_partnerFor 47 = .ok (.iload 7, 2) := by decide +kernel
theorem dX1_partnerFor_49 : decode cX1_partnerFor 49 = .ok (.iload 4, 2) := by decide +kernel
theorem dX1_partnerFor_51 : decode cX1_partnerFor 51 = .ok (.if_icmp .ge 10, 3) := by decide +kernel
theorem dX1_partnerFor_54 : decode cX1_partnerFor 54 = .ok (.iload 5, 2) := by decide +kernel
theorem dX1_partnerFor_56 : decode cX1_partnerFor 56 = .ok (.istore_n 3, 1) := by decide +kernel
theorem dX1_partnerFor_57 : decode cX1_partnerFor 57 = .ok (.iload 7, 2) := by decide +kernel
theorem dX1_partnerFor_59 : decode cX1_partnerFor 59 = .ok (.istore 4, 2) := by decide +kernel
theorem dX1_partnerFor_61 : decode cX1_partnerFor 61 = .ok (.iinc 5 1, 3) := by decide +kernel
theorem dX1_partnerFor_64 : decode cX1_partnerFor 64 = .ok (.goto (-56), 3) := by decide +kernel
theorem dX1_partnerFor_67 : decode cX1_partnerFor 67 = .ok (.iload_n 3, 1) := by decide +kernel
theorem dX1_partnerFor_68 : decode cX1_partnerFor 68 = .ok (.ireturn, 1) := by decide +kernel
theorem dX1_match_0 : decode cX1_match 0 = .ok (.aload_n 0, 1) := by decide +kernel
theorem dX1_match_1 : decode cX1_match 1 = .ok (.iload_n 1, 1) := by decide +kernel
theorem dX1_match_2 : decode cX1_match 2 = .ok (.invokevirtual 87, 3) := by decide +kernel
theorem dX1_match_5 : decode cX1_match 5 = .ok (.astore_n 3, 1) := by decide +kernel
theorem dX1_match_6 : decode cX1_match 6 = .ok (.aload_n 0, 1) := by decide +kernel
theorem dX1_match_7 : decode cX1_match 7 = .ok (.iload_n 2, 1) := by decide +kernel
theorem dX1_match_8 : decode cX1_match 8 = .ok (.invokevirtual 87, 3) := by decide +kernel
theorem dX1_match_11 : decode cX1_match 11 = .ok (.astore 4, 2) := by decide +kernel
theorem dX1_match_13 : decode cX1_match 13 = .ok (.aload_n 0, 1) := by decide +kernel
theorem dX1_match_14 : decode cX1_match 14 = .ok (.getfield 140, 3) := by decide +kernel
theorem dX1_match_17 : decode cX1_match 17 = .ok (.istore 5, 2) := by decide +kernel
theorem dX1_match_19 : decode cX1_match 19 = .ok (.aload_n 0, 1) := by decide +kernel
theorem dX1_match_20 : decode cX1_match 20 = .ok (.iload 5, 2) := by decide +kernel
theorem dX1_match_22 : decode cX1_match 22 = .ok (.invokevirtual 94, 3) := by decide +kernel
theorem dX1_match_25 : decode cX1_match 25 = .ok (.astore 6, 2) := by decide +kernel
theorem dX1_match_27 : decode cX1_match 27 = .ok (.aload 6, 2) := by decide +kernel
theorem dX1_match_29 : decode cX1_match 29 = .ok (.aload_n 3, 1) := by decide +kernel
theorem dX1_match_30 : decode cX1_match 30 = .ok (.getfield 195, 3) := by decide +kernel
theorem dX1_match_33 : decode cX1_match 33 = .ok (.ifCond .eq 7, 3) := by decide +kernel
theorem dX1_match_36 : decode cX1_match 36 = .ok (.iload_n 1, 1) := by decide +kernel
theorem dX1_match_37 : decode cX1_match 37 = .ok (.goto 4, 3) := by decide +kernel
theorem dX1_match_40 : decode cX1_match 40 = .ok (.iload_n 2, 1) := by decide +kernel
theorem dX1_match_41 : decode cX1_match 41 = .ok (.putfield 199, 3) := by decide +kernel
theorem dX1_match_44 : decode cX1_match 44 = .ok (.aload 6, 2) := by decide +kernel
theorem dX1_match_46 : decode cX1_match 46 = .ok (.aload_n 3, 1) := by decide +kernel
theorem dX1_match_47 : decode cX1_match 47 = .ok (.getfield 195, 3) := by decide +kernel
theorem dX1_match_50 : decode cX1_match 50 = .ok (.ifCond .eq 7, 3) := by decide +kernel
theorem dX1_match_53 : decode cX1_match 53 = .ok (.iload_n 2, 1) := by decide +kernel
theorem dX1_match_54 : decode cX1_match 54 = .ok (.goto 4, 3) := by decide +kernel
theorem dX1_match_57 : decode cX1_match 57 = .ok (.iload_n 1, 1) := by decide +kernel
theorem dX1_match_58 : decode cX1_match 58 = .ok (.putfield 202, 3) := by decide +kernel
theorem dX1_match_61 : decode cX1_match 61 = .ok (.aload 6, 2) := by decide +kernel
theorem dX1_match_63 : decode cX1_match 63 = .ok (.aload_n 3, 1) := by decide +kernel
theorem dX1_match_64 : decode cX1_match 64 = .ok (.getfield 195, 3) := by decide +kernel
theorem dX1_match_67 : decode cX1_match 67 = .ok (.ifCond .eq 10, 3) := by decide +kernel
theorem dX1_match_70 : decode cX1_match 70 = .ok (.aload_n 3, 1) := by decide +kernel
theorem dX1_match_71 : decode cX1_match 71 = .ok (.getfield 205, 3) := by decide +kernel
theorem dX1_match_74 : decode cX1_match 74 = .ok (.goto 8, 3) := by decide +kernel
theorem dX1_match_77 : decode cX1_match 77 = .ok (.aload 4, 2) := by decide +kernel
theorem dX1_match_79 : decode cX1_match 79 = .ok (.getfield 205, 3) := by decide +kernel
theorem dX1_match_82 : decode cX1_match 82 = .ok (.putfield 207, 3) := by decide +kernel
theorem dX1_match_85 : decode cX1_match 85 = .ok (.aload 6, 2) := by decide +kernel
theorem dX1_match_87 : decode cX1_match 87 = .ok (.aload_n 3, 1) := by decide +kernel
theorem dX1_match_88 : decode cX1_match 88 = .ok (.getfield 195, 3) := by decide +kernel
theorem dX1_match_91 : decode cX1_match 91 = .ok (.ifCond .eq 11, 3) := by decide +kernel
theorem dX1_match_94 : decode cX1_match 94 = .ok (.aload 4, 2) := by decide +kernel
theorem dX1_match_96 : decode cX1_match 96 = .ok (.getfield 205, 3) := by decide +kernel
theorem dX1_match_99 : decode cX1_match 99 = .ok (.goto 7, 3) := by decide +kernel
theorem dX1_match_102 : decode cX1_match 102 = .ok (.aload_n 3, 1) := by decide +kernel
theorem dX1_match_103 : decode cX1_match 103 = .ok (.getfield 205, 3) := by decide +kernel
theorem dX1_match_106 : decode cX1_match 106 = .ok (.putfield 210, 3) := by decide +kernel
theorem dX1_match_109 : decode cX1_match 109 = .ok (.aload 6, 2) := by decide +kernel
theorem dX1_match_111 : decode cX1_match 111 = .ok (.aload_n 3, 1) := by decide +kernel
theorem dX1_match_112 : decode cX1_match 112 = .ok (.getfield 213, 3) := by decide +kernel
theorem dX1_match_115 : decode cX1_match 115 = .ok (.putfield 215, 3) := by decide +kernel
theorem dX1_match_118 : decode cX1_match 118 = .ok (.aload 6, 2) := by decide +kernel
theorem dX1_match_120 : decode cX1_match 120 = .ok (.aload_n 3, 1) := by decide +kernel
theorem dX1_match_121 : decode cX1_match 121 = .ok (.getfield 216, 3) := by decide +kernel
theorem dX1_match_124 : decode cX1_match 124 = .ok (.i2l, 1) := by decide +kernel
theorem dX1_match_125 : decode cX1_match 125 = .ok (.putfield 219, 3) := by decide +kernel
theorem dX1_match_128 : decode cX1_match 128 = .ok (.aload 6, 2) := by decide +kernel
theorem dX1_match_130 : decode cX1_match 130 = .ok (.aload_n 3, 1) := by decide +kernel
theorem dX1_match_131 : decode cX1_match 131 = .ok (.getfield 182, 3) := by decide +kernel
theorem dX1_match_134 : decode cX1_match 134 = .ok (.aload 4, 2) := by decide +kernel
theorem dX1_match_136 : decode cX1_match 136 = .ok (.getfield 182, 3) := by decide +kernel
theorem dX1_match_139 : decode cX1_match 139 = .ok (.invokestatic 221, 3) := by decide +kernel
theorem dX1_match_142 : decode cX1_match 142 = .ok (.i2l, 1) := by decide +kernel
theorem dX1_match_143 : decode cX1_match 143 = .ok (.putfield 225, 3) := by decide +kernel
theorem dX1_match_146 : decode cX1_match 146 = .ok (.aload 6, 2) := by decide +kernel
theorem dX1_match_148 : decode cX1_match 148 = .ok (.aload_n 3, 1) := by decide +kernel
theorem dX1_match_149 : decode cX1_match 149 = .ok (.getfield 227, 3) := by decide +kernel
theorem dX1_match_152 : decode cX1_match 152 = .ok (.putfield 230, 3) := by decide +kernel
theorem dX1_match_155 : decode cX1_match 155 = .ok (.aload 6, 2) := by decide +kernel
theorem dX1_match_157 : decode cX1_match 157 = .ok (.aload_n 3, 1) := by decide +kernel
theorem dX1_match_158 : decode cX1_match 158 = .ok (.getfield 231, 3) := by decide +kernel
theorem dX1_match_161 : decode cX1_match 161 = .ok (.aload 4, 2) := by decide +kernel
theorem dX1_match_163 : decode cX1_match 163 = .ok (.getfield 231, 3) := by decide +kernel
theorem dX1_match_166 : decode cX1_match 166 = .ok (.invokestatic 234, 3) := by decide +kernel
theorem dX1_match_169 : decode cX1_match 169 = .ok (.putfield 237, 3) := by decide +kernel
theorem dX1_match_172 : decode cX1_match 172 = .ok (.aload_n 3, 1) := by decide +kernel
theorem dX1_match_173 : decode cX1_match 173 = .ok (.getfield 238, 3) := by decide +kernel
theorem dX1_match_176 : decode cX1_match 176 = .ok (.ifCond .eq 11, 3) := by decide +kernel
theorem dX1_match_179 : decode cX1_match 179 = .ok (.aload 4, 2) := by decide +kernel
theorem dX1_match_181 : decode cX1_match 181 = .ok (.getfield 238, 3) := by decide +kernel
theorem dX1_match_184 : decode cX1_match 184 = .ok (.ifCond .ne 7, 3) := by decide +kernel
theorem dX1_match_187 : decode cX1_match 187 = .ok (.iconst 1, 1) := by decide +kernel
theorem dX1_match_188 : decode cX1_match 188 = .ok (.goto 4, 3) := by decide +kernel
theorem dX1_match_191 : decode cX1_match 191 = .ok (.iconst 0, 1) := by decide +kernel
theorem dX1_match_192 : decode cX1_match 192 = .ok (.istore 7, 2) := by decide +kernel
theorem dX1_match_194 : decode cX1_match 194 = .ok (.aload 6, 2) := by decide +kernel
theorem dX1_match_196 : decode cX1_match 196 = .ok (.iload 7, 2) := by decide +kernel
theorem dX1_match_198 : decode cX1_match 198 = .ok (.ifCond .eq 7, 3) := by decide +kernel
theorem dX1_match_201 : decode cX1_match 201 = .ok (.lconst 0, 1) := by decide +kernel
theorem dX1_match_202 : decode cX1_match 202 = .ok (.goto 16, 3) := by decide +kernel
theorem dX1_match_205 : decode cX1_match 205 = .ok (.aload_n 3, 1) := by decide +kernel
theorem dX1_match_206 : decode cX1_match 206 = .ok (.getfield 238, 3) := by decide +kernel
theorem dX1_match_209 : decode cX1_match 209 = .ok (.aload 4, 2) := by decide +kernel
theorem dX1_match_211 : decode cX1_match 211 = .ok (.getfield 238, 3) := by decide +kernel
theorem dX1_match_214 : decode cX1_match 214 = .ok (.invokestatic 234, 3) := by decide +kernel
theorem dX1_match_217 : decode cX1_match 217 = .ok (.i2l, 1) := by decide +kernel
theorem dX1_match_218 : decode cX1_match 218 = .ok (.putfield 241, 3) := by decide +kernel
theorem dX1_match_221 : decode cX1_match 221 = .ok (.aload_n 0, 1) := by decide +kernel
theorem dX1_match_222 : decode cX1_match 222 = .ok (.iload 5, 2) := by decide +kernel
theorem dX1_match_224 : decode cX1_match 224 = .ok (.iconst 1, 1) := by decide +kernel
theorem dX1_match_225 : decode cX1_match 225 = .ok (.iadd, 1) := by decide +kernel
theorem dX1_match_226 : decode cX1_match 226 = .ok (.putfield 140, 3) := by decide +kernel
theorem dX1_match_229 : decode cX1_match 229 = .ok (.aload_n 3, 1) := by decide +kernel
theorem dX1_match_230 : decode cX1_match 230 = .ok (.iload 5, 2) := by decide +kernel
theorem dX1_match_232 : decode cX1_match 232 = .ok (.putfield 243, 3) := by decide +kernel
theorem dX1_match_235 : decode cX1_match 235 = .ok (.aload 4, 2) := by decide +kernel
theorem dX1_match_237 : decode cX1_match 237 = .ok (.iload 5, 2) := by decide +kernel
theorem dX1_match_239 : decode cX1_match 239 = .ok (.putfield 243, 3) := by decide +kernel
theorem dX1_match_242 : decode cX1_match 242 = .ok (.aload_n 0, 1) := by decide +kernel
theorem dX1_match_243 : decode cX1_match 243 = .ok (.aload 6, 2) := by decide +kernel
theorem dX1_match_245 : decode cX1_match 245 = .ok (.iconst 1, 1) := by decide +kernel
theorem dX1_match_246 : decode cX1_match 246 = .ok (.invokevirtual 245, 3) := by decide +kernel
theorem dX1_match_249 : decode cX1_match 249 = .ok (.aload_n 0, 1) := by decide +kernel
theorem dX1_match_250 : decode cX1_match 250 = .ok (.aload 6, 2) := by decide +kernel
theorem dX1_match_252 : decode cX1_match 252 = .ok (.invokevirtual 249, 3) := by decide +kernel
theorem dX1_match_255 : decode cX1_match 255 = .ok (.iload 5, 2) := by decide +kernel
theorem dX1_match_257 : decode cX1_match 257 = .ok (.ireturn, 1) := by decide +kernel
