theorem dX1_putStatus_0 : decode cX1_putStatus 0 = .ok (.aload_n 1, 1) := by decide +kernel
theorem dX1_putStatus_1 : decode cX1_putStatus 1 = .ok (.iload_n 2, 1) := by decide +kernel
theorem dX1_putStatus_2 : decode cX1_putStatus 2 = .ok (.putfield 252, 3) := by decide +kernel
theorem dX1_putStatus_5 : decode cX1_putStatus 5 = .ok (.aload_n 0, 1) := by decide +kernel
theorem dX1_putStatus_6 : decode cX1_putStatus 6 = .ok (.aload_n 1, 1) := by decide +kernel
theorem dX1_putStatus_7 : decode cX1_putStatus 7 = .ok (.getfield 199, 3) := by decide +kernel
theorem dX1_putStatus_10 : decode cX1_putStatus 10 = .ok (.invokevirtual 87, 3) := by decide +kernel
theorem dX1_putStatus_13 : decode cX1_putStatus 13 = .ok (.iload_n 2, 1) := by decide +kernel
theorem dX1_putStatus_14 : decode cX1_putStatus 14 = .ok (.putfield 255, 3) := by decide +kernel
theorem dX1_putStatus_17 : decode cX1_putStatus 17 = .ok (.aload_n 0, 1) := by decide +kernel
theorem dX1_putStatus_18 : decode cX1_putStatus 18 = .ok (.aload_n 1, 1) := by decide +kernel
theorem dX1_putStatus_19 : decode cX1_putStatus 19 = .ok (.getfield 202, 3) := by decide +kernel
theorem dX1_putStatus_22 : decode cX1_putStatus 22 = .ok (.invokevirtual 87, 3) := by decide +kernel
theorem dX1_putStatus_25 : decode cX1_putStatus 25 = .ok (.iload_n 2, 1) := by decide +kernel
theorem dX1_putStatus_26 : decode cX1_putStatus 26 = .ok (.putfield 255, 3) := by decide +kernel
theorem dX1_putStatus_29 : decode cX1_putStatus 29 = .ok (.return_, 1) := by decide +kernel
theorem dX1_tellBoth_0 : decode cX1_tellBoth 0 = .ok (.aload_n 0, 1) := by decide +kernel
theorem dX1_tellBoth_1 : decode cX1_tellBoth 1 = .ok (.getfield 57, 3) := by decide +kernel
theorem dX1_tellBoth_4 : decode cX1_tellBoth 4 = .ok (.aload_n 1, 1) := by decide +kernel
theorem dX1_tellBoth_5 : decode cX1_tellBoth 5 = .ok (.getfield 207, 3) := by decide +kernel
theorem dX1_tellBoth_8 : decode cX1_tellBoth 8 = .ok (.invokevirtual 256, 3) := by decide +kernel
theorem dX1_tellBoth_11 : decode cX1_tellBoth 11 = .ok (.aload_n 0, 1) := by decide +kernel
theorem dX1_tellBoth_12 : decode cX1_tellBoth 12 = .ok (.getfield 57, 3) := by decide +kernel
theorem dX1_tellBoth_15 : decode cX1_tellBoth 15 = .ok (.aload_n 1, 1) := by decide +kernel
theorem dX1_tellBoth_16 : decode cX1_tellBoth 16 = .ok (.getfield 210, 3) := by decide +kernel
theorem dX1_tellBoth_19 : decode cX1_tellBoth 19 = .ok (.invokevirtual 256, 3) := by decide +kernel
theorem dX1_tellBoth_22 : decode cX1_tellBoth 22 = .ok (.return_, 1) := by decide +kernel
theorem dX1_cancelInstruction_0 : decode cX1_cancelInstruction 0 = .ok (.aload_n 1, 1) := by decide +kernel
theorem dX1_cancelInstruction_1 : decode cX1_cancelInstruction 1 = .ok (.iconst 3, 1) := by decide +kernel
theorem dX1_cancelInstruction_2 : decode cX1_cancelInstruction 2 = .ok (.putfield 255, 3) := by decide +kernel
theorem dX1_cancelInstruction_5 : decode cX1_cancelInstruction 5 = .ok (.aload_n 0, 1) := by decide +kernel
theorem dX1_cancelInstruction_6 : decode cX1_cancelInstruction 6 = .ok (.getfield 57, 3) := by decide +kernel
theorem dX1_cancelInstruction_9 : decode cX1_cancelInstruction 9 = .ok (.aload_n 1, 1) := by decide +kernel
theorem dX1_cancelInstruction_10 : decode cX1_cancelInstruction 10 = .ok (.getfield 205, 3) := by decide +kernel
theorem dX1_cancelInstruction_13 : decode cX1_cancelInstruction 13 = .ok (.invokevirtual 256, 3) := by decide +kernel
theorem dX1_cancelInstruction_16 : decode cX1_cancelInstruction 16 = .ok (.return_, 1) := by decide +kernel
theorem dX1_cancelTrade_0 : decode cX1_cancelTrade 0 = .ok (.aload_n 0, 1) := by decide +kernel
theorem dX1_cancelTrade_1 : decode cX1_cancelTrade 1 = .ok (.aload_n 1, 1) := by decide +kernel
theorem dX1_cancelTrade_2 : decode cX1_cancelTrade 2 = .ok (.iconst 3, 1) := by decide +kernel
theorem dX1_cancelTrade_3 : decode cX1_cancelTrade 3 = .ok (.invokevirtual 245, 3) := by decide +kernel
theorem dX1_cancelTrade_6 : decode cX1_cancelTrade 6 = .ok (.aload_n 0, 1) := by decide +kernel
theorem dX1_cancelTrade_7 : decode cX1_cancelTrade 7 = .ok (.aload_n 1, 1) := by decide +kernel
theorem dX1_cancelTrade_8 : decode cX1_cancelTrade 8 = .ok (.invokevirtual 249, 3) := by decide +kernel
theorem dX1_cancelTrade_11 : decode cX1_cancelTrade 11 = .ok (.iconst 0, 1) := by decide +kernel
theorem dX1_cancelTrade_12 : decode cX1_cancelTrade 12 = .ok (.istore_n 2, 1) := by decide +kernel
theorem dX1_cancelTrade_13 : decode cX1_cancelTrade 13 = .ok (.iconst 0, 1) := by decide +kernel
theorem dX1_cancelTrade_14 : decode cX1_cancelTrade 14 = .ok (.istore_n 3, 1) := by decide +kernel
theorem dX1_cancelTrade_15 : decode cX1_cancelTrade 15 = .ok (.iload_n 3, 1) := by decide +kernel
theorem dX1_cancelTrade_16 : decode cX1_cancelTrade 16 = .ok (.aload_n 0, 1) := by decide +kernel
theorem dX1_cancelTrade_17 : decode cX1_cancelTrade 17 = .ok (.getfield 143, 3) := by decide +kernel
theorem dX1_cancelTrade_20 : decode cX1_cancelTrade 20 = .ok (.if_icmp .ge 40, 3) := by decide +kernel
theorem dX1_cancelTrade_23 : decode cX1_cancelTrade 23 = .ok (.aload_n 0, 1) := by decide +kernel
theorem dX1_cancelTrade_24 : decode cX1_cancelTrade 24 = .ok (.iload_n 3, 1) := by decide +kernel
theorem dX1_cancelTrade_25 : decode cX1_cancelTrade 25 = .ok (.invokevirtual 101, 3) := by decide +kernel
theorem dX1_cancelTrade_28 : decode cX1_cancelTrade 28 = .ok (.aload_n 1, 1) := by decide +kernel
theorem dX1_cancelTrade_29 : decode cX1_cancelTrade 29 = .ok (.getfield 261, 3) := by decide +kernel
theorem dX1_cancelTrade_32 : decode cX1_cancelTrade 32 = .ok (.invokevirtual 264, 3) := by decide +kernel
theorem dX1_cancelTrade_35 : decode cX1_cancelTrade 35 = .ok (.ifCond .ne 19, 3) := by decide +kernel
theorem dX1_cancelTrade_38 : decode cX1_cancelTrade 38 = .ok (.aload_n 0, 1) := by decide +kernel
theorem dX1_cancelTrade_39 : decode cX1_cancelTrade 39 = .ok (.iload_n 2, 1) := by decide +kernel
theorem dX1_cancelTrade_40 : decode cX1_cancelTrade 40 = .ok (.invokevirtual 101, 3) := by decide +kernel
theorem dX1_cancelTrade_43 : decode cX1_cancelTrade 43 = .ok (.aload_n 0, 1) := by decide +kernel
theorem dX1_cancelTrade_44 : decode cX1_cancelTrade 44 = .ok (.iload_n 3, 1) := by decide +kernel
theorem dX1_cancelTrade_45 : decode cX1_cancelTrade 45 = .ok (.invokevirtual 101, 3) := by decide +kernel
theorem dX1_cancelTrade_48 : decode cX1_cancelTrade 48 = .ok (.invokevirtual 105, 3) := by decide +kernel
theorem dX1_cancelTrade_51 : decode cX1_cancelTrade 51 = .ok (.iinc 2 1, 3) := by decide +kernel
theorem dX1_cancelTrade_54 : decode cX1_cancelTrade 54 = .ok (.iinc 3 1, 3) := by decide +kernel
theorem dX1_cancelTrade_57 : decode cX1_cancelTrade 57 = .ok (.goto (-42), 3) := by decide +kernel
theorem dX1_cancelTrade_60 : decode cX1_cancelTrade 60 = .ok (.aload_n 0, 1) := by decide +kernel
theorem dX1_cancelTrade_61 : decode cX1_cancelTrade 61 = .ok (.iload_n 2, 1) := by decide +kernel
theorem dX1_cancelTrade_62 : decode cX1_cancelTrade 62 = .ok (.putfield 143, 3) := by decide +kernel
theorem dX1_cancelTrade_65 : decode cX1_cancelTrade 65 = .ok (.return_, 1) := by decide +kernel
theorem dX1_isDue_0 : decode cX1_isDue 0 = .ok (.aload_n 1, 1) := by decide +kernel
theorem dX1_isDue_1 : decode cX1_isDue 1 = .ok (.getfield 252, 3) := by decide +kernel
theorem dX1_isDue_4 : decode cX1_isDue 4 = .ok (.iconst 1, 1) := by decide +kernel
theorem dX1_isDue_5 : decode cX1_isDue 5 = .ok (.if_icmp .ne 18, 3) := by decide +kernel
theorem dX1_isDue_8 : decode cX1_isDue 8 = .ok (.aload_n 1, 1) := by decide +kernel
theorem dX1_isDue_9 : decode cX1_isDue 9 = .ok (.getfield 230, 3) := by decide +kernel
theorem dX1_isDue_12 : decode cX1_isDue 12 = .ok (.aload_n 0, 1) := by decide +kernel
theorem dX1_isDue_13 : decode cX1_isDue 13 = .ok (.getfield 152, 3) := by decide +kernel
theorem dX1_isDue_16 : decode cX1_isDue 16 = .ok (.if_icmp .gt 7, 3) := by decide +kernel
theorem dX1_isDue_19 : decode cX1_isDue 19 = .ok (.iconst 1, 1) := by decide +kernel
theorem dX1_isDue_20 : decode cX1_isDue 20 = .ok (.goto 4, 3) := by decide +kernel
theorem dX1_isDue_23 : decode cX1_isDue 23 = .ok (.iconst 0, 1) := by decide +kernel
theorem dX1_isDue_24 : decode cX1_isDue 24 = .ok (.ireturn, 1) := by decide +kernel
theorem dX1_isHeldUp_0 : decode cX1_isHeldUp 0 = .ok (.aload_n 0, 1) := by decide +kernel
theorem dX1_isHeldUp_1 : decode cX1_isHeldUp 1 = .ok (.aload_n 1, 1) := by decide +kernel
theorem dX1_isHeldUp_2 : decode cX1_isHeldUp 2 = .ok (.getfield 199, 3) := by decide +kernel
theorem dX1_isHeldUp_5 : decode cX1_isHeldUp 5 = .ok (.invokevirtual 87, 3) := by decide +kernel
theorem dX1_isHeldUp_8 : decode cX1_isHeldUp 8 = .ok (.getfield 268, 3) := by decide +kernel
theorem dX1_isHeldUp_11 : decode cX1_isHeldUp 11 = .ok (.ifCond .ne 17, 3) := by decide +kernel
theorem dX1_isHeldUp_14 : decode cX1_isHeldUp 14 = .ok (.aload_n 0, 1) := by decide +kernel
theorem dX1_isHeldUp_15 : decode cX1_isHeldUp 15 = .ok (.aload_n 1, 1) := by decide +kernel
theorem dX1_isHeldUp_16 : decode cX1_isHeldUp 16 = .ok (.getfield 202, 3) := by decide +kernel
theorem dX1_isHeldUp_19 : decode cX1_isHeldUp 19 = .ok (.invokevirtual 87, 3) := by decide +kernel
theorem dX1_isHeldUp_22 : decode cX1_isHeldUp 22 = .ok (.getfield 268, 3) := by decide +kernel
theorem dX1_isHeldUp_25 : decode cX1_isHeldUp 25 = .ok (.ifCond .eq 7, 3) := by decide +kernel
theorem dX1_isHeldUp_28 : decode cX1_isHeldUp 28 = .ok (.iconst 1, 1) := by decide +kernel
theorem dX1_isHeldUp_29 : decode cX1_isHeldUp 29 = .ok (.goto 4, 3) := by decide +kernel
theorem dX1_isHeldUp_32 : decode cX1_isHeldUp 32 = .ok (.iconst 0, 1) := by decide +kernel
theorem dX1_isHeldUp_33 : decode cX1_isHeldUp 33 = .ok (.ireturn, 1) := by decide +kernel
theorem dX1_isLacking_0 : decode cX1_isLacking 0 = .ok (.aload_n 0, 1) := by decide +kernel
theorem dX1_isLacking_1 : decode cX1_isLacking 1 = .ok (.aload_n 1, 1) := by decide +kernel
theorem dX1_isLacking_2 : decode cX1_isLacking 2 = .ok (.getfield 207, 3) := by decide +kernel
theorem dX1_isLacking_5 : decode cX1_isLacking 5 = .ok (.invokevirtual 72, 3) := by decide +kernel
theorem dX1_isLacking_8 : decode cX1_isLacking 8 = .ok (.aload_n 1, 1) := by decide +kernel
theorem dX1_isLacking_9 : decode cX1_isLacking 9 = .ok (.getfield 215, 3) := by decide +kernel
theorem dX1_isLacking_12 : decode cX1_isLacking 12 = .ok (.invokevirtual 161, 3) := by decide +kernel
theorem dX1_isLacking_15 : decode cX1_isLacking 15 = .ok (.aload_n 1, 1) := by decide +kernel
theorem dX1_isLacking_16 : decode cX1_isLacking 16 = .ok (.getfield 219, 3) := by decide +kernel
theorem dX1_isLacking_19 : decode cX1_isLacking 19 = .ok (.lcmp, 1) := by decide +kernel
theorem dX1_isLacking_20 : decode cX1_isLacking 20 = .ok (.ifCond .ge 7, 3) := by decide +kernel
theorem dX1_isLacking_23 : decode cX1_isLacking 23 = .ok (.iconst 1, 1) := by decide +kernel
theorem dX1_isLacking_24 : decode cX1_isLacking 24 = .ok (.goto 4, 3) := by decide +kernel
theorem dX1_isLacking_27 : decode cX1_isLacking 27 = .ok (.iconst 0, 1) := by decide +kernel
theorem dX1_isLacking_28 : decode cX1_isLacking 28 = .ok (.ireturn, 1) := by decide +kernel
theorem dX1_isLinked_0 : decode cX1_isLinked 0 = .ok (.iconst 0, 1) := by decide +kernel
theorem dX1_isLinked_1 : decode cX1_isLinked 1 = .ok (.istore_n 2, 1) := by decide +kernel
theorem dX1_isLinked_2 : decode cX1_isLinked 2 = .ok (.iload_n 2, 1) := by decide +kernel
theorem dX1_isLinked_3 : decode cX1_isLinked 3 = .ok (.aload_n 0, 1) := by decide +kernel
theorem dX1_isLinked_4 : decode cX1_isLinked 4 = .ok (.getfield 143, 3) := by decide +kernel
theorem dX1_isLinked_7 : decode cX1_isLinked 7 = .ok (.if_icmp .ge 26, 3) := by decide +kernel
theorem dX1_isLinked_10 : decode cX1_isLinked 10 = .ok (.aload_n 0, 1) := by decide +kernel
theorem dX1_isLinked_11 : decode cX1_isLinked 11 = .ok (.iload_n 2, 1) := by decide +kernel
theorem dX1_isLinked_12 : decode cX1_isLinked 12 = .ok (.invokevirtual 101, 3) := by decide +kernel
theorem dX1_isLinked_15 : decode cX1_isLinked 15 = .ok (.aload_n 1, 1) := by decide +kernel
theorem dX1_isLinked_16 : decode cX1_isLinked 16 = .ok (.getfield 261, 3) := by decide +kernel
theorem dX1_isLinked_19 : decode cX1_isLinked 19 = .ok (.invokevirtual 264, 3) := by decide +kernel
theorem dX1_isLinked_22 : decode cX1_isLinked 22 = .ok (.ifCond .eq 5, 3) := by decide +kernel
theorem dX1_isLinked_25 : decode cX1_isLinked 25 = .ok (.iconst 1, 1) := by decide +kernel
theorem dX1_isLinked_26 : decode cX1_isLinked 26 = .ok (.ireturn, 1) := by decide +kernel
theorem dX1_isLinked_27 : decode cX1_isLinked 27 = .ok (.iinc 2 1, 3) := by decide +kernel
theorem dX1_isLinked_30 : decode cX1_isLinked 30 = .ok (.goto (-28), 3) := by decide +kernel
theorem dX1_isLinked_33 : decode cX1_isLinked 33 = .ok (.iconst 0, 1) := by decide +kernel
theorem dX1_isLinked_34 : decode cX1_isLinked 34 = .ok (.ireturn, 1) := by decide +kernel
theorem dX1_isLinkOf_0 : decode cX1_isLinkOf 0 = .ok (.iconst 0, 1) := by decide +kernel
theorem dX1_isLinkOf_1 : decode cX1_isLinkOf 1 = .ok (.istore_n 3, 1) := by decide +kernel
theorem dX1_isLinkOf_2 : decode cX1_isLinkOf 2 = .ok (.iload_n 3, 1) := by decide +kernel
theorem dX1_isLinkOf_3 : decode cX1_isLinkOf 3 = .ok (.aload_n 0, 1) := by decide +kernel
theorem dX1_isLinkOf_4 : decode cX1_isLinkOf 4 = .ok (.getfield 143, 3) := by decide +kernel
theorem dX1_isLinkOf_7 : decode cX1_isLinkOf 7 = .ok (.if_icmp .ge 35, 3) := by decide +kernel
theorem dX1_isLinkOf_10 : decode cX1_isLinkOf 10 = .ok (.aload_n 0, 1) := by decide +kernel
theorem dX1_isLinkOf_11 : decode cX1_isLinkOf 11 = .ok (.iload_n 3, 1) := by decide +kernel
theorem dX1_isLinkOf_12 : decode cX1_isLinkOf 12 = .ok (.invokevirtual 101, 3) := by decide +kernel
theorem dX1_isLinkOf_15 : decode cX1_isLinkOf 15 = .ok (.iload_n 1, 1) := by decide +kernel
theorem dX1_isLinkOf_16 : decode cX1_isLinkOf 16 = .ok (.invokevirtual 264, 3) := by decide +kernel
theorem dX1_isLinkOf_19 : decode cX1_isLinkOf 19 = .ok (.ifCond .eq 17, 3) := by decide +kernel
theorem dX1_isLinkOf_22 : decode cX1_isLinkOf 22 = .ok (.aload_n 0, 1) := by decide +kernel
theorem dX1_isLinkOf_23 : decode cX1_isLinkOf 23 = .ok (.iload_n 3, 1) := by decide +kernel
theorem dX1_isLinkOf_24 : decode cX1_isLinkOf 24 = .ok (.invokevirtual 101, 3) := by decide +kernel
theorem dX1_isLinkOf_27 : decode cX1_isLinkOf 27 = .ok (.iload_n 2, 1) := by decide +kernel
theorem dX1_isLinkOf_28 : decode cX1_isLinkOf 28 = .ok (.invokevirtual 264, 3) := by decide +kernel
theorem dX1_isLinkOf_31 : decode cX1_isLinkOf 31 = .ok (.ifCond .eq 5, 3) := by decide +kernel
theorem dX1_isLinkOf_34 : decode cX1_isLinkOf 34 = .ok (.iconst 1, 1) := by decide +kernel
theorem dX1_isLinkOf_35 : decode cX1_isLinkOf 35 = .ok (.ireturn, 1) := by decide +kernel
theorem dX1_isLinkOf_36 : decode cX1_isLinkOf 36 = .ok (.iinc 3 1, 3) := by decide +kernel
theorem dX1_isLinkOf_39 : decode cX1_isLinkOf 39 = .ok (.goto (-37), 3) := by decide +kernel
theorem dX1_isLinkOf_42 : decode cX1_isLinkOf 42 = .ok (.iconst 0, 1) := by decide +kernel
theorem dX1_isLinkOf_43 : decode cX1_isLinkOf 43 = .ok (.ireturn, 1) := by decide +kernel
theorem dX1_shift_0 : decode cX1_shift 0 = .ok (.aload_n 0, 1) := by decide +kernel
theorem dX1_shift_1 : decode cX1_shift 1 = .ok (.aload_n 1, 1) := by decide +kernel
theorem dX1_shift_2 : decode cX1_shift 2 = .ok (.getfield 207, 3) := by decide +kernel
theorem dX1_shift_5 : decode cX1_shift 5 = .ok (.invokevirtual 72, 3) := by decide +kernel
theorem dX1_shift_8 : decode cX1_shift 8 = .ok (.aload_n 1, 1) := by decide +kernel
theorem dX1_shift_9 : decode cX1_shift 9 = .ok (.getfield 215, 3) := by decide +kernel
theorem dX1_shift_12 : decode cX1_shift 12 = .ok (.lload_n 2, 1) := by decide +kernel
theorem dX1_shift_13 : decode cX1_shift 13 = .ok (.lneg, 1) := by decide +kernel
theorem dX1_shift_14 : decode cX1_shift 14 = .ok (.invokevirtual 271, 3) := by decide +kernel
theorem dX1_shift_17 : decode cX1_shift 17 = .ok (.aload_n 0, 1) := by decide +kernel
theorem dX1_shift_18 : decode cX1_shift 18 = .ok (.aload_n 1, 1) := by decide +kernel
theorem dX1_shift_19 : decode cX1_shift 19 = .ok (.getfield 210, 3) := by decide +kernel
theorem dX1_shift_22 : decode cX1_shift 22 = .ok (.invokevirtual 72, 3) := by decide +kernel
theorem dX1_shift_25 : decode cX1_shift 25 = .ok (.aload_n 1, 1) := by decide +kernel
theorem dX1_shift_26 : decode cX1_shift 26 = .ok (.getfield 215, 3) := by decide +kernel
theorem dX1_shift_29 : decode cX1_shift 29 = .ok (.lload_n 2, 1) := by decide +kernel
theorem dX1_shift_30 : decode cX1_shift 30 = .ok (.invokevirtual 271, 3) := by decide +kernel
theorem dX1_shift_33 : decode cX1_shift 33 = .ok (.aload_n 0, 1) := by decide +kernel
theorem dX1_shift_34 : decode cX1_shift 34 = .ok (.aload_n 1, 1) := by decide +kernel
theorem dX1_shift_35 : decode cX1_shift 35 = .ok (.lload 4, 2) := by decide +kernel
theorem dX1_shift_37 : decode cX1_shift 37 = .ok (.invokevirtual 275, 3) := by decide +kernel
theorem dX1_shift_40 : decode cX1_shift 40 = .ok (.return_, 1) := by decide +kernel
theorem dX1_payFor_0 : decode cX1_payFor 0 = .ok (.aload_n 0, 1) := by decide +kernel
theorem dX1_payFor_1 : decode cX1_payFor 1 = .ok (.aload_n 1, 1) := by decide +kernel
theorem dX1_payFor_2 : decode cX1_payFor 2 = .ok (.getfield 210, 3) := by decide +kernel
theorem dX1_payFor_5 : decode cX1_payFor 5 = .ok (.invokevirtual 72, 3) := by decide +kernel
theorem dX1_payFor_8 : decode cX1_payFor 8 = .ok (.dup, 1) := by decide +kernel
theorem dX1_payFor_9 : decode cX1_payFor 9 = .ok (.getfield 279, 3) := by decide +kernel
theorem dX1_payFor_12 : decode cX1_payFor 12 = .ok (.lload_n 2, 1) := by decide +kernel
theorem dX1_payFor_13 : decode cX1_payFor 13 = .ok (.lsub, 1) := by decide +kernel
theorem dX1_payFor_14 : decode cX1_payFor 14 = .ok (.putfield 279, 3) := by decide +kernel
theorem dX1_payFor_17 : decode cX1_payFor 17 = .ok (.aload_n 0, 1) := by decide +kernel
theorem dX1_payFor_18 : decode cX1_payFor 18 = .ok (.aload_n 1, 1) := by decide +kernel
theorem dX1_payFor_19 : decode cX1_payFor 19 = .ok (.getfield 207, 3) := by decide +kernel
theorem dX1_payFor_22 : decode cX1_payFor 22 = .ok (.invokevirtual 72, 3) := by decide +kernel
theorem dX1_payFor_25 : decode cX1_payFor 25 = .ok (.dup, 1) := by decide +kernel
theorem dX1_payFor_26 : decode cX1_payFor 26 = .ok (.getfield 279, 3) := by decide +kernel
theorem dX1_payFor_29 : decode cX1_payFor 29 = .ok (.lload_n 2, 1) := by decide +kernel
theorem dX1_payFor_30 : decode cX1_payFor 30 = .ok (.ladd, 1) := by decide +kernel
theorem dX1_payFor_31 : decode cX1_payFor 31 = .ok (.putfield 279, 3) := by decide +kernel
theorem dX1_payFor_34 : decode cX1_payFor 34 = .ok (.return_, 1) := by decide +kernel
theorem dX1_settleWhole_0 : decode cX1_settleWhole 0 = .ok (.aload_n 0, 1) := by decide +kernel
theorem dX1_settleWhole_1 : decode cX1_settleWhole 1 = .ok (.aload_n 1, 1) := by decide +kernel
theorem dX1_settleWhole_2 : decode cX1_settleWhole 2 = .ok (.getfield 207, 3) := by decide +kernel
theorem dX1_settleWhole_5 : decode cX1_settleWhole 5 = .ok (.aload_n 1, 1) := by decide +kernel
theorem dX1_settleWhole_6 : decode cX1_settleWhole 6 = .ok (.getfield 210, 3) := by decide +kernel
theorem dX1_settleWhole_9 : decode cX1_settleWhole 9 = .ok (.aload_n 1, 1) := by decide +kernel
theorem dX1_settleWhole_10 : decode cX1_settleWhole 10 = .ok (.getfield 215, 3) := by decide +kernel
theorem dX1_settleWhole_13 : decode cX1_settleWhole 13 = .ok (.aload_n 1, 1) := by decide +kernel
theorem dX1_settleWhole_14 : decode cX1_settleWhole 14 = .ok (.getfield 219, 3) := by decide +kernel
theorem dX1_settleWhole_17 : decode cX1_settleWhole 17 = .ok (.invokevirtual 282, 3) := by decide +kernel
theorem dX1_settleWhole_20 : decode cX1_settleWhole 20 = .ok (.aload_n 0, 1) := by decide +kernel
theorem dX1_settleWhole_21 : decode cX1_settleWhole 21 = .ok (.aload_n 1, 1) := by decide +kernel
theorem dX1_settleWhole_22 : decode cX1_settleWhole 22 = .ok (.aload_n 1, 1) := by decide +kernel
theorem dX1_settleWhole_23 : decode cX1_settleWhole 23 = .ok (.getfield 225, 3) := by decide +kernel
theorem dX1_settleWhole_26 : decode cX1_settleWhole 26 = .ok (.invokevirtual 275, 3) := by decide +kernel
theorem dX1_settleWhole_29 : decode cX1_settleWhole 29 = .ok (.aload_n 0, 1) := by decide +kernel
theorem dX1_settleWhole_30 : decode cX1_settleWhole 30 = .ok (.aload_n 1, 1) := by decide +kernel
theorem dX1_settleWhole_31 : decode cX1_settleWhole 31 = .ok (.iconst 2, 1) := by decide +kernel
theorem dX1_settleWhole_32 : decode cX1_settleWhole 32 = .ok (.invokevirtual 245, 3) := by decide +kernel
theorem dX1_settleWhole_35 : decode cX1_settleWhole 35 = .ok (.aload_n 0, 1) := by decide +kernel
theorem dX1_settleWhole_36 : decode cX1_settleWhole 36 = .ok (.aload_n 1, 1) := by decide +kernel
theorem dX1_settleWhole_37 : decode cX1_settleWhole 37 = .ok (.invokevirtual 249, 3) := by decide +kernel
theorem dX1_settleWhole_40 : decode cX1_settleWhole 40 = .ok (.return_, 1) := by decide +kernel
theorem dX1_settlePart_0 : decode cX1_settlePart 0 = .ok (.aload_n 0, 1) := by decide +kernel
theorem dX1_settlePart_1 : decode cX1_settlePart 1 = .ok (.aload_n 1, 1) := by decide +kernel
theorem dX1_settlePart_2 : decode cX1_settlePart 2 = .ok (.getfield 207, 3) := by decide +kernel
theorem dX1_settlePart_5 : decode cX1_settlePart 5 = .ok (.aload_n 1, 1) := by decide +kernel
theorem dX1_settlePart_6 : decode cX1_settlePart 6 = .ok (.getfield 210, 3) := by decide +kernel
theorem dX1_settlePart_9 : decode cX1_settlePart 9 = .ok (.aload_n 1, 1) := by decide +kernel
theorem dX1_settlePart_10 : decode cX1_settlePart 10 = .ok (.getfield 215, 3) := by decide +kernel
theorem dX1_settlePart_13 : decode cX1_settlePart 13 = .ok (.lload_n 2, 1) := by decide +kernel
theorem dX1_settlePart_14 : decode cX1_settlePart 14 = .ok (.invokevirtual 282, 3) := by decide +kernel
theorem dX1_settlePart_17 : decode cX1_settlePart 17 = .ok (.aload_n 0, 1) := by decide +kernel
theorem dX1_settlePart_18 : decode cX1_settlePart 18 = .ok (.aload_n 1, 1) := by decide +kernel
theorem dX1_settlePart_19 : decode cX1_settlePart 19 = .ok (.lload 4, 2) := by decide +kernel
theorem dX1_settlePart_21 : decode cX1_settlePart 21 = .ok (.invokevirtual 275, 3) := by decide +kernel
theorem dX1_settlePart_24 : decode cX1_settlePart 24 = .ok (.aload_n 1, 1) := by decide +kernel
theorem dX1_settlePart_25 : decode cX1_settlePart 25 = .ok (.dup, 1) := by decide +kernel
theorem dX1_settlePart_26 : decode cX1_settlePart 26 = .ok (.getfield 219, 3) := by decide +kernel
theorem dX1_settlePart_29 : decode cX1_settlePart 29 = .ok (.lload_n 2, 1) := by decide +kernel
theorem dX1_settlePart_30 : decode cX1_settlePart 30 = .ok (.lsub, 1) := by decide +kernel
theorem dX1_settlePart_31 : decode cX1_settlePart 31 = .ok (.putfield 219, 3) := by decide +kernel
theorem dX1_settlePart_34 : decode cX1_settlePart 34 = .ok (.aload_n 1, 1) := by decide +kernel
theorem dX1_settlePart_35 : decode cX1_settlePart 35 = .ok (.dup, 1) := by decide +kernel
theorem dX1_settlePart_36 : decode cX1_settlePart 36 = .ok (.getfield 225, 3) := by decide +kernel
theorem dX1_settlePart_39 : decode cX1_settlePart 39 = .ok (.lload 4, 2) := by decide +kernel
theorem dX1_settlePart_41 : decode cX1_settlePart 41 = .ok (.lsub, 1) := by decide +kernel
theorem dX1_settlePart_42 : decode cX1_settlePart 42 = .ok (.putfield 225, 3) := by decide +kernel
theorem dX1_settlePart_45 : decode cX1_settlePart 45 = .ok (.aload_n 0, 1) := by decide +kernel
theorem dX1_settlePart_46 : decode cX1_settlePart 46 = .ok (.aload_n 1, 1) := by decide +kernel
theorem dX1_settlePart_47 : decode cX1_settlePart 47 = .ok (.invokevirtual 249, 3) := by decide +kernel
theorem dX1_settlePart_50 : decode cX1_settlePart 50 = .ok (.return_, 1) := by decide +kernel
theorem dX1_moveUnits_0 : decode cX1_moveUnits 0 = .ok (.aload_n 0, 1) := by decide +kernel
theorem dX1_moveUnits_1 : decode cX1_moveUnits 1 = .ok (.iload_n 1, 1) := by decide +kernel
theorem dX1_moveUnits_2 : decode cX1_moveUnits 2 = .ok (.invokevirtual 72, 3) := by decide +kernel
theorem dX1_moveUnits_5 : decode cX1_moveUnits 5 = .ok (.iload_n 3, 1) := by decide +kernel
theorem dX1_moveUnits_6 : decode cX1_moveUnits 6 = .ok (.lload 4, 2) := by decide +kernel
theorem dX1_moveUnits_8 : decode cX1_moveUnits 8 = .ok (.lneg, 1) := by decide +kernel
theorem dX1_moveUnits_9 : decode cX1_moveUnits 9 = .ok (.aload_n 0, 1) := by decide +kernel
theorem dX1_moveUnits_10 : decode cX1_moveUnits 10 = .ok (.getfield 155, 3) := by decide +kernel
theorem dX1_moveUnits_13 : decode cX1_moveUnits 13 = .ok (.invokevirtual 286, 3) := by decide +kernel
theorem dX1_moveUnits_16 : decode cX1_moveUnits 16 = .ok (.aload_n 0, 1) := by decide +kernel
theorem dX1_moveUnits_17 : decode cX1_moveUnits 17 = .ok (.iload_n 2, 1) := by decide +kernel
theorem dX1_moveUnits_18 : decode cX1_moveUnits 18 = .ok (.invokevirtual 72, 3) := by decide +kernel
theorem dX1_moveUnits_21 : decode cX1_moveUnits 21 = .ok (.iload_n 3, 1) := by decide +kernel
theorem dX1_moveUnits_22 : decode cX1_moveUnits 22 = .ok (.lload 4, 2) := by decide +kernel
theorem dX1_moveUnits_24 : decode cX1_moveUnits 24 = .ok (.aload_n 0, 1) := by decide +kernel
theorem dX1_moveUnits_25 : decode cX1_moveUnits 25 = .ok (.getfield 155, 3) := by decide +kernel
theorem dX1_moveUnits_28 : decode cX1_moveUnits 28 = .ok (.invokevirtual 286, 3) := by decide +kernel
theorem dX1_moveUnits_31 : decode cX1_moveUnits 31 = .ok (.return_, 1) := by decide +kernel
theorem dX1_causerOf_0 : decode cX1_causerOf 0 = .ok (.aload_n 1, 1) := by decide +kernel
theorem dX1_causerOf_1 : decode cX1_causerOf 1 = .ok (.astore_n 2, 1) := by decide +kernel
theorem dX1_causerOf_2 : decode cX1_causerOf 2 = .ok (.iconst 0, 1) := by decide +kernel
theorem dX1_causerOf_3 : decode cX1_causerOf 3 = .ok (.istore_n 3, 1) := by decide +kernel
theorem dX1_causerOf_4 : decode cX1_causerOf 4 = .ok (.iconst 0, 1) := by decide +kernel
theorem dX1_causerOf_5 : decode cX1_causerOf 5 = .ok (.istore 4, 2) := by decide +kernel
theorem dX1_causerOf_7 : decode cX1_causerOf 7 = .ok (.iload 4, 2) := by decide +kernel
theorem dX1_causerOf_9 : decode cX1_causerOf 9 = .ok (.bipush 20, 2) := by decide +kernel
theorem dX1_causerOf_11 : decode cX1_causerOf 11 = .ok (.if_icmp .ge 90, 3) := by decide +kernel
theorem dX1_causerOf_14 : decode cX1_causerOf 14 = .ok (.aload_n 0, 1) := by decide +kernel
theorem dX1_causerOf_15 : decode cX1_causerOf 15 = .ok (.aload_n 2, 1) := by decide +kernel
theorem dX1_causerOf_16 : decode cX1_causerOf 16 = .ok (.getfield 199, 3) := by decide +kernel
theorem dX1_causerOf_19 : decode cX1_causerOf 19 = .ok (.invokevirtual 87, 3) := by decide +kernel
theorem dX1_causerOf_22 : decode cX1_causerOf 22 = .ok (.getfield 268, 3) := by decide +kernel
theorem dX1_causerOf_25 : decode cX1_causerOf 25 = .ok (.ifCond .eq 8, 3) := by decide +kernel
theorem dX1_causerOf_28 : decode cX1_causerOf 28 = .ok (.aload_n 2, 1) := by decide +kernel
theorem dX1_causerOf_29 : decode cX1_causerOf 29 = .ok (.getfield 207, 3) := by decide +kernel
theorem dX1_causerOf_32 : decode cX1_causerOf 32 = .ok (.ireturn, 1) := by decide +kernel
theorem dX1_causerOf_33 : decode cX1_causerOf 33 = .ok (.aload_n 0, 1) := by decide +kernel
theorem dX1_causerOf_34 : decode cX1_causerOf 34 = .ok (.aload_n 2, 1) := by decide +kernel
theorem dX1_causerOf_35 : decode cX1_causerOf 35 = .ok (.getfield 202, 3) := by decide +kernel
theorem dX1_causerOf_38 : decode cX1_causerOf 38 = .ok (.invokevirtual 87, 3) := by decide +kernel
theorem dX1_causerOf_41 : decode cX1_causerOf 41 = .ok (.getfield 268, 3) := by decide +kernel
theorem dX1_causerOf_44 : decode cX1_causerOf 44 = .ok (.ifCond .ne 11, 3) := by decide +kernel
theorem dX1_causerOf_47 : decode cX1_causerOf 47 = .ok (.aload_n 0, 1) := by decide +kernel
theorem dX1_causerOf_48 : decode cX1_causerOf 48 = .ok (.aload_n 2, 1) := by decide +kernel
theorem dX1_causerOf_49 : decode cX1_causerOf 49 = .ok (.invokevirtual 290, 3) := by decide +kernel
theorem dX1_causerOf_52 : decode cX1_causerOf 52 = .ok (.ifCond .ne 8, 3) := by decide +kernel
theorem dX1_causerOf_55 : decode cX1_causerOf 55 = .ok (.aload_n 2, 1) := by decide +kernel
theorem dX1_causerOf_56 : decode cX1_causerOf 56 = .ok (.getfield 210, 3) := by decide +kernel
theorem dX1_causerOf_59 : decode cX1_causerOf 59 = .ok (.ireturn, 1) := by decide +kernel
theorem dX1_causerOf_60 : decode cX1_causerOf 60 = .ok (.iload_n 3, 1) := by decide +kernel
theorem dX1_causerOf_61 : decode cX1_causerOf 61 = .ok (.iconst 1, 1) := by decide +kernel
theorem dX1_causerOf_62 : decode cX1_causerOf 62 = .ok (.aload_n 2, 1) := by decide +kernel
theorem dX1_causerOf_63 : decode cX1_causerOf 63 = .ok (.getfield 261, 3) := by decide +kernel
theorem dX1_causerOf_66 : decode cX1_causerOf 66 = .ok (.ishl, 1) := by decide +kernel
theorem dX1_causerOf_67 : decode cX1_causerOf 67 = .ok (.ior, 1) := by decide +kernel
theorem dX1_causerOf_68 : decode cX1_causerOf 68 = .ok (.istore_n 3, 1) := by decide +kernel
theorem dX1_causerOf_69 : decode cX1_causerOf 69 = .ok (.aload_n 0, 1) := by decide +kernel
theorem dX1_causerOf_70 : decode cX1_causerOf 70 = .ok (.aload_n 2, 1) := by decide +kernel
theorem dX1_causerOf_71 : decode cX1_causerOf 71 = .ok (.iload_n 3, 1) := by decide +kernel
theorem dX1_causerOf_72 : decode cX1_causerOf 72 = .ok (.invokevirtual 294, 3) := by decide +kernel
theorem dX1_causerOf_75 : decode cX1_causerOf 75 = .ok (.istore 5, 2) := by decide +kernel
theorem dX1_causerOf_77 : decode cX1_causerOf 77 = .ok (.iload 5, 2) := by decide +kernel
theorem dX1_causerOf_79 : decode cX1_causerOf 79 = .ok (.iconst (-1), 1) := by decide +kernel
theorem dX1_causerOf_80 : decode cX1_causerOf 80 = .ok (.if_icmp .ne 8, 3) := by decide +kernel
theorem dX1_causerOf_83 : decode cX1_causerOf 83 = .ok (.aload_n 2, 1) := by decide +kernel
theorem dX1_causerOf_84 : decode cX1_causerOf 84 = .ok (.getfield 207, 3) := by decide +kernel
theorem dX1_causerOf_87 : decode cX1_causerOf 87 = .ok (.ireturn, 1) := by decide +kernel
theorem dX1_causerOf_88 : decode cX1_causerOf 88 = .ok (.aload_n 0, 1) := by decide +kernel
theorem dX1_causerOf_89 : decode cX1_causerOf 89 = .ok (.iload 5, 2) := by decide +kernel
theorem dX1_causerOf_91 : decode cX1_causerOf 91 = .ok (.invokevirtual 94, 3) := by decide +kernel
theorem dX1_causerOf_94 : decode cX1_causerOf 94 = .ok (.astore_n 2, 1) := by decide +kernel
theorem dX1_causerOf_95 : decode cX1_causerOf 95 = .ok (.iinc 4 1, 3) := by decide +kernel
theorem dX1_causerOf_98 : decode cX1_causerOf 98 = .ok (.goto (-91), 3) := by decide +kernel
theorem dX1_causerOf_101 : decode cX1_causerOf 101 = .ok (.aload_n 2, 1) := by decide +kernel
theorem dX1_causerOf_102 : decode cX1_causerOf 102 = .ok (.getfield 207, 3) := by decide +kernel
theorem dX1_causerOf_105 : decode cX1_causerOf 105 = .ok (.ireturn, 1) := by decide +kernel
theorem dX1_sourceOf_0 : decode cX1_sourceOf 0 = .ok (.iconst 0, 1) := by decide +kernel
theorem dX1_sourceOf_1 : decode cX1_sourceOf 1 = .ok (.istore_n 3, 1) := by decide +kernel
theorem dX1_sourceOf_2 : decode cX1_sourceOf 2 = .ok (.iload_n 3, 1) := by decide +kernel
theorem dX1_sourceOf_3 : decode cX1_sourceOf 3 = .ok (.aload_n 0, 1) := by decide +kernel
theorem dX1_sourceOf_4 : decode cX1_sourceOf 4 = .ok (.getfield 140, 3) := by decide +kernel
theorem dX1_sourceOf_7 : decode cX1_sourceOf 7 = .ok (.if_icmp .ge 71, 3) := by decide +kernel
theorem dX1_sourceOf_10 : decode cX1_sourceOf 10 = .ok (.aload_n 0, 1) := by decide +kernel
theorem dX1_sourceOf_11 : decode cX1_sourceOf 11 = .ok (.iload_n 3, 1) := by decide +kernel
theorem dX1_sourceOf_12 : decode cX1_sourceOf 12 = .ok (.invokevirtual 94, 3) := by decide +kernel
theorem dX1_sourceOf_15 : decode cX1_sourceOf 15 = .ok (.astore 4, 2) := by decide +kernel
theorem dX1_sourceOf_17 : decode cX1_sourceOf 17 = .ok (.iload_n 2, 1) := by decide +kernel
theorem dX1_sourceOf_18 : decode cX1_sourceOf 18 = .ok (.iload_n 3, 1) := by decide +kernel
theorem dX1_sourceOf_19 : decode cX1_sourceOf 19 = .ok (.ishr, 1) := by decide +kernel
theorem dX1_sourceOf_20 : decode cX1_sourceOf 20 = .ok (.iconst 1, 1) := by decide +kernel
theorem dX1_sourceOf_21 : decode cX1_sourceOf 21 = .ok (.iand, 1) := by decide +kernel
theorem dX1_sourceOf_22 : decode cX1_sourceOf 22 = .ok (.ifCond .ne 7, 3) := by decide +kernel
theorem dX1_sourceOf_25 : decode cX1_sourceOf 25 = .ok (.iconst 1, 1) := by decide +kernel
theorem dX1_sourceOf_26 : decode cX1_sourceOf 26 = .ok (.goto 4, 3) := by decide +kernel
theorem dX1_sourceOf_29 : decode cX1_sourceOf 29 = .ok (.iconst 0, 1) := by decide +kernel
theorem dX1_sourceOf_30 : decode cX1_sourceOf 30 = .ok (.istore 5, 2) := by decide +kernel
theorem dX1_sourceOf_32 : decode cX1_sourceOf 32 = .ok (.iload 5, 2) := by decide +kernel
theorem dX1_sourceOf_34 : decode cX1_sourceOf 34 = .ok (.ifCond .eq 38, 3) := by decide +kernel
theorem dX1_sourceOf_37 : decode cX1_sourceOf 37 = .ok (.aload_n 0, 1) := by decide +kernel
theorem dX1_sourceOf_38 : decode cX1_sourceOf 38 = .ok (.aload 4, 2) := by decide +kernel
theorem dX1_sourceOf_40 : decode cX1_sourceOf 40 = .ok (.invokevirtual 298, 3) := by decide +kernel
theorem dX1_sourceOf_43 : decode cX1_sourceOf 43 = .ok (.ifCond .eq 29, 3) := by decide +kernel
theorem dX1_sourceOf_46 : decode cX1_sourceOf 46 = .ok (.aload 4, 2) := by decide +kernel
theorem dX1_sourceOf_48 : decode cX1_sourceOf 48 = .ok (.getfield 210, 3) := by decide +kernel
theorem dX1_sourceOf_51 : decode cX1_sourceOf 51 = .ok (.aload_n 1, 1) := by decide +kernel
theorem dX1_sourceOf_52 : decode cX1_sourceOf 52 = .ok (.getfield 207, 3) := by decide +kernel
theorem dX1_sourceOf_55 : decode cX1_sourceOf 55 = .ok (.if_icmp .ne 17, 3) := by decide +kernel
theorem dX1_sourceOf_58 : decode cX1_sourceOf 58 = .ok (.aload 4, 2) := by decide +kernel
theorem dX1_sourceOf_60 : decode cX1_sourceOf 60 = .ok (.getfield 215, 3) := by decide +kernel
theorem dX1_sourceOf_63 : decode cX1_sourceOf 63 = .ok (.aload_n 1, 1) := by decide +kernel
theorem dX1_sourceOf_64 : decode cX1_sourceOf 64 = .ok (.getfield 215, 3) := by decide +kernel
theorem dX1_sourceOf_67 : decode cX1_sourceOf 67 = .ok (.if_icmp .ne 5, 3) := by decide +kernel
theorem dX1_sourceOf_70 : decode cX1_sourceOf 70 = .ok (.iload_n 3, 1) := by decide +kernel
theorem dX1_sourceOf_71 : decode cX1_sourceOf 71 = .ok (.ireturn, 1) := by decide +kernel
theorem dX1_sourceOf_72 : decode cX1_sourceOf 72 = .ok (.iinc 3 1, 3) := by decide +kernel
theorem dX1_sourceOf_75 : decode cX1_sourceOf 75 = .ok (.goto (-73), 3) := by decide +kernel
theorem dX1_sourceOf_78 : decode cX1_sourceOf 78 = .ok (.iconst (-1), 1) := by decide +kernel
theorem dX1_sourceOf_79 : decode cX1_sourceOf 79 = .ok (.ireturn, 1) := by decide +kernel
theorem dX2_init_0 : decode cX2_init 0 = .ok (.aload_n 0, 1) := by decide +kernel
theorem dX2_init_1 : decode cX2_init 1 = .ok (.invokespecial 3, 3) := by decide +kernel
theorem dX2_init_4 : decode cX2_init 4 = .ok (.aload_n 0, 1) := by decide +kernel
theorem dX2_init_5 : decode cX2_init 5 = .ok (.bipush 20, 2) := by decide +kernel
theorem dX2_init_7 : decode cX2_init 7 = .ok (.newarray .int, 2) := by decide +kernel
theorem dX2_init_9 : decode cX2_init 9 = .ok (.putfield 9, 3) := by decide +kernel
theorem dX2_init_12 : decode cX2_init 12 = .ok (.aload_n 0, 1) := by decide +kernel
theorem dX2_init_13 : decode cX2_init 13 = .ok (.bipush 11, 2) := by decide +kernel
theorem dX2_init_15 : decode cX2_init 15 = .ok (.newarray .long, 2) := by decide +kernel
theorem dX2_init_17 : decode cX2_init 17 = .ok (.putfield 15, 3) := by decide +kernel
theorem dX2_init_20 : decode cX2_init 20 = .ok (.aload_n 0, 1) := by decide +kernel
theorem dX2_init_21 : decode cX2_init 21 = .ok (.bipush 10, 2) := by decide +kernel
theorem dX2_init_23 : decode cX2_init 23 = .ok (.newarray .long, 2) := by decide +kernel
theorem dX2_init_25 : decode cX2_init 25 = .ok (.putfield 19, 3) := by decide +kernel
theorem dX2_init_28 : decode cX2_init 28 = .ok (.aload_n 0, 1) := by decide +kernel
theorem dX2_init_29 : decode cX2_init 29 = .ok (.aload_n 1, 1) := by decide +kernel
theorem dX2_init_30 : decode cX2_init 30 = .ok (.putfield 22, 3) := by decide +kernel
theorem dX2_init_33 : decode cX2_init 33 = .ok (.return_, 1) := by decide +kernel
theorem dX2_bestByBranches_0 : decode cX2_bestByBranches 0 = .ok (.aload_n 0, 1) := by decide +kernel
theorem dX2_bestByBranches_1 : decode cX2_bestByBranches 1 = .ok (.invokevirtual 26, 3) := by decide +kernel
theorem dX2_bestByBranches_4 : decode cX2_bestByBranches 4 = .ok (.aload_n 0, 1) := by decide +kernel
theorem dX2_bestByBranches_5 : decode cX2_bestByBranches 5 = .ok (.iconst 0, 1) := by decide +kernel
theorem dX2_bestByBranches_6 : decode cX2_bestByBranches 6 = .ok (.invokestatic 29, 3) := by decide +kernel
theorem dX2_bestByBranches_9 : decode cX2_bestByBranches 9 = .ok (.aload_n 0, 1) := by decide +kernel
theorem dX2_bestByBranches_10 : decode cX2_bestByBranches 10 = .ok (.getfield 33, 3) := by decide +kernel
theorem dX2_bestByBranches_13 : decode cX2_bestByBranches 13 = .ok (.lreturn, 1) := by decide +kernel
theorem dX2_bestOfAllSets_0 : decode cX2_bestOfAllSets 0 = .ok (.aload_n 0, 1) := by decide +kernel
theorem dX2_bestOfAllSets_1 : decode cX2_bestOfAllSets 1 = .ok (.invokevirtual 26, 3) := by decide +kernel
theorem dX2_bestOfAllSets_4 : decode cX2_bestOfAllSets 4 = .ok (.iconst 0, 1) := by decide +kernel
theorem dX2_bestOfAllSets_5 : decode cX2_bestOfAllSets 5 = .ok (.istore_n 1, 1) := by decide +kernel
theorem dX2_bestOfAllSets_6 : decode cX2_bestOfAllSets 6 = .ok (.iload_n 1, 1) := by decide +kernel
theorem dX2_bestOfAllSets_7 : decode cX2_bestOfAllSets 7 = .ok (.iconst 1, 1) := by decide +kernel
theorem dX2_bestOfAllSets_8 : decode cX2_bestOfAllSets 8 = .ok (.aload_n 0, 1) := by decide +kernel
theorem dX2_bestOfAllSets_9 : decode cX2_bestOfAllSets 9 = .ok (.getfield 37, 3) := by decide +kernel
theorem dX2_bestOfAllSets_12 : decode cX2_bestOfAllSets 12 = .ok (.ishl, 1) := by decide +kernel
theorem dX2_bestOfAllSets_13 : decode cX2_bestOfAllSets 13 = .ok (.if_icmp .ge 79, 3) := by decide +kernel
theorem dX2_bestOfAllSets_16 : decode cX2_bestOfAllSets 16 = .ok (.iconst 0, 1) := by decide +kernel
theorem dX2_bestOfAllSets_17 : decode cX2_bestOfAllSets 17 = .ok (.istore_n 2, 1) := by decide +kernel
theorem dX2_bestOfAllSets_18 : decode cX2_bestOfAllSets 18 = .ok (.iload_n 2, 1) := by decide +kernel
theorem dX2_bestOfAllSets_19 : decode cX2_bestOfAllSets 19 = .ok (.aload_n 0, 1) := by decide +kernel
theorem dX2_bestOfAllSets_20 : decode cX2_bestOfAllSets 20 = .ok (.getfield 37, 3) := by decide +kernel
theorem dX2_bestOfAllSets_23 : decode cX2_bestOfAllSets 23 = .ok (.if_icmp .ge 26, 3) := by decide +kernel
theorem dX2_bestOfAllSets_26 : decode cX2_bestOfAllSets 26 = .ok (.iload_n 1, 1) := by decide +kernel
theorem dX2_bestOfAllSets_27 : decode cX2_bestOfAllSets 27 = .ok (.iload_n 2, 1) := by decide +kernel
theorem dX2_bestOfAllSets_28 : decode cX2_bestOfAllSets 28 = .ok (.ishr, 1) := by decide +kernel
theorem dX2_bestOfAllSets_29 : decode cX2_bestOfAllSets 29 = .ok (.iconst 1, 1) := by decide +kernel
theorem dX2_bestOfAllSets_30 : decode cX2_bestOfAllSets 30 = .ok (.iand, 1) := by decide +kernel
theorem dX2_bestOfAllSets_31 : decode cX2_bestOfAllSets 31 = .ok (.ifCond .eq 12, 3) := by decide +kernel
theorem dX2_bestOfAllSets_34 : decode cX2_bestOfAllSets 34 = .ok (.aload_n 0, 1) := by decide +kernel
theorem dX2_bestOfAllSets_35 : decode cX2_bestOfAllSets 35 = .ok (.aload_n 0, 1) := by decide +kernel
theorem dX2_bestOfAllSets_36 : decode cX2_bestOfAllSets 36 = .ok (.iload_n 2, 1) := by decide +kernel
theorem dX2_bestOfAllSets_37 : decode cX2_bestOfAllSets 37 = .ok (.invokevirtual 41, 3) := by decide +kernel
theorem dX2_bestOfAllSets_40 : decode cX2_bestOfAllSets 40 = .ok (.invokevirtual 45, 3) := by decide +kernel
theorem dX2_bestOfAllSets_43 : decode cX2_bestOfAllSets 43 = .ok (.iinc 2 1, 3) := by decide +kernel
theorem dX2_bestOfAllSets_46 : decode cX2_bestOfAllSets 46 = .ok (.goto (-28), 3) := by decide +kernel
theorem dX2_bestOfAllSets_49 : decode cX2_bestOfAllSets 49 = .ok (.aload_n 0, 1) := by decide +kernel
theorem dX2_bestOfAllSets_50 : decode cX2_bestOfAllSets 50 = .ok (.invokevirtual 49, 3) := by decide +kernel
theorem dX2_bestOfAllSets_53 : decode cX2_bestOfAllSets 53 = .ok (.iconst 0, 1) := by decide +kernel
theorem dX2_bestOfAllSets_54 : decode cX2_bestOfAllSets 54 = .ok (.istore_n 2, 1) := by decide +kernel
theorem dX2_bestOfAllSets_55 : decode cX2_bestOfAllSets 55 = .ok (.iload_n 2, 1) := by decide +kernel
theorem dX2_bestOfAllSets_56 : decode cX2_bestOfAllSets 56 = .ok (.aload_n 0, 1) := by decide +kernel
theorem dX2_bestOfAllSets_57 : decode cX2_bestOfAllSets 57 = .ok (.getfield 37, 3) := by decide +kernel
theorem dX2_bestOfAllSets_60 : decode cX2_bestOfAllSets 60 = .ok (.if_icmp .ge 26, 3) := by decide +kernel
theorem dX2_bestOfAllSets_63 : decode cX2_bestOfAllSets 63 = .ok (.iload_n 1, 1) := by decide +kernel
theorem dX2_bestOfAllSets_64 : decode cX2_bestOfAllSets 64 = .ok (.iload_n 2, 1) := by decide +kernel
theorem dX2_bestOfAllSets_65 : decode cX2_bestOfAllSets 65 = .ok (.ishr, 1) := by decide +kernel
theorem dX2_bestOfAllSets_66 : decode cX2_bestOfAllSets 66 = .ok (.iconst 1, 1) := by decide +kernel
theorem dX2_bestOfAllSets_67 : decode cX2_bestOfAllSets 67 = .ok (.iand, 1) := by decide +kernel
theorem dX2_bestOfAllSets_68 : decode cX2_bestOfAllSets 68 = .ok (.ifCond .eq 12, 3) := by decide +kernel
theorem dX2_bestOfAllSets_71 : decode cX2_bestOfAllSets 71 = .ok (.aload_n 0, 1) := by decide +kernel
theorem dX2_bestOfAllSets_72 : decode cX2_bestOfAllSets 72 = .ok (.aload_n 0, 1) := by decide +kernel
theorem dX2_bestOfAllSets_73 : decode cX2_bestOfAllSets 73 = .ok (.iload_n 2, 1) := by decide +kernel
theorem dX2_bestOfAllSets_74 : decode cX2_bestOfAllSets 74 = .ok (.invokevirtual 41, 3) := by decide +kernel
theorem dX2_bestOfAllSets_77 : decode cX2_bestOfAllSets 77 = .ok (.invokevirtual 52, 3) := by decide +kernel
theorem dX2_bestOfAllSets_80 : decode cX2_bestOfAllSets 80 = .ok (.iinc 2 1, 3) := by decide +kernel
theorem dX2_bestOfAllSets_83 : decode cX2_bestOfAllSets 83 = .ok (.goto (-28), 3) := by decide +kernel
theorem dX2_bestOfAllSets_86 : decode cX2_bestOfAllSets 86 = .ok (.iinc 1 1, 3) := by decide +kernel
theorem dX2_bestOfAllSets_89 : decode cX2_bestOfAllSets 89 = .ok (.goto (-83), 3) := by decide +kernel
theorem dX2_bestOfAllSets_92 : decode cX2_bestOfAllSets 92 = .ok (.aload_n 0, 1) := by decide +kernel
theorem dX2_bestOfAllSets_93 : decode cX2_bestOfAllSets 93 = .ok (.getfield 33, 3) := by decide +kernel
theorem dX2_bestOfAllSets_96 : decode cX2_bestOfAllSets 96 = .ok (.lreturn, 1) := by decide +kernel
theorem dX2_candidate_0 : decode cX2_candidate 0 = .ok (.aload_n 0, 1) := by decide +kernel
theorem dX2_candidate_1 : decode cX2_candidate 1 = .ok (.getfield 22, 3) := by decide +kernel
theorem dX2_candidate_4 : decode cX2_candidate 4 = .ok (.iload_n 1, 1) := by decide +kernel
theorem dX2_candidate_5 : decode cX2_candidate 5 = .ok (.ifCond .lt 21, 3) := by decide +kernel
theorem dX2_candidate_8 : decode cX2_candidate 8 = .ok (.iload_n 1, 1) := by decide +kernel
theorem dX2_candidate_9 : decode cX2_candidate 9 = .ok (.aload_n 0, 1) := by decide +kernel
theorem dX2_candidate_10 : decode cX2_candidate 10 = .ok (.getfield 9, 3) := by decide +kernel
theorem dX2_candidate_13 : decode cX2_candidate 13 = .ok (.arraylength, 1) := by decide +kernel
theorem dX2_candidate_14 : decode cX2_candidate 14 = .ok (.if_icmp .ge 12, 3) := by decide +kernel
theorem dX2_candidate_17 : decode cX2_candidate 17 = .ok (.aload_n 0, 1) := by decide +kernel
theorem dX2_candidate_18 : decode cX2_candidate 18 = .ok (.getfield 9, 3) := by decide +kernel
theorem dX2_candidate_21 : decode cX2_candidate 21 = .ok (.iload_n 1, 1) := by decide +kernel
theorem dX2_candidate_22 : decode cX2_candidate 22 = .ok (.iaload, 1) := by decide +kernel
theorem dX2_candidate_23 : decode cX2_candidate 23 = .ok (.goto 4, 3) := by decide +kernel
theorem dX2_candidate_26 : decode cX2_candidate 26 = .ok (.iconst (-1), 1) := by decide +kernel
theorem dX2_candidate_27 : decode cX2_candidate 27 = .ok (.invokevirtual 55, 3) := by decide +kernel
theorem dX2_candidate_30 : decode cX2_candidate 30 = .ok (.areturn, 1) := by decide +kernel
theorem dX2_beginSearch_0 : decode cX2_beginSearch 0 = .ok (.aload_n 0, 1) := by decide +kernel
theorem dX2_beginSearch_1 : decode cX2_beginSearch 1 = .ok (.invokevirtual 60, 3) := by decide +kernel
theorem dX2_beginSearch_4 : decode cX2_beginSearch 4 = .ok (.aload_n 0, 1) := by decide +kernel
theorem dX2_beginSearch_5 : decode cX2_beginSearch 5 = .ok (.iconst 0, 1) := by decide +kernel
theorem dX2_beginSearch_6 : decode cX2_beginSearch 6 = .ok (.putfield 63, 3) := by decide +kernel
theorem dX2_beginSearch_9 : decode cX2_beginSearch 9 = .ok (.aload_n 0, 1) := by decide +kernel
theorem dX2_beginSearch_10 : decode cX2_beginSearch 10 = .ok (.iconst 0, 1) := by decide +kernel
theorem dX2_beginSearch_11 : decode cX2_beginSearch 11 = .ok (.putfield 66, 3) := by decide +kernel
theorem dX2_beginSearch_14 : decode cX2_beginSearch 14 = .ok (.aload_n 0, 1) := by decide +kernel
theorem dX2_beginSearch_15 : decode cX2_beginSearch 15 = .ok (.lconst 0, 1) := by decide +kernel
theorem dX2_beginSearch_16 : decode cX2_beginSearch 16 = .ok (.putfield 69, 3) := by decide +kernel
theorem dX2_beginSearch_19 : decode cX2_beginSearch 19 = .ok (.aload_n 0, 1) := by decide +kernel
theorem dX2_beginSearch_20 : decode cX2_beginSearch 20 = .ok (.iconst 0, 1) := by decide +kernel
theorem dX2_beginSearch_21 : decode cX2_beginSearch 21 = .ok (.putfield 72, 3) := by decide +kernel
theorem dX2_beginSearch_24 : decode cX2_beginSearch 24 = .ok (.aload_n 0, 1) := by decide +kernel
theorem dX2_beginSearch_25 : decode cX2_beginSearch 25 = .ok (.iconst 0, 1) := by decide +kernel
theorem dX2_beginSearch_26 : decode cX2_beginSearch 26 = .ok (.putfield 75, 3) := by decide +kernel
theorem dX2_beginSearch_29 : decode cX2_beginSearch 29 = .ok (.aload_n 0, 1) := by decide +kernel
theorem dX2_beginSearch_30 : decode cX2_beginSearch 30 = .ok (.lconst 0, 1) := by decide +kernel
theorem dX2_beginSearch_31 : decode cX2_beginSearch 31 = .ok (.putfield 33, 3) := by decide +kernel
theorem dX2_beginSearch_34 : decode cX2_beginSearch 34 = .ok (.lconst 0, 1) := by decide +kernel
theorem dX2_beginSearch_35 : decode cX2_beginSearch 35 = .ok (.lstore_n 1, 1) := by decide +kernel
theorem dX2_beginSearch_36 : decode cX2_beginSearch 36 = .ok (.aload_n 0, 1) := by decide +kernel
theorem dX2_beginSearch_37 : decode cX2_beginSearch 37 = .ok (.getfield 15, 3) := by decide +kernel
theorem dX2_beginSearch_40 : decode cX2_beginSearch 40 = .ok (.arraylength, 1) := by decide +kernel
theorem dX2_beginSearch_41 : decode cX2_beginSearch 41 = .ok (.iconst 1, 1) := by decide +kernel
theorem dX2_beginSearch_42 : decode cX2_beginSearch 42 = .ok (.isub, 1) := by decide +kernel
theorem dX2_beginSearch_43 : decode cX2_beginSearch 43 = .ok (.istore_n 3, 1) := by decide +kernel
theorem dX2_beginSearch_44 : decode cX2_beginSearch 44 = .ok (.iload_n 3, 1) := by decide +kernel
theorem dX2_beginSearch_45 : decode cX2_beginSearch 45 = .ok (.ifCond .lt 40, 3) := by decide +kernel
theorem dX2_beginSearch_48 : decode cX2_beginSearch 48 = .ok (.lload_n 1, 1) := by decide +kernel
theorem dX2_beginSearch_49 : decode cX2_beginSearch 49 = .ok (.iload_n 3, 1) := by decide +kernel
theorem dX2_beginSearch_50 : decode cX2_beginSearch 50 = .ok (.aload_n 0, 1) := by decide +kernel
theorem dX2_beginSearch_51 : decode cX2_beginSearch 51 = .ok (.getfield 37, 3) := by decide +kernel
theorem dX2_beginSearch_54 : decode cX2_beginSearch 54 = .ok (.if_icmp .ge 15, 3) := by decide +kernel
theorem dX2_beginSearch_57 : decode cX2_beginSearch 57 = .ok (.aload_n 0, 1) := by decide +kernel
theorem dX2_beginSearch_58 : decode cX2_beginSearch 58 = .ok (.aload_n 0, 1) := by decide +kernel
theorem dX2_beginSearch_59 : decode cX2_beginSearch 59 = .ok (.iload_n 3, 1) := by decide +kernel
theorem dX2_beginSearch_60 : decode cX2_beginSearch 60 = .ok (.invokevirtual 41, 3) := by decide +kernel
theorem dX2_beginSearch_63 : decode cX2_beginSearch 63 = .ok (.invokevirtual 78, 3) := by decide +kernel
theorem dX2_beginSearch_66 : decode cX2_beginSearch 66 = .ok (.goto 4, 3) := by decide +kernel
theorem dX2_beginSearch_69 : decode cX2_beginSearch 69 = .ok (.lconst 0, 1) := by decide +kernel
theorem dX2_beginSearch_70 : decode cX2_beginSearch 70 = .ok (.ladd, 1) := by decide +kernel
theorem dX2_beginSearch_71 : decode cX2_beginSearch 71 = .ok (.lstore_n 1, 1) := by decide +kernel
theorem dX2_beginSearch_72 : decode cX2_beginSearch 72 = .ok (.aload_n 0, 1) := by decide +kernel
theorem dX2_beginSearch_73 : decode cX2_beginSearch 73 = .ok (.getfield 15, 3) := by decide +kernel
theorem dX2_beginSearch_76 : decode cX2_beginSearch 76 = .ok (.iload_n 3, 1) := by decide +kernel
theorem dX2_beginSearch_77 : decode cX2_beginSearch 77 = .ok (.lload_n 1, 1) := by decide +kernel
theorem dX2_beginSearch_78 : decode cX2_beginSearch 78 = .ok (.lastore, 1) := by decide +kernel
theorem dX2_beginSearch_79 : decode cX2_beginSearch 79 = .ok (.iinc 3 (-1), 3) := by decide +kernel
theorem dX2_beginSearch_82 : decode cX2_beginSearch 82 = .ok (.goto (-38), 3) := by decide +kernel
theorem dX2_beginSearch_85 : decode cX2_beginSearch 85 = .ok (.return_, 1) := by decide +kernel
theorem dX2_findCandidates_0 : decode cX2_findCandidates 0 = .ok (.aload_n 0, 1) := by decide +kernel
theorem dX2_findCandidates_1 : decode cX2_findCandidates 1 = .ok (.iconst 0, 1) := by decide +kernel
theorem dX2_findCandidates_2 : decode cX2_findCandidates 2 = .ok (.putfield 37, 3) := by decide +kernel
theorem dX2_findCandidates_5 : decode cX2_findCandidates 5 = .ok (.iconst 0, 1) := by decide +kernel
theorem dX2_findCandidates_6 : decode cX2_findCandidates 6 = .ok (.istore_n 1, 1) := by decide +kernel
theorem dX2_findCandidates_7 : decode cX2_findCandidates 7 = .ok (.iload_n 1, 1) := by decide +kernel
theorem dX2_findCandidates_8 : decode cX2_findCandidates 8 = .ok (.aload_n 0, 1) := by decide +kernel
theorem dX2_findCandidates_9 : decode cX2_findCandidates 9 = .ok (.getfield 22, 3) := by decide +kernel
theorem dX2_findCandidates_12 : decode cX2_findCandidates 12 = .ok (.getfield 82, 3) := by decide +kernel
theorem dX2_findCandidates_15 : decode cX2_findCandidates 15 = .ok (.if_icmp .ge 45, 3) := by decide +kernel
theorem dX2_findCandidates_18 : decode cX2_findCandidates 18 = .ok (.aload_n 0, 1) := by decide +kernel
theorem dX2_findCandidates_19 : decode cX2_findCandidates 19 = .ok (.getfield 22, 3) := by decide +kernel
theorem dX2_findCandidates_22 : decode cX2_findCandidates 22 = .ok (.iload_n 1, 1) := by decide +kernel
theorem dX2_findCandidates_23 : decode cX2_findCandidates 23 = .ok (.invokevirtual 55, 3) := by decide +kernel
theorem dX2_findCandidates_26 : decode cX2_findCandidates 26 = .ok (.astore_n 2, 1) := by decide +kernel
theorem dX2_findCandidates_27 : decode cX2_findCandidates 27 = .ok (.aload_n 0, 1) := by decide +kernel
theorem dX2_findCandidates_28 : decode cX2_findCandidates 28 = .ok (.getfield 22, 3) := by decide +kernel
theorem dX2_findCandidates_31 : decode cX2_findCandidates 31 = .ok (.aload_n 2, 1) := by decide +kernel
theorem dX2_findCandidates_32 : decode cX2_findCandidates 32 = .ok (.invokevirtual 85, 3) := by decide +kernel
theorem dX2_findCandidates_35 : decode cX2_findCandidates 35 = .ok (.ifCond .eq 19, 3) := by decide +kernel
theorem dX2_findCandidates_38 : decode cX2_findCandidates 38 = .ok (.aload_n 0, 1) := by decide +kernel
theorem dX2_findCandidates_39 : decode cX2_findCandidates 39 = .ok (.getfield 22, 3) := by decide +kernel
theorem dX2_findCandidates_42 : decode cX2_findCandidates 42 = .ok (.aload_n 2, 1) := by decide +kernel
theorem dX2_findCandidates_43 : decode cX2_findCandidates 43 = .ok (.invokevirtual 89, 3) := by decide +kernel
theorem dX2_findCandidates_46 : decode cX2_findCandidates 46 = .ok (.ifCond .ne 8, 3) := by decide +kernel
theorem dX2_findCandidates_49 : decode cX2_findCandidates 49 = .ok (.aload_n 0, 1) := by decide +kernel
theorem dX2_findCandidates_50 : decode cX2_findCandidates 50 = .ok (.aload_n 2, 1) := by decide +kernel
theorem dX2_findCandidates_51 : decode cX2_findCandidates 51 = .ok (.invokevirtual 92, 3) := by decide +kernel
theorem dX2_findCandidates_54 : decode cX2_findCandidates 54 = .ok (.iinc 1 1, 3) := by decide +kernel
theorem dX2_findCandidates_57 : decode cX2_findCandidates 57 = .ok (.goto (-50), 3) := by decide +kernel
theorem dX2_findCandidates_60 : decode cX2_findCandidates 60 = .ok (.aload_n 0, 1) := by decide +kernel
theorem dX2_findCandidates_61 : decode cX2_findCandidates 61 = .ok (.aload_n 0, 1) := by decide +kernel
theorem dX2_findCandidates_62 : decode cX2_findCandidates 62 = .ok (.getfield 37, 3) := by decide +kernel
theorem dX2_findCandidates_65 : decode cX2_findCandidates 65 = .ok (.bipush 10, 2) := by decide +kernel
theorem dX2_findCandidates_67 : decode cX2_findCandidates 67 = .ok (.invokestatic 95, 3) := by decide +kernel
theorem dX2_findCandidates_70 : decode cX2_findCandidates 70 = .ok (.putfield 37, 3) := by decide +kernel
theorem dX2_findCandidates_73 : decode cX2_findCandidates 73 = .ok (.return_, 1) := by decide +kernel
theorem dX2_insertCandidate_0 : decode cX2_insertCandidate 0 = .ok (.iconst 0, 1) := by decide +kernel
theorem dX2_insertCandidate_1 : decode cX2_insertCandidate 1 = .ok (.istore_n 2, 1) := by decide +kernel
theorem dX2_insertCandidate_2 : decode cX2_insertCandidate 2 = .ok (.iload_n 2, 1) := by decide +kernel
theorem dX2_insertCandidate_3 : decode cX2_insertCandidate 3 = .ok (.aload_n 0, 1) := by decide +kernel
theorem dX2_insertCandidate_4 : decode cX2_insertCandidate 4 = .ok (.getfield 37, 3) := by decide +kernel
theorem dX2_insertCandidate_7 : decode cX2_insertCandidate 7 = .ok (.if_icmp .ge 24, 3) := by decide +kernel
theorem dX2_insertCandidate_10 : decode cX2_insertCandidate 10 = .ok (.aload_n 0, 1) := by decide +kernel
theorem dX2_insertCandidate_11 : decode cX2_insertCandidate 11 = .ok (.iload_n 2, 1) := by decide +kernel
theorem dX2_insertCandidate_12 : decode cX2_insertCandidate 12 = .ok (.invokevirtual 41, 3) := by decide +kernel
theorem dX2_insertCandidate_15 : decode cX2_insertCandidate 15 = .ok (.invokestatic 101, 3) := by decide +kernel
theorem dX2_insertCandidate_18 : decode cX2_insertCandidate 18 = .ok (.aload_n 1, 1) := by decide +kernel
theorem dX2_insertCandidate_19 : decode cX2_insertCandidate 19 = .ok (.invokestatic 101, 3) := by decide +kernel
theorem dX2_insertCandidate_22 : decode cX2_insertCandidate 22 = .ok (.if_icmp .lt 9, 3) := by decide +kernel
theorem dX2_insertCandidate_25 : decode cX2_insertCandidate 25 = .ok (.iinc 2 1, 3) := by decide +kernel
theorem dX2_insertCandidate_28 : decode cX2_insertCandidate 28 = .ok (.goto (-26), 3) := by decide +kernel
theorem dX2_insertCandidate_31 : decode cX2_insertCandidate 31 = .ok (.aload_n 0, 1) := by decide +kernel
theorem dX2_insertCandidate_32 : decode cX2_insertCandidate 32 = .ok (.getfield 37, 3) := by decide +kernel
theorem dX2_insertCandidate_35 : decode cX2_insertCandidate 35 = .ok (.aload_n 0, 1) := by decide +kernel
theorem dX2_insertCandidate_36 : decode cX2_insertCandidate 36 = .ok (.getfield 9, 3) := by decide +kernel
theorem dX2_insertCandidate_39 : decode cX2_insertCandidate 39 = .ok (.arraylength, 1) := by decide +kernel
theorem dX2_insertCandidate_40 : decode cX2_insertCandidate 40 = .ok (.iconst 1, 1) := by decide +kernel
theorem dX2_insertCandidate_41 : decode cX2_insertCandidate 41 = .ok (.isub, 1) := by decide +kernel
theorem dX2_insertCandidate_42 : decode cX2_insertCandidate 42 = .ok (.invokestatic 95, 3) := by decide +kernel
theorem dX2_insertCandidate_45 : decode cX2_insertCandidate 45 = .ok (.istore_n 3, 1) := by decide +kernel
theorem dX2_insertCandidate_46 : decode cX2_insertCandidate 46 = .ok (.iload_n 3, 1) := by decide +kernel
theorem dX2_insertCandidate_47 : decode cX2_insertCandidate 47 = .ok (.iload_n 2, 1) := by decide +kernel
theorem dX2_insertCandidate_48 : decode cX2_insertCandidate 48 = .ok (.if_icmp .le 23, 3) := by decide +kernel
theorem dX2_insertCandidate_51 : decode cX2_insertCandidate 51 = .ok (.aload_n 0, 1) := by decide +kernel
theorem dX2_insertCandidate_52 : decode cX2_insertCandidate 52 = .ok (.getfield 9, 3) := by decide +kernel
theorem dX2_insertCandidate_55 : decode cX2_insertCandidate 55 = .ok (.iload_n 3, 1) := by decide +kernel
theorem dX2_insertCandidate_56 : decode cX2_insertCandidate 56 = .ok (.aload_n 0, 1) := by decide +kernel
theorem dX2_insertCandidate_57 : decode cX2_insertCandidate 57 = .ok (.getfield 9, 3) := by decide +kernel
theorem dX2_insertCandidate_60 : decode cX2_insertCandidate 60 = .ok (.iload_n 3, 1) := by decide +kernel
theorem dX2_insertCandidate_61 : decode cX2_insertCandidate 61 = .ok (.iconst 1, 1) := by decide +kernel
theorem dX2_insertCandidate_62 : decode cX2_insertCandidate 62 = .ok (.isub, 1) := by decide +kernel
theorem dX2_insertCandidate_63 : decode cX2_insertCandidate 63 = .ok (.iaload, 1) := by decide +kernel
theorem dX2_insertCandidate_64 : decode cX2_insertCandidate 64 = .ok (.iastore, 1) := by decide +kernel
theorem dX2_insertCandidate_65 : decode cX2_insertCandidate 65 = .ok (.iinc 3 (-1), 3) := by decide +kernel
theorem dX2_insertCandidate_68 : decode cX2_insertCandidate 68 = .ok (.goto (-22), 3) := by decide +kernel
theorem dX2_insertCandidate_71 : decode cX2_insertCandidate 71 = .ok (.iload_n 2, 1) := by decide +kernel
theorem dX2_insertCandidate_72 : decode cX2_insertCandidate 72 = .ok (.aload_n 0, 1) := by decide +kernel
theorem dX2_insertCandidate_73 : decode cX2_insertCandidate 73 = .ok (.getfield 9, 3) := by decide +kernel
theorem dX2_insertCandidate_76 : decode cX2_insertCandidate 76 = .ok (.arraylength, 1) := by decide +kernel
theorem dX2_insertCandidate_77 : decode cX2_insertCandidate 77 = .ok (.if_icmp .ge 23, 3) := by decide +kernel
theorem dX2_insertCandidate_80 : decode cX2_insertCandidate 80 = .ok (.aload_n 0, 1) := by decide +kernel
theorem dX2_insertCandidate_81 : decode cX2_insertCandidate 81 = .ok (.getfield 9, 3) := by decide +kernel
theorem dX2_insertCandidate_84 : decode cX2_insertCandidate 84 = .ok (.iload_n 2, 1) := by decide +kernel
theorem dX2_insertCandidate_85 : decode cX2_insertCandidate 85 = .ok (.aload_n 1, 1) := by decide +kernel
theorem dX2_insertCandidate_86 : decode cX2_insertCandidate 86 = .ok (.getfield 105, 3) := by decide +kernel
theorem dX2_insertCandidate_89 : decode cX2_insertCandidate 89 = .ok (.iastore, 1) := by decide +kernel
theorem dX2_insertCandidate_90 : decode cX2_insertCandidate 90 = .ok (.aload_n 0, 1) := by decide +kernel
theorem dX2_insertCandidate_91 : decode cX2_insertCandidate 91 = .ok (.dup, 1) := by decide +kernel
theorem dX2_insertCandidate_92 : decode cX2_insertCandidate 92 = .ok (.getfield 37, 3) := by decide +kernel
theorem dX2_insertCandidate_95 : decode cX2_insertCandidate 95 = .ok (.iconst 1, 1) := by decide +kernel
theorem dX2_insertCandidate_96 : decode cX2_insertCandidate 96 = .ok (.iadd, 1) := by decide +kernel
theorem dX2_insertCandidate_97 : decode cX2_insertCandidate 97 = .ok (.putfield 37, 3) := by decide +kernel
theorem dX2_insertCandidate_100 : decode cX2_insertCandidate 100 = .ok (.return_, 1) := by decide +kernel
theorem dX2_rankOf_0 : decode cX2_rankOf 0 = .ok (.aload_n 0, 1) := by decide +kernel
theorem dX2_rankOf_1 : decode cX2_rankOf 1 = .ok (.getfield 110, 3) := by decide +kernel
theorem dX2_rankOf_4 : decode cX2_rankOf 4 = .ok (.aload_n 0, 1) := by decide +kernel
theorem dX2_rankOf_5 : decode cX2_rankOf 5 = .ok (.getfield 113, 3) := by decide +kernel
theorem dX2_rankOf_8 : decode cX2_rankOf 8 = .ok (.iadd, 1) := by decide +kernel
theorem dX2_rankOf_9 : decode cX2_rankOf 9 = .ok (.ireturn, 1) := by decide +kernel
theorem dX2_worthOf_0 : decode cX2_worthOf 0 = .ok (.aload_n 1, 1) := by decide +kernel
theorem dX2_worthOf_1 : decode cX2_worthOf 1 = .ok (.getfield 116, 3) := by decide +kernel
theorem dX2_worthOf_4 : decode cX2_worthOf 4 = .ok (.aload_n 0, 1) := by decide +kernel
theorem dX2_worthOf_5 : decode cX2_worthOf 5 = .ok (.getfield 22, 3) := by decide +kernel
theorem dX2_worthOf_8 : decode cX2_worthOf 8 = .ok (.aload_n 1, 1) := by decide +kernel
theorem dX2_worthOf_9 : decode cX2_worthOf 9 = .ok (.getfield 119, 3) := by decide +kernel
theorem dX2_worthOf_12 : decode cX2_worthOf 12 = .ok (.aload_n 1, 1) := by decide +kernel
theorem dX2_worthOf_13 : decode cX2_worthOf 13 = .ok (.getfield 122, 3) := by decide +kernel
theorem dX2_worthOf_16 : decode cX2_worthOf 16 = .ok (.invokevirtual 125, 3) := by decide +kernel
theorem dX2_worthOf_19 : decode cX2_worthOf 19 = .ok (.ladd, 1) := by decide +kernel
theorem dX2_worthOf_20 : decode cX2_worthOf 20 = .ok (.lreturn, 1) := by decide +kernel
theorem dX2_choose_0 : decode cX2_choose 0 = .ok (.iload_n 1, 1) := by decide +kernel
theorem dX2_choose_1 : decode cX2_choose 1 = .ok (.aload_n 0, 1) := by decide +kernel
theorem dX2_choose_2 : decode cX2_choose 2 = .ok (.getfield 15, 3) := by decide +kernel
theorem dX2_choose_5 : decode cX2_choose 5 = .ok (.arraylength, 1) := by decide +kernel
theorem dX2_choose_6 : decode cX2_choose 6 = .ok (.if_icmp .ge 7, 3) := by decide +kernel
theorem dX2_choose_9 : decode cX2_choose 9 = .ok (.iload_n 1, 1) := by decide +kernel
theorem dX2_choose_10 : decode cX2_choose 10 = .ok (.ifCond .ge 4, 3) := by decide +kernel
theorem dX2_choose_13 : decode cX2_choose 13 = .ok (.return_, 1) := by decide +kernel
theorem dX2_choose_14 : decode cX2_choose 14 = .ok (.aload_n 0, 1) := by decide +kernel
theorem dX2_choose_15 : decode cX2_choose 15 = .ok (.getfield 69, 3) := by decide +kernel
theorem dX2_choose_18 : decode cX2_choose 18 = .ok (.aload_n 0, 1) := by decide +kernel
theorem dX2_choose_19 : decode cX2_choose 19 = .ok (.getfield 15, 3) := by decide +kernel
theorem dX2_choose_22 : decode cX2_choose 22 = .ok (.iload_n 1, 1) := by decide +kernel
theorem dX2_choose_23 : decode cX2_choose 23 = .ok (.laload, 1) := by decide +kernel
theorem dX2_choose_24 : decode cX2_choose 24 = .ok (.ladd, 1) := by decide +kernel
theorem dX2_choose_25 : decode cX2_choose 25 = .ok (.aload_n 0, 1) := by decide +kernel
theorem dX2_choose_26 : decode cX2_choose 26 = .ok (.getfield 33, 3) := by decide +kernel
theorem dX2_choose_29 : decode cX2_choose 29 = .ok (.lcmp, 1) := by decide +kernel
theorem dX2_choose_30 : decode cX2_choose 30 = .ok (.ifCond .ge 4, 3) := by decide +kernel
theorem dX2_choose_33 : decode cX2_choose 33 = .ok (.return_, 1) := by decide +kernel
theorem dX2_choose_34 : decode cX2_choose 34 = .ok (.iload_n 1, 1) := by decide +kernel
theorem dX2_choose_35 : decode cX2_choose 35 = .ok (.aload_n 0, 1) := by decide +kernel
theorem dX2_choose_36 : decode cX2_choose 36 = .ok (.getfield 37, 3) := by decide +kernel
theorem dX2_choose_39 : decode cX2_choose 39 = .ok (.if_icmp .lt 8, 3) := by decide +kernel
theorem dX2_choose_42 : decode cX2_choose 42 = .ok (.aload_n 0, 1) := by decide +kernel
theorem dX2_choose_43 : decode cX2_choose 43 = .ok (.invokevirtual 49, 3) := by decide +kernel
theorem dX2_choose_46 : decode cX2_choose 46 = .ok (.return_, 1) := by decide +kernel
theorem dX2_choose_47 : decode cX2_choose 47 = .ok (.aload_n 0, 1) := by decide +kernel
theorem dX2_choose_48 : decode cX2_choose 48 = .ok (.iload_n 1, 1) := by decide +kernel
theorem dX2_choose_49 : decode cX2_choose 49 = .ok (.invokevirtual 41, 3) := by decide +kernel
theorem dX2_choose_52 : decode cX2_choose 52 = .ok (.astore_n 2, 1) := by decide +kernel
theorem dX2_choose_53 : decode cX2_choose 53 = .ok (.aload_n 0, 1) := by decide +kernel
theorem dX2_choose_54 : decode cX2_choose 54 = .ok (.aload_n 2, 1) := by decide +kernel
theorem dX2_choose_55 : decode cX2_choose 55 = .ok (.invokevirtual 45, 3) := by decide +kernel
theorem dX2_choose_58 : decode cX2_choose 58 = .ok (.aload_n 0, 1) := by decide +kernel
theorem dX2_choose_59 : decode cX2_choose 59 = .ok (.iload_n 1, 1) := by decide +kernel
theorem dX2_choose_60 : decode cX2_choose 60 = .ok (.iconst 1, 1) := by decide +kernel
theorem dX2_choose_61 : decode cX2_choose 61 = .ok (.iadd, 1) := by decide +kernel
theorem dX2_choose_62 : decode cX2_choose 62 = .ok (.invokestatic 29, 3) := by decide +kernel
theorem dX2_choose_65 : decode cX2_choose 65 = .ok (.aload_n 0, 1) := by decide +kernel
theorem dX2_choose_66 : decode cX2_choose 66 = .ok (.aload_n 2, 1) := by decide +kernel
theorem dX2_choose_67 : decode cX2_choose 67 = .ok (.invokevirtual 52, 3) := by decide +kernel
theorem dX2_choose_70 : decode cX2_choose 70 = .ok (.aload_n 0, 1) := by decide +kernel
theorem dX2_choose_71 : decode cX2_choose 71 = .ok (.iload_n 1, 1) := by decide +kernel
theorem dX2_choose_72 : decode cX2_choose 72 = .ok (.iconst 1, 1) := by decide +kernel
theorem dX2_choose_73 : decode cX2_choose 73 = .ok (.iadd, 1) := by decide +kernel
theorem dX2_choose_74 : decode cX2_choose 74 = .ok (.invokestatic 29, 3) := by decide +kernel
theorem dX2_choose_77 : decode cX2_choose 77 = .ok (.return_, 1) := by decide +kernel
theorem dX2_putIn_0 : decode cX2_putIn 0 = .ok (.aload_n 0, 1) := by decide +kernel
theorem dX2_putIn_1 : decode cX2_putIn 1 = .ok (.getfield 22, 3) := by decide +kernel
theorem dX2_putIn_4 : decode cX2_putIn 4 = .ok (.aload_n 1, 1) := by decide +kernel
theorem dX2_putIn_5 : decode cX2_putIn 5 = .ok (.aload_n 1, 1) := by decide +kernel
theorem dX2_putIn_6 : decode cX2_putIn 6 = .ok (.getfield 122, 3) := by decide +kernel
theorem dX2_putIn_9 : decode cX2_putIn 9 = .ok (.aload_n 1, 1) := by decide +kernel
theorem dX2_putIn_10 : decode cX2_putIn 10 = .ok (.getfield 116, 3) := by decide +kernel
theorem dX2_putIn_13 : decode cX2_putIn 13 = .ok (.invokevirtual 128, 3) := by decide +kernel
theorem dX2_putIn_16 : decode cX2_putIn 16 = .ok (.aload_n 0, 1) := by decide +kernel
theorem dX2_putIn_17 : decode cX2_putIn 17 = .ok (.dup, 1) := by decide +kernel
theorem dX2_putIn_18 : decode cX2_putIn 18 = .ok (.getfield 63, 3) := by decide +kernel
theorem dX2_putIn_21 : decode cX2_putIn 21 = .ok (.iconst 1, 1) := by decide +kernel
theorem dX2_putIn_22 : decode cX2_putIn 22 = .ok (.aload_n 1, 1) := by decide +kernel
theorem dX2_putIn_23 : decode cX2_putIn 23 = .ok (.getfield 105, 3) := by decide +kernel
theorem dX2_putIn_26 : decode cX2_putIn 26 = .ok (.ishl, 1) := by decide +kernel
theorem dX2_putIn_27 : decode cX2_putIn 27 = .ok (.ior, 1) := by decide +kernel
theorem dX2_putIn_28 : decode cX2_putIn 28 = .ok (.putfield 63, 3) := by decide +kernel
theorem dX2_putIn_31 : decode cX2_putIn 31 = .ok (.aload_n 0, 1) := by decide +kernel
theorem dX2_putIn_32 : decode cX2_putIn 32 = .ok (.dup, 1) := by decide +kernel
theorem dX2_putIn_33 : decode cX2_putIn 33 = .ok (.getfield 66, 3) := by decide +kernel
theorem dX2_putIn_36 : decode cX2_putIn 36 = .ok (.iconst 1, 1) := by decide +kernel
theorem dX2_putIn_37 : decode cX2_putIn 37 = .ok (.iadd, 1) := by decide +kernel
theorem dX2_putIn_38 : decode cX2_putIn 38 = .ok (.putfield 66, 3) := by decide +kernel
theorem dX2_putIn_41 : decode cX2_putIn 41 = .ok (.aload_n 0, 1) := by decide +kernel
theorem dX2_putIn_42 : decode cX2_putIn 42 = .ok (.dup, 1) := by decide +kernel
theorem dX2_putIn_43 : decode cX2_putIn 43 = .ok (.getfield 69, 3) := by decide +kernel
theorem dX2_putIn_46 : decode cX2_putIn 46 = .ok (.aload_n 0, 1) := by decide +kernel
theorem dX2_putIn_47 : decode cX2_putIn 47 = .ok (.aload_n 1, 1) := by decide +kernel
theorem dX2_putIn_48 : decode cX2_putIn 48 = .ok (.invokevirtual 78, 3) := by decide +kernel
theorem dX2_putIn_51 : decode cX2_putIn 51 = .ok (.ladd, 1) := by decide +kernel
theorem dX2_putIn_52 : decode cX2_putIn 52 = .ok (.putfield 69, 3) := by decide +kernel
theorem dX2_putIn_55 : decode cX2_putIn 55 = .ok (.return_, 1) := by decide +kernel
theorem dX2_takeOut_0 : decode cX2_takeOut 0 = .ok (.aload_n 0, 1) := by decide +kernel
theorem dX2_takeOut_1 : decode cX2_takeOut 1 = .ok (.getfield 22, 3) := by decide +kernel
theorem dX2_takeOut_4 : decode cX2_takeOut 4 = .ok (.aload_n 1, 1) := by decide +kernel
theorem dX2_takeOut_5 : decode cX2_takeOut 5 = .ok (.aload_n 1, 1) := by decide +kernel
theorem dX2_takeOut_6 : decode cX2_takeOut 6 = .ok (.getfield 122, 3) := by decide +kernel
theorem dX2_takeOut_9 : decode cX2_takeOut 9 = .ok (.lneg, 1) := by decide +kernel
theorem dX2_takeOut_10 : decode cX2_takeOut 10 = .ok (.aload_n 1, 1) := by decide +kernel
theorem dX2_takeOut_11 : decode cX2_takeOut 11 = .ok (.getfield 116, 3) := by decide +kernel
theorem dX2_takeOut_14 : decode cX2_takeOut 14 = .ok (.lneg, 1) := by decide +kernel
theorem dX2_takeOut_15 : decode cX2_takeOut 15 = .ok (.invokevirtual 128, 3) := by decide +kernel
theorem dX2_takeOut_18 : decode cX2_takeOut 18 = .ok (.aload_n 0, 1) := by decide +kernel
theorem dX2_takeOut_19 : decode cX2_takeOut 19 = .ok (.dup, 1) := by decide +kernel
theorem dX2_takeOut_20 : decode cX2_takeOut 20 = .ok (.getfield 63, 3) := by decide +kernel
theorem dX2_takeOut_23 : decode cX2_takeOut 23 = .ok (.iconst 1, 1) := by decide +kernel
theorem dX2_takeOut_24 : decode cX2_takeOut 24 = .ok (.aload_n 1, 1) := by decide +kernel
theorem dX2_takeOut_25 : decode cX2_takeOut 25 = .ok (.getfield 105, 3) := by decide +kernel
theorem dX2_takeOut_28 : decode cX2_takeOut 28 = .ok (.ishl, 1) := by decide +kernel
theorem dX2_takeOut_29 : decode cX2_takeOut 29 = .ok (.iconst (-1), 1) := by decide +kernel
theorem dX2_takeOut_30 : decode cX2_takeOut 30 = .ok (.ixor, 1) := by decide +kernel
theorem dX2_takeOut_31 : decode cX2_takeOut 31 = .ok (.iand, 1) := by decide +kernel
theorem dX2_takeOut_32 : decode cX2_takeOut 32 = .ok (.putfield 63, 3) := by decide +kernel
theorem dX2_takeOut_35 : decode cX2_takeOut 35 = .ok (.aload_n 0, 1) := by decide +kernel
theorem dX2_takeOut_36 : decode cX2_takeOut 36 = .ok (.dup, 1) := by decide +kernel
theorem dX2_takeOut_37 : decode cX2_takeOut 37 = .ok (.getfield 66, 3) := by decide +kernel
theorem dX2_takeOut_40 : decode cX2_takeOut 40 = .ok (.iconst 1, 1) := by decide +kernel
theorem dX2_takeOut_41 : decode cX2_takeOut 41 = .ok (.isub, 1) := by decide +kernel
theorem dX2_takeOut_42 : decode cX2_takeOut 42 = .ok (.putfield 66, 3) := by decide +kernel
theorem dX2_takeOut_45 : decode cX2_takeOut 45 = .ok (.aload_n 0, 1) := by decide +kernel
theorem dX2_takeOut_46 : decode cX2_takeOut 46 = .ok (.dup, 1) := by decide +kernel
theorem dX2_takeOut_47 : decode cX2_takeOut 47 = .ok (.getfield 69, 3) := by decide +kernel
theorem dX2_takeOut_50 : decode cX2_takeOut 50 = .ok (.aload_n 0, 1) := by decide +kernel
theorem dX2_takeOut_51 : decode cX2_takeOut 51 = .ok (.aload_n 1, 1) := by decide +kernel
theorem dX2_takeOut_52 : decode cX2_takeOut 52 = .ok (.invokevirtual 78, 3) := by decide +kernel
theorem dX2_takeOut_55 : decode cX2_takeOut 55 = .ok (.lsub, 1) := by decide +kernel
theorem dX2_takeOut_56 : decode cX2_takeOut 56 = .ok (.putfield 69, 3) := by decide +kernel
theorem dX2_takeOut_59 : decode cX2_takeOut 59 = .ok (.return_, 1) := by decide +kernel
theorem dX2_weigh_0 : decode cX2_weigh 0 = .ok (.aload_n 0, 1) := by decide +kernel
theorem dX2_weigh_1 : decode cX2_weigh 1 = .ok (.getfield 69, 3) := by decide +kernel
theorem dX2_weigh_4 : decode cX2_weigh 4 = .ok (.aload_n 0, 1) := by decide +kernel
theorem dX2_weigh_5 : decode cX2_weigh 5 = .ok (.getfield 33, 3) := by decide +kernel
theorem dX2_weigh_8 : decode cX2_weigh 8 = .ok (.lcmp, 1) := by decide +kernel
theorem dX2_weigh_9 : decode cX2_weigh 9 = .ok (.ifCond .gt 26, 3) := by decide +kernel
theorem dX2_weigh_12 : decode cX2_weigh 12 = .ok (.aload_n 0, 1) := by decide +kernel
theorem dX2_weigh_13 : decode cX2_weigh 13 = .ok (.getfield 69, 3) := by decide +kernel
theorem dX2_weigh_16 : decode cX2_weigh 16 = .ok (.aload_n 0, 1) := by decide +kernel
theorem dX2_weigh_17 : decode cX2_weigh 17 = .ok (.getfield 33, 3) := by decide +kernel
theorem dX2_weigh_20 : decode cX2_weigh 20 = .ok (.lcmp, 1) := by decide +kernel
theorem dX2_weigh_21 : decode cX2_weigh 21 = .ok (.ifCond .ne 18, 3) := by decide +kernel
theorem dX2_weigh_24 : decode cX2_weigh 24 = .ok (.aload_n 0, 1) := by decide +kernel
theorem dX2_weigh_25 : decode cX2_weigh 25 = .ok (.getfield 66, 3) := by decide +kernel
theorem dX2_weigh_28 : decode cX2_weigh 28 = .ok (.aload_n 0, 1) := by decide +kernel
theorem dX2_weigh_29 : decode cX2_weigh 29 = .ok (.getfield 75, 3) := by decide +kernel
theorem dX2_weigh_32 : decode cX2_weigh 32 = .ok (.if_icmp .le 7, 3) := by decide +kernel
theorem dX2_weigh_35 : decode cX2_weigh 35 = .ok (.iconst 1, 1) := by decide +kernel
theorem dX2_weigh_36 : decode cX2_weigh 36 = .ok (.goto 4, 3) := by decide +kernel
theorem dX2_weigh_39 : decode cX2_weigh 39 = .ok (.iconst 0, 1) := by decide +kernel
theorem dX2_weigh_40 : decode cX2_weigh 40 = .ok (.istore_n 1, 1) := by decide +kernel
theorem dX2_weigh_41 : decode cX2_weigh 41 = .ok (.iload_n 1, 1) := by decide +kernel
theorem dX2_weigh_42 : decode cX2_weigh 42 = .ok (.ifCond .eq 41, 3) := by decide +kernel
theorem dX2_weigh_45 : decode cX2_weigh 45 = .ok (.aload_n 0, 1) := by decide +kernel
theorem dX2_weigh_46 : decode cX2_weigh 46 = .ok (.invokevirtual 132, 3) := by decide +kernel
theorem dX2_weigh_49 : decode cX2_weigh 49 = .ok (.ifCond .eq 34, 3) := by decide +kernel
theorem dX2_weigh_52 : decode cX2_weigh 52 = .ok (.aload_n 0, 1) := by decide +kernel
theorem dX2_weigh_53 : decode cX2_weigh 53 = .ok (.invokevirtual 136, 3) := by decide +kernel
theorem dX2_weigh_56 : decode cX2_weigh 56 = .ok (.ifCond .eq 27, 3) := by decide +kernel
theorem dX2_weigh_59 : decode cX2_weigh 59 = .ok (.aload_n 0, 1) := by decide +kernel
theorem dX2_weigh_60 : decode cX2_weigh 60 = .ok (.aload_n 0, 1) := by decide +kernel
theorem dX2_weigh_61 : decode cX2_weigh 61 = .ok (.getfield 63, 3) := by decide +kernel
theorem dX2_weigh_64 : decode cX2_weigh 64 = .ok (.putfield 72, 3) := by decide +kernel
theorem dX2_weigh_67 : decode cX2_weigh 67 = .ok (.aload_n 0, 1) := by decide +kernel
theorem dX2_weigh_68 : decode cX2_weigh 68 = .ok (.aload_n 0, 1) := by decide +kernel
theorem dX2_weigh_69 : decode cX2_weigh 69 = .ok (.getfield 66, 3) := by decide +kernel
theorem dX2_weigh_72 : decode cX2_weigh 72 = .ok (.putfield 75, 3) := by decide +kernel
theorem dX2_weigh_75 : decode cX2_weigh 75 = .ok (.aload_n 0, 1) := by decide +kernel
theorem dX2_weigh_76 : decode cX2_weigh 76 = .ok (.aload_n 0, 1) := by decide +kernel
theorem dX2_weigh_77 : decode cX2_weigh 77 = .ok (.getfield 69, 3) := by decide +kernel
theorem dX2_weigh_80 : decode cX2_weigh 80 = .ok (.putfield 33, 3) := by decide +kernel
theorem dX2_weigh_83 : decode cX2_weigh 83 = .ok (.return_, 1) := by decide +kernel
theorem dX2_areLinksKept_0 : decode cX2_areLinksKept 0 = .ok (.iconst 0, 1) := by decide +kernel
theorem dX2_areLinksKept_1 : decode cX2_areLinksKept 1 = .ok (.istore_n 1, 1) := by decide +kernel
theorem dX2_areLinksKept_2 : decode cX2_areLinksKept 2 = .ok (.iload_n 1, 1) := by decide +kernel
theorem dX2_areLinksKept_3 : decode cX2_areLinksKept 3 = .ok (.aload_n 0, 1) := by decide +kernel
theorem dX2_areLinksKept_4 : decode cX2_areLinksKept 4 = .ok (.getfield 22, 3) := by decide +kernel
theorem dX2_areLinksKept_7 : decode cX2_areLinksKept 7 = .ok (.getfield 139, 3) := by decide +kernel
theorem dX2_areLinksKept_10 : decode cX2_areLinksKept 10 = .ok (.if_icmp .ge 99, 3) := by decide +kernel
theorem dX2_areLinksKept_13 : decode cX2_areLinksKept 13 = .ok (.aload_n 0, 1) := by decide +kernel
theorem dX2_areLinksKept_14 : decode cX2_areLinksKept 14 = .ok (.getfield 22, 3) := by decide +kernel
theorem dX2_areLinksKept_17 : decode cX2_areLinksKept 17 = .ok (.iload_n 1, 1) := by decide +kernel
theorem dX2_areLinksKept_18 : decode cX2_areLinksKept 18 = .ok (.invokevirtual 142, 3) := by decide +kernel
theorem dX2_areLinksKept_21 : decode cX2_areLinksKept 21 = .ok (.astore_n 2, 1) := by decide +kernel
theorem dX2_areLinksKept_22 : decode cX2_areLinksKept 22 = .ok (.aload_n 2, 1) := by decide +kernel
theorem dX2_areLinksKept_23 : decode cX2_areLinksKept 23 = .ok (.getfield 146, 3) := by decide +kernel
theorem dX2_areLinksKept_26 : decode cX2_areLinksKept 26 = .ok (.aload_n 0, 1) := by decide +kernel
theorem dX2_areLinksKept_27 : decode cX2_areLinksKept 27 = .ok (.getfield 63, 3) := by decide +kernel
theorem dX2_areLinksKept_30 : decode cX2_areLinksKept 30 = .ok (.invokestatic 151, 3) := by decide +kernel
theorem dX2_areLinksKept_33 : decode cX2_areLinksKept 33 = .ok (.ifCond .eq 18, 3) := by decide +kernel
theorem dX2_areLinksKept_36 : decode cX2_areLinksKept 36 = .ok (.aload_n 0, 1) := by decide +kernel
theorem dX2_areLinksKept_37 : decode cX2_areLinksKept 37 = .ok (.aload_n 2, 1) := by decide +kernel
theorem dX2_areLinksKept_38 : decode cX2_areLinksKept 38 = .ok (.getfield 155, 3) := by decide +kernel
theorem dX2_areLinksKept_41 : decode cX2_areLinksKept 41 = .ok (.invokevirtual 158, 3) := by decide +kernel
theorem dX2_areLinksKept_44 : decode cX2_areLinksKept 44 = .ok (.ifCond .ne 7, 3) := by decide +kernel
theorem dX2_areLinksKept_47 : decode cX2_areLinksKept 47 = .ok (.iconst 1, 1) := by decide +kernel
theorem dX2_areLinksKept_48 : decode cX2_areLinksKept 48 = .ok (.goto 4, 3) := by decide +kernel
theorem dX2_areLinksKept_51 : decode cX2_areLinksKept 51 = .ok (.iconst 0, 1) := by decide +kernel
theorem dX2_areLinksKept_52 : decode cX2_areLinksKept 52 = .ok (.istore_n 3, 1) := by decide +kernel
theorem dX2_areLinksKept_53 : decode cX2_areLinksKept 53 = .ok (.aload_n 2, 1) := by decide +kernel
theorem dX2_areLinksKept_54 : decode cX2_areLinksKept 54 = .ok (.getfield 155, 3) := by decide +kernel
theorem dX2_areLinksKept_57 : decode cX2_areLinksKept 57 = .ok (.aload_n 0, 1) := by decide +kernel
theorem dX2_areLinksKept_58 : decode cX2_areLinksKept 58 = .ok (.getfield 63, 3) := by decide +kernel
theorem dX2_areLinksKept_61 : decode cX2_areLinksKept 61 = .ok (.invokestatic 151, 3) := by decide +kernel
theorem dX2_areLinksKept_64 : decode cX2_areLinksKept 64 = .ok (.ifCond .eq 18, 3) := by decide +kernel
theorem dX2_areLinksKept_67 : decode cX2_areLinksKept 67 = .ok (.aload_n 0, 1) := by decide +kernel
theorem dX2_areLinksKept_68 : decode cX2_areLinksKept 68 = .ok (.aload_n 2, 1) := by decide +kernel
theorem dX2_areLinksKept_69 : decode cX2_areLinksKept 69 = .ok (.getfield 146, 3) := by decide +kernel
theorem dX2_areLinksKept_72 : decode cX2_areLinksKept 72 = .ok (.invokevirtual 158, 3) := by decide +kernel
theorem dX2_areLinksKept_75 : decode cX2_areLinksKept 75 = .ok (.ifCond .ne 7, 3) := by decide +kernel
theorem dX2_areLinksKept_78 : decode cX2_areLinksKept 78 = .ok (.iconst 1, 1) := by decide +kernel
theorem dX2_areLinksKept_79 : decode cX2_areLinksKept 79 = .ok (.goto 4, 3) := by decide +kernel
theorem dX2_areLinksKept_82 : decode cX2_areLinksKept 82 = .ok (.iconst 0, 1) := by decide +kernel
theorem dX2_areLinksKept_83 : decode cX2_areLinksKept 83 = .ok (.istore 4, 2) := by decide +kernel
theorem dX2_areLinksKept_85 : decode cX2_areLinksKept 85 = .ok (.iload_n 3, 1) := by decide +kernel
theorem dX2_areLinksKept_86 : decode cX2_areLinksKept 86 = .ok (.ifCond .ne 15, 3) := by decide +kernel
theorem dX2_areLinksKept_89 : decode cX2_areLinksKept 89 = .ok (.aload_n 2, 1) := by decide +kernel
theorem dX2_areLinksKept_90 : decode cX2_areLinksKept 90 = .ok (.getfield 162, 3) := by decide +kernel
theorem dX2_areLinksKept_93 : decode cX2_areLinksKept 93 = .ok (.ifCond .eq 10, 3) := by decide +kernel
theorem dX2_areLinksKept_96 : decode cX2_areLinksKept 96 = .ok (.iload 4, 2) := by decide +kernel
theorem dX2_areLinksKept_98 : decode cX2_areLinksKept 98 = .ok (.ifCond .eq 5, 3) := by decide +kernel
theorem dX2_areLinksKept_101 : decode cX2_areLinksKept 101 = .ok (.iconst 0, 1) := by decide +kernel
theorem dX2_areLinksKept_102 : decode cX2_areLinksKept 102 = .ok (.ireturn, 1) := by decide +kernel
theorem dX2_areLinksKept_103 : decode cX2_areLinksKept 103 = .ok (.iinc 1 1, 3) := by decide +kernel
theorem dX2_areLinksKept_106 : decode cX2_areLinksKept 106 = .ok (.goto (-104), 3) := by decide +kernel
theorem dX2_areLinksKept_109 : decode cX2_areLinksKept 109 = .ok (.iconst 1, 1) := by decide +kernel
theorem dX2_areLinksKept_110 : decode cX2_areLinksKept 110 = .ok (.ireturn, 1) := by decide +kernel
theorem dX2_isInOrSettled_0 : decode cX2_isInOrSettled 0 = .ok (.iload_n 1, 1) := by decide +kernel
theorem dX2_isInOrSettled_1 : decode cX2_isInOrSettled 1 = .ok (.aload_n 0, 1) := by decide +kernel
theorem dX2_isInOrSettled_2 : decode cX2_isInOrSettled 2 = .ok (.getfield 63, 3) := by decide +kernel
theorem dX2_isInOrSettled_5 : decode cX2_isInOrSettled 5 = .ok (.invokestatic 151, 3) := by decide +kernel
theorem dX2_isInOrSettled_8 : decode cX2_isInOrSettled 8 = .ok (.ifCond .ne 18, 3) := by decide +kernel
theorem dX2_isInOrSettled_11 : decode cX2_isInOrSettled 11 = .ok (.aload_n 0, 1) := by decide +kernel
theorem dX2_isInOrSettled_12 : decode cX2_isInOrSettled 12 = .ok (.getfield 22, 3) := by decide +kernel
theorem dX2_isInOrSettled_15 : decode cX2_isInOrSettled 15 = .ok (.iload_n 1, 1) := by decide +kernel
theorem dX2_isInOrSettled_16 : decode cX2_isInOrSettled 16 = .ok (.invokevirtual 55, 3) := by decide +kernel
theorem dX2_isInOrSettled_19 : decode cX2_isInOrSettled 19 = .ok (.getfield 166, 3) := by decide +kernel
theorem dX2_isInOrSettled_22 : decode cX2_isInOrSettled 22 = .ok (.iconst 2, 1) := by decide +kernel
theorem dX2_isInOrSettled_23 : decode cX2_isInOrSettled 23 = .ok (.if_icmp .ne 7, 3) := by decide +kernel
theorem dX2_isInOrSettled_26 : decode cX2_isInOrSettled 26 = .ok (.iconst 1, 1) := by decide +kernel
theorem dX2_isInOrSettled_27 : decode cX2_isInOrSettled 27 = .ok (.goto 4, 3) := by decide +kernel
theorem dX2_isInOrSettled_30 : decode cX2_isInOrSettled 30 = .ok (.iconst 0, 1) := by decide +kernel
theorem dX2_isInOrSettled_31 : decode cX2_isInOrSettled 31 = .ok (.ireturn, 1) := by decide +kernel
theorem dX2_isIn_0 : decode cX2_isIn 0 = .ok (.iload_n 1, 1) := by decide +kernel
theorem dX2_isIn_1 : decode cX2_isIn 1 = .ok (.iload_n 0, 1) := by decide +kernel
theorem dX2_isIn_2 : decode cX2_isIn 2 = .ok (.ishr, 1) := by decide +kernel
theorem dX2_isIn_3 : decode cX2_isIn 3 = .ok (.iconst 1, 1) := by decide +kernel
theorem dX2_isIn_4 : decode cX2_isIn 4 = .ok (.iand, 1) := by decide +kernel
theorem dX2_isIn_5 : decode cX2_isIn 5 = .ok (.ifCond .eq 7, 3) := by decide +kernel
theorem dX2_isIn_8 : decode cX2_isIn 8 = .ok (.iconst 1, 1) := by decide +kernel
theorem dX2_isIn_9 : decode cX2_isIn 9 = .ok (.goto 4, 3) := by decide +kernel
theorem dX2_isIn_12 : decode cX2_isIn 12 = .ok (.iconst 0, 1) := by decide +kernel
theorem dX2_isIn_13 : decode cX2_isIn 13 = .ok (.ireturn, 1) := by decide +kernel
theorem dX2_areAllFirm_0 : decode cX2_areAllFirm 0 = .ok (.iconst 0, 1) := by decide +kernel
theorem dX2_areAllFirm_1 : decode cX2_areAllFirm 1 = .ok (.istore_n 1, 1) := by decide +kernel
theorem dX2_areAllFirm_2 : decode cX2_areAllFirm 2 = .ok (.iload_n 1, 1) := by decide +kernel
theorem dX2_areAllFirm_3 : decode cX2_areAllFirm 3 = .ok (.aload_n 0, 1) := by decide +kernel
theorem dX2_areAllFirm_4 : decode cX2_areAllFirm 4 = .ok (.getfield 37, 3) := by decide +kernel
theorem dX2_areAllFirm_7 : decode cX2_areAllFirm 7 = .ok (.if_icmp .ge 59, 3) := by decide +kernel
theorem dX2_areAllFirm_10 : decode cX2_areAllFirm 10 = .ok (.aload_n 0, 1) := by decide +kernel
theorem dX2_areAllFirm_11 : decode cX2_areAllFirm 11 = .ok (.iload_n 1, 1) := by decide +kernel
theorem dX2_areAllFirm_12 : decode cX2_areAllFirm 12 = .ok (.invokevirtual 41, 3) := by decide +kernel
theorem dX2_areAllFirm_15 : decode cX2_areAllFirm 15 = .ok (.astore_n 2, 1) := by decide +kernel
theorem dX2_areAllFirm_16 : decode cX2_areAllFirm 16 = .ok (.aload_n 2, 1) := by decide +kernel
theorem dX2_areAllFirm_17 : decode cX2_areAllFirm 17 = .ok (.getfield 105, 3) := by decide +kernel
theorem dX2_areAllFirm_20 : decode cX2_areAllFirm 20 = .ok (.aload_n 0, 1) := by decide +kernel
theorem dX2_areAllFirm_21 : decode cX2_areAllFirm 21 = .ok (.getfield 63, 3) := by decide +kernel
theorem dX2_areAllFirm_24 : decode cX2_areAllFirm 24 = .ok (.invokestatic 151, 3) := by decide +kernel
theorem dX2_areAllFirm_27 : decode cX2_areAllFirm 27 = .ok (.ifCond .eq 33, 3) := by decide +kernel
theorem dX2_areAllFirm_30 : decode cX2_areAllFirm 30 = .ok (.aload_n 0, 1) := by decide +kernel
theorem dX2_areAllFirm_31 : decode cX2_areAllFirm 31 = .ok (.getfield 22, 3) := by decide +kernel
theorem dX2_areAllFirm_34 : decode cX2_areAllFirm 34 = .ok (.aload_n 2, 1) := by decide +kernel
theorem dX2_areAllFirm_35 : decode cX2_areAllFirm 35 = .ok (.getfield 169, 3) := by decide +kernel
theorem dX2_areAllFirm_38 : decode cX2_areAllFirm 38 = .ok (.invokevirtual 172, 3) := by decide +kernel
theorem dX2_areAllFirm_41 : decode cX2_areAllFirm 41 = .ok (.ifCond .eq 17, 3) := by decide +kernel
theorem dX2_areAllFirm_44 : decode cX2_areAllFirm 44 = .ok (.aload_n 0, 1) := by decide +kernel
theorem dX2_areAllFirm_45 : decode cX2_areAllFirm 45 = .ok (.getfield 22, 3) := by decide +kernel
theorem dX2_areAllFirm_48 : decode cX2_areAllFirm 48 = .ok (.aload_n 2, 1) := by decide +kernel
theorem dX2_areAllFirm_49 : decode cX2_areAllFirm 49 = .ok (.getfield 175, 3) := by decide +kernel
theorem dX2_areAllFirm_52 : decode cX2_areAllFirm 52 = .ok (.invokevirtual 172, 3) := by decide +kernel
theorem dX2_areAllFirm_55 : decode cX2_areAllFirm 55 = .ok (.ifCond .ne 5, 3) := by decide +kernel
theorem dX2_areAllFirm_58 : decode cX2_areAllFirm 58 = .ok (.iconst 0, 1) := by decide +kernel
theorem dX2_areAllFirm_59 : decode cX2_areAllFirm 59 = .ok (.ireturn, 1) := by decide +kernel
theorem dX2_areAllFirm_60 : decode cX2_areAllFirm 60 = .ok (.iinc 1 1, 3) := by decide +kernel
theorem dX2_areAllFirm_63 : decode cX2_areAllFirm 63 = .ok (.goto (-61), 3) := by decide +kernel
theorem dX2_areAllFirm_66 : decode cX2_areAllFirm 66 = .ok (.iconst 1, 1) := by decide +kernel
theorem dX2_areAllFirm_67 : decode cX2_areAllFirm 67 = .ok (.ireturn, 1) := by decide +kernel
