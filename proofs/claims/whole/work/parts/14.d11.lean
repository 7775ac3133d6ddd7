theorem dX12_cash_0 : decode cX12_cash 0 = .ok (.aload_n 0, 1) := by decide +kernel
theorem dX12_cash_1 : decode cX12_cash 1 = .ok (.aload_n 0, 1) := by decide +kernel
theorem dX12_cash_2 : decode cX12_cash 2 = .ok (.iload_n 1, 1) := by decide +kernel
theorem dX12_cash_3 : decode cX12_cash 3 = .ok (.invokevirtual 55, 3) := by decide +kernel
theorem dX12_cash_6 : decode cX12_cash 6 = .ok (.ifCond .eq 7, 3) := by decide +kernel
theorem dX12_cash_9 : decode cX12_cash 9 = .ok (.iconst 0, 1) := by decide +kernel
theorem dX12_cash_10 : decode cX12_cash 10 = .ok (.goto 4, 3) := by decide +kernel
theorem dX12_cash_13 : decode cX12_cash 13 = .ok (.iconst 1, 1) := by decide +kernel
theorem dX12_cash_14 : decode cX12_cash 14 = .ok (.invokevirtual 61, 3) := by decide +kernel
theorem dX12_cash_17 : decode cX12_cash 17 = .ok (.ifCond .eq 9, 3) := by decide +kernel
theorem dX12_cash_20 : decode cX12_cash 20 = .ok (.ldc2_w 81, 3) := by decide +kernel
theorem dX12_cash_23 : decode cX12_cash 23 = .ok (.goto 12, 3) := by decide +kernel
theorem dX12_cash_26 : decode cX12_cash 26 = .ok (.aload_n 0, 1) := by decide +kernel
theorem dX12_cash_27 : decode cX12_cash 27 = .ok (.getfield 7, 3) := by decide +kernel
theorem dX12_cash_30 : decode cX12_cash 30 = .ok (.bipush 30, 2) := by decide +kernel
theorem dX12_cash_32 : decode cX12_cash 32 = .ok (.iload_n 1, 1) := by decide +kernel
theorem dX12_cash_33 : decode cX12_cash 33 = .ok (.iadd, 1) := by decide +kernel
theorem dX12_cash_34 : decode cX12_cash 34 = .ok (.laload, 1) := by decide +kernel
theorem dX12_cash_35 : decode cX12_cash 35 = .ok (.lreturn, 1) := by decide +kernel
theorem dX12_pledged_0 : decode cX12_pledged 0 = .ok (.aload_n 0, 1) := by decide +kernel
theorem dX12_pledged_1 : decode cX12_pledged 1 = .ok (.aload_n 0, 1) := by decide +kernel
theorem dX12_pledged_2 : decode cX12_pledged 2 = .ok (.iload_n 1, 1) := by decide +kernel
theorem dX12_pledged_3 : decode cX12_pledged 3 = .ok (.invokevirtual 55, 3) := by decide +kernel
theorem dX12_pledged_6 : decode cX12_pledged 6 = .ok (.ifCond .eq 7, 3) := by decide +kernel
theorem dX12_pledged_9 : decode cX12_pledged 9 = .ok (.iconst 0, 1) := by decide +kernel
theorem dX12_pledged_10 : decode cX12_pledged 10 = .ok (.goto 4, 3) := by decide +kernel
theorem dX12_pledged_13 : decode cX12_pledged 13 = .ok (.iconst 1, 1) := by decide +kernel
theorem dX12_pledged_14 : decode cX12_pledged 14 = .ok (.invokevirtual 61, 3) := by decide +kernel
theorem dX12_pledged_17 : decode cX12_pledged 17 = .ok (.ifCond .eq 9, 3) := by decide +kernel
theorem dX12_pledged_20 : decode cX12_pledged 20 = .ok (.ldc2_w 81, 3) := by decide +kernel
theorem dX12_pledged_23 : decode cX12_pledged 23 = .ok (.goto 12, 3) := by decide +kernel
theorem dX12_pledged_26 : decode cX12_pledged 26 = .ok (.aload_n 0, 1) := by decide +kernel
theorem dX12_pledged_27 : decode cX12_pledged 27 = .ok (.getfield 7, 3) := by decide +kernel
theorem dX12_pledged_30 : decode cX12_pledged 30 = .ok (.bipush 40, 2) := by decide +kernel
theorem dX12_pledged_32 : decode cX12_pledged 32 = .ok (.iload_n 1, 1) := by decide +kernel
theorem dX12_pledged_33 : decode cX12_pledged 33 = .ok (.iadd, 1) := by decide +kernel
theorem dX12_pledged_34 : decode cX12_pledged 34 = .ok (.laload, 1) := by decide +kernel
theorem dX12_pledged_35 : decode cX12_pledged 35 = .ok (.lreturn, 1) := by decide +kernel
theorem dX12_limit_0 : decode cX12_limit 0 = .ok (.aload_n 0, 1) := by decide +kernel
theorem dX12_limit_1 : decode cX12_limit 1 = .ok (.aload_n 0, 1) := by decide +kernel
theorem dX12_limit_2 : decode cX12_limit 2 = .ok (.iload_n 1, 1) := by decide +kernel
theorem dX12_limit_3 : decode cX12_limit 3 = .ok (.invokevirtual 55, 3) := by decide +kernel
theorem dX12_limit_6 : decode cX12_limit 6 = .ok (.ifCond .eq 7, 3) := by decide +kernel
theorem dX12_limit_9 : decode cX12_limit 9 = .ok (.iconst 0, 1) := by decide +kernel
theorem dX12_limit_10 : decode cX12_limit 10 = .ok (.goto 4, 3) := by decide +kernel
theorem dX12_limit_13 : decode cX12_limit 13 = .ok (.iconst 1, 1) := by decide +kernel
theorem dX12_limit_14 : decode cX12_limit 14 = .ok (.invokevirtual 61, 3) := by decide +kernel
theorem dX12_limit_17 : decode cX12_limit 17 = .ok (.ifCond .eq 9, 3) := by decide +kernel
theorem dX12_limit_20 : decode cX12_limit 20 = .ok (.ldc2_w 81, 3) := by decide +kernel
theorem dX12_limit_23 : decode cX12_limit 23 = .ok (.goto 8, 3) := by decide +kernel
theorem dX12_limit_26 : decode cX12_limit 26 = .ok (.aload_n 0, 1) := by decide +kernel
theorem dX12_limit_27 : decode cX12_limit 27 = .ok (.iload_n 1, 1) := by decide +kernel
theorem dX12_limit_28 : decode cX12_limit 28 = .ok (.invokevirtual 50, 3) := by decide +kernel
theorem dX12_limit_31 : decode cX12_limit 31 = .ok (.lreturn, 1) := by decide +kernel
theorem dX12_isSound_0 : decode cX12_isSound 0 = .ok (.aload_n 0, 1) := by decide +kernel
theorem dX12_isSound_1 : decode cX12_isSound 1 = .ok (.aload_n 0, 1) := by decide +kernel
theorem dX12_isSound_2 : decode cX12_isSound 2 = .ok (.iload_n 1, 1) := by decide +kernel
theorem dX12_isSound_3 : decode cX12_isSound 3 = .ok (.invokevirtual 55, 3) := by decide +kernel
theorem dX12_isSound_6 : decode cX12_isSound 6 = .ok (.ifCond .eq 7, 3) := by decide +kernel
theorem dX12_isSound_9 : decode cX12_isSound 9 = .ok (.iconst 0, 1) := by decide +kernel
theorem dX12_isSound_10 : decode cX12_isSound 10 = .ok (.goto 4, 3) := by decide +kernel
theorem dX12_isSound_13 : decode cX12_isSound 13 = .ok (.iconst 1, 1) := by decide +kernel
theorem dX12_isSound_14 : decode cX12_isSound 14 = .ok (.invokevirtual 61, 3) := by decide +kernel
theorem dX12_isSound_17 : decode cX12_isSound 17 = .ok (.ifCond .ne 15, 3) := by decide +kernel
theorem dX12_isSound_20 : decode cX12_isSound 20 = .ok (.aload_n 0, 1) := by decide +kernel
theorem dX12_isSound_21 : decode cX12_isSound 21 = .ok (.iload_n 1, 1) := by decide +kernel
theorem dX12_isSound_22 : decode cX12_isSound 22 = .ok (.invokevirtual 85, 3) := by decide +kernel
theorem dX12_isSound_25 : decode cX12_isSound 25 = .ok (.ifCond .eq 7, 3) := by decide +kernel
theorem dX12_isSound_28 : decode cX12_isSound 28 = .ok (.iconst 1, 1) := by decide +kernel
theorem dX12_isSound_29 : decode cX12_isSound 29 = .ok (.goto 4, 3) := by decide +kernel
theorem dX12_isSound_32 : decode cX12_isSound 32 = .ok (.iconst 0, 1) := by decide +kernel
theorem dX12_isSound_33 : decode cX12_isSound 33 = .ok (.ireturn, 1) := by decide +kernel
theorem dX12_used_0 : decode cX12_used 0 = .ok (.aload_n 0, 1) := by decide +kernel
theorem dX12_used_1 : decode cX12_used 1 = .ok (.aload_n 0, 1) := by decide +kernel
theorem dX12_used_2 : decode cX12_used 2 = .ok (.iload_n 1, 1) := by decide +kernel
theorem dX12_used_3 : decode cX12_used 3 = .ok (.invokevirtual 55, 3) := by decide +kernel
theorem dX12_used_6 : decode cX12_used 6 = .ok (.ifCond .eq 7, 3) := by decide +kernel
theorem dX12_used_9 : decode cX12_used 9 = .ok (.iconst 0, 1) := by decide +kernel
theorem dX12_used_10 : decode cX12_used 10 = .ok (.goto 4, 3) := by decide +kernel
theorem dX12_used_13 : decode cX12_used 13 = .ok (.iconst 1, 1) := by decide +kernel
theorem dX12_used_14 : decode cX12_used 14 = .ok (.invokevirtual 61, 3) := by decide +kernel
theorem dX12_used_17 : decode cX12_used 17 = .ok (.ifCond .eq 5, 3) := by decide +kernel
theorem dX12_used_20 : decode cX12_used 20 = .ok (.dconst 0, 1) := by decide +kernel
theorem dX12_used_21 : decode cX12_used 21 = .ok (.dreturn, 1) := by decide +kernel
theorem dX12_used_22 : decode cX12_used 22 = .ok (.aload_n 0, 1) := by decide +kernel
theorem dX12_used_23 : decode cX12_used 23 = .ok (.iload_n 1, 1) := by decide +kernel
theorem dX12_used_24 : decode cX12_used 24 = .ok (.invokevirtual 46, 3) := by decide +kernel
theorem dX12_used_27 : decode cX12_used 27 = .ok (.lconst 0, 1) := by decide +kernel
theorem dX12_used_28 : decode cX12_used 28 = .ok (.lcmp, 1) := by decide +kernel
theorem dX12_used_29 : decode cX12_used 29 = .ok (.ifCond .lt 7, 3) := by decide +kernel
theorem dX12_used_32 : decode cX12_used 32 = .ok (.dconst 0, 1) := by decide +kernel
theorem dX12_used_33 : decode cX12_used 33 = .ok (.goto 17, 3) := by decide +kernel
theorem dX12_used_36 : decode cX12_used 36 = .ok (.aload_n 0, 1) := by decide +kernel
theorem dX12_used_37 : decode cX12_used 37 = .ok (.iload_n 1, 1) := by decide +kernel
theorem dX12_used_38 : decode cX12_used 38 = .ok (.invokevirtual 46, 3) := by decide +kernel
theorem dX12_used_41 : decode cX12_used 41 = .ok (.lneg, 1) := by decide +kernel
theorem dX12_used_42 : decode cX12_used 42 = .ok (.l2d, 1) := by decide +kernel
theorem dX12_used_43 : decode cX12_used 43 = .ok (.aload_n 0, 1) := by decide +kernel
theorem dX12_used_44 : decode cX12_used 44 = .ok (.iload_n 1, 1) := by decide +kernel
theorem dX12_used_45 : decode cX12_used 45 = .ok (.invokevirtual 50, 3) := by decide +kernel
theorem dX12_used_48 : decode cX12_used 48 = .ok (.l2d, 1) := by decide +kernel
theorem dX12_used_49 : decode cX12_used 49 = .ok (.ddiv, 1) := by decide +kernel
theorem dX12_used_50 : decode cX12_used 50 = .ok (.dreturn, 1) := by decide +kernel
theorem dX12_ledger_0 : decode cX12_ledger 0 = .ok (.aload_n 0, 1) := by decide +kernel
theorem dX12_ledger_1 : decode cX12_ledger 1 = .ok (.aload_n 0, 1) := by decide +kernel
theorem dX12_ledger_2 : decode cX12_ledger 2 = .ok (.iload_n 1, 1) := by decide +kernel
theorem dX12_ledger_3 : decode cX12_ledger 3 = .ok (.invokevirtual 55, 3) := by decide +kernel
theorem dX12_ledger_6 : decode cX12_ledger 6 = .ok (.ifCond .eq 7, 3) := by decide +kernel
theorem dX12_ledger_9 : decode cX12_ledger 9 = .ok (.iconst 0, 1) := by decide +kernel
theorem dX12_ledger_10 : decode cX12_ledger 10 = .ok (.goto 4, 3) := by decide +kernel
theorem dX12_ledger_13 : decode cX12_ledger 13 = .ok (.iconst 1, 1) := by decide +kernel
theorem dX12_ledger_14 : decode cX12_ledger 14 = .ok (.invokevirtual 61, 3) := by decide +kernel
theorem dX12_ledger_17 : decode cX12_ledger 17 = .ok (.ifCond .eq 9, 3) := by decide +kernel
theorem dX12_ledger_20 : decode cX12_ledger 20 = .ok (.ldc2_w 81, 3) := by decide +kernel
theorem dX12_ledger_23 : decode cX12_ledger 23 = .ok (.goto 12, 3) := by decide +kernel
theorem dX12_ledger_26 : decode cX12_ledger 26 = .ok (.aload_n 0, 1) := by decide +kernel
theorem dX12_ledger_27 : decode cX12_ledger 27 = .ok (.getfield 7, 3) := by decide +kernel
theorem dX12_ledger_30 : decode cX12_ledger 30 = .ok (.bipush 80, 2) := by decide +kernel
theorem dX12_ledger_32 : decode cX12_ledger 32 = .ok (.iload_n 1, 1) := by decide +kernel
theorem dX12_ledger_33 : decode cX12_ledger 33 = .ok (.iadd, 1) := by decide +kernel
theorem dX12_ledger_34 : decode cX12_ledger 34 = .ok (.laload, 1) := by decide +kernel
theorem dX12_ledger_35 : decode cX12_ledger 35 = .ok (.lreturn, 1) := by decide +kernel
theorem dX12_messages_0 : decode cX12_messages 0 = .ok (.aload_n 0, 1) := by decide +kernel
theorem dX12_messages_1 : decode cX12_messages 1 = .ok (.aload_n 0, 1) := by decide +kernel
theorem dX12_messages_2 : decode cX12_messages 2 = .ok (.iload_n 1, 1) := by decide +kernel
theorem dX12_messages_3 : decode cX12_messages 3 = .ok (.invokevirtual 55, 3) := by decide +kernel
theorem dX12_messages_6 : decode cX12_messages 6 = .ok (.ifCond .eq 7, 3) := by decide +kernel
theorem dX12_messages_9 : decode cX12_messages 9 = .ok (.iconst 0, 1) := by decide +kernel
theorem dX12_messages_10 : decode cX12_messages 10 = .ok (.goto 4, 3) := by decide +kernel
theorem dX12_messages_13 : decode cX12_messages 13 = .ok (.iconst 1, 1) := by decide +kernel
theorem dX12_messages_14 : decode cX12_messages 14 = .ok (.invokevirtual 61, 3) := by decide +kernel
theorem dX12_messages_17 : decode cX12_messages 17 = .ok (.ifCond .eq 7, 3) := by decide +kernel
theorem dX12_messages_20 : decode cX12_messages 20 = .ok (.iconst (-1), 1) := by decide +kernel
theorem dX12_messages_21 : decode cX12_messages 21 = .ok (.goto 9, 3) := by decide +kernel
theorem dX12_messages_24 : decode cX12_messages 24 = .ok (.aload_n 0, 1) := by decide +kernel
theorem dX12_messages_25 : decode cX12_messages 25 = .ok (.getfield 16, 3) := by decide +kernel
theorem dX12_messages_28 : decode cX12_messages 28 = .ok (.iload_n 1, 1) := by decide +kernel
theorem dX12_messages_29 : decode cX12_messages 29 = .ok (.iaload, 1) := by decide +kernel
theorem dX12_messages_30 : decode cX12_messages 30 = .ok (.ireturn, 1) := by decide +kernel
theorem dX12_alleged_0 : decode cX12_alleged 0 = .ok (.iconst 0, 1) := by decide +kernel
theorem dX12_alleged_1 : decode cX12_alleged 1 = .ok (.istore_n 2, 1) := by decide +kernel
theorem dX12_alleged_2 : decode cX12_alleged 2 = .ok (.iconst 0, 1) := by decide +kernel
theorem dX12_alleged_3 : decode cX12_alleged 3 = .ok (.istore_n 3, 1) := by decide +kernel
theorem dX12_alleged_4 : decode cX12_alleged 4 = .ok (.iload_n 3, 1) := by decide +kernel
theorem dX12_alleged_5 : decode cX12_alleged 5 = .ok (.i2l, 1) := by decide +kernel
theorem dX12_alleged_6 : decode cX12_alleged 6 = .ok (.aload_n 0, 1) := by decide +kernel
theorem dX12_alleged_7 : decode cX12_alleged 7 = .ok (.getfield 7, 3) := by decide +kernel
theorem dX12_alleged_10 : decode cX12_alleged 10 = .ok (.sipush 1542, 3) := by decide +kernel
theorem dX12_alleged_13 : decode cX12_alleged 13 = .ok (.laload, 1) := by decide +kernel
theorem dX12_alleged_14 : decode cX12_alleged 14 = .ok (.lcmp, 1) := by decide +kernel
theorem dX12_alleged_15 : decode cX12_alleged 15 = .ok (.ifCond .ge 48, 3) := by decide +kernel
theorem dX12_alleged_18 : decode cX12_alleged 18 = .ok (.iload_n 2, 1) := by decide +kernel
theorem dX12_alleged_19 : decode cX12_alleged 19 = .ok (.aload_n 0, 1) := by decide +kernel
theorem dX12_alleged_20 : decode cX12_alleged 20 = .ok (.getfield 7, 3) := by decide +kernel
theorem dX12_alleged_23 : decode cX12_alleged 23 = .ok (.sipush 570, 3) := by decide +kernel
theorem dX12_alleged_26 : decode cX12_alleged 26 = .ok (.iload_n 3, 1) := by decide +kernel
theorem dX12_alleged_27 : decode cX12_alleged 27 = .ok (.iadd, 1) := by decide +kernel
theorem dX12_alleged_28 : decode cX12_alleged 28 = .ok (.laload, 1) := by decide +kernel
theorem dX12_alleged_29 : decode cX12_alleged 29 = .ok (.lconst 0, 1) := by decide +kernel
theorem dX12_alleged_30 : decode cX12_alleged 30 = .ok (.lcmp, 1) := by decide +kernel
theorem dX12_alleged_31 : decode cX12_alleged 31 = .ok (.ifCond .ne 23, 3) := by decide +kernel
theorem dX12_alleged_34 : decode cX12_alleged 34 = .ok (.aload_n 0, 1) := by decide +kernel
theorem dX12_alleged_35 : decode cX12_alleged 35 = .ok (.getfield 7, 3) := by decide +kernel
theorem dX12_alleged_38 : decode cX12_alleged 38 = .ok (.sipush 250, 3) := by decide +kernel
theorem dX12_alleged_41 : decode cX12_alleged 41 = .ok (.iload_n 3, 1) := by decide +kernel
theorem dX12_alleged_42 : decode cX12_alleged 42 = .ok (.iadd, 1) := by decide +kernel
theorem dX12_alleged_43 : decode cX12_alleged 43 = .ok (.laload, 1) := by decide +kernel
theorem dX12_alleged_44 : decode cX12_alleged 44 = .ok (.iload_n 1, 1) := by decide +kernel
theorem dX12_alleged_45 : decode cX12_alleged 45 = .ok (.i2l, 1) := by decide +kernel
theorem dX12_alleged_46 : decode cX12_alleged 46 = .ok (.lcmp, 1) := by decide +kernel
theorem dX12_alleged_47 : decode cX12_alleged 47 = .ok (.ifCond .ne 7, 3) := by decide +kernel
theorem dX12_alleged_50 : decode cX12_alleged 50 = .ok (.iconst 1, 1) := by decide +kernel
theorem dX12_alleged_51 : decode cX12_alleged 51 = .ok (.goto 4, 3) := by decide +kernel
theorem dX12_alleged_54 : decode cX12_alleged 54 = .ok (.iconst 0, 1) := by decide +kernel
theorem dX12_alleged_55 : decode cX12_alleged 55 = .ok (.iadd, 1) := by decide +kernel
theorem dX12_alleged_56 : decode cX12_alleged 56 = .ok (.istore_n 2, 1) := by decide +kernel
theorem dX12_alleged_57 : decode cX12_alleged 57 = .ok (.iinc 3 1, 3) := by decide +kernel
theorem dX12_alleged_60 : decode cX12_alleged 60 = .ok (.goto (-56), 3) := by decide +kernel
theorem dX12_alleged_63 : decode cX12_alleged 63 = .ok (.aload_n 0, 1) := by decide +kernel
theorem dX12_alleged_64 : decode cX12_alleged 64 = .ok (.aload_n 0, 1) := by decide +kernel
theorem dX12_alleged_65 : decode cX12_alleged 65 = .ok (.iload_n 1, 1) := by decide +kernel
theorem dX12_alleged_66 : decode cX12_alleged 66 = .ok (.invokevirtual 55, 3) := by decide +kernel
theorem dX12_alleged_69 : decode cX12_alleged 69 = .ok (.ifCond .eq 7, 3) := by decide +kernel
theorem dX12_alleged_72 : decode cX12_alleged 72 = .ok (.iconst 0, 1) := by decide +kernel
theorem dX12_alleged_73 : decode cX12_alleged 73 = .ok (.goto 4, 3) := by decide +kernel
theorem dX12_alleged_76 : decode cX12_alleged 76 = .ok (.iconst 1, 1) := by decide +kernel
theorem dX12_alleged_77 : decode cX12_alleged 77 = .ok (.invokevirtual 61, 3) := by decide +kernel
theorem dX12_alleged_80 : decode cX12_alleged 80 = .ok (.ifCond .eq 7, 3) := by decide +kernel
theorem dX12_alleged_83 : decode cX12_alleged 83 = .ok (.iconst (-1), 1) := by decide +kernel
theorem dX12_alleged_84 : decode cX12_alleged 84 = .ok (.goto 4, 3) := by decide +kernel
theorem dX12_alleged_87 : decode cX12_alleged 87 = .ok (.iload_n 2, 1) := by decide +kernel
theorem dX12_alleged_88 : decode cX12_alleged 88 = .ok (.ireturn, 1) := by decide +kernel
theorem dX12_status_0 : decode cX12_status 0 = .ok (.aload_n 0, 1) := by decide +kernel
theorem dX12_status_1 : decode cX12_status 1 = .ok (.aload_n 0, 1) := by decide +kernel
theorem dX12_status_2 : decode cX12_status 2 = .ok (.iload_n 1, 1) := by decide +kernel
theorem dX12_status_3 : decode cX12_status 3 = .ok (.invokevirtual 119, 3) := by decide +kernel
theorem dX12_status_6 : decode cX12_status 6 = .ok (.ifCond .eq 7, 3) := by decide +kernel
theorem dX12_status_9 : decode cX12_status 9 = .ok (.iconst 0, 1) := by decide +kernel
theorem dX12_status_10 : decode cX12_status 10 = .ok (.goto 4, 3) := by decide +kernel
theorem dX12_status_13 : decode cX12_status 13 = .ok (.iconst 1, 1) := by decide +kernel
theorem dX12_status_14 : decode cX12_status 14 = .ok (.invokevirtual 61, 3) := by decide +kernel
theorem dX12_status_17 : decode cX12_status 17 = .ok (.ifCond .eq 7, 3) := by decide +kernel
theorem dX12_status_20 : decode cX12_status 20 = .ok (.iconst (-1), 1) := by decide +kernel
theorem dX12_status_21 : decode cX12_status 21 = .ok (.goto 14, 3) := by decide +kernel
theorem dX12_status_24 : decode cX12_status 24 = .ok (.aload_n 0, 1) := by decide +kernel
theorem dX12_status_25 : decode cX12_status 25 = .ok (.getfield 7, 3) := by decide +kernel
theorem dX12_status_28 : decode cX12_status 28 = .ok (.sipush 570, 3) := by decide +kernel
theorem dX12_status_31 : decode cX12_status 31 = .ok (.iload_n 1, 1) := by decide +kernel
theorem dX12_status_32 : decode cX12_status 32 = .ok (.iadd, 1) := by decide +kernel
theorem dX12_status_33 : decode cX12_status 33 = .ok (.laload, 1) := by decide +kernel
theorem dX12_status_34 : decode cX12_status 34 = .ok (.l2i, 1) := by decide +kernel
theorem dX12_status_35 : decode cX12_status 35 = .ok (.ireturn, 1) := by decide +kernel
theorem dX12_tradeOf_0 : decode cX12_tradeOf 0 = .ok (.aload_n 0, 1) := by decide +kernel
theorem dX12_tradeOf_1 : decode cX12_tradeOf 1 = .ok (.aload_n 0, 1) := by decide +kernel
theorem dX12_tradeOf_2 : decode cX12_tradeOf 2 = .ok (.iload_n 1, 1) := by decide +kernel
theorem dX12_tradeOf_3 : decode cX12_tradeOf 3 = .ok (.invokevirtual 119, 3) := by decide +kernel
theorem dX12_tradeOf_6 : decode cX12_tradeOf 6 = .ok (.ifCond .eq 7, 3) := by decide +kernel
theorem dX12_tradeOf_9 : decode cX12_tradeOf 9 = .ok (.iconst 0, 1) := by decide +kernel
theorem dX12_tradeOf_10 : decode cX12_tradeOf 10 = .ok (.goto 4, 3) := by decide +kernel
theorem dX12_tradeOf_13 : decode cX12_tradeOf 13 = .ok (.iconst 1, 1) := by decide +kernel
theorem dX12_tradeOf_14 : decode cX12_tradeOf 14 = .ok (.invokevirtual 61, 3) := by decide +kernel
theorem dX12_tradeOf_17 : decode cX12_tradeOf 17 = .ok (.ifCond .eq 7, 3) := by decide +kernel
theorem dX12_tradeOf_20 : decode cX12_tradeOf 20 = .ok (.iconst (-1), 1) := by decide +kernel
theorem dX12_tradeOf_21 : decode cX12_tradeOf 21 = .ok (.goto 14, 3) := by decide +kernel
theorem dX12_tradeOf_24 : decode cX12_tradeOf 24 = .ok (.aload_n 0, 1) := by decide +kernel
theorem dX12_tradeOf_25 : decode cX12_tradeOf 25 = .ok (.getfield 7, 3) := by decide +kernel
theorem dX12_tradeOf_28 : decode cX12_tradeOf 28 = .ok (.sipush 650, 3) := by decide +kernel
theorem dX12_tradeOf_31 : decode cX12_tradeOf 31 = .ok (.iload_n 1, 1) := by decide +kernel
theorem dX12_tradeOf_32 : decode cX12_tradeOf 32 = .ok (.iadd, 1) := by decide +kernel
theorem dX12_tradeOf_33 : decode cX12_tradeOf 33 = .ok (.laload, 1) := by decide +kernel
theorem dX12_tradeOf_34 : decode cX12_tradeOf 34 = .ok (.l2i, 1) := by decide +kernel
theorem dX12_tradeOf_35 : decode cX12_tradeOf 35 = .ok (.ireturn, 1) := by decide +kernel
theorem dX12_tradeUnits_0 : decode cX12_tradeUnits 0 = .ok (.aload_n 0, 1) := by decide +kernel
theorem dX12_tradeUnits_1 : decode cX12_tradeUnits 1 = .ok (.aload_n 0, 1) := by decide +kernel
theorem dX12_tradeUnits_2 : decode cX12_tradeUnits 2 = .ok (.iload_n 1, 1) := by decide +kernel
theorem dX12_tradeUnits_3 : decode cX12_tradeUnits 3 = .ok (.invokevirtual 126, 3) := by decide +kernel
theorem dX12_tradeUnits_6 : decode cX12_tradeUnits 6 = .ok (.ifCond .eq 7, 3) := by decide +kernel
theorem dX12_tradeUnits_9 : decode cX12_tradeUnits 9 = .ok (.iconst 0, 1) := by decide +kernel
theorem dX12_tradeUnits_10 : decode cX12_tradeUnits 10 = .ok (.goto 4, 3) := by decide +kernel
theorem dX12_tradeUnits_13 : decode cX12_tradeUnits 13 = .ok (.iconst 1, 1) := by decide +kernel
theorem dX12_tradeUnits_14 : decode cX12_tradeUnits 14 = .ok (.invokevirtual 61, 3) := by decide +kernel
theorem dX12_tradeUnits_17 : decode cX12_tradeUnits 17 = .ok (.ifCond .eq 9, 3) := by decide +kernel
theorem dX12_tradeUnits_20 : decode cX12_tradeUnits 20 = .ok (.ldc2_w 81, 3) := by decide +kernel
theorem dX12_tradeUnits_23 : decode cX12_tradeUnits 23 = .ok (.goto 13, 3) := by decide +kernel
theorem dX12_tradeUnits_26 : decode cX12_tradeUnits 26 = .ok (.aload_n 0, 1) := by decide +kernel
theorem dX12_tradeUnits_27 : decode cX12_tradeUnits 27 = .ok (.getfield 7, 3) := by decide +kernel
theorem dX12_tradeUnits_30 : decode cX12_tradeUnits 30 = .ok (.sipush 770, 3) := by decide +kernel
theorem dX12_tradeUnits_33 : decode cX12_tradeUnits 33 = .ok (.iload_n 1, 1) := by decide +kernel
theorem dX12_tradeUnits_34 : decode cX12_tradeUnits 34 = .ok (.iadd, 1) := by decide +kernel
theorem dX12_tradeUnits_35 : decode cX12_tradeUnits 35 = .ok (.laload, 1) := by decide +kernel
theorem dX12_tradeUnits_36 : decode cX12_tradeUnits 36 = .ok (.lreturn, 1) := by decide +kernel
theorem dX12_tradeAmount_0 : decode cX12_tradeAmount 0 = .ok (.aload_n 0, 1) := by decide +kernel
theorem dX12_tradeAmount_1 : decode cX12_tradeAmount 1 = .ok (.aload_n 0, 1) := by decide +kernel
theorem dX12_tradeAmount_2 : decode cX12_tradeAmount 2 = .ok (.iload_n 1, 1) := by decide +kernel
theorem dX12_tradeAmount_3 : decode cX12_tradeAmount 3 = .ok (.invokevirtual 126, 3) := by decide +kernel
theorem dX12_tradeAmount_6 : decode cX12_tradeAmount 6 = .ok (.ifCond .eq 7, 3) := by decide +kernel
theorem dX12_tradeAmount_9 : decode cX12_tradeAmount 9 = .ok (.iconst 0, 1) := by decide +kernel
theorem dX12_tradeAmount_10 : decode cX12_tradeAmount 10 = .ok (.goto 4, 3) := by decide +kernel
theorem dX12_tradeAmount_13 : decode cX12_tradeAmount 13 = .ok (.iconst 1, 1) := by decide +kernel
theorem dX12_tradeAmount_14 : decode cX12_tradeAmount 14 = .ok (.invokevirtual 61, 3) := by decide +kernel
theorem dX12_tradeAmount_17 : decode cX12_tradeAmount 17 = .ok (.ifCond .eq 9, 3) := by decide +kernel
theorem dX12_tradeAmount_20 : decode cX12_tradeAmount 20 = .ok (.ldc2_w 81, 3) := by decide +kernel
theorem dX12_tradeAmount_23 : decode cX12_tradeAmount 23 = .ok (.goto 13, 3) := by decide +kernel
theorem dX12_tradeAmount_26 : decode cX12_tradeAmount 26 = .ok (.aload_n 0, 1) := by decide +kernel
theorem dX12_tradeAmount_27 : decode cX12_tradeAmount 27 = .ok (.getfield 7, 3) := by decide +kernel
theorem dX12_tradeAmount_30 : decode cX12_tradeAmount 30 = .ok (.sipush 790, 3) := by decide +kernel
theorem dX12_tradeAmount_33 : decode cX12_tradeAmount 33 = .ok (.iload_n 1, 1) := by decide +kernel
theorem dX12_tradeAmount_34 : decode cX12_tradeAmount 34 = .ok (.iadd, 1) := by decide +kernel
theorem dX12_tradeAmount_35 : decode cX12_tradeAmount 35 = .ok (.laload, 1) := by decide +kernel
theorem dX12_tradeAmount_36 : decode cX12_tradeAmount 36 = .ok (.lreturn, 1) := by decide +kernel
theorem dX12_age_0 : decode cX12_age 0 = .ok (.aload_n 0, 1) := by decide +kernel
theorem dX12_age_1 : decode cX12_age 1 = .ok (.aload_n 0, 1) := by decide +kernel
theorem dX12_age_2 : decode cX12_age 2 = .ok (.iload_n 1, 1) := by decide +kernel
theorem dX12_age_3 : decode cX12_age 3 = .ok (.invokevirtual 126, 3) := by decide +kernel
theorem dX12_age_6 : decode cX12_age 6 = .ok (.ifCond .eq 7, 3) := by decide +kernel
theorem dX12_age_9 : decode cX12_age 9 = .ok (.iconst 0, 1) := by decide +kernel
theorem dX12_age_10 : decode cX12_age 10 = .ok (.goto 4, 3) := by decide +kernel
theorem dX12_age_13 : decode cX12_age 13 = .ok (.iconst 1, 1) := by decide +kernel
theorem dX12_age_14 : decode cX12_age 14 = .ok (.invokevirtual 61, 3) := by decide +kernel
theorem dX12_age_17 : decode cX12_age 17 = .ok (.ifCond .eq 7, 3) := by decide +kernel
theorem dX12_age_20 : decode cX12_age 20 = .ok (.iconst (-1), 1) := by decide +kernel
theorem dX12_age_21 : decode cX12_age 21 = .ok (.goto 14, 3) := by decide +kernel
theorem dX12_age_24 : decode cX12_age 24 = .ok (.aload_n 0, 1) := by decide +kernel
theorem dX12_age_25 : decode cX12_age 25 = .ok (.getfield 7, 3) := by decide +kernel
theorem dX12_age_28 : decode cX12_age 28 = .ok (.sipush 850, 3) := by decide +kernel
theorem dX12_age_31 : decode cX12_age 31 = .ok (.iload_n 1, 1) := by decide +kernel
theorem dX12_age_32 : decode cX12_age 32 = .ok (.iadd, 1) := by decide +kernel
theorem dX12_age_33 : decode cX12_age 33 = .ok (.laload, 1) := by decide +kernel
theorem dX12_age_34 : decode cX12_age 34 = .ok (.l2i, 1) := by decide +kernel
theorem dX12_age_35 : decode cX12_age 35 = .ok (.ireturn, 1) := by decide +kernel
theorem dX12_causer_0 : decode cX12_causer 0 = .ok (.aload_n 0, 1) := by decide +kernel
theorem dX12_causer_1 : decode cX12_causer 1 = .ok (.aload_n 0, 1) := by decide +kernel
theorem dX12_causer_2 : decode cX12_causer 2 = .ok (.iload_n 1, 1) := by decide +kernel
theorem dX12_causer_3 : decode cX12_causer 3 = .ok (.invokevirtual 126, 3) := by decide +kernel
theorem dX12_causer_6 : decode cX12_causer 6 = .ok (.ifCond .ne 7, 3) := by decide +kernel
theorem dX12_causer_9 : decode cX12_causer 9 = .ok (.iconst 1, 1) := by decide +kernel
theorem dX12_causer_10 : decode cX12_causer 10 = .ok (.goto 16, 3) := by decide +kernel
theorem dX12_causer_13 : decode cX12_causer 13 = .ok (.aload_n 0, 1) := by decide +kernel
theorem dX12_causer_14 : decode cX12_causer 14 = .ok (.iload_n 1, 1) := by decide +kernel
theorem dX12_causer_15 : decode cX12_causer 15 = .ok (.invokevirtual 132, 3) := by decide +kernel
theorem dX12_causer_18 : decode cX12_causer 18 = .ok (.ifCond .eq 7, 3) := by decide +kernel
theorem dX12_causer_21 : decode cX12_causer 21 = .ok (.iconst 0, 1) := by decide +kernel
theorem dX12_causer_22 : decode cX12_causer 22 = .ok (.goto 4, 3) := by decide +kernel
theorem dX12_causer_25 : decode cX12_causer 25 = .ok (.iconst 2, 1) := by decide +kernel
theorem dX12_causer_26 : decode cX12_causer 26 = .ok (.invokevirtual 61, 3) := by decide +kernel
theorem dX12_causer_29 : decode cX12_causer 29 = .ok (.ifCond .eq 7, 3) := by decide +kernel
theorem dX12_causer_32 : decode cX12_causer 32 = .ok (.iconst (-1), 1) := by decide +kernel
theorem dX12_causer_33 : decode cX12_causer 33 = .ok (.goto 8, 3) := by decide +kernel
theorem dX12_causer_36 : decode cX12_causer 36 = .ok (.aload_n 0, 1) := by decide +kernel
theorem dX12_causer_37 : decode cX12_causer 37 = .ok (.iload_n 1, 1) := by decide +kernel
theorem dX12_causer_38 : decode cX12_causer 38 = .ok (.invokevirtual 212, 3) := by decide +kernel
theorem dX12_causer_41 : decode cX12_causer 41 = .ok (.ireturn, 1) := by decide +kernel
theorem dX12_loans_0 : decode cX12_loans 0 = .ok (.aload_n 0, 1) := by decide +kernel
theorem dX12_loans_1 : decode cX12_loans 1 = .ok (.iconst 0, 1) := by decide +kernel
theorem dX12_loans_2 : decode cX12_loans 2 = .ok (.invokevirtual 61, 3) := by decide +kernel
theorem dX12_loans_5 : decode cX12_loans 5 = .ok (.pop, 1) := by decide +kernel
theorem dX12_loans_6 : decode cX12_loans 6 = .ok (.aload_n 0, 1) := by decide +kernel
theorem dX12_loans_7 : decode cX12_loans 7 = .ok (.getfield 7, 3) := by decide +kernel
theorem dX12_loans_10 : decode cX12_loans 10 = .ok (.sipush 1545, 3) := by decide +kernel
theorem dX12_loans_13 : decode cX12_loans 13 = .ok (.laload, 1) := by decide +kernel
theorem dX12_loans_14 : decode cX12_loans 14 = .ok (.l2i, 1) := by decide +kernel
theorem dX12_loans_15 : decode cX12_loans 15 = .ok (.ireturn, 1) := by decide +kernel
theorem dX12_loan_0 : decode cX12_loan 0 = .ok (.aload_n 0, 1) := by decide +kernel
theorem dX12_loan_1 : decode cX12_loan 1 = .ok (.aload_n 0, 1) := by decide +kernel
theorem dX12_loan_2 : decode cX12_loan 2 = .ok (.iload_n 1, 1) := by decide +kernel
theorem dX12_loan_3 : decode cX12_loan 3 = .ok (.invokevirtual 245, 3) := by decide +kernel
theorem dX12_loan_6 : decode cX12_loan 6 = .ok (.ifCond .eq 7, 3) := by decide +kernel
theorem dX12_loan_9 : decode cX12_loan 9 = .ok (.iconst 0, 1) := by decide +kernel
theorem dX12_loan_10 : decode cX12_loan 10 = .ok (.goto 4, 3) := by decide +kernel
theorem dX12_loan_13 : decode cX12_loan 13 = .ok (.iconst 1, 1) := by decide +kernel
theorem dX12_loan_14 : decode cX12_loan 14 = .ok (.invokevirtual 61, 3) := by decide +kernel
theorem dX12_loan_17 : decode cX12_loan 17 = .ok (.ifCond .eq 9, 3) := by decide +kernel
theorem dX12_loan_20 : decode cX12_loan 20 = .ok (.ldc2_w 81, 3) := by decide +kernel
theorem dX12_loan_23 : decode cX12_loan 23 = .ok (.goto 13, 3) := by decide +kernel
theorem dX12_loan_26 : decode cX12_loan 26 = .ok (.aload_n 0, 1) := by decide +kernel
theorem dX12_loan_27 : decode cX12_loan 27 = .ok (.getfield 7, 3) := by decide +kernel
theorem dX12_loan_30 : decode cX12_loan 30 = .ok (.sipush 990, 3) := by decide +kernel
theorem dX12_loan_33 : decode cX12_loan 33 = .ok (.iload_n 1, 1) := by decide +kernel
theorem dX12_loan_34 : decode cX12_loan 34 = .ok (.iadd, 1) := by decide +kernel
theorem dX12_loan_35 : decode cX12_loan 35 = .ok (.laload, 1) := by decide +kernel
theorem dX12_loan_36 : decode cX12_loan 36 = .ok (.lreturn, 1) := by decide +kernel
theorem dL_open_0 : decode cL_open 0 = .ok (.aload 6, 2) := by decide +kernel
theorem dL_open_2 : decode cL_open 2 = .ok (.iconst 0, 1) := by decide +kernel
theorem dL_open_3 : decode cL_open 3 = .ok (.aload_n 0, 1) := by decide +kernel
theorem dL_open_4 : decode cL_open 4 = .ok (.iload_n 1, 1) := by decide +kernel
theorem dL_open_5 : decode cL_open 5 = .ok (.iload_n 2, 1) := by decide +kernel
theorem dL_open_6 : decode cL_open 6 = .ok (.iload_n 3, 1) := by decide +kernel
theorem dL_open_7 : decode cL_open 7 = .ok (.iload 4, 2) := by decide +kernel
theorem dL_open_9 : decode cL_open 9 = .ok (.iload 5, 2) := by decide +kernel
theorem dL_open_11 : decode cL_open 11 = .ok (.invokevirtual 7, 3) := by decide +kernel
theorem dL_open_14 : decode cL_open 14 = .ok (.i2l, 1) := by decide +kernel
theorem dL_open_15 : decode cL_open 15 = .ok (.lastore, 1) := by decide +kernel
theorem dL_open_16 : decode cL_open 16 = .ok (.goto 15, 3) := by decide +kernel
theorem dL_open_19 : decode cL_open 19 = .ok (.astore 7, 2) := by decide +kernel
theorem dL_open_21 : decode cL_open 21 = .ok (.iconst 1, 1) := by decide +kernel
theorem dL_open_22 : decode cL_open 22 = .ok (.ireturn, 1) := by decide +kernel
theorem dL_open_23 : decode cL_open 23 = .ok (.astore 7, 2) := by decide +kernel
theorem dL_open_25 : decode cL_open 25 = .ok (.iconst 2, 1) := by decide +kernel
theorem dL_open_26 : decode cL_open 26 = .ok (.ireturn, 1) := by decide +kernel
theorem dL_open_27 : decode cL_open 27 = .ok (.astore 7, 2) := by decide +kernel
theorem dL_open_29 : decode cL_open 29 = .ok (.iconst 3, 1) := by decide +kernel
theorem dL_open_30 : decode cL_open 30 = .ok (.ireturn, 1) := by decide +kernel
theorem dL_open_31 : decode cL_open 31 = .ok (.iconst 0, 1) := by decide +kernel
theorem dL_open_32 : decode cL_open 32 = .ok (.ireturn, 1) := by decide +kernel
theorem dL_lend_0 : decode cL_lend 0 = .ok (.aload_n 2, 1) := by decide +kernel
theorem dL_lend_1 : decode cL_lend 1 = .ok (.iconst 0, 1) := by decide +kernel
theorem dL_lend_2 : decode cL_lend 2 = .ok (.aload_n 0, 1) := by decide +kernel
theorem dL_lend_3 : decode cL_lend 3 = .ok (.iload_n 1, 1) := by decide +kernel
theorem dL_lend_4 : decode cL_lend 4 = .ok (.invokevirtual 19, 3) := by decide +kernel
theorem dL_lend_7 : decode cL_lend 7 = .ok (.ifCond .eq 7, 3) := by decide +kernel
theorem dL_lend_10 : decode cL_lend 10 = .ok (.lconst 1, 1) := by decide +kernel
theorem dL_lend_11 : decode cL_lend 11 = .ok (.goto 4, 3) := by decide +kernel
theorem dL_lend_14 : decode cL_lend 14 = .ok (.lconst 0, 1) := by decide +kernel
theorem dL_lend_15 : decode cL_lend 15 = .ok (.lastore, 1) := by decide +kernel
theorem dL_lend_16 : decode cL_lend 16 = .ok (.goto 6, 3) := by decide +kernel
theorem dL_lend_19 : decode cL_lend 19 = .ok (.astore_n 3, 1) := by decide +kernel
theorem dL_lend_20 : decode cL_lend 20 = .ok (.iconst 1, 1) := by decide +kernel
theorem dL_lend_21 : decode cL_lend 21 = .ok (.ireturn, 1) := by decide +kernel
theorem dL_lend_22 : decode cL_lend 22 = .ok (.iconst 0, 1) := by decide +kernel
theorem dL_lend_23 : decode cL_lend 23 = .ok (.ireturn, 1) := by decide +kernel
theorem dL_relieve_0 : decode cL_relieve 0 = .ok (.aload_n 2, 1) := by decide +kernel
theorem dL_relieve_1 : decode cL_relieve 1 = .ok (.iconst 0, 1) := by decide +kernel
theorem dL_relieve_2 : decode cL_relieve 2 = .ok (.aload_n 0, 1) := by decide +kernel
theorem dL_relieve_3 : decode cL_relieve 3 = .ok (.iload_n 1, 1) := by decide +kernel
theorem dL_relieve_4 : decode cL_relieve 4 = .ok (.invokevirtual 23, 3) := by decide +kernel
theorem dL_relieve_7 : decode cL_relieve 7 = .ok (.ifCond .eq 7, 3) := by decide +kernel
theorem dL_relieve_10 : decode cL_relieve 10 = .ok (.lconst 1, 1) := by decide +kernel
theorem dL_relieve_11 : decode cL_relieve 11 = .ok (.goto 4, 3) := by decide +kernel
theorem dL_relieve_14 : decode cL_relieve 14 = .ok (.lconst 0, 1) := by decide +kernel
theorem dL_relieve_15 : decode cL_relieve 15 = .ok (.lastore, 1) := by decide +kernel
theorem dL_relieve_16 : decode cL_relieve 16 = .ok (.goto 6, 3) := by decide +kernel
theorem dL_relieve_19 : decode cL_relieve 19 = .ok (.astore_n 3, 1) := by decide +kernel
theorem dL_relieve_20 : decode cL_relieve 20 = .ok (.iconst 1, 1) := by decide +kernel
theorem dL_relieve_21 : decode cL_relieve 21 = .ok (.ireturn, 1) := by decide +kernel
theorem dL_relieve_22 : decode cL_relieve 22 = .ok (.iconst 0, 1) := by decide +kernel
theorem dL_relieve_23 : decode cL_relieve 23 = .ok (.ireturn, 1) := by decide +kernel
theorem dL_treaty_0 : decode cL_treaty 0 = .ok (.aload 4, 2) := by decide +kernel
theorem dL_treaty_2 : decode cL_treaty 2 = .ok (.iconst 0, 1) := by decide +kernel
theorem dL_treaty_3 : decode cL_treaty 3 = .ok (.aload_n 0, 1) := by decide +kernel
theorem dL_treaty_4 : decode cL_treaty 4 = .ok (.iload_n 1, 1) := by decide +kernel
theorem dL_treaty_5 : decode cL_treaty 5 = .ok (.iload_n 2, 1) := by decide +kernel
theorem dL_treaty_6 : decode cL_treaty 6 = .ok (.iload_n 3, 1) := by decide +kernel
theorem dL_treaty_7 : decode cL_treaty 7 = .ok (.invokevirtual 26, 3) := by decide +kernel
theorem dL_treaty_10 : decode cL_treaty 10 = .ok (.i2l, 1) := by decide +kernel
theorem dL_treaty_11 : decode cL_treaty 11 = .ok (.lastore, 1) := by decide +kernel
theorem dL_treaty_12 : decode cL_treaty 12 = .ok (.goto 7, 3) := by decide +kernel
theorem dL_treaty_15 : decode cL_treaty 15 = .ok (.astore 5, 2) := by decide +kernel
theorem dL_treaty_17 : decode cL_treaty 17 = .ok (.iconst 1, 1) := by decide +kernel
theorem dL_treaty_18 : decode cL_treaty 18 = .ok (.ireturn, 1) := by decide +kernel
theorem dL_treaty_19 : decode cL_treaty 19 = .ok (.iconst 0, 1) := by decide +kernel
theorem dL_treaty_20 : decode cL_treaty 20 = .ok (.ireturn, 1) := by decide +kernel
theorem dL_issue_0 : decode cL_issue 0 = .ok (.aload 6, 2) := by decide +kernel
theorem dL_issue_2 : decode cL_issue 2 = .ok (.iconst 0, 1) := by decide +kernel
theorem dL_issue_3 : decode cL_issue 3 = .ok (.aload_n 0, 1) := by decide +kernel
theorem dL_issue_4 : decode cL_issue 4 = .ok (.iload_n 1, 1) := by decide +kernel
theorem dL_issue_5 : decode cL_issue 5 = .ok (.iload_n 2, 1) := by decide +kernel
theorem dL_issue_6 : decode cL_issue 6 = .ok (.iload_n 3, 1) := by decide +kernel
theorem dL_issue_7 : decode cL_issue 7 = .ok (.iload 4, 2) := by decide +kernel
theorem dL_issue_9 : decode cL_issue 9 = .ok (.iload 5, 2) := by decide +kernel
theorem dL_issue_11 : decode cL_issue 11 = .ok (.invokevirtual 30, 3) := by decide +kernel
theorem dL_issue_14 : decode cL_issue 14 = .ok (.i2l, 1) := by decide +kernel
theorem dL_issue_15 : decode cL_issue 15 = .ok (.lastore, 1) := by decide +kernel
theorem dL_issue_16 : decode cL_issue 16 = .ok (.goto 15, 3) := by decide +kernel
theorem dL_issue_19 : decode cL_issue 19 = .ok (.astore 7, 2) := by decide +kernel
theorem dL_issue_21 : decode cL_issue 21 = .ok (.iconst 1, 1) := by decide +kernel
theorem dL_issue_22 : decode cL_issue 22 = .ok (.ireturn, 1) := by decide +kernel
theorem dL_issue_23 : decode cL_issue 23 = .ok (.astore 7, 2) := by decide +kernel
theorem dL_issue_25 : decode cL_issue 25 = .ok (.iconst 2, 1) := by decide +kernel
theorem dL_issue_26 : decode cL_issue 26 = .ok (.ireturn, 1) := by decide +kernel
theorem dL_issue_27 : decode cL_issue 27 = .ok (.astore 7, 2) := by decide +kernel
theorem dL_issue_29 : decode cL_issue 29 = .ok (.iconst 3, 1) := by decide +kernel
theorem dL_issue_30 : decode cL_issue 30 = .ok (.ireturn, 1) := by decide +kernel
theorem dL_issue_31 : decode cL_issue 31 = .ok (.iconst 0, 1) := by decide +kernel
theorem dL_issue_32 : decode cL_issue 32 = .ok (.ireturn, 1) := by decide +kernel
theorem dL_setPrice_0 : decode cL_setPrice 0 = .ok (.aload_n 3, 1) := by decide +kernel
theorem dL_setPrice_1 : decode cL_setPrice 1 = .ok (.iconst 0, 1) := by decide +kernel
theorem dL_setPrice_2 : decode cL_setPrice 2 = .ok (.aload_n 0, 1) := by decide +kernel
theorem dL_setPrice_3 : decode cL_setPrice 3 = .ok (.iload_n 1, 1) := by decide +kernel
theorem dL_setPrice_4 : decode cL_setPrice 4 = .ok (.iload_n 2, 1) := by decide +kernel
theorem dL_setPrice_5 : decode cL_setPrice 5 = .ok (.invokevirtual 34, 3) := by decide +kernel
theorem dL_setPrice_8 : decode cL_setPrice 8 = .ok (.i2l, 1) := by decide +kernel
theorem dL_setPrice_9 : decode cL_setPrice 9 = .ok (.lastore, 1) := by decide +kernel
theorem dL_setPrice_10 : decode cL_setPrice 10 = .ok (.goto 11, 3) := by decide +kernel
theorem dL_setPrice_13 : decode cL_setPrice 13 = .ok (.astore 4, 2) := by decide +kernel
theorem dL_setPrice_15 : decode cL_setPrice 15 = .ok (.iconst 1, 1) := by decide +kernel
theorem dL_setPrice_16 : decode cL_setPrice 16 = .ok (.ireturn, 1) := by decide +kernel
theorem dL_setPrice_17 : decode cL_setPrice 17 = .ok (.astore 4, 2) := by decide +kernel
theorem dL_setPrice_19 : decode cL_setPrice 19 = .ok (.iconst 2, 1) := by decide +kernel
theorem dL_setPrice_20 : decode cL_setPrice 20 = .ok (.ireturn, 1) := by decide +kernel
theorem dL_setPrice_21 : decode cL_setPrice 21 = .ok (.iconst 0, 1) := by decide +kernel
theorem dL_setPrice_22 : decode cL_setPrice 22 = .ok (.ireturn, 1) := by decide +kernel
theorem dL_block_0 : decode cL_block 0 = .ok (.aload 4, 2) := by decide +kernel
theorem dL_block_2 : decode cL_block 2 = .ok (.iconst 0, 1) := by decide +kernel
theorem dL_block_3 : decode cL_block 3 = .ok (.aload_n 0, 1) := by decide +kernel
theorem dL_block_4 : decode cL_block 4 = .ok (.iload_n 1, 1) := by decide +kernel
theorem dL_block_5 : decode cL_block 5 = .ok (.iload_n 2, 1) := by decide +kernel
theorem dL_block_6 : decode cL_block 6 = .ok (.iload_n 3, 1) := by decide +kernel
theorem dL_block_7 : decode cL_block 7 = .ok (.invokevirtual 38, 3) := by decide +kernel
theorem dL_block_10 : decode cL_block 10 = .ok (.lastore, 1) := by decide +kernel
theorem dL_block_11 : decode cL_block 11 = .ok (.goto 15, 3) := by decide +kernel
theorem dL_block_14 : decode cL_block 14 = .ok (.astore 5, 2) := by decide +kernel
theorem dL_block_16 : decode cL_block 16 = .ok (.iconst 1, 1) := by decide +kernel
theorem dL_block_17 : decode cL_block 17 = .ok (.ireturn, 1) := by decide +kernel
theorem dL_block_18 : decode cL_block 18 = .ok (.astore 5, 2) := by decide +kernel
theorem dL_block_20 : decode cL_block 20 = .ok (.iconst 2, 1) := by decide +kernel
theorem dL_block_21 : decode cL_block 21 = .ok (.ireturn, 1) := by decide +kernel
theorem dL_block_22 : decode cL_block 22 = .ok (.astore 5, 2) := by decide +kernel
theorem dL_block_24 : decode cL_block 24 = .ok (.iconst 3, 1) := by decide +kernel
theorem dL_block_25 : decode cL_block 25 = .ok (.ireturn, 1) := by decide +kernel
theorem dL_block_26 : decode cL_block 26 = .ok (.iconst 0, 1) := by decide +kernel
theorem dL_block_27 : decode cL_block 27 = .ok (.ireturn, 1) := by decide +kernel
theorem dL_bring_0 : decode cL_bring 0 = .ok (.aload_n 3, 1) := by decide +kernel
theorem dL_bring_1 : decode cL_bring 1 = .ok (.iconst 0, 1) := by decide +kernel
theorem dL_bring_2 : decode cL_bring 2 = .ok (.aload_n 0, 1) := by decide +kernel
theorem dL_bring_3 : decode cL_bring 3 = .ok (.iload_n 1, 1) := by decide +kernel
theorem dL_bring_4 : decode cL_bring 4 = .ok (.iload_n 2, 1) := by decide +kernel
theorem dL_bring_5 : decode cL_bring 5 = .ok (.invokevirtual 42, 3) := by decide +kernel
theorem dL_bring_8 : decode cL_bring 8 = .ok (.lastore, 1) := by decide +kernel
theorem dL_bring_9 : decode cL_bring 9 = .ok (.goto 15, 3) := by decide +kernel
theorem dL_bring_12 : decode cL_bring 12 = .ok (.astore 4, 2) := by decide +kernel
theorem dL_bring_14 : decode cL_bring 14 = .ok (.iconst 1, 1) := by decide +kernel
theorem dL_bring_15 : decode cL_bring 15 = .ok (.ireturn, 1) := by decide +kernel
theorem dL_bring_16 : decode cL_bring 16 = .ok (.astore 4, 2) := by decide +kernel
theorem dL_bring_18 : decode cL_bring 18 = .ok (.iconst 2, 1) := by decide +kernel
theorem dL_bring_19 : decode cL_bring 19 = .ok (.ireturn, 1) := by decide +kernel
theorem dL_bring_20 : decode cL_bring 20 = .ok (.astore 4, 2) := by decide +kernel
theorem dL_bring_22 : decode cL_bring 22 = .ok (.iconst 3, 1) := by decide +kernel
theorem dL_bring_23 : decode cL_bring 23 = .ok (.ireturn, 1) := by decide +kernel
theorem dL_bring_24 : decode cL_bring 24 = .ok (.iconst 0, 1) := by decide +kernel
theorem dL_bring_25 : decode cL_bring 25 = .ok (.ireturn, 1) := by decide +kernel
theorem dL_instruct_0 : decode cL_instruct 0 = .ok (.aload 10, 2) := by decide +kernel
theorem dL_instruct_2 : decode cL_instruct 2 = .ok (.iconst 0, 1) := by decide +kernel
theorem dL_instruct_3 : decode cL_instruct 3 = .ok (.aload_n 0, 1) := by decide +kernel
theorem dL_instruct_4 : decode cL_instruct 4 = .ok (.iload_n 1, 1) := by decide +kernel
theorem dL_instruct_5 : decode cL_instruct 5 = .ok (.iload_n 2, 1) := by decide +kernel
theorem dL_instruct_6 : decode cL_instruct 6 = .ok (.iload_n 3, 1) := by decide +kernel
theorem dL_instruct_7 : decode cL_instruct 7 = .ok (.iload 4, 2) := by decide +kernel
theorem dL_instruct_9 : decode cL_instruct 9 = .ok (.iload 5, 2) := by decide +kernel
theorem dL_instruct_11 : decode cL_instruct 11 = .ok (.iload 6, 2) := by decide +kernel
theorem dL_instruct_13 : decode cL_instruct 13 = .ok (.iload 7, 2) := by decide +kernel
theorem dL_instruct_15 : decode cL_instruct 15 = .ok (.iload 8, 2) := by decide +kernel
theorem dL_instruct_17 : decode cL_instruct 17 = .ok (.iload 9, 2) := by decide +kernel
theorem dL_instruct_19 : decode cL_instruct 19 = .ok (.invokevirtual 46, 3) := by decide +kernel
theorem dL_instruct_22 : decode cL_instruct 22 = .ok (.i2l, 1) := by decide +kernel
theorem dL_instruct_23 : decode cL_instruct 23 = .ok (.lastore, 1) := by decide +kernel
theorem dL_instruct_24 : decode cL_instruct 24 = .ok (.goto 15, 3) := by decide +kernel
theorem dL_instruct_27 : decode cL_instruct 27 = .ok (.astore 11, 2) := by decide +kernel
theorem dL_instruct_29 : decode cL_instruct 29 = .ok (.iconst 1, 1) := by decide +kernel
theorem dL_instruct_30 : decode cL_instruct 30 = .ok (.ireturn, 1) := by decide +kernel
theorem dL_instruct_31 : decode cL_instruct 31 = .ok (.astore 11, 2) := by decide +kernel
theorem dL_instruct_33 : decode cL_instruct 33 = .ok (.iconst 2, 1) := by decide +kernel
theorem dL_instruct_34 : decode cL_instruct 34 = .ok (.ireturn, 1) := by decide +kernel
theorem dL_instruct_35 : decode cL_instruct 35 = .ok (.astore 11, 2) := by decide +kernel
theorem dL_instruct_37 : decode cL_instruct 37 = .ok (.iconst 3, 1) := by decide +kernel
theorem dL_instruct_38 : decode cL_instruct 38 = .ok (.ireturn, 1) := by decide +kernel
theorem dL_instruct_39 : decode cL_instruct 39 = .ok (.iconst 0, 1) := by decide +kernel
theorem dL_instruct_40 : decode cL_instruct 40 = .ok (.ireturn, 1) := by decide +kernel
theorem dL_amend_0 : decode cL_amend 0 = .ok (.aload_n 3, 1) := by decide +kernel
theorem dL_amend_1 : decode cL_amend 1 = .ok (.iconst 0, 1) := by decide +kernel
theorem dL_amend_2 : decode cL_amend 2 = .ok (.aload_n 0, 1) := by decide +kernel
theorem dL_amend_3 : decode cL_amend 3 = .ok (.iload_n 1, 1) := by decide +kernel
theorem dL_amend_4 : decode cL_amend 4 = .ok (.iload_n 2, 1) := by decide +kernel
theorem dL_amend_5 : decode cL_amend 5 = .ok (.invokevirtual 50, 3) := by decide +kernel
theorem dL_amend_8 : decode cL_amend 8 = .ok (.i2l, 1) := by decide +kernel
theorem dL_amend_9 : decode cL_amend 9 = .ok (.lastore, 1) := by decide +kernel
theorem dL_amend_10 : decode cL_amend 10 = .ok (.goto 15, 3) := by decide +kernel
theorem dL_amend_13 : decode cL_amend 13 = .ok (.astore 4, 2) := by decide +kernel
theorem dL_amend_15 : decode cL_amend 15 = .ok (.iconst 1, 1) := by decide +kernel
theorem dL_amend_16 : decode cL_amend 16 = .ok (.ireturn, 1) := by decide +kernel
theorem dL_amend_17 : decode cL_amend 17 = .ok (.astore 4, 2) := by decide +kernel
theorem dL_amend_19 : decode cL_amend 19 = .ok (.iconst 2, 1) := by decide +kernel
theorem dL_amend_20 : decode cL_amend 20 = .ok (.ireturn, 1) := by decide +kernel
theorem dL_amend_21 : decode cL_amend 21 = .ok (.astore 4, 2) := by decide +kernel
theorem dL_amend_23 : decode cL_amend 23 = .ok (.iconst 3, 1) := by decide +kernel
theorem dL_amend_24 : decode cL_amend 24 = .ok (.ireturn, 1) := by decide +kernel
theorem dL_amend_25 : decode cL_amend 25 = .ok (.iconst 0, 1) := by decide +kernel
theorem dL_amend_26 : decode cL_amend 26 = .ok (.ireturn, 1) := by decide +kernel
theorem dL_cancel_0 : decode cL_cancel 0 = .ok (.aload_n 2, 1) := by decide +kernel
theorem dL_cancel_1 : decode cL_cancel 1 = .ok (.iconst 0, 1) := by decide +kernel
theorem dL_cancel_2 : decode cL_cancel 2 = .ok (.aload_n 0, 1) := by decide +kernel
theorem dL_cancel_3 : decode cL_cancel 3 = .ok (.iload_n 1, 1) := by decide +kernel
theorem dL_cancel_4 : decode cL_cancel 4 = .ok (.invokevirtual 53, 3) := by decide +kernel
theorem dL_cancel_7 : decode cL_cancel 7 = .ok (.ifCond .eq 7, 3) := by decide +kernel
theorem dL_cancel_10 : decode cL_cancel 10 = .ok (.lconst 1, 1) := by decide +kernel
theorem dL_cancel_11 : decode cL_cancel 11 = .ok (.goto 4, 3) := by decide +kernel
theorem dL_cancel_14 : decode cL_cancel 14 = .ok (.lconst 0, 1) := by decide +kernel
theorem dL_cancel_15 : decode cL_cancel 15 = .ok (.lastore, 1) := by decide +kernel
theorem dL_cancel_16 : decode cL_cancel 16 = .ok (.goto 9, 3) := by decide +kernel
theorem dL_cancel_19 : decode cL_cancel 19 = .ok (.astore_n 3, 1) := by decide +kernel
theorem dL_cancel_20 : decode cL_cancel 20 = .ok (.iconst 1, 1) := by decide +kernel
theorem dL_cancel_21 : decode cL_cancel 21 = .ok (.ireturn, 1) := by decide +kernel
theorem dL_cancel_22 : decode cL_cancel 22 = .ok (.astore_n 3, 1) := by decide +kernel
theorem dL_cancel_23 : decode cL_cancel 23 = .ok (.iconst 2, 1) := by decide +kernel
theorem dL_cancel_24 : decode cL_cancel 24 = .ok (.ireturn, 1) := by decide +kernel
theorem dL_cancel_25 : decode cL_cancel 25 = .ok (.iconst 0, 1) := by decide +kernel
theorem dL_cancel_26 : decode cL_cancel 26 = .ok (.ireturn, 1) := by decide +kernel
theorem dL_hold_0 : decode cL_hold 0 = .ok (.aload_n 2, 1) := by decide +kernel
theorem dL_hold_1 : decode cL_hold 1 = .ok (.iconst 0, 1) := by decide +kernel
theorem dL_hold_2 : decode cL_hold 2 = .ok (.aload_n 0, 1) := by decide +kernel
theorem dL_hold_3 : decode cL_hold 3 = .ok (.iload_n 1, 1) := by decide +kernel
theorem dL_hold_4 : decode cL_hold 4 = .ok (.invokevirtual 56, 3) := by decide +kernel
theorem dL_hold_7 : decode cL_hold 7 = .ok (.ifCond .eq 7, 3) := by decide +kernel
theorem dL_hold_10 : decode cL_hold 10 = .ok (.lconst 1, 1) := by decide +kernel
theorem dL_hold_11 : decode cL_hold 11 = .ok (.goto 4, 3) := by decide +kernel
theorem dL_hold_14 : decode cL_hold 14 = .ok (.lconst 0, 1) := by decide +kernel
theorem dL_hold_15 : decode cL_hold 15 = .ok (.lastore, 1) := by decide +kernel
theorem dL_hold_16 : decode cL_hold 16 = .ok (.goto 9, 3) := by decide +kernel
theorem dL_hold_19 : decode cL_hold 19 = .ok (.astore_n 3, 1) := by decide +kernel
theorem dL_hold_20 : decode cL_hold 20 = .ok (.iconst 1, 1) := by decide +kernel
theorem dL_hold_21 : decode cL_hold 21 = .ok (.ireturn, 1) := by decide +kernel
theorem dL_hold_22 : decode cL_hold 22 = .ok (.astore_n 3, 1) := by decide +kernel
theorem dL_hold_23 : decode cL_hold 23 = .ok (.iconst 2, 1) := by decide +kernel
theorem dL_hold_24 : decode cL_hold 24 = .ok (.ireturn, 1) := by decide +kernel
theorem dL_hold_25 : decode cL_hold 25 = .ok (.iconst 0, 1) := by decide +kernel
theorem dL_hold_26 : decode cL_hold 26 = .ok (.ireturn, 1) := by decide +kernel
theorem dL_link_0 : decode cL_link 0 = .ok (.aload 4, 2) := by decide +kernel
theorem dL_link_2 : decode cL_link 2 = .ok (.iconst 0, 1) := by decide +kernel
theorem dL_link_3 : decode cL_link 3 = .ok (.aload_n 0, 1) := by decide +kernel
theorem dL_link_4 : decode cL_link 4 = .ok (.iload_n 1, 1) := by decide +kernel
theorem dL_link_5 : decode cL_link 5 = .ok (.iload_n 2, 1) := by decide +kernel
theorem dL_link_6 : decode cL_link 6 = .ok (.iload_n 3, 1) := by decide +kernel
theorem dL_link_7 : decode cL_link 7 = .ok (.invokevirtual 59, 3) := by decide +kernel
theorem dL_link_10 : decode cL_link 10 = .ok (.i2l, 1) := by decide +kernel
theorem dL_link_11 : decode cL_link 11 = .ok (.lastore, 1) := by decide +kernel
theorem dL_link_12 : decode cL_link 12 = .ok (.goto 15, 3) := by decide +kernel
theorem dL_link_15 : decode cL_link 15 = .ok (.astore 5, 2) := by decide +kernel
theorem dL_link_17 : decode cL_link 17 = .ok (.iconst 1, 1) := by decide +kernel
theorem dL_link_18 : decode cL_link 18 = .ok (.ireturn, 1) := by decide +kernel
theorem dL_link_19 : decode cL_link 19 = .ok (.astore 5, 2) := by decide +kernel
theorem dL_link_21 : decode cL_link 21 = .ok (.iconst 2, 1) := by decide +kernel
theorem dL_link_22 : decode cL_link 22 = .ok (.ireturn, 1) := by decide +kernel
theorem dL_link_23 : decode cL_link 23 = .ok (.astore 5, 2) := by decide +kernel
theorem dL_link_25 : decode cL_link 25 = .ok (.iconst 3, 1) := by decide +kernel
theorem dL_link_26 : decode cL_link 26 = .ok (.ireturn, 1) := by decide +kernel
theorem dL_link_27 : decode cL_link 27 = .ok (.iconst 0, 1) := by decide +kernel
theorem dL_link_28 : decode cL_link 28 = .ok (.ireturn, 1) := by decide +kernel
theorem dL_endDay_0 : decode cL_endDay 0 = .ok (.aload_n 1, 1) := by decide +kernel
theorem dL_endDay_1 : decode cL_endDay 1 = .ok (.iconst 0, 1) := by decide +kernel
theorem dL_endDay_2 : decode cL_endDay 2 = .ok (.aload_n 0, 1) := by decide +kernel
theorem dL_endDay_3 : decode cL_endDay 3 = .ok (.invokevirtual 63, 3) := by decide +kernel
theorem dL_endDay_6 : decode cL_endDay 6 = .ok (.i2l, 1) := by decide +kernel
theorem dL_endDay_7 : decode cL_endDay 7 = .ok (.lastore, 1) := by decide +kernel
theorem dL_endDay_8 : decode cL_endDay 8 = .ok (.goto 6, 3) := by decide +kernel
theorem dL_endDay_11 : decode cL_endDay 11 = .ok (.astore_n 2, 1) := by decide +kernel
theorem dL_endDay_12 : decode cL_endDay 12 = .ok (.iconst 1, 1) := by decide +kernel
theorem dL_endDay_13 : decode cL_endDay 13 = .ok (.ireturn, 1) := by decide +kernel
theorem dL_endDay_14 : decode cL_endDay 14 = .ok (.iconst 0, 1) := by decide +kernel
theorem dL_endDay_15 : decode cL_endDay 15 = .ok (.ireturn, 1) := by decide +kernel
theorem dL_recall_0 : decode cL_recall 0 = .ok (.aload_n 2, 1) := by decide +kernel
theorem dL_recall_1 : decode cL_recall 1 = .ok (.iconst 0, 1) := by decide +kernel
theorem dL_recall_2 : decode cL_recall 2 = .ok (.aload_n 0, 1) := by decide +kernel
theorem dL_recall_3 : decode cL_recall 3 = .ok (.iload_n 1, 1) := by decide +kernel
theorem dL_recall_4 : decode cL_recall 4 = .ok (.invokevirtual 67, 3) := by decide +kernel
theorem dL_recall_7 : decode cL_recall 7 = .ok (.lastore, 1) := by decide +kernel
theorem dL_recall_8 : decode cL_recall 8 = .ok (.goto 9, 3) := by decide +kernel
theorem dL_recall_11 : decode cL_recall 11 = .ok (.astore_n 3, 1) := by decide +kernel
theorem dL_recall_12 : decode cL_recall 12 = .ok (.iconst 1, 1) := by decide +kernel
theorem dL_recall_13 : decode cL_recall 13 = .ok (.ireturn, 1) := by decide +kernel
theorem dL_recall_14 : decode cL_recall 14 = .ok (.astore_n 3, 1) := by decide +kernel
theorem dL_recall_15 : decode cL_recall 15 = .ok (.iconst 2, 1) := by decide +kernel
theorem dL_recall_16 : decode cL_recall 16 = .ok (.ireturn, 1) := by decide +kernel
theorem dL_recall_17 : decode cL_recall 17 = .ok (.iconst 0, 1) := by decide +kernel
theorem dL_recall_18 : decode cL_recall 18 = .ok (.ireturn, 1) := by decide +kernel
theorem dL_goBack_0 : decode cL_goBack 0 = .ok (.aload_n 1, 1) := by decide +kernel
theorem dL_goBack_1 : decode cL_goBack 1 = .ok (.iconst 0, 1) := by decide +kernel
theorem dL_goBack_2 : decode cL_goBack 2 = .ok (.aload_n 0, 1) := by decide +kernel
theorem dL_goBack_3 : decode cL_goBack 3 = .ok (.invokevirtual 71, 3) := by decide +kernel
theorem dL_goBack_6 : decode cL_goBack 6 = .ok (.i2l, 1) := by decide +kernel
theorem dL_goBack_7 : decode cL_goBack 7 = .ok (.lastore, 1) := by decide +kernel
theorem dL_goBack_8 : decode cL_goBack 8 = .ok (.goto 6, 3) := by decide +kernel
theorem dL_goBack_11 : decode cL_goBack 11 = .ok (.astore_n 2, 1) := by decide +kernel
theorem dL_goBack_12 : decode cL_goBack 12 = .ok (.iconst 1, 1) := by decide +kernel
theorem dL_goBack_13 : decode cL_goBack 13 = .ok (.ireturn, 1) := by decide +kernel
theorem dL_goBack_14 : decode cL_goBack 14 = .ok (.iconst 0, 1) := by decide +kernel
theorem dL_goBack_15 : decode cL_goBack 15 = .ok (.ireturn, 1) := by decide +kernel
theorem dL_announce_0 : decode cL_announce 0 = .ok (.aload 8, 2) := by decide +kernel
theorem dL_announce_2 : decode cL_announce 2 = .ok (.iconst 0, 1) := by decide +kernel
theorem dL_announce_3 : decode cL_announce 3 = .ok (.aload_n 0, 1) := by decide +kernel
theorem dL_announce_4 : decode cL_announce 4 = .ok (.iload_n 1, 1) := by decide +kernel
theorem dL_announce_5 : decode cL_announce 5 = .ok (.iload_n 2, 1) := by decide +kernel
theorem dL_announce_6 : decode cL_announce 6 = .ok (.iload_n 3, 1) := by decide +kernel
theorem dL_announce_7 : decode cL_announce 7 = .ok (.iload 4, 2) := by decide +kernel
theorem dL_announce_9 : decode cL_announce 9 = .ok (.iload 5, 2) := by decide +kernel
theorem dL_announce_11 : decode cL_announce 11 = .ok (.iload 6, 2) := by decide +kernel
theorem dL_announce_13 : decode cL_announce 13 = .ok (.iload 7, 2) := by decide +kernel
theorem dL_announce_15 : decode cL_announce 15 = .ok (.invokevirtual 74, 3) := by decide +kernel
theorem dL_announce_18 : decode cL_announce 18 = .ok (.i2l, 1) := by decide +kernel
theorem dL_announce_19 : decode cL_announce 19 = .ok (.lastore, 1) := by decide +kernel
theorem dL_announce_20 : decode cL_announce 20 = .ok (.goto 15, 3) := by decide +kernel
theorem dL_announce_23 : decode cL_announce 23 = .ok (.astore 9, 2) := by decide +kernel
theorem dL_announce_25 : decode cL_announce 25 = .ok (.iconst 1, 1) := by decide +kernel
theorem dL_announce_26 : decode cL_announce 26 = .ok (.ireturn, 1) := by decide +kernel
theorem dL_announce_27 : decode cL_announce 27 = .ok (.astore 9, 2) := by decide +kernel
theorem dL_announce_29 : decode cL_announce 29 = .ok (.iconst 2, 1) := by decide +kernel
theorem dL_announce_30 : decode cL_announce 30 = .ok (.ireturn, 1) := by decide +kernel
theorem dL_announce_31 : decode cL_announce 31 = .ok (.astore 9, 2) := by decide +kernel
theorem dL_announce_33 : decode cL_announce 33 = .ok (.iconst 3, 1) := by decide +kernel
theorem dL_announce_34 : decode cL_announce 34 = .ok (.ireturn, 1) := by decide +kernel
theorem dL_announce_35 : decode cL_announce 35 = .ok (.iconst 0, 1) := by decide +kernel
theorem dL_announce_36 : decode cL_announce 36 = .ok (.ireturn, 1) := by decide +kernel
theorem dL_elect_0 : decode cL_elect 0 = .ok (.aload 4, 2) := by decide +kernel
theorem dL_elect_2 : decode cL_elect 2 = .ok (.iconst 0, 1) := by decide +kernel
theorem dL_elect_3 : decode cL_elect 3 = .ok (.aload_n 0, 1) := by decide +kernel
theorem dL_elect_4 : decode cL_elect 4 = .ok (.iload_n 1, 1) := by decide +kernel
theorem dL_elect_5 : decode cL_elect 5 = .ok (.iload_n 2, 1) := by decide +kernel
theorem dL_elect_6 : decode cL_elect 6 = .ok (.iload_n 3, 1) := by decide +kernel
theorem dL_elect_7 : decode cL_elect 7 = .ok (.invokevirtual 78, 3) := by decide +kernel
theorem dL_elect_10 : decode cL_elect 10 = .ok (.lastore, 1) := by decide +kernel
theorem dL_elect_11 : decode cL_elect 11 = .ok (.goto 15, 3) := by decide +kernel
theorem dL_elect_14 : decode cL_elect 14 = .ok (.astore 5, 2) := by decide +kernel
theorem dL_elect_16 : decode cL_elect 16 = .ok (.iconst 1, 1) := by decide +kernel
theorem dL_elect_17 : decode cL_elect 17 = .ok (.ireturn, 1) := by decide +kernel
theorem dL_elect_18 : decode cL_elect 18 = .ok (.astore 5, 2) := by decide +kernel
theorem dL_elect_20 : decode cL_elect 20 = .ok (.iconst 2, 1) := by decide +kernel
theorem dL_elect_21 : decode cL_elect 21 = .ok (.ireturn, 1) := by decide +kernel
theorem dL_elect_22 : decode cL_elect 22 = .ok (.astore 5, 2) := by decide +kernel
theorem dL_elect_24 : decode cL_elect 24 = .ok (.iconst 3, 1) := by decide +kernel
theorem dL_elect_25 : decode cL_elect 25 = .ok (.ireturn, 1) := by decide +kernel
theorem dL_elect_26 : decode cL_elect 26 = .ok (.iconst 0, 1) := by decide +kernel
theorem dL_elect_27 : decode cL_elect 27 = .ok (.ireturn, 1) := by decide +kernel
theorem dL_entitled_0 : decode cL_entitled 0 = .ok (.aload_n 3, 1) := by decide +kernel
theorem dL_entitled_1 : decode cL_entitled 1 = .ok (.iconst 0, 1) := by decide +kernel
theorem dL_entitled_2 : decode cL_entitled 2 = .ok (.aload_n 0, 1) := by decide +kernel
theorem dL_entitled_3 : decode cL_entitled 3 = .ok (.iload_n 1, 1) := by decide +kernel
theorem dL_entitled_4 : decode cL_entitled 4 = .ok (.iload_n 2, 1) := by decide +kernel
theorem dL_entitled_5 : decode cL_entitled 5 = .ok (.invokevirtual 81, 3) := by decide +kernel
theorem dL_entitled_8 : decode cL_entitled 8 = .ok (.lastore, 1) := by decide +kernel
theorem dL_entitled_9 : decode cL_entitled 9 = .ok (.goto 7, 3) := by decide +kernel
theorem dL_entitled_12 : decode cL_entitled 12 = .ok (.astore 4, 2) := by decide +kernel
theorem dL_entitled_14 : decode cL_entitled 14 = .ok (.iconst 1, 1) := by decide +kernel
theorem dL_entitled_15 : decode cL_entitled 15 = .ok (.ireturn, 1) := by decide +kernel
theorem dL_entitled_16 : decode cL_entitled 16 = .ok (.iconst 0, 1) := by decide +kernel
theorem dL_entitled_17 : decode cL_entitled 17 = .ok (.ireturn, 1) := by decide +kernel
theorem dL_entitledAnew_0 : decode cL_entitledAnew 0 = .ok (.aload_n 3, 1) := by decide +kernel
theorem dL_entitledAnew_1 : decode cL_entitledAnew 1 = .ok (.iconst 0, 1) := by decide +kernel
theorem dL_entitledAnew_2 : decode cL_entitledAnew 2 = .ok (.aload_n 0, 1) := by decide +kernel
theorem dL_entitledAnew_3 : decode cL_entitledAnew 3 = .ok (.iload_n 1, 1) := by decide +kernel
theorem dL_entitledAnew_4 : decode cL_entitledAnew 4 = .ok (.iload_n 2, 1) := by decide +kernel
theorem dL_entitledAnew_5 : decode cL_entitledAnew 5 = .ok (.invokevirtual 84, 3) := by decide +kernel
theorem dL_entitledAnew_8 : decode cL_entitledAnew 8 = .ok (.lastore, 1) := by decide +kernel
theorem dL_entitledAnew_9 : decode cL_entitledAnew 9 = .ok (.goto 7, 3) := by decide +kernel
theorem dL_entitledAnew_12 : decode cL_entitledAnew 12 = .ok (.astore 4, 2) := by decide +kernel
theorem dL_entitledAnew_14 : decode cL_entitledAnew 14 = .ok (.iconst 1, 1) := by decide +kernel
theorem dL_entitledAnew_15 : decode cL_entitledAnew 15 = .ok (.ireturn, 1) := by decide +kernel
theorem dL_entitledAnew_16 : decode cL_entitledAnew 16 = .ok (.iconst 0, 1) := by decide +kernel
theorem dL_entitledAnew_17 : decode cL_entitledAnew 17 = .ok (.ireturn, 1) := by decide +kernel
theorem dL_isPaid_0 : decode cL_isPaid 0 = .ok (.aload_n 2, 1) := by decide +kernel
theorem dL_isPaid_1 : decode cL_isPaid 1 = .ok (.iconst 0, 1) := by decide +kernel
theorem dL_isPaid_2 : decode cL_isPaid 2 = .ok (.aload_n 0, 1) := by decide +kernel
theorem dL_isPaid_3 : decode cL_isPaid 3 = .ok (.iload_n 1, 1) := by decide +kernel
theorem dL_isPaid_4 : decode cL_isPaid 4 = .ok (.invokevirtual 87, 3) := by decide +kernel
theorem dL_isPaid_7 : decode cL_isPaid 7 = .ok (.ifCond .eq 7, 3) := by decide +kernel
theorem dL_isPaid_10 : decode cL_isPaid 10 = .ok (.lconst 1, 1) := by decide +kernel
theorem dL_isPaid_11 : decode cL_isPaid 11 = .ok (.goto 4, 3) := by decide +kernel
theorem dL_isPaid_14 : decode cL_isPaid 14 = .ok (.lconst 0, 1) := by decide +kernel
theorem dL_isPaid_15 : decode cL_isPaid 15 = .ok (.lastore, 1) := by decide +kernel
theorem dL_isPaid_16 : decode cL_isPaid 16 = .ok (.goto 6, 3) := by decide +kernel
theorem dL_isPaid_19 : decode cL_isPaid 19 = .ok (.astore_n 3, 1) := by decide +kernel
theorem dL_isPaid_20 : decode cL_isPaid 20 = .ok (.iconst 1, 1) := by decide +kernel
theorem dL_isPaid_21 : decode cL_isPaid 21 = .ok (.ireturn, 1) := by decide +kernel
theorem dL_isPaid_22 : decode cL_isPaid 22 = .ok (.iconst 0, 1) := by decide +kernel
theorem dL_isPaid_23 : decode cL_isPaid 23 = .ok (.ireturn, 1) := by decide +kernel
theorem dL_units_0 : decode cL_units 0 = .ok (.aload_n 3, 1) := by decide +kernel
theorem dL_units_1 : decode cL_units 1 = .ok (.iconst 0, 1) := by decide +kernel
theorem dL_units_2 : decode cL_units 2 = .ok (.aload_n 0, 1) := by decide +kernel
theorem dL_units_3 : decode cL_units 3 = .ok (.iload_n 1, 1) := by decide +kernel
theorem dL_units_4 : decode cL_units 4 = .ok (.iload_n 2, 1) := by decide +kernel
theorem dL_units_5 : decode cL_units 5 = .ok (.invokevirtual 90, 3) := by decide +kernel
theorem dL_units_8 : decode cL_units 8 = .ok (.lastore, 1) := by decide +kernel
theorem dL_units_9 : decode cL_units 9 = .ok (.goto 7, 3) := by decide +kernel
theorem dL_units_12 : decode cL_units 12 = .ok (.astore 4, 2) := by decide +kernel
theorem dL_units_14 : decode cL_units 14 = .ok (.iconst 1, 1) := by decide +kernel
theorem dL_units_15 : decode cL_units 15 = .ok (.ireturn, 1) := by decide +kernel
theorem dL_units_16 : decode cL_units 16 = .ok (.iconst 0, 1) := by decide +kernel
theorem dL_units_17 : decode cL_units 17 = .ok (.ireturn, 1) := by decide +kernel
theorem dL_free_0 : decode cL_free 0 = .ok (.aload_n 3, 1) := by decide +kernel
theorem dL_free_1 : decode cL_free 1 = .ok (.iconst 0, 1) := by decide +kernel
theorem dL_free_2 : decode cL_free 2 = .ok (.aload_n 0, 1) := by decide +kernel
theorem dL_free_3 : decode cL_free 3 = .ok (.iload_n 1, 1) := by decide +kernel
theorem dL_free_4 : decode cL_free 4 = .ok (.iload_n 2, 1) := by decide +kernel
theorem dL_free_5 : decode cL_free 5 = .ok (.invokevirtual 93, 3) := by decide +kernel
theorem dL_free_8 : decode cL_free 8 = .ok (.lastore, 1) := by decide +kernel
theorem dL_free_9 : decode cL_free 9 = .ok (.goto 7, 3) := by decide +kernel
theorem dL_free_12 : decode cL_free 12 = .ok (.astore 4, 2) := by decide +kernel
theorem dL_free_14 : decode cL_free 14 = .ok (.iconst 1, 1) := by decide +kernel
theorem dL_free_15 : decode cL_free 15 = .ok (.ireturn, 1) := by decide +kernel
theorem dL_free_16 : decode cL_free 16 = .ok (.iconst 0, 1) := by decide +kernel
theorem dL_free_17 : decode cL_free 17 = .ok (.ireturn, 1) := by decide +kernel
theorem dL_out_0 : decode cL_out 0 = .ok (.aload_n 2, 1) := by decide +kernel
theorem dL_out_1 : decode cL_out 1 = .ok (.iconst 0, 1) := by decide +kernel
theorem dL_out_2 : decode cL_out 2 = .ok (.aload_n 0, 1) := by decide +kernel
theorem dL_out_3 : decode cL_out 3 = .ok (.iload_n 1, 1) := by decide +kernel
theorem dL_out_4 : decode cL_out 4 = .ok (.invokevirtual 96, 3) := by decide +kernel
theorem dL_out_7 : decode cL_out 7 = .ok (.lastore, 1) := by decide +kernel
theorem dL_out_8 : decode cL_out 8 = .ok (.goto 6, 3) := by decide +kernel
theorem dL_out_11 : decode cL_out 11 = .ok (.astore_n 3, 1) := by decide +kernel
theorem dL_out_12 : decode cL_out 12 = .ok (.iconst 1, 1) := by decide +kernel
theorem dL_out_13 : decode cL_out 13 = .ok (.ireturn, 1) := by decide +kernel
theorem dL_out_14 : decode cL_out 14 = .ok (.iconst 0, 1) := by decide +kernel
theorem dL_out_15 : decode cL_out 15 = .ok (.ireturn, 1) := by decide +kernel
theorem dL_cash_0 : decode cL_cash 0 = .ok (.aload_n 2, 1) := by decide +kernel
theorem dL_cash_1 : decode cL_cash 1 = .ok (.iconst 0, 1) := by decide +kernel
theorem dL_cash_2 : decode cL_cash 2 = .ok (.aload_n 0, 1) := by decide +kernel
theorem dL_cash_3 : decode cL_cash 3 = .ok (.iload_n 1, 1) := by decide +kernel
theorem dL_cash_4 : decode cL_cash 4 = .ok (.invokevirtual 99, 3) := by decide +kernel
theorem dL_cash_7 : decode cL_cash 7 = .ok (.lastore, 1) := by decide +kernel
theorem dL_cash_8 : decode cL_cash 8 = .ok (.goto 6, 3) := by decide +kernel
theorem dL_cash_11 : decode cL_cash 11 = .ok (.astore_n 3, 1) := by decide +kernel
theorem dL_cash_12 : decode cL_cash 12 = .ok (.iconst 1, 1) := by decide +kernel
theorem dL_cash_13 : decode cL_cash 13 = .ok (.ireturn, 1) := by decide +kernel
theorem dL_cash_14 : decode cL_cash 14 = .ok (.iconst 0, 1) := by decide +kernel
theorem dL_cash_15 : decode cL_cash 15 = .ok (.ireturn, 1) := by decide +kernel
theorem dL_pledged_0 : decode cL_pledged 0 = .ok (.aload_n 2, 1) := by decide +kernel
theorem dL_pledged_1 : decode cL_pledged 1 = .ok (.iconst 0, 1) := by decide +kernel
theorem dL_pledged_2 : decode cL_pledged 2 = .ok (.aload_n 0, 1) := by decide +kernel
theorem dL_pledged_3 : decode cL_pledged 3 = .ok (.iload_n 1, 1) := by decide +kernel
theorem dL_pledged_4 : decode cL_pledged 4 = .ok (.invokevirtual 102, 3) := by decide +kernel
theorem dL_pledged_7 : decode cL_pledged 7 = .ok (.lastore, 1) := by decide +kernel
theorem dL_pledged_8 : decode cL_pledged 8 = .ok (.goto 6, 3) := by decide +kernel
theorem dL_pledged_11 : decode cL_pledged 11 = .ok (.astore_n 3, 1) := by decide +kernel
theorem dL_pledged_12 : decode cL_pledged 12 = .ok (.iconst 1, 1) := by decide +kernel
theorem dL_pledged_13 : decode cL_pledged 13 = .ok (.ireturn, 1) := by decide +kernel
theorem dL_pledged_14 : decode cL_pledged 14 = .ok (.iconst 0, 1) := by decide +kernel
theorem dL_pledged_15 : decode cL_pledged 15 = .ok (.ireturn, 1) := by decide +kernel
theorem dL_limit_0 : decode cL_limit 0 = .ok (.aload_n 2, 1) := by decide +kernel
theorem dL_limit_1 : decode cL_limit 1 = .ok (.iconst 0, 1) := by decide +kernel
theorem dL_limit_2 : decode cL_limit 2 = .ok (.aload_n 0, 1) := by decide +kernel
theorem dL_limit_3 : decode cL_limit 3 = .ok (.iload_n 1, 1) := by decide +kernel
theorem dL_limit_4 : decode cL_limit 4 = .ok (.invokevirtual 105, 3) := by decide +kernel
theorem dL_limit_7 : decode cL_limit 7 = .ok (.lastore, 1) := by decide +kernel
theorem dL_limit_8 : decode cL_limit 8 = .ok (.goto 6, 3) := by decide +kernel
theorem dL_limit_11 : decode cL_limit 11 = .ok (.astore_n 3, 1) := by decide +kernel
theorem dL_limit_12 : decode cL_limit 12 = .ok (.iconst 1, 1) := by decide +kernel
theorem dL_limit_13 : decode cL_limit 13 = .ok (.ireturn, 1) := by decide +kernel
theorem dL_limit_14 : decode cL_limit 14 = .ok (.iconst 0, 1) := by decide +kernel
theorem dL_limit_15 : decode cL_limit 15 = .ok (.ireturn, 1) := by decide +kernel
theorem dL_isSound_0 : decode cL_isSound 0 = .ok (.aload_n 2, 1) := by decide +kernel
theorem dL_isSound_1 : decode cL_isSound 1 = .ok (.iconst 0, 1) := by decide +kernel
theorem dL_isSound_2 : decode cL_isSound 2 = .ok (.aload_n 0, 1) := by decide +kernel
theorem dL_isSound_3 : decode cL_isSound 3 = .ok (.iload_n 1, 1) := by decide +kernel
theorem dL_isSound_4 : decode cL_isSound 4 = .ok (.invokevirtual 108, 3) := by decide +kernel
theorem dL_isSound_7 : decode cL_isSound 7 = .ok (.ifCond .eq 7, 3) := by decide +kernel
theorem dL_isSound_10 : decode cL_isSound 10 = .ok (.lconst 1, 1) := by decide +kernel
theorem dL_isSound_11 : decode cL_isSound 11 = .ok (.goto 4, 3) := by decide +kernel
theorem dL_isSound_14 : decode cL_isSound 14 = .ok (.lconst 0, 1) := by decide +kernel
theorem dL_isSound_15 : decode cL_isSound 15 = .ok (.lastore, 1) := by decide +kernel
theorem dL_isSound_16 : decode cL_isSound 16 = .ok (.goto 6, 3) := by decide +kernel
theorem dL_isSound_19 : decode cL_isSound 19 = .ok (.astore_n 3, 1) := by decide +kernel
theorem dL_isSound_20 : decode cL_isSound 20 = .ok (.iconst 1, 1) := by decide +kernel
theorem dL_isSound_21 : decode cL_isSound 21 = .ok (.ireturn, 1) := by decide +kernel
theorem dL_isSound_22 : decode cL_isSound 22 = .ok (.iconst 0, 1) := by decide +kernel
theorem dL_isSound_23 : decode cL_isSound 23 = .ok (.ireturn, 1) := by decide +kernel
theorem dL_used_0 : decode cL_used 0 = .ok (.aload_n 2, 1) := by decide +kernel
theorem dL_used_1 : decode cL_used 1 = .ok (.iconst 0, 1) := by decide +kernel
theorem dL_used_2 : decode cL_used 2 = .ok (.aload_n 0, 1) := by decide +kernel
theorem dL_used_3 : decode cL_used 3 = .ok (.iload_n 1, 1) := by decide +kernel
theorem dL_used_4 : decode cL_used 4 = .ok (.invokevirtual 111, 3) := by decide +kernel
theorem dL_used_7 : decode cL_used 7 = .ok (.dastore, 1) := by decide +kernel
theorem dL_used_8 : decode cL_used 8 = .ok (.goto 6, 3) := by decide +kernel
theorem dL_used_11 : decode cL_used 11 = .ok (.astore_n 3, 1) := by decide +kernel
theorem dL_used_12 : decode cL_used 12 = .ok (.iconst 1, 1) := by decide +kernel
theorem dL_used_13 : decode cL_used 13 = .ok (.ireturn, 1) := by decide +kernel
theorem dL_used_14 : decode cL_used 14 = .ok (.iconst 0, 1) := by decide +kernel
theorem dL_used_15 : decode cL_used 15 = .ok (.ireturn, 1) := by decide +kernel
theorem dL_ledger_0 : decode cL_ledger 0 = .ok (.aload_n 2, 1) := by decide +kernel
theorem dL_ledger_1 : decode cL_ledger 1 = .ok (.iconst 0, 1) := by decide +kernel
theorem dL_ledger_2 : decode cL_ledger 2 = .ok (.aload_n 0, 1) := by decide +kernel
theorem dL_ledger_3 : decode cL_ledger 3 = .ok (.iload_n 1, 1) := by decide +kernel
theorem dL_ledger_4 : decode cL_ledger 4 = .ok (.invokevirtual 115, 3) := by decide +kernel
theorem dL_ledger_7 : decode cL_ledger 7 = .ok (.lastore, 1) := by decide +kernel
theorem dL_ledger_8 : decode cL_ledger 8 = .ok (.goto 6, 3) := by decide +kernel
theorem dL_ledger_11 : decode cL_ledger 11 = .ok (.astore_n 3, 1) := by decide +kernel
theorem dL_ledger_12 : decode cL_ledger 12 = .ok (.iconst 1, 1) := by decide +kernel
theorem dL_ledger_13 : decode cL_ledger 13 = .ok (.ireturn, 1) := by decide +kernel
theorem dL_ledger_14 : decode cL_ledger 14 = .ok (.iconst 0, 1) := by decide +kernel
theorem dL_ledger_15 : decode cL_ledger 15 = .ok (.ireturn, 1) := by decide +kernel
theorem dL_messages_0 : decode cL_messages 0 = .ok (.aload_n 2, 1) := by decide +kernel
theorem dL_messages_1 : decode cL_messages 1 = .ok (.iconst 0, 1) := by decide +kernel
theorem dL_messages_2 : decode cL_messages 2 = .ok (.aload_n 0, 1) := by decide +kernel
theorem dL_messages_3 : decode cL_messages 3 = .ok (.iload_n 1, 1) := by decide +kernel
theorem dL_messages_4 : decode cL_messages 4 = .ok (.invokevirtual 118, 3) := by decide +kernel
theorem dL_messages_7 : decode cL_messages 7 = .ok (.i2l, 1) := by decide +kernel
theorem dL_messages_8 : decode cL_messages 8 = .ok (.lastore, 1) := by decide +kernel
theorem dL_messages_9 : decode cL_messages 9 = .ok (.goto 6, 3) := by decide +kernel
theorem dL_messages_12 : decode cL_messages 12 = .ok (.astore_n 3, 1) := by decide +kernel
theorem dL_messages_13 : decode cL_messages 13 = .ok (.iconst 1, 1) := by decide +kernel
theorem dL_messages_14 : decode cL_messages 14 = .ok (.ireturn, 1) := by decide +kernel
theorem dL_messages_15 : decode cL_messages 15 = .ok (.iconst 0, 1) := by decide +kernel
theorem dL_messages_16 : decode cL_messages 16 = .ok (.ireturn, 1) := by decide +kernel
theorem dL_alleged_0 : decode cL_alleged 0 = .ok (.aload_n 2, 1) := by decide +kernel
theorem dL_alleged_1 : decode cL_alleged 1 = .ok (.iconst 0, 1) := by decide +kernel
theorem dL_alleged_2 : decode cL_alleged 2 = .ok (.aload_n 0, 1) := by decide +kernel
theorem dL_alleged_3 : decode cL_alleged 3 = .ok (.iload_n 1, 1) := by decide +kernel
theorem dL_alleged_4 : decode cL_alleged 4 = .ok (.invokevirtual 122, 3) := by decide +kernel
theorem dL_alleged_7 : decode cL_alleged 7 = .ok (.i2l, 1) := by decide +kernel
theorem dL_alleged_8 : decode cL_alleged 8 = .ok (.lastore, 1) := by decide +kernel
theorem dL_alleged_9 : decode cL_alleged 9 = .ok (.goto 6, 3) := by decide +kernel
theorem dL_alleged_12 : decode cL_alleged 12 = .ok (.astore_n 3, 1) := by decide +kernel
theorem dL_alleged_13 : decode cL_alleged 13 = .ok (.iconst 1, 1) := by decide +kernel
theorem dL_alleged_14 : decode cL_alleged 14 = .ok (.ireturn, 1) := by decide +kernel
theorem dL_alleged_15 : decode cL_alleged 15 = .ok (.iconst 0, 1) := by decide +kernel
theorem dL_alleged_16 : decode cL_alleged 16 = .ok (.ireturn, 1) := by decide +kernel
theorem dL_status_0 : decode cL_status 0 = .ok (.aload_n 2, 1) := by decide +kernel
theorem dL_status_1 : decode cL_status 1 = .ok (.iconst 0, 1) := by decide +kernel
theorem dL_status_2 : decode cL_status 2 = .ok (.aload_n 0, 1) := by decide +kernel
theorem dL_status_3 : decode cL_status 3 = .ok (.iload_n 1, 1) := by decide +kernel
theorem dL_status_4 : decode cL_status 4 = .ok (.invokevirtual 125, 3) := by decide +kernel
theorem dL_status_7 : decode cL_status 7 = .ok (.i2l, 1) := by decide +kernel
theorem dL_status_8 : decode cL_status 8 = .ok (.lastore, 1) := by decide +kernel
theorem dL_status_9 : decode cL_status 9 = .ok (.goto 6, 3) := by decide +kernel
theorem dL_status_12 : decode cL_status 12 = .ok (.astore_n 3, 1) := by decide +kernel
theorem dL_status_13 : decode cL_status 13 = .ok (.iconst 1, 1) := by decide +kernel
theorem dL_status_14 : decode cL_status 14 = .ok (.ireturn, 1) := by decide +kernel
theorem dL_status_15 : decode cL_status 15 = .ok (.iconst 0, 1) := by decide +kernel
theorem dL_status_16 : decode cL_status 16 = .ok (.ireturn, 1) := by decide +kernel
theorem dL_tradeOf_0 : decode cL_tradeOf 0 = .ok (.aload_n 2, 1) := by decide +kernel
theorem dL_tradeOf_1 : decode cL_tradeOf 1 = .ok (.iconst 0, 1) := by decide +kernel
theorem dL_tradeOf_2 : decode cL_tradeOf 2 = .ok (.aload_n 0, 1) := by decide +kernel
theorem dL_tradeOf_3 : decode cL_tradeOf 3 = .ok (.iload_n 1, 1) := by decide +kernel
theorem dL_tradeOf_4 : decode cL_tradeOf 4 = .ok (.invokevirtual 128, 3) := by decide +kernel
theorem dL_tradeOf_7 : decode cL_tradeOf 7 = .ok (.i2l, 1) := by decide +kernel
theorem dL_tradeOf_8 : decode cL_tradeOf 8 = .ok (.lastore, 1) := by decide +kernel
theorem dL_tradeOf_9 : decode cL_tradeOf 9 = .ok (.goto 6, 3) := by decide +kernel
theorem dL_tradeOf_12 : decode cL_tradeOf 12 = .ok (.astore_n 3, 1) := by decide +kernel
theorem dL_tradeOf_13 : decode cL_tradeOf 13 = .ok (.iconst 1, 1) := by decide +kernel
theorem dL_tradeOf_14 : decode cL_tradeOf 14 = .ok (.ireturn, 1) := by decide +kernel
theorem dL_tradeOf_15 : decode cL_tradeOf 15 = .ok (.iconst 0, 1) := by decide +kernel
theorem dL_tradeOf_16 : decode cL_tradeOf 16 = .ok (.ireturn, 1) := by decide +kernel
theorem dL_tradeUnits_0 : decode cL_tradeUnits 0 = .ok (.aload_n 2, 1) := by decide +kernel
theorem dL_tradeUnits_1 : decode cL_tradeUnits 1 = .ok (.iconst 0, 1) := by decide +kernel
theorem dL_tradeUnits_2 : decode cL_tradeUnits 2 = .ok (.aload_n 0, 1) := by decide +kernel
theorem dL_tradeUnits_3 : decode cL_tradeUnits 3 = .ok (.iload_n 1, 1) := by decide +kernel
theorem dL_tradeUnits_4 : decode cL_tradeUnits 4 = .ok (.invokevirtual 131, 3) := by decide +kernel
theorem dL_tradeUnits_7 : decode cL_tradeUnits 7 = .ok (.lastore, 1) := by decide +kernel
theorem dL_tradeUnits_8 : decode cL_tradeUnits 8 = .ok (.goto 6, 3) := by decide +kernel
theorem dL_tradeUnits_11 : decode cL_tradeUnits 11 = .ok (.astore_n 3, 1) := by decide +kernel
theorem dL_tradeUnits_12 : decode cL_tradeUnits 12 = .ok (.iconst 1, 1) := by decide +kernel
theorem dL_tradeUnits_13 : decode cL_tradeUnits 13 = .ok (.ireturn, 1) := by decide +kernel
theorem dL_tradeUnits_14 : decode cL_tradeUnits 14 = .ok (.iconst 0, 1) := by decide +kernel
theorem dL_tradeUnits_15 : decode cL_tradeUnits 15 = .ok (.ireturn, 1) := by decide +kernel
