theorem dX11_pledged_0 : decode cX11_pledged 0 = .ok (.aload_n 0, 1) := by decide +kernel
theorem dX11_pledged_1 : decode cX11_pledged 1 = .ok (.iload_n 1, 1) := by decide +kernel
theorem dX11_pledged_2 : decode cX11_pledged 2 = .ok (.invokevirtual 48, 3) := by decide +kernel
theorem dX11_pledged_5 : decode cX11_pledged 5 = .ok (.aload_n 0, 1) := by decide +kernel
theorem dX11_pledged_6 : decode cX11_pledged 6 = .ok (.getfield 21, 3) := by decide +kernel
theorem dX11_pledged_9 : decode cX11_pledged 9 = .ok (.iload_n 1, 1) := by decide +kernel
theorem dX11_pledged_10 : decode cX11_pledged 10 = .ok (.invokevirtual 57, 3) := by decide +kernel
theorem dX11_pledged_13 : decode cX11_pledged 13 = .ok (.getfield 369, 3) := by decide +kernel
theorem dX11_pledged_16 : decode cX11_pledged 16 = .ok (.lreturn, 1) := by decide +kernel
theorem dX11_limit_0 : decode cX11_limit 0 = .ok (.aload_n 0, 1) := by decide +kernel
theorem dX11_limit_1 : decode cX11_limit 1 = .ok (.iload_n 1, 1) := by decide +kernel
theorem dX11_limit_2 : decode cX11_limit 2 = .ok (.invokevirtual 48, 3) := by decide +kernel
theorem dX11_limit_5 : decode cX11_limit 5 = .ok (.aload_n 0, 1) := by decide +kernel
theorem dX11_limit_6 : decode cX11_limit 6 = .ok (.getfield 21, 3) := by decide +kernel
theorem dX11_limit_9 : decode cX11_limit 9 = .ok (.aload_n 0, 1) := by decide +kernel
theorem dX11_limit_10 : decode cX11_limit 10 = .ok (.getfield 21, 3) := by decide +kernel
theorem dX11_limit_13 : decode cX11_limit 13 = .ok (.iload_n 1, 1) := by decide +kernel
theorem dX11_limit_14 : decode cX11_limit 14 = .ok (.invokevirtual 57, 3) := by decide +kernel
theorem dX11_limit_17 : decode cX11_limit 17 = .ok (.invokevirtual 372, 3) := by decide +kernel
theorem dX11_limit_20 : decode cX11_limit 20 = .ok (.lreturn, 1) := by decide +kernel
theorem dX11_isSound_0 : decode cX11_isSound 0 = .ok (.aload_n 0, 1) := by decide +kernel
theorem dX11_isSound_1 : decode cX11_isSound 1 = .ok (.iload_n 1, 1) := by decide +kernel
theorem dX11_isSound_2 : decode cX11_isSound 2 = .ok (.invokevirtual 48, 3) := by decide +kernel
theorem dX11_isSound_5 : decode cX11_isSound 5 = .ok (.aload_n 0, 1) := by decide +kernel
theorem dX11_isSound_6 : decode cX11_isSound 6 = .ok (.getfield 21, 3) := by decide +kernel
theorem dX11_isSound_9 : decode cX11_isSound 9 = .ok (.iload_n 1, 1) := by decide +kernel
theorem dX11_isSound_10 : decode cX11_isSound 10 = .ok (.invokevirtual 145, 3) := by decide +kernel
theorem dX11_isSound_13 : decode cX11_isSound 13 = .ok (.ireturn, 1) := by decide +kernel
theorem dX11_used_0 : decode cX11_used 0 = .ok (.aload_n 0, 1) := by decide +kernel
theorem dX11_used_1 : decode cX11_used 1 = .ok (.iload_n 1, 1) := by decide +kernel
theorem dX11_used_2 : decode cX11_used 2 = .ok (.invokevirtual 48, 3) := by decide +kernel
theorem dX11_used_5 : decode cX11_used 5 = .ok (.aload_n 0, 1) := by decide +kernel
theorem dX11_used_6 : decode cX11_used 6 = .ok (.getfield 21, 3) := by decide +kernel
theorem dX11_used_9 : decode cX11_used 9 = .ok (.iload_n 1, 1) := by decide +kernel
theorem dX11_used_10 : decode cX11_used 10 = .ok (.invokevirtual 57, 3) := by decide +kernel
theorem dX11_used_13 : decode cX11_used 13 = .ok (.astore_n 2, 1) := by decide +kernel
theorem dX11_used_14 : decode cX11_used 14 = .ok (.aload_n 2, 1) := by decide +kernel
theorem dX11_used_15 : decode cX11_used 15 = .ok (.invokevirtual 376, 3) := by decide +kernel
theorem dX11_used_18 : decode cX11_used 18 = .ok (.lstore_n 3, 1) := by decide +kernel
theorem dX11_used_19 : decode cX11_used 19 = .ok (.lload_n 3, 1) := by decide +kernel
theorem dX11_used_20 : decode cX11_used 20 = .ok (.lconst 0, 1) := by decide +kernel
theorem dX11_used_21 : decode cX11_used 21 = .ok (.lcmp, 1) := by decide +kernel
theorem dX11_used_22 : decode cX11_used 22 = .ok (.ifCond .lt 5, 3) := by decide +kernel
theorem dX11_used_25 : decode cX11_used 25 = .ok (.dconst 0, 1) := by decide +kernel
theorem dX11_used_26 : decode cX11_used 26 = .ok (.dreturn, 1) := by decide +kernel
theorem dX11_used_27 : decode cX11_used 27 = .ok (.aload_n 0, 1) := by decide +kernel
theorem dX11_used_28 : decode cX11_used 28 = .ok (.getfield 21, 3) := by decide +kernel
theorem dX11_used_31 : decode cX11_used 31 = .ok (.aload_n 2, 1) := by decide +kernel
theorem dX11_used_32 : decode cX11_used 32 = .ok (.invokevirtual 372, 3) := by decide +kernel
theorem dX11_used_35 : decode cX11_used 35 = .ok (.lstore 5, 2) := by decide +kernel
theorem dX11_used_37 : decode cX11_used 37 = .ok (.lload 5, 2) := by decide +kernel
theorem dX11_used_39 : decode cX11_used 39 = .ok (.lconst 0, 1) := by decide +kernel
theorem dX11_used_40 : decode cX11_used 40 = .ok (.lcmp, 1) := by decide +kernel
theorem dX11_used_41 : decode cX11_used 41 = .ok (.ifCond .ne 14, 3) := by decide +kernel
theorem dX11_used_44 : decode cX11_used 44 = .ok (.ldc2_w 379, 3) := by decide +kernel
theorem dX11_used_47 : decode cX11_used 47 = .ok (.dstore 7, 2) := by decide +kernel
theorem dX11_used_49 : decode cX11_used 49 = .ok (.dload 7, 2) := by decide +kernel
theorem dX11_used_51 : decode cX11_used 51 = .ok (.dload 7, 2) := by decide +kernel
theorem dX11_used_53 : decode cX11_used 53 = .ok (.dmul, 1) := by decide +kernel
theorem dX11_used_54 : decode cX11_used 54 = .ok (.dreturn, 1) := by decide +kernel
theorem dX11_used_55 : decode cX11_used 55 = .ok (.lload_n 3, 1) := by decide +kernel
theorem dX11_used_56 : decode cX11_used 56 = .ok (.lneg, 1) := by decide +kernel
theorem dX11_used_57 : decode cX11_used 57 = .ok (.l2d, 1) := by decide +kernel
theorem dX11_used_58 : decode cX11_used 58 = .ok (.lload 5, 2) := by decide +kernel
theorem dX11_used_60 : decode cX11_used 60 = .ok (.l2d, 1) := by decide +kernel
theorem dX11_used_61 : decode cX11_used 61 = .ok (.ddiv, 1) := by decide +kernel
theorem dX11_used_62 : decode cX11_used 62 = .ok (.dreturn, 1) := by decide +kernel
theorem dX11_ledger_0 : decode cX11_ledger 0 = .ok (.aload_n 0, 1) := by decide +kernel
theorem dX11_ledger_1 : decode cX11_ledger 1 = .ok (.iload_n 1, 1) := by decide +kernel
theorem dX11_ledger_2 : decode cX11_ledger 2 = .ok (.invokevirtual 48, 3) := by decide +kernel
theorem dX11_ledger_5 : decode cX11_ledger 5 = .ok (.aload_n 0, 1) := by decide +kernel
theorem dX11_ledger_6 : decode cX11_ledger 6 = .ok (.getfield 21, 3) := by decide +kernel
theorem dX11_ledger_9 : decode cX11_ledger 9 = .ok (.iload_n 1, 1) := by decide +kernel
theorem dX11_ledger_10 : decode cX11_ledger 10 = .ok (.invokevirtual 57, 3) := by decide +kernel
theorem dX11_ledger_13 : decode cX11_ledger 13 = .ok (.getfield 381, 3) := by decide +kernel
theorem dX11_ledger_16 : decode cX11_ledger 16 = .ok (.lreturn, 1) := by decide +kernel
theorem dX11_messages_0 : decode cX11_messages 0 = .ok (.aload_n 0, 1) := by decide +kernel
theorem dX11_messages_1 : decode cX11_messages 1 = .ok (.iload_n 1, 1) := by decide +kernel
theorem dX11_messages_2 : decode cX11_messages 2 = .ok (.invokevirtual 48, 3) := by decide +kernel
theorem dX11_messages_5 : decode cX11_messages 5 = .ok (.aload_n 0, 1) := by decide +kernel
theorem dX11_messages_6 : decode cX11_messages 6 = .ok (.getfield 10, 3) := by decide +kernel
theorem dX11_messages_9 : decode cX11_messages 9 = .ok (.iload_n 1, 1) := by decide +kernel
theorem dX11_messages_10 : decode cX11_messages 10 = .ok (.invokevirtual 384, 3) := by decide +kernel
theorem dX11_messages_13 : decode cX11_messages 13 = .ok (.ireturn, 1) := by decide +kernel
theorem dX11_alleged_0 : decode cX11_alleged 0 = .ok (.aload_n 0, 1) := by decide +kernel
theorem dX11_alleged_1 : decode cX11_alleged 1 = .ok (.iload_n 1, 1) := by decide +kernel
theorem dX11_alleged_2 : decode cX11_alleged 2 = .ok (.invokevirtual 48, 3) := by decide +kernel
theorem dX11_alleged_5 : decode cX11_alleged 5 = .ok (.iconst 0, 1) := by decide +kernel
theorem dX11_alleged_6 : decode cX11_alleged 6 = .ok (.istore_n 2, 1) := by decide +kernel
theorem dX11_alleged_7 : decode cX11_alleged 7 = .ok (.iconst 0, 1) := by decide +kernel
theorem dX11_alleged_8 : decode cX11_alleged 8 = .ok (.istore_n 3, 1) := by decide +kernel
theorem dX11_alleged_9 : decode cX11_alleged 9 = .ok (.iload_n 3, 1) := by decide +kernel
theorem dX11_alleged_10 : decode cX11_alleged 10 = .ok (.aload_n 0, 1) := by decide +kernel
theorem dX11_alleged_11 : decode cX11_alleged 11 = .ok (.getfield 21, 3) := by decide +kernel
theorem dX11_alleged_14 : decode cX11_alleged 14 = .ok (.getfield 153, 3) := by decide +kernel
theorem dX11_alleged_17 : decode cX11_alleged 17 = .ok (.if_icmp .ge 39, 3) := by decide +kernel
theorem dX11_alleged_20 : decode cX11_alleged 20 = .ok (.aload_n 0, 1) := by decide +kernel
theorem dX11_alleged_21 : decode cX11_alleged 21 = .ok (.getfield 21, 3) := by decide +kernel
theorem dX11_alleged_24 : decode cX11_alleged 24 = .ok (.iload_n 3, 1) := by decide +kernel
theorem dX11_alleged_25 : decode cX11_alleged 25 = .ok (.invokevirtual 156, 3) := by decide +kernel
theorem dX11_alleged_28 : decode cX11_alleged 28 = .ok (.astore 4, 2) := by decide +kernel
theorem dX11_alleged_30 : decode cX11_alleged 30 = .ok (.aload 4, 2) := by decide +kernel
theorem dX11_alleged_32 : decode cX11_alleged 32 = .ok (.getfield 200, 3) := by decide +kernel
theorem dX11_alleged_35 : decode cX11_alleged 35 = .ok (.ifCond .ne 15, 3) := by decide +kernel
theorem dX11_alleged_38 : decode cX11_alleged 38 = .ok (.aload 4, 2) := by decide +kernel
theorem dX11_alleged_40 : decode cX11_alleged 40 = .ok (.getfield 164, 3) := by decide +kernel
theorem dX11_alleged_43 : decode cX11_alleged 43 = .ok (.iload_n 1, 1) := by decide +kernel
theorem dX11_alleged_44 : decode cX11_alleged 44 = .ok (.if_icmp .ne 6, 3) := by decide +kernel
theorem dX11_alleged_47 : decode cX11_alleged 47 = .ok (.iinc 2 1, 3) := by decide +kernel
theorem dX11_alleged_50 : decode cX11_alleged 50 = .ok (.iinc 3 1, 3) := by decide +kernel
theorem dX11_alleged_53 : decode cX11_alleged 53 = .ok (.goto (-44), 3) := by decide +kernel
theorem dX11_alleged_56 : decode cX11_alleged 56 = .ok (.iload_n 2, 1) := by decide +kernel
theorem dX11_alleged_57 : decode cX11_alleged 57 = .ok (.ireturn, 1) := by decide +kernel
theorem dX11_status_0 : decode cX11_status 0 = .ok (.aload_n 0, 1) := by decide +kernel
theorem dX11_status_1 : decode cX11_status 1 = .ok (.iload_n 1, 1) := by decide +kernel
theorem dX11_status_2 : decode cX11_status 2 = .ok (.invokevirtual 197, 3) := by decide +kernel
theorem dX11_status_5 : decode cX11_status 5 = .ok (.aload_n 0, 1) := by decide +kernel
theorem dX11_status_6 : decode cX11_status 6 = .ok (.getfield 21, 3) := by decide +kernel
theorem dX11_status_9 : decode cX11_status 9 = .ok (.iload_n 1, 1) := by decide +kernel
theorem dX11_status_10 : decode cX11_status 10 = .ok (.invokevirtual 156, 3) := by decide +kernel
theorem dX11_status_13 : decode cX11_status 13 = .ok (.getfield 200, 3) := by decide +kernel
theorem dX11_status_16 : decode cX11_status 16 = .ok (.ireturn, 1) := by decide +kernel
theorem dX11_tradeOf_0 : decode cX11_tradeOf 0 = .ok (.aload_n 0, 1) := by decide +kernel
theorem dX11_tradeOf_1 : decode cX11_tradeOf 1 = .ok (.iload_n 1, 1) := by decide +kernel
theorem dX11_tradeOf_2 : decode cX11_tradeOf 2 = .ok (.invokevirtual 197, 3) := by decide +kernel
theorem dX11_tradeOf_5 : decode cX11_tradeOf 5 = .ok (.aload_n 0, 1) := by decide +kernel
theorem dX11_tradeOf_6 : decode cX11_tradeOf 6 = .ok (.getfield 21, 3) := by decide +kernel
theorem dX11_tradeOf_9 : decode cX11_tradeOf 9 = .ok (.iload_n 1, 1) := by decide +kernel
theorem dX11_tradeOf_10 : decode cX11_tradeOf 10 = .ok (.invokevirtual 156, 3) := by decide +kernel
theorem dX11_tradeOf_13 : decode cX11_tradeOf 13 = .ok (.getfield 214, 3) := by decide +kernel
theorem dX11_tradeOf_16 : decode cX11_tradeOf 16 = .ok (.ireturn, 1) := by decide +kernel
theorem dX11_tradeUnits_0 : decode cX11_tradeUnits 0 = .ok (.aload_n 0, 1) := by decide +kernel
theorem dX11_tradeUnits_1 : decode cX11_tradeUnits 1 = .ok (.iload_n 1, 1) := by decide +kernel
theorem dX11_tradeUnits_2 : decode cX11_tradeUnits 2 = .ok (.invokevirtual 235, 3) := by decide +kernel
theorem dX11_tradeUnits_5 : decode cX11_tradeUnits 5 = .ok (.aload_n 0, 1) := by decide +kernel
theorem dX11_tradeUnits_6 : decode cX11_tradeUnits 6 = .ok (.getfield 21, 3) := by decide +kernel
theorem dX11_tradeUnits_9 : decode cX11_tradeUnits 9 = .ok (.iload_n 1, 1) := by decide +kernel
theorem dX11_tradeUnits_10 : decode cX11_tradeUnits 10 = .ok (.invokevirtual 217, 3) := by decide +kernel
theorem dX11_tradeUnits_13 : decode cX11_tradeUnits 13 = .ok (.getfield 388, 3) := by decide +kernel
theorem dX11_tradeUnits_16 : decode cX11_tradeUnits 16 = .ok (.lreturn, 1) := by decide +kernel
theorem dX11_tradeAmount_0 : decode cX11_tradeAmount 0 = .ok (.aload_n 0, 1) := by decide +kernel
theorem dX11_tradeAmount_1 : decode cX11_tradeAmount 1 = .ok (.iload_n 1, 1) := by decide +kernel
theorem dX11_tradeAmount_2 : decode cX11_tradeAmount 2 = .ok (.invokevirtual 235, 3) := by decide +kernel
theorem dX11_tradeAmount_5 : decode cX11_tradeAmount 5 = .ok (.aload_n 0, 1) := by decide +kernel
theorem dX11_tradeAmount_6 : decode cX11_tradeAmount 6 = .ok (.getfield 21, 3) := by decide +kernel
theorem dX11_tradeAmount_9 : decode cX11_tradeAmount 9 = .ok (.iload_n 1, 1) := by decide +kernel
theorem dX11_tradeAmount_10 : decode cX11_tradeAmount 10 = .ok (.invokevirtual 217, 3) := by decide +kernel
theorem dX11_tradeAmount_13 : decode cX11_tradeAmount 13 = .ok (.getfield 389, 3) := by decide +kernel
theorem dX11_tradeAmount_16 : decode cX11_tradeAmount 16 = .ok (.lreturn, 1) := by decide +kernel
theorem dX11_age_0 : decode cX11_age 0 = .ok (.aload_n 0, 1) := by decide +kernel
theorem dX11_age_1 : decode cX11_age 1 = .ok (.iload_n 1, 1) := by decide +kernel
theorem dX11_age_2 : decode cX11_age 2 = .ok (.invokevirtual 235, 3) := by decide +kernel
theorem dX11_age_5 : decode cX11_age 5 = .ok (.aload_n 0, 1) := by decide +kernel
theorem dX11_age_6 : decode cX11_age 6 = .ok (.getfield 21, 3) := by decide +kernel
theorem dX11_age_9 : decode cX11_age 9 = .ok (.iload_n 1, 1) := by decide +kernel
theorem dX11_age_10 : decode cX11_age 10 = .ok (.invokevirtual 217, 3) := by decide +kernel
theorem dX11_age_13 : decode cX11_age 13 = .ok (.getfield 391, 3) := by decide +kernel
theorem dX11_age_16 : decode cX11_age 16 = .ok (.ireturn, 1) := by decide +kernel
theorem dX11_causer_0 : decode cX11_causer 0 = .ok (.aload_n 0, 1) := by decide +kernel
theorem dX11_causer_1 : decode cX11_causer 1 = .ok (.iload_n 1, 1) := by decide +kernel
theorem dX11_causer_2 : decode cX11_causer 2 = .ok (.invokevirtual 235, 3) := by decide +kernel
theorem dX11_causer_5 : decode cX11_causer 5 = .ok (.aload_n 0, 1) := by decide +kernel
theorem dX11_causer_6 : decode cX11_causer 6 = .ok (.getfield 21, 3) := by decide +kernel
theorem dX11_causer_9 : decode cX11_causer 9 = .ok (.iload_n 1, 1) := by decide +kernel
theorem dX11_causer_10 : decode cX11_causer 10 = .ok (.invokevirtual 217, 3) := by decide +kernel
theorem dX11_causer_13 : decode cX11_causer 13 = .ok (.astore_n 2, 1) := by decide +kernel
theorem dX11_causer_14 : decode cX11_causer 14 = .ok (.aload_n 0, 1) := by decide +kernel
theorem dX11_causer_15 : decode cX11_causer 15 = .ok (.getfield 21, 3) := by decide +kernel
theorem dX11_causer_18 : decode cX11_causer 18 = .ok (.aload_n 2, 1) := by decide +kernel
theorem dX11_causer_19 : decode cX11_causer 19 = .ok (.invokevirtual 394, 3) := by decide +kernel
theorem dX11_causer_22 : decode cX11_causer 22 = .ok (.invokestatic 67, 3) := by decide +kernel
theorem dX11_causer_25 : decode cX11_causer 25 = .ok (.aload_n 0, 1) := by decide +kernel
theorem dX11_causer_26 : decode cX11_causer 26 = .ok (.getfield 21, 3) := by decide +kernel
theorem dX11_causer_29 : decode cX11_causer 29 = .ok (.aload_n 2, 1) := by decide +kernel
theorem dX11_causer_30 : decode cX11_causer 30 = .ok (.invokevirtual 398, 3) := by decide +kernel
theorem dX11_causer_33 : decode cX11_causer 33 = .ok (.ireturn, 1) := by decide +kernel
theorem dX11_loans_0 : decode cX11_loans 0 = .ok (.aload_n 0, 1) := by decide +kernel
theorem dX11_loans_1 : decode cX11_loans 1 = .ok (.getfield 21, 3) := by decide +kernel
theorem dX11_loans_4 : decode cX11_loans 4 = .ok (.getfield 402, 3) := by decide +kernel
theorem dX11_loans_7 : decode cX11_loans 7 = .ok (.ireturn, 1) := by decide +kernel
theorem dX11_loan_0 : decode cX11_loan 0 = .ok (.aload_n 0, 1) := by decide +kernel
theorem dX11_loan_1 : decode cX11_loan 1 = .ok (.iload_n 1, 1) := by decide +kernel
theorem dX11_loan_2 : decode cX11_loan 2 = .ok (.invokevirtual 293, 3) := by decide +kernel
theorem dX11_loan_5 : decode cX11_loan 5 = .ok (.aload_n 0, 1) := by decide +kernel
theorem dX11_loan_6 : decode cX11_loan 6 = .ok (.getfield 21, 3) := by decide +kernel
theorem dX11_loan_9 : decode cX11_loan 9 = .ok (.iload_n 1, 1) := by decide +kernel
theorem dX11_loan_10 : decode cX11_loan 10 = .ok (.invokevirtual 296, 3) := by decide +kernel
theorem dX11_loan_13 : decode cX11_loan 13 = .ok (.astore_n 2, 1) := by decide +kernel
theorem dX11_loan_14 : decode cX11_loan 14 = .ok (.aload_n 2, 1) := by decide +kernel
theorem dX11_loan_15 : decode cX11_loan 15 = .ok (.getfield 300, 3) := by decide +kernel
theorem dX11_loan_18 : decode cX11_loan 18 = .ok (.ifCond .eq 9, 3) := by decide +kernel
theorem dX11_loan_21 : decode cX11_loan 21 = .ok (.ldc2_w 359, 3) := by decide +kernel
theorem dX11_loan_24 : decode cX11_loan 24 = .ok (.goto 7, 3) := by decide +kernel
theorem dX11_loan_27 : decode cX11_loan 27 = .ok (.aload_n 2, 1) := by decide +kernel
theorem dX11_loan_28 : decode cX11_loan 28 = .ok (.getfield 308, 3) := by decide +kernel
theorem dX11_loan_31 : decode cX11_loan 31 = .ok (.lreturn, 1) := by decide +kernel
theorem dX11_needAccount_0 : decode cX11_needAccount 0 = .ok (.iload_n 1, 1) := by decide +kernel
theorem dX11_needAccount_1 : decode cX11_needAccount 1 = .ok (.aload_n 0, 1) := by decide +kernel
theorem dX11_needAccount_2 : decode cX11_needAccount 2 = .ok (.getfield 21, 3) := by decide +kernel
theorem dX11_needAccount_5 : decode cX11_needAccount 5 = .ok (.getfield 71, 3) := by decide +kernel
theorem dX11_needAccount_8 : decode cX11_needAccount 8 = .ok (.invokestatic 405, 3) := by decide +kernel
theorem dX11_needAccount_11 : decode cX11_needAccount 11 = .ok (.return_, 1) := by decide +kernel
theorem dX11_needSecurity_0 : decode cX11_needSecurity 0 = .ok (.iload_n 1, 1) := by decide +kernel
theorem dX11_needSecurity_1 : decode cX11_needSecurity 1 = .ok (.aload_n 0, 1) := by decide +kernel
theorem dX11_needSecurity_2 : decode cX11_needSecurity 2 = .ok (.getfield 21, 3) := by decide +kernel
theorem dX11_needSecurity_5 : decode cX11_needSecurity 5 = .ok (.getfield 101, 3) := by decide +kernel
theorem dX11_needSecurity_8 : decode cX11_needSecurity 8 = .ok (.invokestatic 405, 3) := by decide +kernel
theorem dX11_needSecurity_11 : decode cX11_needSecurity 11 = .ok (.return_, 1) := by decide +kernel
theorem dX11_needInstruction_0 : decode cX11_needInstruction 0 = .ok (.iload_n 1, 1) := by decide +kernel
theorem dX11_needInstruction_1 : decode cX11_needInstruction 1 = .ok (.aload_n 0, 1) := by decide +kernel
theorem dX11_needInstruction_2 : decode cX11_needInstruction 2 = .ok (.getfield 21, 3) := by decide +kernel
theorem dX11_needInstruction_5 : decode cX11_needInstruction 5 = .ok (.getfield 153, 3) := by decide +kernel
theorem dX11_needInstruction_8 : decode cX11_needInstruction 8 = .ok (.invokestatic 405, 3) := by decide +kernel
theorem dX11_needInstruction_11 : decode cX11_needInstruction 11 = .ok (.return_, 1) := by decide +kernel
theorem dX11_needTrade_0 : decode cX11_needTrade 0 = .ok (.iload_n 1, 1) := by decide +kernel
theorem dX11_needTrade_1 : decode cX11_needTrade 1 = .ok (.aload_n 0, 1) := by decide +kernel
theorem dX11_needTrade_2 : decode cX11_needTrade 2 = .ok (.getfield 21, 3) := by decide +kernel
theorem dX11_needTrade_5 : decode cX11_needTrade 5 = .ok (.getfield 191, 3) := by decide +kernel
theorem dX11_needTrade_8 : decode cX11_needTrade 8 = .ok (.invokestatic 405, 3) := by decide +kernel
theorem dX11_needTrade_11 : decode cX11_needTrade 11 = .ok (.return_, 1) := by decide +kernel
theorem dX11_needLoan_0 : decode cX11_needLoan 0 = .ok (.iload_n 1, 1) := by decide +kernel
theorem dX11_needLoan_1 : decode cX11_needLoan 1 = .ok (.aload_n 0, 1) := by decide +kernel
theorem dX11_needLoan_2 : decode cX11_needLoan 2 = .ok (.getfield 21, 3) := by decide +kernel
theorem dX11_needLoan_5 : decode cX11_needLoan 5 = .ok (.getfield 402, 3) := by decide +kernel
theorem dX11_needLoan_8 : decode cX11_needLoan 8 = .ok (.invokestatic 405, 3) := by decide +kernel
theorem dX11_needLoan_11 : decode cX11_needLoan 11 = .ok (.return_, 1) := by decide +kernel
theorem dX11_needEvent_0 : decode cX11_needEvent 0 = .ok (.iload_n 1, 1) := by decide +kernel
theorem dX11_needEvent_1 : decode cX11_needEvent 1 = .ok (.aload_n 0, 1) := by decide +kernel
theorem dX11_needEvent_2 : decode cX11_needEvent 2 = .ok (.getfield 21, 3) := by decide +kernel
theorem dX11_needEvent_5 : decode cX11_needEvent 5 = .ok (.getfield 313, 3) := by decide +kernel
theorem dX11_needEvent_8 : decode cX11_needEvent 8 = .ok (.invokestatic 405, 3) := by decide +kernel
theorem dX11_needEvent_11 : decode cX11_needEvent 11 = .ok (.return_, 1) := by decide +kernel
theorem dX11_needIndex_0 : decode cX11_needIndex 0 = .ok (.iload_n 0, 1) := by decide +kernel
theorem dX11_needIndex_1 : decode cX11_needIndex 1 = .ok (.ifCond .lt 8, 3) := by decide +kernel
theorem dX11_needIndex_4 : decode cX11_needIndex 4 = .ok (.iload_n 0, 1) := by decide +kernel
theorem dX11_needIndex_5 : decode cX11_needIndex 5 = .ok (.iload_n 1, 1) := by decide +kernel
theorem dX11_needIndex_6 : decode cX11_needIndex 6 = .ok (.if_icmp .lt 14, 3) := by decide +kernel
theorem dX11_needIndex_9 : decode cX11_needIndex 9 = .ok (.new 409, 3) := by decide +kernel
theorem dX11_needIndex_12 : decode cX11_needIndex 12 = .ok (.dup, 1) := by decide +kernel
theorem dX11_needIndex_13 : decode cX11_needIndex 13 = .ok (.ldc_w 411, 3) := by decide +kernel
theorem dX11_needIndex_16 : decode cX11_needIndex 16 = .ok (.invokespecial 413, 3) := by decide +kernel
theorem dX11_needIndex_19 : decode cX11_needIndex 19 = .ok (.athrow, 1) := by decide +kernel
theorem dX11_needIndex_20 : decode cX11_needIndex 20 = .ok (.return_, 1) := by decide +kernel
theorem dX11_needRange_0 : decode cX11_needRange 0 = .ok (.iload_n 0, 1) := by decide +kernel
theorem dX11_needRange_1 : decode cX11_needRange 1 = .ok (.iload_n 1, 1) := by decide +kernel
theorem dX11_needRange_2 : decode cX11_needRange 2 = .ok (.if_icmp .lt 12, 3) := by decide +kernel
theorem dX11_needRange_5 : decode cX11_needRange 5 = .ok (.iload_n 0, 1) := by decide +kernel
theorem dX11_needRange_6 : decode cX11_needRange 6 = .ok (.iload_n 2, 1) := by decide +kernel
theorem dX11_needRange_7 : decode cX11_needRange 7 = .ok (.if_icmp .gt 7, 3) := by decide +kernel
theorem dX11_needRange_10 : decode cX11_needRange 10 = .ok (.iconst 1, 1) := by decide +kernel
theorem dX11_needRange_11 : decode cX11_needRange 11 = .ok (.goto 4, 3) := by decide +kernel
theorem dX11_needRange_14 : decode cX11_needRange 14 = .ok (.iconst 0, 1) := by decide +kernel
theorem dX11_needRange_15 : decode cX11_needRange 15 = .ok (.invokestatic 130, 3) := by decide +kernel
theorem dX11_needRange_18 : decode cX11_needRange 18 = .ok (.return_, 1) := by decide +kernel
theorem dX11_needArgument_0 : decode cX11_needArgument 0 = .ok (.iload_n 0, 1) := by decide +kernel
theorem dX11_needArgument_1 : decode cX11_needArgument 1 = .ok (.ifCond .ne 14, 3) := by decide +kernel
theorem dX11_needArgument_4 : decode cX11_needArgument 4 = .ok (.new 416, 3) := by decide +kernel
theorem dX11_needArgument_7 : decode cX11_needArgument 7 = .ok (.dup, 1) := by decide +kernel
theorem dX11_needArgument_8 : decode cX11_needArgument 8 = .ok (.ldc_w 418, 3) := by decide +kernel
theorem dX11_needArgument_11 : decode cX11_needArgument 11 = .ok (.invokespecial 420, 3) := by decide +kernel
theorem dX11_needArgument_14 : decode cX11_needArgument 14 = .ok (.athrow, 1) := by decide +kernel
theorem dX11_needArgument_15 : decode cX11_needArgument 15 = .ok (.return_, 1) := by decide +kernel
theorem dX11_needState_0 : decode cX11_needState 0 = .ok (.iload_n 0, 1) := by decide +kernel
theorem dX11_needState_1 : decode cX11_needState 1 = .ok (.ifCond .ne 14, 3) := by decide +kernel
theorem dX11_needState_4 : decode cX11_needState 4 = .ok (.new 421, 3) := by decide +kernel
theorem dX11_needState_7 : decode cX11_needState 7 = .ok (.dup, 1) := by decide +kernel
theorem dX11_needState_8 : decode cX11_needState 8 = .ok (.ldc_w 423, 3) := by decide +kernel
theorem dX11_needState_11 : decode cX11_needState 11 = .ok (.invokespecial 425, 3) := by decide +kernel
theorem dX11_needState_14 : decode cX11_needState 14 = .ok (.athrow, 1) := by decide +kernel
theorem dX11_needState_15 : decode cX11_needState 15 = .ok (.return_, 1) := by decide +kernel
theorem dX11_copyAll_0 : decode cX11_copyAll 0 = .ok (.aload_n 0, 1) := by decide +kernel
theorem dX11_copyAll_1 : decode cX11_copyAll 1 = .ok (.iconst 0, 1) := by decide +kernel
theorem dX11_copyAll_2 : decode cX11_copyAll 2 = .ok (.aload_n 1, 1) := by decide +kernel
theorem dX11_copyAll_3 : decode cX11_copyAll 3 = .ok (.iconst 0, 1) := by decide +kernel
theorem dX11_copyAll_4 : decode cX11_copyAll 4 = .ok (.aload_n 0, 1) := by decide +kernel
theorem dX11_copyAll_5 : decode cX11_copyAll 5 = .ok (.arraylength, 1) := by decide +kernel
theorem dX11_copyAll_6 : decode cX11_copyAll 6 = .ok (.aload_n 1, 1) := by decide +kernel
theorem dX11_copyAll_7 : decode cX11_copyAll 7 = .ok (.arraylength, 1) := by decide +kernel
theorem dX11_copyAll_8 : decode cX11_copyAll 8 = .ok (.invokestatic 426, 3) := by decide +kernel
theorem dX11_copyAll_11 : decode cX11_copyAll 11 = .ok (.invokestatic 431, 3) := by decide +kernel
theorem dX11_copyAll_14 : decode cX11_copyAll 14 = .ok (.return_, 1) := by decide +kernel
theorem dX11_sumOf_0 : decode cX11_sumOf 0 = .ok (.lconst 0, 1) := by decide +kernel
theorem dX11_sumOf_1 : decode cX11_sumOf 1 = .ok (.lstore_n 1, 1) := by decide +kernel
theorem dX11_sumOf_2 : decode cX11_sumOf 2 = .ok (.iconst 0, 1) := by decide +kernel
theorem dX11_sumOf_3 : decode cX11_sumOf 3 = .ok (.istore_n 3, 1) := by decide +kernel
theorem dX11_sumOf_4 : decode cX11_sumOf 4 = .ok (.iload_n 3, 1) := by decide +kernel
theorem dX11_sumOf_5 : decode cX11_sumOf 5 = .ok (.aload_n 0, 1) := by decide +kernel
theorem dX11_sumOf_6 : decode cX11_sumOf 6 = .ok (.arraylength, 1) := by decide +kernel
theorem dX11_sumOf_7 : decode cX11_sumOf 7 = .ok (.if_icmp .ge 15, 3) := by decide +kernel
theorem dX11_sumOf_10 : decode cX11_sumOf 10 = .ok (.lload_n 1, 1) := by decide +kernel
theorem dX11_sumOf_11 : decode cX11_sumOf 11 = .ok (.aload_n 0, 1) := by decide +kernel
theorem dX11_sumOf_12 : decode cX11_sumOf 12 = .ok (.iload_n 3, 1) := by decide +kernel
theorem dX11_sumOf_13 : decode cX11_sumOf 13 = .ok (.laload, 1) := by decide +kernel
theorem dX11_sumOf_14 : decode cX11_sumOf 14 = .ok (.ladd, 1) := by decide +kernel
theorem dX11_sumOf_15 : decode cX11_sumOf 15 = .ok (.lstore_n 1, 1) := by decide +kernel
theorem dX11_sumOf_16 : decode cX11_sumOf 16 = .ok (.iinc 3 1, 3) := by decide +kernel
theorem dX11_sumOf_19 : decode cX11_sumOf 19 = .ok (.goto (-15), 3) := by decide +kernel
theorem dX11_sumOf_22 : decode cX11_sumOf 22 = .ok (.lload_n 1, 1) := by decide +kernel
theorem dX11_sumOf_23 : decode cX11_sumOf 23 = .ok (.lreturn, 1) := by decide +kernel
theorem dX12_init_0 : decode cX12_init 0 = .ok (.aload_n 0, 1) := by decide +kernel
theorem dX12_init_1 : decode cX12_init 1 = .ok (.invokespecial 1, 3) := by decide +kernel
theorem dX12_init_4 : decode cX12_init 4 = .ok (.aload_n 0, 1) := by decide +kernel
theorem dX12_init_5 : decode cX12_init 5 = .ok (.sipush 1550, 3) := by decide +kernel
theorem dX12_init_8 : decode cX12_init 8 = .ok (.newarray .long, 2) := by decide +kernel
theorem dX12_init_10 : decode cX12_init 10 = .ok (.putfield 7, 3) := by decide +kernel
theorem dX12_init_13 : decode cX12_init 13 = .ok (.aload_n 0, 1) := by decide +kernel
theorem dX12_init_14 : decode cX12_init 14 = .ok (.sipush 1550, 3) := by decide +kernel
theorem dX12_init_17 : decode cX12_init 17 = .ok (.newarray .long, 2) := by decide +kernel
theorem dX12_init_19 : decode cX12_init 19 = .ok (.putfield 13, 3) := by decide +kernel
theorem dX12_init_22 : decode cX12_init 22 = .ok (.aload_n 0, 1) := by decide +kernel
theorem dX12_init_23 : decode cX12_init 23 = .ok (.bipush 10, 2) := by decide +kernel
theorem dX12_init_25 : decode cX12_init 25 = .ok (.newarray .int, 2) := by decide +kernel
theorem dX12_init_27 : decode cX12_init 27 = .ok (.putfield 16, 3) := by decide +kernel
theorem dX12_init_30 : decode cX12_init 30 = .ok (.aload_n 0, 1) := by decide +kernel
theorem dX12_init_31 : decode cX12_init 31 = .ok (.bipush 10, 2) := by decide +kernel
theorem dX12_init_33 : decode cX12_init 33 = .ok (.newarray .int, 2) := by decide +kernel
theorem dX12_init_35 : decode cX12_init 35 = .ok (.putfield 20, 3) := by decide +kernel
theorem dX12_init_38 : decode cX12_init 38 = .ok (.aload_n 0, 1) := by decide +kernel
theorem dX12_init_39 : decode cX12_init 39 = .ok (.bipush 20, 2) := by decide +kernel
theorem dX12_init_41 : decode cX12_init 41 = .ok (.newarray .int, 2) := by decide +kernel
theorem dX12_init_43 : decode cX12_init 43 = .ok (.putfield 23, 3) := by decide +kernel
theorem dX12_init_46 : decode cX12_init 46 = .ok (.iconst 0, 1) := by decide +kernel
theorem dX12_init_47 : decode cX12_init 47 = .ok (.istore_n 1, 1) := by decide +kernel
theorem dX12_init_48 : decode cX12_init 48 = .ok (.iload_n 1, 1) := by decide +kernel
theorem dX12_init_49 : decode cX12_init 49 = .ok (.bipush 9, 2) := by decide +kernel
theorem dX12_init_51 : decode cX12_init 51 = .ok (.if_icmp .ge 22, 3) := by decide +kernel
theorem dX12_init_54 : decode cX12_init 54 = .ok (.aload_n 0, 1) := by decide +kernel
theorem dX12_init_55 : decode cX12_init 55 = .ok (.getfield 7, 3) := by decide +kernel
theorem dX12_init_58 : decode cX12_init 58 = .ok (.sipush 196, 3) := by decide +kernel
theorem dX12_init_61 : decode cX12_init 61 = .ok (.iload_n 1, 1) := by decide +kernel
theorem dX12_init_62 : decode cX12_init 62 = .ok (.iadd, 1) := by decide +kernel
theorem dX12_init_63 : decode cX12_init 63 = .ok (.ldc2_w 26, 3) := by decide +kernel
theorem dX12_init_66 : decode cX12_init 66 = .ok (.lastore, 1) := by decide +kernel
theorem dX12_init_67 : decode cX12_init 67 = .ok (.iinc 1 1, 3) := by decide +kernel
theorem dX12_init_70 : decode cX12_init 70 = .ok (.goto (-22), 3) := by decide +kernel
theorem dX12_init_73 : decode cX12_init 73 = .ok (.return_, 1) := by decide +kernel
theorem dX12_thrown_0 : decode cX12_thrown 0 = .ok (.aload_n 0, 1) := by decide +kernel
theorem dX12_thrown_1 : decode cX12_thrown 1 = .ok (.getfield 28, 3) := by decide +kernel
theorem dX12_thrown_4 : decode cX12_thrown 4 = .ok (.ireturn, 1) := by decide +kernel
theorem dX12_holds_0 : decode cX12_holds 0 = .ok (.aload_n 0, 1) := by decide +kernel
theorem dX12_holds_1 : decode cX12_holds 1 = .ok (.iload_n 1, 1) := by decide +kernel
theorem dX12_holds_2 : decode cX12_holds 2 = .ok (.putfield 28, 3) := by decide +kernel
theorem dX12_holds_5 : decode cX12_holds 5 = .ok (.iload_n 1, 1) := by decide +kernel
theorem dX12_holds_6 : decode cX12_holds 6 = .ok (.ifCond .le 7, 3) := by decide +kernel
theorem dX12_holds_9 : decode cX12_holds 9 = .ok (.iconst 1, 1) := by decide +kernel
theorem dX12_holds_10 : decode cX12_holds 10 = .ok (.goto 4, 3) := by decide +kernel
theorem dX12_holds_13 : decode cX12_holds 13 = .ok (.iconst 0, 1) := by decide +kernel
theorem dX12_holds_14 : decode cX12_holds 14 = .ok (.ireturn, 1) := by decide +kernel
theorem dX12_in_0 : decode cX12_in 0 = .ok (.lload_n 1, 1) := by decide +kernel
theorem dX12_in_1 : decode cX12_in 1 = .ok (.lload_n 3, 1) := by decide +kernel
theorem dX12_in_2 : decode cX12_in 2 = .ok (.lcmp, 1) := by decide +kernel
theorem dX12_in_3 : decode cX12_in 3 = .ok (.ifCond .lt 14, 3) := by decide +kernel
theorem dX12_in_6 : decode cX12_in 6 = .ok (.lload_n 1, 1) := by decide +kernel
theorem dX12_in_7 : decode cX12_in 7 = .ok (.lload 5, 2) := by decide +kernel
theorem dX12_in_9 : decode cX12_in 9 = .ok (.lcmp, 1) := by decide +kernel
theorem dX12_in_10 : decode cX12_in 10 = .ok (.ifCond .gt 7, 3) := by decide +kernel
theorem dX12_in_13 : decode cX12_in 13 = .ok (.iconst 1, 1) := by decide +kernel
theorem dX12_in_14 : decode cX12_in 14 = .ok (.goto 4, 3) := by decide +kernel
theorem dX12_in_17 : decode cX12_in 17 = .ok (.iconst 0, 1) := by decide +kernel
theorem dX12_in_18 : decode cX12_in 18 = .ok (.ireturn, 1) := by decide +kernel
theorem dX12_isAccount_0 : decode cX12_isAccount 0 = .ok (.aload_n 0, 1) := by decide +kernel
theorem dX12_isAccount_1 : decode cX12_isAccount 1 = .ok (.iload_n 1, 1) := by decide +kernel
theorem dX12_isAccount_2 : decode cX12_isAccount 2 = .ok (.i2l, 1) := by decide +kernel
theorem dX12_isAccount_3 : decode cX12_isAccount 3 = .ok (.lconst 0, 1) := by decide +kernel
theorem dX12_isAccount_4 : decode cX12_isAccount 4 = .ok (.aload_n 0, 1) := by decide +kernel
theorem dX12_isAccount_5 : decode cX12_isAccount 5 = .ok (.getfield 7, 3) := by decide +kernel
theorem dX12_isAccount_8 : decode cX12_isAccount 8 = .ok (.sipush 1540, 3) := by decide +kernel
theorem dX12_isAccount_11 : decode cX12_isAccount 11 = .ok (.laload, 1) := by decide +kernel
theorem dX12_isAccount_12 : decode cX12_isAccount 12 = .ok (.lconst 1, 1) := by decide +kernel
theorem dX12_isAccount_13 : decode cX12_isAccount 13 = .ok (.lsub, 1) := by decide +kernel
theorem dX12_isAccount_14 : decode cX12_isAccount 14 = .ok (.invokevirtual 32, 3) := by decide +kernel
theorem dX12_isAccount_17 : decode cX12_isAccount 17 = .ok (.ireturn, 1) := by decide +kernel
theorem dX12_isSecurity_0 : decode cX12_isSecurity 0 = .ok (.aload_n 0, 1) := by decide +kernel
theorem dX12_isSecurity_1 : decode cX12_isSecurity 1 = .ok (.iload_n 1, 1) := by decide +kernel
theorem dX12_isSecurity_2 : decode cX12_isSecurity 2 = .ok (.i2l, 1) := by decide +kernel
theorem dX12_isSecurity_3 : decode cX12_isSecurity 3 = .ok (.lconst 0, 1) := by decide +kernel
theorem dX12_isSecurity_4 : decode cX12_isSecurity 4 = .ok (.aload_n 0, 1) := by decide +kernel
theorem dX12_isSecurity_5 : decode cX12_isSecurity 5 = .ok (.getfield 7, 3) := by decide +kernel
theorem dX12_isSecurity_8 : decode cX12_isSecurity 8 = .ok (.sipush 1541, 3) := by decide +kernel
theorem dX12_isSecurity_11 : decode cX12_isSecurity 11 = .ok (.laload, 1) := by decide +kernel
theorem dX12_isSecurity_12 : decode cX12_isSecurity 12 = .ok (.lconst 1, 1) := by decide +kernel
theorem dX12_isSecurity_13 : decode cX12_isSecurity 13 = .ok (.lsub, 1) := by decide +kernel
theorem dX12_isSecurity_14 : decode cX12_isSecurity 14 = .ok (.invokevirtual 32, 3) := by decide +kernel
theorem dX12_isSecurity_17 : decode cX12_isSecurity 17 = .ok (.ireturn, 1) := by decide +kernel
theorem dX12_isInstruction_0 : decode cX12_isInstruction 0 = .ok (.aload_n 0, 1) := by decide +kernel
theorem dX12_isInstruction_1 : decode cX12_isInstruction 1 = .ok (.iload_n 1, 1) := by decide +kernel
theorem dX12_isInstruction_2 : decode cX12_isInstruction 2 = .ok (.i2l, 1) := by decide +kernel
theorem dX12_isInstruction_3 : decode cX12_isInstruction 3 = .ok (.lconst 0, 1) := by decide +kernel
theorem dX12_isInstruction_4 : decode cX12_isInstruction 4 = .ok (.aload_n 0, 1) := by decide +kernel
theorem dX12_isInstruction_5 : decode cX12_isInstruction 5 = .ok (.getfield 7, 3) := by decide +kernel
theorem dX12_isInstruction_8 : decode cX12_isInstruction 8 = .ok (.sipush 1542, 3) := by decide +kernel
theorem dX12_isInstruction_11 : decode cX12_isInstruction 11 = .ok (.laload, 1) := by decide +kernel
theorem dX12_isInstruction_12 : decode cX12_isInstruction 12 = .ok (.lconst 1, 1) := by decide +kernel
theorem dX12_isInstruction_13 : decode cX12_isInstruction 13 = .ok (.lsub, 1) := by decide +kernel
theorem dX12_isInstruction_14 : decode cX12_isInstruction 14 = .ok (.invokevirtual 32, 3) := by decide +kernel
theorem dX12_isInstruction_17 : decode cX12_isInstruction 17 = .ok (.ireturn, 1) := by decide +kernel
theorem dX12_isTrade_0 : decode cX12_isTrade 0 = .ok (.aload_n 0, 1) := by decide +kernel
theorem dX12_isTrade_1 : decode cX12_isTrade 1 = .ok (.iload_n 1, 1) := by decide +kernel
theorem dX12_isTrade_2 : decode cX12_isTrade 2 = .ok (.i2l, 1) := by decide +kernel
theorem dX12_isTrade_3 : decode cX12_isTrade 3 = .ok (.lconst 0, 1) := by decide +kernel
theorem dX12_isTrade_4 : decode cX12_isTrade 4 = .ok (.aload_n 0, 1) := by decide +kernel
theorem dX12_isTrade_5 : decode cX12_isTrade 5 = .ok (.getfield 7, 3) := by decide +kernel
theorem dX12_isTrade_8 : decode cX12_isTrade 8 = .ok (.sipush 1543, 3) := by decide +kernel
theorem dX12_isTrade_11 : decode cX12_isTrade 11 = .ok (.laload, 1) := by decide +kernel
theorem dX12_isTrade_12 : decode cX12_isTrade 12 = .ok (.lconst 1, 1) := by decide +kernel
theorem dX12_isTrade_13 : decode cX12_isTrade 13 = .ok (.lsub, 1) := by decide +kernel
theorem dX12_isTrade_14 : decode cX12_isTrade 14 = .ok (.invokevirtual 32, 3) := by decide +kernel
theorem dX12_isTrade_17 : decode cX12_isTrade 17 = .ok (.ireturn, 1) := by decide +kernel
theorem dX12_isEvent_0 : decode cX12_isEvent 0 = .ok (.aload_n 0, 1) := by decide +kernel
theorem dX12_isEvent_1 : decode cX12_isEvent 1 = .ok (.iload_n 1, 1) := by decide +kernel
theorem dX12_isEvent_2 : decode cX12_isEvent 2 = .ok (.i2l, 1) := by decide +kernel
theorem dX12_isEvent_3 : decode cX12_isEvent 3 = .ok (.lconst 0, 1) := by decide +kernel
theorem dX12_isEvent_4 : decode cX12_isEvent 4 = .ok (.aload_n 0, 1) := by decide +kernel
theorem dX12_isEvent_5 : decode cX12_isEvent 5 = .ok (.getfield 7, 3) := by decide +kernel
theorem dX12_isEvent_8 : decode cX12_isEvent 8 = .ok (.sipush 1546, 3) := by decide +kernel
theorem dX12_isEvent_11 : decode cX12_isEvent 11 = .ok (.laload, 1) := by decide +kernel
theorem dX12_isEvent_12 : decode cX12_isEvent 12 = .ok (.lconst 1, 1) := by decide +kernel
theorem dX12_isEvent_13 : decode cX12_isEvent 13 = .ok (.lsub, 1) := by decide +kernel
theorem dX12_isEvent_14 : decode cX12_isEvent 14 = .ok (.invokevirtual 32, 3) := by decide +kernel
theorem dX12_isEvent_17 : decode cX12_isEvent 17 = .ok (.ireturn, 1) := by decide +kernel
theorem dX12_isLoan_0 : decode cX12_isLoan 0 = .ok (.aload_n 0, 1) := by decide +kernel
theorem dX12_isLoan_1 : decode cX12_isLoan 1 = .ok (.iload_n 1, 1) := by decide +kernel
theorem dX12_isLoan_2 : decode cX12_isLoan 2 = .ok (.i2l, 1) := by decide +kernel
theorem dX12_isLoan_3 : decode cX12_isLoan 3 = .ok (.lconst 0, 1) := by decide +kernel
theorem dX12_isLoan_4 : decode cX12_isLoan 4 = .ok (.aload_n 0, 1) := by decide +kernel
theorem dX12_isLoan_5 : decode cX12_isLoan 5 = .ok (.getfield 7, 3) := by decide +kernel
theorem dX12_isLoan_8 : decode cX12_isLoan 8 = .ok (.sipush 1545, 3) := by decide +kernel
theorem dX12_isLoan_11 : decode cX12_isLoan 11 = .ok (.laload, 1) := by decide +kernel
theorem dX12_isLoan_12 : decode cX12_isLoan 12 = .ok (.lconst 1, 1) := by decide +kernel
theorem dX12_isLoan_13 : decode cX12_isLoan 13 = .ok (.lsub, 1) := by decide +kernel
theorem dX12_isLoan_14 : decode cX12_isLoan 14 = .ok (.invokevirtual 32, 3) := by decide +kernel
theorem dX12_isLoan_17 : decode cX12_isLoan 17 = .ok (.ireturn, 1) := by decide +kernel
theorem dX12_freeOf_0 : decode cX12_freeOf 0 = .ok (.aload_n 0, 1) := by decide +kernel
theorem dX12_freeOf_1 : decode cX12_freeOf 1 = .ok (.getfield 7, 3) := by decide +kernel
theorem dX12_freeOf_4 : decode cX12_freeOf 4 = .ok (.bipush 100, 2) := by decide +kernel
theorem dX12_freeOf_6 : decode cX12_freeOf 6 = .ok (.iconst 4, 1) := by decide +kernel
theorem dX12_freeOf_7 : decode cX12_freeOf 7 = .ok (.iload_n 1, 1) := by decide +kernel
theorem dX12_freeOf_8 : decode cX12_freeOf 8 = .ok (.imul, 1) := by decide +kernel
theorem dX12_freeOf_9 : decode cX12_freeOf 9 = .ok (.iadd, 1) := by decide +kernel
theorem dX12_freeOf_10 : decode cX12_freeOf 10 = .ok (.iload_n 2, 1) := by decide +kernel
theorem dX12_freeOf_11 : decode cX12_freeOf 11 = .ok (.iadd, 1) := by decide +kernel
theorem dX12_freeOf_12 : decode cX12_freeOf 12 = .ok (.laload, 1) := by decide +kernel
theorem dX12_freeOf_13 : decode cX12_freeOf 13 = .ok (.aload_n 0, 1) := by decide +kernel
theorem dX12_freeOf_14 : decode cX12_freeOf 14 = .ok (.getfield 7, 3) := by decide +kernel
theorem dX12_freeOf_17 : decode cX12_freeOf 17 = .ok (.sipush 140, 3) := by decide +kernel
theorem dX12_freeOf_20 : decode cX12_freeOf 20 = .ok (.iconst 4, 1) := by decide +kernel
theorem dX12_freeOf_21 : decode cX12_freeOf 21 = .ok (.iload_n 1, 1) := by decide +kernel
theorem dX12_freeOf_22 : decode cX12_freeOf 22 = .ok (.imul, 1) := by decide +kernel
theorem dX12_freeOf_23 : decode cX12_freeOf 23 = .ok (.iadd, 1) := by decide +kernel
theorem dX12_freeOf_24 : decode cX12_freeOf 24 = .ok (.iload_n 2, 1) := by decide +kernel
theorem dX12_freeOf_25 : decode cX12_freeOf 25 = .ok (.iadd, 1) := by decide +kernel
theorem dX12_freeOf_26 : decode cX12_freeOf 26 = .ok (.laload, 1) := by decide +kernel
theorem dX12_freeOf_27 : decode cX12_freeOf 27 = .ok (.lsub, 1) := by decide +kernel
theorem dX12_freeOf_28 : decode cX12_freeOf 28 = .ok (.lreturn, 1) := by decide +kernel
theorem dX12_freeCash_0 : decode cX12_freeCash 0 = .ok (.aload_n 0, 1) := by decide +kernel
theorem dX12_freeCash_1 : decode cX12_freeCash 1 = .ok (.getfield 7, 3) := by decide +kernel
theorem dX12_freeCash_4 : decode cX12_freeCash 4 = .ok (.bipush 30, 2) := by decide +kernel
theorem dX12_freeCash_6 : decode cX12_freeCash 6 = .ok (.iload_n 1, 1) := by decide +kernel
theorem dX12_freeCash_7 : decode cX12_freeCash 7 = .ok (.iadd, 1) := by decide +kernel
theorem dX12_freeCash_8 : decode cX12_freeCash 8 = .ok (.laload, 1) := by decide +kernel
theorem dX12_freeCash_9 : decode cX12_freeCash 9 = .ok (.aload_n 0, 1) := by decide +kernel
theorem dX12_freeCash_10 : decode cX12_freeCash 10 = .ok (.getfield 7, 3) := by decide +kernel
theorem dX12_freeCash_13 : decode cX12_freeCash 13 = .ok (.bipush 40, 2) := by decide +kernel
theorem dX12_freeCash_15 : decode cX12_freeCash 15 = .ok (.iload_n 1, 1) := by decide +kernel
theorem dX12_freeCash_16 : decode cX12_freeCash 16 = .ok (.iadd, 1) := by decide +kernel
theorem dX12_freeCash_17 : decode cX12_freeCash 17 = .ok (.laload, 1) := by decide +kernel
theorem dX12_freeCash_18 : decode cX12_freeCash 18 = .ok (.lsub, 1) := by decide +kernel
theorem dX12_freeCash_19 : decode cX12_freeCash 19 = .ok (.lreturn, 1) := by decide +kernel
theorem dX12_half_0 : decode cX12_half 0 = .ok (.lload_n 1, 1) := by decide +kernel
theorem dX12_half_1 : decode cX12_half 1 = .ok (.lconst 0, 1) := by decide +kernel
theorem dX12_half_2 : decode cX12_half 2 = .ok (.lcmp, 1) := by decide +kernel
theorem dX12_half_3 : decode cX12_half 3 = .ok (.ifCond .ge 13, 3) := by decide +kernel
theorem dX12_half_6 : decode cX12_half 6 = .ok (.lload_n 1, 1) := by decide +kernel
theorem dX12_half_7 : decode cX12_half 7 = .ok (.ldc2_w 36, 3) := by decide +kernel
theorem dX12_half_10 : decode cX12_half 10 = .ok (.lrem, 1) := by decide +kernel
theorem dX12_half_11 : decode cX12_half 11 = .ok (.lconst 0, 1) := by decide +kernel
theorem dX12_half_12 : decode cX12_half 12 = .ok (.lcmp, 1) := by decide +kernel
theorem dX12_half_13 : decode cX12_half 13 = .ok (.ifCond .ne 11, 3) := by decide +kernel
theorem dX12_half_16 : decode cX12_half 16 = .ok (.lload_n 1, 1) := by decide +kernel
theorem dX12_half_17 : decode cX12_half 17 = .ok (.ldc2_w 36, 3) := by decide +kernel
theorem dX12_half_20 : decode cX12_half 20 = .ok (.ldiv, 1) := by decide +kernel
theorem dX12_half_21 : decode cX12_half 21 = .ok (.goto 10, 3) := by decide +kernel
theorem dX12_half_24 : decode cX12_half 24 = .ok (.lload_n 1, 1) := by decide +kernel
theorem dX12_half_25 : decode cX12_half 25 = .ok (.ldc2_w 36, 3) := by decide +kernel
theorem dX12_half_28 : decode cX12_half 28 = .ok (.ldiv, 1) := by decide +kernel
theorem dX12_half_29 : decode cX12_half 29 = .ok (.lconst 1, 1) := by decide +kernel
theorem dX12_half_30 : decode cX12_half 30 = .ok (.lsub, 1) := by decide +kernel
theorem dX12_half_31 : decode cX12_half 31 = .ok (.lreturn, 1) := by decide +kernel
theorem dX12_limitOf_0 : decode cX12_limitOf 0 = .ok (.lconst 0, 1) := by decide +kernel
theorem dX12_limitOf_1 : decode cX12_limitOf 1 = .ok (.lstore_n 2, 1) := by decide +kernel
theorem dX12_limitOf_2 : decode cX12_limitOf 2 = .ok (.iconst 0, 1) := by decide +kernel
theorem dX12_limitOf_3 : decode cX12_limitOf 3 = .ok (.istore 4, 2) := by decide +kernel
theorem dX12_limitOf_5 : decode cX12_limitOf 5 = .ok (.iload 4, 2) := by decide +kernel
theorem dX12_limitOf_7 : decode cX12_limitOf 7 = .ok (.i2l, 1) := by decide +kernel
theorem dX12_limitOf_8 : decode cX12_limitOf 8 = .ok (.aload_n 0, 1) := by decide +kernel
theorem dX12_limitOf_9 : decode cX12_limitOf 9 = .ok (.getfield 7, 3) := by decide +kernel
theorem dX12_limitOf_12 : decode cX12_limitOf 12 = .ok (.sipush 1541, 3) := by decide +kernel
theorem dX12_limitOf_15 : decode cX12_limitOf 15 = .ok (.laload, 1) := by decide +kernel
theorem dX12_limitOf_16 : decode cX12_limitOf 16 = .ok (.lcmp, 1) := by decide +kernel
theorem dX12_limitOf_17 : decode cX12_limitOf 17 = .ok (.ifCond .ge 31, 3) := by decide +kernel
theorem dX12_limitOf_20 : decode cX12_limitOf 20 = .ok (.lload_n 2, 1) := by decide +kernel
theorem dX12_limitOf_21 : decode cX12_limitOf 21 = .ok (.aload_n 0, 1) := by decide +kernel
theorem dX12_limitOf_22 : decode cX12_limitOf 22 = .ok (.iload_n 1, 1) := by decide +kernel
theorem dX12_limitOf_23 : decode cX12_limitOf 23 = .ok (.iload 4, 2) := by decide +kernel
theorem dX12_limitOf_25 : decode cX12_limitOf 25 = .ok (.invokevirtual 38, 3) := by decide +kernel
theorem dX12_limitOf_28 : decode cX12_limitOf 28 = .ok (.aload_n 0, 1) := by decide +kernel
theorem dX12_limitOf_29 : decode cX12_limitOf 29 = .ok (.getfield 7, 3) := by decide +kernel
theorem dX12_limitOf_32 : decode cX12_limitOf 32 = .ok (.sipush 184, 3) := by decide +kernel
theorem dX12_limitOf_35 : decode cX12_limitOf 35 = .ok (.iload 4, 2) := by decide +kernel
theorem dX12_limitOf_37 : decode cX12_limitOf 37 = .ok (.iadd, 1) := by decide +kernel
theorem dX12_limitOf_38 : decode cX12_limitOf 38 = .ok (.laload, 1) := by decide +kernel
theorem dX12_limitOf_39 : decode cX12_limitOf 39 = .ok (.lmul, 1) := by decide +kernel
theorem dX12_limitOf_40 : decode cX12_limitOf 40 = .ok (.ladd, 1) := by decide +kernel
theorem dX12_limitOf_41 : decode cX12_limitOf 41 = .ok (.lstore_n 2, 1) := by decide +kernel
theorem dX12_limitOf_42 : decode cX12_limitOf 42 = .ok (.iinc 4 1, 3) := by decide +kernel
theorem dX12_limitOf_45 : decode cX12_limitOf 45 = .ok (.goto (-40), 3) := by decide +kernel
theorem dX12_limitOf_48 : decode cX12_limitOf 48 = .ok (.aload_n 0, 1) := by decide +kernel
theorem dX12_limitOf_49 : decode cX12_limitOf 49 = .ok (.getfield 7, 3) := by decide +kernel
theorem dX12_limitOf_52 : decode cX12_limitOf 52 = .ok (.bipush 50, 2) := by decide +kernel
theorem dX12_limitOf_54 : decode cX12_limitOf 54 = .ok (.iload_n 1, 1) := by decide +kernel
theorem dX12_limitOf_55 : decode cX12_limitOf 55 = .ok (.iadd, 1) := by decide +kernel
theorem dX12_limitOf_56 : decode cX12_limitOf 56 = .ok (.laload, 1) := by decide +kernel
theorem dX12_limitOf_57 : decode cX12_limitOf 57 = .ok (.aload_n 0, 1) := by decide +kernel
theorem dX12_limitOf_58 : decode cX12_limitOf 58 = .ok (.lload_n 2, 1) := by decide +kernel
theorem dX12_limitOf_59 : decode cX12_limitOf 59 = .ok (.invokevirtual 42, 3) := by decide +kernel
theorem dX12_limitOf_62 : decode cX12_limitOf 62 = .ok (.ladd, 1) := by decide +kernel
theorem dX12_limitOf_63 : decode cX12_limitOf 63 = .ok (.lreturn, 1) := by decide +kernel
theorem dX12_sound_0 : decode cX12_sound 0 = .ok (.aload_n 0, 1) := by decide +kernel
theorem dX12_sound_1 : decode cX12_sound 1 = .ok (.iload_n 1, 1) := by decide +kernel
theorem dX12_sound_2 : decode cX12_sound 2 = .ok (.invokevirtual 46, 3) := by decide +kernel
theorem dX12_sound_5 : decode cX12_sound 5 = .ok (.aload_n 0, 1) := by decide +kernel
theorem dX12_sound_6 : decode cX12_sound 6 = .ok (.iload_n 1, 1) := by decide +kernel
theorem dX12_sound_7 : decode cX12_sound 7 = .ok (.invokevirtual 50, 3) := by decide +kernel
theorem dX12_sound_10 : decode cX12_sound 10 = .ok (.ladd, 1) := by decide +kernel
theorem dX12_sound_11 : decode cX12_sound 11 = .ok (.lconst 0, 1) := by decide +kernel
theorem dX12_sound_12 : decode cX12_sound 12 = .ok (.lcmp, 1) := by decide +kernel
theorem dX12_sound_13 : decode cX12_sound 13 = .ok (.ifCond .lt 7, 3) := by decide +kernel
theorem dX12_sound_16 : decode cX12_sound 16 = .ok (.iconst 1, 1) := by decide +kernel
theorem dX12_sound_17 : decode cX12_sound 17 = .ok (.goto 4, 3) := by decide +kernel
theorem dX12_sound_20 : decode cX12_sound 20 = .ok (.iconst 0, 1) := by decide +kernel
theorem dX12_sound_21 : decode cX12_sound 21 = .ok (.istore_n 2, 1) := by decide +kernel
theorem dX12_sound_22 : decode cX12_sound 22 = .ok (.iconst 0, 1) := by decide +kernel
theorem dX12_sound_23 : decode cX12_sound 23 = .ok (.istore_n 3, 1) := by decide +kernel
theorem dX12_sound_24 : decode cX12_sound 24 = .ok (.iload_n 3, 1) := by decide +kernel
theorem dX12_sound_25 : decode cX12_sound 25 = .ok (.i2l, 1) := by decide +kernel
theorem dX12_sound_26 : decode cX12_sound 26 = .ok (.aload_n 0, 1) := by decide +kernel
theorem dX12_sound_27 : decode cX12_sound 27 = .ok (.getfield 7, 3) := by decide +kernel
theorem dX12_sound_30 : decode cX12_sound 30 = .ok (.sipush 1541, 3) := by decide +kernel
theorem dX12_sound_33 : decode cX12_sound 33 = .ok (.laload, 1) := by decide +kernel
theorem dX12_sound_34 : decode cX12_sound 34 = .ok (.lcmp, 1) := by decide +kernel
theorem dX12_sound_35 : decode cX12_sound 35 = .ok (.ifCond .ge 28, 3) := by decide +kernel
theorem dX12_sound_38 : decode cX12_sound 38 = .ok (.iload_n 2, 1) := by decide +kernel
theorem dX12_sound_39 : decode cX12_sound 39 = .ok (.aload_n 0, 1) := by decide +kernel
theorem dX12_sound_40 : decode cX12_sound 40 = .ok (.iload_n 1, 1) := by decide +kernel
theorem dX12_sound_41 : decode cX12_sound 41 = .ok (.iload_n 3, 1) := by decide +kernel
theorem dX12_sound_42 : decode cX12_sound 42 = .ok (.invokevirtual 38, 3) := by decide +kernel
theorem dX12_sound_45 : decode cX12_sound 45 = .ok (.lconst 0, 1) := by decide +kernel
theorem dX12_sound_46 : decode cX12_sound 46 = .ok (.lcmp, 1) := by decide +kernel
theorem dX12_sound_47 : decode cX12_sound 47 = .ok (.ifCond .lt 7, 3) := by decide +kernel
theorem dX12_sound_50 : decode cX12_sound 50 = .ok (.iconst 1, 1) := by decide +kernel
theorem dX12_sound_51 : decode cX12_sound 51 = .ok (.goto 4, 3) := by decide +kernel
theorem dX12_sound_54 : decode cX12_sound 54 = .ok (.iconst 0, 1) := by decide +kernel
theorem dX12_sound_55 : decode cX12_sound 55 = .ok (.iand, 1) := by decide +kernel
theorem dX12_sound_56 : decode cX12_sound 56 = .ok (.istore_n 2, 1) := by decide +kernel
theorem dX12_sound_57 : decode cX12_sound 57 = .ok (.iinc 3 1, 3) := by decide +kernel
theorem dX12_sound_60 : decode cX12_sound 60 = .ok (.goto (-36), 3) := by decide +kernel
theorem dX12_sound_63 : decode cX12_sound 63 = .ok (.iload_n 2, 1) := by decide +kernel
theorem dX12_sound_64 : decode cX12_sound 64 = .ok (.ireturn, 1) := by decide +kernel
theorem dX12_open_0 : decode cX12_open 0 = .ok (.aload_n 0, 1) := by decide +kernel
theorem dX12_open_1 : decode cX12_open 1 = .ok (.iload_n 3, 1) := by decide +kernel
theorem dX12_open_2 : decode cX12_open 2 = .ok (.i2l, 1) := by decide +kernel
theorem dX12_open_3 : decode cX12_open 3 = .ok (.lconst 0, 1) := by decide +kernel
theorem dX12_open_4 : decode cX12_open 4 = .ok (.ldc2_w 36, 3) := by decide +kernel
theorem dX12_open_7 : decode cX12_open 7 = .ok (.invokevirtual 32, 3) := by decide +kernel
theorem dX12_open_10 : decode cX12_open 10 = .ok (.ifCond .eq 35, 3) := by decide +kernel
theorem dX12_open_13 : decode cX12_open 13 = .ok (.aload_n 0, 1) := by decide +kernel
theorem dX12_open_14 : decode cX12_open 14 = .ok (.iload 4, 2) := by decide +kernel
theorem dX12_open_16 : decode cX12_open 16 = .ok (.i2l, 1) := by decide +kernel
theorem dX12_open_17 : decode cX12_open 17 = .ok (.lconst 0, 1) := by decide +kernel
theorem dX12_open_18 : decode cX12_open 18 = .ok (.ldc2_w 53, 3) := by decide +kernel
theorem dX12_open_21 : decode cX12_open 21 = .ok (.invokevirtual 32, 3) := by decide +kernel
theorem dX12_open_24 : decode cX12_open 24 = .ok (.ifCond .eq 21, 3) := by decide +kernel
theorem dX12_open_27 : decode cX12_open 27 = .ok (.aload_n 0, 1) := by decide +kernel
theorem dX12_open_28 : decode cX12_open 28 = .ok (.iload 5, 2) := by decide +kernel
theorem dX12_open_30 : decode cX12_open 30 = .ok (.i2l, 1) := by decide +kernel
theorem dX12_open_31 : decode cX12_open 31 = .ok (.lconst 0, 1) := by decide +kernel
theorem dX12_open_32 : decode cX12_open 32 = .ok (.ldc2_w 53, 3) := by decide +kernel
theorem dX12_open_35 : decode cX12_open 35 = .ok (.invokevirtual 32, 3) := by decide +kernel
theorem dX12_open_38 : decode cX12_open 38 = .ok (.ifCond .eq 7, 3) := by decide +kernel
theorem dX12_open_41 : decode cX12_open 41 = .ok (.iconst 1, 1) := by decide +kernel
theorem dX12_open_42 : decode cX12_open 42 = .ok (.goto 4, 3) := by decide +kernel
theorem dX12_open_45 : decode cX12_open 45 = .ok (.iconst 0, 1) := by decide +kernel
theorem dX12_open_46 : decode cX12_open 46 = .ok (.istore 6, 2) := by decide +kernel
theorem dX12_open_48 : decode cX12_open 48 = .ok (.iload_n 1, 1) := by decide +kernel
theorem dX12_open_49 : decode cX12_open 49 = .ok (.iconst (-1), 1) := by decide +kernel
theorem dX12_open_50 : decode cX12_open 50 = .ok (.if_icmp .eq 11, 3) := by decide +kernel
theorem dX12_open_53 : decode cX12_open 53 = .ok (.aload_n 0, 1) := by decide +kernel
theorem dX12_open_54 : decode cX12_open 54 = .ok (.iload_n 1, 1) := by decide +kernel
theorem dX12_open_55 : decode cX12_open 55 = .ok (.invokevirtual 55, 3) := by decide +kernel
theorem dX12_open_58 : decode cX12_open 58 = .ok (.ifCond .eq 7, 3) := by decide +kernel
theorem dX12_open_61 : decode cX12_open 61 = .ok (.iconst 1, 1) := by decide +kernel
theorem dX12_open_62 : decode cX12_open 62 = .ok (.goto 4, 3) := by decide +kernel
theorem dX12_open_65 : decode cX12_open 65 = .ok (.iconst 0, 1) := by decide +kernel
theorem dX12_open_66 : decode cX12_open 66 = .ok (.istore 7, 2) := by decide +kernel
theorem dX12_open_68 : decode cX12_open 68 = .ok (.iload 7, 2) := by decide +kernel
theorem dX12_open_70 : decode cX12_open 70 = .ok (.ifCond .eq 18, 3) := by decide +kernel
theorem dX12_open_73 : decode cX12_open 73 = .ok (.iload_n 1, 1) := by decide +kernel
theorem dX12_open_74 : decode cX12_open 74 = .ok (.ifCond .lt 14, 3) := by decide +kernel
theorem dX12_open_77 : decode cX12_open 77 = .ok (.aload_n 0, 1) := by decide +kernel
theorem dX12_open_78 : decode cX12_open 78 = .ok (.getfield 7, 3) := by decide +kernel
theorem dX12_open_81 : decode cX12_open 81 = .ok (.iload_n 1, 1) := by decide +kernel
theorem dX12_open_82 : decode cX12_open 82 = .ok (.laload, 1) := by decide +kernel
theorem dX12_open_83 : decode cX12_open 83 = .ok (.lconst 0, 1) := by decide +kernel
theorem dX12_open_84 : decode cX12_open 84 = .ok (.lcmp, 1) := by decide +kernel
theorem dX12_open_85 : decode cX12_open 85 = .ok (.ifCond .ge 18, 3) := by decide +kernel
theorem dX12_open_88 : decode cX12_open 88 = .ok (.aload_n 0, 1) := by decide +kernel
theorem dX12_open_89 : decode cX12_open 89 = .ok (.getfield 7, 3) := by decide +kernel
theorem dX12_open_92 : decode cX12_open 92 = .ok (.sipush 1540, 3) := by decide +kernel
theorem dX12_open_95 : decode cX12_open 95 = .ok (.laload, 1) := by decide +kernel
theorem dX12_open_96 : decode cX12_open 96 = .ok (.ldc2_w 59, 3) := by decide +kernel
theorem dX12_open_99 : decode cX12_open 99 = .ok (.lcmp, 1) := by decide +kernel
theorem dX12_open_100 : decode cX12_open 100 = .ok (.ifCond .ne 7, 3) := by decide +kernel
theorem dX12_open_103 : decode cX12_open 103 = .ok (.iconst 1, 1) := by decide +kernel
theorem dX12_open_104 : decode cX12_open 104 = .ok (.goto 4, 3) := by decide +kernel
theorem dX12_open_107 : decode cX12_open 107 = .ok (.iconst 0, 1) := by decide +kernel
theorem dX12_open_108 : decode cX12_open 108 = .ok (.istore 8, 2) := by decide +kernel
theorem dX12_open_110 : decode cX12_open 110 = .ok (.aload_n 0, 1) := by decide +kernel
theorem dX12_open_111 : decode cX12_open 111 = .ok (.iload 7, 2) := by decide +kernel
theorem dX12_open_113 : decode cX12_open 113 = .ok (.ifCond .ne 7, 3) := by decide +kernel
theorem dX12_open_116 : decode cX12_open 116 = .ok (.iconst 1, 1) := by decide +kernel
theorem dX12_open_117 : decode cX12_open 117 = .ok (.goto 22, 3) := by decide +kernel
theorem dX12_open_120 : decode cX12_open 120 = .ok (.iload 6, 2) := by decide +kernel
theorem dX12_open_122 : decode cX12_open 122 = .ok (.ifCond .ne 7, 3) := by decide +kernel
theorem dX12_open_125 : decode cX12_open 125 = .ok (.iconst 2, 1) := by decide +kernel
theorem dX12_open_126 : decode cX12_open 126 = .ok (.goto 13, 3) := by decide +kernel
theorem dX12_open_129 : decode cX12_open 129 = .ok (.iload 8, 2) := by decide +kernel
theorem dX12_open_131 : decode cX12_open 131 = .ok (.ifCond .eq 7, 3) := by decide +kernel
theorem dX12_open_134 : decode cX12_open 134 = .ok (.iconst 3, 1) := by decide +kernel
theorem dX12_open_135 : decode cX12_open 135 = .ok (.goto 4, 3) := by decide +kernel
theorem dX12_open_138 : decode cX12_open 138 = .ok (.iconst 0, 1) := by decide +kernel
theorem dX12_open_139 : decode cX12_open 139 = .ok (.invokevirtual 61, 3) := by decide +kernel
theorem dX12_open_142 : decode cX12_open 142 = .ok (.ifCond .eq 5, 3) := by decide +kernel
theorem dX12_open_145 : decode cX12_open 145 = .ok (.iconst (-1), 1) := by decide +kernel
theorem dX12_open_146 : decode cX12_open 146 = .ok (.ireturn, 1) := by decide +kernel
theorem dX12_open_147 : decode cX12_open 147 = .ok (.aload_n 0, 1) := by decide +kernel
theorem dX12_open_148 : decode cX12_open 148 = .ok (.getfield 7, 3) := by decide +kernel
theorem dX12_open_151 : decode cX12_open 151 = .ok (.sipush 1540, 3) := by decide +kernel
theorem dX12_open_154 : decode cX12_open 154 = .ok (.laload, 1) := by decide +kernel
theorem dX12_open_155 : decode cX12_open 155 = .ok (.l2i, 1) := by decide +kernel
theorem dX12_open_156 : decode cX12_open 156 = .ok (.istore 9, 2) := by decide +kernel
theorem dX12_open_158 : decode cX12_open 158 = .ok (.aload_n 0, 1) := by decide +kernel
theorem dX12_open_159 : decode cX12_open 159 = .ok (.getfield 7, 3) := by decide +kernel
theorem dX12_open_162 : decode cX12_open 162 = .ok (.iload 9, 2) := by decide +kernel
theorem dX12_open_164 : decode cX12_open 164 = .ok (.iload_n 1, 1) := by decide +kernel
theorem dX12_open_165 : decode cX12_open 165 = .ok (.i2l, 1) := by decide +kernel
theorem dX12_open_166 : decode cX12_open 166 = .ok (.lastore, 1) := by decide +kernel
theorem dX12_open_167 : decode cX12_open 167 = .ok (.aload_n 0, 1) := by decide +kernel
theorem dX12_open_168 : decode cX12_open 168 = .ok (.getfield 7, 3) := by decide +kernel
theorem dX12_open_171 : decode cX12_open 171 = .ok (.bipush 10, 2) := by decide +kernel
theorem dX12_open_173 : decode cX12_open 173 = .ok (.iload 9, 2) := by decide +kernel
theorem dX12_open_175 : decode cX12_open 175 = .ok (.iadd, 1) := by decide +kernel
theorem dX12_open_176 : decode cX12_open 176 = .ok (.iload_n 2, 1) := by decide +kernel
theorem dX12_open_177 : decode cX12_open 177 = .ok (.ifCond .eq 11, 3) := by decide +kernel
theorem dX12_open_180 : decode cX12_open 180 = .ok (.iload_n 1, 1) := by decide +kernel
theorem dX12_open_181 : decode cX12_open 181 = .ok (.ifCond .lt 7, 3) := by decide +kernel
theorem dX12_open_184 : decode cX12_open 184 = .ok (.lconst 1, 1) := by decide +kernel
theorem dX12_open_185 : decode cX12_open 185 = .ok (.goto 4, 3) := by decide +kernel
theorem dX12_open_188 : decode cX12_open 188 = .ok (.lconst 0, 1) := by decide +kernel
theorem dX12_open_189 : decode cX12_open 189 = .ok (.lastore, 1) := by decide +kernel
theorem dX12_open_190 : decode cX12_open 190 = .ok (.aload_n 0, 1) := by decide +kernel
theorem dX12_open_191 : decode cX12_open 191 = .ok (.getfield 7, 3) := by decide +kernel
theorem dX12_open_194 : decode cX12_open 194 = .ok (.bipush 20, 2) := by decide +kernel
theorem dX12_open_196 : decode cX12_open 196 = .ok (.iload 9, 2) := by decide +kernel
theorem dX12_open_198 : decode cX12_open 198 = .ok (.iadd, 1) := by decide +kernel
theorem dX12_open_199 : decode cX12_open 199 = .ok (.iload_n 3, 1) := by decide +kernel
theorem dX12_open_200 : decode cX12_open 200 = .ok (.i2l, 1) := by decide +kernel
theorem dX12_open_201 : decode cX12_open 201 = .ok (.lastore, 1) := by decide +kernel
theorem dX12_open_202 : decode cX12_open 202 = .ok (.aload_n 0, 1) := by decide +kernel
theorem dX12_open_203 : decode cX12_open 203 = .ok (.getfield 7, 3) := by decide +kernel
theorem dX12_open_206 : decode cX12_open 206 = .ok (.bipush 30, 2) := by decide +kernel
theorem dX12_open_208 : decode cX12_open 208 = .ok (.iload 9, 2) := by decide +kernel
theorem dX12_open_210 : decode cX12_open 210 = .ok (.iadd, 1) := by decide +kernel
theorem dX12_open_211 : decode cX12_open 211 = .ok (.iload 4, 2) := by decide +kernel
theorem dX12_open_213 : decode cX12_open 213 = .ok (.i2l, 1) := by decide +kernel
theorem dX12_open_214 : decode cX12_open 214 = .ok (.lastore, 1) := by decide +kernel
theorem dX12_open_215 : decode cX12_open 215 = .ok (.aload_n 0, 1) := by decide +kernel
theorem dX12_open_216 : decode cX12_open 216 = .ok (.getfield 7, 3) := by decide +kernel
theorem dX12_open_219 : decode cX12_open 219 = .ok (.bipush 50, 2) := by decide +kernel
theorem dX12_open_221 : decode cX12_open 221 = .ok (.iload 9, 2) := by decide +kernel
theorem dX12_open_223 : decode cX12_open 223 = .ok (.iadd, 1) := by decide +kernel
theorem dX12_open_224 : decode cX12_open 224 = .ok (.iload 5, 2) := by decide +kernel
theorem dX12_open_226 : decode cX12_open 226 = .ok (.i2l, 1) := by decide +kernel
theorem dX12_open_227 : decode cX12_open 227 = .ok (.lastore, 1) := by decide +kernel
theorem dX12_open_228 : decode cX12_open 228 = .ok (.aload_n 0, 1) := by decide +kernel
theorem dX12_open_229 : decode cX12_open 229 = .ok (.getfield 7, 3) := by decide +kernel
theorem dX12_open_232 : decode cX12_open 232 = .ok (.sipush 1540, 3) := by decide +kernel
theorem dX12_open_235 : decode cX12_open 235 = .ok (.dup2, 1) := by decide +kernel
theorem dX12_open_236 : decode cX12_open 236 = .ok (.laload, 1) := by decide +kernel
theorem dX12_open_237 : decode cX12_open 237 = .ok (.lconst 1, 1) := by decide +kernel
theorem dX12_open_238 : decode cX12_open 238 = .ok (.ladd, 1) := by decide +kernel
theorem dX12_open_239 : decode cX12_open 239 = .ok (.lastore, 1) := by decide +kernel
theorem dX12_open_240 : decode cX12_open 240 = .ok (.iload 9, 2) := by decide +kernel
theorem dX12_open_242 : decode cX12_open 242 = .ok (.ireturn, 1) := by decide +kernel
theorem dX12_flips_0 : decode cX12_flips 0 = .ok (.aload_n 0, 1) := by decide +kernel
theorem dX12_flips_1 : decode cX12_flips 1 = .ok (.iload_n 2, 1) := by decide +kernel
theorem dX12_flips_2 : decode cX12_flips 2 = .ok (.ifCond .eq 7, 3) := by decide +kernel
theorem dX12_flips_5 : decode cX12_flips 5 = .ok (.iconst 0, 1) := by decide +kernel
theorem dX12_flips_6 : decode cX12_flips 6 = .ok (.goto 4, 3) := by decide +kernel
theorem dX12_flips_9 : decode cX12_flips 9 = .ok (.iconst 1, 1) := by decide +kernel
theorem dX12_flips_10 : decode cX12_flips 10 = .ok (.invokevirtual 61, 3) := by decide +kernel
theorem dX12_flips_13 : decode cX12_flips 13 = .ok (.ifCond .eq 5, 3) := by decide +kernel
theorem dX12_flips_16 : decode cX12_flips 16 = .ok (.iconst 0, 1) := by decide +kernel
theorem dX12_flips_17 : decode cX12_flips 17 = .ok (.ireturn, 1) := by decide +kernel
theorem dX12_flips_18 : decode cX12_flips 18 = .ok (.aload_n 0, 1) := by decide +kernel
theorem dX12_flips_19 : decode cX12_flips 19 = .ok (.getfield 7, 3) := by decide +kernel
theorem dX12_flips_22 : decode cX12_flips 22 = .ok (.iload_n 1, 1) := by decide +kernel
theorem dX12_flips_23 : decode cX12_flips 23 = .ok (.lconst 1, 1) := by decide +kernel
theorem dX12_flips_24 : decode cX12_flips 24 = .ok (.aload_n 0, 1) := by decide +kernel
theorem dX12_flips_25 : decode cX12_flips 25 = .ok (.getfield 7, 3) := by decide +kernel
theorem dX12_flips_28 : decode cX12_flips 28 = .ok (.iload_n 1, 1) := by decide +kernel
theorem dX12_flips_29 : decode cX12_flips 29 = .ok (.laload, 1) := by decide +kernel
theorem dX12_flips_30 : decode cX12_flips 30 = .ok (.lsub, 1) := by decide +kernel
theorem dX12_flips_31 : decode cX12_flips 31 = .ok (.lastore, 1) := by decide +kernel
theorem dX12_flips_32 : decode cX12_flips 32 = .ok (.aload_n 0, 1) := by decide +kernel
theorem dX12_flips_33 : decode cX12_flips 33 = .ok (.getfield 7, 3) := by decide +kernel
theorem dX12_flips_36 : decode cX12_flips 36 = .ok (.iload_n 1, 1) := by decide +kernel
theorem dX12_flips_37 : decode cX12_flips 37 = .ok (.laload, 1) := by decide +kernel
theorem dX12_flips_38 : decode cX12_flips 38 = .ok (.lconst 1, 1) := by decide +kernel
theorem dX12_flips_39 : decode cX12_flips 39 = .ok (.lcmp, 1) := by decide +kernel
theorem dX12_flips_40 : decode cX12_flips 40 = .ok (.ifCond .ne 7, 3) := by decide +kernel
theorem dX12_flips_43 : decode cX12_flips 43 = .ok (.iconst 1, 1) := by decide +kernel
theorem dX12_flips_44 : decode cX12_flips 44 = .ok (.goto 4, 3) := by decide +kernel
theorem dX12_flips_47 : decode cX12_flips 47 = .ok (.iconst 0, 1) := by decide +kernel
theorem dX12_flips_48 : decode cX12_flips 48 = .ok (.ireturn, 1) := by decide +kernel
theorem dX12_lend_0 : decode cX12_lend 0 = .ok (.aload_n 0, 1) := by decide +kernel
theorem dX12_lend_1 : decode cX12_lend 1 = .ok (.bipush 60, 2) := by decide +kernel
theorem dX12_lend_3 : decode cX12_lend 3 = .ok (.aload_n 0, 1) := by decide +kernel
theorem dX12_lend_4 : decode cX12_lend 4 = .ok (.iload_n 1, 1) := by decide +kernel
theorem dX12_lend_5 : decode cX12_lend 5 = .ok (.invokevirtual 55, 3) := by decide +kernel
theorem dX12_lend_8 : decode cX12_lend 8 = .ok (.ifCond .eq 7, 3) := by decide +kernel
theorem dX12_lend_11 : decode cX12_lend 11 = .ok (.iload_n 1, 1) := by decide +kernel
theorem dX12_lend_12 : decode cX12_lend 12 = .ok (.goto 4, 3) := by decide +kernel
theorem dX12_lend_15 : decode cX12_lend 15 = .ok (.iconst 0, 1) := by decide +kernel
theorem dX12_lend_16 : decode cX12_lend 16 = .ok (.iadd, 1) := by decide +kernel
theorem dX12_lend_17 : decode cX12_lend 17 = .ok (.aload_n 0, 1) := by decide +kernel
theorem dX12_lend_18 : decode cX12_lend 18 = .ok (.iload_n 1, 1) := by decide +kernel
theorem dX12_lend_19 : decode cX12_lend 19 = .ok (.invokevirtual 55, 3) := by decide +kernel
theorem dX12_lend_22 : decode cX12_lend 22 = .ok (.invokevirtual 64, 3) := by decide +kernel
theorem dX12_lend_25 : decode cX12_lend 25 = .ok (.ireturn, 1) := by decide +kernel
theorem dX12_relieve_0 : decode cX12_relieve 0 = .ok (.aload_n 0, 1) := by decide +kernel
theorem dX12_relieve_1 : decode cX12_relieve 1 = .ok (.bipush 70, 2) := by decide +kernel
theorem dX12_relieve_3 : decode cX12_relieve 3 = .ok (.aload_n 0, 1) := by decide +kernel
theorem dX12_relieve_4 : decode cX12_relieve 4 = .ok (.iload_n 1, 1) := by decide +kernel
theorem dX12_relieve_5 : decode cX12_relieve 5 = .ok (.invokevirtual 55, 3) := by decide +kernel
theorem dX12_relieve_8 : decode cX12_relieve 8 = .ok (.ifCond .eq 7, 3) := by decide +kernel
theorem dX12_relieve_11 : decode cX12_relieve 11 = .ok (.iload_n 1, 1) := by decide +kernel
theorem dX12_relieve_12 : decode cX12_relieve 12 = .ok (.goto 4, 3) := by decide +kernel
theorem dX12_relieve_15 : decode cX12_relieve 15 = .ok (.iconst 0, 1) := by decide +kernel
theorem dX12_relieve_16 : decode cX12_relieve 16 = .ok (.iadd, 1) := by decide +kernel
theorem dX12_relieve_17 : decode cX12_relieve 17 = .ok (.aload_n 0, 1) := by decide +kernel
theorem dX12_relieve_18 : decode cX12_relieve 18 = .ok (.iload_n 1, 1) := by decide +kernel
theorem dX12_relieve_19 : decode cX12_relieve 19 = .ok (.invokevirtual 55, 3) := by decide +kernel
theorem dX12_relieve_22 : decode cX12_relieve 22 = .ok (.invokevirtual 64, 3) := by decide +kernel
theorem dX12_relieve_25 : decode cX12_relieve 25 = .ok (.ireturn, 1) := by decide +kernel
theorem dX12_treaty_0 : decode cX12_treaty 0 = .ok (.aload_n 0, 1) := by decide +kernel
theorem dX12_treaty_1 : decode cX12_treaty 1 = .ok (.aload_n 0, 1) := by decide +kernel
theorem dX12_treaty_2 : decode cX12_treaty 2 = .ok (.iload_n 1, 1) := by decide +kernel
theorem dX12_treaty_3 : decode cX12_treaty 3 = .ok (.i2l, 1) := by decide +kernel
theorem dX12_treaty_4 : decode cX12_treaty 4 = .ok (.lconst 0, 1) := by decide +kernel
theorem dX12_treaty_5 : decode cX12_treaty 5 = .ok (.ldc2_w 36, 3) := by decide +kernel
theorem dX12_treaty_8 : decode cX12_treaty 8 = .ok (.invokevirtual 32, 3) := by decide +kernel
theorem dX12_treaty_11 : decode cX12_treaty 11 = .ok (.ifCond .eq 33, 3) := by decide +kernel
theorem dX12_treaty_14 : decode cX12_treaty 14 = .ok (.aload_n 0, 1) := by decide +kernel
theorem dX12_treaty_15 : decode cX12_treaty 15 = .ok (.iload_n 2, 1) := by decide +kernel
theorem dX12_treaty_16 : decode cX12_treaty 16 = .ok (.i2l, 1) := by decide +kernel
theorem dX12_treaty_17 : decode cX12_treaty 17 = .ok (.lconst 0, 1) := by decide +kernel
theorem dX12_treaty_18 : decode cX12_treaty 18 = .ok (.ldc2_w 36, 3) := by decide +kernel
theorem dX12_treaty_21 : decode cX12_treaty 21 = .ok (.invokevirtual 32, 3) := by decide +kernel
theorem dX12_treaty_24 : decode cX12_treaty 24 = .ok (.ifCond .eq 20, 3) := by decide +kernel
theorem dX12_treaty_27 : decode cX12_treaty 27 = .ok (.aload_n 0, 1) := by decide +kernel
theorem dX12_treaty_28 : decode cX12_treaty 28 = .ok (.iload_n 3, 1) := by decide +kernel
theorem dX12_treaty_29 : decode cX12_treaty 29 = .ok (.i2l, 1) := by decide +kernel
theorem dX12_treaty_30 : decode cX12_treaty 30 = .ok (.lconst 0, 1) := by decide +kernel
theorem dX12_treaty_31 : decode cX12_treaty 31 = .ok (.ldc2_w 68, 3) := by decide +kernel
theorem dX12_treaty_34 : decode cX12_treaty 34 = .ok (.invokevirtual 32, 3) := by decide +kernel
theorem dX12_treaty_37 : decode cX12_treaty 37 = .ok (.ifCond .eq 7, 3) := by decide +kernel
theorem dX12_treaty_40 : decode cX12_treaty 40 = .ok (.iconst 0, 1) := by decide +kernel
theorem dX12_treaty_41 : decode cX12_treaty 41 = .ok (.goto 4, 3) := by decide +kernel
theorem dX12_treaty_44 : decode cX12_treaty 44 = .ok (.iconst 1, 1) := by decide +kernel
theorem dX12_treaty_45 : decode cX12_treaty 45 = .ok (.invokevirtual 61, 3) := by decide +kernel
theorem dX12_treaty_48 : decode cX12_treaty 48 = .ok (.ifCond .eq 5, 3) := by decide +kernel
theorem dX12_treaty_51 : decode cX12_treaty 51 = .ok (.iconst (-1), 1) := by decide +kernel
theorem dX12_treaty_52 : decode cX12_treaty 52 = .ok (.ireturn, 1) := by decide +kernel
theorem dX12_treaty_53 : decode cX12_treaty 53 = .ok (.aload_n 0, 1) := by decide +kernel
theorem dX12_treaty_54 : decode cX12_treaty 54 = .ok (.getfield 7, 3) := by decide +kernel
theorem dX12_treaty_57 : decode cX12_treaty 57 = .ok (.sipush 196, 3) := by decide +kernel
theorem dX12_treaty_60 : decode cX12_treaty 60 = .ok (.iconst 3, 1) := by decide +kernel
theorem dX12_treaty_61 : decode cX12_treaty 61 = .ok (.iload_n 1, 1) := by decide +kernel
theorem dX12_treaty_62 : decode cX12_treaty 62 = .ok (.imul, 1) := by decide +kernel
theorem dX12_treaty_63 : decode cX12_treaty 63 = .ok (.iadd, 1) := by decide +kernel
theorem dX12_treaty_64 : decode cX12_treaty 64 = .ok (.iload_n 2, 1) := by decide +kernel
theorem dX12_treaty_65 : decode cX12_treaty 65 = .ok (.iadd, 1) := by decide +kernel
theorem dX12_treaty_66 : decode cX12_treaty 66 = .ok (.laload, 1) := by decide +kernel
theorem dX12_treaty_67 : decode cX12_treaty 67 = .ok (.l2i, 1) := by decide +kernel
theorem dX12_treaty_68 : decode cX12_treaty 68 = .ok (.istore 4, 2) := by decide +kernel
theorem dX12_treaty_70 : decode cX12_treaty 70 = .ok (.aload_n 0, 1) := by decide +kernel
theorem dX12_treaty_71 : decode cX12_treaty 71 = .ok (.getfield 7, 3) := by decide +kernel
theorem dX12_treaty_74 : decode cX12_treaty 74 = .ok (.sipush 196, 3) := by decide +kernel
theorem dX12_treaty_77 : decode cX12_treaty 77 = .ok (.iconst 3, 1) := by decide +kernel
theorem dX12_treaty_78 : decode cX12_treaty 78 = .ok (.iload_n 1, 1) := by decide +kernel
theorem dX12_treaty_79 : decode cX12_treaty 79 = .ok (.imul, 1) := by decide +kernel
theorem dX12_treaty_80 : decode cX12_treaty 80 = .ok (.iadd, 1) := by decide +kernel
theorem dX12_treaty_81 : decode cX12_treaty 81 = .ok (.iload_n 2, 1) := by decide +kernel
theorem dX12_treaty_82 : decode cX12_treaty 82 = .ok (.iadd, 1) := by decide +kernel
theorem dX12_treaty_83 : decode cX12_treaty 83 = .ok (.iload_n 3, 1) := by decide +kernel
theorem dX12_treaty_84 : decode cX12_treaty 84 = .ok (.i2l, 1) := by decide +kernel
theorem dX12_treaty_85 : decode cX12_treaty 85 = .ok (.lastore, 1) := by decide +kernel
theorem dX12_treaty_86 : decode cX12_treaty 86 = .ok (.iload 4, 2) := by decide +kernel
theorem dX12_treaty_88 : decode cX12_treaty 88 = .ok (.ireturn, 1) := by decide +kernel
theorem dX12_issue_0 : decode cX12_issue 0 = .ok (.aload_n 0, 1) := by decide +kernel
theorem dX12_issue_1 : decode cX12_issue 1 = .ok (.iload_n 2, 1) := by decide +kernel
theorem dX12_issue_2 : decode cX12_issue 2 = .ok (.i2l, 1) := by decide +kernel
theorem dX12_issue_3 : decode cX12_issue 3 = .ok (.lconst 0, 1) := by decide +kernel
theorem dX12_issue_4 : decode cX12_issue 4 = .ok (.ldc2_w 36, 3) := by decide +kernel
theorem dX12_issue_7 : decode cX12_issue 7 = .ok (.invokevirtual 32, 3) := by decide +kernel
theorem dX12_issue_10 : decode cX12_issue 10 = .ok (.ifCond .eq 48, 3) := by decide +kernel
theorem dX12_issue_13 : decode cX12_issue 13 = .ok (.aload_n 0, 1) := by decide +kernel
theorem dX12_issue_14 : decode cX12_issue 14 = .ok (.iload_n 3, 1) := by decide +kernel
theorem dX12_issue_15 : decode cX12_issue 15 = .ok (.i2l, 1) := by decide +kernel
theorem dX12_issue_16 : decode cX12_issue 16 = .ok (.lconst 1, 1) := by decide +kernel
theorem dX12_issue_17 : decode cX12_issue 17 = .ok (.ldc2_w 70, 3) := by decide +kernel
theorem dX12_issue_20 : decode cX12_issue 20 = .ok (.invokevirtual 32, 3) := by decide +kernel
theorem dX12_issue_23 : decode cX12_issue 23 = .ok (.ifCond .eq 35, 3) := by decide +kernel
theorem dX12_issue_26 : decode cX12_issue 26 = .ok (.aload_n 0, 1) := by decide +kernel
theorem dX12_issue_27 : decode cX12_issue 27 = .ok (.iload 4, 2) := by decide +kernel
theorem dX12_issue_29 : decode cX12_issue 29 = .ok (.i2l, 1) := by decide +kernel
theorem dX12_issue_30 : decode cX12_issue 30 = .ok (.lconst 1, 1) := by decide +kernel
theorem dX12_issue_31 : decode cX12_issue 31 = .ok (.ldc2_w 72, 3) := by decide +kernel
theorem dX12_issue_34 : decode cX12_issue 34 = .ok (.invokevirtual 32, 3) := by decide +kernel
theorem dX12_issue_37 : decode cX12_issue 37 = .ok (.ifCond .eq 21, 3) := by decide +kernel
theorem dX12_issue_40 : decode cX12_issue 40 = .ok (.aload_n 0, 1) := by decide +kernel
theorem dX12_issue_41 : decode cX12_issue 41 = .ok (.iload 5, 2) := by decide +kernel
theorem dX12_issue_43 : decode cX12_issue 43 = .ok (.i2l, 1) := by decide +kernel
theorem dX12_issue_44 : decode cX12_issue 44 = .ok (.lconst 0, 1) := by decide +kernel
theorem dX12_issue_45 : decode cX12_issue 45 = .ok (.ldc2_w 74, 3) := by decide +kernel
theorem dX12_issue_48 : decode cX12_issue 48 = .ok (.invokevirtual 32, 3) := by decide +kernel
theorem dX12_issue_51 : decode cX12_issue 51 = .ok (.ifCond .eq 7, 3) := by decide +kernel
theorem dX12_issue_54 : decode cX12_issue 54 = .ok (.iconst 1, 1) := by decide +kernel
theorem dX12_issue_55 : decode cX12_issue 55 = .ok (.goto 4, 3) := by decide +kernel
theorem dX12_issue_58 : decode cX12_issue 58 = .ok (.iconst 0, 1) := by decide +kernel
theorem dX12_issue_59 : decode cX12_issue 59 = .ok (.istore 6, 2) := by decide +kernel
theorem dX12_issue_61 : decode cX12_issue 61 = .ok (.aload_n 0, 1) := by decide +kernel
theorem dX12_issue_62 : decode cX12_issue 62 = .ok (.aload_n 0, 1) := by decide +kernel
theorem dX12_issue_63 : decode cX12_issue 63 = .ok (.iload_n 1, 1) := by decide +kernel
theorem dX12_issue_64 : decode cX12_issue 64 = .ok (.invokevirtual 55, 3) := by decide +kernel
theorem dX12_issue_67 : decode cX12_issue 67 = .ok (.ifCond .ne 7, 3) := by decide +kernel
theorem dX12_issue_70 : decode cX12_issue 70 = .ok (.iconst 1, 1) := by decide +kernel
theorem dX12_issue_71 : decode cX12_issue 71 = .ok (.goto 32, 3) := by decide +kernel
theorem dX12_issue_74 : decode cX12_issue 74 = .ok (.iload 6, 2) := by decide +kernel
theorem dX12_issue_76 : decode cX12_issue 76 = .ok (.ifCond .ne 7, 3) := by decide +kernel
theorem dX12_issue_79 : decode cX12_issue 79 = .ok (.iconst 2, 1) := by decide +kernel
theorem dX12_issue_80 : decode cX12_issue 80 = .ok (.goto 23, 3) := by decide +kernel
theorem dX12_issue_83 : decode cX12_issue 83 = .ok (.aload_n 0, 1) := by decide +kernel
theorem dX12_issue_84 : decode cX12_issue 84 = .ok (.getfield 7, 3) := by decide +kernel
theorem dX12_issue_87 : decode cX12_issue 87 = .ok (.sipush 1541, 3) := by decide +kernel
theorem dX12_issue_90 : decode cX12_issue 90 = .ok (.laload, 1) := by decide +kernel
theorem dX12_issue_91 : decode cX12_issue 91 = .ok (.ldc2_w 76, 3) := by decide +kernel
theorem dX12_issue_94 : decode cX12_issue 94 = .ok (.lcmp, 1) := by decide +kernel
theorem dX12_issue_95 : decode cX12_issue 95 = .ok (.ifCond .ne 7, 3) := by decide +kernel
theorem dX12_issue_98 : decode cX12_issue 98 = .ok (.iconst 3, 1) := by decide +kernel
theorem dX12_issue_99 : decode cX12_issue 99 = .ok (.goto 4, 3) := by decide +kernel
theorem dX12_issue_102 : decode cX12_issue 102 = .ok (.iconst 0, 1) := by decide +kernel
theorem dX12_issue_103 : decode cX12_issue 103 = .ok (.invokevirtual 61, 3) := by decide +kernel
theorem dX12_issue_106 : decode cX12_issue 106 = .ok (.ifCond .eq 5, 3) := by decide +kernel
theorem dX12_issue_109 : decode cX12_issue 109 = .ok (.iconst (-1), 1) := by decide +kernel
theorem dX12_issue_110 : decode cX12_issue 110 = .ok (.ireturn, 1) := by decide +kernel
theorem dX12_issue_111 : decode cX12_issue 111 = .ok (.aload_n 0, 1) := by decide +kernel
theorem dX12_issue_112 : decode cX12_issue 112 = .ok (.getfield 7, 3) := by decide +kernel
theorem dX12_issue_115 : decode cX12_issue 115 = .ok (.sipush 1541, 3) := by decide +kernel
theorem dX12_issue_118 : decode cX12_issue 118 = .ok (.laload, 1) := by decide +kernel
theorem dX12_issue_119 : decode cX12_issue 119 = .ok (.l2i, 1) := by decide +kernel
theorem dX12_issue_120 : decode cX12_issue 120 = .ok (.istore 7, 2) := by decide +kernel
theorem dX12_issue_122 : decode cX12_issue 122 = .ok (.aload_n 0, 1) := by decide +kernel
theorem dX12_issue_123 : decode cX12_issue 123 = .ok (.getfield 7, 3) := by decide +kernel
theorem dX12_issue_126 : decode cX12_issue 126 = .ok (.sipush 180, 3) := by decide +kernel
theorem dX12_issue_129 : decode cX12_issue 129 = .ok (.iload 7, 2) := by decide +kernel
theorem dX12_issue_131 : decode cX12_issue 131 = .ok (.iadd, 1) := by decide +kernel
theorem dX12_issue_132 : decode cX12_issue 132 = .ok (.iload_n 2, 1) := by decide +kernel
theorem dX12_issue_133 : decode cX12_issue 133 = .ok (.i2l, 1) := by decide +kernel
theorem dX12_issue_134 : decode cX12_issue 134 = .ok (.lastore, 1) := by decide +kernel
theorem dX12_issue_135 : decode cX12_issue 135 = .ok (.aload_n 0, 1) := by decide +kernel
theorem dX12_issue_136 : decode cX12_issue 136 = .ok (.getfield 7, 3) := by decide +kernel
theorem dX12_issue_139 : decode cX12_issue 139 = .ok (.sipush 184, 3) := by decide +kernel
theorem dX12_issue_142 : decode cX12_issue 142 = .ok (.iload 7, 2) := by decide +kernel
theorem dX12_issue_144 : decode cX12_issue 144 = .ok (.iadd, 1) := by decide +kernel
theorem dX12_issue_145 : decode cX12_issue 145 = .ok (.iload 4, 2) := by decide +kernel
theorem dX12_issue_147 : decode cX12_issue 147 = .ok (.i2l, 1) := by decide +kernel
theorem dX12_issue_148 : decode cX12_issue 148 = .ok (.lastore, 1) := by decide +kernel
theorem dX12_issue_149 : decode cX12_issue 149 = .ok (.aload_n 0, 1) := by decide +kernel
theorem dX12_issue_150 : decode cX12_issue 150 = .ok (.getfield 7, 3) := by decide +kernel
theorem dX12_issue_153 : decode cX12_issue 153 = .ok (.sipush 188, 3) := by decide +kernel
theorem dX12_issue_156 : decode cX12_issue 156 = .ok (.iload 7, 2) := by decide +kernel
theorem dX12_issue_158 : decode cX12_issue 158 = .ok (.iadd, 1) := by decide +kernel
theorem dX12_issue_159 : decode cX12_issue 159 = .ok (.iload 5, 2) := by decide +kernel
theorem dX12_issue_161 : decode cX12_issue 161 = .ok (.i2l, 1) := by decide +kernel
theorem dX12_issue_162 : decode cX12_issue 162 = .ok (.lastore, 1) := by decide +kernel
theorem dX12_issue_163 : decode cX12_issue 163 = .ok (.aload_n 0, 1) := by decide +kernel
theorem dX12_issue_164 : decode cX12_issue 164 = .ok (.getfield 7, 3) := by decide +kernel
theorem dX12_issue_167 : decode cX12_issue 167 = .ok (.sipush 192, 3) := by decide +kernel
theorem dX12_issue_170 : decode cX12_issue 170 = .ok (.iload 7, 2) := by decide +kernel
theorem dX12_issue_172 : decode cX12_issue 172 = .ok (.iadd, 1) := by decide +kernel
theorem dX12_issue_173 : decode cX12_issue 173 = .ok (.iload_n 3, 1) := by decide +kernel
theorem dX12_issue_174 : decode cX12_issue 174 = .ok (.i2l, 1) := by decide +kernel
theorem dX12_issue_175 : decode cX12_issue 175 = .ok (.lastore, 1) := by decide +kernel
theorem dX12_issue_176 : decode cX12_issue 176 = .ok (.aload_n 0, 1) := by decide +kernel
theorem dX12_issue_177 : decode cX12_issue 177 = .ok (.getfield 7, 3) := by decide +kernel
theorem dX12_issue_180 : decode cX12_issue 180 = .ok (.bipush 100, 2) := by decide +kernel
theorem dX12_issue_182 : decode cX12_issue 182 = .ok (.iconst 4, 1) := by decide +kernel
theorem dX12_issue_183 : decode cX12_issue 183 = .ok (.iload_n 1, 1) := by decide +kernel
theorem dX12_issue_184 : decode cX12_issue 184 = .ok (.imul, 1) := by decide +kernel
theorem dX12_issue_185 : decode cX12_issue 185 = .ok (.iadd, 1) := by decide +kernel
theorem dX12_issue_186 : decode cX12_issue 186 = .ok (.iload 7, 2) := by decide +kernel
theorem dX12_issue_188 : decode cX12_issue 188 = .ok (.iadd, 1) := by decide +kernel
theorem dX12_issue_189 : decode cX12_issue 189 = .ok (.iload_n 3, 1) := by decide +kernel
theorem dX12_issue_190 : decode cX12_issue 190 = .ok (.i2l, 1) := by decide +kernel
theorem dX12_issue_191 : decode cX12_issue 191 = .ok (.lastore, 1) := by decide +kernel
theorem dX12_issue_192 : decode cX12_issue 192 = .ok (.aload_n 0, 1) := by decide +kernel
theorem dX12_issue_193 : decode cX12_issue 193 = .ok (.getfield 7, 3) := by decide +kernel
theorem dX12_issue_196 : decode cX12_issue 196 = .ok (.sipush 1541, 3) := by decide +kernel
theorem dX12_issue_199 : decode cX12_issue 199 = .ok (.dup2, 1) := by decide +kernel
theorem dX12_issue_200 : decode cX12_issue 200 = .ok (.laload, 1) := by decide +kernel
theorem dX12_issue_201 : decode cX12_issue 201 = .ok (.lconst 1, 1) := by decide +kernel
theorem dX12_issue_202 : decode cX12_issue 202 = .ok (.ladd, 1) := by decide +kernel
theorem dX12_issue_203 : decode cX12_issue 203 = .ok (.lastore, 1) := by decide +kernel
theorem dX12_issue_204 : decode cX12_issue 204 = .ok (.iload 7, 2) := by decide +kernel
theorem dX12_issue_206 : decode cX12_issue 206 = .ok (.ireturn, 1) := by decide +kernel
