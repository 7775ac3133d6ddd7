theorem dL_tradeAmount_0 : decode cL_tradeAmount 0 = .ok (.aload_n 2, 1) := by decide +kernel
theorem dL_tradeAmount_1 : decode cL_tradeAmount 1 = .ok (.iconst 0, 1) := by decide +kernel
theorem dL_tradeAmount_2 : decode cL_tradeAmount 2 = .ok (.aload_n 0, 1) := by decide +kernel
theorem dL_tradeAmount_3 : decode cL_tradeAmount 3 = .ok (.iload_n 1, 1) := by decide +kernel
theorem dL_tradeAmount_4 : decode cL_tradeAmount 4 = .ok (.invokevirtual 134, 3) := by decide +kernel
theorem dL_tradeAmount_7 : decode cL_tradeAmount 7 = .ok (.lastore, 1) := by decide +kernel
theorem dL_tradeAmount_8 : decode cL_tradeAmount 8 = .ok (.goto 6, 3) := by decide +kernel
theorem dL_tradeAmount_11 : decode cL_tradeAmount 11 = .ok (.astore_n 3, 1) := by decide +kernel
theorem dL_tradeAmount_12 : decode cL_tradeAmount 12 = .ok (.iconst 1, 1) := by decide +kernel
theorem dL_tradeAmount_13 : decode cL_tradeAmount 13 = .ok (.ireturn, 1) := by decide +kernel
theorem dL_tradeAmount_14 : decode cL_tradeAmount 14 = .ok (.iconst 0, 1) := by decide +kernel
theorem dL_tradeAmount_15 : decode cL_tradeAmount 15 = .ok (.ireturn, 1) := by decide +kernel
theorem dL_age_0 : decode cL_age 0 = .ok (.aload_n 2, 1) := by decide +kernel
theorem dL_age_1 : decode cL_age 1 = .ok (.iconst 0, 1) := by decide +kernel
theorem dL_age_2 : decode cL_age 2 = .ok (.aload_n 0, 1) := by decide +kernel
theorem dL_age_3 : decode cL_age 3 = .ok (.iload_n 1, 1) := by decide +kernel
theorem dL_age_4 : decode cL_age 4 = .ok (.invokevirtual 137, 3) := by decide +kernel
theorem dL_age_7 : decode cL_age 7 = .ok (.i2l, 1) := by decide +kernel
theorem dL_age_8 : decode cL_age 8 = .ok (.lastore, 1) := by decide +kernel
theorem dL_age_9 : decode cL_age 9 = .ok (.goto 6, 3) := by decide +kernel
theorem dL_age_12 : decode cL_age 12 = .ok (.astore_n 3, 1) := by decide +kernel
theorem dL_age_13 : decode cL_age 13 = .ok (.iconst 1, 1) := by decide +kernel
theorem dL_age_14 : decode cL_age 14 = .ok (.ireturn, 1) := by decide +kernel
theorem dL_age_15 : decode cL_age 15 = .ok (.iconst 0, 1) := by decide +kernel
theorem dL_age_16 : decode cL_age 16 = .ok (.ireturn, 1) := by decide +kernel
theorem dL_causer_0 : decode cL_causer 0 = .ok (.aload_n 2, 1) := by decide +kernel
theorem dL_causer_1 : decode cL_causer 1 = .ok (.iconst 0, 1) := by decide +kernel
theorem dL_causer_2 : decode cL_causer 2 = .ok (.aload_n 0, 1) := by decide +kernel
theorem dL_causer_3 : decode cL_causer 3 = .ok (.iload_n 1, 1) := by decide +kernel
theorem dL_causer_4 : decode cL_causer 4 = .ok (.invokevirtual 140, 3) := by decide +kernel
theorem dL_causer_7 : decode cL_causer 7 = .ok (.i2l, 1) := by decide +kernel
theorem dL_causer_8 : decode cL_causer 8 = .ok (.lastore, 1) := by decide +kernel
theorem dL_causer_9 : decode cL_causer 9 = .ok (.goto 9, 3) := by decide +kernel
theorem dL_causer_12 : decode cL_causer 12 = .ok (.astore_n 3, 1) := by decide +kernel
theorem dL_causer_13 : decode cL_causer 13 = .ok (.iconst 1, 1) := by decide +kernel
theorem dL_causer_14 : decode cL_causer 14 = .ok (.ireturn, 1) := by decide +kernel
theorem dL_causer_15 : decode cL_causer 15 = .ok (.astore_n 3, 1) := by decide +kernel
theorem dL_causer_16 : decode cL_causer 16 = .ok (.iconst 2, 1) := by decide +kernel
theorem dL_causer_17 : decode cL_causer 17 = .ok (.ireturn, 1) := by decide +kernel
theorem dL_causer_18 : decode cL_causer 18 = .ok (.iconst 0, 1) := by decide +kernel
theorem dL_causer_19 : decode cL_causer 19 = .ok (.ireturn, 1) := by decide +kernel
theorem dL_loan_0 : decode cL_loan 0 = .ok (.aload_n 2, 1) := by decide +kernel
theorem dL_loan_1 : decode cL_loan 1 = .ok (.iconst 0, 1) := by decide +kernel
theorem dL_loan_2 : decode cL_loan 2 = .ok (.aload_n 0, 1) := by decide +kernel
theorem dL_loan_3 : decode cL_loan 3 = .ok (.iload_n 1, 1) := by decide +kernel
theorem dL_loan_4 : decode cL_loan 4 = .ok (.invokevirtual 143, 3) := by decide +kernel
theorem dL_loan_7 : decode cL_loan 7 = .ok (.lastore, 1) := by decide +kernel
theorem dL_loan_8 : decode cL_loan 8 = .ok (.goto 6, 3) := by decide +kernel
theorem dL_loan_11 : decode cL_loan 11 = .ok (.astore_n 3, 1) := by decide +kernel
theorem dL_loan_12 : decode cL_loan 12 = .ok (.iconst 1, 1) := by decide +kernel
theorem dL_loan_13 : decode cL_loan 13 = .ok (.ireturn, 1) := by decide +kernel
theorem dL_loan_14 : decode cL_loan 14 = .ok (.iconst 0, 1) := by decide +kernel
theorem dL_loan_15 : decode cL_loan 15 = .ok (.ireturn, 1) := by decide +kernel
