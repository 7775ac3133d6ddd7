theorem dL_law_2990 : decode cL_law 2990 = .ok (.aload_n 0, 1) := by decide +kernel
theorem dL_law_2991 : decode cL_law 2991 = .ok (.iload 5, 2) := by decide +kernel
theorem dL_law_2993 : decode cL_law 2993 = .ok (.iconst 1, 1) := by decide +kernel
theorem dL_law_2994 : decode cL_law 2994 = .ok (.iadd, 1) := by decide +kernel
theorem dL_law_2995 : decode cL_law 2995 = .ok (.iaload, 1) := by decide +kernel
theorem dL_law_2996 : decode cL_law 2996 = .ok (.invokevirtual 306, 3) := by decide +kernel
theorem dL_law_2999 : decode cL_law 2999 = .ok (.lstore 7, 2) := by decide +kernel
theorem dL_law_3001 : decode cL_law 3001 = .ok (.aload_n 2, 1) := by decide +kernel
theorem dL_law_3002 : decode cL_law 3002 = .ok (.invokevirtual 156, 3) := by decide +kernel
theorem dL_law_3005 : decode cL_law 3005 = .ok (.iload 6, 2) := by decide +kernel
theorem dL_law_3007 : decode cL_law 3007 = .ok (.if_icmp .eq 5, 3) := by decide +kernel
theorem dL_law_3010 : decode cL_law 3010 = .ok (.iconst 0, 1) := by decide +kernel
theorem dL_law_3011 : decode cL_law 3011 = .ok (.ireturn, 1) := by decide +kernel
theorem dL_law_3012 : decode cL_law 3012 = .ok (.iload 6, 2) := by decide +kernel
theorem dL_law_3014 : decode cL_law 3014 = .ok (.ifCond .ne 14, 3) := by decide +kernel
theorem dL_law_3017 : decode cL_law 3017 = .ok (.aload_n 3, 1) := by decide +kernel
theorem dL_law_3018 : decode cL_law 3018 = .ok (.iconst 0, 1) := by decide +kernel
theorem dL_law_3019 : decode cL_law 3019 = .ok (.laload, 1) := by decide +kernel
theorem dL_law_3020 : decode cL_law 3020 = .ok (.lload 7, 2) := by decide +kernel
theorem dL_law_3022 : decode cL_law 3022 = .ok (.lcmp, 1) := by decide +kernel
theorem dL_law_3023 : decode cL_law 3023 = .ok (.ifCond .eq 5, 3) := by decide +kernel
theorem dL_law_3026 : decode cL_law 3026 = .ok (.iconst 0, 1) := by decide +kernel
theorem dL_law_3027 : decode cL_law 3027 = .ok (.ireturn, 1) := by decide +kernel
theorem dL_law_3028 : decode cL_law 3028 = .ok (.goto 3, 3) := by decide +kernel
theorem dL_law_3031 : decode cL_law 3031 = .ok (.iinc 5 10, 3) := by decide +kernel
theorem dL_law_3034 : decode cL_law 3034 = .ok (.goto (-3006), 3) := by decide +kernel
theorem dL_law_3037 : decode cL_law 3037 = .ok (.iconst 1, 1) := by decide +kernel
theorem dL_law_3038 : decode cL_law 3038 = .ok (.ireturn, 1) := by decide +kernel
