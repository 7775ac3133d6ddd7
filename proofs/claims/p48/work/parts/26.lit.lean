theorem dB_len : dB.1.length = 3 := by decide +kernel
theorem dC_len : dC.1.length = 199 := by decide +kernel
theorem dE_len : dE.1.length = 395 := by decide +kernel
theorem dF_len : dF.1.length = 399 := by decide +kernel
theorem dG_len : dG.1.length = 400 := by decide +kernel
theorem dJ_lit : dJ = (litT, litR, litM) := by decide +kernel
