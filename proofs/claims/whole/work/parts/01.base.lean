-- ===== PART A: goes FIRST, ahead of the names: the tables' words, and 'selects' of the private methods out of them =====
/-- a private method of a class that the tables say can be made, by its rows of tables_1 -/
def lw_okq (q : MethodName × Nat) : Prop := (q.1.cls ≠ "java/lang/invoke/MethodHandle" ∧ q.1.cls ≠ "java/lang/invoke/VarHandle") ∧ Cond.instantiable q.1.cls q.2 ∈ tables_1 ∧ Cond.privateMethod q.1 ∈ tables_1 ∧ Cond.instanceMethod q.1 ∈ tables_1
theorem lw_p0 : lw_okq (⟨"SettlementRing$Cycle", "beginSearch", "()V"⟩, 11) := ⟨⟨by decide +kernel, by decide +kernel⟩, List.mem_of_getElem? (i := 505) (by decide +kernel), List.mem_of_getElem? (i := 611) (by decide +kernel), List.mem_of_getElem? (i := 612) (by decide +kernel)⟩
theorem lw_p1 : lw_okq (⟨"SettlementRing$Cycle", "findCandidates", "()V"⟩, 11) := ⟨⟨by decide +kernel, by decide +kernel⟩, List.mem_of_getElem? (i := 505) (by decide +kernel), List.mem_of_getElem? (i := 615) (by decide +kernel), List.mem_of_getElem? (i := 616) (by decide +kernel)⟩
theorem lw_p2 : lw_okq (⟨"SettlementRing$Cycle", "insertCandidate", "(LSettlementRing$Trade;)V"⟩, 11) := ⟨⟨by decide +kernel, by decide +kernel⟩, List.mem_of_getElem? (i := 505) (by decide +kernel), List.mem_of_getElem? (i := 635) (by decide +kernel), List.mem_of_getElem? (i := 636) (by decide +kernel)⟩
theorem lw_p3 : lw_okq (⟨"SettlementRing$Cycle", "candidate", "(I)LSettlementRing$Trade;"⟩, 11) := ⟨⟨by decide +kernel, by decide +kernel⟩, List.mem_of_getElem? (i := 505) (by decide +kernel), List.mem_of_getElem? (i := 639) (by decide +kernel), List.mem_of_getElem? (i := 640) (by decide +kernel)⟩
theorem lw_p4 : lw_okq (⟨"SettlementRing$Cycle", "worthOf", "(LSettlementRing$Trade;)J"⟩, 11) := ⟨⟨by decide +kernel, by decide +kernel⟩, List.mem_of_getElem? (i := 505) (by decide +kernel), List.mem_of_getElem? (i := 649) (by decide +kernel), List.mem_of_getElem? (i := 650) (by decide +kernel)⟩
theorem lw_p5 : lw_okq (⟨"SettlementRing$Cycle", "weigh", "()V"⟩, 11) := ⟨⟨by decide +kernel, by decide +kernel⟩, List.mem_of_getElem? (i := 505) (by decide +kernel), List.mem_of_getElem? (i := 664) (by decide +kernel), List.mem_of_getElem? (i := 665) (by decide +kernel)⟩
theorem lw_p6 : lw_okq (⟨"SettlementRing$Cycle", "areLinksKept", "()Z"⟩, 11) := ⟨⟨by decide +kernel, by decide +kernel⟩, List.mem_of_getElem? (i := 505) (by decide +kernel), List.mem_of_getElem? (i := 668) (by decide +kernel), List.mem_of_getElem? (i := 669) (by decide +kernel)⟩
theorem lw_p7 : lw_okq (⟨"SettlementRing$Cycle", "isInOrSettled", "(I)Z"⟩, 11) := ⟨⟨by decide +kernel, by decide +kernel⟩, List.mem_of_getElem? (i := 505) (by decide +kernel), List.mem_of_getElem? (i := 679) (by decide +kernel), List.mem_of_getElem? (i := 680) (by decide +kernel)⟩
theorem lw_p8 : lw_okq (⟨"SettlementRing$Cycle", "areAllFirm", "()Z"⟩, 11) := ⟨⟨by decide +kernel, by decide +kernel⟩, List.mem_of_getElem? (i := 505) (by decide +kernel), List.mem_of_getElem? (i := 683) (by decide +kernel), List.mem_of_getElem? (i := 684) (by decide +kernel)⟩
theorem lw_p9 : lw_okq (⟨"SettlementRing$Cycle", "putIn", "(LSettlementRing$Trade;)V"⟩, 11) := ⟨⟨by decide +kernel, by decide +kernel⟩, List.mem_of_getElem? (i := 505) (by decide +kernel), List.mem_of_getElem? (i := 701) (by decide +kernel), List.mem_of_getElem? (i := 702) (by decide +kernel)⟩
theorem lw_p10 : lw_okq (⟨"SettlementRing$Book", "payFor", "(LSettlementRing$Trade;J)V"⟩, 18) := ⟨⟨by decide +kernel, by decide +kernel⟩, List.mem_of_getElem? (i := 42) (by decide +kernel), List.mem_of_getElem? (i := 710) (by decide +kernel), List.mem_of_getElem? (i := 711) (by decide +kernel)⟩
theorem lw_p11 : lw_okq (⟨"SettlementRing$Cycle", "takeOut", "(LSettlementRing$Trade;)V"⟩, 11) := ⟨⟨by decide +kernel, by decide +kernel⟩, List.mem_of_getElem? (i := 505) (by decide +kernel), List.mem_of_getElem? (i := 714) (by decide +kernel), List.mem_of_getElem? (i := 715) (by decide +kernel)⟩
theorem lw_p12 : lw_okq (⟨"SettlementRing$Cycle", "settleByLoan", "(LSettlementRing$Trade;)Z"⟩, 11) := ⟨⟨by decide +kernel, by decide +kernel⟩, List.mem_of_getElem? (i := 505) (by decide +kernel), List.mem_of_getElem? (i := 756) (by decide +kernel), List.mem_of_getElem? (i := 757) (by decide +kernel)⟩
theorem lw_p13 : lw_okq (⟨"SettlementRing$Cycle", "findLenders", "(LSettlementRing$Trade;)V"⟩, 11) := ⟨⟨by decide +kernel, by decide +kernel⟩, List.mem_of_getElem? (i := 505) (by decide +kernel), List.mem_of_getElem? (i := 760) (by decide +kernel), List.mem_of_getElem? (i := 761) (by decide +kernel)⟩
theorem lw_p14 : lw_okq (⟨"SettlementRing$Cycle", "shiftLoans", "(LSettlementRing$Trade;I)V"⟩, 11) := ⟨⟨by decide +kernel, by decide +kernel⟩, List.mem_of_getElem? (i := 505) (by decide +kernel), List.mem_of_getElem? (i := 773) (by decide +kernel), List.mem_of_getElem? (i := 774) (by decide +kernel)⟩
theorem lw_p15 : lw_okq (⟨"SettlementRing$Cycle", "areLendersFirm", "()Z"⟩, 11) := ⟨⟨by decide +kernel, by decide +kernel⟩, List.mem_of_getElem? (i := 505) (by decide +kernel), List.mem_of_getElem? (i := 778) (by decide +kernel), List.mem_of_getElem? (i := 779) (by decide +kernel)⟩
def lw_privs_1 : List (MethodName × Nat) := [(⟨"SettlementRing$Cycle", "beginSearch", "()V"⟩, 11), (⟨"SettlementRing$Cycle", "findCandidates", "()V"⟩, 11), (⟨"SettlementRing$Cycle", "insertCandidate", "(LSettlementRing$Trade;)V"⟩, 11), (⟨"SettlementRing$Cycle", "candidate", "(I)LSettlementRing$Trade;"⟩, 11), (⟨"SettlementRing$Cycle", "worthOf", "(LSettlementRing$Trade;)J"⟩, 11), (⟨"SettlementRing$Cycle", "weigh", "()V"⟩, 11), (⟨"SettlementRing$Cycle", "areLinksKept", "()Z"⟩, 11), (⟨"SettlementRing$Cycle", "isInOrSettled", "(I)Z"⟩, 11), (⟨"SettlementRing$Cycle", "areAllFirm", "()Z"⟩, 11), (⟨"SettlementRing$Cycle", "putIn", "(LSettlementRing$Trade;)V"⟩, 11), (⟨"SettlementRing$Book", "payFor", "(LSettlementRing$Trade;J)V"⟩, 18), (⟨"SettlementRing$Cycle", "takeOut", "(LSettlementRing$Trade;)V"⟩, 11), (⟨"SettlementRing$Cycle", "settleByLoan", "(LSettlementRing$Trade;)Z"⟩, 11), (⟨"SettlementRing$Cycle", "findLenders", "(LSettlementRing$Trade;)V"⟩, 11), (⟨"SettlementRing$Cycle", "shiftLoans", "(LSettlementRing$Trade;I)V"⟩, 11), (⟨"SettlementRing$Cycle", "areLendersFirm", "()Z"⟩, 11)]
theorem lw_r1 : ∀ q ∈ lw_privs_1, lw_okq q := List.forall_mem_cons.mpr ⟨lw_p0, List.forall_mem_cons.mpr ⟨lw_p1, List.forall_mem_cons.mpr ⟨lw_p2, List.forall_mem_cons.mpr ⟨lw_p3, List.forall_mem_cons.mpr ⟨lw_p4, List.forall_mem_cons.mpr ⟨lw_p5, List.forall_mem_cons.mpr ⟨lw_p6, List.forall_mem_cons.mpr ⟨lw_p7, List.forall_mem_cons.mpr ⟨lw_p8, List.forall_mem_cons.mpr ⟨lw_p9, List.forall_mem_cons.mpr ⟨lw_p10, List.forall_mem_cons.mpr ⟨lw_p11, List.forall_mem_cons.mpr ⟨lw_p12, List.forall_mem_cons.mpr ⟨lw_p13, List.forall_mem_cons.mpr ⟨lw_p14, List.forall_mem_cons.mpr ⟨lw_p15, fun _ h => absurd h List.not_mem_nil⟩⟩⟩⟩⟩⟩⟩⟩⟩⟩⟩⟩⟩⟩⟩⟩
theorem lw_p16 : lw_okq (⟨"SettlementRing$Cycle", "makeLoans", "(LSettlementRing$Trade;)V"⟩, 11) := ⟨⟨by decide +kernel, by decide +kernel⟩, List.mem_of_getElem? (i := 505) (by decide +kernel), List.mem_of_getElem? (i := 782) (by decide +kernel), List.mem_of_getElem? (i := 783) (by decide +kernel)⟩
theorem lw_p17 : lw_okq (⟨"SettlementRing$Cycle", "settlePartOf", "(LSettlementRing$Trade;J)V"⟩, 11) := ⟨⟨by decide +kernel, by decide +kernel⟩, List.mem_of_getElem? (i := 505) (by decide +kernel), List.mem_of_getElem? (i := 790) (by decide +kernel), List.mem_of_getElem? (i := 791) (by decide +kernel)⟩
theorem lw_p18 : lw_okq (⟨"SettlementRing$Book", "copyCounts", "(LSettlementRing$Book;)V"⟩, 18) := ⟨⟨by decide +kernel, by decide +kernel⟩, List.mem_of_getElem? (i := 42) (by decide +kernel), List.mem_of_getElem? (i := 865) (by decide +kernel), List.mem_of_getElem? (i := 866) (by decide +kernel)⟩
theorem lw_p19 : lw_okq (⟨"SettlementRing", "needAccount", "(I)V"⟩, 6) := ⟨⟨by decide +kernel, by decide +kernel⟩, List.mem_of_getElem? (i := 23) (by decide +kernel), List.mem_of_getElem? (i := 883) (by decide +kernel), List.mem_of_getElem? (i := 884) (by decide +kernel)⟩
theorem lw_p20 : lw_okq (⟨"java/lang/Throwable", "fillInStackTrace", "(I)Ljava/lang/Throwable;"⟩, 6) := ⟨⟨by decide +kernel, by decide +kernel⟩, List.mem_of_getElem? (i := 928) (by decide +kernel), List.mem_of_getElem? (i := 926) (by decide +kernel), List.mem_of_getElem? (i := 927) (by decide +kernel)⟩
theorem lw_p21 : lw_okq (⟨"SettlementRing", "needSecurity", "(I)V"⟩, 6) := ⟨⟨by decide +kernel, by decide +kernel⟩, List.mem_of_getElem? (i := 23) (by decide +kernel), List.mem_of_getElem? (i := 1047) (by decide +kernel), List.mem_of_getElem? (i := 1048) (by decide +kernel)⟩
theorem lw_p22 : lw_okq (⟨"SettlementRing", "needInstruction", "(I)V"⟩, 6) := ⟨⟨by decide +kernel, by decide +kernel⟩, List.mem_of_getElem? (i := 23) (by decide +kernel), List.mem_of_getElem? (i := 1115) (by decide +kernel), List.mem_of_getElem? (i := 1116) (by decide +kernel)⟩
theorem lw_p23 : lw_okq (⟨"SettlementRing", "needTrade", "(I)V"⟩, 6) := ⟨⟨by decide +kernel, by decide +kernel⟩, List.mem_of_getElem? (i := 23) (by decide +kernel), List.mem_of_getElem? (i := 1153) (by decide +kernel), List.mem_of_getElem? (i := 1154) (by decide +kernel)⟩
theorem lw_p24 : lw_okq (⟨"SettlementRing$DayEnd", "note", "(LSettlementRing$Event;)V"⟩, 1) := ⟨⟨by decide +kernel, by decide +kernel⟩, List.mem_of_getElem? (i := 545) (by decide +kernel), List.mem_of_getElem? (i := 1174) (by decide +kernel), List.mem_of_getElem? (i := 1175) (by decide +kernel)⟩
theorem lw_p25 : lw_okq (⟨"SettlementRing$DayEnd", "payOut", "(LSettlementRing$Event;)V"⟩, 1) := ⟨⟨by decide +kernel, by decide +kernel⟩, List.mem_of_getElem? (i := 545) (by decide +kernel), List.mem_of_getElem? (i := 1190) (by decide +kernel), List.mem_of_getElem? (i := 1191) (by decide +kernel)⟩
theorem lw_p26 : lw_okq (⟨"SettlementRing$DayEnd", "splitHoldings", "(LSettlementRing$Event;)V"⟩, 1) := ⟨⟨by decide +kernel, by decide +kernel⟩, List.mem_of_getElem? (i := 545) (by decide +kernel), List.mem_of_getElem? (i := 1194) (by decide +kernel), List.mem_of_getElem? (i := 1195) (by decide +kernel)⟩
theorem lw_p27 : lw_okq (⟨"SettlementRing$DayEnd", "splitWithPool", "(LSettlementRing$Event;I)J"⟩, 1) := ⟨⟨by decide +kernel, by decide +kernel⟩, List.mem_of_getElem? (i := 545) (by decide +kernel), List.mem_of_getElem? (i := 1198) (by decide +kernel), List.mem_of_getElem? (i := 1199) (by decide +kernel)⟩
theorem lw_p28 : lw_okq (⟨"SettlementRing$DayEnd", "splitAccount", "(LSettlementRing$Event;LSettlementRing$Account;J)V"⟩, 1) := ⟨⟨by decide +kernel, by decide +kernel⟩, List.mem_of_getElem? (i := 545) (by decide +kernel), List.mem_of_getElem? (i := 1206) (by decide +kernel), List.mem_of_getElem? (i := 1207) (by decide +kernel)⟩
theorem lw_p29 : lw_okq (⟨"SettlementRing$DayEnd", "splitLoans", "(LSettlementRing$Event;)V"⟩, 1) := ⟨⟨by decide +kernel, by decide +kernel⟩, List.mem_of_getElem? (i := 545) (by decide +kernel), List.mem_of_getElem? (i := 1214) (by decide +kernel), List.mem_of_getElem? (i := 1215) (by decide +kernel)⟩
theorem lw_p30 : lw_okq (⟨"SettlementRing$DayEnd", "splitTrades", "(LSettlementRing$Event;)V"⟩, 1) := ⟨⟨by decide +kernel, by decide +kernel⟩, List.mem_of_getElem? (i := 545) (by decide +kernel), List.mem_of_getElem? (i := 1219) (by decide +kernel), List.mem_of_getElem? (i := 1220) (by decide +kernel)⟩
theorem lw_p31 : lw_okq (⟨"SettlementRing$DayEnd", "payDividend", "(LSettlementRing$Event;)V"⟩, 1) := ⟨⟨by decide +kernel, by decide +kernel⟩, List.mem_of_getElem? (i := 545) (by decide +kernel), List.mem_of_getElem? (i := 1224) (by decide +kernel), List.mem_of_getElem? (i := 1225) (by decide +kernel)⟩
def lw_privs_2 : List (MethodName × Nat) := [(⟨"SettlementRing$Cycle", "makeLoans", "(LSettlementRing$Trade;)V"⟩, 11), (⟨"SettlementRing$Cycle", "settlePartOf", "(LSettlementRing$Trade;J)V"⟩, 11), (⟨"SettlementRing$Book", "copyCounts", "(LSettlementRing$Book;)V"⟩, 18), (⟨"SettlementRing", "needAccount", "(I)V"⟩, 6), (⟨"java/lang/Throwable", "fillInStackTrace", "(I)Ljava/lang/Throwable;"⟩, 6), (⟨"SettlementRing", "needSecurity", "(I)V"⟩, 6), (⟨"SettlementRing", "needInstruction", "(I)V"⟩, 6), (⟨"SettlementRing", "needTrade", "(I)V"⟩, 6), (⟨"SettlementRing$DayEnd", "note", "(LSettlementRing$Event;)V"⟩, 1), (⟨"SettlementRing$DayEnd", "payOut", "(LSettlementRing$Event;)V"⟩, 1), (⟨"SettlementRing$DayEnd", "splitHoldings", "(LSettlementRing$Event;)V"⟩, 1), (⟨"SettlementRing$DayEnd", "splitWithPool", "(LSettlementRing$Event;I)J"⟩, 1), (⟨"SettlementRing$DayEnd", "splitAccount", "(LSettlementRing$Event;LSettlementRing$Account;J)V"⟩, 1), (⟨"SettlementRing$DayEnd", "splitLoans", "(LSettlementRing$Event;)V"⟩, 1), (⟨"SettlementRing$DayEnd", "splitTrades", "(LSettlementRing$Event;)V"⟩, 1), (⟨"SettlementRing$DayEnd", "payDividend", "(LSettlementRing$Event;)V"⟩, 1)]
theorem lw_r2 : ∀ q ∈ lw_privs_2, lw_okq q := List.forall_mem_cons.mpr ⟨lw_p16, List.forall_mem_cons.mpr ⟨lw_p17, List.forall_mem_cons.mpr ⟨lw_p18, List.forall_mem_cons.mpr ⟨lw_p19, List.forall_mem_cons.mpr ⟨lw_p20, List.forall_mem_cons.mpr ⟨lw_p21, List.forall_mem_cons.mpr ⟨lw_p22, List.forall_mem_cons.mpr ⟨lw_p23, List.forall_mem_cons.mpr ⟨lw_p24, List.forall_mem_cons.mpr ⟨lw_p25, List.forall_mem_cons.mpr ⟨lw_p26, List.forall_mem_cons.mpr ⟨lw_p27, List.forall_mem_cons.mpr ⟨lw_p28, List.forall_mem_cons.mpr ⟨lw_p29, List.forall_mem_cons.mpr ⟨lw_p30, List.forall_mem_cons.mpr ⟨lw_p31, fun _ h => absurd h List.not_mem_nil⟩⟩⟩⟩⟩⟩⟩⟩⟩⟩⟩⟩⟩⟩⟩⟩
theorem lw_p32 : lw_okq (⟨"SettlementRing$DayEnd", "payLessTax", "(IIJ)V"⟩, 1) := ⟨⟨by decide +kernel, by decide +kernel⟩, List.mem_of_getElem? (i := 545) (by decide +kernel), List.mem_of_getElem? (i := 1232) (by decide +kernel), List.mem_of_getElem? (i := 1233) (by decide +kernel)⟩
theorem lw_p33 : lw_okq (⟨"SettlementRing$DayEnd", "payOption", "(LSettlementRing$Event;)V"⟩, 1) := ⟨⟨by decide +kernel, by decide +kernel⟩, List.mem_of_getElem? (i := 545) (by decide +kernel), List.mem_of_getElem? (i := 1238) (by decide +kernel), List.mem_of_getElem? (i := 1239) (by decide +kernel)⟩
theorem lw_p34 : lw_okq (⟨"SettlementRing$DayEnd", "payClaims", "(LSettlementRing$Event;)V"⟩, 1) := ⟨⟨by decide +kernel, by decide +kernel⟩, List.mem_of_getElem? (i := 545) (by decide +kernel), List.mem_of_getElem? (i := 1250) (by decide +kernel), List.mem_of_getElem? (i := 1251) (by decide +kernel)⟩
theorem lw_p35 : lw_okq (⟨"SettlementRing$Book", "sourceOf", "(LSettlementRing$Trade;I)I"⟩, 18) := ⟨⟨by decide +kernel, by decide +kernel⟩, List.mem_of_getElem? (i := 42) (by decide +kernel), List.mem_of_getElem? (i := 1271) (by decide +kernel), List.mem_of_getElem? (i := 1272) (by decide +kernel)⟩
theorem lw_p36 : lw_okq (⟨"SettlementRing$DayEnd", "finedFor", "(LSettlementRing$Trade;)I"⟩, 1) := ⟨⟨by decide +kernel, by decide +kernel⟩, List.mem_of_getElem? (i := 545) (by decide +kernel), List.mem_of_getElem? (i := 1276) (by decide +kernel), List.mem_of_getElem? (i := 1277) (by decide +kernel)⟩
theorem lw_p37 : lw_okq (⟨"SettlementRing$DayEnd", "tellFine", "(IIIJ)I"⟩, 1) := ⟨⟨by decide +kernel, by decide +kernel⟩, List.mem_of_getElem? (i := 545) (by decide +kernel), List.mem_of_getElem? (i := 1283) (by decide +kernel), List.mem_of_getElem? (i := 1284) (by decide +kernel)⟩
theorem lw_p38 : lw_okq (⟨"SettlementRing$DayEnd", "buyIn", "(LSettlementRing$Trade;)V"⟩, 1) := ⟨⟨by decide +kernel, by decide +kernel⟩, List.mem_of_getElem? (i := 545) (by decide +kernel), List.mem_of_getElem? (i := 1298) (by decide +kernel), List.mem_of_getElem? (i := 1299) (by decide +kernel)⟩
theorem lw_p39 : lw_okq (⟨"SettlementRing", "needLoan", "(I)V"⟩, 6) := ⟨⟨by decide +kernel, by decide +kernel⟩, List.mem_of_getElem? (i := 23) (by decide +kernel), List.mem_of_getElem? (i := 1310) (by decide +kernel), List.mem_of_getElem? (i := 1311) (by decide +kernel)⟩
theorem lw_p40 : lw_okq (⟨"SettlementRing", "needEvent", "(I)V"⟩, 6) := ⟨⟨by decide +kernel, by decide +kernel⟩, List.mem_of_getElem? (i := 23) (by decide +kernel), List.mem_of_getElem? (i := 1337) (by decide +kernel), List.mem_of_getElem? (i := 1338) (by decide +kernel)⟩
theorem lw_p41 : lw_okq (⟨"SettlementRingModel", "in", "(JJJ)Z"⟩, 8) := ⟨⟨by decide +kernel, by decide +kernel⟩, List.mem_of_getElem? (i := 1509) (by decide +kernel), List.mem_of_getElem? (i := 1550) (by decide +kernel), List.mem_of_getElem? (i := 1551) (by decide +kernel)⟩
theorem lw_p42 : lw_okq (⟨"SettlementRingModel", "isAccount", "(I)Z"⟩, 8) := ⟨⟨by decide +kernel, by decide +kernel⟩, List.mem_of_getElem? (i := 1509) (by decide +kernel), List.mem_of_getElem? (i := 1555) (by decide +kernel), List.mem_of_getElem? (i := 1556) (by decide +kernel)⟩
theorem lw_p43 : lw_okq (⟨"SettlementRingModel", "holds", "(I)Z"⟩, 8) := ⟨⟨by decide +kernel, by decide +kernel⟩, List.mem_of_getElem? (i := 1509) (by decide +kernel), List.mem_of_getElem? (i := 1560) (by decide +kernel), List.mem_of_getElem? (i := 1561) (by decide +kernel)⟩
theorem lw_p44 : lw_okq (⟨"SettlementRingModel", "flips", "(IZ)Z"⟩, 8) := ⟨⟨by decide +kernel, by decide +kernel⟩, List.mem_of_getElem? (i := 1509) (by decide +kernel), List.mem_of_getElem? (i := 1568) (by decide +kernel), List.mem_of_getElem? (i := 1569) (by decide +kernel)⟩
theorem lw_p45 : lw_okq (⟨"SettlementRingModel", "isSecurity", "(I)Z"⟩, 8) := ⟨⟨by decide +kernel, by decide +kernel⟩, List.mem_of_getElem? (i := 1509) (by decide +kernel), List.mem_of_getElem? (i := 1593) (by decide +kernel), List.mem_of_getElem? (i := 1594) (by decide +kernel)⟩
theorem lw_p46 : lw_okq (⟨"SettlementRingModel", "sound", "(I)Z"⟩, 8) := ⟨⟨by decide +kernel, by decide +kernel⟩, List.mem_of_getElem? (i := 1509) (by decide +kernel), List.mem_of_getElem? (i := 1607) (by decide +kernel), List.mem_of_getElem? (i := 1608) (by decide +kernel)⟩
theorem lw_p47 : lw_okq (⟨"SettlementRingModel", "freeCash", "(I)J"⟩, 8) := ⟨⟨by decide +kernel, by decide +kernel⟩, List.mem_of_getElem? (i := 1509) (by decide +kernel), List.mem_of_getElem? (i := 1611) (by decide +kernel), List.mem_of_getElem? (i := 1612) (by decide +kernel)⟩
def lw_privs_3 : List (MethodName × Nat) := [(⟨"SettlementRing$DayEnd", "payLessTax", "(IIJ)V"⟩, 1), (⟨"SettlementRing$DayEnd", "payOption", "(LSettlementRing$Event;)V"⟩, 1), (⟨"SettlementRing$DayEnd", "payClaims", "(LSettlementRing$Event;)V"⟩, 1), (⟨"SettlementRing$Book", "sourceOf", "(LSettlementRing$Trade;I)I"⟩, 18), (⟨"SettlementRing$DayEnd", "finedFor", "(LSettlementRing$Trade;)I"⟩, 1), (⟨"SettlementRing$DayEnd", "tellFine", "(IIIJ)I"⟩, 1), (⟨"SettlementRing$DayEnd", "buyIn", "(LSettlementRing$Trade;)V"⟩, 1), (⟨"SettlementRing", "needLoan", "(I)V"⟩, 6), (⟨"SettlementRing", "needEvent", "(I)V"⟩, 6), (⟨"SettlementRingModel", "in", "(JJJ)Z"⟩, 8), (⟨"SettlementRingModel", "isAccount", "(I)Z"⟩, 8), (⟨"SettlementRingModel", "holds", "(I)Z"⟩, 8), (⟨"SettlementRingModel", "flips", "(IZ)Z"⟩, 8), (⟨"SettlementRingModel", "isSecurity", "(I)Z"⟩, 8), (⟨"SettlementRingModel", "sound", "(I)Z"⟩, 8), (⟨"SettlementRingModel", "freeCash", "(I)J"⟩, 8)]
theorem lw_r3 : ∀ q ∈ lw_privs_3, lw_okq q := List.forall_mem_cons.mpr ⟨lw_p32, List.forall_mem_cons.mpr ⟨lw_p33, List.forall_mem_cons.mpr ⟨lw_p34, List.forall_mem_cons.mpr ⟨lw_p35, List.forall_mem_cons.mpr ⟨lw_p36, List.forall_mem_cons.mpr ⟨lw_p37, List.forall_mem_cons.mpr ⟨lw_p38, List.forall_mem_cons.mpr ⟨lw_p39, List.forall_mem_cons.mpr ⟨lw_p40, List.forall_mem_cons.mpr ⟨lw_p41, List.forall_mem_cons.mpr ⟨lw_p42, List.forall_mem_cons.mpr ⟨lw_p43, List.forall_mem_cons.mpr ⟨lw_p44, List.forall_mem_cons.mpr ⟨lw_p45, List.forall_mem_cons.mpr ⟨lw_p46, List.forall_mem_cons.mpr ⟨lw_p47, fun _ h => absurd h List.not_mem_nil⟩⟩⟩⟩⟩⟩⟩⟩⟩⟩⟩⟩⟩⟩⟩⟩
theorem lw_p48 : lw_okq (⟨"SettlementRingModel", "limitOf", "(I)J"⟩, 8) := ⟨⟨by decide +kernel, by decide +kernel⟩, List.mem_of_getElem? (i := 1509) (by decide +kernel), List.mem_of_getElem? (i := 1615) (by decide +kernel), List.mem_of_getElem? (i := 1616) (by decide +kernel)⟩
theorem lw_p49 : lw_okq (⟨"SettlementRingModel", "freeOf", "(II)J"⟩, 8) := ⟨⟨by decide +kernel, by decide +kernel⟩, List.mem_of_getElem? (i := 1509) (by decide +kernel), List.mem_of_getElem? (i := 1619) (by decide +kernel), List.mem_of_getElem? (i := 1620) (by decide +kernel)⟩
theorem lw_p50 : lw_okq (⟨"SettlementRingModel", "half", "(J)J"⟩, 8) := ⟨⟨by decide +kernel, by decide +kernel⟩, List.mem_of_getElem? (i := 1509) (by decide +kernel), List.mem_of_getElem? (i := 1623) (by decide +kernel), List.mem_of_getElem? (i := 1624) (by decide +kernel)⟩
theorem lw_p51 : lw_okq (⟨"SettlementRingModel", "mate", "(I)I"⟩, 8) := ⟨⟨by decide +kernel, by decide +kernel⟩, List.mem_of_getElem? (i := 1509) (by decide +kernel), List.mem_of_getElem? (i := 1634) (by decide +kernel), List.mem_of_getElem? (i := 1635) (by decide +kernel)⟩
theorem lw_p52 : lw_okq (⟨"SettlementRingModel", "matched", "(II)I"⟩, 8) := ⟨⟨by decide +kernel, by decide +kernel⟩, List.mem_of_getElem? (i := 1509) (by decide +kernel), List.mem_of_getElem? (i := 1640) (by decide +kernel), List.mem_of_getElem? (i := 1641) (by decide +kernel)⟩
theorem lw_p53 : lw_okq (⟨"SettlementRingModel", "tell", "(I)V"⟩, 8) := ⟨⟨by decide +kernel, by decide +kernel⟩, List.mem_of_getElem? (i := 1509) (by decide +kernel), List.mem_of_getElem? (i := 1644) (by decide +kernel), List.mem_of_getElem? (i := 1645) (by decide +kernel)⟩
theorem lw_p54 : lw_okq (⟨"SettlementRingModel", "deliverer", "(I)I"⟩, 8) := ⟨⟨by decide +kernel, by decide +kernel⟩, List.mem_of_getElem? (i := 1509) (by decide +kernel), List.mem_of_getElem? (i := 1648) (by decide +kernel), List.mem_of_getElem? (i := 1649) (by decide +kernel)⟩
theorem lw_p55 : lw_okq (⟨"SettlementRingModel", "receiver", "(I)I"⟩, 8) := ⟨⟨by decide +kernel, by decide +kernel⟩, List.mem_of_getElem? (i := 1509) (by decide +kernel), List.mem_of_getElem? (i := 1652) (by decide +kernel), List.mem_of_getElem? (i := 1653) (by decide +kernel)⟩
theorem lw_p56 : lw_okq (⟨"SettlementRingModel", "isInstruction", "(I)Z"⟩, 8) := ⟨⟨by decide +kernel, by decide +kernel⟩, List.mem_of_getElem? (i := 1509) (by decide +kernel), List.mem_of_getElem? (i := 1660) (by decide +kernel), List.mem_of_getElem? (i := 1661) (by decide +kernel)⟩
theorem lw_p57 : lw_okq (⟨"SettlementRingModel", "over", "(II)V"⟩, 8) := ⟨⟨by decide +kernel, by decide +kernel⟩, List.mem_of_getElem? (i := 1509) (by decide +kernel), List.mem_of_getElem? (i := 1668) (by decide +kernel), List.mem_of_getElem? (i := 1669) (by decide +kernel)⟩
theorem lw_p58 : lw_okq (⟨"SettlementRingModel", "isTrade", "(I)Z"⟩, 8) := ⟨⟨by decide +kernel, by decide +kernel⟩, List.mem_of_getElem? (i := 1509) (by decide +kernel), List.mem_of_getElem? (i := 1680) (by decide +kernel), List.mem_of_getElem? (i := 1681) (by decide +kernel)⟩
theorem lw_p59 : lw_okq (⟨"SettlementRingModel", "giveBack", "()V"⟩, 8) := ⟨⟨by decide +kernel, by decide +kernel⟩, List.mem_of_getElem? (i := 1509) (by decide +kernel), List.mem_of_getElem? (i := 1688) (by decide +kernel), List.mem_of_getElem? (i := 1689) (by decide +kernel)⟩
theorem lw_p60 : lw_okq (⟨"SettlementRingModel", "candidates", "()V"⟩, 8) := ⟨⟨by decide +kernel, by decide +kernel⟩, List.mem_of_getElem? (i := 1509) (by decide +kernel), List.mem_of_getElem? (i := 1692) (by decide +kernel), List.mem_of_getElem? (i := 1693) (by decide +kernel)⟩
theorem lw_p61 : lw_okq (⟨"SettlementRingModel", "due", "(I)Z"⟩, 8) := ⟨⟨by decide +kernel, by decide +kernel⟩, List.mem_of_getElem? (i := 1509) (by decide +kernel), List.mem_of_getElem? (i := 1696) (by decide +kernel), List.mem_of_getElem? (i := 1697) (by decide +kernel)⟩
theorem lw_p62 : lw_okq (⟨"SettlementRingModel", "heldUp", "(I)Z"⟩, 8) := ⟨⟨by decide +kernel, by decide +kernel⟩, List.mem_of_getElem? (i := 1509) (by decide +kernel), List.mem_of_getElem? (i := 1700) (by decide +kernel), List.mem_of_getElem? (i := 1701) (by decide +kernel)⟩
theorem lw_p63 : lw_okq (⟨"SettlementRingModel", "bestSet", "()I"⟩, 8) := ⟨⟨by decide +kernel, by decide +kernel⟩, List.mem_of_getElem? (i := 1509) (by decide +kernel), List.mem_of_getElem? (i := 1704) (by decide +kernel), List.mem_of_getElem? (i := 1705) (by decide +kernel)⟩
def lw_privs_4 : List (MethodName × Nat) := [(⟨"SettlementRingModel", "limitOf", "(I)J"⟩, 8), (⟨"SettlementRingModel", "freeOf", "(II)J"⟩, 8), (⟨"SettlementRingModel", "half", "(J)J"⟩, 8), (⟨"SettlementRingModel", "mate", "(I)I"⟩, 8), (⟨"SettlementRingModel", "matched", "(II)I"⟩, 8), (⟨"SettlementRingModel", "tell", "(I)V"⟩, 8), (⟨"SettlementRingModel", "deliverer", "(I)I"⟩, 8), (⟨"SettlementRingModel", "receiver", "(I)I"⟩, 8), (⟨"SettlementRingModel", "isInstruction", "(I)Z"⟩, 8), (⟨"SettlementRingModel", "over", "(II)V"⟩, 8), (⟨"SettlementRingModel", "isTrade", "(I)Z"⟩, 8), (⟨"SettlementRingModel", "giveBack", "()V"⟩, 8), (⟨"SettlementRingModel", "candidates", "()V"⟩, 8), (⟨"SettlementRingModel", "due", "(I)Z"⟩, 8), (⟨"SettlementRingModel", "heldUp", "(I)Z"⟩, 8), (⟨"SettlementRingModel", "bestSet", "()I"⟩, 8)]
theorem lw_r4 : ∀ q ∈ lw_privs_4, lw_okq q := List.forall_mem_cons.mpr ⟨lw_p48, List.forall_mem_cons.mpr ⟨lw_p49, List.forall_mem_cons.mpr ⟨lw_p50, List.forall_mem_cons.mpr ⟨lw_p51, List.forall_mem_cons.mpr ⟨lw_p52, List.forall_mem_cons.mpr ⟨lw_p53, List.forall_mem_cons.mpr ⟨lw_p54, List.forall_mem_cons.mpr ⟨lw_p55, List.forall_mem_cons.mpr ⟨lw_p56, List.forall_mem_cons.mpr ⟨lw_p57, List.forall_mem_cons.mpr ⟨lw_p58, List.forall_mem_cons.mpr ⟨lw_p59, List.forall_mem_cons.mpr ⟨lw_p60, List.forall_mem_cons.mpr ⟨lw_p61, List.forall_mem_cons.mpr ⟨lw_p62, List.forall_mem_cons.mpr ⟨lw_p63, fun _ h => absurd h List.not_mem_nil⟩⟩⟩⟩⟩⟩⟩⟩⟩⟩⟩⟩⟩⟩⟩⟩
theorem lw_p64 : lw_okq (⟨"SettlementRingModel", "worthOf", "(I)J"⟩, 8) := ⟨⟨by decide +kernel, by decide +kernel⟩, List.mem_of_getElem? (i := 1509) (by decide +kernel), List.mem_of_getElem? (i := 1708) (by decide +kernel), List.mem_of_getElem? (i := 1709) (by decide +kernel)⟩
theorem lw_p65 : lw_okq (⟨"SettlementRingModel", "worth", "(I)J"⟩, 8) := ⟨⟨by decide +kernel, by decide +kernel⟩, List.mem_of_getElem? (i := 1509) (by decide +kernel), List.mem_of_getElem? (i := 1712) (by decide +kernel), List.mem_of_getElem? (i := 1713) (by decide +kernel)⟩
theorem lw_p66 : lw_okq (⟨"SettlementRingModel", "paper", "(I)I"⟩, 8) := ⟨⟨by decide +kernel, by decide +kernel⟩, List.mem_of_getElem? (i := 1509) (by decide +kernel), List.mem_of_getElem? (i := 1716) (by decide +kernel), List.mem_of_getElem? (i := 1717) (by decide +kernel)⟩
theorem lw_p67 : lw_okq (⟨"SettlementRingModel", "count", "(I)I"⟩, 8) := ⟨⟨by decide +kernel, by decide +kernel⟩, List.mem_of_getElem? (i := 1509) (by decide +kernel), List.mem_of_getElem? (i := 1720) (by decide +kernel), List.mem_of_getElem? (i := 1721) (by decide +kernel)⟩
theorem lw_p68 : lw_okq (⟨"SettlementRingModel", "first", "(II)Z"⟩, 8) := ⟨⟨by decide +kernel, by decide +kernel⟩, List.mem_of_getElem? (i := 1509) (by decide +kernel), List.mem_of_getElem? (i := 1724) (by decide +kernel), List.mem_of_getElem? (i := 1725) (by decide +kernel)⟩
theorem lw_p69 : lw_okq (⟨"SettlementRingModel", "can", "(I)Z"⟩, 8) := ⟨⟨by decide +kernel, by decide +kernel⟩, List.mem_of_getElem? (i := 1509) (by decide +kernel), List.mem_of_getElem? (i := 1728) (by decide +kernel), List.mem_of_getElem? (i := 1729) (by decide +kernel)⟩
theorem lw_p70 : lw_okq (⟨"SettlementRingModel", "keepsLinks", "(I)Z"⟩, 8) := ⟨⟨by decide +kernel, by decide +kernel⟩, List.mem_of_getElem? (i := 1509) (by decide +kernel), List.mem_of_getElem? (i := 1732) (by decide +kernel), List.mem_of_getElem? (i := 1733) (by decide +kernel)⟩
theorem lw_p71 : lw_okq (⟨"SettlementRingModel", "inSet", "(II)Z"⟩, 8) := ⟨⟨by decide +kernel, by decide +kernel⟩, List.mem_of_getElem? (i := 1509) (by decide +kernel), List.mem_of_getElem? (i := 1736) (by decide +kernel), List.mem_of_getElem? (i := 1737) (by decide +kernel)⟩
theorem lw_p72 : lw_okq (⟨"SettlementRingModel", "has", "(II)Z"⟩, 8) := ⟨⟨by decide +kernel, by decide +kernel⟩, List.mem_of_getElem? (i := 1509) (by decide +kernel), List.mem_of_getElem? (i := 1740) (by decide +kernel), List.mem_of_getElem? (i := 1741) (by decide +kernel)⟩
theorem lw_p73 : lw_okq (⟨"SettlementRingModel", "moveAll", "(II)V"⟩, 8) := ⟨⟨by decide +kernel, by decide +kernel⟩, List.mem_of_getElem? (i := 1509) (by decide +kernel), List.mem_of_getElem? (i := 1744) (by decide +kernel), List.mem_of_getElem? (i := 1745) (by decide +kernel)⟩
theorem lw_p74 : lw_okq (⟨"SettlementRingModel", "move", "(IJJ)V"⟩, 8) := ⟨⟨by decide +kernel, by decide +kernel⟩, List.mem_of_getElem? (i := 1509) (by decide +kernel), List.mem_of_getElem? (i := 1748) (by decide +kernel), List.mem_of_getElem? (i := 1749) (by decide +kernel)⟩
theorem lw_p75 : lw_okq (⟨"SettlementRingModel", "borrows", "(I)Z"⟩, 8) := ⟨⟨by decide +kernel, by decide +kernel⟩, List.mem_of_getElem? (i := 1509) (by decide +kernel), List.mem_of_getElem? (i := 1752) (by decide +kernel), List.mem_of_getElem? (i := 1753) (by decide +kernel)⟩
theorem lw_p76 : lw_okq (⟨"SettlementRingModel", "linked", "(I)Z"⟩, 8) := ⟨⟨by decide +kernel, by decide +kernel⟩, List.mem_of_getElem? (i := 1509) (by decide +kernel), List.mem_of_getElem? (i := 1756) (by decide +kernel), List.mem_of_getElem? (i := 1757) (by decide +kernel)⟩
theorem lw_p77 : lw_okq (⟨"SettlementRingModel", "lends", "(IIIIJ)V"⟩, 8) := ⟨⟨by decide +kernel, by decide +kernel⟩, List.mem_of_getElem? (i := 1509) (by decide +kernel), List.mem_of_getElem? (i := 1760) (by decide +kernel), List.mem_of_getElem? (i := 1761) (by decide +kernel)⟩
theorem lw_p78 : lw_okq (⟨"SettlementRingModel", "part", "(I)V"⟩, 8) := ⟨⟨by decide +kernel, by decide +kernel⟩, List.mem_of_getElem? (i := 1509) (by decide +kernel), List.mem_of_getElem? (i := 1764) (by decide +kernel), List.mem_of_getElem? (i := 1765) (by decide +kernel)⟩
theorem lw_p79 : lw_okq (⟨"SettlementRingModel", "note", "(I)V"⟩, 8) := ⟨⟨by decide +kernel, by decide +kernel⟩, List.mem_of_getElem? (i := 1509) (by decide +kernel), List.mem_of_getElem? (i := 1781) (by decide +kernel), List.mem_of_getElem? (i := 1782) (by decide +kernel)⟩
def lw_privs_5 : List (MethodName × Nat) := [(⟨"SettlementRingModel", "worthOf", "(I)J"⟩, 8), (⟨"SettlementRingModel", "worth", "(I)J"⟩, 8), (⟨"SettlementRingModel", "paper", "(I)I"⟩, 8), (⟨"SettlementRingModel", "count", "(I)I"⟩, 8), (⟨"SettlementRingModel", "first", "(II)Z"⟩, 8), (⟨"SettlementRingModel", "can", "(I)Z"⟩, 8), (⟨"SettlementRingModel", "keepsLinks", "(I)Z"⟩, 8), (⟨"SettlementRingModel", "inSet", "(II)Z"⟩, 8), (⟨"SettlementRingModel", "has", "(II)Z"⟩, 8), (⟨"SettlementRingModel", "moveAll", "(II)V"⟩, 8), (⟨"SettlementRingModel", "move", "(IJJ)V"⟩, 8), (⟨"SettlementRingModel", "borrows", "(I)Z"⟩, 8), (⟨"SettlementRingModel", "linked", "(I)Z"⟩, 8), (⟨"SettlementRingModel", "lends", "(IIIIJ)V"⟩, 8), (⟨"SettlementRingModel", "part", "(I)V"⟩, 8), (⟨"SettlementRingModel", "note", "(I)V"⟩, 8)]
theorem lw_r5 : ∀ q ∈ lw_privs_5, lw_okq q := List.forall_mem_cons.mpr ⟨lw_p64, List.forall_mem_cons.mpr ⟨lw_p65, List.forall_mem_cons.mpr ⟨lw_p66, List.forall_mem_cons.mpr ⟨lw_p67, List.forall_mem_cons.mpr ⟨lw_p68, List.forall_mem_cons.mpr ⟨lw_p69, List.forall_mem_cons.mpr ⟨lw_p70, List.forall_mem_cons.mpr ⟨lw_p71, List.forall_mem_cons.mpr ⟨lw_p72, List.forall_mem_cons.mpr ⟨lw_p73, List.forall_mem_cons.mpr ⟨lw_p74, List.forall_mem_cons.mpr ⟨lw_p75, List.forall_mem_cons.mpr ⟨lw_p76, List.forall_mem_cons.mpr ⟨lw_p77, List.forall_mem_cons.mpr ⟨lw_p78, List.forall_mem_cons.mpr ⟨lw_p79, fun _ h => absurd h List.not_mem_nil⟩⟩⟩⟩⟩⟩⟩⟩⟩⟩⟩⟩⟩⟩⟩⟩
theorem lw_p80 : lw_okq (⟨"SettlementRingModel", "pay", "(I)V"⟩, 8) := ⟨⟨by decide +kernel, by decide +kernel⟩, List.mem_of_getElem? (i := 1509) (by decide +kernel), List.mem_of_getElem? (i := 1785) (by decide +kernel), List.mem_of_getElem? (i := 1786) (by decide +kernel)⟩
theorem lw_p81 : lw_okq (⟨"SettlementRingModel", "split", "(I)V"⟩, 8) := ⟨⟨by decide +kernel, by decide +kernel⟩, List.mem_of_getElem? (i := 1509) (by decide +kernel), List.mem_of_getElem? (i := 1789) (by decide +kernel), List.mem_of_getElem? (i := 1790) (by decide +kernel)⟩
theorem lw_p82 : lw_okq (⟨"SettlementRingModel", "dividend", "(I)V"⟩, 8) := ⟨⟨by decide +kernel, by decide +kernel⟩, List.mem_of_getElem? (i := 1509) (by decide +kernel), List.mem_of_getElem? (i := 1793) (by decide +kernel), List.mem_of_getElem? (i := 1794) (by decide +kernel)⟩
theorem lw_p83 : lw_okq (⟨"SettlementRingModel", "credit", "(IIJ)V"⟩, 8) := ⟨⟨by decide +kernel, by decide +kernel⟩, List.mem_of_getElem? (i := 1509) (by decide +kernel), List.mem_of_getElem? (i := 1797) (by decide +kernel), List.mem_of_getElem? (i := 1798) (by decide +kernel)⟩
theorem lw_p84 : lw_okq (⟨"SettlementRingModel", "option", "(I)V"⟩, 8) := ⟨⟨by decide +kernel, by decide +kernel⟩, List.mem_of_getElem? (i := 1509) (by decide +kernel), List.mem_of_getElem? (i := 1802) (by decide +kernel), List.mem_of_getElem? (i := 1803) (by decide +kernel)⟩
theorem lw_p85 : lw_okq (⟨"SettlementRingModel", "owes", "(IIJ)I"⟩, 8) := ⟨⟨by decide +kernel, by decide +kernel⟩, List.mem_of_getElem? (i := 1509) (by decide +kernel), List.mem_of_getElem? (i := 1806) (by decide +kernel), List.mem_of_getElem? (i := 1807) (by decide +kernel)⟩
theorem lw_p86 : lw_okq (⟨"SettlementRingModel", "fineOf", "(I)I"⟩, 8) := ⟨⟨by decide +kernel, by decide +kernel⟩, List.mem_of_getElem? (i := 1509) (by decide +kernel), List.mem_of_getElem? (i := 1810) (by decide +kernel), List.mem_of_getElem? (i := 1811) (by decide +kernel)⟩
theorem lw_p87 : lw_okq (⟨"SettlementRingModel", "held", "(I)Z"⟩, 8) := ⟨⟨by decide +kernel, by decide +kernel⟩, List.mem_of_getElem? (i := 1509) (by decide +kernel), List.mem_of_getElem? (i := 1814) (by decide +kernel), List.mem_of_getElem? (i := 1815) (by decide +kernel)⟩
theorem lw_p88 : lw_okq (⟨"SettlementRingModel", "shortOf", "(I)Z"⟩, 8) := ⟨⟨by decide +kernel, by decide +kernel⟩, List.mem_of_getElem? (i := 1509) (by decide +kernel), List.mem_of_getElem? (i := 1818) (by decide +kernel), List.mem_of_getElem? (i := 1819) (by decide +kernel)⟩
theorem lw_p89 : lw_okq (⟨"SettlementRingModel", "causerOf", "(I)I"⟩, 8) := ⟨⟨by decide +kernel, by decide +kernel⟩, List.mem_of_getElem? (i := 1509) (by decide +kernel), List.mem_of_getElem? (i := 1822) (by decide +kernel), List.mem_of_getElem? (i := 1823) (by decide +kernel)⟩
theorem lw_p90 : lw_okq (⟨"SettlementRingModel", "chained", "(II)I"⟩, 8) := ⟨⟨by decide +kernel, by decide +kernel⟩, List.mem_of_getElem? (i := 1509) (by decide +kernel), List.mem_of_getElem? (i := 1826) (by decide +kernel), List.mem_of_getElem? (i := 1827) (by decide +kernel)⟩
theorem lw_p91 : lw_okq (⟨"SettlementRingModel", "fines", "(IIJI)I"⟩, 8) := ⟨⟨by decide +kernel, by decide +kernel⟩, List.mem_of_getElem? (i := 1509) (by decide +kernel), List.mem_of_getElem? (i := 1830) (by decide +kernel), List.mem_of_getElem? (i := 1831) (by decide +kernel)⟩
theorem lw_p92 : lw_okq (⟨"SettlementRingModel", "isLoan", "(I)Z"⟩, 8) := ⟨⟨by decide +kernel, by decide +kernel⟩, List.mem_of_getElem? (i := 1509) (by decide +kernel), List.mem_of_getElem? (i := 1844) (by decide +kernel), List.mem_of_getElem? (i := 1845) (by decide +kernel)⟩
theorem lw_p93 : lw_okq (⟨"SettlementRingModel", "isEvent", "(I)Z"⟩, 8) := ⟨⟨by decide +kernel, by decide +kernel⟩, List.mem_of_getElem? (i := 1509) (by decide +kernel), List.mem_of_getElem? (i := 1864) (by decide +kernel), List.mem_of_getElem? (i := 1865) (by decide +kernel)⟩
theorem lw_p94 : lw_okq (⟨"SettlementRingModel", "isPair", "(II)Z"⟩, 8) := ⟨⟨by decide +kernel, by decide +kernel⟩, List.mem_of_getElem? (i := 1509) (by decide +kernel), List.mem_of_getElem? (i := 1885) (by decide +kernel), List.mem_of_getElem? (i := 1886) (by decide +kernel)⟩
def lw_privs_6 : List (MethodName × Nat) := [(⟨"SettlementRingModel", "pay", "(I)V"⟩, 8), (⟨"SettlementRingModel", "split", "(I)V"⟩, 8), (⟨"SettlementRingModel", "dividend", "(I)V"⟩, 8), (⟨"SettlementRingModel", "credit", "(IIJ)V"⟩, 8), (⟨"SettlementRingModel", "option", "(I)V"⟩, 8), (⟨"SettlementRingModel", "owes", "(IIJ)I"⟩, 8), (⟨"SettlementRingModel", "fineOf", "(I)I"⟩, 8), (⟨"SettlementRingModel", "held", "(I)Z"⟩, 8), (⟨"SettlementRingModel", "shortOf", "(I)Z"⟩, 8), (⟨"SettlementRingModel", "causerOf", "(I)I"⟩, 8), (⟨"SettlementRingModel", "chained", "(II)I"⟩, 8), (⟨"SettlementRingModel", "fines", "(IIJI)I"⟩, 8), (⟨"SettlementRingModel", "isLoan", "(I)Z"⟩, 8), (⟨"SettlementRingModel", "isEvent", "(I)Z"⟩, 8), (⟨"SettlementRingModel", "isPair", "(II)Z"⟩, 8)]
theorem lw_r6 : ∀ q ∈ lw_privs_6, lw_okq q := List.forall_mem_cons.mpr ⟨lw_p80, List.forall_mem_cons.mpr ⟨lw_p81, List.forall_mem_cons.mpr ⟨lw_p82, List.forall_mem_cons.mpr ⟨lw_p83, List.forall_mem_cons.mpr ⟨lw_p84, List.forall_mem_cons.mpr ⟨lw_p85, List.forall_mem_cons.mpr ⟨lw_p86, List.forall_mem_cons.mpr ⟨lw_p87, List.forall_mem_cons.mpr ⟨lw_p88, List.forall_mem_cons.mpr ⟨lw_p89, List.forall_mem_cons.mpr ⟨lw_p90, List.forall_mem_cons.mpr ⟨lw_p91, List.forall_mem_cons.mpr ⟨lw_p92, List.forall_mem_cons.mpr ⟨lw_p93, List.forall_mem_cons.mpr ⟨lw_p94, fun _ h => absurd h List.not_mem_nil⟩⟩⟩⟩⟩⟩⟩⟩⟩⟩⟩⟩⟩⟩⟩
def lw_privs : List (MethodName × Nat) := lw_privs_1 ++ (lw_privs_2 ++ (lw_privs_3 ++ (lw_privs_4 ++ (lw_privs_5 ++ (lw_privs_6)))))
def lw_tbl : List Cond := k2_sels lw_privs ++ tables_1
theorem lw_privs_ok : ∀ q ∈ lw_privs, lw_okq q := by
  show ∀ q ∈ lw_privs_1 ++ (lw_privs_2 ++ (lw_privs_3 ++ (lw_privs_4 ++ (lw_privs_5 ++ (lw_privs_6))))), lw_okq q
  exact List.forall_mem_append.mpr ⟨lw_r1, List.forall_mem_append.mpr ⟨lw_r2, List.forall_mem_append.mpr ⟨lw_r3, List.forall_mem_append.mpr ⟨lw_r4, List.forall_mem_append.mpr ⟨lw_r5, lw_r6⟩⟩⟩⟩⟩
/-- the streams that the claim lets the run draw from -/
abbrev lw_cs : List Choice := [Jvm.Choice.named "NaN.bits"]
theorem lw_bits : nanBits ∈ lw_cs := by first | decide | exact List.mem_cons_self | simp [lw_cs, nanBits]

-- ===== end of the tables' words
/-! ===== BEGIN words of one list among another's, by their places ===== -/
theorem goodIn_r {big : List Cond} (ws : List Cond) (ps : List Nat) (hp : ws = ps.filterMap (fun i => big[i]?)) (h : ws.all goodWord = true) : GoodIn big ws := by
  intro w hw
  have h1 := List.all_eq_true.mp h w hw
  rw [hp] at hw
  obtain ⟨i, -, hi⟩ := List.mem_filterMap.mp hw
  have hm : w ∈ big := by first | exact List.mem_of_getElem? hi | exact List.getElem?_mem hi
  exact ⟨hm, good_of_word h1⟩
theorem goodIn_app {big a b : List Cond} (ha : GoodIn big a) (hb : GoodIn big b) : GoodIn big (a ++ b) := fun w h => (List.mem_append.mp h).elim (ha w) (hb w)
theorem goodIn_ca {big a b : List Cond} {c : Cond} (ha : GoodIn big (c :: a)) (hb : GoodIn big b) : GoodIn big (c :: (a ++ b)) := fun w h => (List.mem_cons.mp h).elim (fun e => ha w (List.mem_cons.mpr (Or.inl e))) (fun h => (List.mem_append.mp h).elim (fun h => ha w (List.mem_cons.mpr (Or.inr h))) (hb w))
theorem goodIn_sub {big ws : List Cond} (hm : ∀ w ∈ ws, w ∈ big) (h : ws.all goodWord = true) : GoodIn big ws := fun w hw => ⟨hm w hw, good_of_word (List.all_eq_true.mp h w hw)⟩
/-! ===== END ===== -/

/-! ===== BEGIN exceptions that leave a method, and their catching by the caller (launches without stack traces) ===== -/
section VXA
/-! The laws vx_back, vx_callV, vx_callS, vx_callSW, vx_throw0, vx_throwS follow proofs of the library, with one case more: JvmDerived/Free/Laws.lean (Back.of_free), Shelf42/LK1.lean (callV, callS), Shelf/KitTraced.lean (throwNew0V, throwNewS). -/
/-- where a method has thrown q: the class by its name, the cell, what was written, the world -/
def vx_T (XC : String → State → State → Prop) (st : State) (q : Addr) (t : State) (mc ms : Nat) (free : Addr → Prop) : Prop :=
  ∃ (E : String) (ce : Cell) (L : List Loc), XC E st t ∧ t.heap[q]? = some ce ∧ ce.vm = .none ∧ st.vm.findClass E = some ce.cls ∧ st.WarmedH t.vm ∧ st.sameButNew ({ t with vm := st.vm } : State) L mc ms ∧ ∀ z ∈ L, free z.base
def vx_Q (Qc : Array Value → State → Outcome → State → Prop) (XC : String → State → State → Prop) (mc ms : Nat) (free : Addr → Prop) : Array Value → State → Outcome → State → Prop := fun a st o t =>
  (Qc a st o t ∧ ∃ L, FrameEnd st o t L mc ms ∧ ∀ q ∈ L, free q.base) ∨ ∃ q, o = .threw q ∧ vx_T XC st q t mc ms free
/-- a callee that returns or throws -/
def vx_Met (l : Launch) (y : MethodName) (ws : List Cond) (rm : Room) (Pc : Array Value → State → Prop) (Qc : Array Value → State → Outcome → State → Prop) (XC : String → State → State → Prop) (mc ms : Nat) (free : Addr → Prop) : Prop :=
  MetFree l y (headSpec ws rm) Pc (fun _ _ _ _ _ => True) (vx_Q Qc XC mc ms free)
def vx_Post (XC : String → State → State → Prop) (mc ms : Nat) (free : Addr → Prop) : Pt → Array Value → Addr → Pt → Prop := fun A a q B =>
  ∃ (g : JFrame) (mk : MethodId) (t : State) (L : List Loc) (E : String) (ce : Cell), B.U.heap = t.heap ∧ B.U.vm = t.vm ∧ XC E (A.U.calling g mk a) t ∧ t.heap[q]? = some ce ∧ ce.vm = .none ∧ A.U.vm.findClass E = some ce.cls ∧ B.locs = A.locs ++ L ∧ (∀ z ∈ L, free z.base) ∧ B.cells = A.cells + mc ∧ B.slots = A.slots + ms
def vx_Back (l : Launch) (R : Room) (p : Program) (e : Env) (below : List Frame) (s : State) (sargs : Array Value) (y : MethodName) (len W9 : Nat)
    (Pre : Pt → Array Value → Prop) (Post : Pt → Array Value → Option Value → Pt → Prop) (PostX : Pt → Array Value → Addr → Pt → Prop) : Prop :=
  ∀ (m : MethodId) (meth : Method) (c : Code) (A : Pt) (g : JFrame) (ig : Instr) (mk : MethodId) (a : Array Value),
    Stand p l e R s m sargs below meth c A.U A.locs A.cells A.slots → g.method = m → g.locals.size = c.maxLocals → decode c.code g.pc = .ok (ig, len) →
    2 * g.monitorRoom + (g.stack.map fun v => v.category).sum ≤ W9 → A.U.methodNamed? y = some mk → Pre A a →
    (∃ (v : Option Value) (B : Pt), Stand p l e R s m sargs below meth c B.U B.locs B.cells B.slots ∧ Post A a v B ∧
      Steps p.tables e below (doInvoke e (A.U.setTop g) [] mk a).1 (B.U.setTop { g with pc := g.pc + len, stack := v.toList ++ g.stack })) ∨
    (∃ (q : Addr) (B : Pt), Stand p l e R s m sargs below meth c B.U B.locs B.cells B.slots ∧ PostX A a q B ∧
      Steps p.tables e below (doInvoke e (A.U.setTop g) [] mk a).1 ((B.U.setTop g).pushFrame (.throwing q)))
section Payer
variable {l : Launch} {R : Room} {p : Program} {e : Env} {below : List Frame} {s : State} {sargs : Array Value} {y : MethodName} {len W9 : Nat}
theorem vx_back {ws : List Cond} {rm : Room} {Pc : Array Value → State → Prop} {Qc : Array Value → State → Outcome → State → Prop} {XC : String → State → State → Prop} {mc ms : Nat} {free : Addr → Prop} {bytes : ByteArray} {maxL : Nat} {ret : Option FieldType}
    (hM : vx_Met l y ws rm Pc Qc XC mc ms free) (hblind : FrameBlind Pc) (hrc : rm.cells = mc) (hrs : rm.slots = ms)
    (hframes : rm.frames + 1 ≤ R.frames) (hlocals : W9 + (maxL + 11) + rm.locals ≤ R.locals)
    (hws : ∀ w ∈ ws, ∀ a' U, s.WarmedH U.vm → w.before a' U = true) (hcode : Cond.code y bytes maxL ret ∈ ws) (hinit : ∀ a' U, s.WarmedH U.vm → (Cond.initialized y.cls).before a' U = true) :
    vx_Back l R p e below s sargs y len W9 (PreOf R mc ms Pc) (PostOf Qc mc ms free) (vx_Post XC mc ms free) := by
  intro m meth c A g ig mk a X hg hsize hdg hW hn hp
  have h1 : (headSpec ws rm).pre.before a A.U = true := atoms_intro fun w hw => hws w hw _ _ X.warmed
  have h2 : (Cond.code y bytes maxL ret).before a A.U = true := hws _ hcode _ _ X.warmed
  have h3 : (Cond.initialized y.cls).before a A.U = true := hinit _ _ X.warmed
  have h4 : A.cells + (headSpec ws rm).room.cells ≤ R.cells := by rw [show (headSpec ws rm).room.cells = mc from hrc]; exact hp.1
  have h5 : A.slots + (headSpec ws rm).room.slots ≤ R.slots := by rw [show (headSpec ws rm).room.slots = ms from hrs]; exact hp.2.1
  have hPc : Pc a (A.U.calling g mk a) := hblind _ _ _ _ hp.2.2
  obtain ⟨U, Ls, c0, s0⟩ := A
  dsimp only [Pt.U, Pt.locs, Pt.cells, Pt.slots] at h1 h2 h3 h4 h5 X hn hPc ⊢
  obtain ⟨methY, cY, hmY, hcY, -, hlY, -, -, -, -⟩ := Cond.code_spec hn h2
  obtain ⟨kY, hkY, -⟩ := className_of_methodNamed hn
  have hinitY : kY.init = .initialized := Cond.initialized_spec (findClass_of_methodNamed hn) hkY h3
  have h : At U g.method c below := by rw [hg]; exact X.here
  have hlocals9 : W9 + (maxL + 11) + (headSpec ws rm).room.locals ≤ R.locals := hlocals
  have happ : (headSpec ws rm).appliesLoose y e.platform (U.calling g mk a) = true :=
    Spec.appliesLoose_calling (g := g) h hdg hn hkY hinitY
      (X.room_calling (g := g) (R' := (headSpec ws rm).room) hsize hmY hcY hframes (by rw [hlY]; omega) h4 h5) h1
  obtain ⟨mid, hmid⟩ := h.above
  have hfr : (U.setTop g).frames = (.java g :: mid) ++ below := by rw [State.frames_setTop' g h.top, hmid]; rfl
  obtain ⟨o, s₂, hsteps, -, hend, hq⟩ := Steps.callFree hM p X.admits X.cas X.clock (acts := []) hfr happ hPc trivial
  have hq' : vx_Q Qc XC mc ms free a (U.calling g mk a) o s₂ := hq
  rw [State.frames_setTop' g h.top] at hend
  obtain ⟨g₀, hg0⟩ := Option.isSome_iff_exists.mp h.top
  obtain ⟨r, hr⟩ := State.topJava?_eq_some.mp hg0
  have hr' : (({ U with heap := s₂.heap, slotsUsed := s₂.slotsUsed } : State).setVm s₂.vm).frames = .java g₀ :: r := hr
  rcases hq' with ⟨hqc, L, hfe, hL⟩ | ⟨q, rfl, E, ce, L, hx, hce, hcv, hcl, hW₂, hsm, hL⟩
  · obtain ⟨⟨v, rfl⟩, hW₂, e2, q2, q3, q4, q5, q6⟩ := id hfe
    have e3 : s₂ = ({ (U.calling g mk a).setFrames s₂.frames with heap := s₂.heap, slotsUsed := s₂.slotsUsed } : State).setVm s₂.vm := by
      have : s₂ = ({ s₂ with vm := (U.calling g mk a).vm } : State).setVm s₂.vm := rfl
      rw [e2] at this
      exact this
    obtain ⟨c₂, i₂, len₂, hc₂, hd₂, hf₂⟩ := hend
    have hW' : U.WarmedH s₂.vm := hW₂
    have hcc : c₂ = c := by
      have h1 : s₂.code? g.method = U.code? g.method := by
        rw [State.code?_eq, State.code?_eq, hW'.alike.method?]
      exact Option.some.inj (hc₂.symm.trans (h1.trans h.code))
    subst hcc
    have hlen : len₂ = len := by rw [hdg] at hd₂; cases hd₂; rfl
    subst hlen
    have hs₂ : s₂ = (({ U with heap := s₂.heap, slotsUsed := s₂.slotsUsed } : State).setVm s₂.vm).setTop { g with pc := g.pc + len₂, stack := v.toList ++ g.stack } := by
      refine e3.trans ?_
      rw [hf₂, State.calling_eq h.top, State.setFrames_setFrames, State.setTop_of_frames _ hr', hr]
      rfl
    have hsame : U.sameButNew ({ U with heap := s₂.heap, slotsUsed := s₂.slotsUsed } : State) L mc ms := by
      refine ⟨?_, q2, q3, q4, q5, q6⟩
      obtain ⟨t, ht, -⟩ := State.frames_cons hr
      show ({ U with heap := s₂.heap, slotsUsed := s₂.slotsUsed } : State) = { U.setFrames U.frames with heap := s₂.heap, slotsUsed := s₂.slotsUsed }
      rw [State.setFrames_self ht]
    subst hg
    refine Or.inl ⟨v, ⟨(({ U with heap := s₂.heap, slotsUsed := s₂.slotsUsed } : State).setVm s₂.vm), Ls ++ L, c0 + mc, s0 + ms⟩,
      ⟨X.admits, X.cas, X.clock, X.frames, X.room, X.hears, X.method, X.code, (X.here.setHeapUsed s₂.heap s₂.slotsUsed).setVm hW'.alike, X.tail, State.WarmedH.trans X.warmed hW', X.limits, X.bytes, X.same.trans (hsame.setVm s.vm)⟩,
      ⟨g, mk, s₂, L, rfl, rfl, hqc, rfl, hL, rfl, rfl⟩, ?_⟩
    show Steps p.tables e below _ ((({ U with heap := s₂.heap, slotsUsed := s₂.slotsUsed } : State).setVm s₂.vm).setTop { g with pc := g.pc + len₂, stack := v.toList ++ g.stack })
    rw [← hs₂]
    exact hsteps
  · obtain ⟨e2, q2, q3, q4, q5, q6⟩ := id hsm
    have e3 : s₂ = ({ (U.calling g mk a).setFrames s₂.frames with heap := s₂.heap, slotsUsed := s₂.slotsUsed } : State).setVm s₂.vm := by
      have : s₂ = ({ s₂ with vm := (U.calling g mk a).vm } : State).setVm s₂.vm := rfl
      rw [e2] at this
      exact this
    have hf₂ : s₂.frames = .throwing q :: .java g :: U.frames.tail := hend
    have hW' : U.WarmedH s₂.vm := hW₂
    have hs₂ : s₂ = ((({ U with heap := s₂.heap, slotsUsed := s₂.slotsUsed } : State).setVm s₂.vm).setTop g).pushFrame (.throwing q) := by
      refine e3.trans ?_
      rw [hf₂, State.calling_eq h.top, State.setFrames_setFrames, State.pushFrame, State.frames_setTop _ hr', State.setTop_of_frames _ hr', State.setFrames_setFrames, hr]
      rfl
    have hsame : U.sameButNew ({ U with heap := s₂.heap, slotsUsed := s₂.slotsUsed } : State) L mc ms := by
      refine ⟨?_, q2, q3, q4, q5, q6⟩
      obtain ⟨t, ht, -⟩ := State.frames_cons hr
      show ({ U with heap := s₂.heap, slotsUsed := s₂.slotsUsed } : State) = { U.setFrames U.frames with heap := s₂.heap, slotsUsed := s₂.slotsUsed }
      rw [State.setFrames_self ht]
    subst hg
    refine Or.inr ⟨q, ⟨(({ U with heap := s₂.heap, slotsUsed := s₂.slotsUsed } : State).setVm s₂.vm), Ls ++ L, c0 + mc, s0 + ms⟩,
      ⟨X.admits, X.cas, X.clock, X.frames, X.room, X.hears, X.method, X.code, (X.here.setHeapUsed s₂.heap s₂.slotsUsed).setVm hW'.alike, X.tail, State.WarmedH.trans X.warmed hW', X.limits, X.bytes, X.same.trans (hsame.setVm s.vm)⟩,
      ⟨g, mk, s₂, L, E, ce, rfl, rfl, hx, hce, hcv, hcl, rfl, hL, rfl, rfl⟩, ?_⟩
    show Steps p.tables e below _ (((({ U with heap := s₂.heap, slotsUsed := s₂.slotsUsed } : State).setVm s₂.vm).setTop g).pushFrame (.throwing q))
    rw [← hs₂]
    exact hsteps
end Payer
section Calls
variable {p : Program} {l : Launch} {e : Env} {R : Room} {s : State} {m : MethodId} {args : Array Value} {below : List Frame} {meth : Method} {c : Code} {T : State} {locs : List Loc} {cells slots : Nat}
theorem vx_callV (X : Stand p l e R s m args below meth c T locs cells slots) (hexec : p.tables.exec = Jvm.exec) {own C : String} {index : Nat} {y : MethodName} {bytes : ByteArray} {maxL : Nat} {ret : Option FieldType}
    (hown : s.vm.findClass own = some m.cls) (hlink : (Cond.methodLink own index y).before args s = true) (hinst : (Cond.instanceMethod y).before args s = true) (hsel : (Cond.selects C y y).before args s = true)
    (hcode : (Cond.code y bytes maxL ret).before args s = true) (hy : y.cls ≠ "java/lang/invoke/MethodHandle" ∧ y.cls ≠ "java/lang/invoke/VarHandle")
    {W9 : Nat} {Pre : Pt → Array Value → Prop} {Post : Pt → Array Value → Option Value → Pt → Prop} {PostX : Pt → Array Value → Addr → Pt → Prop} (hK : vx_Back l R p e below s args y 3 W9 Pre Post PostX)
    {b : Addr} {cellB : Cell} (hcell : T.heap[b]? = some cellB) (hobj : cellB.vm.isStatics = false) (hcls : s.vm.findClass C = some cellB.cls)
    {g : JFrame} (hg : g.method = m) (hsize : g.locals.size = c.maxLocals) {argsL rest : List Value} (hlen : ∀ sig, parseMethodDescriptor y.desc = some sig → argsL.length = sig.parameters.length)
    (hstack : g.stack = argsL.reverse ++ .ref b :: rest) (hW : 2 * g.monitorRoom + (rest.map fun v => v.category).sum ≤ W9) (hdg : decode c.code g.pc = .ok (.invokevirtual index, 3))
    (hpre : ∀ vm₁, s.WarmedH vm₁ → Pre ⟨T.setVm vm₁, locs, cells, slots⟩ (Value.ref b :: argsL).toArray) :
    (∃ (v : Option Value) (vm₁ : Vm) (B : Pt), s.WarmedH vm₁ ∧ Stand p l e R s m args below meth c B.U B.locs B.cells B.slots ∧ Post ⟨T.setVm vm₁, locs, cells, slots⟩ (Value.ref b :: argsL).toArray v B ∧
      ∀ target, Steps p.tables e below (B.U.setTop { g with pc := g.pc + 3, stack := v.toList ++ rest }) target → Steps p.tables e below (T.setTop g) target) ∨
    (∃ (q : Addr) (vm₁ : Vm) (B : Pt), s.WarmedH vm₁ ∧ Stand p l e R s m args below meth c B.U B.locs B.cells B.slots ∧ PostX ⟨T.setVm vm₁, locs, cells, slots⟩ (Value.ref b :: argsL).toArray q B ∧
      Steps p.tables e below (T.setTop g) ((B.U.setTop { g with stack := rest }).pushFrame (.throwing q))) := by
  obtain ⟨mk, methM, hnamed, hmethM, hstM, habM⟩ := Cond.instanceMethod_spec hinst
  obtain ⟨methM', cM, hmethM', -, -, -, -, -, -, hsigM⟩ := Cond.code_spec hnamed hcode
  cases hmethM.symm.trans hmethM'
  obtain ⟨c2, r2, m2, q1, q2, q3, q4, kP, hkP, hkPi⟩ := Cond.selects_spec hsel
  cases hcls.symm.trans q1
  cases (State.methodFound?_of_named hnamed hy).symm.trans q2
  cases hnamed.symm.trans q3
  have hselP : selectMethod e.platform s.vm cellB.cls mk = .method mk := by rw [Launch.admits_selectMethod X.admits]; exact q4
  obtain ⟨vm₁, X₁, hstep₁⟩ := X.invokevirtual hexec hown hlink hnamed hmethM hstM hkP hkPi hy (a := b) (cell := cellB) hcell
    (fun z h => by rw [h] at hobj; cases hobj) hselP hmethM habM hkP hkPi (g := g) hg (argsL := argsL) (rest := rest) (hlen _ hsigM) hstack hdg
  rcases hK m meth c ⟨T.setVm vm₁, locs, cells, slots⟩ { g with stack := rest } (.invokevirtual index) mk (Value.ref b :: argsL).toArray X₁ hg hsize hdg hW (X₁.named hnamed) (hpre vm₁ X₁.warmed) with ⟨v, B, X', hpost, hsteps⟩ | ⟨q, B, X', hpost, hsteps⟩
  · exact Or.inl ⟨v, vm₁, B, X₁.warmed, X', hpost, fun target h => hstep₁ _ fun acts => by rw [doInvoke_state]; exact hsteps.trans h⟩
  · exact Or.inr ⟨q, vm₁, B, X₁.warmed, X', hpost, hstep₁ _ fun acts => by rw [doInvoke_state]; exact hsteps⟩
theorem vx_callS (X : Stand p l e R s m args below meth c T locs cells slots) (hexec : p.tables.exec = Jvm.exec) {own : String} {index : Nat} {y : MethodName} {bytes : ByteArray} {maxL : Nat} {ret : Option FieldType}
    (hown : s.vm.findClass own = some m.cls) (hlink : (Cond.methodLink own index y).before args s = true) (hstat : (Cond.static y).before args s = true) (hinit : (Cond.initialized y.cls).before args s = true)
    (hcode : (Cond.code y bytes maxL ret).before args s = true) (hy : y.cls ≠ "java/lang/invoke/MethodHandle" ∧ y.cls ≠ "java/lang/invoke/VarHandle")
    {W9 : Nat} {Pre : Pt → Array Value → Prop} {Post : Pt → Array Value → Option Value → Pt → Prop} {PostX : Pt → Array Value → Addr → Pt → Prop} (hK : vx_Back l R p e below s args y 3 W9 Pre Post PostX)
    {g : JFrame} (hg : g.method = m) (hsize : g.locals.size = c.maxLocals) {argsL rest : List Value} (hlen : ∀ sig, parseMethodDescriptor y.desc = some sig → argsL.length = sig.parameters.length)
    (hstack : g.stack = argsL.reverse ++ rest) (hW : 2 * g.monitorRoom + (rest.map fun v => v.category).sum ≤ W9) (hdg : decode c.code g.pc = .ok (.invokestatic index, 3))
    (hpre : ∀ vm₁, s.WarmedH vm₁ → Pre ⟨T.setVm vm₁, locs, cells, slots⟩ argsL.toArray) :
    (∃ (v : Option Value) (vm₁ : Vm) (B : Pt), s.WarmedH vm₁ ∧ Stand p l e R s m args below meth c B.U B.locs B.cells B.slots ∧ Post ⟨T.setVm vm₁, locs, cells, slots⟩ argsL.toArray v B ∧
      ∀ target, Steps p.tables e below (B.U.setTop { g with pc := g.pc + 3, stack := v.toList ++ rest }) target → Steps p.tables e below (T.setTop g) target) ∨
    (∃ (q : Addr) (vm₁ : Vm) (B : Pt), s.WarmedH vm₁ ∧ Stand p l e R s m args below meth c B.U B.locs B.cells B.slots ∧ PostX ⟨T.setVm vm₁, locs, cells, slots⟩ argsL.toArray q B ∧
      Steps p.tables e below (T.setTop g) ((B.U.setTop { g with stack := rest }).pushFrame (.throwing q))) := by
  obtain ⟨mk, hnamed⟩ := Cond.code_named hcode
  obtain ⟨methM, cM, hmethM, -, -, -, -, -, -, hsigM⟩ := Cond.code_spec hnamed hcode
  have hstatic : methM.isStatic = true := Cond.static_spec hnamed hmethM hstat
  obtain ⟨kP, hkP, -⟩ := className_of_methodNamed hnamed
  have hinitP : kP.init = .initialized := Cond.initialized_spec (findClass_of_methodNamed hnamed) hkP hinit
  obtain ⟨vm₁, X₁, hstep₁⟩ := X.invokestatic hexec hown hlink hnamed hmethM hstatic hkP hinitP hy (g := g) hg (argsL := argsL) (rest := rest) (hlen _ hsigM) hstack hdg
  rcases hK m meth c ⟨T.setVm vm₁, locs, cells, slots⟩ { g with stack := rest } (.invokestatic index) mk argsL.toArray X₁ hg hsize hdg hW (X₁.named hnamed) (hpre vm₁ X₁.warmed) with ⟨v, B, X', hpost, hsteps⟩ | ⟨q, B, X', hpost, hsteps⟩
  · exact Or.inl ⟨v, vm₁, B, X₁.warmed, X', hpost, fun target h => hstep₁ _ fun acts => by rw [doInvoke_state]; exact hsteps.trans h⟩
  · exact Or.inr ⟨q, vm₁, B, X₁.warmed, X', hpost, hstep₁ _ fun acts => by rw [doInvoke_state]; exact hsteps⟩
end Calls
theorem vx_cls {s : State} {T : State} {vm₁ : Vm} {E : String} {k : ClassId} (hW : s.WarmedH vm₁) (h : (T.setVm vm₁).vm.findClass E = some k) : s.vm.findClass E = some k := by
  have h1 : vm₁.findClass E = some k := h
  rw [hW.alike.findClass] at h1
  exact h1
/-- the method's frame g, with q thrown over it -/
def vx_W (p : Program) (l : Launch) (e : Env) (R : Room) (s : State) (m : MethodId) (args : Array Value) (below : List Frame) (meth : Method) (c : Code) (H : Heap) (locs : List Loc) (cells slots : Nat) (Q : State → Prop) (g : JFrame) (q : Addr) : Prop :=
  ∀ T : State, T.heap = H → Stand p l e R s m args below meth c T locs cells slots → ∃ t, Steps p.tables e below ((T.setTop g).pushFrame (.throwing q)) t ∧ Q t
def vx_Run (p : Program) (l : Launch) (e : Env) (R : Room) (s : State) (m : MethodId) (args : Array Value) (below : List Frame) (meth : Method) (c : Code) (H : Heap) (locs : List Loc) (cells slots mc ms : Nat) (g : JFrame) (rest : List Value) (Qa : State → Outcome → State → Prop) (XC : String → State → State → Prop) (free : Addr → Prop) : Prop :=
  ∀ T : State, T.heap = H → Stand p l e R s m args below meth c T locs cells slots →
    (∃ (v : Option Value) (st₀ t T' : State) (L : List Loc), st₀.heap = H ∧ Stand p l e R s m args below meth c T' (locs ++ L) (cells + mc) (slots + ms) ∧ (∀ q ∈ L, free q.base) ∧ T'.heap = t.heap ∧ T'.vm = t.vm ∧ Qa st₀ (.returned v) t ∧
      Goes p e below T g T' { g with pc := g.pc + 3, stack := v.toList ++ rest }) ∨
    (∃ (q : Addr) (st₀ t T' : State) (L : List Loc) (E : String) (ce : Cell), st₀.heap = H ∧ Stand p l e R s m args below meth c T' (locs ++ L) (cells + mc) (slots + ms) ∧ (∀ z ∈ L, free z.base) ∧ T'.heap = t.heap ∧ T'.vm = t.vm ∧ XC E st₀ t ∧ t.heap[q]? = some ce ∧ ce.vm = .none ∧ s.vm.findClass E = some ce.cls ∧
      Steps p.tables e below (T.setTop g) ((T'.setTop { g with stack := rest }).pushFrame (.throwing q)))
def vx_X {S : Type} (px : S → Prop) (B : String → S → State → Prop) (A : Nat → Prop) : String → State → State → Prop := fun E st t => ∃ u : S, px u ∧ B E u t ∧ va_F A st t
section Runs
variable {p : Program} {l : Launch} {e : Env} {R : Room} {s : State} {m : MethodId} {args : Array Value} {below : List Frame} {meth : Method} {c : Code} {H : Heap} {locs : List Loc} {cells slots : Nat}
variable {y : MethodName} {bytes cc : ByteArray} {maxL nL mc ms n index : Nat} {ret : Option FieldType} {ws : List Cond} {rm : Room} {Pc : Array Value → State → Prop} {Qc : Array Value → State → Outcome → State → Prop} {XC : String → State → State → Prop} {free : Addr → Prop} {Ts : List Cond} {own C : String} {b : Addr} {As rest : List Value} {g : JFrame}
theorem vx_callBack (cb : CallB R s args own index y bytes maxL ret ws rm mc ms n) (hM : vx_Met l y ws rm Pc Qc XC mc ms free) (hbl : FrameBlind Pc) : vx_Back l R p e below s args y 3 8 (PreOf R mc ms Pc) (PostOf Qc mc ms free) (vx_Post XC mc ms free) := by
  obtain ⟨hrc, hrs, hfr, hlo, hws, hcw, -, hini, -⟩ := cb
  exact vx_back (bytes := bytes) (maxL := maxL) (ret := ret) hM hbl hrc hrs hfr hlo hws hcw (fun a' U hW => word_at hW (Or.inl (by first | rfl | simp [Cond.onTables, Cond.keeps, Cond.steady])) hini)
theorem vx_runV (S : CallFix p m c cc nL s args Ts own) (hM : vx_Met l y ws rm Pc Qc XC mc ms free) (cw : CallW R s args own C index y bytes maxL ret ws rm mc ms n) (hp : PreV s H C b Pc As)
    (hg : g.method = m) (hn : As.length = n) (hsize : g.locals.size = nL) (hstack : g.stack = As.reverse ++ .ref b :: rest) (hW : 2 * g.monitorRoom + (rest.map fun v => v.category).sum ≤ 8) (hdg : decode cc g.pc = .ok (.invokevirtual index, 3)) (hf : cells + mc ≤ R.cells ∧ slots + ms ≤ R.slots) :
    vx_Run p l e R s m args below meth c H locs cells slots mc ms g rest (Qc (Value.ref b :: As).toArray) XC free := by
  have hK : vx_Back l R p e below s args y 3 8 (PreOf R mc ms Pc) (PostOf Qc mc ms free) (vx_Post XC mc ms free) := vx_callBack cw.1 hM hp.1
  obtain ⟨⟨-, -, -, -, -, -, hcode, -, hy, hlen, hl⟩, hin, hse⟩ := cw
  obtain ⟨hx, hb, hml, ho, -⟩ := S
  obtain ⟨-, ⟨cellB, hcB, hoB, hclB⟩, hPc⟩ := hp
  intro T hT X
  rcases vx_callV X hx (C := C) (bytes := bytes) (maxL := maxL) (ret := ret) ho hl hin hse hcode hy hK (by rw [hT]; exact hcB) hoB hclB hg (hsize.trans hml.symm) (argsL := As) (rest := rest) (fun sig h => hn.trans (hlen sig h)) hstack hW (by rw [hb]; exact hdg)
    (fun vm₁ hW₁ => ⟨hf.1, hf.2, hPc (T.setVm vm₁) hT hW₁⟩) with ⟨v, vm₁, ⟨U', l2, c2, s2⟩, hW₁, X', ⟨g', mk, t, L, e1, e2, hq, h1, hL, h2, h3⟩, st⟩ | ⟨q, vm₁, ⟨U', l2, c2, s2⟩, hW₁, X', ⟨g', mk, t, L, E, ce, e1, e2, hq, hce, hcv, hcl, h1, hL, h2, h3⟩, st⟩
  · dsimp only [Pt.U, Pt.locs, Pt.cells, Pt.slots] at X' e1 e2 h1 h2 h3 st
    subst h1; subst h2; subst h3
    exact Or.inl ⟨v, (T.setVm vm₁).calling g' mk (Value.ref b :: As).toArray, t, U', L, hT, X', hL, e1, e2, hq, st⟩
  · dsimp only [Pt.U, Pt.locs, Pt.cells, Pt.slots] at X' e1 e2 h1 h2 h3 st hcl
    subst h1; subst h2; subst h3
    exact Or.inr ⟨q, (T.setVm vm₁).calling g' mk (Value.ref b :: As).toArray, t, U', L, E, ce, hT, X', hL, e1, e2, hq, hce, hcv, vx_cls hW₁ hcl, st⟩
theorem vx_runS (S : CallFix p m c cc nL s args Ts own) (hM : vx_Met l y ws rm Pc Qc XC mc ms free) (cw : CallB R s args own index y bytes maxL ret ws rm mc ms n ∧ (Cond.static y).before args s = true) (hp : PreS s H Pc As)
    (hg : g.method = m) (hn : As.length = n) (hsize : g.locals.size = nL) (hstack : g.stack = As.reverse ++ rest) (hW : 2 * g.monitorRoom + (rest.map fun v => v.category).sum ≤ 8) (hdg : decode cc g.pc = .ok (.invokestatic index, 3)) (hf : cells + mc ≤ R.cells ∧ slots + ms ≤ R.slots) :
    vx_Run p l e R s m args below meth c H locs cells slots mc ms g rest (Qc As.toArray) XC free := by
  have hK : vx_Back l R p e below s args y 3 8 (PreOf R mc ms Pc) (PostOf Qc mc ms free) (vx_Post XC mc ms free) := vx_callBack cw.1 hM hp.1
  obtain ⟨⟨-, -, -, -, -, -, hcode, hini, hy, hlen, hl⟩, hstt⟩ := cw
  obtain ⟨hx, hb, hml, ho, -⟩ := S
  intro T hT X
  rcases vx_callS X hx (bytes := bytes) (maxL := maxL) (ret := ret) ho hl hstt hini hcode hy hK hg (hsize.trans hml.symm) (argsL := As) (rest := rest) (fun sig h => hn.trans (hlen sig h)) hstack hW (by rw [hb]; exact hdg)
    (fun vm₁ hW₁ => ⟨hf.1, hf.2, hp.2 (T.setVm vm₁) hT hW₁⟩) with ⟨v, vm₁, ⟨U', l2, c2, s2⟩, hW₁, X', ⟨g', mk, t, L, e1, e2, hq, h1, hL, h2, h3⟩, st⟩ | ⟨q, vm₁, ⟨U', l2, c2, s2⟩, hW₁, X', ⟨g', mk, t, L, E, ce, e1, e2, hq, hce, hcv, hcl, h1, hL, h2, h3⟩, st⟩
  · dsimp only [Pt.U, Pt.locs, Pt.cells, Pt.slots] at X' e1 e2 h1 h2 h3 st
    subst h1; subst h2; subst h3
    exact Or.inl ⟨v, (T.setVm vm₁).calling g' mk As.toArray, t, U', L, hT, X', hL, e1, e2, hq, st⟩
  · dsimp only [Pt.U, Pt.locs, Pt.cells, Pt.slots] at X' e1 e2 h1 h2 h3 st hcl
    subst h1; subst h2; subst h3
    exact Or.inr ⟨q, (T.setVm vm₁).calling g' mk As.toArray, t, U', L, E, ce, hT, X', hL, e1, e2, hq, hce, hcv, vx_cls hW₁ hcl, st⟩
end Runs
section Rows
variable {p : Program} {l : Launch} {e : Env} {R : Room} {s : State} {m : MethodId} {args : Array Value} {below : List Frame} {meth : Method} {c : Code} {H : Heap} {locs : List Loc} {cells slots : Nat} {Q : State → Prop}
variable {mc ms : Nat} {free : Addr → Prop} {A0 A1 : Nat → Prop} {H0 : Heap} {a : Array Value} {pc : Nat} {ls : Array Slot} {st0 rest : List Value}
theorem vx_keep {st₀ t T' : State} {L : List Loc} (h0 : st₀.heap = H) (e1 : T'.heap = t.heap) (hS : va_S A0 H0 H locs) (hA : ∀ q, q < H.size → A1 q → A0 q) (hf : ∀ q, free q → A0 q) (hL : ∀ q ∈ L, free q.base) (hF : va_F A1 st₀ t) :
    H.size ≤ T'.heap.size ∧ (∀ q : Nat, q < H.size → ¬ A1 q → T'.heap[q]? = H[q]?) ∧ va_S A0 H0 T'.heap (locs ++ L) := by
  obtain ⟨hz, hk⟩ := hF
  rw [h0] at hz hk
  exact ⟨by rw [e1]; exact hz, fun q h1 h2 => by rw [e1]; exact hk q h1 h2,
    ⟨Nat.le_trans hS.1 (by rw [e1]; exact hz), fun q h1 h2 => by rw [e1, hk q (Nat.lt_of_lt_of_le h1 hS.1) (fun z => h2 (hA q (Nat.lt_of_lt_of_le h1 hS.1) z))]; exact hS.2.1 q h1 h2, fun q hq => by
      rcases List.mem_append.mp hq with h | h
      · exact hS.2.2 q h
      · exact hf _ (hL q h)⟩⟩
theorem vx_calli {S SX : Type} {post : Int32 → S → Prop} {px : SX → Prop} {B : S → State → Prop} {BX : String → SX → State → Prop} {AX : Nat → Prop} (hr : vx_Run p l e R s m args below meth c H locs cells slots mc ms (F0 m pc ls st0) rest (va_Qi post B A1 a) (vx_X px BX AX) free) (hS : va_S A0 H0 H locs) (hA : ∀ q, q < H.size → A1 q → A0 q) (hf : ∀ q, free q → A0 q) (hAX : ∀ q, q < H.size → AX q → A0 q)
    (kx : ∀ (E : String) (ce : Cell) (q9 : Addr) (u : SX) (t : State) (H1 : Heap) (locs1 : List Loc), t.heap = H1 → s.vm.Alike t.vm → px u → BX E u t → H.size ≤ H1.size → (∀ q : Nat, q < H.size → ¬ AX q → H1[q]? = H[q]?) → va_S A0 H0 H1 locs1 → H1[q9]? = some ce → ce.vm = .none → s.vm.findClass E = some ce.cls → vx_W p l e R s m args below meth c H1 locs1 (cells + mc) (slots + ms) Q (F0 m pc ls rest) q9)
    (kk : ∀ (r : Int32) (u : S) (t : State) (H1 : Heap) (locs1 : List Loc), t.heap = H1 → s.vm.Alike t.vm → post r u → B u t → H.size ≤ H1.size → (∀ q : Nat, q < H.size → ¬ A1 q → H1[q]? = H[q]?) → va_S A0 H0 H1 locs1 → W p l e R s m args below meth c H1 locs1 (cells + mc) (slots + ms) Q (F0 m (pc + 3) ls (.int r :: rest))) : W p l e R s m args below meth c H locs cells slots Q (F0 m pc ls st0) := by
  intro T hT X
  rcases hr T hT X with ⟨v, st₀, t, T', L, h0, X', hL, e1, e2, ⟨⟨r, u, hv, hp, hb⟩, hF⟩, st⟩ | ⟨q, st₀, t, T', L, E, ce, h0, X', hL, e1, e2, ⟨u, hp, hb, hF⟩, hce, hcv, hcl, st⟩
  · cases hv
    obtain ⟨k1, k2, k3⟩ := vx_keep h0 e1 hS hA hf hL hF
    obtain ⟨t2, a1, b1⟩ := kk r u t T'.heap (locs ++ L) e1.symm (by rw [← e2]; exact X'.warmed.alike) hp hb k1 k2 k3 T' rfl X'
    exact ⟨t2, st t2 a1, b1⟩
  · obtain ⟨k1, k2, k3⟩ := vx_keep h0 e1 hS hAX hf hL hF
    obtain ⟨t2, a1, b1⟩ := kx E ce q u t T'.heap (locs ++ L) e1.symm (by rw [← e2]; exact X'.warmed.alike) hp hb k1 k2 k3 (by rw [e1]; exact hce) hcv hcl T' rfl X'
    exact ⟨t2, st.trans a1, b1⟩
theorem vx_calll {S SX : Type} {post : Int64 → S → Prop} {px : SX → Prop} {B : S → State → Prop} {BX : String → SX → State → Prop} {AX : Nat → Prop} (hr : vx_Run p l e R s m args below meth c H locs cells slots mc ms (F0 m pc ls st0) rest (va_Ql post B A1 a) (vx_X px BX AX) free) (hS : va_S A0 H0 H locs) (hA : ∀ q, q < H.size → A1 q → A0 q) (hf : ∀ q, free q → A0 q) (hAX : ∀ q, q < H.size → AX q → A0 q)
    (kx : ∀ (E : String) (ce : Cell) (q9 : Addr) (u : SX) (t : State) (H1 : Heap) (locs1 : List Loc), t.heap = H1 → s.vm.Alike t.vm → px u → BX E u t → H.size ≤ H1.size → (∀ q : Nat, q < H.size → ¬ AX q → H1[q]? = H[q]?) → va_S A0 H0 H1 locs1 → H1[q9]? = some ce → ce.vm = .none → s.vm.findClass E = some ce.cls → vx_W p l e R s m args below meth c H1 locs1 (cells + mc) (slots + ms) Q (F0 m pc ls rest) q9)
    (kk : ∀ (r : Int64) (u : S) (t : State) (H1 : Heap) (locs1 : List Loc), t.heap = H1 → s.vm.Alike t.vm → post r u → B u t → H.size ≤ H1.size → (∀ q : Nat, q < H.size → ¬ A1 q → H1[q]? = H[q]?) → va_S A0 H0 H1 locs1 → W p l e R s m args below meth c H1 locs1 (cells + mc) (slots + ms) Q (F0 m (pc + 3) ls (.long r :: rest))) : W p l e R s m args below meth c H locs cells slots Q (F0 m pc ls st0) := by
  intro T hT X
  rcases hr T hT X with ⟨v, st₀, t, T', L, h0, X', hL, e1, e2, ⟨⟨r, u, hv, hp, hb⟩, hF⟩, st⟩ | ⟨q, st₀, t, T', L, E, ce, h0, X', hL, e1, e2, ⟨u, hp, hb, hF⟩, hce, hcv, hcl, st⟩
  · cases hv
    obtain ⟨k1, k2, k3⟩ := vx_keep h0 e1 hS hA hf hL hF
    obtain ⟨t2, a1, b1⟩ := kk r u t T'.heap (locs ++ L) e1.symm (by rw [← e2]; exact X'.warmed.alike) hp hb k1 k2 k3 T' rfl X'
    exact ⟨t2, st t2 a1, b1⟩
  · obtain ⟨k1, k2, k3⟩ := vx_keep h0 e1 hS hAX hf hL hF
    obtain ⟨t2, a1, b1⟩ := kx E ce q u t T'.heap (locs ++ L) e1.symm (by rw [← e2]; exact X'.warmed.alike) hp hb k1 k2 k3 (by rw [e1]; exact hce) hcv hcl T' rfl X'
    exact ⟨t2, st.trans a1, b1⟩
theorem vx_callf {S SX : Type} {post : UInt32 → S → Prop} {px : SX → Prop} {B : S → State → Prop} {BX : String → SX → State → Prop} {AX : Nat → Prop} (hr : vx_Run p l e R s m args below meth c H locs cells slots mc ms (F0 m pc ls st0) rest (va_Qf post B A1 a) (vx_X px BX AX) free) (hS : va_S A0 H0 H locs) (hA : ∀ q, q < H.size → A1 q → A0 q) (hf : ∀ q, free q → A0 q) (hAX : ∀ q, q < H.size → AX q → A0 q)
    (kx : ∀ (E : String) (ce : Cell) (q9 : Addr) (u : SX) (t : State) (H1 : Heap) (locs1 : List Loc), t.heap = H1 → s.vm.Alike t.vm → px u → BX E u t → H.size ≤ H1.size → (∀ q : Nat, q < H.size → ¬ AX q → H1[q]? = H[q]?) → va_S A0 H0 H1 locs1 → H1[q9]? = some ce → ce.vm = .none → s.vm.findClass E = some ce.cls → vx_W p l e R s m args below meth c H1 locs1 (cells + mc) (slots + ms) Q (F0 m pc ls rest) q9)
    (kk : ∀ (r : UInt32) (u : S) (t : State) (H1 : Heap) (locs1 : List Loc), t.heap = H1 → s.vm.Alike t.vm → post r u → B u t → H.size ≤ H1.size → (∀ q : Nat, q < H.size → ¬ A1 q → H1[q]? = H[q]?) → va_S A0 H0 H1 locs1 → W p l e R s m args below meth c H1 locs1 (cells + mc) (slots + ms) Q (F0 m (pc + 3) ls (.float r :: rest))) : W p l e R s m args below meth c H locs cells slots Q (F0 m pc ls st0) := by
  intro T hT X
  rcases hr T hT X with ⟨v, st₀, t, T', L, h0, X', hL, e1, e2, ⟨⟨r, u, hv, hp, hb⟩, hF⟩, st⟩ | ⟨q, st₀, t, T', L, E, ce, h0, X', hL, e1, e2, ⟨u, hp, hb, hF⟩, hce, hcv, hcl, st⟩
  · cases hv
    obtain ⟨k1, k2, k3⟩ := vx_keep h0 e1 hS hA hf hL hF
    obtain ⟨t2, a1, b1⟩ := kk r u t T'.heap (locs ++ L) e1.symm (by rw [← e2]; exact X'.warmed.alike) hp hb k1 k2 k3 T' rfl X'
    exact ⟨t2, st t2 a1, b1⟩
  · obtain ⟨k1, k2, k3⟩ := vx_keep h0 e1 hS hAX hf hL hF
    obtain ⟨t2, a1, b1⟩ := kx E ce q u t T'.heap (locs ++ L) e1.symm (by rw [← e2]; exact X'.warmed.alike) hp hb k1 k2 k3 (by rw [e1]; exact hce) hcv hcl T' rfl X'
    exact ⟨t2, st.trans a1, b1⟩
theorem vx_calld {S SX : Type} {post : UInt64 → S → Prop} {px : SX → Prop} {B : S → State → Prop} {BX : String → SX → State → Prop} {AX : Nat → Prop} (hr : vx_Run p l e R s m args below meth c H locs cells slots mc ms (F0 m pc ls st0) rest (va_Qd post B A1 a) (vx_X px BX AX) free) (hS : va_S A0 H0 H locs) (hA : ∀ q, q < H.size → A1 q → A0 q) (hf : ∀ q, free q → A0 q) (hAX : ∀ q, q < H.size → AX q → A0 q)
    (kx : ∀ (E : String) (ce : Cell) (q9 : Addr) (u : SX) (t : State) (H1 : Heap) (locs1 : List Loc), t.heap = H1 → s.vm.Alike t.vm → px u → BX E u t → H.size ≤ H1.size → (∀ q : Nat, q < H.size → ¬ AX q → H1[q]? = H[q]?) → va_S A0 H0 H1 locs1 → H1[q9]? = some ce → ce.vm = .none → s.vm.findClass E = some ce.cls → vx_W p l e R s m args below meth c H1 locs1 (cells + mc) (slots + ms) Q (F0 m pc ls rest) q9)
    (kk : ∀ (r : UInt64) (u : S) (t : State) (H1 : Heap) (locs1 : List Loc), t.heap = H1 → s.vm.Alike t.vm → post r u → B u t → H.size ≤ H1.size → (∀ q : Nat, q < H.size → ¬ A1 q → H1[q]? = H[q]?) → va_S A0 H0 H1 locs1 → W p l e R s m args below meth c H1 locs1 (cells + mc) (slots + ms) Q (F0 m (pc + 3) ls (.double r :: rest))) : W p l e R s m args below meth c H locs cells slots Q (F0 m pc ls st0) := by
  intro T hT X
  rcases hr T hT X with ⟨v, st₀, t, T', L, h0, X', hL, e1, e2, ⟨⟨r, u, hv, hp, hb⟩, hF⟩, st⟩ | ⟨q, st₀, t, T', L, E, ce, h0, X', hL, e1, e2, ⟨u, hp, hb, hF⟩, hce, hcv, hcl, st⟩
  · cases hv
    obtain ⟨k1, k2, k3⟩ := vx_keep h0 e1 hS hA hf hL hF
    obtain ⟨t2, a1, b1⟩ := kk r u t T'.heap (locs ++ L) e1.symm (by rw [← e2]; exact X'.warmed.alike) hp hb k1 k2 k3 T' rfl X'
    exact ⟨t2, st t2 a1, b1⟩
  · obtain ⟨k1, k2, k3⟩ := vx_keep h0 e1 hS hAX hf hL hF
    obtain ⟨t2, a1, b1⟩ := kx E ce q u t T'.heap (locs ++ L) e1.symm (by rw [← e2]; exact X'.warmed.alike) hp hb k1 k2 k3 (by rw [e1]; exact hce) hcv hcl T' rfl X'
    exact ⟨t2, st.trans a1, b1⟩
theorem vx_callv {S SX : Type} {post : S → Prop} {px : SX → Prop} {B : S → State → Prop} {BX : String → SX → State → Prop} {AX : Nat → Prop} (hr : vx_Run p l e R s m args below meth c H locs cells slots mc ms (F0 m pc ls st0) rest (va_Qv post B A1 a) (vx_X px BX AX) free) (hS : va_S A0 H0 H locs) (hA : ∀ q, q < H.size → A1 q → A0 q) (hf : ∀ q, free q → A0 q) (hAX : ∀ q, q < H.size → AX q → A0 q)
    (kx : ∀ (E : String) (ce : Cell) (q9 : Addr) (u : SX) (t : State) (H1 : Heap) (locs1 : List Loc), t.heap = H1 → s.vm.Alike t.vm → px u → BX E u t → H.size ≤ H1.size → (∀ q : Nat, q < H.size → ¬ AX q → H1[q]? = H[q]?) → va_S A0 H0 H1 locs1 → H1[q9]? = some ce → ce.vm = .none → s.vm.findClass E = some ce.cls → vx_W p l e R s m args below meth c H1 locs1 (cells + mc) (slots + ms) Q (F0 m pc ls rest) q9)
    (kk : ∀ (u : S) (t : State) (H1 : Heap) (locs1 : List Loc), t.heap = H1 → s.vm.Alike t.vm → post u → B u t → H.size ≤ H1.size → (∀ q : Nat, q < H.size → ¬ A1 q → H1[q]? = H[q]?) → va_S A0 H0 H1 locs1 → W p l e R s m args below meth c H1 locs1 (cells + mc) (slots + ms) Q (F0 m (pc + 3) ls (rest))) : W p l e R s m args below meth c H locs cells slots Q (F0 m pc ls st0) := by
  intro T hT X
  rcases hr T hT X with ⟨v, st₀, t, T', L, h0, X', hL, e1, e2, ⟨⟨u, hv, hp, hb⟩, hF⟩, st⟩ | ⟨q, st₀, t, T', L, E, ce, h0, X', hL, e1, e2, ⟨u, hp, hb, hF⟩, hce, hcv, hcl, st⟩
  · cases hv
    obtain ⟨k1, k2, k3⟩ := vx_keep h0 e1 hS hA hf hL hF
    obtain ⟨t2, a1, b1⟩ := kk u t T'.heap (locs ++ L) e1.symm (by rw [← e2]; exact X'.warmed.alike) hp hb k1 k2 k3 T' rfl X'
    exact ⟨t2, st t2 a1, b1⟩
  · obtain ⟨k1, k2, k3⟩ := vx_keep h0 e1 hS hAX hf hL hF
    obtain ⟨t2, a1, b1⟩ := kx E ce q u t T'.heap (locs ++ L) e1.symm (by rw [← e2]; exact X'.warmed.alike) hp hb k1 k2 k3 (by rw [e1]; exact hce) hcv hcl T' rfl X'
    exact ⟨t2, st.trans a1, b1⟩
/-- caught by the row x of this method's table; the rows ahead don't take it -/
theorem vx_catch {own name : String} {E : String} {ce : Cell} {q : Addr} (hown : s.vm.findClass own = some m.cls) (pre : List ExceptionTableEntry) (x : ExceptionTableEntry) (suf : List ExceptionTableEntry) (hsplit : c.exceptionTable.toList = pre ++ x :: suf)
    (hpass : ∀ z ∈ pre, covers z pc = false ∨ (z.catchType ≠ 0 ∧ ∃ nm : String, (Cond.classLink own z.catchType nm).before args s = true ∧ va_Nc E nm s)) (hx : covers x pc = true) (h0 : x.catchType ≠ 0)
    (hlink : (Cond.classLink own x.catchType name).before args s = true) (hcast : (Cond.castable E name).before args s = true) (hcell : H[q]? = some ce) (hv : ce.vm = .none) (hcl : s.vm.findClass E = some ce.cls)
    (kk : W p l e R s m args below meth c H locs cells slots Q (F0 m x.handlerPc ls [.ref q])) : vx_W p l e R s m args below meth c H locs cells slots Q (F0 m pc ls rest) q := by
  intro T hT X
  have hpl : e.platform.magicAccessors = ({} : Platform).magicAccessors := by rw [X.admits.platform]
  obtain ⟨c3, c4, hc3, hc4, hasg⟩ := Cond.castable_spec hcast
  cases Option.some.inj (hc3.symm.trans hcl)
  obtain ⟨c5, hc5, hcl5⟩ := Cond.classLink_spec hown hlink e.platform hpl
  cases Option.some.inj (hc4.symm.trans hc5)
  obtain ⟨vm', X', st⟩ := X.thenCaughtThrough q (g := F0 m pc ls rest) rfl (Steps.refl _) (by rw [hT]; exact hcell) (by rw [hv]; rfl) (by obtain ⟨k9, h9, -⟩ := Vm.findClass_spec hcl; exact ⟨k9, h9⟩) pre x suf hsplit
    (fun z hz => by
      rcases hpass z hz with h | ⟨hz0, nm, hl1, hn1⟩
      · exact Or.inl h
      · obtain ⟨c6, hc6, hcl6⟩ := Cond.classLink_spec hown hl1 e.platform hpl
        obtain ⟨a8, b8, h1, h2, h3⟩ := hn1
        cases Option.some.inj (h1.symm.trans hcl)
        cases Option.some.inj (h2.symm.trans hc6)
        exact Or.inr ⟨hz0, _, hcl6, h3⟩) hx (Or.inr ⟨h0, c4, hcl5, hasg⟩)
  obtain ⟨t, a1, b1⟩ := kk (T.setVm vm') hT X'
  exact ⟨t, st.trans a1, b1⟩
end Rows
section Ends
variable {p : Program} {l : Launch} {e : Env} {R : Room} {s : State} {m : MethodId} {args : Array Value} {below : List Frame} {meth : Method} {c : Code} {H : Heap} {locs : List Loc} {cells slots : Nat} {Q : State → Prop}
variable {mc ms : Nat} {free : Addr → Prop} {A0 A1 : Nat → Prop} {H0 : Heap} {a : Array Value} {ls : Array Slot} {st0 rest : List Value}
variable {Qc : Array Value → State → Outcome → State → Prop} {XC : String → State → State → Prop}
/-- what a body that may throw owes at its end -/
def vx_MQ (below : List Frame) (Qc : Array Value → State → Outcome → State → Prop) (XC : String → State → State → Prop) (a : Array Value) (s : State) (mc ms : Nat) (free : Addr → Prop) : State → Prop := fun t =>
  ∃ o, t.status = .running ∧ Ended t below o ∧ vx_Q Qc XC mc ms free a s o t
theorem vx_ret {g : JFrame} {mc ms : Nat} (k : W p l e R s m args below meth c H locs cells slots (MQ below Qc args s mc ms free) g) : W p l e R s m args below meth c H locs cells slots (vx_MQ below Qc XC args s mc ms free) g := by
  intro T hT X
  obtain ⟨t, a1, o, b1, b2, b3, b4⟩ := k T hT X
  exact ⟨t, a1, o, b1, b2, Or.inl ⟨b3, b4⟩⟩
/-- not caught here: it goes on to the caller -/
theorem vx_widen {g : JFrame} {q : Addr} {k n : Nat} (h1 : cells ≤ k) (h2 : slots ≤ n) (kk : vx_W p l e R s m args below meth c H locs k n Q g q) : vx_W p l e R s m args below meth c H locs cells slots Q g q := fun T hT X => kk T hT (stand_widen X h1 h2)
theorem vx_out {pc : Nat} {E : String} {ce : Cell} {q : Addr} {mc ms : Nat} (hout : ∀ x ∈ c.exceptionTable.toList, covers x pc = false) (hlocks : meth.locks = false) (hcell : H[q]? = some ce) (hv : ce.vm = .none) (hcl : s.vm.findClass E = some ce.cls)
    (hx : ∀ t : State, t.heap = H → s.vm.Alike t.vm → XC E s t) (hf : ∀ z ∈ locs, free z.base) (hc : cells ≤ mc) (hs : slots ≤ ms) :
    vx_W p l e R s m args below meth c H locs cells slots (vx_MQ below Qc XC args s mc ms free) (F0 m pc ls rest) q := by
  intro T hT X
  obtain ⟨st1, hrun, hend, hW, hsm⟩ := X.leaveThrown q (g := F0 m pc ls rest) rfl rfl rfl hout hlocks
  have hcell9 : (T.setFrames (.throwing q :: below)).heap[q]? = some ce := by
    show T.heap[q]? = some ce
    rw [hT]; exact hcell
  exact ⟨_, st1, .threw q, hrun, hend, Or.inr ⟨q, rfl, E, ce, locs, hx _ hT hW.alike, hcell9, hv, hcl, hW, hsm.mono hc hs, hf⟩⟩
theorem vx_frame {U : State} {k n : Nat} (h : s.sameButNew ({ U with vm := s.vm } : State) locs k n) : s.heap.size ≤ U.heap.size ∧ ∀ q : Nat, q < s.heap.size → (∀ z ∈ locs, z.base ≠ q) → U.heap[q]? = s.heap[q]? := by
  obtain ⟨-, h2, -, -, -, h6⟩ := h
  refine ⟨h2, fun q hq hz => ?_⟩
  obtain ⟨c9, e1, e2, e3, e4⟩ := h6 q _ (Array.getElem?_eq_getElem hq)
  have hs : c9.slots = (s.heap[q]).slots := Array.ext_getElem? fun i => e4 i fun hm => hz _ hm rfl
  have h9 : c9 = s.heap[q] := by
    rw [hs] at e2
    exact e2
  have e5 : U.heap[q]? = some c9 := e1
  rw [e5, h9, Array.getElem?_eq_getElem hq]
/-- the words of a throw but the four that speak of the heap -/
def vx_no (w : Cond) : Bool := decide (w ≠ .isRef (.static Bundle.tN "UNASSIGNED_STACK" Bundle.steD)) && decide (w ≠ .isRef (.static Bundle.tN "SUPPRESSED_SENTINEL" Bundle.listD)) && decide (w ≠ .laysStatic Bundle.tN "UNASSIGNED_STACK" Bundle.steD) && decide (w ≠ .laysStatic Bundle.tN "SUPPRESSED_SENTINEL" Bundle.listD)
def vx_at0 (own : String) (ic : Nat) (X : String) (names : List String) : List Cond := (Bundle.ownAtoms0 own ic X names).filter vx_no
def vx_atS (own : String) (ic : Nat) (X : String) (names : List String) : List Cond := (Bundle.ownAtoms own ic X names).filter vx_no
/-- a word that the tables alone decide, or a good one -/
def vx_ot (w : Cond) : Bool := w.onTables || goodWord w
theorem vx_ot_at {args a' : Array Value} {s U : State} {w : Cond} (hW : s.WarmedH U.vm) (hvm : s.vm = U.vm) (hg : vx_ot w = true) (h : w.before args s = true) : w.before a' U = true := by
  simp only [vx_ot, Bool.or_eq_true] at hg
  rcases hg with hg | hg
  · exact va_tabs hg hvm h
  · exact word_at hW (good_of_word hg) h
/-- a list's words: the good ones out of the method's own list, the others by premises of their own -/
theorem vx_hat {args : Array Value} {s : State} {L B : List Cond} (h1 : ∀ w ∈ L.filter goodWord, w.before args s = true) (h2 : ∀ w ∈ L.filter (fun w => !goodWord w), w ∈ B) (h3 : ∀ w ∈ B, w.before args s = true) : ∀ w ∈ L, w.before args s = true := by
  intro w hw
  by_cases g : goodWord w = true
  · exact h1 w (List.mem_filter.mpr ⟨hw, g⟩)
  · refine h3 w (h2 w (List.mem_filter.mpr ⟨hw, ?_⟩))
    show (!goodWord w) = true
    cases hgw : goodWord w
    · rfl
    · exact absurd hgw g
theorem vx_c {args : Array Value} {s : State} {w : Cond} {B : List Cond} (h : w.before args s = true) (t : ∀ w ∈ B, w.before args s = true) : ∀ w' ∈ w :: B, w'.before args s = true := fun w' h' => (List.mem_cons.mp h').elim (fun e => by rw [e]; exact h) (t w')
theorem vx_n {args : Array Value} {s : State} : ∀ w ∈ ([] : List Cond), w.before args s = true := fun _ h => nomatch h
theorem vx_own {args : Array Value} {s : State} {L : List Cond} (h1 : ∀ w ∈ L.filter vx_no, w.before args s = true)
    (hU : (Cond.isRef (.static Bundle.tN "UNASSIGNED_STACK" Bundle.steD)).before args s = true) (hN : (Cond.isRef (.static Bundle.tN "SUPPRESSED_SENTINEL" Bundle.listD)).before args s = true)
    (lU : (Cond.laysStatic Bundle.tN "UNASSIGNED_STACK" Bundle.steD).before args s = true) (lN : (Cond.laysStatic Bundle.tN "SUPPRESSED_SENTINEL" Bundle.listD).before args s = true) : ∀ w ∈ L, w.before args s = true := by
  intro w hw
  by_cases e1 : w = .isRef (.static Bundle.tN "UNASSIGNED_STACK" Bundle.steD)
  · rw [e1]; exact hU
  · by_cases e2 : w = .isRef (.static Bundle.tN "SUPPRESSED_SENTINEL" Bundle.listD)
    · rw [e2]; exact hN
    · by_cases e3 : w = .laysStatic Bundle.tN "UNASSIGNED_STACK" Bundle.steD
      · rw [e3]; exact lU
      · by_cases e4 : w = .laysStatic Bundle.tN "SUPPRESSED_SENTINEL" Bundle.listD
        · rw [e4]; exact lN
        · exact h1 w (List.mem_filter.mpr ⟨hw, by unfold vx_no; rw [decide_eq_true e1, decide_eq_true e2, decide_eq_true e3, decide_eq_true e4]; rfl⟩)
/-- where a static field lies, its class's statics cell in H -/
def vx_L (C n d : String) (A : Nat → Prop) (U : State) (H : Heap) : Prop := ∃ (c : ClassId) (k : Class) (i : Nat) (f : Field) (a : Nat) (cell : Cell), U.vm.findClass C = some c ∧ U.fieldFound? C n d = some (c, k, i, f) ∧ f.isStatic = true ∧ k.statics = some a ∧ H[a]? = some cell ∧ cell.vm.isStatics = true ∧ cell.cls = c ∧ f.slot < cell.slots.size ∧ k.staticTypes[f.slot]? = some f.type ∧ ¬ A a
theorem vx_L.moved {C n d : String} {A : Nat → Prop} {u U : State} {H : Heap} (hvm : u.vm.Alike U.vm) (h : vx_L C n d A u H) : vx_L C n d A U H := by
  obtain ⟨c, k, i, f, a, cell, h1, h2, h3, h4, h5, h6, h7, h8, h9, h10⟩ := h
  obtain ⟨k', hi', he⟩ := State.fieldFound?_setVm hvm h2
  exact ⟨c, k', i, f, a, cell, by rw [hvm.findClass]; exact h1, hi', h3, by rw [he]; exact h4, h5, h6, h7, h8, by rw [he]; exact h9, h10⟩
theorem vx_L.kept {C n d : String} {A : Nat → Prop} {U : State} {H H1 : Heap} (h : vx_L C n d A U H) (hq : ∀ a : Nat, a < H.size → ¬ A a → H1[a]? = H[a]?) : vx_L C n d A U H1 := by
  obtain ⟨c, k, i, f, a, cell, h1, h2, h3, h4, h5, h6, h7, h8, h9, h10⟩ := h
  exact ⟨c, k, i, f, a, cell, h1, h2, h3, h4, by rw [hq a (Array.getElem?_eq_some_iff.mp h5).1 h10]; exact h5, h6, h7, h8, h9, h10⟩
theorem vx_L.narrow {C n d : String} {A B : Nat → Prop} {U : State} {H : Heap} (h : vx_L C n d A U H) (hAB : ∀ q, B q → A q) : vx_L C n d B U H := by
  obtain ⟨c, k, i, f, a, cell, h1, h2, h3, h4, h5, h6, h7, h8, h9, h10⟩ := h
  exact ⟨c, k, i, f, a, cell, h1, h2, h3, h4, h5, h6, h7, h8, h9, fun z => h10 (hAB _ z)⟩
theorem vx_L.word {C n d : String} {A : Nat → Prop} {s : State} {args : Array Value} (h : vx_L C n d A s s.heap) : (Cond.laysStatic C n d).before args s = true := by
  obtain ⟨c, k, i, f, a, cell, h1, h2, h3, h4, h5, h6, h7, h8, h9, -⟩ := h
  show (Cond.laysStatic C n d).holds args s none s [] = true
  exact Cond.laysStatic_of h1 h2 h3 h4 h5 h6 h7 h8 h9
/-- .. and what it holds: null or some reference -/
def vx_Zq (C n d : String) (A : Nat → Prop) (U : State) (H : Heap) : Prop := va_Zq C n d A U H ∧ vx_L C n d A U H
theorem vx_Zq.moved {C n d : String} {A : Nat → Prop} {u U : State} {H : Heap} (hvm : u.vm.Alike U.vm) (h : vx_Zq C n d A u H) : vx_Zq C n d A U H := ⟨va_Zq.moved hvm h.1, vx_L.moved hvm h.2⟩
theorem vx_Zq.kept {C n d : String} {A : Nat → Prop} {U : State} {H H1 : Heap} (h : vx_Zq C n d A U H) (hq : ∀ a : Nat, a < H.size → ¬ A a → H1[a]? = H[a]?) : vx_Zq C n d A U H1 := ⟨va_Zq.kept h.1 hq, vx_L.kept h.2 hq⟩
theorem vx_Zq.narrow {C n d : String} {A B : Nat → Prop} {U : State} {H : Heap} (h : vx_Zq C n d A U H) (hAB : ∀ q, B q → A q) : vx_Zq C n d B U H := ⟨va_Zq.narrow h.1 hAB, vx_L.narrow h.2 hAB⟩
theorem vx_Zqof {args : Array Value} {s : State} {C n d : String} {A : Nat → Prop} (hl : (Cond.laysStatic C n d).before args s = true) (hini : (Cond.initialized C).before args s = true) (h : (Cond.isRef (.static C n d)).before args s = true) (hA : ∀ a : Nat, a < s.heap.size → ¬ A a) : vx_Zq C n d A s s.heap := by
  refine ⟨va_Zqof hl hini h hA, ?_⟩
  obtain ⟨c, k, i, f, a, cell, h1, h2, h3, h4, h5, h6, h7, h8, h9⟩ := Cond.laysStatic_spec hl
  exact ⟨c, k, i, f, a, cell, h1, h2, h3, h4, h5, h6, h7, h8, h9, hA a (Array.getElem?_eq_some_iff.mp h5).1⟩
theorem vx_isRef {C n d : String} {v : Value} {A : Nat → Prop} {s : State} {args : Array Value} (h : va_Z C n d v A s s.heap) (hv : v.isRef = true) : (Cond.isRef (.static C n d)).before args s = true := by
  obtain ⟨cf, kf, fi, f, a, cell, h1, h2, h3, h4, h5, h6, h7, -⟩ := h
  have he : (Term.static C n d).eval args s none [] s = some v := by
    simp [Term.eval, State.fieldNamed?, h1, h2, h4, h5, h6, h7]
  simp only [Cond.before, Cond.holds, Cond.value, he]
  cases v <;> simp_all [Value.isRef]
theorem vx_isRefq {C n d : String} {A : Nat → Prop} {s : State} {args : Array Value} (h : va_Zq C n d A s s.heap) : (Cond.isRef (.static C n d)).before args s = true := by
  rcases h with h | ⟨t, h⟩
  · exact vx_isRef h rfl
  · exact vx_isRef h rfl
/-- the same frame, seen from here: as if the method were called anew in this heap -/
theorem vx_rebase {T : State} (X : Stand p l e R s m args below meth c T locs cells slots) {R' : Room} (hf : R'.frames ≤ R.frames) (hl : R'.locals ≤ R.locals) (hc : cells + R'.cells ≤ R.cells) (hs : slots + R'.slots ≤ R.slots) :
    Stand p l e R' ((T.setVm s.vm).setFrames (.invoking m args :: below)) m args below meth c T [] 0 0 := by
  have htop : (T.setVm s.vm).topJava?.isSome := X.here.top
  have hF : ((T.setVm s.vm).setFrames (.invoking m args :: below)).frames = .invoking m args :: below := State.frames_setFrames _ (State.cur_lt_of_top htop)
  obtain ⟨g₀, hg0⟩ := Option.isSome_iff_exists.mp htop
  obtain ⟨r, hr⟩ := State.topJava?_eq_some.mp hg0
  have hl9 : e.platform.stackLimits (T.setVm s.vm).me = e.platform.stackLimits s.me := X.limits
  have hb9 : (T.setVm s.vm).me.stackBytes = s.me.stackBytes := X.bytes
  refine ⟨X.admits, X.cas, X.clock, hF, ?_, X.hears, X.method, X.code, X.here, X.tail, X.warmed, ?_, ?_, ?_⟩
  · have h := X.room
    have hU : ((T.setVm s.vm).setFrames (.invoking m args :: below)).localsInUse = s.localsInUse := by
      rw [State.localsInUse_invoking hF (meth := meth) (c := c) X.method X.code, State.localsInUse_invoking X.frames X.method X.code]
    simp only [State.hasRoom, Bool.and_eq_true, decide_eq_true_eq] at h ⊢
    obtain ⟨⟨⟨⟨h1, h2, h3, h4, h5, h6⟩, h7⟩, h8⟩, h9⟩ := h
    rw [X.frames, List.length_cons] at h2 h3
    have q1 := X.heapSize
    have q2 := X.used
    simp only [hF, hU, List.length_cons, State.stackLimits_setFrames, State.stackBytes_setFrames, hl9, hb9]
    refine ⟨⟨⟨⟨by omega, by omega, by omega, by omega, by omega, h6⟩, ?_⟩, ?_⟩, X.book⟩
    · show T.heap.size + R'.cells ≤ e.platform.maxCells
      omega
    · show T.slotsUsed + R'.slots ≤ e.platform.maxSlots
      omega
  · rw [State.stackLimits_setFrames]; rfl
  · rw [State.stackBytes_setFrames]; rfl
  · refine ⟨?_, Nat.le_refl _, Nat.le_refl _, ?_, ?_, fun a c9 h9 => ⟨c9, h9, rfl, rfl, fun _ _ => rfl⟩⟩
    · obtain ⟨t, ht, -⟩ := State.frames_cons hr
      show T.setVm s.vm = { ((T.setVm s.vm).setFrames (.invoking m args :: below)).setFrames (T.setVm s.vm).frames with heap := T.heap, slotsUsed := T.slotsUsed }
      rw [State.setFrames_setFrames, State.setFrames_self ht]
      rfl
    · show T.slotsUsed = T.slotsUsed + ((T.heap.toList.drop T.heap.size).map (·.slots.size)).sum
      rw [List.drop_eq_nil_of_le (Nat.le_of_eq Array.length_toList)]
      rfl
    · show ((T.heap.toList.drop T.heap.size).map (·.slots.size)).sum ≤ 0
      rw [List.drop_eq_nil_of_le (Nat.le_of_eq Array.length_toList)]
      exact Nat.le_refl _
/-- 'throw new E()': new; dup; invokespecial; athrow -/
theorem vx_throw0 {cc : ByteArray} {pc : Nat} (hexec : p.tables.exec = Jvm.exec) (hb : c.code = cc) (hl : l.stackTraces = false) {own cls : String} {names : List String} {ik ic mc ms : Nat} {A : Nat → Prop}
    (hown : s.vm.findClass own = some m.cls) (hcls : Bundle.fit cls = true) (hnames : ∀ n ∈ names, Bundle.fit n = true)
    (hk : (Cond.classLink own ik cls).before args s = true) (hini : (Cond.initialized cls).before args s = true) (hat : ∀ w ∈ vx_at0 own ic cls names, w.before args s = true)
    (hgood : ∀ w ∈ Cond.classLink own ik cls :: Cond.initialized cls :: vx_at0 own ic cls names, vx_ot w = true)
    (hU : vx_Zq Bundle.tN "UNASSIGNED_STACK" Bundle.steD A s s.heap) (hN : vx_Zq Bundle.tN "SUPPRESSED_SENTINEL" Bundle.listD A s s.heap) (hS : va_S A s.heap H locs) (hsize : ls.size = c.maxLocals)
    (d0 : decode cc pc = .ok (.new ik, 3)) (d3 : decode cc (pc + 3) = .ok (.dup, 1)) (d4 : decode cc (pc + 4) = .ok (.invokespecial ic, 3)) (d7 : decode cc (pc + 7) = .ok (.athrow, 1))
    (hout : ∀ x ∈ c.exceptionTable.toList, covers x (pc + 7) = false)
    (hRframes : names.length + 3 < R.frames) (hRlocals : (rest.map fun v => v.category).sum + (13 * (names.length + 1) + 42) ≤ R.locals) (hRcells : cells + 1 ≤ R.cells) (hRslots : slots + 6 ≤ R.slots) (hlocks : meth.locks = false)
    (hx : ∀ t : State, s.vm.Alike t.vm → H.size ≤ t.heap.size → (∀ q : Nat, q < H.size → t.heap[q]? = H[q]?) → XC cls s t)
    (hf : ∀ z ∈ locs, free z.base) (hc : cells + 1 ≤ mc) (hs : slots + 6 ≤ ms) :
    W p l e R s m args below meth c H locs cells slots (vx_MQ below Qc XC args s mc ms free) (F0 m pc ls rest) := by
  intro T hT X
  have htr : e.platform.stackTraces = false := (show e.platform.stackTraces = l.stackTraces by rw [X.admits.platform]).trans hl
  have Y := vx_rebase X (R' := { frames := R.frames, locals := R.locals, cells := 1, slots := 6 }) (Nat.le_refl _) (Nat.le_refl _) hRcells hRslots
  obtain ⟨s', hA⟩ : ∃ z, z = (T.setVm s.vm).setFrames (.invoking m args :: below) := ⟨_, rfl⟩
  rw [← hA] at Y
  have hvm : s'.vm = s.vm := by rw [hA]; rfl
  have hhp : s'.heap = H := by rw [hA]; exact hT
  have hW0 : s.WarmedH s'.vm := by rw [hvm]; exact State.WarmedH.refl s
  have hat' : ∀ w ∈ vx_at0 own ic cls names, w.before args s' = true := fun w hw => vx_ot_at hW0 hvm.symm (hgood w (List.mem_cons_of_mem _ (List.mem_cons_of_mem _ hw))) (hat w hw)
  have hk' : (Cond.classLink own ik cls).before args s' = true := vx_ot_at hW0 hvm.symm (hgood _ List.mem_cons_self) hk
  have hini' : (Cond.initialized cls).before args s' = true := vx_ot_at hW0 hvm.symm (hgood _ (List.mem_cons_of_mem _ List.mem_cons_self)) hini
  have hU' : vx_Zq Bundle.tN "UNASSIGNED_STACK" Bundle.steD A s' s'.heap := by rw [hhp]; exact vx_Zq.moved hW0.alike (hU.kept hS.2.1)
  have hN' : vx_Zq Bundle.tN "SUPPRESSED_SENTINEL" Bundle.listD A s' s'.heap := by rw [hhp]; exact vx_Zq.moved hW0.alike (hN.kept hS.2.1)
  have h : ∀ w ∈ Bundle.ownAtoms0 own ic cls names, w.before args s' = true := vx_own hat' (vx_isRefq hU'.1) (vx_isRefq hN'.1) hU'.2.word hN'.2.word
  have hown' : s'.vm.findClass own = some m.cls := by rw [hvm]; exact hown
  have hins : (Cond.instantiable cls 6).before args s' = true := h _ (by simp [Bundle.ownAtoms0])
  obtain ⟨vm₁, cX, kX, hfX, hkX, -, -, X₁, st1⟩ := Y.newCold hexec (own := own) (C := cls) (index := ik) (n := 6) hown' hk' hins hini'
    (g := F0 m pc ls rest) rfl (by rw [hb]; exact d0) (Nat.le_refl _) (Nat.le_refl _)
  generalize hT1 : (T.setVm vm₁).pushCell { cls := cX, slots := kX.instanceTypes.map defaultValue, vm := .none } = T1 at X₁ st1
  have hcat : (Value.ref T.heap.size).category = 1 := rfl
  have hcellA : T1.heap[T.heap.size]? = some (freshCell cX kX) := by rw [← hT1]; exact State.heap_pushCell_size _ _
  have d3' : decode c.code (pc + 3) = .ok (.dup, 1) := by rw [hb]; exact d3
  obtain ⟨U, hsteps, hrun, hend, hW, hsame, ce, hce, hO⟩ := X₁.ctorThrow0 hexec htr (own := own) (cls := cls) (names := names) (ic := ic) hown' hcls hnames h (fun x hx => nomatch hx) hfX hkX hcellA (by rw [hhp, hT]; exact Nat.le_refl _)
    (g := { method := m, pc := pc + 4, locals := ls, stack := .ref T.heap.size :: .ref T.heap.size :: rest, locked := none }) rfl hsize rfl rfl (rest := rest) rfl
    (by rw [hb]; exact d4) (by rw [hb]; exact d7) hout hRframes (by simp only [List.map_cons, List.sum_cons, hcat]; omega) hlocks
  obtain ⟨f1, f2⟩ := vx_frame hsame
  rw [hhp] at f1 f2
  have hWs : s.WarmedH U.vm := State.WarmedH.trans hW0 hW
  have hcl : s.vm.findClass cls = some ce.cls := by
    have h9 := hO.cls
    rw [hvm] at h9
    exact h9
  have hall : s.sameButNew ({ U with vm := s.vm } : State) locs mc ms := by
    subst hA
    obtain ⟨e1, e2⟩ := hsame
    rw [State.setFrames_setFrames] at e1
    have h2 : (T.setVm s.vm).sameButNew ({ U with vm := s.vm } : State) [] (0 + 1) (0 + 6) := ⟨e1, e2⟩
    have h3 := X.same.trans h2
    rw [List.append_nil] at h3
    exact h3.mono hc hs
  refine ⟨U, ?_, .threw T.heap.size, hrun, hend, Or.inr ⟨T.heap.size, rfl, cls, ce, locs, hx U hWs.alike f1 (fun q hq => f2 q hq (fun z hz => nomatch hz)), hce, hO.vm, hcl, hWs, hall, hf⟩⟩
  refine st1 _ ?_
  show Steps p.tables e below (T1.setTop { method := m, pc := pc + 3, locals := ls, stack := .ref T.heap.size :: rest, locked := none }) _
  jvm_step X₁.here [X₁.here.top, hexec, d3', Value.category]
  exact hsteps
/-- 'throw new E("text")': new; dup; ldc; invokespecial; athrow -/
theorem vx_throwS {cc : ByteArray} {pc : Nat} (hexec : p.tables.exec = Jvm.exec) (hb : c.code = cc) (hl : l.stackTraces = false) {own cls text : String} {names : List String} {ik is ic mc ms sa : Nat} {A : Nat → Prop}
    (hown : s.vm.findClass own = some m.cls) (hcls : Bundle.fit cls = true) (hnames : ∀ n ∈ names, Bundle.fit n = true)
    (hk : (Cond.classLink own ik cls).before args s = true) (hini : (Cond.initialized cls).before args s = true) (hstr : vk_R own is text sa s) (hat : ∀ w ∈ vx_atS own ic cls names, w.before args s = true)
    (hgood : ∀ w ∈ Cond.classLink own ik cls :: Cond.initialized cls :: vx_atS own ic cls names, vx_ot w = true)
    (hU : vx_Zq Bundle.tN "UNASSIGNED_STACK" Bundle.steD A s s.heap) (hN : vx_Zq Bundle.tN "SUPPRESSED_SENTINEL" Bundle.listD A s s.heap) (hS : va_S A s.heap H locs) (hsize : ls.size = c.maxLocals)
    (d0 : decode cc pc = .ok (.new ik, 3)) (d3 : decode cc (pc + 3) = .ok (.dup, 1)) (d4 : decode cc (pc + 4) = .ok (.ldc is, 2)) (d6 : decode cc (pc + 6) = .ok (.invokespecial ic, 3)) (d9 : decode cc (pc + 9) = .ok (.athrow, 1))
    (hout : ∀ x ∈ c.exceptionTable.toList, covers x (pc + 9) = false)
    (hRframes : names.length + 3 < R.frames) (hRlocals : (rest.map fun v => v.category).sum + (13 * (names.length + 1) + 43) ≤ R.locals) (hRcells : cells + 1 ≤ R.cells) (hRslots : slots + 6 ≤ R.slots) (hlocks : meth.locks = false)
    (hx : ∀ t : State, s.vm.Alike t.vm → H.size ≤ t.heap.size → (∀ q : Nat, q < H.size → t.heap[q]? = H[q]?) → XC cls s t)
    (hf : ∀ z ∈ locs, free z.base) (hc : cells + 1 ≤ mc) (hs : slots + 6 ≤ ms) :
    W p l e R s m args below meth c H locs cells slots (vx_MQ below Qc XC args s mc ms free) (F0 m pc ls rest) := by
  intro T hT X
  have htr : e.platform.stackTraces = false := (show e.platform.stackTraces = l.stackTraces by rw [X.admits.platform]).trans hl
  have Y := vx_rebase X (R' := { frames := R.frames, locals := R.locals, cells := 1, slots := 6 }) (Nat.le_refl _) (Nat.le_refl _) hRcells hRslots
  obtain ⟨s', hA⟩ : ∃ z, z = (T.setVm s.vm).setFrames (.invoking m args :: below) := ⟨_, rfl⟩
  rw [← hA] at Y
  have hvm : s'.vm = s.vm := by rw [hA]; rfl
  have hhp : s'.heap = H := by rw [hA]; exact hT
  have hW0 : s.WarmedH s'.vm := by rw [hvm]; exact State.WarmedH.refl s
  have hat' : ∀ w ∈ vx_atS own ic cls names, w.before args s' = true := fun w hw => vx_ot_at hW0 hvm.symm (hgood w (List.mem_cons_of_mem _ (List.mem_cons_of_mem _ hw))) (hat w hw)
  have hk' : (Cond.classLink own ik cls).before args s' = true := vx_ot_at hW0 hvm.symm (hgood _ List.mem_cons_self) hk
  have hini' : (Cond.initialized cls).before args s' = true := vx_ot_at hW0 hvm.symm (hgood _ (List.mem_cons_of_mem _ List.mem_cons_self)) hini
  have hU' : vx_Zq Bundle.tN "UNASSIGNED_STACK" Bundle.steD A s' s'.heap := by rw [hhp]; exact vx_Zq.moved hW0.alike (hU.kept hS.2.1)
  have hN' : vx_Zq Bundle.tN "SUPPRESSED_SENTINEL" Bundle.listD A s' s'.heap := by rw [hhp]; exact vx_Zq.moved hW0.alike (hN.kept hS.2.1)
  have h : ∀ w ∈ Bundle.ownAtoms own ic cls names, w.before args s' = true := vx_own hat' (vx_isRefq hU'.1) (vx_isRefq hN'.1) hU'.2.word hN'.2.word
  have hown' : s'.vm.findClass own = some m.cls := by rw [hvm]; exact hown
  have hins : (Cond.instantiable cls 6).before args s' = true := h _ (by simp [Bundle.ownAtoms])
  obtain ⟨vm₁, cX, kX, hfX, hkX, -, -, X₁, st1⟩ := Y.newCold hexec (own := own) (C := cls) (index := ik) (n := 6) hown' hk' hins hini'
    (g := F0 m pc ls rest) rfl (by rw [hb]; exact d0) (Nat.le_refl _) (Nat.le_refl _)
  generalize hT1 : (T.setVm vm₁).pushCell { cls := cX, slots := kX.instanceTypes.map defaultValue, vm := .none } = T1 at X₁ st1
  have hcat : (Value.ref T.heap.size).category = 1 := rfl
  have hcellA : T1.heap[T.heap.size]? = some (freshCell cX kX) := by rw [← hT1]; exact State.heap_pushCell_size _ _
  have d3' : decode c.code (pc + 3) = .ok (.dup, 1) := by rw [hb]; exact d3
  have d4' : decode c.code (pc + 4) = .ok (.ldc is, 2) := by rw [hb]; exact d4
  have hstr' : vk_R own is text sa s' := vk_R.warm hW0 hstr
  obtain ⟨U, hsteps, hrun, hend, hW, hsame, ce, hce, hO⟩ := X₁.ctorThrowS hexec htr (own := own) (cls := cls) (names := names) (ic := ic) hown' hcls hnames h (fun x hx => nomatch hx) hfX hkX hcellA (by rw [hhp, hT]; exact Nat.le_refl _) (msg := .ref sa) rfl
    (g := { method := m, pc := pc + 6, locals := ls, stack := .ref sa :: .ref T.heap.size :: .ref T.heap.size :: rest, locked := none }) rfl hsize rfl rfl (rest := rest) rfl
    (by rw [hb]; exact d6) (by rw [hb]; exact d9) hout hRframes (by simp only [List.map_cons, List.sum_cons, hcat]; omega) hlocks
  obtain ⟨f1, f2⟩ := vx_frame hsame
  rw [hhp] at f1 f2
  have hWs : s.WarmedH U.vm := State.WarmedH.trans hW0 hW
  have hcl : s.vm.findClass cls = some ce.cls := by
    have h9 := hO.cls
    rw [hvm] at h9
    exact h9
  have hall : s.sameButNew ({ U with vm := s.vm } : State) locs mc ms := by
    subst hA
    obtain ⟨e1, e2⟩ := hsame
    rw [State.setFrames_setFrames] at e1
    have h2 : (T.setVm s.vm).sameButNew ({ U with vm := s.vm } : State) [] (0 + 1) (0 + 6) := ⟨e1, e2⟩
    have h3 := X.same.trans h2
    rw [List.append_nil] at h3
    exact h3.mono hc hs
  refine ⟨U, ?_, .threw T.heap.size, hrun, hend, Or.inr ⟨T.heap.size, rfl, cls, ce, locs, hx U hWs.alike f1 (fun q hq => f2 q hq (fun z hz => nomatch hz)), hce, hO.vm, hcl, hWs, hall, hf⟩⟩
  refine st1 _ ?_
  show Steps p.tables e below (T1.setTop { method := m, pc := pc + 3, locals := ls, stack := .ref T.heap.size :: rest, locked := none }) _
  jvm_step X₁.here [X₁.here.top, hexec, d3', Value.category]
  exact X₁.ldcString hexec (own := own) (text := text) (index := is) (a := sa) hown' hstr'.1 hstr'.2
    (g := { method := m, pc := pc + 4, locals := ls, stack := .ref T.heap.size :: .ref T.heap.size :: rest, locked := none }) rfl d4' _ hsteps
/-- 'throw new E("text")', the text by a wide index -/
theorem vx_throwSW {cc : ByteArray} {pc : Nat} (hexec : p.tables.exec = Jvm.exec) (hb : c.code = cc) (hl : l.stackTraces = false) {own cls text : String} {names : List String} {ik is ic mc ms sa : Nat} {A : Nat → Prop}
    (hown : s.vm.findClass own = some m.cls) (hcls : Bundle.fit cls = true) (hnames : ∀ n ∈ names, Bundle.fit n = true)
    (hk : (Cond.classLink own ik cls).before args s = true) (hini : (Cond.initialized cls).before args s = true) (hstr : vk_R own is text sa s) (hat : ∀ w ∈ vx_atS own ic cls names, w.before args s = true)
    (hgood : ∀ w ∈ Cond.classLink own ik cls :: Cond.initialized cls :: vx_atS own ic cls names, vx_ot w = true)
    (hU : vx_Zq Bundle.tN "UNASSIGNED_STACK" Bundle.steD A s s.heap) (hN : vx_Zq Bundle.tN "SUPPRESSED_SENTINEL" Bundle.listD A s s.heap) (hS : va_S A s.heap H locs) (hsize : ls.size = c.maxLocals)
    (d0 : decode cc pc = .ok (.new ik, 3)) (d3 : decode cc (pc + 3) = .ok (.dup, 1)) (d4 : decode cc (pc + 4) = .ok (.ldc_w is, 3)) (d7 : decode cc (pc + 7) = .ok (.invokespecial ic, 3)) (d10 : decode cc (pc + 10) = .ok (.athrow, 1))
    (hout : ∀ x ∈ c.exceptionTable.toList, covers x (pc + 10) = false)
    (hRframes : names.length + 3 < R.frames) (hRlocals : (rest.map fun v => v.category).sum + (13 * (names.length + 1) + 43) ≤ R.locals) (hRcells : cells + 1 ≤ R.cells) (hRslots : slots + 6 ≤ R.slots) (hlocks : meth.locks = false)
    (hx : ∀ t : State, s.vm.Alike t.vm → H.size ≤ t.heap.size → (∀ q : Nat, q < H.size → t.heap[q]? = H[q]?) → XC cls s t)
    (hf : ∀ z ∈ locs, free z.base) (hc : cells + 1 ≤ mc) (hs : slots + 6 ≤ ms) :
    W p l e R s m args below meth c H locs cells slots (vx_MQ below Qc XC args s mc ms free) (F0 m pc ls rest) := by
  intro T hT X
  have htr : e.platform.stackTraces = false := (show e.platform.stackTraces = l.stackTraces by rw [X.admits.platform]).trans hl
  have Y := vx_rebase X (R' := { frames := R.frames, locals := R.locals, cells := 1, slots := 6 }) (Nat.le_refl _) (Nat.le_refl _) hRcells hRslots
  obtain ⟨s', hA⟩ : ∃ z, z = (T.setVm s.vm).setFrames (.invoking m args :: below) := ⟨_, rfl⟩
  rw [← hA] at Y
  have hvm : s'.vm = s.vm := by rw [hA]; rfl
  have hhp : s'.heap = H := by rw [hA]; exact hT
  have hW0 : s.WarmedH s'.vm := by rw [hvm]; exact State.WarmedH.refl s
  have hat' : ∀ w ∈ vx_atS own ic cls names, w.before args s' = true := fun w hw => vx_ot_at hW0 hvm.symm (hgood w (List.mem_cons_of_mem _ (List.mem_cons_of_mem _ hw))) (hat w hw)
  have hk' : (Cond.classLink own ik cls).before args s' = true := vx_ot_at hW0 hvm.symm (hgood _ List.mem_cons_self) hk
  have hini' : (Cond.initialized cls).before args s' = true := vx_ot_at hW0 hvm.symm (hgood _ (List.mem_cons_of_mem _ List.mem_cons_self)) hini
  have hU' : vx_Zq Bundle.tN "UNASSIGNED_STACK" Bundle.steD A s' s'.heap := by rw [hhp]; exact vx_Zq.moved hW0.alike (hU.kept hS.2.1)
  have hN' : vx_Zq Bundle.tN "SUPPRESSED_SENTINEL" Bundle.listD A s' s'.heap := by rw [hhp]; exact vx_Zq.moved hW0.alike (hN.kept hS.2.1)
  have h : ∀ w ∈ Bundle.ownAtoms own ic cls names, w.before args s' = true := vx_own hat' (vx_isRefq hU'.1) (vx_isRefq hN'.1) hU'.2.word hN'.2.word
  have hown' : s'.vm.findClass own = some m.cls := by rw [hvm]; exact hown
  have hins : (Cond.instantiable cls 6).before args s' = true := h _ (by simp [Bundle.ownAtoms])
  obtain ⟨vm₁, cX, kX, hfX, hkX, -, -, X₁, st1⟩ := Y.newCold hexec (own := own) (C := cls) (index := ik) (n := 6) hown' hk' hins hini'
    (g := F0 m pc ls rest) rfl (by rw [hb]; exact d0) (Nat.le_refl _) (Nat.le_refl _)
  generalize hT1 : (T.setVm vm₁).pushCell { cls := cX, slots := kX.instanceTypes.map defaultValue, vm := .none } = T1 at X₁ st1
  have hcat : (Value.ref T.heap.size).category = 1 := rfl
  have hcellA : T1.heap[T.heap.size]? = some (freshCell cX kX) := by rw [← hT1]; exact State.heap_pushCell_size _ _
  have d3' : decode c.code (pc + 3) = .ok (.dup, 1) := by rw [hb]; exact d3
  have d4' : decode c.code (pc + 4) = .ok (.ldc_w is, 3) := by rw [hb]; exact d4
  have hstr' : vk_R own is text sa s' := vk_R.warm hW0 hstr
  obtain ⟨U, hsteps, hrun, hend, hW, hsame, ce, hce, hO⟩ := X₁.ctorThrowS hexec htr (own := own) (cls := cls) (names := names) (ic := ic) hown' hcls hnames h (fun x hx => nomatch hx) hfX hkX hcellA (by rw [hhp, hT]; exact Nat.le_refl _) (msg := .ref sa) rfl
    (g := { method := m, pc := pc + 7, locals := ls, stack := .ref sa :: .ref T.heap.size :: .ref T.heap.size :: rest, locked := none }) rfl hsize rfl rfl (rest := rest) rfl
    (by rw [hb]; exact d7) (by rw [hb]; exact d10) hout hRframes (by simp only [List.map_cons, List.sum_cons, hcat]; omega) hlocks
  obtain ⟨f1, f2⟩ := vx_frame hsame
  rw [hhp] at f1 f2
  have hWs : s.WarmedH U.vm := State.WarmedH.trans hW0 hW
  have hcl : s.vm.findClass cls = some ce.cls := by
    have h9 := hO.cls
    rw [hvm] at h9
    exact h9
  have hall : s.sameButNew ({ U with vm := s.vm } : State) locs mc ms := by
    subst hA
    obtain ⟨e1, e2⟩ := hsame
    rw [State.setFrames_setFrames] at e1
    have h2 : (T.setVm s.vm).sameButNew ({ U with vm := s.vm } : State) [] (0 + 1) (0 + 6) := ⟨e1, e2⟩
    have h3 := X.same.trans h2
    rw [List.append_nil] at h3
    exact h3.mono hc hs
  refine ⟨U, ?_, .threw T.heap.size, hrun, hend, Or.inr ⟨T.heap.size, rfl, cls, ce, locs, hx U hWs.alike f1 (fun q hq => f2 q hq (fun z hz => nomatch hz)), hce, hO.vm, hcl, hWs, hall, hf⟩⟩
  refine st1 _ ?_
  show Steps p.tables e below (T1.setTop { method := m, pc := pc + 3, locals := ls, stack := .ref T.heap.size :: rest, locked := none }) _
  jvm_step X₁.here [X₁.here.top, hexec, d3', Value.category]
  exact X₁.ldcStringW hexec (own := own) (text := text) (index := is) (a := sa) hown' hstr'.1 hstr'.2
    (g := { method := m, pc := pc + 4, locals := ls, stack := .ref T.heap.size :: .ref T.heap.size :: rest, locked := none }) rfl d4' _ hsteps
end Ends
section Bodies
variable {l : Launch}
theorem vx_ofW {y : MethodName} {ws ws' : List Cond} {rm : Room} {Pc : Array Value → State → Prop} {Qc : Array Value → State → Outcome → State → Prop} {XC : String → State → State → Prop} {mc ms : Nat} {free : Addr → Prop} {cc : ByteArray} {maxL : Nat} {ret : Option FieldType}
    (hy : plainName y.cls = true) (hw : ws = Cond.code y cc maxL ret :: ws')
    (body : ∀ p e s m args below meth c s₁, BodyLoose p l y (headSpec ws rm) cc maxL ret e s m args below meth c s₁ → c.maxLocals = maxL → (∀ x ∈ c.exceptionTable.toList, False) → Pc args s →
      W p l e (headSpec ws rm).room s m args below meth c s.heap [] 0 0 (vx_MQ below Qc XC args s mc ms free) (entryFrame m args maxL)) : vx_Met l y ws rm Pc Qc XC mc ms free := by
  refine MetFree.of_bodyS (code := cc) (maxLocals := maxL) (ret := ret) hy ?_ ?_
  · intro args s m h hn
    obtain ⟨meth, c, h1, h2, h3, h4, h5, h6, -, -⟩ := Cond.code_spec hn (atoms_spec (ws := ws) h _ (by rw [hw]; exact List.mem_cons_self))
    exact ⟨meth, c, h1, h2, h3, h4, h5, h6⟩
  · intro p e s m args below meth c s₁ B hml hP _
    have hh0 : s₁.heap = s.heap := by rw [B.state]; rfl
    have ht : ∀ x ∈ c.exceptionTable.toList, False := by
      obtain ⟨meth9, c9, h1, h2, -, -, -, -, h7, -⟩ := Cond.code_spec B.named (atoms_spec (ws := ws) B.pre _ (by rw [hw]; exact List.mem_cons_self))
      cases Option.some.inj (h1.symm.trans B.method)
      cases Option.some.inj (h2.symm.trans (Stand.of_body B).code)
      intro x hx
      rw [Array.isEmpty_iff.mp h7] at hx
      cases hx
    obtain ⟨t, a1, o, b1, b2, b3⟩ := body p e s m args below meth c s₁ B hml ht hP s₁ hh0 (Stand.of_body B)
    exact ⟨t, o, a1, b1, b2, b3⟩
/-- the table of a body with handlers -/
theorem vx_table {p : Program} {x y : MethodName} {S : Spec} {cc bytes : ByteArray} {maxL maxL' : Nat} {ret ret' : Option FieldType} {e : Env} {s s₁ : State} {m : MethodId} {args : Array Value} {below : List Frame} {meth : Method} {c : Code} {hh : List (Nat × Nat × Nat × Nat)}
    (B : BodyLoose p l y S cc maxL ret e s m args below meth c s₁) (h : (Cond.codeWith y bytes maxL' ret' hh).before args s = true) : c.exceptionTable.toList = tableOf hh := by
  obtain ⟨m9, meth9, c9, hn9, h1, h2, -, -, h6, -⟩ := Cond.codeWith_spec h
  cases Option.some.inj (hn9.symm.trans B.named)
  cases Option.some.inj (h1.symm.trans B.method)
  cases Option.some.inj (h2.symm.trans (Stand.of_body B).code)
  rw [← h6, table_eq]
end Bodies
end VXA
/-! ===== END ===== -/
/-! ===== BEGIN a static call of a method with an exception table ===== -/
section VXS
variable {p : Program} {l : Launch} {e : Env} {R : Room} {s : State} {m : MethodId} {args : Array Value} {below : List Frame} {meth : Method} {c : Code} {T : State} {H : Heap} {locs : List Loc} {cells slots : Nat}
abbrev vx_CSW (R : Room) (s : State) (args : Array Value) (own : String) (index : Nat) (y : MethodName) (bytes : ByteArray) (maxL : Nat) (ret : Option FieldType) (hh : List (Nat × Nat × Nat × Nat)) (ws : List Cond) (rm : Room) (mc ms n : Nat) : Prop :=
  (rm.cells = mc ∧ rm.slots = ms ∧ rm.frames + 1 ≤ R.frames ∧ 8 + (maxL + 11) + rm.locals ≤ R.locals ∧ (∀ w ∈ ws, ∀ (a' : Array Value) (U : State), s.WarmedH U.vm → w.before a' U = true) ∧ Cond.codeWith y bytes maxL ret hh ∈ ws) ∧
  (Cond.codeWith y bytes maxL ret hh).before args s = true ∧ (Cond.initialized y.cls).before args s = true ∧ (y.cls ≠ "java/lang/invoke/MethodHandle" ∧ y.cls ≠ "java/lang/invoke/VarHandle") ∧
  (∀ sig, parseMethodDescriptor y.desc = some sig → n = sig.parameters.length) ∧ (Cond.methodLink own index y).before args s = true ∧ (Cond.static y).before args s = true
theorem vx_cwSW {own : String} {index maxL mc ms : Nat} {y : MethodName} {bytes : ByteArray} {ret : Option FieldType} {hh : List (Nat × Nat × Nat × Nat)} {Ts ws ws' : List Cond} {rm : Room} (n : Nat) (ht : ∀ w ∈ Ts, w.before args s = true) (hT : GoodIn Ts (va_wsS own index y ws)) (hw : ws = Cond.codeWith y bytes maxL ret hh :: ws') (hrc : rm.cells = mc) (hrs : rm.slots = ms)
    (hd : y.cls ≠ "java/lang/invoke/MethodHandle" ∧ y.cls ≠ "java/lang/invoke/VarHandle" ∧ (parseMethodDescriptor y.desc).map (fun d => d.parameters.length) = some n) (hR : rm.frames + 1 ≤ R.frames ∧ 8 + (maxL + 11) + rm.locals ≤ R.locals) :
    vx_CSW R s args own index y bytes maxL ret hh ws rm mc ms n := by
  have ok : ∀ w ∈ va_wsS own index y ws, w.before args s = true := fun w h => ht w (hT w h).1
  have hG : GoodIn Ts ws := fun w h => hT w (by unfold va_wsS; exact List.mem_append_right _ h)
  have hc : Cond.codeWith y bytes maxL ret hh ∈ ws := by rw [hw]; exact List.mem_cons_self
  refine ⟨⟨hrc, hrs, hR.1, hR.2, pay_in ht hG, hc⟩, ht _ (hG _ hc).1, ok _ (by simp [va_wsS]), ⟨hd.1, hd.2.1⟩, fun sig h => ?_, ok _ (by simp [va_wsS]), ok _ (by simp [va_wsS])⟩
  have h2 := hd.2.2
  rw [h] at h2
  exact (Option.some.inj h2).symm
theorem vx_callSW (X : Stand p l e R s m args below meth c T locs cells slots) (hexec : p.tables.exec = Jvm.exec) {own : String} {index : Nat} {y : MethodName} {bytes : ByteArray} {maxL : Nat} {ret : Option FieldType} {hh : List (Nat × Nat × Nat × Nat)}
    (hown : s.vm.findClass own = some m.cls) (hlink : (Cond.methodLink own index y).before args s = true) (hstat : (Cond.static y).before args s = true) (hinit : (Cond.initialized y.cls).before args s = true)
    (hcode : (Cond.codeWith y bytes maxL ret hh).before args s = true) (hy : y.cls ≠ "java/lang/invoke/MethodHandle" ∧ y.cls ≠ "java/lang/invoke/VarHandle")
    {W9 : Nat} {Pre : Pt → Array Value → Prop} {Post : Pt → Array Value → Option Value → Pt → Prop} (hK : Back l R p e below s args y 3 W9 Pre Post)
    {g : JFrame} (hg : g.method = m) (hsize : g.locals.size = c.maxLocals) {argsL rest : List Value} (hlen : ∀ sig, parseMethodDescriptor y.desc = some sig → argsL.length = sig.parameters.length)
    (hstack : g.stack = argsL.reverse ++ rest) (hW : 2 * g.monitorRoom + (rest.map fun v => v.category).sum ≤ W9) (hdg : decode c.code g.pc = .ok (.invokestatic index, 3))
    (hpre : ∀ vm₁, s.WarmedH vm₁ → Pre ⟨T.setVm vm₁, locs, cells, slots⟩ argsL.toArray) :
    ∃ (v : Option Value) (vm₁ : Vm) (B : Pt), s.WarmedH vm₁ ∧ Stand p l e R s m args below meth c B.U B.locs B.cells B.slots ∧ Post ⟨T.setVm vm₁, locs, cells, slots⟩ argsL.toArray v B ∧
      ∀ target, Steps p.tables e below (B.U.setTop { g with pc := g.pc + 3, stack := v.toList ++ rest }) target → Steps p.tables e below (T.setTop g) target := by
  obtain ⟨mk, methM, cM, hnamed, hmethM, -, -, -, -, -, -, hsigM⟩ := Cond.codeWith_spec hcode
  have hstatic : methM.isStatic = true := Cond.static_spec hnamed hmethM hstat
  obtain ⟨kP, hkP, -⟩ := className_of_methodNamed hnamed
  have hinitP : kP.init = .initialized := Cond.initialized_spec (findClass_of_methodNamed hnamed) hkP hinit
  obtain ⟨vm₁, X₁, hstep₁⟩ := X.invokestatic hexec hown hlink hnamed hmethM hstatic hkP hinitP hy (g := g) hg (argsL := argsL) (rest := rest) (hlen _ hsigM) hstack hdg
  obtain ⟨v, B, X', hpost, hsteps⟩ := hK m meth c ⟨T.setVm vm₁, locs, cells, slots⟩ { g with stack := rest } (.invokestatic index) mk argsL.toArray X₁ hg hsize hdg hW (X₁.named hnamed) (hpre vm₁ X₁.warmed)
  exact ⟨v, vm₁, B, X₁.warmed, X', hpost, fun target h => hstep₁ _ fun acts => by rw [doInvoke_state]; exact hsteps.trans h⟩
theorem vx_runSW {y : MethodName} {bytes cc : ByteArray} {maxL nL mc ms n index : Nat} {ret : Option FieldType} {hh : List (Nat × Nat × Nat × Nat)} {ws : List Cond} {rm : Room} {Pc : Array Value → State → Prop} {Qc : Array Value → State → Outcome → State → Prop} {free : Addr → Prop} {Ts : List Cond} {own : String} {As rest : List Value} {g : JFrame}
    (S : CallFix p m c cc nL s args Ts own) (hM : Met l y ws rm Pc Qc mc ms free) (cw : vx_CSW R s args own index y bytes maxL ret hh ws rm mc ms n) (hp : PreS s H Pc As)
    (hg : g.method = m) (hn : As.length = n) (hsize : g.locals.size = nL) (hstack : g.stack = As.reverse ++ rest) (hW : 2 * g.monitorRoom + (rest.map fun v => v.category).sum ≤ 8) (hdg : decode cc g.pc = .ok (.invokestatic index, 3)) (hf : cells + mc ≤ R.cells ∧ slots + ms ≤ R.slots) :
    va_Run p l e R s m args below meth c H locs cells slots mc ms g rest (Qc As.toArray) (free) := by
  obtain ⟨⟨hrc, hrs, hfr, hlo, hws, hcw⟩, hcode, hini, hy, hlen, hl, hstt⟩ := cw
  have hK : Back l R p e below s args y 3 8 (PreOf R mc ms Pc) (PostOf Qc mc ms free) := va_backW (hh := hh) (bytes := bytes) (maxL := maxL) (ret := ret) hM hp.1 hrc hrs hfr hlo hws hcw (fun a' U hW => word_at hW (Or.inl (by first | rfl | simp [Cond.onTables, Cond.keeps, Cond.steady])) hini)
  obtain ⟨hx, hb, hml, ho, -⟩ := S
  intro T hT X
  obtain ⟨v, vm₁, ⟨U', l2, c2, s2⟩, hW₁, X', ⟨g', mk, t, L, e1, e2, hq, h1, hL, h2, h3⟩, st⟩ := vx_callSW X hx (hh := hh) (bytes := bytes) (maxL := maxL) (ret := ret) ho hl hstt hini hcode hy hK hg (hsize.trans hml.symm) (argsL := As) (rest := rest) (fun sig h => hn.trans (hlen sig h)) hstack hW (by rw [hb]; exact hdg)
    (fun vm₁ hW₁ => ⟨hf.1, hf.2, hp.2 (T.setVm vm₁) hT hW₁⟩)
  dsimp only [Pt.U, Pt.locs, Pt.cells, Pt.slots] at X' e1 e2 h1 h2 h3 st
  subst h1; subst h2; subst h3
  exact ⟨v, (T.setVm vm₁).calling g' mk As.toArray, t, U', L, hT, X', hL, e1, e2, hq, st⟩
/-- not caught here, past rows that name other classes: it goes on to the caller -/
theorem vx_outP {p : Program} {l : Launch} {e : Env} {R : Room} {s : State} {m : MethodId} {args : Array Value} {below : List Frame} {meth : Method} {c : Code} {H : Heap} {locs : List Loc} {cells slots : Nat} {free : Addr → Prop} {ls : Array Slot} {rest : List Value} {Qc : Array Value → State → Outcome → State → Prop} {XC : String → State → State → Prop}
    {pc : Nat} {own E : String} {ce : Cell} {q : Addr} {mc ms : Nat} (hown : s.vm.findClass own = some m.cls) (hlocks : meth.locks = false)
    (hpass : ∀ z ∈ c.exceptionTable.toList, covers z pc = false ∨ (z.catchType ≠ 0 ∧ ∃ nm : String, (Cond.classLink own z.catchType nm).before args s = true ∧ va_Nc E nm s)) (hcell : H[q]? = some ce) (hv : ce.vm = .none) (hcl : s.vm.findClass E = some ce.cls)
    (hx : ∀ t : State, t.heap = H → s.vm.Alike t.vm → XC E s t) (hf : ∀ z ∈ locs, free z.base) (hc : cells ≤ mc) (hs : slots ≤ ms) :
    vx_W p l e R s m args below meth c H locs cells slots (vx_MQ below Qc XC args s mc ms free) (F0 m pc ls rest) q := by
  intro T hT X
  have hpl : e.platform.magicAccessors = ({} : Platform).magicAccessors := by rw [X.admits.platform]
  obtain ⟨vm', hW', X', st⟩ := X.outThrough hlocks q (g := F0 m pc ls rest) rfl rfl rfl (cell := ce) (by rw [hT]; exact hcell) (by rw [hv]; rfl)
    (by obtain ⟨k9, h9, -⟩ := Vm.findClass_spec hcl; exact ⟨k9, h9⟩) (fun z hz => by
      rcases hpass z hz with h | ⟨hz0, nm, hl1, hn1⟩
      · exact Or.inl h
      · obtain ⟨c6, hc6, hcl6⟩ := Cond.classLink_spec hown hl1 e.platform hpl
        obtain ⟨a8, b8, h1, h2, h3⟩ := hn1
        cases Option.some.inj (h1.symm.trans hcl)
        cases Option.some.inj (h2.symm.trans hc6)
        exact Or.inr ⟨hz0, _, hcl6, h3⟩)
  obtain ⟨g₀, hfr⟩ := X'.frames_eq
  have hcell9 : ((T.setVm vm').setFrames (.throwing q :: below)).heap[q]? = some ce := by
    show T.heap[q]? = some ce
    rw [hT]; exact hcell
  have hend : Ended ((T.setVm vm').setFrames (.throwing q :: below)) below (.threw q) := State.frames_setFrames _ (State.cur_lt_of_frames hfr)
  refine ⟨(T.setVm vm').setFrames (.throwing q :: below), ?_, .threw q, X'.here.running, hend, Or.inr ⟨q, rfl, E, ce, locs, hx _ hT (X'.ends _).1.alike, hcell9, hv, hcl, (X'.ends _).1, (X'.ends _).2.mono hc hs, hf⟩⟩
  rw [X.pushThrowing_eq]
  exact st
/-- a thing of a world lies in the heap -/
theorem vx_lt {D : va_G} {cl : List vw_C} {ws : va_W} {H1 : Heap} (h : va_P D cl ws H1) {k : Nat} {q : Nat × va_E} (hk : ws[k]? = some q) : q.1 < H1.size := (h k q hk).lt
end VXS
/-! ===== END ===== -/
/-! ===== BEGIN methods with a table of their own: called by a name, returning or throwing ===== -/
section VXH
/-! vx_backW, vx_callVX, vx_callSX, vx_callVW, vx_runVW, vx_runVX, vx_runSX, vx_ofWH follow the same proofs as their sisters above (Free/Laws.lean, Shelf42/LK1.lean); vx_outP calls Shelf42/NT130.lean (outThrough). -/
section
variable {l : Launch} {R : Room} {p : Program} {e : Env} {below : List Frame} {s : State} {sargs : Array Value} {y : MethodName} {len W9 : Nat}
theorem vx_backW {ws : List Cond} {rm : Room} {Pc : Array Value → State → Prop} {Qc : Array Value → State → Outcome → State → Prop} {XC : String → State → State → Prop} {mc ms : Nat} {free : Addr → Prop} {bytes : ByteArray} {maxL : Nat} {ret : Option FieldType} {hh : List (Nat × Nat × Nat × Nat)}
    (hM : vx_Met l y ws rm Pc Qc XC mc ms free) (hblind : FrameBlind Pc) (hrc : rm.cells = mc) (hrs : rm.slots = ms)
    (hframes : rm.frames + 1 ≤ R.frames) (hlocals : W9 + (maxL + 11) + rm.locals ≤ R.locals)
    (hws : ∀ w ∈ ws, ∀ a' U, s.WarmedH U.vm → w.before a' U = true) (hcode : Cond.codeWith y bytes maxL ret hh ∈ ws) (hinit : ∀ a' U, s.WarmedH U.vm → (Cond.initialized y.cls).before a' U = true) :
    vx_Back l R p e below s sargs y len W9 (PreOf R mc ms Pc) (PostOf Qc mc ms free) (vx_Post XC mc ms free) := by
  intro m meth c A g ig mk a X hg hsize hdg hW hn hp
  have h1 : (headSpec ws rm).pre.before a A.U = true := atoms_intro fun w hw => hws w hw _ _ X.warmed
  have h2 : (Cond.codeWith y bytes maxL ret hh).before a A.U = true := hws _ hcode _ _ X.warmed
  have h3 : (Cond.initialized y.cls).before a A.U = true := hinit _ _ X.warmed
  have h4 : A.cells + (headSpec ws rm).room.cells ≤ R.cells := by rw [show (headSpec ws rm).room.cells = mc from hrc]; exact hp.1
  have h5 : A.slots + (headSpec ws rm).room.slots ≤ R.slots := by rw [show (headSpec ws rm).room.slots = ms from hrs]; exact hp.2.1
  have hPc : Pc a (A.U.calling g mk a) := hblind _ _ _ _ hp.2.2
  obtain ⟨U, Ls, c0, s0⟩ := A
  dsimp only [Pt.U, Pt.locs, Pt.cells, Pt.slots] at h1 h2 h3 h4 h5 X hn hPc ⊢
  obtain ⟨m9, methY, cY, hn9, hmY, hcY, -, hlY, -⟩ := Cond.codeWith_spec h2
  cases Option.some.inj (hn9.symm.trans hn)
  obtain ⟨kY, hkY, -⟩ := className_of_methodNamed hn
  have hinitY : kY.init = .initialized := Cond.initialized_spec (findClass_of_methodNamed hn) hkY h3
  have h : At U g.method c below := by rw [hg]; exact X.here
  have hlocals9 : W9 + (maxL + 11) + (headSpec ws rm).room.locals ≤ R.locals := hlocals
  have happ : (headSpec ws rm).appliesLoose y e.platform (U.calling g mk a) = true :=
    Spec.appliesLoose_calling (g := g) h hdg hn hkY hinitY
      (X.room_calling (g := g) (R' := (headSpec ws rm).room) hsize hmY hcY hframes (by rw [hlY]; omega) h4 h5) h1
  obtain ⟨mid, hmid⟩ := h.above
  have hfr : (U.setTop g).frames = (.java g :: mid) ++ below := by rw [State.frames_setTop' g h.top, hmid]; rfl
  obtain ⟨o, s₂, hsteps, -, hend, hq⟩ := Steps.callFree hM p X.admits X.cas X.clock (acts := []) hfr happ hPc trivial
  have hq' : vx_Q Qc XC mc ms free a (U.calling g mk a) o s₂ := hq
  rw [State.frames_setTop' g h.top] at hend
  obtain ⟨g₀, hg0⟩ := Option.isSome_iff_exists.mp h.top
  obtain ⟨r, hr⟩ := State.topJava?_eq_some.mp hg0
  have hr' : (({ U with heap := s₂.heap, slotsUsed := s₂.slotsUsed } : State).setVm s₂.vm).frames = .java g₀ :: r := hr
  rcases hq' with ⟨hqc, L, hfe, hL⟩ | ⟨q, rfl, E, ce, L, hx, hce, hcv, hcl, hW₂, hsm, hL⟩
  · obtain ⟨⟨v, rfl⟩, hW₂, e2, q2, q3, q4, q5, q6⟩ := id hfe
    have e3 : s₂ = ({ (U.calling g mk a).setFrames s₂.frames with heap := s₂.heap, slotsUsed := s₂.slotsUsed } : State).setVm s₂.vm := by
      have : s₂ = ({ s₂ with vm := (U.calling g mk a).vm } : State).setVm s₂.vm := rfl
      rw [e2] at this
      exact this
    obtain ⟨c₂, i₂, len₂, hc₂, hd₂, hf₂⟩ := hend
    have hW' : U.WarmedH s₂.vm := hW₂
    have hcc : c₂ = c := by
      have h1 : s₂.code? g.method = U.code? g.method := by
        rw [State.code?_eq, State.code?_eq, hW'.alike.method?]
      exact Option.some.inj (hc₂.symm.trans (h1.trans h.code))
    subst hcc
    have hlen : len₂ = len := by rw [hdg] at hd₂; cases hd₂; rfl
    subst hlen
    have hs₂ : s₂ = (({ U with heap := s₂.heap, slotsUsed := s₂.slotsUsed } : State).setVm s₂.vm).setTop { g with pc := g.pc + len₂, stack := v.toList ++ g.stack } := by
      refine e3.trans ?_
      rw [hf₂, State.calling_eq h.top, State.setFrames_setFrames, State.setTop_of_frames _ hr', hr]
      rfl
    have hsame : U.sameButNew ({ U with heap := s₂.heap, slotsUsed := s₂.slotsUsed } : State) L mc ms := by
      refine ⟨?_, q2, q3, q4, q5, q6⟩
      obtain ⟨t, ht, -⟩ := State.frames_cons hr
      show ({ U with heap := s₂.heap, slotsUsed := s₂.slotsUsed } : State) = { U.setFrames U.frames with heap := s₂.heap, slotsUsed := s₂.slotsUsed }
      rw [State.setFrames_self ht]
    subst hg
    refine Or.inl ⟨v, ⟨(({ U with heap := s₂.heap, slotsUsed := s₂.slotsUsed } : State).setVm s₂.vm), Ls ++ L, c0 + mc, s0 + ms⟩,
      ⟨X.admits, X.cas, X.clock, X.frames, X.room, X.hears, X.method, X.code, (X.here.setHeapUsed s₂.heap s₂.slotsUsed).setVm hW'.alike, X.tail, State.WarmedH.trans X.warmed hW', X.limits, X.bytes, X.same.trans (hsame.setVm s.vm)⟩,
      ⟨g, mk, s₂, L, rfl, rfl, hqc, rfl, hL, rfl, rfl⟩, ?_⟩
    show Steps p.tables e below _ ((({ U with heap := s₂.heap, slotsUsed := s₂.slotsUsed } : State).setVm s₂.vm).setTop { g with pc := g.pc + len₂, stack := v.toList ++ g.stack })
    rw [← hs₂]
    exact hsteps
  · obtain ⟨e2, q2, q3, q4, q5, q6⟩ := id hsm
    have e3 : s₂ = ({ (U.calling g mk a).setFrames s₂.frames with heap := s₂.heap, slotsUsed := s₂.slotsUsed } : State).setVm s₂.vm := by
      have : s₂ = ({ s₂ with vm := (U.calling g mk a).vm } : State).setVm s₂.vm := rfl
      rw [e2] at this
      exact this
    have hf₂ : s₂.frames = .throwing q :: .java g :: U.frames.tail := hend
    have hW' : U.WarmedH s₂.vm := hW₂
    have hs₂ : s₂ = ((({ U with heap := s₂.heap, slotsUsed := s₂.slotsUsed } : State).setVm s₂.vm).setTop g).pushFrame (.throwing q) := by
      refine e3.trans ?_
      rw [hf₂, State.calling_eq h.top, State.setFrames_setFrames, State.pushFrame, State.frames_setTop _ hr', State.setTop_of_frames _ hr', State.setFrames_setFrames, hr]
      rfl
    have hsame : U.sameButNew ({ U with heap := s₂.heap, slotsUsed := s₂.slotsUsed } : State) L mc ms := by
      refine ⟨?_, q2, q3, q4, q5, q6⟩
      obtain ⟨t, ht, -⟩ := State.frames_cons hr
      show ({ U with heap := s₂.heap, slotsUsed := s₂.slotsUsed } : State) = { U.setFrames U.frames with heap := s₂.heap, slotsUsed := s₂.slotsUsed }
      rw [State.setFrames_self ht]
    subst hg
    refine Or.inr ⟨q, ⟨(({ U with heap := s₂.heap, slotsUsed := s₂.slotsUsed } : State).setVm s₂.vm), Ls ++ L, c0 + mc, s0 + ms⟩,
      ⟨X.admits, X.cas, X.clock, X.frames, X.room, X.hears, X.method, X.code, (X.here.setHeapUsed s₂.heap s₂.slotsUsed).setVm hW'.alike, X.tail, State.WarmedH.trans X.warmed hW', X.limits, X.bytes, X.same.trans (hsame.setVm s.vm)⟩,
      ⟨g, mk, s₂, L, E, ce, rfl, rfl, hx, hce, hcv, hcl, rfl, hL, rfl, rfl⟩, ?_⟩
    show Steps p.tables e below _ (((({ U with heap := s₂.heap, slotsUsed := s₂.slotsUsed } : State).setVm s₂.vm).setTop g).pushFrame (.throwing q))
    rw [← hs₂]
    exact hsteps
end
variable {p : Program} {l : Launch} {e : Env} {R : Room} {s : State} {m : MethodId} {args : Array Value} {below : List Frame} {meth : Method} {c : Code} {T : State} {H : Heap} {locs : List Loc} {cells slots : Nat}
theorem vx_callVX (X : Stand p l e R s m args below meth c T locs cells slots) (hexec : p.tables.exec = Jvm.exec) {own C : String} {index : Nat} {y : MethodName} {bytes : ByteArray} {maxL : Nat} {ret : Option FieldType} {hh : List (Nat × Nat × Nat × Nat)}
    (hown : s.vm.findClass own = some m.cls) (hlink : (Cond.methodLink own index y).before args s = true) (hinst : (Cond.instanceMethod y).before args s = true) (hsel : (Cond.selects C y y).before args s = true)
    (hcode : (Cond.codeWith y bytes maxL ret hh).before args s = true) (hy : y.cls ≠ "java/lang/invoke/MethodHandle" ∧ y.cls ≠ "java/lang/invoke/VarHandle")
    {W9 : Nat} {Pre : Pt → Array Value → Prop} {Post : Pt → Array Value → Option Value → Pt → Prop} {PostX : Pt → Array Value → Addr → Pt → Prop} (hK : vx_Back l R p e below s args y 3 W9 Pre Post PostX)
    {b : Addr} {cellB : Cell} (hcell : T.heap[b]? = some cellB) (hobj : cellB.vm.isStatics = false) (hcls : s.vm.findClass C = some cellB.cls)
    {g : JFrame} (hg : g.method = m) (hsize : g.locals.size = c.maxLocals) {argsL rest : List Value} (hlen : ∀ sig, parseMethodDescriptor y.desc = some sig → argsL.length = sig.parameters.length)
    (hstack : g.stack = argsL.reverse ++ .ref b :: rest) (hW : 2 * g.monitorRoom + (rest.map fun v => v.category).sum ≤ W9) (hdg : decode c.code g.pc = .ok (.invokevirtual index, 3))
    (hpre : ∀ vm₁, s.WarmedH vm₁ → Pre ⟨T.setVm vm₁, locs, cells, slots⟩ (Value.ref b :: argsL).toArray) :
    (∃ (v : Option Value) (vm₁ : Vm) (B : Pt), s.WarmedH vm₁ ∧ Stand p l e R s m args below meth c B.U B.locs B.cells B.slots ∧ Post ⟨T.setVm vm₁, locs, cells, slots⟩ (Value.ref b :: argsL).toArray v B ∧
      ∀ target, Steps p.tables e below (B.U.setTop { g with pc := g.pc + 3, stack := v.toList ++ rest }) target → Steps p.tables e below (T.setTop g) target) ∨
    (∃ (q : Addr) (vm₁ : Vm) (B : Pt), s.WarmedH vm₁ ∧ Stand p l e R s m args below meth c B.U B.locs B.cells B.slots ∧ PostX ⟨T.setVm vm₁, locs, cells, slots⟩ (Value.ref b :: argsL).toArray q B ∧
      Steps p.tables e below (T.setTop g) ((B.U.setTop { g with stack := rest }).pushFrame (.throwing q))) := by
  obtain ⟨mk, methM, hnamed, hmethM, hstM, habM⟩ := Cond.instanceMethod_spec hinst
  obtain ⟨m8, methM', cM, hn8, hmethM', -, -, -, -, -, -, hsigM⟩ := Cond.codeWith_spec hcode
  cases Option.some.inj (hn8.symm.trans hnamed)
  cases hmethM.symm.trans hmethM'
  obtain ⟨c2, r2, m2, q1, q2, q3, q4, kP, hkP, hkPi⟩ := Cond.selects_spec hsel
  cases hcls.symm.trans q1
  cases (State.methodFound?_of_named hnamed hy).symm.trans q2
  cases hnamed.symm.trans q3
  have hselP : selectMethod e.platform s.vm cellB.cls mk = .method mk := by rw [Launch.admits_selectMethod X.admits]; exact q4
  obtain ⟨vm₁, X₁, hstep₁⟩ := X.invokevirtual hexec hown hlink hnamed hmethM hstM hkP hkPi hy (a := b) (cell := cellB) hcell
    (fun z h => by rw [h] at hobj; cases hobj) hselP hmethM habM hkP hkPi (g := g) hg (argsL := argsL) (rest := rest) (hlen _ hsigM) hstack hdg
  rcases hK m meth c ⟨T.setVm vm₁, locs, cells, slots⟩ { g with stack := rest } (.invokevirtual index) mk (Value.ref b :: argsL).toArray X₁ hg hsize hdg hW (X₁.named hnamed) (hpre vm₁ X₁.warmed) with ⟨v, B, X', hpost, hsteps⟩ | ⟨q, B, X', hpost, hsteps⟩
  · exact Or.inl ⟨v, vm₁, B, X₁.warmed, X', hpost, fun target h => hstep₁ _ fun acts => by rw [doInvoke_state]; exact hsteps.trans h⟩
  · exact Or.inr ⟨q, vm₁, B, X₁.warmed, X', hpost, hstep₁ _ fun acts => by rw [doInvoke_state]; exact hsteps⟩
theorem vx_callSX (X : Stand p l e R s m args below meth c T locs cells slots) (hexec : p.tables.exec = Jvm.exec) {own : String} {index : Nat} {y : MethodName} {bytes : ByteArray} {maxL : Nat} {ret : Option FieldType} {hh : List (Nat × Nat × Nat × Nat)}
    (hown : s.vm.findClass own = some m.cls) (hlink : (Cond.methodLink own index y).before args s = true) (hstat : (Cond.static y).before args s = true) (hinit : (Cond.initialized y.cls).before args s = true)
    (hcode : (Cond.codeWith y bytes maxL ret hh).before args s = true) (hy : y.cls ≠ "java/lang/invoke/MethodHandle" ∧ y.cls ≠ "java/lang/invoke/VarHandle")
    {W9 : Nat} {Pre : Pt → Array Value → Prop} {Post : Pt → Array Value → Option Value → Pt → Prop} {PostX : Pt → Array Value → Addr → Pt → Prop} (hK : vx_Back l R p e below s args y 3 W9 Pre Post PostX)
    {g : JFrame} (hg : g.method = m) (hsize : g.locals.size = c.maxLocals) {argsL rest : List Value} (hlen : ∀ sig, parseMethodDescriptor y.desc = some sig → argsL.length = sig.parameters.length)
    (hstack : g.stack = argsL.reverse ++ rest) (hW : 2 * g.monitorRoom + (rest.map fun v => v.category).sum ≤ W9) (hdg : decode c.code g.pc = .ok (.invokestatic index, 3))
    (hpre : ∀ vm₁, s.WarmedH vm₁ → Pre ⟨T.setVm vm₁, locs, cells, slots⟩ argsL.toArray) :
    (∃ (v : Option Value) (vm₁ : Vm) (B : Pt), s.WarmedH vm₁ ∧ Stand p l e R s m args below meth c B.U B.locs B.cells B.slots ∧ Post ⟨T.setVm vm₁, locs, cells, slots⟩ argsL.toArray v B ∧
      ∀ target, Steps p.tables e below (B.U.setTop { g with pc := g.pc + 3, stack := v.toList ++ rest }) target → Steps p.tables e below (T.setTop g) target) ∨
    (∃ (q : Addr) (vm₁ : Vm) (B : Pt), s.WarmedH vm₁ ∧ Stand p l e R s m args below meth c B.U B.locs B.cells B.slots ∧ PostX ⟨T.setVm vm₁, locs, cells, slots⟩ argsL.toArray q B ∧
      Steps p.tables e below (T.setTop g) ((B.U.setTop { g with stack := rest }).pushFrame (.throwing q))) := by
  obtain ⟨mk, methM, cM, hnamed, hmethM, -, -, -, -, -, -, hsigM⟩ := Cond.codeWith_spec hcode
  have hstatic : methM.isStatic = true := Cond.static_spec hnamed hmethM hstat
  obtain ⟨kP, hkP, -⟩ := className_of_methodNamed hnamed
  have hinitP : kP.init = .initialized := Cond.initialized_spec (findClass_of_methodNamed hnamed) hkP hinit
  obtain ⟨vm₁, X₁, hstep₁⟩ := X.invokestatic hexec hown hlink hnamed hmethM hstatic hkP hinitP hy (g := g) hg (argsL := argsL) (rest := rest) (hlen _ hsigM) hstack hdg
  rcases hK m meth c ⟨T.setVm vm₁, locs, cells, slots⟩ { g with stack := rest } (.invokestatic index) mk argsL.toArray X₁ hg hsize hdg hW (X₁.named hnamed) (hpre vm₁ X₁.warmed) with ⟨v, B, X', hpost, hsteps⟩ | ⟨q, B, X', hpost, hsteps⟩
  · exact Or.inl ⟨v, vm₁, B, X₁.warmed, X', hpost, fun target h => hstep₁ _ fun acts => by rw [doInvoke_state]; exact hsteps.trans h⟩
  · exact Or.inr ⟨q, vm₁, B, X₁.warmed, X', hpost, hstep₁ _ fun acts => by rw [doInvoke_state]; exact hsteps⟩
theorem vx_callVW (X : Stand p l e R s m args below meth c T locs cells slots) (hexec : p.tables.exec = Jvm.exec) {own C : String} {index : Nat} {y : MethodName} {bytes : ByteArray} {maxL : Nat} {ret : Option FieldType} {hh : List (Nat × Nat × Nat × Nat)}
    (hown : s.vm.findClass own = some m.cls) (hlink : (Cond.methodLink own index y).before args s = true) (hinst : (Cond.instanceMethod y).before args s = true) (hsel : (Cond.selects C y y).before args s = true)
    (hcode : (Cond.codeWith y bytes maxL ret hh).before args s = true) (hy : y.cls ≠ "java/lang/invoke/MethodHandle" ∧ y.cls ≠ "java/lang/invoke/VarHandle")
    {W9 : Nat} {Pre : Pt → Array Value → Prop} {Post : Pt → Array Value → Option Value → Pt → Prop} (hK : Back l R p e below s args y 3 W9 Pre Post)
    {b : Addr} {cellB : Cell} (hcell : T.heap[b]? = some cellB) (hobj : cellB.vm.isStatics = false) (hcls : s.vm.findClass C = some cellB.cls)
    {g : JFrame} (hg : g.method = m) (hsize : g.locals.size = c.maxLocals) {argsL rest : List Value} (hlen : ∀ sig, parseMethodDescriptor y.desc = some sig → argsL.length = sig.parameters.length)
    (hstack : g.stack = argsL.reverse ++ .ref b :: rest) (hW : 2 * g.monitorRoom + (rest.map fun v => v.category).sum ≤ W9) (hdg : decode c.code g.pc = .ok (.invokevirtual index, 3))
    (hpre : ∀ vm₁, s.WarmedH vm₁ → Pre ⟨T.setVm vm₁, locs, cells, slots⟩ (Value.ref b :: argsL).toArray) :
    ∃ (v : Option Value) (vm₁ : Vm) (B : Pt), s.WarmedH vm₁ ∧ Stand p l e R s m args below meth c B.U B.locs B.cells B.slots ∧ Post ⟨T.setVm vm₁, locs, cells, slots⟩ (Value.ref b :: argsL).toArray v B ∧
      ∀ target, Steps p.tables e below (B.U.setTop { g with pc := g.pc + 3, stack := v.toList ++ rest }) target → Steps p.tables e below (T.setTop g) target := by
  obtain ⟨mk, methM, hnamed, hmethM, hstM, habM⟩ := Cond.instanceMethod_spec hinst
  obtain ⟨m8, methM', cM, hn8, hmethM', -, -, -, -, -, -, hsigM⟩ := Cond.codeWith_spec hcode
  cases Option.some.inj (hn8.symm.trans hnamed)
  cases hmethM.symm.trans hmethM'
  obtain ⟨c2, r2, m2, q1, q2, q3, q4, kP, hkP, hkPi⟩ := Cond.selects_spec hsel
  cases hcls.symm.trans q1
  cases (State.methodFound?_of_named hnamed hy).symm.trans q2
  cases hnamed.symm.trans q3
  have hselP : selectMethod e.platform s.vm cellB.cls mk = .method mk := by rw [Launch.admits_selectMethod X.admits]; exact q4
  obtain ⟨vm₁, X₁, hstep₁⟩ := X.invokevirtual hexec hown hlink hnamed hmethM hstM hkP hkPi hy (a := b) (cell := cellB) hcell
    (fun z h => by rw [h] at hobj; cases hobj) hselP hmethM habM hkP hkPi (g := g) hg (argsL := argsL) (rest := rest) (hlen _ hsigM) hstack hdg
  obtain ⟨v, B, X', hpost, hsteps⟩ := hK m meth c ⟨T.setVm vm₁, locs, cells, slots⟩ { g with stack := rest } (.invokevirtual index) mk (Value.ref b :: argsL).toArray X₁ hg hsize hdg hW (X₁.named hnamed) (hpre vm₁ X₁.warmed)
  exact ⟨v, vm₁, B, X₁.warmed, X', hpost, fun target h => hstep₁ _ fun acts => by rw [doInvoke_state]; exact hsteps.trans h⟩
abbrev vx_CVW (R : Room) (s : State) (args : Array Value) (own C : String) (index : Nat) (y : MethodName) (bytes : ByteArray) (maxL : Nat) (ret : Option FieldType) (hh : List (Nat × Nat × Nat × Nat)) (ws : List Cond) (rm : Room) (mc ms n : Nat) : Prop :=
  (rm.cells = mc ∧ rm.slots = ms ∧ rm.frames + 1 ≤ R.frames ∧ 8 + (maxL + 11) + rm.locals ≤ R.locals ∧ (∀ w ∈ ws, ∀ (a' : Array Value) (U : State), s.WarmedH U.vm → w.before a' U = true) ∧ Cond.codeWith y bytes maxL ret hh ∈ ws) ∧
  (Cond.codeWith y bytes maxL ret hh).before args s = true ∧ (Cond.initialized y.cls).before args s = true ∧ (y.cls ≠ "java/lang/invoke/MethodHandle" ∧ y.cls ≠ "java/lang/invoke/VarHandle") ∧
  (∀ sig, parseMethodDescriptor y.desc = some sig → n = sig.parameters.length) ∧ (Cond.methodLink own index y).before args s = true ∧ (Cond.instanceMethod y).before args s = true ∧ (Cond.selects C y y).before args s = true
theorem vx_cwVW {own C : String} {index maxL mc ms : Nat} {y : MethodName} {bytes : ByteArray} {ret : Option FieldType} {hh : List (Nat × Nat × Nat × Nat)} {Ts ws ws' : List Cond} {rm : Room} (n : Nat) (ht : ∀ w ∈ Ts, w.before args s = true) (hT : GoodIn Ts (wsV own index C y ws)) (hw : ws = Cond.codeWith y bytes maxL ret hh :: ws') (hrc : rm.cells = mc) (hrs : rm.slots = ms)
    (hd : y.cls = C ∧ y.cls ≠ "java/lang/invoke/MethodHandle" ∧ y.cls ≠ "java/lang/invoke/VarHandle" ∧ (parseMethodDescriptor y.desc).map (fun d => d.parameters.length) = some n) (hR : rm.frames + 1 ≤ R.frames ∧ 8 + (maxL + 11) + rm.locals ≤ R.locals) :
    vx_CVW R s args own C index y bytes maxL ret hh ws rm mc ms n := by
  obtain ⟨hC, hd⟩ := hd
  subst hC
  have ok : ∀ w ∈ wsV own index y.cls y ws, w.before args s = true := fun w h => ht w (hT w h).1
  have hG : GoodIn Ts ws := fun w h => hT w (by unfold wsV; exact List.mem_append_right _ h)
  have hc : Cond.codeWith y bytes maxL ret hh ∈ ws := by rw [hw]; exact List.mem_cons_self
  refine ⟨⟨hrc, hrs, hR.1, hR.2, pay_in ht hG, hc⟩, ht _ (hG _ hc).1, ok _ (by simp [wsV]), ⟨hd.1, hd.2.1⟩, fun sig h => ?_, ok _ (by simp [wsV]), ok _ (by simp [wsV]), ok _ (by simp [wsV])⟩
  have h2 := hd.2.2
  rw [h] at h2
  exact (Option.some.inj h2).symm
theorem vx_runVW {y : MethodName} {bytes cc : ByteArray} {maxL nL mc ms n index : Nat} {ret : Option FieldType} {hh : List (Nat × Nat × Nat × Nat)} {ws : List Cond} {rm : Room} {Pc : Array Value → State → Prop} {Qc : Array Value → State → Outcome → State → Prop} {free : Addr → Prop} {Ts : List Cond} {own C : String} {b : Addr} {As rest : List Value} {g : JFrame}
    (S : CallFix p m c cc nL s args Ts own) (hM : Met l y ws rm Pc Qc mc ms free) (cw : vx_CVW R s args own C index y bytes maxL ret hh ws rm mc ms n) (hp : PreV s H C b Pc As)
    (hg : g.method = m) (hn : As.length = n) (hsize : g.locals.size = nL) (hstack : g.stack = As.reverse ++ .ref b :: rest) (hW : 2 * g.monitorRoom + (rest.map fun v => v.category).sum ≤ 8) (hdg : decode cc g.pc = .ok (.invokevirtual index, 3)) (hf : cells + mc ≤ R.cells ∧ slots + ms ≤ R.slots) :
    va_Run p l e R s m args below meth c H locs cells slots mc ms g rest (Qc (Value.ref b :: As).toArray) free := by
  obtain ⟨⟨hrc, hrs, hfr, hlo, hws, hcw⟩, hcode, hini, hy, hlen, hl, hin, hse⟩ := cw
  have hK : Back l R p e below s args y 3 8 (PreOf R mc ms Pc) (PostOf Qc mc ms free) := va_backW (hh := hh) (bytes := bytes) (maxL := maxL) (ret := ret) hM hp.1 hrc hrs hfr hlo hws hcw (fun a' U hW => word_at hW (Or.inl (by first | rfl | simp [Cond.onTables, Cond.keeps, Cond.steady])) hini)
  obtain ⟨hx, hb, hml, ho, -⟩ := S
  obtain ⟨-, ⟨cellB, hcB, hoB, hclB⟩, hPc⟩ := hp
  intro T hT X
  obtain ⟨v, vm₁, ⟨U', l2, c2, s2⟩, hW₁, X', ⟨g', mk, t, L, e1, e2, hq, h1, hL, h2, h3⟩, st⟩ := vx_callVW X hx (C := C) (hh := hh) (bytes := bytes) (maxL := maxL) (ret := ret) ho hl hin hse hcode hy hK (by rw [hT]; exact hcB) hoB hclB hg (hsize.trans hml.symm) (argsL := As) (rest := rest) (fun sig h => hn.trans (hlen sig h)) hstack hW (by rw [hb]; exact hdg)
    (fun vm₁ hW₁ => ⟨hf.1, hf.2, hPc (T.setVm vm₁) hT hW₁⟩)
  dsimp only [Pt.U, Pt.locs, Pt.cells, Pt.slots] at X' e1 e2 h1 h2 h3 st
  subst h1; subst h2; subst h3
  exact ⟨v, (T.setVm vm₁).calling g' mk (Value.ref b :: As).toArray, t, U', L, hT, X', hL, e1, e2, hq, st⟩
section
variable {y : MethodName} {bytes cc : ByteArray} {maxL nL mc ms n index : Nat} {ret : Option FieldType} {ws : List Cond} {rm : Room} {Pc : Array Value → State → Prop} {Qc : Array Value → State → Outcome → State → Prop} {XC : String → State → State → Prop} {free : Addr → Prop} {Ts : List Cond} {own C : String} {b : Addr} {As rest : List Value} {g : JFrame}
theorem vx_runVX {hh : List (Nat × Nat × Nat × Nat)} (S : CallFix p m c cc nL s args Ts own) (hM : vx_Met l y ws rm Pc Qc XC mc ms free) (cw : vx_CVW R s args own C index y bytes maxL ret hh ws rm mc ms n) (hp : PreV s H C b Pc As)
    (hg : g.method = m) (hn : As.length = n) (hsize : g.locals.size = nL) (hstack : g.stack = As.reverse ++ .ref b :: rest) (hW : 2 * g.monitorRoom + (rest.map fun v => v.category).sum ≤ 8) (hdg : decode cc g.pc = .ok (.invokevirtual index, 3)) (hf : cells + mc ≤ R.cells ∧ slots + ms ≤ R.slots) :
    vx_Run p l e R s m args below meth c H locs cells slots mc ms g rest (Qc (Value.ref b :: As).toArray) XC free := by
  obtain ⟨⟨hrc, hrs, hfr, hlo, hws, hcw⟩, hcode, hini, hy, hlen, hl, hin, hse⟩ := cw
  have hK : vx_Back l R p e below s args y 3 8 (PreOf R mc ms Pc) (PostOf Qc mc ms free) (vx_Post XC mc ms free) := vx_backW (hh := hh) (bytes := bytes) (maxL := maxL) (ret := ret) hM hp.1 hrc hrs hfr hlo hws hcw (fun a' U hW => word_at hW (Or.inl (by first | rfl | simp [Cond.onTables, Cond.keeps, Cond.steady])) hini)
  obtain ⟨hx, hb, hml, ho, -⟩ := S
  obtain ⟨-, ⟨cellB, hcB, hoB, hclB⟩, hPc⟩ := hp
  intro T hT X
  rcases vx_callVX X hx (C := C) (hh := hh) (bytes := bytes) (maxL := maxL) (ret := ret) ho hl hin hse hcode hy hK (by rw [hT]; exact hcB) hoB hclB hg (hsize.trans hml.symm) (argsL := As) (rest := rest) (fun sig h => hn.trans (hlen sig h)) hstack hW (by rw [hb]; exact hdg)
    (fun vm₁ hW₁ => ⟨hf.1, hf.2, hPc (T.setVm vm₁) hT hW₁⟩) with ⟨v, vm₁, ⟨U', l2, c2, s2⟩, hW₁, X', ⟨g', mk, t, L, e1, e2, hq, h1, hL, h2, h3⟩, st⟩ | ⟨q, vm₁, ⟨U', l2, c2, s2⟩, hW₁, X', ⟨g', mk, t, L, E, ce, e1, e2, hq, hce, hcv, hcl, h1, hL, h2, h3⟩, st⟩
  · dsimp only [Pt.U, Pt.locs, Pt.cells, Pt.slots] at X' e1 e2 h1 h2 h3 st
    subst h1; subst h2; subst h3
    exact Or.inl ⟨v, (T.setVm vm₁).calling g' mk (Value.ref b :: As).toArray, t, U', L, hT, X', hL, e1, e2, hq, st⟩
  · dsimp only [Pt.U, Pt.locs, Pt.cells, Pt.slots] at X' e1 e2 h1 h2 h3 st hcl
    subst h1; subst h2; subst h3
    exact Or.inr ⟨q, (T.setVm vm₁).calling g' mk (Value.ref b :: As).toArray, t, U', L, E, ce, hT, X', hL, e1, e2, hq, hce, hcv, vx_cls hW₁ hcl, st⟩
theorem vx_runSX {hh : List (Nat × Nat × Nat × Nat)} (S : CallFix p m c cc nL s args Ts own) (hM : vx_Met l y ws rm Pc Qc XC mc ms free) (cw : vx_CSW R s args own index y bytes maxL ret hh ws rm mc ms n) (hp : PreS s H Pc As)
    (hg : g.method = m) (hn : As.length = n) (hsize : g.locals.size = nL) (hstack : g.stack = As.reverse ++ rest) (hW : 2 * g.monitorRoom + (rest.map fun v => v.category).sum ≤ 8) (hdg : decode cc g.pc = .ok (.invokestatic index, 3)) (hf : cells + mc ≤ R.cells ∧ slots + ms ≤ R.slots) :
    vx_Run p l e R s m args below meth c H locs cells slots mc ms g rest (Qc As.toArray) XC free := by
  obtain ⟨⟨hrc, hrs, hfr, hlo, hws, hcw⟩, hcode, hini, hy, hlen, hl, hstt⟩ := cw
  have hK : vx_Back l R p e below s args y 3 8 (PreOf R mc ms Pc) (PostOf Qc mc ms free) (vx_Post XC mc ms free) := vx_backW (hh := hh) (bytes := bytes) (maxL := maxL) (ret := ret) hM hp.1 hrc hrs hfr hlo hws hcw (fun a' U hW => word_at hW (Or.inl (by first | rfl | simp [Cond.onTables, Cond.keeps, Cond.steady])) hini)
  obtain ⟨hx, hb, hml, ho, -⟩ := S
  intro T hT X
  rcases vx_callSX X hx (hh := hh) (bytes := bytes) (maxL := maxL) (ret := ret) ho hl hstt hini hcode hy hK hg (hsize.trans hml.symm) (argsL := As) (rest := rest) (fun sig h => hn.trans (hlen sig h)) hstack hW (by rw [hb]; exact hdg)
    (fun vm₁ hW₁ => ⟨hf.1, hf.2, hp.2 (T.setVm vm₁) hT hW₁⟩) with ⟨v, vm₁, ⟨U', l2, c2, s2⟩, hW₁, X', ⟨g', mk, t, L, e1, e2, hq, h1, hL, h2, h3⟩, st⟩ | ⟨q, vm₁, ⟨U', l2, c2, s2⟩, hW₁, X', ⟨g', mk, t, L, E, ce, e1, e2, hq, hce, hcv, hcl, h1, hL, h2, h3⟩, st⟩
  · dsimp only [Pt.U, Pt.locs, Pt.cells, Pt.slots] at X' e1 e2 h1 h2 h3 st
    subst h1; subst h2; subst h3
    exact Or.inl ⟨v, (T.setVm vm₁).calling g' mk As.toArray, t, U', L, hT, X', hL, e1, e2, hq, st⟩
  · dsimp only [Pt.U, Pt.locs, Pt.cells, Pt.slots] at X' e1 e2 h1 h2 h3 st hcl
    subst h1; subst h2; subst h3
    exact Or.inr ⟨q, (T.setVm vm₁).calling g' mk As.toArray, t, U', L, E, ce, hT, X', hL, e1, e2, hq, hce, hcv, vx_cls hW₁ hcl, st⟩
end
end VXH
theorem vx_ofWH {l : Launch} {y : MethodName} {ws ws' : List Cond} {rm : Room} {Pc : Array Value → State → Prop} {Qc : Array Value → State → Outcome → State → Prop} {XC : String → State → State → Prop} {mc ms : Nat} {free : Addr → Prop} {cc : ByteArray} {maxL : Nat} {ret : Option FieldType} {hh : List (Nat × Nat × Nat × Nat)}
    (hy : plainName y.cls = true) (hw : ws = Cond.codeWith y cc maxL ret hh :: ws')
    (body : ∀ p e s m args below meth c s₁, BodyLoose p l y (headSpec ws rm) cc maxL ret e s m args below meth c s₁ → c.maxLocals = maxL → Pc args s →
      W p l e (headSpec ws rm).room s m args below meth c s.heap [] 0 0 (vx_MQ below Qc XC args s mc ms free) (entryFrame m args maxL)) : vx_Met l y ws rm Pc Qc XC mc ms free := by
  refine MetFree.of_bodyS (code := cc) (maxLocals := maxL) (ret := ret) hy ?_ ?_
  · intro args s m h hn
    obtain ⟨m9, meth, c, hn9, h1, h2, h3, h4, -, h5, h6, -⟩ := Cond.codeWith_spec (atoms_spec (ws := ws) h _ (by rw [hw]; exact List.mem_cons_self))
    cases hn.symm.trans hn9
    exact ⟨meth, c, h1, h2, h3, h4, h5, h6⟩
  · intro p e s m args below meth c s₁ B hml hP _
    have hh0 : s₁.heap = s.heap := by rw [B.state]; rfl
    obtain ⟨t, a1, o, b1, b2, b3⟩ := body p e s m args below meth c s₁ B hml hP s₁ hh0 (Stand.of_body B)
    exact ⟨t, o, a1, b1, b2, b3⟩
/-! ===== END ===== -/

section VXIA
variable {p : Program} {l : Launch} {e : Env} {R : Room} {s : State} {m : MethodId} {args : Array Value} {below : List Frame} {meth : Method} {c : Code} {T : State} {locs : List Loc} {cells slots : Nat}
theorem vx_callI (X : Stand p l e R s m args below meth c T locs cells slots) (hexec : p.tables.exec = Jvm.exec) {own : String} {index : Nat} {y : MethodName} {bytes : ByteArray} {maxL : Nat}
    (hown : s.vm.findClass own = some m.cls) (hy1 : y.name = "<init>") (hlink : (Cond.methodLink own index y).before args s = true) (hinst : (Cond.instanceMethod y).before args s = true)
    (hcode : (Cond.code y bytes maxL none).before args s = true) (hy : y.cls ≠ "java/lang/invoke/MethodHandle" ∧ y.cls ≠ "java/lang/invoke/VarHandle")
    {W9 : Nat} {Pre : Pt → Array Value → Prop} {Post : Pt → Array Value → Option Value → Pt → Prop} {PostX : Pt → Array Value → Addr → Pt → Prop} (hK : vx_Back l R p e below s args y 3 W9 Pre Post PostX)
    {g : JFrame} (hg : g.method = m) (hsize : g.locals.size = c.maxLocals) {a : Addr} {argsL rest : List Value} (hlen : ∀ sig, parseMethodDescriptor y.desc = some sig → argsL.length = sig.parameters.length)
    (hstack : g.stack = argsL.reverse ++ .ref a :: rest) (hW : 2 * g.monitorRoom + (rest.map fun v => v.category).sum ≤ W9) (hdg : decode c.code g.pc = .ok (.invokespecial index, 3))
    (hpre : ∀ vm₁, s.WarmedH vm₁ → Pre ⟨T.setVm vm₁, locs, cells, slots⟩ (Value.ref a :: argsL).toArray) :
    (∃ (v : Option Value) (vm₁ : Vm) (B : Pt), s.WarmedH vm₁ ∧ Stand p l e R s m args below meth c B.U B.locs B.cells B.slots ∧ Post ⟨T.setVm vm₁, locs, cells, slots⟩ (Value.ref a :: argsL).toArray v B ∧
      ∀ target, Steps p.tables e below (B.U.setTop { g with pc := g.pc + 3, stack := v.toList ++ rest }) target → Steps p.tables e below (T.setTop g) target) ∨
    (∃ (q : Addr) (vm₁ : Vm) (B : Pt), s.WarmedH vm₁ ∧ Stand p l e R s m args below meth c B.U B.locs B.cells B.slots ∧ PostX ⟨T.setVm vm₁, locs, cells, slots⟩ (Value.ref a :: argsL).toArray q B ∧
      Steps p.tables e below (T.setTop g) ((B.U.setTop { g with stack := rest }).pushFrame (.throwing q))) := by
  subst hg
  have hpl : e.platform.magicAccessors = ({} : Platform).magicAccessors := by rw [X.admits.platform]
  obtain ⟨mk, methM, cM, kP, vm₁, hnamed, hmethM, hcodeM, -, hlocalsM, -, hkP, -, hW₁, hstep₁⟩ := Steps.initColdArgs (e := e) X.here hexec X.warmed hpl hown hy1 hy hlink hinst hcode (f := g) rfl hlen hstack hdg
  have X₁ := X.noted hW₁
  rcases hK g.method meth c ⟨T.setVm vm₁, locs, cells, slots⟩ { g with stack := rest } (.invokespecial index) mk (Value.ref a :: argsL).toArray X₁ rfl hsize hdg hW (X₁.named hnamed) (hpre vm₁ X₁.warmed) with ⟨v, B, X', hpost, hsteps⟩ | ⟨q, B, X', hpost, hsteps⟩
  · exact Or.inl ⟨v, vm₁, B, X₁.warmed, X', hpost, fun target h => hstep₁ _ fun acts => by rw [doInvoke_state]; exact hsteps.trans h⟩
  · exact Or.inr ⟨q, vm₁, B, X₁.warmed, X', hpost, hstep₁ _ fun acts => by rw [doInvoke_state]; exact hsteps⟩
end VXIA
section VXIB
variable {p : Program} {l : Launch} {e : Env} {R : Room} {s : State} {m : MethodId} {args : Array Value} {below : List Frame} {meth : Method} {c : Code} {H : Heap} {locs : List Loc} {cells slots : Nat}
variable {y : MethodName} {bytes cc : ByteArray} {maxL nL mc ms n index : Nat} {ret : Option FieldType} {ws : List Cond} {rm : Room} {Pc : Array Value → State → Prop} {Qc : Array Value → State → Outcome → State → Prop} {XC : String → State → State → Prop} {free : Addr → Prop} {Ts : List Cond} {own C : String} {b : Addr} {As rest : List Value} {g : JFrame}
theorem vx_runI (S : CallFix p m c cc nL s args Ts own) (hM : vx_Met l y ws rm Pc Qc XC mc ms free) (cw : CallB R s args own index y bytes maxL none ws rm mc ms n ∧ y.name = "<init>" ∧ (Cond.instanceMethod y).before args s = true) (hp : PreS s H Pc (.ref b :: As))
    (hg : g.method = m) (hn : As.length = n) (hsize : g.locals.size = nL) (hstack : g.stack = As.reverse ++ .ref b :: rest) (hW : 2 * g.monitorRoom + (rest.map fun v => v.category).sum ≤ 8) (hdg : decode cc g.pc = .ok (.invokespecial index, 3)) (hf : cells + mc ≤ R.cells ∧ slots + ms ≤ R.slots) :
    vx_Run p l e R s m args below meth c H locs cells slots mc ms g rest (Qc (Value.ref b :: As).toArray) XC free := by
  have hK : vx_Back l R p e below s args y 3 8 (PreOf R mc ms Pc) (PostOf Qc mc ms free) (vx_Post XC mc ms free) := vx_callBack cw.1 hM hp.1
  obtain ⟨⟨-, -, -, -, -, -, hcode, -, hy, hlen, hl⟩, hy1, hin⟩ := cw
  obtain ⟨hx, hb, hml, ho, -⟩ := S
  have hPc := hp.2
  intro T hT X
  rcases vx_callI X hx (bytes := bytes) (maxL := maxL) ho hy1 hl hin hcode hy hK hg (hsize.trans hml.symm) (a := b) (argsL := As) (rest := rest) (fun sig h => hn.trans (hlen sig h)) hstack hW (by rw [hb]; exact hdg)
    (fun vm₁ hW₁ => ⟨hf.1, hf.2, hPc (T.setVm vm₁) hT hW₁⟩) with ⟨v, vm₁, ⟨U', l2, c2, s2⟩, hW₁, X', ⟨g', mk, t, L, e1, e2, hq, h1, hL, h2, h3⟩, st⟩ | ⟨q, vm₁, ⟨U', l2, c2, s2⟩, hW₁, X', ⟨g', mk, t, L, E, ce, e1, e2, hq, hce, hcv, hcl, h1, hL, h2, h3⟩, st⟩
  · dsimp only [Pt.U, Pt.locs, Pt.cells, Pt.slots] at X' e1 e2 h1 h2 h3 st
    subst h1; subst h2; subst h3
    exact Or.inl ⟨v, (T.setVm vm₁).calling g' mk (Value.ref b :: As).toArray, t, U', L, hT, X', hL, e1, e2, hq, st⟩
  · dsimp only [Pt.U, Pt.locs, Pt.cells, Pt.slots] at X' e1 e2 h1 h2 h3 st hcl
    subst h1; subst h2; subst h3
    exact Or.inr ⟨q, (T.setVm vm₁).calling g' mk (Value.ref b :: As).toArray, t, U', L, E, ce, hT, X', hL, e1, e2, hq, hce, hcv, vx_cls hW₁ hcl, st⟩
end VXIB

def RX0 : String := "SettlementRing$Account"
def TX0 : u_T := fun k => match k with
  | 0 => ("SettlementRing$Account", "country", "I", false)
  | 1 => ("SettlementRing$Account", "custodian", "I", false)
  | 2 => ("SettlementRing$Account", "isPooled", "Z", false)
  | 3 => ("SettlementRing$Account", "lends", "Z", false)
  | 4 => ("SettlementRing$Account", "isRelieved", "Z", false)
  | 5 => ("SettlementRing$Account", "cash", "J", false)
  | 6 => ("SettlementRing$Account", "pledged", "J", false)
  | 7 => ("SettlementRing$Account", "line", "J", false)
  | 8 => ("SettlementRing$Account", "ledger", "J", false)
  | 9 => ("SettlementRing$Account", "held", "[J", true)
  | 10 => ("SettlementRing$Account", "blocked", "[J", true)
  | _ => ("SettlementRing$Account", "moved", "[J", true)
def tyX0 : Nat → FieldType := fun k => match k with
  | 0 => .int
  | 1 => .int
  | 2 => .boolean
  | 3 => .boolean
  | 4 => .boolean
  | 5 => .long
  | 6 => .long
  | 7 => .long
  | 8 => .long
  | 9 => .array .long
  | 10 => .array .long
  | _ => .array .long
abbrev wsX00 : List Cond := u_ws RX0 TX0 12
theorem nmX0 : ∀ a, a < 12 → ∀ b, b < 12 → a ≠ b → (TX0 a).2.1 ≠ (TX0 b).2.1 := by decide +kernel
theorem tyX0_ok : ∀ k, k < 12 → parseFieldDescriptor (TX0 k).2.2.1 = some (tyX0 k) := by decide +kernel
abbrev cX0_init : ByteArray := prog_2_method_1_code
def yX0_init : MethodName := ⟨RX0, "<init>", "()V"⟩
abbrev cX0_heldOf : ByteArray := prog_2_method_2_code
def yX0_heldOf : MethodName := ⟨RX0, "heldOf", "(I)J"⟩
abbrev cX0_blockedOf : ByteArray := prog_2_method_3_code
def yX0_blockedOf : MethodName := ⟨RX0, "blockedOf", "(I)J"⟩
abbrev cX0_freeOf : ByteArray := prog_2_method_4_code
def yX0_freeOf : MethodName := ⟨RX0, "freeOf", "(I)J"⟩
abbrev cX0_freeCash : ByteArray := prog_2_method_5_code
def yX0_freeCash : MethodName := ⟨RX0, "freeCash", "()J"⟩
abbrev cX0_setBlocked : ByteArray := prog_2_method_6_code
def yX0_setBlocked : MethodName := ⟨RX0, "setBlocked", "(IJ)V"⟩
abbrev cX0_shift : ByteArray := prog_2_method_7_code
def yX0_shift : MethodName := ⟨RX0, "shift", "(IJ)V"⟩
abbrev cX0_move : ByteArray := prog_2_method_8_code
def yX0_move : MethodName := ⟨RX0, "move", "(IJI)V"⟩
abbrev cX0_movedUpTo : ByteArray := prog_2_method_9_code
def yX0_movedUpTo : MethodName := ⟨RX0, "movedUpTo", "(II)J"⟩
abbrev cX0_copyFrom : ByteArray := prog_2_method_10_code
def yX0_copyFrom : MethodName := ⟨RX0, "copyFrom", "(LSettlementRing$Account;)V"⟩
def RX1 : String := "SettlementRing$Book"
def TX1 : u_T := fun k => match k with
  | 0 => ("SettlementRing$Book", "mail", "LSettlementRing$Mail;", true)
  | 1 => ("SettlementRing$Book", "accounts", "[LSettlementRing$Account;", true)
  | 2 => ("SettlementRing$Book", "securities", "[LSettlementRing$Security;", true)
  | 3 => ("SettlementRing$Book", "instructions", "[LSettlementRing$Instruction;", true)
  | 4 => ("SettlementRing$Book", "trades", "[LSettlementRing$Trade;", true)
  | 5 => ("SettlementRing$Book", "links", "[LSettlementRing$Link;", true)
  | 6 => ("SettlementRing$Book", "loans", "[LSettlementRing$Loan;", true)
  | 7 => ("SettlementRing$Book", "events", "[LSettlementRing$Event;", true)
  | 8 => ("SettlementRing$Book", "treaties", "[J", true)
  | 9 => ("SettlementRing$Book", "accountCount", "I", false)
  | 10 => ("SettlementRing$Book", "securityCount", "I", false)
  | 11 => ("SettlementRing$Book", "instructionCount", "I", false)
  | 12 => ("SettlementRing$Book", "tradeCount", "I", false)
  | 13 => ("SettlementRing$Book", "linkCount", "I", false)
  | 14 => ("SettlementRing$Book", "loanCount", "I", false)
  | 15 => ("SettlementRing$Book", "eventCount", "I", false)
  | 16 => ("SettlementRing$Book", "today", "I", false)
  | _ => ("SettlementRing$Book", "page", "I", false)
def tyX1 : Nat → FieldType := fun k => match k with
  | 0 => .object "SettlementRing$Mail"
  | 1 => .array (.object "SettlementRing$Account")
  | 2 => .array (.object "SettlementRing$Security")
  | 3 => .array (.object "SettlementRing$Instruction")
  | 4 => .array (.object "SettlementRing$Trade")
  | 5 => .array (.object "SettlementRing$Link")
  | 6 => .array (.object "SettlementRing$Loan")
  | 7 => .array (.object "SettlementRing$Event")
  | 8 => .array .long
  | 9 => .int
  | 10 => .int
  | 11 => .int
  | 12 => .int
  | 13 => .int
  | 14 => .int
  | 15 => .int
  | 16 => .int
  | _ => .int
abbrev wsX10 : List Cond := u_ws RX1 TX1 18
theorem nmX1 : ∀ a, a < 18 → ∀ b, b < 18 → a ≠ b → (TX1 a).2.1 ≠ (TX1 b).2.1 := by decide +kernel
theorem tyX1_ok : ∀ k, k < 18 → parseFieldDescriptor (TX1 k).2.2.1 = some (tyX1 k) := by decide +kernel
abbrev cX1_init : ByteArray := prog_3_method_1_code
def yX1_init : MethodName := ⟨RX1, "<init>", "(LSettlementRing$Mail;)V"⟩
abbrev cX1_account : ByteArray := prog_3_method_2_code
def yX1_account : MethodName := ⟨RX1, "account", "(I)LSettlementRing$Account;"⟩
abbrev cX1_security : ByteArray := prog_3_method_3_code
def yX1_security : MethodName := ⟨RX1, "security", "(I)LSettlementRing$Security;"⟩
abbrev cX1_instruction : ByteArray := prog_3_method_4_code
def yX1_instruction : MethodName := ⟨RX1, "instruction", "(I)LSettlementRing$Instruction;"⟩
abbrev cX1_trade : ByteArray := prog_3_method_5_code
def yX1_trade : MethodName := ⟨RX1, "trade", "(I)LSettlementRing$Trade;"⟩
abbrev cX1_linkAt : ByteArray := prog_3_method_6_code
def yX1_linkAt : MethodName := ⟨RX1, "linkAt", "(I)LSettlementRing$Link;"⟩
abbrev cX1_loanAt : ByteArray := prog_3_method_7_code
def yX1_loanAt : MethodName := ⟨RX1, "loanAt", "(I)LSettlementRing$Loan;"⟩
abbrev cX1_event : ByteArray := prog_3_method_8_code
def yX1_event : MethodName := ⟨RX1, "event", "(I)LSettlementRing$Event;"⟩
abbrev cX1_copyFrom : ByteArray := prog_3_method_9_code
def yX1_copyFrom : MethodName := ⟨RX1, "copyFrom", "(LSettlementRing$Book;)V"⟩
abbrev cX1_copyCounts : ByteArray := prog_3_method_10_code
def yX1_copyCounts : MethodName := ⟨RX1, "copyCounts", "(LSettlementRing$Book;)V"⟩
abbrev cX1_treatyTax : ByteArray := prog_3_method_11_code
def yX1_treatyTax : MethodName := ⟨RX1, "treatyTax", "(II)I"⟩
abbrev cX1_setTreatyTax : ByteArray := prog_3_method_12_code
def yX1_setTreatyTax : MethodName := ⟨RX1, "setTreatyTax", "(III)V"⟩
abbrev cX1_worthOf : ByteArray := prog_3_method_13_code
def yX1_worthOf : MethodName := ⟨RX1, "worthOf", "(IJ)J"⟩
abbrev cX1_limitOf : ByteArray := prog_3_method_14_code
def yX1_limitOf : MethodName := ⟨RX1, "limitOf", "(LSettlementRing$Account;)J"⟩
abbrev cX1_isFirm : ByteArray := prog_3_method_15_code
def yX1_isFirm : MethodName := ⟨RX1, "isFirm", "(I)Z"⟩
abbrev cX1_owe : ByteArray := prog_3_method_16_code
def yX1_owe : MethodName := ⟨RX1, "owe", "(IIJ)V"⟩
abbrev cX1_partnerFor : ByteArray := prog_3_method_17_code
def yX1_partnerFor : MethodName := ⟨RX1, "partnerFor", "(LSettlementRing$Instruction;I)I"⟩
abbrev cX1_match : ByteArray := prog_3_method_18_code
def yX1_match : MethodName := ⟨RX1, "match", "(II)I"⟩
abbrev cX1_putStatus : ByteArray := prog_3_method_19_code
def yX1_putStatus : MethodName := ⟨RX1, "putStatus", "(LSettlementRing$Trade;I)V"⟩
abbrev cX1_tellBoth : ByteArray := prog_3_method_20_code
def yX1_tellBoth : MethodName := ⟨RX1, "tellBoth", "(LSettlementRing$Trade;)V"⟩
abbrev cX1_cancelInstruction : ByteArray := prog_3_method_21_code
def yX1_cancelInstruction : MethodName := ⟨RX1, "cancelInstruction", "(LSettlementRing$Instruction;)V"⟩
abbrev cX1_cancelTrade : ByteArray := prog_3_method_22_code
def yX1_cancelTrade : MethodName := ⟨RX1, "cancelTrade", "(LSettlementRing$Trade;)V"⟩
abbrev cX1_isDue : ByteArray := prog_3_method_23_code
def yX1_isDue : MethodName := ⟨RX1, "isDue", "(LSettlementRing$Trade;)Z"⟩
abbrev cX1_isHeldUp : ByteArray := prog_3_method_24_code
def yX1_isHeldUp : MethodName := ⟨RX1, "isHeldUp", "(LSettlementRing$Trade;)Z"⟩
abbrev cX1_isLacking : ByteArray := prog_3_method_25_code
def yX1_isLacking : MethodName := ⟨RX1, "isLacking", "(LSettlementRing$Trade;)Z"⟩
abbrev cX1_isLinked : ByteArray := prog_3_method_26_code
def yX1_isLinked : MethodName := ⟨RX1, "isLinked", "(LSettlementRing$Trade;)Z"⟩
abbrev cX1_isLinkOf : ByteArray := prog_3_method_27_code
def yX1_isLinkOf : MethodName := ⟨RX1, "isLinkOf", "(II)Z"⟩
abbrev cX1_shift : ByteArray := prog_3_method_28_code
def yX1_shift : MethodName := ⟨RX1, "shift", "(LSettlementRing$Trade;JJ)V"⟩
abbrev cX1_payFor : ByteArray := prog_3_method_29_code
def yX1_payFor : MethodName := ⟨RX1, "payFor", "(LSettlementRing$Trade;J)V"⟩
abbrev cX1_settleWhole : ByteArray := prog_3_method_30_code
def yX1_settleWhole : MethodName := ⟨RX1, "settleWhole", "(LSettlementRing$Trade;)V"⟩
abbrev cX1_settlePart : ByteArray := prog_3_method_31_code
def yX1_settlePart : MethodName := ⟨RX1, "settlePart", "(LSettlementRing$Trade;JJ)V"⟩
abbrev cX1_moveUnits : ByteArray := prog_3_method_32_code
def yX1_moveUnits : MethodName := ⟨RX1, "moveUnits", "(IIIJ)V"⟩
abbrev cX1_causerOf : ByteArray := prog_3_method_33_code
def yX1_causerOf : MethodName := ⟨RX1, "causerOf", "(LSettlementRing$Trade;)I"⟩
abbrev cX1_sourceOf : ByteArray := prog_3_method_34_code
def yX1_sourceOf : MethodName := ⟨RX1, "sourceOf", "(LSettlementRing$Trade;I)I"⟩
def RX2 : String := "SettlementRing$Cycle"
def TX2 : u_T := fun k => match k with
  | 0 => ("SettlementRing$Cycle", "book", "LSettlementRing$Book;", true)
  | 1 => ("SettlementRing$Cycle", "candidates", "[I", true)
  | 2 => ("SettlementRing$Cycle", "worthFrom", "[J", true)
  | 3 => ("SettlementRing$Cycle", "lent", "[J", true)
  | 4 => ("SettlementRing$Cycle", "count", "I", false)
  | 5 => ("SettlementRing$Cycle", "set", "I", false)
  | 6 => ("SettlementRing$Cycle", "size", "I", false)
  | 7 => ("SettlementRing$Cycle", "worth", "J", false)
  | 8 => ("SettlementRing$Cycle", "bestSet", "I", false)
  | 9 => ("SettlementRing$Cycle", "bestSize", "I", false)
  | _ => ("SettlementRing$Cycle", "bestWorth", "J", false)
def tyX2 : Nat → FieldType := fun k => match k with
  | 0 => .object "SettlementRing$Book"
  | 1 => .array .int
  | 2 => .array .long
  | 3 => .array .long
  | 4 => .int
  | 5 => .int
  | 6 => .int
  | 7 => .long
  | 8 => .int
  | 9 => .int
  | _ => .long
abbrev wsX20 : List Cond := u_ws RX2 TX2 11
theorem nmX2 : ∀ a, a < 11 → ∀ b, b < 11 → a ≠ b → (TX2 a).2.1 ≠ (TX2 b).2.1 := by decide +kernel
theorem tyX2_ok : ∀ k, k < 11 → parseFieldDescriptor (TX2 k).2.2.1 = some (tyX2 k) := by decide +kernel
abbrev cX2_init : ByteArray := prog_4_method_1_code
def yX2_init : MethodName := ⟨RX2, "<init>", "(LSettlementRing$Book;)V"⟩
abbrev cX2_bestByBranches : ByteArray := prog_4_method_2_code
def yX2_bestByBranches : MethodName := ⟨RX2, "bestByBranches", "()J"⟩
abbrev cX2_bestOfAllSets : ByteArray := prog_4_method_3_code
def yX2_bestOfAllSets : MethodName := ⟨RX2, "bestOfAllSets", "()J"⟩
abbrev cX2_candidate : ByteArray := prog_4_method_4_code
def yX2_candidate : MethodName := ⟨RX2, "candidate", "(I)LSettlementRing$Trade;"⟩
abbrev cX2_beginSearch : ByteArray := prog_4_method_5_code
def yX2_beginSearch : MethodName := ⟨RX2, "beginSearch", "()V"⟩
abbrev cX2_findCandidates : ByteArray := prog_4_method_6_code
def yX2_findCandidates : MethodName := ⟨RX2, "findCandidates", "()V"⟩
abbrev cX2_insertCandidate : ByteArray := prog_4_method_7_code
def yX2_insertCandidate : MethodName := ⟨RX2, "insertCandidate", "(LSettlementRing$Trade;)V"⟩
abbrev cX2_rankOf : ByteArray := prog_4_method_8_code
def yX2_rankOf : MethodName := ⟨RX2, "rankOf", "(LSettlementRing$Trade;)I"⟩
abbrev cX2_worthOf : ByteArray := prog_4_method_9_code
def yX2_worthOf : MethodName := ⟨RX2, "worthOf", "(LSettlementRing$Trade;)J"⟩
abbrev cX2_choose : ByteArray := prog_4_method_10_code
def yX2_choose : MethodName := ⟨RX2, "choose", "(LSettlementRing$Cycle;I)V"⟩
abbrev cX2_putIn : ByteArray := prog_4_method_11_code
def yX2_putIn : MethodName := ⟨RX2, "putIn", "(LSettlementRing$Trade;)V"⟩
abbrev cX2_takeOut : ByteArray := prog_4_method_12_code
def yX2_takeOut : MethodName := ⟨RX2, "takeOut", "(LSettlementRing$Trade;)V"⟩
abbrev cX2_weigh : ByteArray := prog_4_method_13_code
def yX2_weigh : MethodName := ⟨RX2, "weigh", "()V"⟩
abbrev cX2_areLinksKept : ByteArray := prog_4_method_14_code
def yX2_areLinksKept : MethodName := ⟨RX2, "areLinksKept", "()Z"⟩
abbrev cX2_isInOrSettled : ByteArray := prog_4_method_15_code
def yX2_isInOrSettled : MethodName := ⟨RX2, "isInOrSettled", "(I)Z"⟩
abbrev cX2_isIn : ByteArray := prog_4_method_16_code
def yX2_isIn : MethodName := ⟨RX2, "isIn", "(II)Z"⟩
abbrev cX2_areAllFirm : ByteArray := prog_4_method_17_code
def yX2_areAllFirm : MethodName := ⟨RX2, "areAllFirm", "()Z"⟩
abbrev cX2_giveLoansBack : ByteArray := prog_4_method_18_code
def yX2_giveLoansBack : MethodName := ⟨RX2, "giveLoansBack", "()V"⟩
abbrev cX2_settleBestSet : ByteArray := prog_4_method_19_code
def yX2_settleBestSet : MethodName := ⟨RX2, "settleBestSet", "()I"⟩
abbrev cX2_settleByLoans : ByteArray := prog_4_method_20_code
def yX2_settleByLoans : MethodName := ⟨RX2, "settleByLoans", "()I"⟩
abbrev cX2_settleByLoan : ByteArray := prog_4_method_21_code
def yX2_settleByLoan : MethodName := ⟨RX2, "settleByLoan", "(LSettlementRing$Trade;)Z"⟩
abbrev cX2_findLenders : ByteArray := prog_4_method_22_code
def yX2_findLenders : MethodName := ⟨RX2, "findLenders", "(LSettlementRing$Trade;)V"⟩
abbrev cX2_shiftLoans : ByteArray := prog_4_method_23_code
def yX2_shiftLoans : MethodName := ⟨RX2, "shiftLoans", "(LSettlementRing$Trade;I)V"⟩
abbrev cX2_areLendersFirm : ByteArray := prog_4_method_24_code
def yX2_areLendersFirm : MethodName := ⟨RX2, "areLendersFirm", "()Z"⟩
abbrev cX2_makeLoans : ByteArray := prog_4_method_25_code
def yX2_makeLoans : MethodName := ⟨RX2, "makeLoans", "(LSettlementRing$Trade;)V"⟩
abbrev cX2_settleInPart : ByteArray := prog_4_method_26_code
def yX2_settleInPart : MethodName := ⟨RX2, "settleInPart", "()V"⟩
abbrev cX2_settlePartOf : ByteArray := prog_4_method_27_code
def yX2_settlePartOf : MethodName := ⟨RX2, "settlePartOf", "(LSettlementRing$Trade;J)V"⟩
def RX3 : String := "SettlementRing$DayEnd"
def TX3 : u_T := fun k => match k with
  | _ => ("SettlementRing$DayEnd", "book", "LSettlementRing$Book;", true)
def tyX3 : Nat → FieldType := fun k => match k with
  | _ => .object "SettlementRing$Book"
abbrev wsX30 : List Cond := u_ws RX3 TX3 1
theorem nmX3 : ∀ a, a < 1 → ∀ b, b < 1 → a ≠ b → (TX3 a).2.1 ≠ (TX3 b).2.1 := by decide +kernel
theorem tyX3_ok : ∀ k, k < 1 → parseFieldDescriptor (TX3 k).2.2.1 = some (tyX3 k) := by decide +kernel
abbrev cX3_init : ByteArray := prog_5_method_1_code
def yX3_init : MethodName := ⟨RX3, "<init>", "(LSettlementRing$Book;)V"⟩
abbrev cX3_takeTurns : ByteArray := prog_5_method_2_code
def yX3_takeTurns : MethodName := ⟨RX3, "takeTurns", "()V"⟩
abbrev cX3_note : ByteArray := prog_5_method_3_code
def yX3_note : MethodName := ⟨RX3, "note", "(LSettlementRing$Event;)V"⟩
abbrev cX3_payOut : ByteArray := prog_5_method_4_code
def yX3_payOut : MethodName := ⟨RX3, "payOut", "(LSettlementRing$Event;)V"⟩
abbrev cX3_payDividend : ByteArray := prog_5_method_5_code
def yX3_payDividend : MethodName := ⟨RX3, "payDividend", "(LSettlementRing$Event;)V"⟩
abbrev cX3_payLessTax : ByteArray := prog_5_method_6_code
def yX3_payLessTax : MethodName := ⟨RX3, "payLessTax", "(IIJ)V"⟩
abbrev cX3_payOption : ByteArray := prog_5_method_7_code
def yX3_payOption : MethodName := ⟨RX3, "payOption", "(LSettlementRing$Event;)V"⟩
abbrev cX3_payClaims : ByteArray := prog_5_method_8_code
def yX3_payClaims : MethodName := ⟨RX3, "payClaims", "(LSettlementRing$Event;)V"⟩
abbrev cX3_splitHoldings : ByteArray := prog_5_method_9_code
def yX3_splitHoldings : MethodName := ⟨RX3, "splitHoldings", "(LSettlementRing$Event;)V"⟩
abbrev cX3_splitWithPool : ByteArray := prog_5_method_10_code
def yX3_splitWithPool : MethodName := ⟨RX3, "splitWithPool", "(LSettlementRing$Event;I)J"⟩
abbrev cX3_splitAccount : ByteArray := prog_5_method_11_code
def yX3_splitAccount : MethodName := ⟨RX3, "splitAccount", "(LSettlementRing$Event;LSettlementRing$Account;J)V"⟩
abbrev cX3_splitLoans : ByteArray := prog_5_method_12_code
def yX3_splitLoans : MethodName := ⟨RX3, "splitLoans", "(LSettlementRing$Event;)V"⟩
abbrev cX3_splitTrades : ByteArray := prog_5_method_13_code
def yX3_splitTrades : MethodName := ⟨RX3, "splitTrades", "(LSettlementRing$Event;)V"⟩
abbrev cX3_tellFinesOfTrades : ByteArray := prog_5_method_14_code
def yX3_tellFinesOfTrades : MethodName := ⟨RX3, "tellFinesOfTrades", "()I"⟩
abbrev cX3_finedFor : ByteArray := prog_5_method_15_code
def yX3_finedFor : MethodName := ⟨RX3, "finedFor", "(LSettlementRing$Trade;)I"⟩
abbrev cX3_tellFinesOfLoans : ByteArray := prog_5_method_16_code
def yX3_tellFinesOfLoans : MethodName := ⟨RX3, "tellFinesOfLoans", "()I"⟩
abbrev cX3_tellFine : ByteArray := prog_5_method_17_code
def yX3_tellFine : MethodName := ⟨RX3, "tellFine", "(IIIJ)I"⟩
abbrev cX3_growOlder : ByteArray := prog_5_method_18_code
def yX3_growOlder : MethodName := ⟨RX3, "growOlder", "()V"⟩
abbrev cX3_buyIn : ByteArray := prog_5_method_19_code
def yX3_buyIn : MethodName := ⟨RX3, "buyIn", "(LSettlementRing$Trade;)V"⟩
def RX4 : String := "SettlementRing$Event"
def TX4 : u_T := fun k => match k with
  | 0 => ("SettlementRing$Event", "kind", "I", false)
  | 1 => ("SettlementRing$Event", "security", "I", false)
  | 2 => ("SettlementRing$Event", "a", "I", false)
  | 3 => ("SettlementRing$Event", "b", "I", false)
  | 4 => ("SettlementRing$Event", "cap", "I", false)
  | 5 => ("SettlementRing$Event", "record", "I", false)
  | 6 => ("SettlementRing$Event", "pay", "I", false)
  | 7 => ("SettlementRing$Event", "isNoted", "Z", false)
  | 8 => ("SettlementRing$Event", "isDone", "Z", false)
  | 9 => ("SettlementRing$Event", "page", "I", false)
  | 10 => ("SettlementRing$Event", "entitled", "[J", true)
  | 11 => ("SettlementRing$Event", "elected", "[J", true)
  | _ => ("SettlementRing$Event", "claimed", "[J", true)
def tyX4 : Nat → FieldType := fun k => match k with
  | 0 => .int
  | 1 => .int
  | 2 => .int
  | 3 => .int
  | 4 => .int
  | 5 => .int
  | 6 => .int
  | 7 => .boolean
  | 8 => .boolean
  | 9 => .int
  | 10 => .array .long
  | 11 => .array .long
  | _ => .array .long
abbrev wsX40 : List Cond := u_ws RX4 TX4 13
theorem nmX4 : ∀ a, a < 13 → ∀ b, b < 13 → a ≠ b → (TX4 a).2.1 ≠ (TX4 b).2.1 := by decide +kernel
theorem tyX4_ok : ∀ k, k < 13 → parseFieldDescriptor (TX4 k).2.2.1 = some (tyX4 k) := by decide +kernel
abbrev cX4_init : ByteArray := prog_6_method_1_code
def yX4_init : MethodName := ⟨RX4, "<init>", "()V"⟩
abbrev cX4_entitledOf : ByteArray := prog_6_method_2_code
def yX4_entitledOf : MethodName := ⟨RX4, "entitledOf", "(I)J"⟩
abbrev cX4_setEntitled : ByteArray := prog_6_method_3_code
def yX4_setEntitled : MethodName := ⟨RX4, "setEntitled", "(IJ)V"⟩
abbrev cX4_electedOf : ByteArray := prog_6_method_4_code
def yX4_electedOf : MethodName := ⟨RX4, "electedOf", "(I)J"⟩
abbrev cX4_setElected : ByteArray := prog_6_method_5_code
def yX4_setElected : MethodName := ⟨RX4, "setElected", "(IJ)V"⟩
abbrev cX4_claimedOf : ByteArray := prog_6_method_6_code
def yX4_claimedOf : MethodName := ⟨RX4, "claimedOf", "(I)J"⟩
abbrev cX4_setClaimed : ByteArray := prog_6_method_7_code
def yX4_setClaimed : MethodName := ⟨RX4, "setClaimed", "(IJ)V"⟩
abbrev cX4_splitOf : ByteArray := prog_6_method_8_code
def yX4_splitOf : MethodName := ⟨RX4, "splitOf", "(J)J"⟩
abbrev cX4_askedBy : ByteArray := prog_6_method_9_code
def yX4_askedBy : MethodName := ⟨RX4, "askedBy", "(I)J"⟩
abbrev cX4_copyFrom : ByteArray := prog_6_method_10_code
def yX4_copyFrom : MethodName := ⟨RX4, "copyFrom", "(LSettlementRing$Event;)V"⟩
def RX5 : String := "SettlementRing$Instruction"
def TX5 : u_T := fun k => match k with
  | 0 => ("SettlementRing$Instruction", "account", "I", false)
  | 1 => ("SettlementRing$Instruction", "other", "I", false)
  | 2 => ("SettlementRing$Instruction", "isDelivery", "Z", false)
  | 3 => ("SettlementRing$Instruction", "security", "I", false)
  | 4 => ("SettlementRing$Instruction", "units", "I", false)
  | 5 => ("SettlementRing$Instruction", "amount", "I", false)
  | 6 => ("SettlementRing$Instruction", "date", "I", false)
  | 7 => ("SettlementRing$Instruction", "priority", "I", false)
  | 8 => ("SettlementRing$Instruction", "least", "I", false)
  | 9 => ("SettlementRing$Instruction", "status", "I", false)
  | 10 => ("SettlementRing$Instruction", "trade", "I", false)
  | 11 => ("SettlementRing$Instruction", "isHeld", "Z", false)
  | _ => ("SettlementRing$Instruction", "isCancelAsked", "Z", false)
def tyX5 : Nat → FieldType := fun k => match k with
  | 0 => .int
  | 1 => .int
  | 2 => .boolean
  | 3 => .int
  | 4 => .int
  | 5 => .int
  | 6 => .int
  | 7 => .int
  | 8 => .int
  | 9 => .int
  | 10 => .int
  | 11 => .boolean
  | _ => .boolean
abbrev wsX50 : List Cond := u_ws RX5 TX5 13
theorem nmX5 : ∀ a, a < 13 → ∀ b, b < 13 → a ≠ b → (TX5 a).2.1 ≠ (TX5 b).2.1 := by decide +kernel
theorem tyX5_ok : ∀ k, k < 13 → parseFieldDescriptor (TX5 k).2.2.1 = some (tyX5 k) := by decide +kernel
abbrev cX5_init : ByteArray := prog_7_method_1_code
def yX5_init : MethodName := ⟨RX5, "<init>", "()V"⟩
abbrev cX5_isAlive : ByteArray := prog_7_method_2_code
def yX5_isAlive : MethodName := ⟨RX5, "isAlive", "()Z"⟩
abbrev cX5_fits : ByteArray := prog_7_method_3_code
def yX5_fits : MethodName := ⟨RX5, "fits", "(LSettlementRing$Instruction;I)Z"⟩
abbrev cX5_copyFrom : ByteArray := prog_7_method_4_code
def yX5_copyFrom : MethodName := ⟨RX5, "copyFrom", "(LSettlementRing$Instruction;)V"⟩
def RX6 : String := "SettlementRing$Link"
def TX6 : u_T := fun k => match k with
  | 0 => ("SettlementRing$Link", "first", "I", false)
  | 1 => ("SettlementRing$Link", "second", "I", false)
  | _ => ("SettlementRing$Link", "isWith", "Z", false)
def tyX6 : Nat → FieldType := fun k => match k with
  | 0 => .int
  | 1 => .int
  | _ => .boolean
abbrev wsX60 : List Cond := u_ws RX6 TX6 3
theorem nmX6 : ∀ a, a < 3 → ∀ b, b < 3 → a ≠ b → (TX6 a).2.1 ≠ (TX6 b).2.1 := by decide +kernel
theorem tyX6_ok : ∀ k, k < 3 → parseFieldDescriptor (TX6 k).2.2.1 = some (tyX6 k) := by decide +kernel
abbrev cX6_init : ByteArray := prog_8_method_1_code
def yX6_init : MethodName := ⟨RX6, "<init>", "()V"⟩
abbrev cX6_names : ByteArray := prog_8_method_2_code
def yX6_names : MethodName := ⟨RX6, "names", "(I)Z"⟩
abbrev cX6_copyFrom : ByteArray := prog_8_method_3_code
def yX6_copyFrom : MethodName := ⟨RX6, "copyFrom", "(LSettlementRing$Link;)V"⟩
def RX7 : String := "SettlementRing$Loan"
def TX7 : u_T := fun k => match k with
  | 0 => ("SettlementRing$Loan", "lender", "I", false)
  | 1 => ("SettlementRing$Loan", "borrower", "I", false)
  | 2 => ("SettlementRing$Loan", "security", "I", false)
  | 3 => ("SettlementRing$Loan", "units", "J", false)
  | 4 => ("SettlementRing$Loan", "pledged", "J", false)
  | 5 => ("SettlementRing$Loan", "isRecalled", "Z", false)
  | _ => ("SettlementRing$Loan", "isBack", "Z", false)
def tyX7 : Nat → FieldType := fun k => match k with
  | 0 => .int
  | 1 => .int
  | 2 => .int
  | 3 => .long
  | 4 => .long
  | 5 => .boolean
  | _ => .boolean
abbrev wsX70 : List Cond := u_ws RX7 TX7 7
theorem nmX7 : ∀ a, a < 7 → ∀ b, b < 7 → a ≠ b → (TX7 a).2.1 ≠ (TX7 b).2.1 := by decide +kernel
theorem tyX7_ok : ∀ k, k < 7 → parseFieldDescriptor (TX7 k).2.2.1 = some (tyX7 k) := by decide +kernel
abbrev cX7_init : ByteArray := prog_9_method_1_code
def yX7_init : MethodName := ⟨RX7, "<init>", "()V"⟩
abbrev cX7_copyFrom : ByteArray := prog_9_method_2_code
def yX7_copyFrom : MethodName := ⟨RX7, "copyFrom", "(LSettlementRing$Loan;)V"⟩
def RX8 : String := "SettlementRing$Mail"
def TX8 : u_T := fun k => match k with
  | _ => ("SettlementRing$Mail", "told", "[I", true)
def tyX8 : Nat → FieldType := fun k => match k with
  | _ => .array .int
abbrev wsX80 : List Cond := u_ws RX8 TX8 1
theorem nmX8 : ∀ a, a < 1 → ∀ b, b < 1 → a ≠ b → (TX8 a).2.1 ≠ (TX8 b).2.1 := by decide +kernel
theorem tyX8_ok : ∀ k, k < 1 → parseFieldDescriptor (TX8 k).2.2.1 = some (tyX8 k) := by decide +kernel
abbrev cX8_init : ByteArray := prog_10_method_1_code
def yX8_init : MethodName := ⟨RX8, "<init>", "()V"⟩
abbrev cX8_tell : ByteArray := prog_10_method_2_code
def yX8_tell : MethodName := ⟨RX8, "tell", "(I)V"⟩
abbrev cX8_toldTo : ByteArray := prog_10_method_3_code
def yX8_toldTo : MethodName := ⟨RX8, "toldTo", "(I)I"⟩
def RX9 : String := "SettlementRing$Security"
def TX9 : u_T := fun k => match k with
  | 0 => ("SettlementRing$Security", "country", "I", false)
  | 1 => ("SettlementRing$Security", "price", "I", false)
  | 2 => ("SettlementRing$Security", "rate", "I", false)
  | _ => ("SettlementRing$Security", "out", "J", false)
def tyX9 : Nat → FieldType := fun k => match k with
  | 0 => .int
  | 1 => .int
  | 2 => .int
  | _ => .long
abbrev wsX90 : List Cond := u_ws RX9 TX9 4
theorem nmX9 : ∀ a, a < 4 → ∀ b, b < 4 → a ≠ b → (TX9 a).2.1 ≠ (TX9 b).2.1 := by decide +kernel
theorem tyX9_ok : ∀ k, k < 4 → parseFieldDescriptor (TX9 k).2.2.1 = some (tyX9 k) := by decide +kernel
abbrev cX9_init : ByteArray := prog_11_method_1_code
def yX9_init : MethodName := ⟨RX9, "<init>", "()V"⟩
abbrev cX9_copyFrom : ByteArray := prog_11_method_2_code
def yX9_copyFrom : MethodName := ⟨RX9, "copyFrom", "(LSettlementRing$Security;)V"⟩
def RX10 : String := "SettlementRing$Trade"
def TX10 : u_T := fun k => match k with
  | 0 => ("SettlementRing$Trade", "number", "I", true)
  | 1 => ("SettlementRing$Trade", "delivery", "I", false)
  | 2 => ("SettlementRing$Trade", "receipt", "I", false)
  | 3 => ("SettlementRing$Trade", "deliverer", "I", false)
  | 4 => ("SettlementRing$Trade", "receiver", "I", false)
  | 5 => ("SettlementRing$Trade", "security", "I", false)
  | 6 => ("SettlementRing$Trade", "units", "J", false)
  | 7 => ("SettlementRing$Trade", "amount", "J", false)
  | 8 => ("SettlementRing$Trade", "least", "J", false)
  | 9 => ("SettlementRing$Trade", "date", "I", false)
  | 10 => ("SettlementRing$Trade", "priority", "I", false)
  | 11 => ("SettlementRing$Trade", "age", "I", false)
  | _ => ("SettlementRing$Trade", "status", "I", false)
def tyX10 : Nat → FieldType := fun k => match k with
  | 0 => .int
  | 1 => .int
  | 2 => .int
  | 3 => .int
  | 4 => .int
  | 5 => .int
  | 6 => .long
  | 7 => .long
  | 8 => .long
  | 9 => .int
  | 10 => .int
  | 11 => .int
  | _ => .int
abbrev wsX100 : List Cond := u_ws RX10 TX10 13
theorem nmX10 : ∀ a, a < 13 → ∀ b, b < 13 → a ≠ b → (TX10 a).2.1 ≠ (TX10 b).2.1 := by decide +kernel
theorem tyX10_ok : ∀ k, k < 13 → parseFieldDescriptor (TX10 k).2.2.1 = some (tyX10 k) := by decide +kernel
abbrev cX10_init : ByteArray := prog_12_method_1_code
def yX10_init : MethodName := ⟨RX10, "<init>", "(I)V"⟩
abbrev cX10_copyFrom : ByteArray := prog_12_method_2_code
def yX10_copyFrom : MethodName := ⟨RX10, "copyFrom", "(LSettlementRing$Trade;)V"⟩
def RX11 : String := "SettlementRing"
def TX11 : u_T := fun k => match k with
  | 0 => ("SettlementRing", "mail", "LSettlementRing$Mail;", true)
  | 1 => ("SettlementRing", "now", "LSettlementRing$Book;", true)
  | 2 => ("SettlementRing", "kept", "LSettlementRing$Book;", true)
  | 3 => ("SettlementRing", "desk", "LSettlementRing$Cycle;", true)
  | 4 => ("SettlementRing", "evening", "LSettlementRing$DayEnd;", true)
  | _ => ("SettlementRing", "isAnyKept", "Z", false)
def tyX11 : Nat → FieldType := fun k => match k with
  | 0 => .object "SettlementRing$Mail"
  | 1 => .object "SettlementRing$Book"
  | 2 => .object "SettlementRing$Book"
  | 3 => .object "SettlementRing$Cycle"
  | 4 => .object "SettlementRing$DayEnd"
  | _ => .boolean
abbrev wsX110 : List Cond := u_ws RX11 TX11 6
theorem nmX11 : ∀ a, a < 6 → ∀ b, b < 6 → a ≠ b → (TX11 a).2.1 ≠ (TX11 b).2.1 := by decide +kernel
theorem tyX11_ok : ∀ k, k < 6 → parseFieldDescriptor (TX11 k).2.2.1 = some (tyX11 k) := by decide +kernel
abbrev cX11_init : ByteArray := prog_1_method_1_code
def yX11_init : MethodName := ⟨RX11, "<init>", "()V"⟩
abbrev cX11_open : ByteArray := prog_1_method_2_code
def yX11_open : MethodName := ⟨RX11, "open", "(IZIII)I"⟩
abbrev cX11_lend : ByteArray := prog_1_method_3_code
def yX11_lend : MethodName := ⟨RX11, "lend", "(I)Z"⟩
abbrev cX11_relieve : ByteArray := prog_1_method_4_code
def yX11_relieve : MethodName := ⟨RX11, "relieve", "(I)Z"⟩
abbrev cX11_treaty : ByteArray := prog_1_method_5_code
def yX11_treaty : MethodName := ⟨RX11, "treaty", "(III)I"⟩
abbrev cX11_issue : ByteArray := prog_1_method_6_code
def yX11_issue : MethodName := ⟨RX11, "issue", "(IIIII)I"⟩
abbrev cX11_setPrice : ByteArray := prog_1_method_7_code
def yX11_setPrice : MethodName := ⟨RX11, "setPrice", "(II)I"⟩
abbrev cX11_block : ByteArray := prog_1_method_8_code
def yX11_block : MethodName := ⟨RX11, "block", "(III)J"⟩
abbrev cX11_bring : ByteArray := prog_1_method_9_code
def yX11_bring : MethodName := ⟨RX11, "bring", "(II)J"⟩
abbrev cX11_instruct : ByteArray := prog_1_method_10_code
def yX11_instruct : MethodName := ⟨RX11, "instruct", "(IIZIIIIII)I"⟩
abbrev cX11_amend : ByteArray := prog_1_method_11_code
def yX11_amend : MethodName := ⟨RX11, "amend", "(II)I"⟩
abbrev cX11_cancel : ByteArray := prog_1_method_12_code
def yX11_cancel : MethodName := ⟨RX11, "cancel", "(I)Z"⟩
abbrev cX11_hold : ByteArray := prog_1_method_13_code
def yX11_hold : MethodName := ⟨RX11, "hold", "(I)Z"⟩
abbrev cX11_link : ByteArray := prog_1_method_14_code
def yX11_link : MethodName := ⟨RX11, "link", "(IIZ)I"⟩
abbrev cX11_cycle : ByteArray := prog_1_method_15_code
def yX11_cycle : MethodName := ⟨RX11, "cycle", "()I"⟩
abbrev cX11_best : ByteArray := prog_1_method_16_code
def yX11_best : MethodName := ⟨RX11, "best", "()J"⟩
abbrev cX11_bestByAll : ByteArray := prog_1_method_17_code
def yX11_bestByAll : MethodName := ⟨RX11, "bestByAll", "()J"⟩
abbrev cX11_endDay : ByteArray := prog_1_method_18_code
def yX11_endDay : MethodName := ⟨RX11, "endDay", "()I"⟩
abbrev cX11_today : ByteArray := prog_1_method_19_code
def yX11_today : MethodName := ⟨RX11, "today", "()I"⟩
abbrev cX11_recall : ByteArray := prog_1_method_20_code
def yX11_recall : MethodName := ⟨RX11, "recall", "(I)J"⟩
abbrev cX11_keep : ByteArray := prog_1_method_21_code
def yX11_keep : MethodName := ⟨RX11, "keep", "()I"⟩
abbrev cX11_goBack : ByteArray := prog_1_method_22_code
def yX11_goBack : MethodName := ⟨RX11, "goBack", "()I"⟩
abbrev cX11_announce : ByteArray := prog_1_method_23_code
def yX11_announce : MethodName := ⟨RX11, "announce", "(IIIIIII)I"⟩
abbrev cX11_elect : ByteArray := prog_1_method_24_code
def yX11_elect : MethodName := ⟨RX11, "elect", "(III)J"⟩
abbrev cX11_entitled : ByteArray := prog_1_method_25_code
def yX11_entitled : MethodName := ⟨RX11, "entitled", "(II)J"⟩
abbrev cX11_entitledAnew : ByteArray := prog_1_method_26_code
def yX11_entitledAnew : MethodName := ⟨RX11, "entitledAnew", "(II)J"⟩
abbrev cX11_isPaid : ByteArray := prog_1_method_27_code
def yX11_isPaid : MethodName := ⟨RX11, "isPaid", "(I)Z"⟩
abbrev cX11_units : ByteArray := prog_1_method_28_code
def yX11_units : MethodName := ⟨RX11, "units", "(II)J"⟩
abbrev cX11_free : ByteArray := prog_1_method_29_code
def yX11_free : MethodName := ⟨RX11, "free", "(II)J"⟩
abbrev cX11_out : ByteArray := prog_1_method_30_code
def yX11_out : MethodName := ⟨RX11, "out", "(I)J"⟩
abbrev cX11_cash : ByteArray := prog_1_method_31_code
def yX11_cash : MethodName := ⟨RX11, "cash", "(I)J"⟩
abbrev cX11_pledged : ByteArray := prog_1_method_32_code
def yX11_pledged : MethodName := ⟨RX11, "pledged", "(I)J"⟩
abbrev cX11_limit : ByteArray := prog_1_method_33_code
def yX11_limit : MethodName := ⟨RX11, "limit", "(I)J"⟩
abbrev cX11_isSound : ByteArray := prog_1_method_34_code
def yX11_isSound : MethodName := ⟨RX11, "isSound", "(I)Z"⟩
abbrev cX11_used : ByteArray := prog_1_method_35_code
def yX11_used : MethodName := ⟨RX11, "used", "(I)D"⟩
abbrev cX11_ledger : ByteArray := prog_1_method_36_code
def yX11_ledger : MethodName := ⟨RX11, "ledger", "(I)J"⟩
abbrev cX11_messages : ByteArray := prog_1_method_37_code
def yX11_messages : MethodName := ⟨RX11, "messages", "(I)I"⟩
abbrev cX11_alleged : ByteArray := prog_1_method_38_code
def yX11_alleged : MethodName := ⟨RX11, "alleged", "(I)I"⟩
abbrev cX11_status : ByteArray := prog_1_method_39_code
def yX11_status : MethodName := ⟨RX11, "status", "(I)I"⟩
abbrev cX11_tradeOf : ByteArray := prog_1_method_40_code
def yX11_tradeOf : MethodName := ⟨RX11, "tradeOf", "(I)I"⟩
abbrev cX11_tradeUnits : ByteArray := prog_1_method_41_code
def yX11_tradeUnits : MethodName := ⟨RX11, "tradeUnits", "(I)J"⟩
abbrev cX11_tradeAmount : ByteArray := prog_1_method_42_code
def yX11_tradeAmount : MethodName := ⟨RX11, "tradeAmount", "(I)J"⟩
abbrev cX11_age : ByteArray := prog_1_method_43_code
def yX11_age : MethodName := ⟨RX11, "age", "(I)I"⟩
abbrev cX11_causer : ByteArray := prog_1_method_44_code
def yX11_causer : MethodName := ⟨RX11, "causer", "(I)I"⟩
abbrev cX11_loans : ByteArray := prog_1_method_45_code
def yX11_loans : MethodName := ⟨RX11, "loans", "()I"⟩
abbrev cX11_loan : ByteArray := prog_1_method_46_code
def yX11_loan : MethodName := ⟨RX11, "loan", "(I)J"⟩
abbrev cX11_needAccount : ByteArray := prog_1_method_47_code
def yX11_needAccount : MethodName := ⟨RX11, "needAccount", "(I)V"⟩
abbrev cX11_needSecurity : ByteArray := prog_1_method_48_code
def yX11_needSecurity : MethodName := ⟨RX11, "needSecurity", "(I)V"⟩
abbrev cX11_needInstruction : ByteArray := prog_1_method_49_code
def yX11_needInstruction : MethodName := ⟨RX11, "needInstruction", "(I)V"⟩
abbrev cX11_needTrade : ByteArray := prog_1_method_50_code
def yX11_needTrade : MethodName := ⟨RX11, "needTrade", "(I)V"⟩
abbrev cX11_needLoan : ByteArray := prog_1_method_51_code
def yX11_needLoan : MethodName := ⟨RX11, "needLoan", "(I)V"⟩
abbrev cX11_needEvent : ByteArray := prog_1_method_52_code
def yX11_needEvent : MethodName := ⟨RX11, "needEvent", "(I)V"⟩
abbrev cX11_needIndex : ByteArray := prog_1_method_53_code
def yX11_needIndex : MethodName := ⟨RX11, "needIndex", "(II)V"⟩
abbrev cX11_needRange : ByteArray := prog_1_method_54_code
def yX11_needRange : MethodName := ⟨RX11, "needRange", "(III)V"⟩
abbrev cX11_needArgument : ByteArray := prog_1_method_55_code
def yX11_needArgument : MethodName := ⟨RX11, "needArgument", "(Z)V"⟩
abbrev cX11_needState : ByteArray := prog_1_method_56_code
def yX11_needState : MethodName := ⟨RX11, "needState", "(Z)V"⟩
abbrev cX11_copyAll : ByteArray := prog_1_method_57_code
def yX11_copyAll : MethodName := ⟨RX11, "copyAll", "([J[J)V"⟩
abbrev cX11_sumOf : ByteArray := prog_1_method_58_code
def yX11_sumOf : MethodName := ⟨RX11, "sumOf", "([J)J"⟩
def RX12 : String := "SettlementRingModel"
def TX12 : u_T := fun k => match k with
  | 0 => ("SettlementRingModel", "w", "[J", true)
  | 1 => ("SettlementRingModel", "kept", "[J", true)
  | 2 => ("SettlementRingModel", "isKept", "Z", false)
  | 3 => ("SettlementRingModel", "told", "[I", true)
  | 4 => ("SettlementRingModel", "cand", "[I", true)
  | 5 => ("SettlementRingModel", "cands", "I", false)
  | 6 => ("SettlementRingModel", "gone", "[I", true)
  | _ => ("SettlementRingModel", "thrown", "I", false)
def tyX12 : Nat → FieldType := fun k => match k with
  | 0 => .array .long
  | 1 => .array .long
  | 2 => .boolean
  | 3 => .array .int
  | 4 => .array .int
  | 5 => .int
  | 6 => .array .int
  | _ => .int
abbrev wsX120 : List Cond := u_ws RX12 TX12 8
theorem nmX12 : ∀ a, a < 8 → ∀ b, b < 8 → a ≠ b → (TX12 a).2.1 ≠ (TX12 b).2.1 := by decide +kernel
theorem tyX12_ok : ∀ k, k < 8 → parseFieldDescriptor (TX12 k).2.2.1 = some (tyX12 k) := by decide +kernel
abbrev cX12_init : ByteArray := prog_14_method_1_code
def yX12_init : MethodName := ⟨RX12, "<init>", "()V"⟩
abbrev cX12_thrown : ByteArray := prog_14_method_2_code
def yX12_thrown : MethodName := ⟨RX12, "thrown", "()I"⟩
abbrev cX12_holds : ByteArray := prog_14_method_3_code
def yX12_holds : MethodName := ⟨RX12, "holds", "(I)Z"⟩
abbrev cX12_in : ByteArray := prog_14_method_4_code
def yX12_in : MethodName := ⟨RX12, "in", "(JJJ)Z"⟩
abbrev cX12_isAccount : ByteArray := prog_14_method_5_code
def yX12_isAccount : MethodName := ⟨RX12, "isAccount", "(I)Z"⟩
abbrev cX12_isSecurity : ByteArray := prog_14_method_6_code
def yX12_isSecurity : MethodName := ⟨RX12, "isSecurity", "(I)Z"⟩
abbrev cX12_isInstruction : ByteArray := prog_14_method_7_code
def yX12_isInstruction : MethodName := ⟨RX12, "isInstruction", "(I)Z"⟩
abbrev cX12_isTrade : ByteArray := prog_14_method_8_code
def yX12_isTrade : MethodName := ⟨RX12, "isTrade", "(I)Z"⟩
abbrev cX12_isEvent : ByteArray := prog_14_method_9_code
def yX12_isEvent : MethodName := ⟨RX12, "isEvent", "(I)Z"⟩
abbrev cX12_isLoan : ByteArray := prog_14_method_10_code
def yX12_isLoan : MethodName := ⟨RX12, "isLoan", "(I)Z"⟩
abbrev cX12_freeOf : ByteArray := prog_14_method_11_code
def yX12_freeOf : MethodName := ⟨RX12, "freeOf", "(II)J"⟩
abbrev cX12_freeCash : ByteArray := prog_14_method_12_code
def yX12_freeCash : MethodName := ⟨RX12, "freeCash", "(I)J"⟩
abbrev cX12_half : ByteArray := prog_14_method_13_code
def yX12_half : MethodName := ⟨RX12, "half", "(J)J"⟩
abbrev cX12_limitOf : ByteArray := prog_14_method_14_code
def yX12_limitOf : MethodName := ⟨RX12, "limitOf", "(I)J"⟩
abbrev cX12_sound : ByteArray := prog_14_method_15_code
def yX12_sound : MethodName := ⟨RX12, "sound", "(I)Z"⟩
abbrev cX12_open : ByteArray := prog_14_method_16_code
def yX12_open : MethodName := ⟨RX12, "open", "(IZIII)I"⟩
abbrev cX12_flips : ByteArray := prog_14_method_17_code
def yX12_flips : MethodName := ⟨RX12, "flips", "(IZ)Z"⟩
abbrev cX12_lend : ByteArray := prog_14_method_18_code
def yX12_lend : MethodName := ⟨RX12, "lend", "(I)Z"⟩
abbrev cX12_relieve : ByteArray := prog_14_method_19_code
def yX12_relieve : MethodName := ⟨RX12, "relieve", "(I)Z"⟩
abbrev cX12_treaty : ByteArray := prog_14_method_20_code
def yX12_treaty : MethodName := ⟨RX12, "treaty", "(III)I"⟩
abbrev cX12_issue : ByteArray := prog_14_method_21_code
def yX12_issue : MethodName := ⟨RX12, "issue", "(IIIII)I"⟩
abbrev cX12_setPrice : ByteArray := prog_14_method_22_code
def yX12_setPrice : MethodName := ⟨RX12, "setPrice", "(II)I"⟩
abbrev cX12_block : ByteArray := prog_14_method_23_code
def yX12_block : MethodName := ⟨RX12, "block", "(III)J"⟩
abbrev cX12_bring : ByteArray := prog_14_method_24_code
def yX12_bring : MethodName := ⟨RX12, "bring", "(II)J"⟩
abbrev cX12_mate : ByteArray := prog_14_method_25_code
def yX12_mate : MethodName := ⟨RX12, "mate", "(I)I"⟩
abbrev cX12_matched : ByteArray := prog_14_method_26_code
def yX12_matched : MethodName := ⟨RX12, "matched", "(II)I"⟩
abbrev cX12_deliverer : ByteArray := prog_14_method_27_code
def yX12_deliverer : MethodName := ⟨RX12, "deliverer", "(I)I"⟩
abbrev cX12_receiver : ByteArray := prog_14_method_28_code
def yX12_receiver : MethodName := ⟨RX12, "receiver", "(I)I"⟩
abbrev cX12_paper : ByteArray := prog_14_method_29_code
def yX12_paper : MethodName := ⟨RX12, "paper", "(I)I"⟩
abbrev cX12_tell : ByteArray := prog_14_method_30_code
def yX12_tell : MethodName := ⟨RX12, "tell", "(I)V"⟩
abbrev cX12_worth : ByteArray := prog_14_method_31_code
def yX12_worth : MethodName := ⟨RX12, "worth", "(I)J"⟩
abbrev cX12_instruct : ByteArray := prog_14_method_32_code
def yX12_instruct : MethodName := ⟨RX12, "instruct", "(IIZIIIIII)I"⟩
abbrev cX12_amend : ByteArray := prog_14_method_33_code
def yX12_amend : MethodName := ⟨RX12, "amend", "(II)I"⟩
abbrev cX12_over : ByteArray := prog_14_method_34_code
def yX12_over : MethodName := ⟨RX12, "over", "(II)V"⟩
abbrev cX12_cancel : ByteArray := prog_14_method_35_code
def yX12_cancel : MethodName := ⟨RX12, "cancel", "(I)Z"⟩
abbrev cX12_hold : ByteArray := prog_14_method_36_code
def yX12_hold : MethodName := ⟨RX12, "hold", "(I)Z"⟩
abbrev cX12_link : ByteArray := prog_14_method_37_code
def yX12_link : MethodName := ⟨RX12, "link", "(IIZ)I"⟩
abbrev cX12_due : ByteArray := prog_14_method_38_code
def yX12_due : MethodName := ⟨RX12, "due", "(I)Z"⟩
abbrev cX12_heldUp : ByteArray := prog_14_method_39_code
def yX12_heldUp : MethodName := ⟨RX12, "heldUp", "(I)Z"⟩
abbrev cX12_linked : ByteArray := prog_14_method_40_code
def yX12_linked : MethodName := ⟨RX12, "linked", "(I)Z"⟩
abbrev cX12_candidates : ByteArray := prog_14_method_41_code
def yX12_candidates : MethodName := ⟨RX12, "candidates", "()V"⟩
abbrev cX12_move : ByteArray := prog_14_method_42_code
def yX12_move : MethodName := ⟨RX12, "move", "(IJJ)V"⟩
abbrev cX12_has : ByteArray := prog_14_method_43_code
def yX12_has : MethodName := ⟨RX12, "has", "(II)Z"⟩
abbrev cX12_inSet : ByteArray := prog_14_method_44_code
def yX12_inSet : MethodName := ⟨RX12, "inSet", "(II)Z"⟩
abbrev cX12_keepsLinks : ByteArray := prog_14_method_45_code
def yX12_keepsLinks : MethodName := ⟨RX12, "keepsLinks", "(I)Z"⟩
abbrev cX12_moveAll : ByteArray := prog_14_method_46_code
def yX12_moveAll : MethodName := ⟨RX12, "moveAll", "(II)V"⟩
abbrev cX12_can : ByteArray := prog_14_method_47_code
def yX12_can : MethodName := ⟨RX12, "can", "(I)Z"⟩
abbrev cX12_worthOf : ByteArray := prog_14_method_48_code
def yX12_worthOf : MethodName := ⟨RX12, "worthOf", "(I)J"⟩
abbrev cX12_count : ByteArray := prog_14_method_49_code
def yX12_count : MethodName := ⟨RX12, "count", "(I)I"⟩
abbrev cX12_first : ByteArray := prog_14_method_50_code
def yX12_first : MethodName := ⟨RX12, "first", "(II)Z"⟩
abbrev cX12_bestSet : ByteArray := prog_14_method_51_code
def yX12_bestSet : MethodName := ⟨RX12, "bestSet", "()I"⟩
abbrev cX12_giveBack : ByteArray := prog_14_method_52_code
def yX12_giveBack : MethodName := ⟨RX12, "giveBack", "()V"⟩
abbrev cX12_borrows : ByteArray := prog_14_method_53_code
def yX12_borrows : MethodName := ⟨RX12, "borrows", "(I)Z"⟩
abbrev cX12_lends : ByteArray := prog_14_method_54_code
def yX12_lends : MethodName := ⟨RX12, "lends", "(IIIIJ)V"⟩
abbrev cX12_part : ByteArray := prog_14_method_55_code
def yX12_part : MethodName := ⟨RX12, "part", "(I)V"⟩
abbrev cX12_cycle : ByteArray := prog_14_method_56_code
def yX12_cycle : MethodName := ⟨RX12, "cycle", "()I"⟩
abbrev cX12_best : ByteArray := prog_14_method_57_code
def yX12_best : MethodName := ⟨RX12, "best", "()J"⟩
abbrev cX12_bestByAll : ByteArray := prog_14_method_58_code
def yX12_bestByAll : MethodName := ⟨RX12, "bestByAll", "()J"⟩
abbrev cX12_shortOf : ByteArray := prog_14_method_59_code
def yX12_shortOf : MethodName := ⟨RX12, "shortOf", "(I)Z"⟩
abbrev cX12_held : ByteArray := prog_14_method_60_code
def yX12_held : MethodName := ⟨RX12, "held", "(I)Z"⟩
abbrev cX12_chained : ByteArray := prog_14_method_61_code
def yX12_chained : MethodName := ⟨RX12, "chained", "(II)I"⟩
abbrev cX12_causerOf : ByteArray := prog_14_method_62_code
def yX12_causerOf : MethodName := ⟨RX12, "causerOf", "(I)I"⟩
abbrev cX12_owes : ByteArray := prog_14_method_63_code
def yX12_owes : MethodName := ⟨RX12, "owes", "(IIJ)I"⟩
abbrev cX12_fines : ByteArray := prog_14_method_64_code
def yX12_fines : MethodName := ⟨RX12, "fines", "(IIJI)I"⟩
abbrev cX12_fineOf : ByteArray := prog_14_method_65_code
def yX12_fineOf : MethodName := ⟨RX12, "fineOf", "(I)I"⟩
abbrev cX12_note : ByteArray := prog_14_method_66_code
def yX12_note : MethodName := ⟨RX12, "note", "(I)V"⟩
abbrev cX12_credit : ByteArray := prog_14_method_67_code
def yX12_credit : MethodName := ⟨RX12, "credit", "(IIJ)V"⟩
abbrev cX12_dividend : ByteArray := prog_14_method_68_code
def yX12_dividend : MethodName := ⟨RX12, "dividend", "(I)V"⟩
abbrev cX12_option : ByteArray := prog_14_method_69_code
def yX12_option : MethodName := ⟨RX12, "option", "(I)V"⟩
abbrev cX12_split : ByteArray := prog_14_method_70_code
def yX12_split : MethodName := ⟨RX12, "split", "(I)V"⟩
abbrev cX12_pay : ByteArray := prog_14_method_71_code
def yX12_pay : MethodName := ⟨RX12, "pay", "(I)V"⟩
abbrev cX12_endDay : ByteArray := prog_14_method_72_code
def yX12_endDay : MethodName := ⟨RX12, "endDay", "()I"⟩
abbrev cX12_today : ByteArray := prog_14_method_73_code
def yX12_today : MethodName := ⟨RX12, "today", "()I"⟩
abbrev cX12_recall : ByteArray := prog_14_method_74_code
def yX12_recall : MethodName := ⟨RX12, "recall", "(I)J"⟩
abbrev cX12_keep : ByteArray := prog_14_method_75_code
def yX12_keep : MethodName := ⟨RX12, "keep", "()I"⟩
abbrev cX12_goBack : ByteArray := prog_14_method_76_code
def yX12_goBack : MethodName := ⟨RX12, "goBack", "()I"⟩
abbrev cX12_announce : ByteArray := prog_14_method_77_code
def yX12_announce : MethodName := ⟨RX12, "announce", "(IIIIIII)I"⟩
abbrev cX12_elect : ByteArray := prog_14_method_78_code
def yX12_elect : MethodName := ⟨RX12, "elect", "(III)J"⟩
abbrev cX12_entitled : ByteArray := prog_14_method_79_code
def yX12_entitled : MethodName := ⟨RX12, "entitled", "(II)J"⟩
abbrev cX12_entitledAnew : ByteArray := prog_14_method_80_code
def yX12_entitledAnew : MethodName := ⟨RX12, "entitledAnew", "(II)J"⟩
abbrev cX12_isPaid : ByteArray := prog_14_method_81_code
def yX12_isPaid : MethodName := ⟨RX12, "isPaid", "(I)Z"⟩
abbrev cX12_isPair : ByteArray := prog_14_method_82_code
def yX12_isPair : MethodName := ⟨RX12, "isPair", "(II)Z"⟩
abbrev cX12_units : ByteArray := prog_14_method_83_code
def yX12_units : MethodName := ⟨RX12, "units", "(II)J"⟩
abbrev cX12_free : ByteArray := prog_14_method_84_code
def yX12_free : MethodName := ⟨RX12, "free", "(II)J"⟩
abbrev cX12_out : ByteArray := prog_14_method_85_code
def yX12_out : MethodName := ⟨RX12, "out", "(I)J"⟩
abbrev cX12_cash : ByteArray := prog_14_method_86_code
def yX12_cash : MethodName := ⟨RX12, "cash", "(I)J"⟩
abbrev cX12_pledged : ByteArray := prog_14_method_87_code
def yX12_pledged : MethodName := ⟨RX12, "pledged", "(I)J"⟩
abbrev cX12_limit : ByteArray := prog_14_method_88_code
def yX12_limit : MethodName := ⟨RX12, "limit", "(I)J"⟩
abbrev cX12_isSound : ByteArray := prog_14_method_89_code
def yX12_isSound : MethodName := ⟨RX12, "isSound", "(I)Z"⟩
abbrev cX12_used : ByteArray := prog_14_method_90_code
def yX12_used : MethodName := ⟨RX12, "used", "(I)D"⟩
abbrev cX12_ledger : ByteArray := prog_14_method_91_code
def yX12_ledger : MethodName := ⟨RX12, "ledger", "(I)J"⟩
abbrev cX12_messages : ByteArray := prog_14_method_92_code
def yX12_messages : MethodName := ⟨RX12, "messages", "(I)I"⟩
abbrev cX12_alleged : ByteArray := prog_14_method_93_code
def yX12_alleged : MethodName := ⟨RX12, "alleged", "(I)I"⟩
abbrev cX12_status : ByteArray := prog_14_method_94_code
def yX12_status : MethodName := ⟨RX12, "status", "(I)I"⟩
abbrev cX12_tradeOf : ByteArray := prog_14_method_95_code
def yX12_tradeOf : MethodName := ⟨RX12, "tradeOf", "(I)I"⟩
abbrev cX12_tradeUnits : ByteArray := prog_14_method_96_code
def yX12_tradeUnits : MethodName := ⟨RX12, "tradeUnits", "(I)J"⟩
abbrev cX12_tradeAmount : ByteArray := prog_14_method_97_code
def yX12_tradeAmount : MethodName := ⟨RX12, "tradeAmount", "(I)J"⟩
abbrev cX12_age : ByteArray := prog_14_method_98_code
def yX12_age : MethodName := ⟨RX12, "age", "(I)I"⟩
abbrev cX12_causer : ByteArray := prog_14_method_99_code
def yX12_causer : MethodName := ⟨RX12, "causer", "(I)I"⟩
abbrev cX12_loans : ByteArray := prog_14_method_100_code
def yX12_loans : MethodName := ⟨RX12, "loans", "()I"⟩
abbrev cX12_loan : ByteArray := prog_14_method_101_code
def yX12_loan : MethodName := ⟨RX12, "loan", "(I)J"⟩
def RJ9 : String := "java/lang/Math"
def TJ9 : u_T := fun k => match k with
  | _ => ("", "", "", false)
def tyJ9 : Nat → FieldType := fun k => match k with
  | _ => .int
abbrev wsJ90 : List Cond := u_ws RJ9 TJ9 0
theorem nmJ9 : ∀ a, a < 0 → ∀ b, b < 0 → a ≠ b → (TJ9 a).2.1 ≠ (TJ9 b).2.1 := by decide +kernel
theorem tyJ9_ok : ∀ k, k < 0 → parseFieldDescriptor (TJ9 k).2.2.1 = some (tyJ9 k) := by decide +kernel
abbrev cJ9_abs_0f7a4 : ByteArray := prog_19_method_59_code
def yJ9_abs_0f7a4 : MethodName := ⟨RJ9, "abs", "(I)I"⟩
abbrev cJ9_max_7cf53 : ByteArray := prog_19_method_65_code
def yJ9_max_7cf53 : MethodName := ⟨RJ9, "max", "(II)I"⟩
abbrev cJ9_max_f86c9 : ByteArray := prog_19_method_66_code
def yJ9_max_f86c9 : MethodName := ⟨RJ9, "max", "(JJ)J"⟩
abbrev cJ9_min_7cf53 : ByteArray := prog_19_method_69_code
def yJ9_min_7cf53 : MethodName := ⟨RJ9, "min", "(II)I"⟩
abbrev cJ9_min_f86c9 : ByteArray := prog_19_method_70_code
def yJ9_min_f86c9 : MethodName := ⟨RJ9, "min", "(JJ)J"⟩
def RJ0 : String := "java/lang/String"
def TJ0 : u_T := fun k => match k with
  | _ => ("", "", "", false)
def tyJ0 : Nat → FieldType := fun k => match k with
  | _ => .int
abbrev wsJ00 : List Cond := u_ws RJ0 TJ0 0
theorem nmJ0 : ∀ a, a < 0 → ∀ b, b < 0 → a ≠ b → (TJ0 a).2.1 ≠ (TJ0 b).2.1 := by decide +kernel
theorem tyJ0_ok : ∀ k, k < 0 → parseFieldDescriptor (TJ0 k).2.2.1 = some (tyJ0 k) := by decide +kernel
def RJ10 : String := "java/lang/System"
def TJ10 : u_T := fun k => match k with
  | _ => ("", "", "", false)
def tyJ10 : Nat → FieldType := fun k => match k with
  | _ => .int
abbrev wsJ100 : List Cond := u_ws RJ10 TJ10 0
theorem nmJ10 : ∀ a, a < 0 → ∀ b, b < 0 → a ≠ b → (TJ10 a).2.1 ≠ (TJ10 b).2.1 := by decide +kernel
theorem tyJ10_ok : ∀ k, k < 0 → parseFieldDescriptor (TJ10 k).2.2.1 = some (tyJ10 k) := by decide +kernel
def RL : String := "SettlementRingLaw"
abbrev cL_open : ByteArray := method_3_code
def yL_open : MethodName := ⟨RL, "open", "(LSettlementRing;IZIII[J)I"⟩
abbrev cL_lend : ByteArray := method_4_code
def yL_lend : MethodName := ⟨RL, "lend", "(LSettlementRing;I[J)I"⟩
abbrev cL_relieve : ByteArray := method_5_code
def yL_relieve : MethodName := ⟨RL, "relieve", "(LSettlementRing;I[J)I"⟩
abbrev cL_treaty : ByteArray := method_6_code
def yL_treaty : MethodName := ⟨RL, "treaty", "(LSettlementRing;III[J)I"⟩
abbrev cL_issue : ByteArray := method_7_code
def yL_issue : MethodName := ⟨RL, "issue", "(LSettlementRing;IIIII[J)I"⟩
abbrev cL_setPrice : ByteArray := method_8_code
def yL_setPrice : MethodName := ⟨RL, "setPrice", "(LSettlementRing;II[J)I"⟩
abbrev cL_block : ByteArray := method_9_code
def yL_block : MethodName := ⟨RL, "block", "(LSettlementRing;III[J)I"⟩
abbrev cL_bring : ByteArray := method_10_code
def yL_bring : MethodName := ⟨RL, "bring", "(LSettlementRing;II[J)I"⟩
abbrev cL_instruct : ByteArray := method_11_code
def yL_instruct : MethodName := ⟨RL, "instruct", "(LSettlementRing;IIZIIIIII[J)I"⟩
abbrev cL_amend : ByteArray := method_12_code
def yL_amend : MethodName := ⟨RL, "amend", "(LSettlementRing;II[J)I"⟩
abbrev cL_cancel : ByteArray := method_13_code
def yL_cancel : MethodName := ⟨RL, "cancel", "(LSettlementRing;I[J)I"⟩
abbrev cL_hold : ByteArray := method_14_code
def yL_hold : MethodName := ⟨RL, "hold", "(LSettlementRing;I[J)I"⟩
abbrev cL_link : ByteArray := method_15_code
def yL_link : MethodName := ⟨RL, "link", "(LSettlementRing;IIZ[J)I"⟩
abbrev cL_endDay : ByteArray := method_16_code
def yL_endDay : MethodName := ⟨RL, "endDay", "(LSettlementRing;[J)I"⟩
abbrev cL_recall : ByteArray := method_17_code
def yL_recall : MethodName := ⟨RL, "recall", "(LSettlementRing;I[J)I"⟩
abbrev cL_goBack : ByteArray := method_18_code
def yL_goBack : MethodName := ⟨RL, "goBack", "(LSettlementRing;[J)I"⟩
abbrev cL_announce : ByteArray := method_19_code
def yL_announce : MethodName := ⟨RL, "announce", "(LSettlementRing;IIIIIII[J)I"⟩
abbrev cL_elect : ByteArray := method_20_code
def yL_elect : MethodName := ⟨RL, "elect", "(LSettlementRing;III[J)I"⟩
abbrev cL_entitled : ByteArray := method_21_code
def yL_entitled : MethodName := ⟨RL, "entitled", "(LSettlementRing;II[J)I"⟩
abbrev cL_entitledAnew : ByteArray := method_22_code
def yL_entitledAnew : MethodName := ⟨RL, "entitledAnew", "(LSettlementRing;II[J)I"⟩
abbrev cL_isPaid : ByteArray := method_23_code
def yL_isPaid : MethodName := ⟨RL, "isPaid", "(LSettlementRing;I[J)I"⟩
abbrev cL_units : ByteArray := method_24_code
def yL_units : MethodName := ⟨RL, "units", "(LSettlementRing;II[J)I"⟩
abbrev cL_free : ByteArray := method_25_code
def yL_free : MethodName := ⟨RL, "free", "(LSettlementRing;II[J)I"⟩
abbrev cL_out : ByteArray := method_26_code
def yL_out : MethodName := ⟨RL, "out", "(LSettlementRing;I[J)I"⟩
abbrev cL_cash : ByteArray := method_27_code
def yL_cash : MethodName := ⟨RL, "cash", "(LSettlementRing;I[J)I"⟩
abbrev cL_pledged : ByteArray := method_28_code
def yL_pledged : MethodName := ⟨RL, "pledged", "(LSettlementRing;I[J)I"⟩
abbrev cL_limit : ByteArray := method_29_code
def yL_limit : MethodName := ⟨RL, "limit", "(LSettlementRing;I[J)I"⟩
abbrev cL_isSound : ByteArray := method_30_code
def yL_isSound : MethodName := ⟨RL, "isSound", "(LSettlementRing;I[J)I"⟩
abbrev cL_used : ByteArray := method_31_code
def yL_used : MethodName := ⟨RL, "used", "(LSettlementRing;I[D)I"⟩
abbrev cL_ledger : ByteArray := method_32_code
def yL_ledger : MethodName := ⟨RL, "ledger", "(LSettlementRing;I[J)I"⟩
abbrev cL_messages : ByteArray := method_33_code
def yL_messages : MethodName := ⟨RL, "messages", "(LSettlementRing;I[J)I"⟩
abbrev cL_alleged : ByteArray := method_34_code
def yL_alleged : MethodName := ⟨RL, "alleged", "(LSettlementRing;I[J)I"⟩
abbrev cL_status : ByteArray := method_35_code
def yL_status : MethodName := ⟨RL, "status", "(LSettlementRing;I[J)I"⟩
abbrev cL_tradeOf : ByteArray := method_36_code
def yL_tradeOf : MethodName := ⟨RL, "tradeOf", "(LSettlementRing;I[J)I"⟩
abbrev cL_tradeUnits : ByteArray := method_37_code
def yL_tradeUnits : MethodName := ⟨RL, "tradeUnits", "(LSettlementRing;I[J)I"⟩
abbrev cL_tradeAmount : ByteArray := method_38_code
def yL_tradeAmount : MethodName := ⟨RL, "tradeAmount", "(LSettlementRing;I[J)I"⟩
abbrev cL_age : ByteArray := method_39_code
def yL_age : MethodName := ⟨RL, "age", "(LSettlementRing;I[J)I"⟩
abbrev cL_causer : ByteArray := method_40_code
def yL_causer : MethodName := ⟨RL, "causer", "(LSettlementRing;I[J)I"⟩
abbrev cL_loan : ByteArray := method_41_code
def yL_loan : MethodName := ⟨RL, "loan", "(LSettlementRing;I[J)I"⟩
abbrev cL_law : ByteArray := code
def yL_law : MethodName := ⟨RL, "law", "([I)Z"⟩
def wsL_law0_r1 : List Cond := [Cond.classLink RL 8 RX11, Cond.instantiable RX11 6, Cond.initialized RX11, Cond.classLink RL 147 RX12, Cond.instantiable RX12 8, Cond.initialized RX12, Cond.arrayClass .long, Cond.arrayClass .double, Cond.methodLink RL 146 yX11_init, Cond.instanceMethod yX11_init, Cond.code yX11_init cX11_init 1 none, Cond.methodLink RX11 1 objectInit, Cond.instanceMethod objectInit, Cond.code objectInit ⟨#[0xb1]⟩ 1 none, Cond.classLink RX11 7 RX8, Cond.instantiable RX8 1, Cond.initialized RX8, Cond.fieldLink RX11 10 "SettlementRing" "mail" "LSettlementRing$Mail;", Cond.classLink RX11 16 RX1, Cond.instantiable RX1 18, Cond.initialized RX1, Cond.fieldLink RX11 21 "SettlementRing" "now" "LSettlementRing$Book;", Cond.fieldLink RX11 25 "SettlementRing" "kept" "LSettlementRing$Book;", Cond.classLink RX11 28 RX2]
def wsL_law0_r2 : List Cond := [Cond.instantiable RX2 11, Cond.initialized RX2, Cond.fieldLink RX11 33 "SettlementRing" "desk" "LSettlementRing$Cycle;", Cond.classLink RX11 37 RX3, Cond.instantiable RX3 1, Cond.initialized RX3, Cond.fieldLink RX11 40 "SettlementRing" "evening" "LSettlementRing$DayEnd;", Cond.fieldLink RX11 44 "SettlementRing" "isAnyKept" "Z", Cond.instanceMethod yX8_init, Cond.code yX8_init cX8_init 1 none, Cond.methodLink RX8 3 objectInit, Cond.arrayClass .int, Cond.fieldLink RX8 9 "SettlementRing$Mail" "told" "[I", Cond.methodLink RX11 18 yX1_init, Cond.instanceMethod yX1_init, Cond.code yX1_init cX1_init 3 none, Cond.methodLink RX1 3 objectInit, Cond.classLink RX1 9 RX0, Cond.fieldLink RX1 11 "SettlementRing$Book" "accounts" "[LSettlementRing$Account;", Cond.classLink RX1 17 RX9, Cond.fieldLink RX1 19 "SettlementRing$Book" "securities" "[LSettlementRing$Security;", Cond.classLink RX1 23 RX5, Cond.fieldLink RX1 25 "SettlementRing$Book" "instructions" "[LSettlementRing$Instruction;", Cond.classLink RX1 29 RX10]
def wsL_law0_r3 : List Cond := [Cond.fieldLink RX1 31 "SettlementRing$Book" "trades" "[LSettlementRing$Trade;", Cond.classLink RX1 35 RX6, Cond.fieldLink RX1 37 "SettlementRing$Book" "links" "[LSettlementRing$Link;", Cond.classLink RX1 41 RX7, Cond.fieldLink RX1 43 "SettlementRing$Book" "loans" "[LSettlementRing$Loan;", Cond.classLink RX1 47 RX4, Cond.fieldLink RX1 49 "SettlementRing$Book" "events" "[LSettlementRing$Event;", Cond.fieldLink RX1 53 "SettlementRing$Book" "treaties" "[J", Cond.fieldLink RX1 57 "SettlementRing$Book" "mail" "LSettlementRing$Mail;", Cond.instantiable RX0 12, Cond.initialized RX0, Cond.instantiable RX9 4, Cond.initialized RX9, Cond.instantiable RX5 13, Cond.initialized RX5, Cond.instantiable RX10 13, Cond.initialized RX10, Cond.instantiable RX6 3, Cond.initialized RX6, Cond.instantiable RX7 7, Cond.initialized RX7, Cond.instantiable RX4 13, Cond.initialized RX4, Cond.constantLong RX1 70 (15)]
def wsL_law0_r4 : List Cond := [Cond.instanceMethod yX0_init, Cond.code yX0_init cX0_init 1 none, Cond.methodLink RX0 3 objectInit, Cond.fieldLink RX0 9 "SettlementRing$Account" "custodian" "I", Cond.fieldLink RX0 15 "SettlementRing$Account" "held" "[J", Cond.fieldLink RX0 19 "SettlementRing$Account" "blocked" "[J", Cond.fieldLink RX0 22 "SettlementRing$Account" "moved" "[J", Cond.instanceMethod yX9_init, Cond.code yX9_init cX9_init 1 none, Cond.methodLink RX9 1 objectInit, Cond.instanceMethod yX5_init, Cond.code yX5_init cX5_init 1 none, Cond.methodLink RX5 3 objectInit, Cond.fieldLink RX5 9 "SettlementRing$Instruction" "status" "I", Cond.fieldLink RX5 15 "SettlementRing$Instruction" "trade" "I", Cond.methodLink RX1 64 yX10_init, Cond.instanceMethod yX10_init, Cond.code yX10_init cX10_init 2 none, Cond.methodLink RX10 3 objectInit, Cond.fieldLink RX10 9 "SettlementRing$Trade" "status" "I", Cond.fieldLink RX10 15 "SettlementRing$Trade" "number" "I", Cond.instanceMethod yX6_init, Cond.code yX6_init cX6_init 1 none, Cond.methodLink RX6 1 objectInit]
def wsL_law0_r5 : List Cond := [Cond.instanceMethod yX7_init, Cond.code yX7_init cX7_init 1 none, Cond.methodLink RX7 1 objectInit, Cond.instanceMethod yX4_init, Cond.code yX4_init cX4_init 1 none, Cond.methodLink RX4 3 objectInit, Cond.fieldLink RX4 9 "SettlementRing$Event" "entitled" "[J", Cond.fieldLink RX4 15 "SettlementRing$Event" "elected" "[J", Cond.fieldLink RX4 18 "SettlementRing$Event" "claimed" "[J", Cond.methodLink RX11 30 yX2_init, Cond.instanceMethod yX2_init, Cond.code yX2_init cX2_init 2 none, Cond.methodLink RX2 3 objectInit, Cond.fieldLink RX2 9 "SettlementRing$Cycle" "candidates" "[I", Cond.fieldLink RX2 15 "SettlementRing$Cycle" "worthFrom" "[J", Cond.fieldLink RX2 19 "SettlementRing$Cycle" "lent" "[J", Cond.fieldLink RX2 22 "SettlementRing$Cycle" "book" "LSettlementRing$Book;", Cond.methodLink RX11 39 yX3_init, Cond.instanceMethod yX3_init, Cond.code yX3_init cX3_init 2 none, Cond.methodLink RX3 3 objectInit, Cond.fieldLink RX3 9 "SettlementRing$DayEnd" "book" "LSettlementRing$Book;", Cond.methodLink RL 149 yX12_init, Cond.instanceMethod yX12_init]
def wsL_law0_r6 : List Cond := [Cond.code yX12_init cX12_init 2 none, Cond.methodLink RX12 1 objectInit, Cond.fieldLink RX12 7 "SettlementRingModel" "w" "[J", Cond.fieldLink RX12 13 "SettlementRingModel" "kept" "[J", Cond.fieldLink RX12 16 "SettlementRingModel" "told" "[I", Cond.fieldLink RX12 20 "SettlementRingModel" "cand" "[I", Cond.fieldLink RX12 23 "SettlementRingModel" "gone" "[I", Cond.constantLong RX12 26 (15), Cond.methodLink RL 150 yL_open, Cond.static yL_open, Cond.initialized RL, Cond.codeWith yL_open cL_open 8 (some .int) [(0, 16, 19, 13), (0, 16, 23, 15), (0, 16, 27, 17)], Cond.classLink RL 13 "java/lang/IndexOutOfBoundsException", Cond.classLink RL 15 "java/lang/IllegalArgumentException", Cond.classLink RL 17 "java/lang/IllegalStateException", Cond.methodLink RL 7 yX11_open, Cond.instanceMethod yX11_open, Cond.selects RX11 yX11_open yX11_open, Cond.code yX11_open cX11_open 8 (some .int), Cond.constant RX11 56 (1000000), Cond.fieldLink RX11 61 "SettlementRing$Account" "custodian" "I", Cond.fieldLink RX11 71 "SettlementRing$Book" "accountCount" "I", Cond.fieldLink RX11 74 "SettlementRing$Account" "isPooled" "Z", Cond.fieldLink RX11 77 "SettlementRing$Account" "country" "I"]
def wsL_law0_r7 : List Cond := [Cond.fieldLink RX11 80 "SettlementRing$Account" "cash" "J", Cond.fieldLink RX11 84 "SettlementRing$Account" "line" "J", Cond.methodLink RX11 48 yX11_needAccount, Cond.instanceMethod yX11_needAccount, Cond.selects RX11 yX11_needAccount yX11_needAccount, Cond.code yX11_needAccount cX11_needAccount 2 none, Cond.methodLink RX11 405 yX11_needIndex, Cond.static yX11_needIndex, Cond.code yX11_needIndex cX11_needIndex 2 none, Cond.classLink RX11 409 "java/lang/IndexOutOfBoundsException", Cond.initialized "java/lang/IndexOutOfBoundsException", Cond.methodLink RX11 52 yX11_needRange, Cond.static yX11_needRange, Cond.code yX11_needRange cX11_needRange 3 none, Cond.methodLink RX11 130 yX11_needArgument, Cond.static yX11_needArgument, Cond.code yX11_needArgument cX11_needArgument 1 none, Cond.classLink RX11 416 "java/lang/IllegalArgumentException", Cond.initialized "java/lang/IllegalArgumentException", Cond.methodLink RX11 57 yX1_account, Cond.instanceMethod yX1_account, Cond.selects RX1 yX1_account yX1_account, Cond.code yX1_account cX1_account 2 (some (.object "SettlementRing$Account")), Cond.methodLink RX11 67 yX11_needState]
def wsL_law0_r8 : List Cond := [Cond.static yX11_needState, Cond.code yX11_needState cX11_needState 1 none, Cond.classLink RX11 421 "java/lang/IllegalStateException", Cond.initialized "java/lang/IllegalStateException", Cond.methodLink RL 155 yX12_open, Cond.instanceMethod yX12_open, Cond.selects RX12 yX12_open yX12_open, Cond.code yX12_open cX12_open 10 (some .int), Cond.constantLong RX12 36 (2), Cond.constantLong RX12 53 (1000000), Cond.constantLong RX12 59 (10), Cond.methodLink RX12 32 yX12_in, Cond.instanceMethod yX12_in, Cond.selects RX12 yX12_in yX12_in, Cond.code yX12_in cX12_in 7 (some .boolean), Cond.methodLink RX12 55 yX12_isAccount, Cond.instanceMethod yX12_isAccount, Cond.selects RX12 yX12_isAccount yX12_isAccount, Cond.code yX12_isAccount cX12_isAccount 2 (some .boolean), Cond.methodLink RX12 61 yX12_holds, Cond.instanceMethod yX12_holds, Cond.selects RX12 yX12_holds yX12_holds, Cond.code yX12_holds cX12_holds 2 (some .boolean), Cond.fieldLink RX12 28 "SettlementRingModel" "thrown" "I"]
def wsL_law0_r9 : List Cond := [Cond.methodLink RL 156 yX12_thrown, Cond.instanceMethod yX12_thrown, Cond.selects RX12 yX12_thrown yX12_thrown, Cond.code yX12_thrown cX12_thrown 1 (some .int), Cond.methodLink RL 159 yL_lend, Cond.static yL_lend, Cond.codeWith yL_lend cL_lend 4 (some .int) [(0, 16, 19, 13)], Cond.methodLink RL 19 yX11_lend, Cond.instanceMethod yX11_lend, Cond.selects RX11 yX11_lend yX11_lend, Cond.code yX11_lend cX11_lend 3 (some .boolean), Cond.fieldLink RX11 87 "SettlementRing$Account" "lends" "Z", Cond.methodLink RL 162 yX12_lend, Cond.instanceMethod yX12_lend, Cond.selects RX12 yX12_lend yX12_lend, Cond.code yX12_lend cX12_lend 2 (some .boolean), Cond.methodLink RX12 64 yX12_flips, Cond.instanceMethod yX12_flips, Cond.selects RX12 yX12_flips yX12_flips, Cond.code yX12_flips cX12_flips 3 (some .boolean), Cond.methodLink RL 163 yL_relieve, Cond.static yL_relieve, Cond.codeWith yL_relieve cL_relieve 4 (some .int) [(0, 16, 19, 13)], Cond.methodLink RL 23 yX11_relieve]
def wsL_law0_r10 : List Cond := [Cond.instanceMethod yX11_relieve, Cond.selects RX11 yX11_relieve yX11_relieve, Cond.code yX11_relieve cX11_relieve 3 (some .boolean), Cond.fieldLink RX11 90 "SettlementRing$Account" "isRelieved" "Z", Cond.methodLink RL 165 yX12_relieve, Cond.instanceMethod yX12_relieve, Cond.selects RX12 yX12_relieve yX12_relieve, Cond.code yX12_relieve cX12_relieve 2 (some .boolean), Cond.methodLink RL 166 yL_treaty, Cond.static yL_treaty, Cond.codeWith yL_treaty cL_treaty 6 (some .int) [(0, 12, 15, 15)], Cond.methodLink RL 26 yX11_treaty, Cond.instanceMethod yX11_treaty, Cond.selects RX11 yX11_treaty yX11_treaty, Cond.code yX11_treaty cX11_treaty 5 (some .int), Cond.methodLink RX11 93 yX1_treatyTax, Cond.instanceMethod yX1_treatyTax, Cond.selects RX1 yX1_treatyTax yX1_treatyTax, Cond.code yX1_treatyTax cX1_treatyTax 4 (some .int), Cond.methodLink RX11 97 yX1_setTreatyTax, Cond.instanceMethod yX1_setTreatyTax, Cond.selects RX1 yX1_setTreatyTax yX1_setTreatyTax, Cond.code yX1_setTreatyTax cX1_setTreatyTax 5 none, Cond.methodLink RL 169 yX12_treaty]
def wsL_law0_r11 : List Cond := [Cond.instanceMethod yX12_treaty, Cond.selects RX12 yX12_treaty yX12_treaty, Cond.code yX12_treaty cX12_treaty 5 (some .int), Cond.constantLong RX12 68 (30), Cond.methodLink RL 170 yL_issue, Cond.static yL_issue, Cond.codeWith yL_issue cL_issue 8 (some .int) [(0, 16, 19, 13), (0, 16, 23, 15), (0, 16, 27, 17)], Cond.methodLink RL 30 yX11_issue, Cond.instanceMethod yX11_issue, Cond.selects RX11 yX11_issue yX11_issue, Cond.code yX11_issue cX11_issue 8 (some .int), Cond.constant RX11 100 (100000), Cond.fieldLink RX11 101 "SettlementRing$Book" "securityCount" "I", Cond.fieldLink RX11 108 "SettlementRing$Security" "country" "I", Cond.fieldLink RX11 111 "SettlementRing$Security" "price" "I", Cond.fieldLink RX11 114 "SettlementRing$Security" "rate" "I", Cond.fieldLink RX11 117 "SettlementRing$Security" "out" "J", Cond.fieldLink RX11 120 "SettlementRing$Book" "page" "I", Cond.methodLink RX11 104 yX1_security, Cond.instanceMethod yX1_security, Cond.selects RX1 yX1_security yX1_security, Cond.code yX1_security cX1_security 2 (some (.object "SettlementRing$Security")), Cond.methodLink RX11 123 yX0_move, Cond.instanceMethod yX0_move]
def wsL_law0_r12 : List Cond := [Cond.selects RX0 yX0_move yX0_move, Cond.code yX0_move cX0_move 6 none, Cond.methodLink RX0 32 yX0_shift, Cond.instanceMethod yX0_shift, Cond.selects RX0 yX0_shift yX0_shift, Cond.code yX0_shift cX0_shift 4 none, Cond.methodLink RL 173 yX12_issue, Cond.instanceMethod yX12_issue, Cond.selects RX12 yX12_issue yX12_issue, Cond.code yX12_issue cX12_issue 8 (some .int), Cond.constantLong RX12 70 (100000), Cond.constantLong RX12 72 (1000), Cond.constantLong RX12 74 (500), Cond.constantLong RX12 76 (4), Cond.methodLink RL 174 yL_setPrice, Cond.static yL_setPrice, Cond.codeWith yL_setPrice cL_setPrice 5 (some .int) [(0, 10, 13, 13), (0, 10, 17, 15)], Cond.methodLink RL 34 yX11_setPrice, Cond.instanceMethod yX11_setPrice, Cond.selects RX11 yX11_setPrice yX11_setPrice, Cond.code yX11_setPrice cX11_setPrice 5 (some .int), Cond.methodLink RX11 127 yX11_needSecurity, Cond.instanceMethod yX11_needSecurity, Cond.selects RX11 yX11_needSecurity yX11_needSecurity]
def wsL_law0_r13 : List Cond := [Cond.code yX11_needSecurity cX11_needSecurity 2 none, Cond.methodLink RL 177 yX12_setPrice, Cond.instanceMethod yX12_setPrice, Cond.selects RX12 yX12_setPrice yX12_setPrice, Cond.code yX12_setPrice cX12_setPrice 4 (some .int), Cond.methodLink RX12 78 yX12_isSecurity, Cond.instanceMethod yX12_isSecurity, Cond.selects RX12 yX12_isSecurity yX12_isSecurity, Cond.code yX12_isSecurity cX12_isSecurity 2 (some .boolean), Cond.methodLink RL 178 yL_block, Cond.static yL_block, Cond.codeWith yL_block cL_block 6 (some .int) [(0, 11, 14, 13), (0, 11, 18, 15), (0, 11, 22, 17)], Cond.methodLink RL 38 yX11_block, Cond.instanceMethod yX11_block, Cond.selects RX11 yX11_block yX11_block, Cond.code yX11_block cX11_block 7 (some .long), Cond.methodLink RX11 133 yX0_heldOf, Cond.instanceMethod yX0_heldOf, Cond.selects RX0 yX0_heldOf yX0_heldOf, Cond.code yX0_heldOf cX0_heldOf 2 (some .long), Cond.methodLink RX11 137 yX0_blockedOf, Cond.instanceMethod yX0_blockedOf, Cond.selects RX0 yX0_blockedOf yX0_blockedOf, Cond.code yX0_blockedOf cX0_blockedOf 2 (some .long)]
def wsL_law0_r14 : List Cond := [Cond.methodLink RX11 140 yX0_setBlocked, Cond.instanceMethod yX0_setBlocked, Cond.selects RX0 yX0_setBlocked yX0_setBlocked, Cond.code yX0_setBlocked cX0_setBlocked 4 none, Cond.methodLink RL 180 yX12_block, Cond.instanceMethod yX12_block, Cond.selects RX12 yX12_block yX12_block, Cond.code yX12_block cX12_block 7 (some .long), Cond.constantLong RX12 81 (-1), Cond.methodLink RL 181 yL_bring, Cond.static yL_bring, Cond.codeWith yL_bring cL_bring 5 (some .int) [(0, 9, 12, 13), (0, 9, 16, 15), (0, 9, 20, 17)], Cond.methodLink RL 42 yX11_bring, Cond.instanceMethod yX11_bring, Cond.selects RX11 yX11_bring yX11_bring, Cond.code yX11_bring cX11_bring 5 (some .long), Cond.constant RX11 144 (-1000000), Cond.methodLink RX11 145 yX1_isFirm, Cond.instanceMethod yX1_isFirm, Cond.selects RX1 yX1_isFirm yX1_isFirm, Cond.code yX1_isFirm cX1_isFirm 4 (some .boolean), Cond.fieldLink RX1 134 "SettlementRing$Book" "securityCount" "I", Cond.methodLink RX1 72 yX1_account, Cond.methodLink RX1 161 yX0_freeOf]
def wsL_law0_r15 : List Cond := [Cond.instanceMethod yX0_freeOf, Cond.selects RX0 yX0_freeOf yX0_freeOf, Cond.code yX0_freeOf cX0_freeOf 3 (some .long), Cond.methodLink RX1 171 yX0_freeCash, Cond.instanceMethod yX0_freeCash, Cond.selects RX0 yX0_freeCash yX0_freeCash, Cond.code yX0_freeCash cX0_freeCash 1 (some .long), Cond.fieldLink RX0 25 "SettlementRing$Account" "cash" "J", Cond.fieldLink RX0 29 "SettlementRing$Account" "pledged" "J", Cond.methodLink RX1 175 yX1_limitOf, Cond.instanceMethod yX1_limitOf, Cond.selects RX1 yX1_limitOf yX1_limitOf, Cond.code yX1_limitOf cX1_limitOf 5 (some .long), Cond.fieldLink RX1 158 "SettlementRing$Security" "price" "I", Cond.fieldLink RX1 165 "SettlementRing$Account" "line" "J", Cond.constantLong RX1 169 (2), Cond.methodLink RX1 80 yX1_security, Cond.methodLink RL 183 yX12_bring, Cond.instanceMethod yX12_bring, Cond.selects RX12 yX12_bring yX12_bring, Cond.code yX12_bring cX12_bring 6 (some .long), Cond.constantLong RX12 83 (-1000000), Cond.methodLink RX12 85 yX12_sound, Cond.instanceMethod yX12_sound]
def wsL_law0_r16 : List Cond := [Cond.selects RX12 yX12_sound yX12_sound, Cond.code yX12_sound cX12_sound 4 (some .boolean), Cond.methodLink RX12 46 yX12_freeCash, Cond.instanceMethod yX12_freeCash, Cond.selects RX12 yX12_freeCash yX12_freeCash, Cond.code yX12_freeCash cX12_freeCash 2 (some .long), Cond.methodLink RX12 50 yX12_limitOf, Cond.instanceMethod yX12_limitOf, Cond.selects RX12 yX12_limitOf yX12_limitOf, Cond.code yX12_limitOf cX12_limitOf 5 (some .long), Cond.methodLink RX12 38 yX12_freeOf, Cond.instanceMethod yX12_freeOf, Cond.selects RX12 yX12_freeOf yX12_freeOf, Cond.code yX12_freeOf cX12_freeOf 3 (some .long), Cond.methodLink RX12 42 yX12_half, Cond.instanceMethod yX12_half, Cond.selects RX12 yX12_half yX12_half, Cond.code yX12_half cX12_half 3 (some .long), Cond.methodLink RL 184 yL_instruct, Cond.static yL_instruct, Cond.codeWith yL_instruct cL_instruct 12 (some .int) [(0, 24, 27, 13), (0, 24, 31, 15), (0, 24, 35, 17)], Cond.methodLink RL 46 yX11_instruct, Cond.instanceMethod yX11_instruct, Cond.selects RX11 yX11_instruct yX11_instruct]
def wsL_law0_r17 : List Cond := [Cond.code yX11_instruct cX11_instruct 13 (some .int), Cond.constant RX11 149 (100000000), Cond.fieldLink RX11 150 "SettlementRing$Book" "today" "I", Cond.fieldLink RX11 153 "SettlementRing$Book" "instructionCount" "I", Cond.fieldLink RX11 160 "SettlementRing$Instruction" "account" "I", Cond.fieldLink RX11 164 "SettlementRing$Instruction" "other" "I", Cond.fieldLink RX11 167 "SettlementRing$Instruction" "isDelivery" "Z", Cond.fieldLink RX11 170 "SettlementRing$Instruction" "security" "I", Cond.fieldLink RX11 172 "SettlementRing$Instruction" "units" "I", Cond.fieldLink RX11 175 "SettlementRing$Instruction" "amount" "I", Cond.fieldLink RX11 178 "SettlementRing$Instruction" "date" "I", Cond.fieldLink RX11 181 "SettlementRing$Instruction" "priority" "I", Cond.fieldLink RX11 184 "SettlementRing$Instruction" "least" "I", Cond.fieldLink RX11 191 "SettlementRing$Book" "tradeCount" "I", Cond.methodLink RX11 156 yX1_instruction, Cond.instanceMethod yX1_instruction, Cond.selects RX1 yX1_instruction yX1_instruction, Cond.code yX1_instruction cX1_instruction 2 (some (.object "SettlementRing$Instruction")), Cond.methodLink RX11 187 yX1_partnerFor, Cond.instanceMethod yX1_partnerFor, Cond.selects RX1 yX1_partnerFor yX1_partnerFor, Cond.code yX1_partnerFor cX1_partnerFor 8 (some .int), Cond.fieldLink RX1 137 "SettlementRing$Book" "instructionCount" "I", Cond.fieldLink RX1 182 "SettlementRing$Instruction" "amount" "I"]
def wsL_law0_r18 : List Cond := [Cond.methodLink RX1 185 Lib.Math.abs.name, Cond.static Lib.Math.abs.name, Cond.initialized "java/lang/Math", Cond.code Lib.Math.abs.name Lib.Math.abs.code 1 (some .int), Cond.methodLink RX1 87 yX1_instruction, Cond.methodLink RX1 191 yX5_fits, Cond.instanceMethod yX5_fits, Cond.selects RX5 yX5_fits yX5_fits, Cond.code yX5_fits cX5_fits 3 (some .boolean), Cond.fieldLink RX5 18 "SettlementRing$Instruction" "account" "I", Cond.fieldLink RX5 21 "SettlementRing$Instruction" "other" "I", Cond.fieldLink RX5 24 "SettlementRing$Instruction" "isDelivery" "Z", Cond.fieldLink RX5 28 "SettlementRing$Instruction" "security" "I", Cond.fieldLink RX5 31 "SettlementRing$Instruction" "units" "I", Cond.fieldLink RX5 34 "SettlementRing$Instruction" "date" "I", Cond.fieldLink RX5 37 "SettlementRing$Instruction" "amount" "I", Cond.methodLink RX5 40 Lib.Math.abs.name, Cond.methodLink RX11 194 yX1_match, Cond.instanceMethod yX1_match, Cond.selects RX1 yX1_match yX1_match, Cond.code yX1_match cX1_match 8 (some .int), Cond.fieldLink RX1 140 "SettlementRing$Book" "tradeCount" "I", Cond.fieldLink RX1 195 "SettlementRing$Instruction" "isDelivery" "Z", Cond.fieldLink RX1 199 "SettlementRing$Trade" "delivery" "I"]
def wsL_law0_r19 : List Cond := [Cond.fieldLink RX1 202 "SettlementRing$Trade" "receipt" "I", Cond.fieldLink RX1 205 "SettlementRing$Instruction" "account" "I", Cond.fieldLink RX1 207 "SettlementRing$Trade" "deliverer" "I", Cond.fieldLink RX1 210 "SettlementRing$Trade" "receiver" "I", Cond.fieldLink RX1 213 "SettlementRing$Instruction" "security" "I", Cond.fieldLink RX1 215 "SettlementRing$Trade" "security" "I", Cond.fieldLink RX1 216 "SettlementRing$Instruction" "units" "I", Cond.fieldLink RX1 219 "SettlementRing$Trade" "units" "J", Cond.methodLink RX1 221 Lib.Math.min.name, Cond.static Lib.Math.min.name, Cond.code Lib.Math.min.name Lib.Math.min.code 2 (some .int), Cond.fieldLink RX1 225 "SettlementRing$Trade" "amount" "J", Cond.fieldLink RX1 227 "SettlementRing$Instruction" "date" "I", Cond.fieldLink RX1 230 "SettlementRing$Trade" "date" "I", Cond.fieldLink RX1 231 "SettlementRing$Instruction" "priority" "I", Cond.methodLink RX1 234 Lib.Math.max.name, Cond.static Lib.Math.max.name, Cond.code Lib.Math.max.name Lib.Math.max.code 2 (some .int), Cond.fieldLink RX1 237 "SettlementRing$Trade" "priority" "I", Cond.fieldLink RX1 238 "SettlementRing$Instruction" "least" "I", Cond.fieldLink RX1 241 "SettlementRing$Trade" "least" "J", Cond.fieldLink RX1 243 "SettlementRing$Instruction" "trade" "I", Cond.methodLink RX1 94 yX1_trade, Cond.instanceMethod yX1_trade]
def wsL_law0_r20 : List Cond := [Cond.selects RX1 yX1_trade yX1_trade, Cond.code yX1_trade cX1_trade 2 (some (.object "SettlementRing$Trade")), Cond.methodLink RX1 245 yX1_putStatus, Cond.instanceMethod yX1_putStatus, Cond.selects RX1 yX1_putStatus yX1_putStatus, Cond.code yX1_putStatus cX1_putStatus 3 none, Cond.fieldLink RX1 252 "SettlementRing$Trade" "status" "I", Cond.fieldLink RX1 255 "SettlementRing$Instruction" "status" "I", Cond.methodLink RX1 249 yX1_tellBoth, Cond.instanceMethod yX1_tellBoth, Cond.selects RX1 yX1_tellBoth yX1_tellBoth, Cond.code yX1_tellBoth cX1_tellBoth 2 none, Cond.methodLink RX1 256 yX8_tell, Cond.instanceMethod yX8_tell, Cond.selects RX8 yX8_tell yX8_tell, Cond.code yX8_tell cX8_tell 2 none, Cond.methodLink RL 187 yX12_instruct, Cond.instanceMethod yX12_instruct, Cond.selects RX12 yX12_instruct yX12_instruct, Cond.code yX12_instruct cX12_instruct 14 (some .int), Cond.constantLong RX12 104 (100000000), Cond.constantLong RX12 106 (2000), Cond.constantLong RX12 108 (9), Cond.constantLong RX12 113 (20)]
def wsL_law0_r21 : List Cond := [Cond.methodLink RX12 110 yX12_mate, Cond.instanceMethod yX12_mate, Cond.selects RX12 yX12_mate yX12_mate, Cond.code yX12_mate cX12_mate 10 (some .int), Cond.constantLong RX12 88 (3), Cond.methodLink RX12 115 yX12_matched, Cond.instanceMethod yX12_matched, Cond.selects RX12 yX12_matched yX12_matched, Cond.code yX12_matched cX12_matched 4 (some .int), Cond.methodLink RX12 90 yX12_tell, Cond.instanceMethod yX12_tell, Cond.selects RX12 yX12_tell yX12_tell, Cond.code yX12_tell cX12_tell 2 none, Cond.methodLink RX12 94 yX12_deliverer, Cond.instanceMethod yX12_deliverer, Cond.selects RX12 yX12_deliverer yX12_deliverer, Cond.code yX12_deliverer cX12_deliverer 2 (some .int), Cond.methodLink RX12 98 yX12_receiver, Cond.instanceMethod yX12_receiver, Cond.selects RX12 yX12_receiver yX12_receiver, Cond.code yX12_receiver cX12_receiver 2 (some .int), Cond.methodLink RL 188 yL_amend, Cond.static yL_amend, Cond.codeWith yL_amend cL_amend 5 (some .int) [(0, 10, 13, 13), (0, 10, 17, 15), (0, 10, 21, 17)]]
def wsL_law0_r22 : List Cond := [Cond.methodLink RL 50 yX11_amend, Cond.instanceMethod yX11_amend, Cond.selects RX11 yX11_amend yX11_amend, Cond.code yX11_amend cX11_amend 5 (some .int), Cond.fieldLink RX11 200 "SettlementRing$Instruction" "status" "I", Cond.methodLink RX11 197 yX11_needInstruction, Cond.instanceMethod yX11_needInstruction, Cond.selects RX11 yX11_needInstruction yX11_needInstruction, Cond.code yX11_needInstruction cX11_needInstruction 2 none, Cond.methodLink RL 190 yX12_amend, Cond.instanceMethod yX12_amend, Cond.selects RX12 yX12_amend yX12_amend, Cond.code yX12_amend cX12_amend 9 (some .int), Cond.methodLink RX12 119 yX12_isInstruction, Cond.instanceMethod yX12_isInstruction, Cond.selects RX12 yX12_isInstruction yX12_isInstruction, Cond.code yX12_isInstruction cX12_isInstruction 2 (some .boolean), Cond.methodLink RL 191 yL_cancel, Cond.static yL_cancel, Cond.codeWith yL_cancel cL_cancel 4 (some .int) [(0, 16, 19, 13), (0, 16, 22, 17)], Cond.methodLink RL 53 yX11_cancel, Cond.instanceMethod yX11_cancel, Cond.selects RX11 yX11_cancel yX11_cancel, Cond.code yX11_cancel cX11_cancel 4 (some .boolean)]
def wsL_law0_r23 : List Cond := [Cond.fieldLink RX11 211 "SettlementRing$Instruction" "isCancelAsked" "Z", Cond.fieldLink RX11 214 "SettlementRing$Instruction" "trade" "I", Cond.fieldLink RX11 220 "SettlementRing$Trade" "delivery" "I", Cond.fieldLink RX11 225 "SettlementRing$Trade" "receipt" "I", Cond.methodLink RX11 203 yX5_isAlive, Cond.instanceMethod yX5_isAlive, Cond.selects RX5 yX5_isAlive yX5_isAlive, Cond.code yX5_isAlive cX5_isAlive 1 (some .boolean), Cond.methodLink RX11 207 yX1_cancelInstruction, Cond.instanceMethod yX1_cancelInstruction, Cond.selects RX1 yX1_cancelInstruction yX1_cancelInstruction, Cond.code yX1_cancelInstruction cX1_cancelInstruction 2 none, Cond.methodLink RX11 217 yX1_trade, Cond.methodLink RX11 228 yX1_cancelTrade, Cond.instanceMethod yX1_cancelTrade, Cond.selects RX1 yX1_cancelTrade yX1_cancelTrade, Cond.code yX1_cancelTrade cX1_cancelTrade 4 none, Cond.fieldLink RX1 143 "SettlementRing$Book" "linkCount" "I", Cond.fieldLink RX1 261 "SettlementRing$Trade" "number" "I", Cond.methodLink RX1 101 yX1_linkAt, Cond.instanceMethod yX1_linkAt, Cond.selects RX1 yX1_linkAt yX1_linkAt, Cond.code yX1_linkAt cX1_linkAt 2 (some (.object "SettlementRing$Link")), Cond.methodLink RX1 264 yX6_names]
def wsL_law0_r24 : List Cond := [Cond.instanceMethod yX6_names, Cond.selects RX6 yX6_names yX6_names, Cond.code yX6_names cX6_names 2 (some .boolean), Cond.fieldLink RX6 7 "SettlementRing$Link" "first" "I", Cond.fieldLink RX6 13 "SettlementRing$Link" "second" "I", Cond.methodLink RX1 105 yX6_copyFrom, Cond.instanceMethod yX6_copyFrom, Cond.selects RX6 yX6_copyFrom yX6_copyFrom, Cond.code yX6_copyFrom cX6_copyFrom 2 none, Cond.fieldLink RX6 16 "SettlementRing$Link" "isWith" "Z", Cond.methodLink RL 193 yX12_cancel, Cond.instanceMethod yX12_cancel, Cond.selects RX12 yX12_cancel yX12_cancel, Cond.code yX12_cancel cX12_cancel 4 (some .boolean), Cond.methodLink RX12 122 yX12_over, Cond.instanceMethod yX12_over, Cond.selects RX12 yX12_over yX12_over, Cond.code yX12_over cX12_over 6 none, Cond.methodLink RL 194 yL_hold, Cond.static yL_hold, Cond.codeWith yL_hold cL_hold 4 (some .int) [(0, 16, 19, 13), (0, 16, 22, 17)], Cond.methodLink RL 56 yX11_hold, Cond.instanceMethod yX11_hold, Cond.selects RX11 yX11_hold yX11_hold]
def wsL_law0_r25 : List Cond := [Cond.code yX11_hold cX11_hold 3 (some .boolean), Cond.fieldLink RX11 232 "SettlementRing$Instruction" "isHeld" "Z", Cond.methodLink RL 196 yX12_hold, Cond.instanceMethod yX12_hold, Cond.selects RX12 yX12_hold yX12_hold, Cond.code yX12_hold cX12_hold 2 (some .boolean), Cond.methodLink RL 197 yL_link, Cond.static yL_link, Cond.codeWith yL_link cL_link 6 (some .int) [(0, 12, 15, 13), (0, 12, 19, 15), (0, 12, 23, 17)], Cond.methodLink RL 59 yX11_link, Cond.instanceMethod yX11_link, Cond.selects RX11 yX11_link yX11_link, Cond.code yX11_link cX11_link 5 (some .int), Cond.fieldLink RX11 238 "SettlementRing$Trade" "status" "I", Cond.fieldLink RX11 243 "SettlementRing$Book" "linkCount" "I", Cond.fieldLink RX11 250 "SettlementRing$Link" "first" "I", Cond.fieldLink RX11 255 "SettlementRing$Link" "second" "I", Cond.fieldLink RX11 258 "SettlementRing$Link" "isWith" "Z", Cond.methodLink RX11 235 yX11_needTrade, Cond.instanceMethod yX11_needTrade, Cond.selects RX11 yX11_needTrade yX11_needTrade, Cond.code yX11_needTrade cX11_needTrade 2 none, Cond.methodLink RX11 239 yX1_isLinkOf, Cond.instanceMethod yX1_isLinkOf]
def wsL_law0_r26 : List Cond := [Cond.selects RX1 yX1_isLinkOf yX1_isLinkOf, Cond.code yX1_isLinkOf cX1_isLinkOf 4 (some .boolean), Cond.methodLink RX11 246 yX1_linkAt, Cond.methodLink RL 200 yX12_link, Cond.instanceMethod yX12_link, Cond.selects RX12 yX12_link yX12_link, Cond.code yX12_link cX12_link 8 (some .int), Cond.methodLink RX12 126 yX12_isTrade, Cond.instanceMethod yX12_isTrade, Cond.selects RX12 yX12_isTrade yX12_isTrade, Cond.code yX12_isTrade cX12_isTrade 2 (some .boolean), Cond.methodLink RL 201 yX11_cycle, Cond.instanceMethod yX11_cycle, Cond.selects RX11 yX11_cycle yX11_cycle, Cond.code yX11_cycle cX11_cycle 2 (some .int), Cond.methodLink RX11 261 yX2_giveLoansBack, Cond.instanceMethod yX2_giveLoansBack, Cond.selects RX2 yX2_giveLoansBack yX2_giveLoansBack, Cond.code yX2_giveLoansBack cX2_giveLoansBack 4 none, Cond.fieldLink RX2 178 "SettlementRing$Book" "loanCount" "I", Cond.fieldLink RX2 185 "SettlementRing$Loan" "borrower" "I", Cond.fieldLink RX2 194 "SettlementRing$Loan" "isBack" "Z", Cond.fieldLink RX2 197 "SettlementRing$Loan" "security" "I", Cond.fieldLink RX2 204 "SettlementRing$Loan" "units" "J"]
def wsL_law0_r27 : List Cond := [Cond.fieldLink RX2 205 "SettlementRing$Loan" "lender" "I", Cond.fieldLink RX2 212 "SettlementRing$Account" "pledged" "J", Cond.fieldLink RX2 215 "SettlementRing$Loan" "pledged" "J", Cond.methodLink RX2 181 yX1_loanAt, Cond.instanceMethod yX1_loanAt, Cond.selects RX1 yX1_loanAt yX1_loanAt, Cond.code yX1_loanAt cX1_loanAt 2 (some (.object "SettlementRing$Loan")), Cond.methodLink RX2 190 yX1_account, Cond.methodLink RX2 198 yX0_freeOf, Cond.methodLink RX2 208 yX1_moveUnits, Cond.instanceMethod yX1_moveUnits, Cond.selects RX1 yX1_moveUnits yX1_moveUnits, Cond.code yX1_moveUnits cX1_moveUnits 6 none, Cond.fieldLink RX1 155 "SettlementRing$Book" "page" "I", Cond.methodLink RX1 286 yX0_move, Cond.methodLink RX11 264 yX2_bestByBranches, Cond.instanceMethod yX2_bestByBranches, Cond.selects RX2 yX2_bestByBranches yX2_bestByBranches, Cond.code yX2_bestByBranches cX2_bestByBranches 1 (some .long), Cond.fieldLink RX2 33 "SettlementRing$Cycle" "bestWorth" "J", Cond.methodLink RX2 26 yX2_beginSearch, Cond.instanceMethod yX2_beginSearch, Cond.selects RX2 yX2_beginSearch yX2_beginSearch, Cond.code yX2_beginSearch cX2_beginSearch 4 none]
def wsL_law0_r28 : List Cond := [Cond.fieldLink RX2 63 "SettlementRing$Cycle" "set" "I", Cond.fieldLink RX2 66 "SettlementRing$Cycle" "size" "I", Cond.fieldLink RX2 69 "SettlementRing$Cycle" "worth" "J", Cond.fieldLink RX2 72 "SettlementRing$Cycle" "bestSet" "I", Cond.fieldLink RX2 75 "SettlementRing$Cycle" "bestSize" "I", Cond.fieldLink RX2 37 "SettlementRing$Cycle" "count" "I", Cond.methodLink RX2 60 yX2_findCandidates, Cond.instanceMethod yX2_findCandidates, Cond.selects RX2 yX2_findCandidates yX2_findCandidates, Cond.code yX2_findCandidates cX2_findCandidates 3 none, Cond.fieldLink RX2 82 "SettlementRing$Book" "tradeCount" "I", Cond.methodLink RX2 95 Lib.Math.min.name, Cond.methodLink RX2 55 yX1_trade, Cond.methodLink RX2 85 yX1_isDue, Cond.instanceMethod yX1_isDue, Cond.selects RX1 yX1_isDue yX1_isDue, Cond.code yX1_isDue cX1_isDue 2 (some .boolean), Cond.fieldLink RX1 152 "SettlementRing$Book" "today" "I", Cond.methodLink RX2 89 yX1_isHeldUp, Cond.instanceMethod yX1_isHeldUp, Cond.selects RX1 yX1_isHeldUp yX1_isHeldUp, Cond.code yX1_isHeldUp cX1_isHeldUp 2 (some .boolean), Cond.fieldLink RX1 268 "SettlementRing$Instruction" "isHeld" "Z", Cond.methodLink RX2 92 yX2_insertCandidate]
def wsL_law0_r29 : List Cond := [Cond.instanceMethod yX2_insertCandidate, Cond.selects RX2 yX2_insertCandidate yX2_insertCandidate, Cond.code yX2_insertCandidate cX2_insertCandidate 4 none, Cond.fieldLink RX2 105 "SettlementRing$Trade" "number" "I", Cond.methodLink RX2 41 yX2_candidate, Cond.instanceMethod yX2_candidate, Cond.selects RX2 yX2_candidate yX2_candidate, Cond.code yX2_candidate cX2_candidate 2 (some (.object "SettlementRing$Trade")), Cond.methodLink RX2 101 yX2_rankOf, Cond.static yX2_rankOf, Cond.code yX2_rankOf cX2_rankOf 1 (some .int), Cond.fieldLink RX2 110 "SettlementRing$Trade" "priority" "I", Cond.fieldLink RX2 113 "SettlementRing$Trade" "age" "I", Cond.methodLink RX2 78 yX2_worthOf, Cond.instanceMethod yX2_worthOf, Cond.selects RX2 yX2_worthOf yX2_worthOf, Cond.code yX2_worthOf cX2_worthOf 2 (some .long), Cond.fieldLink RX2 116 "SettlementRing$Trade" "amount" "J", Cond.fieldLink RX2 119 "SettlementRing$Trade" "security" "I", Cond.fieldLink RX2 122 "SettlementRing$Trade" "units" "J", Cond.methodLink RX2 125 yX1_worthOf, Cond.instanceMethod yX1_worthOf, Cond.selects RX1 yX1_worthOf yX1_worthOf, Cond.code yX1_worthOf cX1_worthOf 4 (some .long)]
def wsL_law0_r30 : List Cond := [Cond.methodLink RX2 29 yX2_choose, Cond.static yX2_choose, Cond.code yX2_choose cX2_choose 3 none, Cond.methodLink RX2 49 yX2_weigh, Cond.instanceMethod yX2_weigh, Cond.selects RX2 yX2_weigh yX2_weigh, Cond.code yX2_weigh cX2_weigh 2 none, Cond.methodLink RX2 132 yX2_areLinksKept, Cond.instanceMethod yX2_areLinksKept, Cond.selects RX2 yX2_areLinksKept yX2_areLinksKept, Cond.code yX2_areLinksKept cX2_areLinksKept 5 (some .boolean), Cond.fieldLink RX2 139 "SettlementRing$Book" "linkCount" "I", Cond.fieldLink RX2 146 "SettlementRing$Link" "first" "I", Cond.fieldLink RX2 155 "SettlementRing$Link" "second" "I", Cond.fieldLink RX2 162 "SettlementRing$Link" "isWith" "Z", Cond.methodLink RX2 142 yX1_linkAt, Cond.methodLink RX2 151 yX2_isIn, Cond.static yX2_isIn, Cond.code yX2_isIn cX2_isIn 2 (some .boolean), Cond.methodLink RX2 158 yX2_isInOrSettled, Cond.instanceMethod yX2_isInOrSettled, Cond.selects RX2 yX2_isInOrSettled yX2_isInOrSettled, Cond.code yX2_isInOrSettled cX2_isInOrSettled 2 (some .boolean), Cond.fieldLink RX2 166 "SettlementRing$Trade" "status" "I"]
def wsL_law0_r31 : List Cond := [Cond.methodLink RX2 136 yX2_areAllFirm, Cond.instanceMethod yX2_areAllFirm, Cond.selects RX2 yX2_areAllFirm yX2_areAllFirm, Cond.code yX2_areAllFirm cX2_areAllFirm 3 (some .boolean), Cond.fieldLink RX2 169 "SettlementRing$Trade" "deliverer" "I", Cond.fieldLink RX2 175 "SettlementRing$Trade" "receiver" "I", Cond.methodLink RX2 172 yX1_isFirm, Cond.methodLink RX2 45 yX2_putIn, Cond.instanceMethod yX2_putIn, Cond.selects RX2 yX2_putIn yX2_putIn, Cond.code yX2_putIn cX2_putIn 2 none, Cond.methodLink RX2 128 yX1_shift, Cond.instanceMethod yX1_shift, Cond.selects RX1 yX1_shift yX1_shift, Cond.code yX1_shift cX1_shift 6 none, Cond.methodLink RX1 271 yX0_shift, Cond.methodLink RX1 275 yX1_payFor, Cond.instanceMethod yX1_payFor, Cond.selects RX1 yX1_payFor yX1_payFor, Cond.code yX1_payFor cX1_payFor 4 none, Cond.fieldLink RX1 279 "SettlementRing$Account" "cash" "J", Cond.methodLink RX2 52 yX2_takeOut, Cond.instanceMethod yX2_takeOut, Cond.selects RX2 yX2_takeOut yX2_takeOut]
def wsL_law0_r32 : List Cond := [Cond.code yX2_takeOut cX2_takeOut 2 none, Cond.methodLink RX11 268 yX2_settleBestSet, Cond.instanceMethod yX2_settleBestSet, Cond.selects RX2 yX2_settleBestSet yX2_settleBestSet, Cond.code yX2_settleBestSet cX2_settleBestSet 3 (some .int), Cond.methodLink RX2 216 yX1_settleWhole, Cond.instanceMethod yX1_settleWhole, Cond.selects RX1 yX1_settleWhole yX1_settleWhole, Cond.code yX1_settleWhole cX1_settleWhole 2 none, Cond.methodLink RX1 282 yX1_moveUnits, Cond.methodLink RX11 272 yX2_settleByLoans, Cond.instanceMethod yX2_settleByLoans, Cond.selects RX2 yX2_settleByLoans yX2_settleByLoans, Cond.code yX2_settleByLoans cX2_settleByLoans 4 (some .int), Cond.methodLink RX2 219 yX1_isLacking, Cond.instanceMethod yX1_isLacking, Cond.selects RX1 yX1_isLacking yX1_isLacking, Cond.code yX1_isLacking cX1_isLacking 2 (some .boolean), Cond.methodLink RX2 222 yX1_isLinked, Cond.instanceMethod yX1_isLinked, Cond.selects RX1 yX1_isLinked yX1_isLinked, Cond.code yX1_isLinked cX1_isLinked 3 (some .boolean), Cond.methodLink RX2 225 yX2_settleByLoan, Cond.instanceMethod yX2_settleByLoan]
def wsL_law0_r33 : List Cond := [Cond.selects RX2 yX2_settleByLoan yX2_settleByLoan, Cond.code yX2_settleByLoan cX2_settleByLoan 7 (some .boolean), Cond.methodLink RX2 228 yX2_findLenders, Cond.instanceMethod yX2_findLenders, Cond.selects RX2 yX2_findLenders yX2_findLenders, Cond.code yX2_findLenders cX2_findLenders 9 none, Cond.fieldLink RX2 245 "SettlementRing$Account" "lends" "Z", Cond.methodLink RX2 248 Lib.MathLoose.min_long.x, Cond.static Lib.MathLoose.min_long.x, Cond.code Lib.MathLoose.min_long.x Lib.MathLoose.min_long.code 4 (some .long), Cond.methodLink RX2 251 Lib.MathLoose.max_long.x, Cond.static Lib.MathLoose.max_long.x, Cond.code Lib.MathLoose.max_long.x Lib.MathLoose.max_long.code 4 (some .long), Cond.static yX11_sumOf, Cond.code yX11_sumOf cX11_sumOf 4 (some .long), Cond.methodLink RX2 235 yX2_shiftLoans, Cond.instanceMethod yX2_shiftLoans, Cond.selects RX2 yX2_shiftLoans yX2_shiftLoans, Cond.code yX2_shiftLoans cX2_shiftLoans 7 none, Cond.methodLink RX2 254 yX0_shift, Cond.methodLink RX2 239 yX2_areLendersFirm, Cond.instanceMethod yX2_areLendersFirm, Cond.selects RX2 yX2_areLendersFirm yX2_areLendersFirm, Cond.code yX2_areLendersFirm cX2_areLendersFirm 2 (some .boolean)]
def wsL_law0_r34 : List Cond := [Cond.methodLink RX2 242 yX2_makeLoans, Cond.instanceMethod yX2_makeLoans, Cond.selects RX2 yX2_makeLoans yX2_makeLoans, Cond.code yX2_makeLoans cX2_makeLoans 5 none, Cond.methodLink RX11 275 yX2_settleInPart, Cond.instanceMethod yX2_settleInPart, Cond.selects RX2 yX2_settleInPart yX2_settleInPart, Cond.code yX2_settleInPart cX2_settleInPart 6 none, Cond.fieldLink RX2 257 "SettlementRing$Trade" "least" "J", Cond.methodLink RX2 260 yX2_settlePartOf, Cond.instanceMethod yX2_settlePartOf, Cond.selects RX2 yX2_settlePartOf yX2_settlePartOf, Cond.code yX2_settlePartOf cX2_settlePartOf 7 none, Cond.methodLink RX2 264 yX1_settlePart, Cond.instanceMethod yX1_settlePart, Cond.selects RX1 yX1_settlePart yX1_settlePart, Cond.code yX1_settlePart cX1_settlePart 6 none, Cond.methodLink RL 204 yX12_cycle, Cond.instanceMethod yX12_cycle, Cond.selects RX12 yX12_cycle yX12_cycle, Cond.code yX12_cycle cX12_cycle 4 (some .int), Cond.fieldLink RX12 129 "SettlementRingModel" "cands" "I", Cond.methodLink RX12 177 yX12_giveBack, Cond.instanceMethod yX12_giveBack]
def wsL_law0_r35 : List Cond := [Cond.selects RX12 yX12_giveBack yX12_giveBack, Cond.code yX12_giveBack cX12_giveBack 4 none, Cond.methodLink RX12 180 yX12_candidates, Cond.instanceMethod yX12_candidates, Cond.selects RX12 yX12_candidates yX12_candidates, Cond.code yX12_candidates cX12_candidates 4 none, Cond.methodLink RX12 132 yX12_due, Cond.instanceMethod yX12_due, Cond.selects RX12 yX12_due yX12_due, Cond.code yX12_due cX12_due 2 (some .boolean), Cond.methodLink RX12 135 yX12_heldUp, Cond.instanceMethod yX12_heldUp, Cond.selects RX12 yX12_heldUp yX12_heldUp, Cond.code yX12_heldUp cX12_heldUp 2 (some .boolean), Cond.methodLink RX12 183 yX12_bestSet, Cond.instanceMethod yX12_bestSet, Cond.selects RX12 yX12_bestSet yX12_bestSet, Cond.code yX12_bestSet cX12_bestSet 7 (some .int), Cond.methodLink RX12 158 yX12_worthOf, Cond.instanceMethod yX12_worthOf, Cond.selects RX12 yX12_worthOf yX12_worthOf, Cond.code yX12_worthOf cX12_worthOf 5 (some .long), Cond.methodLink RX12 155 yX12_worth, Cond.instanceMethod yX12_worth]
def wsL_law0_r36 : List Cond := [Cond.selects RX12 yX12_worth yX12_worth, Cond.code yX12_worth cX12_worth 2 (some .long), Cond.methodLink RX12 101 yX12_paper, Cond.instanceMethod yX12_paper, Cond.selects RX12 yX12_paper yX12_paper, Cond.code yX12_paper cX12_paper 2 (some .int), Cond.methodLink RX12 161 yX12_count, Cond.instanceMethod yX12_count, Cond.selects RX12 yX12_count yX12_count, Cond.code yX12_count cX12_count 4 (some .int), Cond.methodLink RX12 164 yX12_first, Cond.instanceMethod yX12_first, Cond.selects RX12 yX12_first yX12_first, Cond.code yX12_first cX12_first 5 (some .boolean), Cond.methodLink RX12 167 yX12_can, Cond.instanceMethod yX12_can, Cond.selects RX12 yX12_can yX12_can, Cond.code yX12_can cX12_can 5 (some .boolean), Cond.methodLink RX12 149 yX12_keepsLinks, Cond.instanceMethod yX12_keepsLinks, Cond.selects RX12 yX12_keepsLinks yX12_keepsLinks, Cond.code yX12_keepsLinks cX12_keepsLinks 6 (some .boolean), Cond.methodLink RX12 142 yX12_inSet, Cond.instanceMethod yX12_inSet]
def wsL_law0_r37 : List Cond := [Cond.selects RX12 yX12_inSet yX12_inSet, Cond.code yX12_inSet cX12_inSet 3 (some .boolean), Cond.methodLink RX12 138 yX12_has, Cond.instanceMethod yX12_has, Cond.selects RX12 yX12_has yX12_has, Cond.code yX12_has cX12_has 5 (some .boolean), Cond.methodLink RX12 152 yX12_moveAll, Cond.instanceMethod yX12_moveAll, Cond.selects RX12 yX12_moveAll yX12_moveAll, Cond.code yX12_moveAll cX12_moveAll 4 none, Cond.methodLink RX12 145 yX12_move, Cond.instanceMethod yX12_move, Cond.selects RX12 yX12_move yX12_move, Cond.code yX12_move cX12_move 7 none, Cond.methodLink RX12 187 yX12_borrows, Cond.instanceMethod yX12_borrows, Cond.selects RX12 yX12_borrows yX12_borrows, Cond.code yX12_borrows cX12_borrows 12 (some .boolean), Cond.methodLink RX12 170 yX12_linked, Cond.instanceMethod yX12_linked, Cond.selects RX12 yX12_linked yX12_linked, Cond.code yX12_linked cX12_linked 4 (some .boolean), Cond.methodLink RX12 173 yX12_lends, Cond.instanceMethod yX12_lends]
def wsL_law0_r38 : List Cond := [Cond.selects RX12 yX12_lends yX12_lends, Cond.code yX12_lends cX12_lends 7 none, Cond.methodLink RX12 190 yX12_part, Cond.instanceMethod yX12_part, Cond.selects RX12 yX12_part yX12_part, Cond.code yX12_part cX12_part 6 none, Cond.methodLink RL 205 yX11_best, Cond.instanceMethod yX11_best, Cond.selects RX11 yX11_best yX11_best, Cond.code yX11_best cX11_best 1 (some .long), Cond.methodLink RL 209 yX12_best, Cond.instanceMethod yX12_best, Cond.selects RX12 yX12_best yX12_best, Cond.code yX12_best cX12_best 1 (some .long), Cond.methodLink RL 210 yX11_bestByAll, Cond.instanceMethod yX11_bestByAll, Cond.selects RX11 yX11_bestByAll yX11_bestByAll, Cond.code yX11_bestByAll cX11_bestByAll 1 (some .long), Cond.methodLink RX11 278 yX2_bestOfAllSets, Cond.instanceMethod yX2_bestOfAllSets, Cond.selects RX2 yX2_bestOfAllSets yX2_bestOfAllSets, Cond.code yX2_bestOfAllSets cX2_bestOfAllSets 3 (some .long), Cond.methodLink RL 213 yX12_bestByAll, Cond.instanceMethod yX12_bestByAll]
def wsL_law0_r39 : List Cond := [Cond.selects RX12 yX12_bestByAll yX12_bestByAll, Cond.code yX12_bestByAll cX12_bestByAll 1 (some .long), Cond.methodLink RX12 193 yX12_best, Cond.methodLink RL 214 yL_endDay, Cond.static yL_endDay, Cond.codeWith yL_endDay cL_endDay 3 (some .int) [(0, 8, 11, 17)], Cond.methodLink RL 63 yX11_endDay, Cond.instanceMethod yX11_endDay, Cond.selects RX11 yX11_endDay yX11_endDay, Cond.code yX11_endDay cX11_endDay 2 (some .int), Cond.methodLink RX11 281 yX3_takeTurns, Cond.instanceMethod yX3_takeTurns, Cond.selects RX3 yX3_takeTurns yX3_takeTurns, Cond.code yX3_takeTurns cX3_takeTurns 3 none, Cond.fieldLink RX3 15 "SettlementRing$Book" "eventCount" "I", Cond.fieldLink RX3 25 "SettlementRing$Event" "record" "I", Cond.fieldLink RX3 30 "SettlementRing$Book" "today" "I", Cond.fieldLink RX3 37 "SettlementRing$Event" "pay" "I", Cond.methodLink RX3 21 yX1_event, Cond.instanceMethod yX1_event, Cond.selects RX1 yX1_event yX1_event, Cond.code yX1_event cX1_event 2 (some (.object "SettlementRing$Event")), Cond.methodLink RX3 33 yX3_note, Cond.instanceMethod yX3_note]
def wsL_law0_r40 : List Cond := [Cond.selects RX3 yX3_note yX3_note, Cond.code yX3_note cX3_note 5 none, Cond.fieldLink RX3 43 "SettlementRing$Book" "accountCount" "I", Cond.fieldLink RX3 50 "SettlementRing$Event" "security" "I", Cond.fieldLink RX3 63 "SettlementRing$Book" "tradeCount" "I", Cond.fieldLink RX3 70 "SettlementRing$Event" "kind" "I", Cond.fieldLink RX3 77 "SettlementRing$Trade" "security" "I", Cond.fieldLink RX3 80 "SettlementRing$Trade" "units" "J", Cond.fieldLink RX3 87 "SettlementRing$Book" "page" "I", Cond.fieldLink RX3 90 "SettlementRing$Event" "page" "I", Cond.fieldLink RX3 91 "SettlementRing$Event" "isNoted" "Z", Cond.methodLink RX3 46 yX1_account, Cond.methodLink RX3 53 yX0_heldOf, Cond.methodLink RX3 59 yX4_setEntitled, Cond.instanceMethod yX4_setEntitled, Cond.selects RX4 yX4_setEntitled yX4_setEntitled, Cond.code yX4_setEntitled cX4_setEntitled 4 none, Cond.methodLink RX3 66 yX1_trade, Cond.methodLink RX3 73 yX1_isDue, Cond.methodLink RX3 84 yX4_setClaimed, Cond.instanceMethod yX4_setClaimed, Cond.selects RX4 yX4_setClaimed yX4_setClaimed, Cond.code yX4_setClaimed cX4_setClaimed 4 none, Cond.methodLink RX3 40 yX3_payOut]
def wsL_law0_r41 : List Cond := [Cond.instanceMethod yX3_payOut, Cond.selects RX3 yX3_payOut yX3_payOut, Cond.code yX3_payOut cX3_payOut 2 none, Cond.fieldLink RX3 113 "SettlementRing$Event" "isDone" "Z", Cond.methodLink RX3 95 yX3_splitHoldings, Cond.instanceMethod yX3_splitHoldings, Cond.selects RX3 yX3_splitHoldings yX3_splitHoldings, Cond.code yX3_splitHoldings cX3_splitHoldings 5 none, Cond.fieldLink RX3 175 "SettlementRing$Account" "isPooled" "Z", Cond.fieldLink RX3 157 "SettlementRing$Security" "out" "J", Cond.methodLink RX3 178 yX3_splitWithPool, Cond.instanceMethod yX3_splitWithPool, Cond.selects RX3 yX3_splitWithPool yX3_splitWithPool, Cond.code yX3_splitWithPool cX3_splitWithPool 13 (some .long), Cond.fieldLink RX3 182 "SettlementRing$Account" "custodian" "I", Cond.methodLink RX3 185 yX4_splitOf, Cond.instanceMethod yX4_splitOf, Cond.selects RX4 yX4_splitOf yX4_splitOf, Cond.code yX4_splitOf cX4_splitOf 3 (some .long), Cond.fieldLink RX4 21 "SettlementRing$Event" "b" "I", Cond.fieldLink RX4 25 "SettlementRing$Event" "a" "I", Cond.methodLink RX3 189 yX3_splitAccount, Cond.instanceMethod yX3_splitAccount, Cond.selects RX3 yX3_splitAccount yX3_splitAccount]
def wsL_law0_r42 : List Cond := [Cond.code yX3_splitAccount cX3_splitAccount 5 none, Cond.methodLink RX3 153 yX0_move, Cond.methodLink RX3 193 yX0_blockedOf, Cond.methodLink RX3 196 yX0_setBlocked, Cond.methodLink RX3 129 yX1_security, Cond.methodLink RX3 98 yX3_splitLoans, Cond.instanceMethod yX3_splitLoans, Cond.selects RX3 yX3_splitLoans yX3_splitLoans, Cond.code yX3_splitLoans cX3_splitLoans 4 none, Cond.fieldLink RX3 199 "SettlementRing$Book" "loanCount" "I", Cond.fieldLink RX3 206 "SettlementRing$Loan" "security" "I", Cond.fieldLink RX3 209 "SettlementRing$Loan" "units" "J", Cond.methodLink RX3 202 yX1_loanAt, Cond.methodLink RX3 101 yX3_splitTrades, Cond.instanceMethod yX3_splitTrades, Cond.selects RX3 yX3_splitTrades yX3_splitTrades, Cond.code yX3_splitTrades cX3_splitTrades 4 none, Cond.fieldLink RX3 210 "SettlementRing$Trade" "status" "I", Cond.fieldLink RX3 213 "SettlementRing$Trade" "least" "J", Cond.methodLink RX3 216 yX1_cancelTrade, Cond.methodLink RX3 104 yX3_payDividend, Cond.instanceMethod yX3_payDividend, Cond.selects RX3 yX3_payDividend yX3_payDividend, Cond.code yX3_payDividend cX3_payDividend 3 none]
def wsL_law0_r43 : List Cond := [Cond.fieldLink RX3 116 "SettlementRing$Event" "a" "I", Cond.methodLink RX3 119 yX4_entitledOf, Cond.instanceMethod yX4_entitledOf, Cond.selects RX4 yX4_entitledOf yX4_entitledOf, Cond.code yX4_entitledOf cX4_entitledOf 2 (some .long), Cond.methodLink RX3 122 yX3_payLessTax, Cond.instanceMethod yX3_payLessTax, Cond.selects RX3 yX3_payLessTax yX3_payLessTax, Cond.code yX3_payLessTax cX3_payLessTax 7 none, Cond.fieldLink RX3 126 "SettlementRing$Account" "isRelieved" "Z", Cond.fieldLink RX3 132 "SettlementRing$Security" "country" "I", Cond.fieldLink RX3 137 "SettlementRing$Account" "country" "I", Cond.fieldLink RX3 142 "SettlementRing$Account" "cash" "J", Cond.constantLong RX3 145 (100), Cond.methodLink RX3 138 yX1_treatyTax, Cond.methodLink RX3 107 yX3_payOption, Cond.instanceMethod yX3_payOption, Cond.selects RX3 yX3_payOption yX3_payOption, Cond.code yX3_payOption cX3_payOption 7 none, Cond.fieldLink RX3 150 "SettlementRing$Event" "cap" "I", Cond.fieldLink RX3 160 "SettlementRing$Event" "b" "I", Cond.methodLink RX3 147 yX4_askedBy, Cond.instanceMethod yX4_askedBy, Cond.selects RX4 yX4_askedBy yX4_askedBy]
def wsL_law0_r44 : List Cond := [Cond.code yX4_askedBy cX4_askedBy 2 (some .long), Cond.methodLink RX4 28 yX4_electedOf, Cond.instanceMethod yX4_electedOf, Cond.selects RX4 yX4_electedOf yX4_electedOf, Cond.code yX4_electedOf cX4_electedOf 2 (some .long), Cond.methodLink RX3 110 yX3_payClaims, Cond.instanceMethod yX3_payClaims, Cond.selects RX3 yX3_payClaims yX3_payClaims, Cond.code yX3_payClaims cX3_payClaims 4 none, Cond.fieldLink RX3 163 "SettlementRing$Trade" "deliverer" "I", Cond.fieldLink RX3 166 "SettlementRing$Trade" "receiver" "I", Cond.methodLink RX3 169 yX4_claimedOf, Cond.instanceMethod yX4_claimedOf, Cond.selects RX4 yX4_claimedOf yX4_claimedOf, Cond.code yX4_claimedOf cX4_claimedOf 2 (some .long), Cond.methodLink RX3 172 yX1_owe, Cond.instanceMethod yX1_owe, Cond.selects RX1 yX1_owe yX1_owe, Cond.code yX1_owe cX1_owe 5 none, Cond.fieldLink RX1 179 "SettlementRing$Account" "ledger" "J", Cond.methodLink RX11 284 yX3_tellFinesOfTrades, Cond.instanceMethod yX3_tellFinesOfTrades, Cond.selects RX3 yX3_tellFinesOfTrades yX3_tellFinesOfTrades, Cond.code yX3_tellFinesOfTrades cX3_tellFinesOfTrades 5 (some .int)]
def wsL_law0_r45 : List Cond := [Cond.methodLink RX3 220 yX1_causerOf, Cond.instanceMethod yX1_causerOf, Cond.selects RX1 yX1_causerOf yX1_causerOf, Cond.code yX1_causerOf cX1_causerOf 6 (some .int), Cond.methodLink RX1 290 yX1_isLacking, Cond.methodLink RX1 294 yX1_sourceOf, Cond.instanceMethod yX1_sourceOf, Cond.selects RX1 yX1_sourceOf yX1_sourceOf, Cond.code yX1_sourceOf cX1_sourceOf 6 (some .int), Cond.methodLink RX1 298 yX1_isDue, Cond.methodLink RX3 224 yX3_finedFor, Cond.instanceMethod yX3_finedFor, Cond.selects RX3 yX3_finedFor yX3_finedFor, Cond.code yX3_finedFor cX3_finedFor 3 (some .int), Cond.fieldLink RX3 231 "SettlementRing$Trade" "delivery" "I", Cond.fieldLink RX3 238 "SettlementRing$Instruction" "isHeld" "Z", Cond.methodLink RX3 234 yX1_instruction, Cond.methodLink RX3 243 yX1_isHeldUp, Cond.methodLink RX3 246 yX1_isLacking, Cond.methodLink RX3 227 yX3_tellFine, Cond.instanceMethod yX3_tellFine, Cond.selects RX3 yX3_tellFine yX3_tellFine, Cond.code yX3_tellFine cX3_tellFine 8 (some .int), Cond.fieldLink RX3 265 "SettlementRing$Security" "rate" "I"]
def wsL_law0_r46 : List Cond := [Cond.constantLong RX3 268 (10000), Cond.fieldLink RX3 270 "SettlementRing$Book" "mail" "LSettlementRing$Mail;", Cond.methodLink RX3 261 yX1_worthOf, Cond.methodLink RX3 274 yX8_tell, Cond.methodLink RX11 287 yX3_tellFinesOfLoans, Cond.instanceMethod yX3_tellFinesOfLoans, Cond.selects RX3 yX3_tellFinesOfLoans yX3_tellFinesOfLoans, Cond.code yX3_tellFinesOfLoans cX3_tellFinesOfLoans 4 (some .int), Cond.fieldLink RX3 249 "SettlementRing$Loan" "isRecalled" "Z", Cond.fieldLink RX3 252 "SettlementRing$Loan" "isBack" "Z", Cond.fieldLink RX3 255 "SettlementRing$Loan" "borrower" "I", Cond.fieldLink RX3 258 "SettlementRing$Loan" "lender" "I", Cond.methodLink RX11 290 yX3_growOlder, Cond.instanceMethod yX3_growOlder, Cond.selects RX3 yX3_growOlder yX3_growOlder, Cond.code yX3_growOlder cX3_growOlder 3 none, Cond.fieldLink RX3 280 "SettlementRing$Trade" "age" "I", Cond.methodLink RX3 283 yX3_buyIn, Cond.instanceMethod yX3_buyIn, Cond.selects RX3 yX3_buyIn yX3_buyIn, Cond.code yX3_buyIn cX3_buyIn 4 none, Cond.fieldLink RX3 286 "SettlementRing$Trade" "amount" "J", Cond.methodLink RX3 289 Lib.MathLoose.max_long.x, Cond.methodLink RL 217 yX12_endDay]
def wsL_law0_r47 : List Cond := [Cond.instanceMethod yX12_endDay, Cond.selects RX12 yX12_endDay yX12_endDay, Cond.code yX12_endDay cX12_endDay 6 (some .int), Cond.constantLong RX12 243 (5), Cond.methodLink RX12 234 yX12_note, Cond.instanceMethod yX12_note, Cond.selects RX12 yX12_note yX12_note, Cond.code yX12_note cX12_note 4 none, Cond.methodLink RX12 237 yX12_pay, Cond.instanceMethod yX12_pay, Cond.selects RX12 yX12_pay yX12_pay, Cond.code yX12_pay cX12_pay 3 none, Cond.methodLink RX12 225 yX12_split, Cond.instanceMethod yX12_split, Cond.selects RX12 yX12_split yX12_split, Cond.code yX12_split cX12_split 14 none, Cond.methodLink RX12 228 yX12_dividend, Cond.instanceMethod yX12_dividend, Cond.selects RX12 yX12_dividend yX12_dividend, Cond.code yX12_dividend cX12_dividend 3 none, Cond.methodLink RX12 221 yX12_credit, Cond.instanceMethod yX12_credit, Cond.selects RX12 yX12_credit yX12_credit, Cond.code yX12_credit cX12_credit 7 none]
def wsL_law0_r48 : List Cond := [Cond.constantLong RX12 219 (100), Cond.methodLink RX12 231 yX12_option, Cond.instanceMethod yX12_option, Cond.selects RX12 yX12_option yX12_option, Cond.code yX12_option cX12_option 12 none, Cond.methodLink RX12 208 yX12_owes, Cond.instanceMethod yX12_owes, Cond.selects RX12 yX12_owes yX12_owes, Cond.code yX12_owes cX12_owes 5 (some .int), Cond.methodLink RX12 240 yX12_fineOf, Cond.instanceMethod yX12_fineOf, Cond.selects RX12 yX12_fineOf yX12_fineOf, Cond.code yX12_fineOf cX12_fineOf 3 (some .int), Cond.methodLink RX12 197 yX12_held, Cond.instanceMethod yX12_held, Cond.selects RX12 yX12_held yX12_held, Cond.code yX12_held cX12_held 2 (some .boolean), Cond.methodLink RX12 200 yX12_shortOf, Cond.instanceMethod yX12_shortOf, Cond.selects RX12 yX12_shortOf yX12_shortOf, Cond.code yX12_shortOf cX12_shortOf 2 (some .boolean), Cond.methodLink RX12 212 yX12_causerOf, Cond.instanceMethod yX12_causerOf, Cond.selects RX12 yX12_causerOf yX12_causerOf]
def wsL_law0_r49 : List Cond := [Cond.code yX12_causerOf cX12_causerOf 4 (some .int), Cond.methodLink RX12 203 yX12_chained, Cond.instanceMethod yX12_chained, Cond.selects RX12 yX12_chained yX12_chained, Cond.code yX12_chained cX12_chained 4 (some .int), Cond.methodLink RX12 215 yX12_fines, Cond.instanceMethod yX12_fines, Cond.selects RX12 yX12_fines yX12_fines, Cond.code yX12_fines cX12_fines 6 (some .int), Cond.constantLong RX12 206 (10000), Cond.methodLink RL 218 yX11_today, Cond.instanceMethod yX11_today, Cond.selects RX11 yX11_today yX11_today, Cond.code yX11_today cX11_today 1 (some .int), Cond.methodLink RL 221 yX12_today, Cond.instanceMethod yX12_today, Cond.selects RX12 yX12_today yX12_today, Cond.code yX12_today cX12_today 1 (some .int), Cond.methodLink RL 222 yL_recall, Cond.static yL_recall, Cond.codeWith yL_recall cL_recall 4 (some .int) [(0, 8, 11, 13), (0, 8, 14, 17)], Cond.methodLink RL 67 yX11_recall, Cond.instanceMethod yX11_recall, Cond.selects RX11 yX11_recall yX11_recall]
def wsL_law0_r50 : List Cond := [Cond.code yX11_recall cX11_recall 3 (some .long), Cond.fieldLink RX11 300 "SettlementRing$Loan" "isBack" "Z", Cond.fieldLink RX11 305 "SettlementRing$Loan" "isRecalled" "Z", Cond.fieldLink RX11 308 "SettlementRing$Loan" "units" "J", Cond.methodLink RX11 293 yX11_needLoan, Cond.instanceMethod yX11_needLoan, Cond.selects RX11 yX11_needLoan yX11_needLoan, Cond.code yX11_needLoan cX11_needLoan 2 none, Cond.fieldLink RX11 402 "SettlementRing$Book" "loanCount" "I", Cond.methodLink RX11 296 yX1_loanAt, Cond.methodLink RL 224 yX12_recall, Cond.instanceMethod yX12_recall, Cond.selects RX12 yX12_recall yX12_recall, Cond.code yX12_recall cX12_recall 3 (some .long), Cond.methodLink RX12 245 yX12_isLoan, Cond.instanceMethod yX12_isLoan, Cond.selects RX12 yX12_isLoan yX12_isLoan, Cond.code yX12_isLoan cX12_isLoan 2 (some .boolean), Cond.methodLink RL 225 yX11_keep, Cond.instanceMethod yX11_keep, Cond.selects RX11 yX11_keep yX11_keep, Cond.code yX11_keep cX11_keep 1 (some .int), Cond.methodLink RX11 310 yX1_copyFrom, Cond.instanceMethod yX1_copyFrom]
def wsL_law0_r51 : List Cond := [Cond.selects RX1 yX1_copyFrom yX1_copyFrom, Cond.code yX1_copyFrom cX1_copyFrom 3 none, Cond.methodLink RX1 76 yX0_copyFrom, Cond.instanceMethod yX0_copyFrom, Cond.selects RX0 yX0_copyFrom yX0_copyFrom, Cond.code yX0_copyFrom cX0_copyFrom 2 none, Cond.fieldLink RX0 36 "SettlementRing$Account" "country" "I", Cond.fieldLink RX0 39 "SettlementRing$Account" "isPooled" "Z", Cond.fieldLink RX0 43 "SettlementRing$Account" "lends" "Z", Cond.fieldLink RX0 46 "SettlementRing$Account" "isRelieved" "Z", Cond.fieldLink RX0 49 "SettlementRing$Account" "line" "J", Cond.fieldLink RX0 52 "SettlementRing$Account" "ledger" "J", Cond.static yX11_copyAll, Cond.code yX11_copyAll cX11_copyAll 2 none, Cond.methodLink RX11 426 Lib.Math.min.name, Cond.methodLink RX11 431 arraycopyName, Cond.native arraycopyName, Cond.static arraycopyName, Cond.initialized "java/lang/System", Cond.methodLink RX1 84 yX9_copyFrom, Cond.instanceMethod yX9_copyFrom, Cond.selects RX9 yX9_copyFrom yX9_copyFrom, Cond.code yX9_copyFrom cX9_copyFrom 2 none, Cond.fieldLink RX9 7 "SettlementRing$Security" "country" "I"]
def wsL_law0_r52 : List Cond := [Cond.fieldLink RX9 13 "SettlementRing$Security" "price" "I", Cond.fieldLink RX9 16 "SettlementRing$Security" "rate" "I", Cond.fieldLink RX9 19 "SettlementRing$Security" "out" "J", Cond.methodLink RX1 91 yX5_copyFrom, Cond.instanceMethod yX5_copyFrom, Cond.selects RX5 yX5_copyFrom yX5_copyFrom, Cond.code yX5_copyFrom cX5_copyFrom 2 none, Cond.fieldLink RX5 46 "SettlementRing$Instruction" "priority" "I", Cond.fieldLink RX5 49 "SettlementRing$Instruction" "least" "I", Cond.fieldLink RX5 52 "SettlementRing$Instruction" "isHeld" "Z", Cond.fieldLink RX5 55 "SettlementRing$Instruction" "isCancelAsked" "Z", Cond.methodLink RX1 98 yX10_copyFrom, Cond.instanceMethod yX10_copyFrom, Cond.selects RX10 yX10_copyFrom yX10_copyFrom, Cond.code yX10_copyFrom cX10_copyFrom 2 none, Cond.fieldLink RX10 18 "SettlementRing$Trade" "delivery" "I", Cond.fieldLink RX10 21 "SettlementRing$Trade" "receipt" "I", Cond.fieldLink RX10 24 "SettlementRing$Trade" "deliverer" "I", Cond.fieldLink RX10 27 "SettlementRing$Trade" "receiver" "I", Cond.fieldLink RX10 30 "SettlementRing$Trade" "security" "I", Cond.fieldLink RX10 33 "SettlementRing$Trade" "units" "J", Cond.fieldLink RX10 37 "SettlementRing$Trade" "amount" "J", Cond.fieldLink RX10 40 "SettlementRing$Trade" "least" "J", Cond.fieldLink RX10 43 "SettlementRing$Trade" "date" "I"]
def wsL_law0_r53 : List Cond := [Cond.fieldLink RX10 46 "SettlementRing$Trade" "priority" "I", Cond.fieldLink RX10 49 "SettlementRing$Trade" "age" "I", Cond.methodLink RX1 108 yX1_loanAt, Cond.methodLink RX1 112 yX7_copyFrom, Cond.instanceMethod yX7_copyFrom, Cond.selects RX7 yX7_copyFrom yX7_copyFrom, Cond.code yX7_copyFrom cX7_copyFrom 2 none, Cond.fieldLink RX7 7 "SettlementRing$Loan" "lender" "I", Cond.fieldLink RX7 13 "SettlementRing$Loan" "borrower" "I", Cond.fieldLink RX7 16 "SettlementRing$Loan" "security" "I", Cond.fieldLink RX7 19 "SettlementRing$Loan" "units" "J", Cond.fieldLink RX7 23 "SettlementRing$Loan" "pledged" "J", Cond.fieldLink RX7 26 "SettlementRing$Loan" "isRecalled" "Z", Cond.fieldLink RX7 30 "SettlementRing$Loan" "isBack" "Z", Cond.methodLink RX1 115 yX1_event, Cond.methodLink RX1 119 yX4_copyFrom, Cond.instanceMethod yX4_copyFrom, Cond.selects RX4 yX4_copyFrom yX4_copyFrom, Cond.code yX4_copyFrom cX4_copyFrom 2 none, Cond.fieldLink RX4 32 "SettlementRing$Event" "kind" "I", Cond.fieldLink RX4 35 "SettlementRing$Event" "security" "I", Cond.fieldLink RX4 38 "SettlementRing$Event" "cap" "I", Cond.fieldLink RX4 41 "SettlementRing$Event" "record" "I", Cond.fieldLink RX4 44 "SettlementRing$Event" "pay" "I"]
def wsL_law0_r54 : List Cond := [Cond.fieldLink RX4 47 "SettlementRing$Event" "isNoted" "Z", Cond.fieldLink RX4 51 "SettlementRing$Event" "isDone" "Z", Cond.fieldLink RX4 54 "SettlementRing$Event" "page" "I", Cond.methodLink RX1 126 yX1_copyCounts, Cond.instanceMethod yX1_copyCounts, Cond.selects RX1 yX1_copyCounts yX1_copyCounts, Cond.code yX1_copyCounts cX1_copyCounts 2 none, Cond.fieldLink RX1 130 "SettlementRing$Book" "accountCount" "I", Cond.fieldLink RX1 146 "SettlementRing$Book" "loanCount" "I", Cond.fieldLink RX1 149 "SettlementRing$Book" "eventCount" "I", Cond.methodLink RL 228 yX12_keep, Cond.instanceMethod yX12_keep, Cond.selects RX12 yX12_keep yX12_keep, Cond.code yX12_keep cX12_keep 2 (some .int), Cond.fieldLink RX12 248 "SettlementRingModel" "isKept" "Z", Cond.methodLink RL 229 yL_goBack, Cond.static yL_goBack, Cond.codeWith yL_goBack cL_goBack 3 (some .int) [(0, 8, 11, 17)], Cond.methodLink RL 71 yX11_goBack, Cond.instanceMethod yX11_goBack, Cond.selects RX11 yX11_goBack yX11_goBack, Cond.code yX11_goBack cX11_goBack 1 (some .int), Cond.methodLink RL 231 yX12_goBack, Cond.instanceMethod yX12_goBack]
def wsL_law0_r55 : List Cond := [Cond.selects RX12 yX12_goBack yX12_goBack, Cond.code yX12_goBack cX12_goBack 2 (some .int), Cond.methodLink RL 232 yL_announce, Cond.static yL_announce, Cond.codeWith yL_announce cL_announce 10 (some .int) [(0, 20, 23, 13), (0, 20, 27, 15), (0, 20, 31, 17)], Cond.methodLink RL 74 yX11_announce, Cond.instanceMethod yX11_announce, Cond.selects RX11 yX11_announce yX11_announce, Cond.code yX11_announce cX11_announce 10 (some .int), Cond.fieldLink RX11 313 "SettlementRing$Book" "eventCount" "I", Cond.fieldLink RX11 320 "SettlementRing$Event" "kind" "I", Cond.fieldLink RX11 325 "SettlementRing$Event" "security" "I", Cond.fieldLink RX11 326 "SettlementRing$Event" "a" "I", Cond.fieldLink RX11 329 "SettlementRing$Event" "b" "I", Cond.fieldLink RX11 332 "SettlementRing$Event" "cap" "I", Cond.fieldLink RX11 335 "SettlementRing$Event" "record" "I", Cond.fieldLink RX11 338 "SettlementRing$Event" "pay" "I", Cond.methodLink RX11 316 yX1_event, Cond.methodLink RL 235 yX12_announce, Cond.instanceMethod yX12_announce, Cond.selects RX12 yX12_announce yX12_announce, Cond.code yX12_announce cX12_announce 11 (some .int), Cond.methodLink RL 236 yL_elect, Cond.static yL_elect]
def wsL_law0_r56 : List Cond := [Cond.codeWith yL_elect cL_elect 6 (some .int) [(0, 11, 14, 13), (0, 11, 18, 15), (0, 11, 22, 17)], Cond.methodLink RL 78 yX11_elect, Cond.instanceMethod yX11_elect, Cond.selects RX11 yX11_elect yX11_elect, Cond.code yX11_elect cX11_elect 7 (some .long), Cond.fieldLink RX11 344 "SettlementRing$Event" "isNoted" "Z", Cond.fieldLink RX11 347 "SettlementRing$Event" "isDone" "Z", Cond.methodLink RX11 341 yX11_needEvent, Cond.instanceMethod yX11_needEvent, Cond.selects RX11 yX11_needEvent yX11_needEvent, Cond.code yX11_needEvent cX11_needEvent 2 none, Cond.methodLink RX11 350 yX4_entitledOf, Cond.methodLink RX11 353 yX4_electedOf, Cond.methodLink RX11 356 yX4_setElected, Cond.instanceMethod yX4_setElected, Cond.selects RX4 yX4_setElected yX4_setElected, Cond.code yX4_setElected cX4_setElected 4 none, Cond.methodLink RL 238 yX12_elect, Cond.instanceMethod yX12_elect, Cond.selects RX12 yX12_elect yX12_elect, Cond.code yX12_elect cX12_elect 8 (some .long), Cond.methodLink RX12 252 yX12_isEvent, Cond.instanceMethod yX12_isEvent, Cond.selects RX12 yX12_isEvent yX12_isEvent]
def wsL_law0_r57 : List Cond := [Cond.code yX12_isEvent cX12_isEvent 2 (some .boolean), Cond.methodLink RL 239 yL_entitled, Cond.static yL_entitled, Cond.codeWith yL_entitled cL_entitled 5 (some .int) [(0, 9, 12, 13)], Cond.methodLink RL 81 yX11_entitled, Cond.instanceMethod yX11_entitled, Cond.selects RX11 yX11_entitled yX11_entitled, Cond.code yX11_entitled cX11_entitled 4 (some .long), Cond.constantLong RX11 359 (-1), Cond.methodLink RL 241 yX12_entitled, Cond.instanceMethod yX12_entitled, Cond.selects RX12 yX12_entitled yX12_entitled, Cond.code yX12_entitled cX12_entitled 4 (some .long), Cond.methodLink RL 242 yL_entitledAnew, Cond.static yL_entitledAnew, Cond.codeWith yL_entitledAnew cL_entitledAnew 5 (some .int) [(0, 9, 12, 13)], Cond.methodLink RL 84 yX11_entitledAnew, Cond.instanceMethod yX11_entitledAnew, Cond.selects RX11 yX11_entitledAnew yX11_entitledAnew, Cond.code yX11_entitledAnew cX11_entitledAnew 4 (some .long), Cond.fieldLink RX11 361 "SettlementRing$Event" "page" "I", Cond.methodLink RX11 362 yX0_movedUpTo, Cond.instanceMethod yX0_movedUpTo, Cond.selects RX0 yX0_movedUpTo yX0_movedUpTo]
def wsL_law0_r58 : List Cond := [Cond.code yX0_movedUpTo cX0_movedUpTo 7 (some .long), Cond.methodLink RL 244 yX12_entitledAnew, Cond.instanceMethod yX12_entitledAnew, Cond.selects RX12 yX12_entitledAnew yX12_entitledAnew, Cond.code yX12_entitledAnew cX12_entitledAnew 3 (some .long), Cond.methodLink RX12 255 yX12_entitled, Cond.methodLink RL 245 yL_isPaid, Cond.static yL_isPaid, Cond.codeWith yL_isPaid cL_isPaid 4 (some .int) [(0, 16, 19, 13)], Cond.methodLink RL 87 yX11_isPaid, Cond.instanceMethod yX11_isPaid, Cond.selects RX11 yX11_isPaid yX11_isPaid, Cond.code yX11_isPaid cX11_isPaid 2 (some .boolean), Cond.methodLink RL 247 yX12_isPaid, Cond.instanceMethod yX12_isPaid, Cond.selects RX12 yX12_isPaid yX12_isPaid, Cond.code yX12_isPaid cX12_isPaid 2 (some .boolean), Cond.methodLink RL 248 yL_units, Cond.static yL_units, Cond.codeWith yL_units cL_units 5 (some .int) [(0, 9, 12, 13)], Cond.methodLink RL 90 yX11_units, Cond.instanceMethod yX11_units, Cond.selects RX11 yX11_units yX11_units, Cond.code yX11_units cX11_units 3 (some .long)]
def wsL_law0_r59 : List Cond := [Cond.methodLink RL 250 yX12_units, Cond.instanceMethod yX12_units, Cond.selects RX12 yX12_units yX12_units, Cond.code yX12_units cX12_units 3 (some .long), Cond.methodLink RX12 258 yX12_isPair, Cond.instanceMethod yX12_isPair, Cond.selects RX12 yX12_isPair yX12_isPair, Cond.code yX12_isPair cX12_isPair 3 (some .boolean), Cond.methodLink RL 251 yL_free, Cond.static yL_free, Cond.codeWith yL_free cL_free 5 (some .int) [(0, 9, 12, 13)], Cond.methodLink RL 93 yX11_free, Cond.instanceMethod yX11_free, Cond.selects RX11 yX11_free yX11_free, Cond.code yX11_free cX11_free 3 (some .long), Cond.methodLink RX11 366 yX0_freeOf, Cond.methodLink RL 253 yX12_free, Cond.instanceMethod yX12_free, Cond.selects RX12 yX12_free yX12_free, Cond.code yX12_free cX12_free 3 (some .long), Cond.methodLink RL 254 yL_out, Cond.static yL_out, Cond.codeWith yL_out cL_out 4 (some .int) [(0, 8, 11, 13)], Cond.methodLink RL 96 yX11_out]
def wsL_law0_r60 : List Cond := [Cond.instanceMethod yX11_out, Cond.selects RX11 yX11_out yX11_out, Cond.code yX11_out cX11_out 2 (some .long), Cond.methodLink RL 256 yX12_out, Cond.instanceMethod yX12_out, Cond.selects RX12 yX12_out yX12_out, Cond.code yX12_out cX12_out 2 (some .long), Cond.methodLink RL 257 yL_cash, Cond.static yL_cash, Cond.codeWith yL_cash cL_cash 4 (some .int) [(0, 8, 11, 13)], Cond.methodLink RL 99 yX11_cash, Cond.instanceMethod yX11_cash, Cond.selects RX11 yX11_cash yX11_cash, Cond.code yX11_cash cX11_cash 2 (some .long), Cond.methodLink RL 259 yX12_cash, Cond.instanceMethod yX12_cash, Cond.selects RX12 yX12_cash yX12_cash, Cond.code yX12_cash cX12_cash 2 (some .long), Cond.methodLink RL 260 yL_pledged, Cond.static yL_pledged, Cond.codeWith yL_pledged cL_pledged 4 (some .int) [(0, 8, 11, 13)], Cond.methodLink RL 102 yX11_pledged, Cond.instanceMethod yX11_pledged, Cond.selects RX11 yX11_pledged yX11_pledged]
def wsL_law0_r61 : List Cond := [Cond.code yX11_pledged cX11_pledged 2 (some .long), Cond.fieldLink RX11 369 "SettlementRing$Account" "pledged" "J", Cond.methodLink RL 262 yX12_pledged, Cond.instanceMethod yX12_pledged, Cond.selects RX12 yX12_pledged yX12_pledged, Cond.code yX12_pledged cX12_pledged 2 (some .long), Cond.methodLink RL 263 yL_limit, Cond.static yL_limit, Cond.codeWith yL_limit cL_limit 4 (some .int) [(0, 8, 11, 13)], Cond.methodLink RL 105 yX11_limit, Cond.instanceMethod yX11_limit, Cond.selects RX11 yX11_limit yX11_limit, Cond.code yX11_limit cX11_limit 2 (some .long), Cond.methodLink RX11 372 yX1_limitOf, Cond.methodLink RL 265 yX12_limit, Cond.instanceMethod yX12_limit, Cond.selects RX12 yX12_limit yX12_limit, Cond.code yX12_limit cX12_limit 2 (some .long), Cond.methodLink RL 266 yL_isSound, Cond.static yL_isSound, Cond.codeWith yL_isSound cL_isSound 4 (some .int) [(0, 16, 19, 13)], Cond.methodLink RL 108 yX11_isSound, Cond.instanceMethod yX11_isSound, Cond.selects RX11 yX11_isSound yX11_isSound]
def wsL_law0_r62 : List Cond := [Cond.code yX11_isSound cX11_isSound 2 (some .boolean), Cond.methodLink RL 268 yX12_isSound, Cond.instanceMethod yX12_isSound, Cond.selects RX12 yX12_isSound yX12_isSound, Cond.code yX12_isSound cX12_isSound 2 (some .boolean), Cond.methodLink RL 269 yL_used, Cond.static yL_used, Cond.codeWith yL_used cL_used 4 (some .int) [(0, 8, 11, 13)], Cond.methodLink RL 111 yX11_used, Cond.instanceMethod yX11_used, Cond.selects RX11 yX11_used yX11_used, Cond.code yX11_used cX11_used 9 (some .double), Cond.constantDouble RX11 379 (9094988921128908188), Cond.methodLink RX11 376 yX0_freeCash, Cond.methodLink RL 272 yX12_used, Cond.instanceMethod yX12_used, Cond.selects RX12 yX12_used yX12_used, Cond.code yX12_used cX12_used 2 (some .double), Cond.methodLink RL 273 yL_ledger, Cond.static yL_ledger, Cond.codeWith yL_ledger cL_ledger 4 (some .int) [(0, 8, 11, 13)], Cond.methodLink RL 115 yX11_ledger, Cond.instanceMethod yX11_ledger, Cond.selects RX11 yX11_ledger yX11_ledger]
def wsL_law0_r63 : List Cond := [Cond.code yX11_ledger cX11_ledger 2 (some .long), Cond.fieldLink RX11 381 "SettlementRing$Account" "ledger" "J", Cond.methodLink RL 275 yX12_ledger, Cond.instanceMethod yX12_ledger, Cond.selects RX12 yX12_ledger yX12_ledger, Cond.code yX12_ledger cX12_ledger 2 (some .long), Cond.methodLink RL 276 yL_messages, Cond.static yL_messages, Cond.codeWith yL_messages cL_messages 4 (some .int) [(0, 9, 12, 13)], Cond.methodLink RL 118 yX11_messages, Cond.instanceMethod yX11_messages, Cond.selects RX11 yX11_messages yX11_messages, Cond.code yX11_messages cX11_messages 2 (some .int), Cond.methodLink RX11 384 yX8_toldTo, Cond.instanceMethod yX8_toldTo, Cond.selects RX8 yX8_toldTo yX8_toldTo, Cond.code yX8_toldTo cX8_toldTo 2 (some .int), Cond.methodLink RL 278 yX12_messages, Cond.instanceMethod yX12_messages, Cond.selects RX12 yX12_messages yX12_messages, Cond.code yX12_messages cX12_messages 2 (some .int), Cond.methodLink RL 279 yL_alleged, Cond.static yL_alleged, Cond.codeWith yL_alleged cL_alleged 4 (some .int) [(0, 9, 12, 13)]]
def wsL_law0_r64 : List Cond := [Cond.methodLink RL 122 yX11_alleged, Cond.instanceMethod yX11_alleged, Cond.selects RX11 yX11_alleged yX11_alleged, Cond.code yX11_alleged cX11_alleged 5 (some .int), Cond.methodLink RL 281 yX12_alleged, Cond.instanceMethod yX12_alleged, Cond.selects RX12 yX12_alleged yX12_alleged, Cond.code yX12_alleged cX12_alleged 4 (some .int), Cond.methodLink RL 282 yL_status, Cond.static yL_status, Cond.codeWith yL_status cL_status 4 (some .int) [(0, 9, 12, 13)], Cond.methodLink RL 125 yX11_status, Cond.instanceMethod yX11_status, Cond.selects RX11 yX11_status yX11_status, Cond.code yX11_status cX11_status 2 (some .int), Cond.methodLink RL 284 yX12_status, Cond.instanceMethod yX12_status, Cond.selects RX12 yX12_status yX12_status, Cond.code yX12_status cX12_status 2 (some .int), Cond.methodLink RL 285 yL_tradeOf, Cond.static yL_tradeOf, Cond.codeWith yL_tradeOf cL_tradeOf 4 (some .int) [(0, 9, 12, 13)], Cond.methodLink RL 128 yX11_tradeOf, Cond.instanceMethod yX11_tradeOf]
def wsL_law0_r65 : List Cond := [Cond.selects RX11 yX11_tradeOf yX11_tradeOf, Cond.code yX11_tradeOf cX11_tradeOf 2 (some .int), Cond.methodLink RL 287 yX12_tradeOf, Cond.instanceMethod yX12_tradeOf, Cond.selects RX12 yX12_tradeOf yX12_tradeOf, Cond.code yX12_tradeOf cX12_tradeOf 2 (some .int), Cond.methodLink RL 288 yL_tradeUnits, Cond.static yL_tradeUnits, Cond.codeWith yL_tradeUnits cL_tradeUnits 4 (some .int) [(0, 8, 11, 13)], Cond.methodLink RL 131 yX11_tradeUnits, Cond.instanceMethod yX11_tradeUnits, Cond.selects RX11 yX11_tradeUnits yX11_tradeUnits, Cond.code yX11_tradeUnits cX11_tradeUnits 2 (some .long), Cond.fieldLink RX11 388 "SettlementRing$Trade" "units" "J", Cond.methodLink RL 290 yX12_tradeUnits, Cond.instanceMethod yX12_tradeUnits, Cond.selects RX12 yX12_tradeUnits yX12_tradeUnits, Cond.code yX12_tradeUnits cX12_tradeUnits 2 (some .long), Cond.methodLink RL 291 yL_tradeAmount, Cond.static yL_tradeAmount, Cond.codeWith yL_tradeAmount cL_tradeAmount 4 (some .int) [(0, 8, 11, 13)], Cond.methodLink RL 134 yX11_tradeAmount, Cond.instanceMethod yX11_tradeAmount, Cond.selects RX11 yX11_tradeAmount yX11_tradeAmount]
def wsL_law0_r66 : List Cond := [Cond.code yX11_tradeAmount cX11_tradeAmount 2 (some .long), Cond.fieldLink RX11 389 "SettlementRing$Trade" "amount" "J", Cond.methodLink RL 293 yX12_tradeAmount, Cond.instanceMethod yX12_tradeAmount, Cond.selects RX12 yX12_tradeAmount yX12_tradeAmount, Cond.code yX12_tradeAmount cX12_tradeAmount 2 (some .long), Cond.methodLink RL 294 yL_age, Cond.static yL_age, Cond.codeWith yL_age cL_age 4 (some .int) [(0, 9, 12, 13)], Cond.methodLink RL 137 yX11_age, Cond.instanceMethod yX11_age, Cond.selects RX11 yX11_age yX11_age, Cond.code yX11_age cX11_age 2 (some .int), Cond.fieldLink RX11 391 "SettlementRing$Trade" "age" "I", Cond.methodLink RL 296 yX12_age, Cond.instanceMethod yX12_age, Cond.selects RX12 yX12_age yX12_age, Cond.code yX12_age cX12_age 2 (some .int), Cond.methodLink RL 297 yL_causer, Cond.static yL_causer, Cond.codeWith yL_causer cL_causer 4 (some .int) [(0, 9, 12, 13), (0, 9, 15, 17)], Cond.methodLink RL 140 yX11_causer, Cond.instanceMethod yX11_causer, Cond.selects RX11 yX11_causer yX11_causer]
def wsL_law0_r67 : List Cond := [Cond.code yX11_causer cX11_causer 3 (some .int), Cond.methodLink RX11 394 yX1_isDue, Cond.methodLink RX11 398 yX1_causerOf, Cond.methodLink RL 299 yX12_causer, Cond.instanceMethod yX12_causer, Cond.selects RX12 yX12_causer yX12_causer, Cond.code yX12_causer cX12_causer 2 (some .int), Cond.methodLink RL 300 yX11_loans, Cond.instanceMethod yX11_loans, Cond.selects RX11 yX11_loans yX11_loans, Cond.code yX11_loans cX11_loans 1 (some .int), Cond.methodLink RL 303 yX12_loans, Cond.instanceMethod yX12_loans, Cond.selects RX12 yX12_loans yX12_loans, Cond.code yX12_loans cX12_loans 1 (some .int), Cond.methodLink RL 304 yL_loan, Cond.static yL_loan, Cond.codeWith yL_loan cL_loan 4 (some .int) [(0, 8, 11, 13)], Cond.methodLink RL 143 yX11_loan, Cond.instanceMethod yX11_loan, Cond.selects RX11 yX11_loan yX11_loan, Cond.code yX11_loan cX11_loan 3 (some .long), Cond.methodLink RL 306 yX12_loan, Cond.instanceMethod yX12_loan]
def wsL_law0_r68 : List Cond := [Cond.selects RX12 yX12_loan yX12_loan, Cond.code yX12_loan cX12_loan 2 (some .long)]
def wsL_law0 : List Cond := (wsL_law0_r1 ++ (wsL_law0_r2 ++ (wsL_law0_r3 ++ (wsL_law0_r4 ++ (wsL_law0_r5 ++ (wsL_law0_r6 ++ (wsL_law0_r7 ++ (wsL_law0_r8 ++ (wsL_law0_r9 ++ (wsL_law0_r10 ++ (wsL_law0_r11 ++ (wsL_law0_r12 ++ (wsL_law0_r13 ++ (wsL_law0_r14 ++ (wsL_law0_r15 ++ (wsL_law0_r16 ++ (wsL_law0_r17 ++ (wsL_law0_r18 ++ (wsL_law0_r19 ++ (wsL_law0_r20 ++ (wsL_law0_r21 ++ (wsL_law0_r22 ++ (wsL_law0_r23 ++ (wsL_law0_r24 ++ (wsL_law0_r25 ++ (wsL_law0_r26 ++ (wsL_law0_r27 ++ (wsL_law0_r28 ++ (wsL_law0_r29 ++ (wsL_law0_r30 ++ (wsL_law0_r31 ++ (wsL_law0_r32 ++ (wsL_law0_r33 ++ (wsL_law0_r34 ++ (wsL_law0_r35 ++ (wsL_law0_r36 ++ (wsL_law0_r37 ++ (wsL_law0_r38 ++ (wsL_law0_r39 ++ (wsL_law0_r40 ++ (wsL_law0_r41 ++ (wsL_law0_r42 ++ (wsL_law0_r43 ++ (wsL_law0_r44 ++ (wsL_law0_r45 ++ (wsL_law0_r46 ++ (wsL_law0_r47 ++ (wsL_law0_r48 ++ (wsL_law0_r49 ++ (wsL_law0_r50 ++ (wsL_law0_r51 ++ (wsL_law0_r52 ++ (wsL_law0_r53 ++ (wsL_law0_r54 ++ (wsL_law0_r55 ++ (wsL_law0_r56 ++ (wsL_law0_r57 ++ (wsL_law0_r58 ++ (wsL_law0_r59 ++ (wsL_law0_r60 ++ (wsL_law0_r61 ++ (wsL_law0_r62 ++ (wsL_law0_r63 ++ (wsL_law0_r64 ++ (wsL_law0_r65 ++ (wsL_law0_r66 ++ (wsL_law0_r67 ++ wsL_law0_r68))))))))))))))))))))))))))))))))))))))))))))))))))))))))))))))))))) ++ wsX110 ++ wsX120 ++ wsX80 ++ wsX10 ++ wsX20 ++ wsX30 ++ wsX00 ++ wsX90 ++ wsX50 ++ wsX100 ++ wsX60 ++ wsX70 ++ wsX40 ++ ([] : List Cond)
def wsL_law : List Cond := wsL_law0 ++ (vx_atS RX11 413 "java/lang/IndexOutOfBoundsException" ["java/lang/RuntimeException", "java/lang/Exception"]).filter goodWord ++ (vx_atS RX11 420 "java/lang/IllegalArgumentException" ["java/lang/RuntimeException", "java/lang/Exception"]).filter goodWord ++ (vx_atS RX11 425 "java/lang/IllegalStateException" ["java/lang/RuntimeException", "java/lang/Exception"]).filter goodWord
set_option maxRecDepth 20000 in
theorem wsL_law_in0 : ∀ w ∈ wsL_law0, w ∈ lw_tbl := fun w h => (goodIn_p wsL_law0 [121, 124, 129, 140, 159, 221, 247, 317, 399, 420, 462, 603, 643, 1607, 976, 980, 983, 1054, 1057, 683, 1078, 1642, 1647, 1652, 1657, 1638, 1101, 1661, 1665, 1108, 1669, 1115, 1119, 1123, 1673, 1130, 754, 696, 700, 1678, 1140, 1144, 1686, 1690, 1151, 1155, 1159, 1163, 1694, 1170, 784, 687, 789, 793, 1699, 1704, 1708, 1712, 1716, 1720, 1179, 728, 1185, 1188, 1192, 1197, 742, 1201, 716, 824, 828, 832, 1724, 1731, 1737, 1741, 1745, 1749, 1208, 1212, 1753, 1757, 1219, 1223, 1227, 1232, 769, 849, 943, 1761, 1765, 1239, 1769, 1246, 1250, 1254, 1773, 1777, 671, 675, 679, 691, 704, 708, 712, 720, 724, 732, 736, 739, 746, 750, 757, 761, 765, 772, 776, 780, 798, 802, 807, 811, 815, 819, 836, 840, 844, 853, 857, 860, 863, 866, 870, 875, 879, 883, 887, 891, 1781, 1785, 1789, 1793, 1797, 1801, 1805, 1809, 1813, 1817, 1821, 1825, 1829, 1833, 1837, 1841, 1845, 1849, 1853, 1857, 1861, 895, 1865, 899, 903, 1869, 1262, 1266, 952, 1271, 1277, 1283, 1287, 1291, 1295, 1299, 1303, 1311, 1316, 1321, 1325, 1329, 1335, 1339, 1343, 1347, 1351, 1355, 1359, 1363, 1368, 1373, 1380, 1387, 1391, 1395, 1874, 1878, 1882, 1886, 1890, 1894, 1899, 1903, 1907, 1911, 1915, 1919, 1923, 1927, 907, 1933, 1403, 1407, 1937, 1941, 911, 915, 919, 922, 930, 934, 939, 948, 956, 962, 1945, 1415, 1949, 1422, 1953, 1430, 1434, 1440, 1957, 1961, 1447, 1965, 1455, 1459, 1969, 1466, 1974, 1473, 1978, 1982, 1480, 1986, 1488, 1990, 1495, 1994, 1502, 1998, 1509, 2002, 1517, 2006, 1524, 2010, 1533, 2014, 1540, 1544, 2018, 1551, 2022, 1558, 2026, 1565, 2030, 1572, 2034, 1579, 2038, 1586, 2042, 1593, 2046, 966, 2050, 1602, 2054] (by decide +kernel) (by decide +kernel) w h).1
theorem wsL_law_x0 : ∀ w ∈ (vx_atS RX11 413 "java/lang/IndexOutOfBoundsException" ["java/lang/RuntimeException", "java/lang/Exception"]).filter goodWord, w ∈ lw_tbl := by decide +kernel
theorem wsL_law_x1 : ∀ w ∈ (vx_atS RX11 420 "java/lang/IllegalArgumentException" ["java/lang/RuntimeException", "java/lang/Exception"]).filter goodWord, w ∈ lw_tbl := by decide +kernel
theorem wsL_law_x2 : ∀ w ∈ (vx_atS RX11 425 "java/lang/IllegalStateException" ["java/lang/RuntimeException", "java/lang/Exception"]).filter goodWord, w ∈ lw_tbl := by decide +kernel
theorem wsL_law_in : ∀ w ∈ wsL_law, w ∈ lw_tbl := fun w h => (List.mem_append.mp h).elim (fun h => (List.mem_append.mp h).elim (fun h => (List.mem_append.mp h).elim (fun h => wsL_law_in0 w h) (fun h => wsL_law_x0 w h)) (fun h => wsL_law_x1 w h)) (fun h => wsL_law_x2 w h)
theorem inlX0 : ∀ w ∈ wsX00, w ∈ wsL_law := fun _ h => List.mem_append_left _ (List.mem_append_left _ (List.mem_append_left _ (List.mem_append_left _ (List.mem_append_left _ (List.mem_append_left _ (List.mem_append_left _ (List.mem_append_left _ (List.mem_append_left _ (List.mem_append_left _ (List.mem_append_right _ h))))))))))
theorem inX0 : ∀ w ∈ wsX00, w ∈ lw_tbl := fun w h => wsL_law_in w (inlX0 w h)
theorem inlX1 : ∀ w ∈ wsX10, w ∈ wsL_law := fun _ h => List.mem_append_left _ (List.mem_append_left _ (List.mem_append_left _ (List.mem_append_left _ (List.mem_append_left _ (List.mem_append_left _ (List.mem_append_left _ (List.mem_append_left _ (List.mem_append_left _ (List.mem_append_left _ (List.mem_append_left _ (List.mem_append_left _ (List.mem_append_left _ (List.mem_append_right _ h)))))))))))))
theorem inX1 : ∀ w ∈ wsX10, w ∈ lw_tbl := fun w h => wsL_law_in w (inlX1 w h)
theorem inlX2 : ∀ w ∈ wsX20, w ∈ wsL_law := fun _ h => List.mem_append_left _ (List.mem_append_left _ (List.mem_append_left _ (List.mem_append_left _ (List.mem_append_left _ (List.mem_append_left _ (List.mem_append_left _ (List.mem_append_left _ (List.mem_append_left _ (List.mem_append_left _ (List.mem_append_left _ (List.mem_append_left _ (List.mem_append_right _ h))))))))))))
theorem inX2 : ∀ w ∈ wsX20, w ∈ lw_tbl := fun w h => wsL_law_in w (inlX2 w h)
theorem inlX3 : ∀ w ∈ wsX30, w ∈ wsL_law := fun _ h => List.mem_append_left _ (List.mem_append_left _ (List.mem_append_left _ (List.mem_append_left _ (List.mem_append_left _ (List.mem_append_left _ (List.mem_append_left _ (List.mem_append_left _ (List.mem_append_left _ (List.mem_append_left _ (List.mem_append_left _ (List.mem_append_right _ h)))))))))))
theorem inX3 : ∀ w ∈ wsX30, w ∈ lw_tbl := fun w h => wsL_law_in w (inlX3 w h)
theorem inlX4 : ∀ w ∈ wsX40, w ∈ wsL_law := fun _ h => List.mem_append_left _ (List.mem_append_left _ (List.mem_append_left _ (List.mem_append_left _ (List.mem_append_right _ h))))
theorem inX4 : ∀ w ∈ wsX40, w ∈ lw_tbl := fun w h => wsL_law_in w (inlX4 w h)
theorem inlX5 : ∀ w ∈ wsX50, w ∈ wsL_law := fun _ h => List.mem_append_left _ (List.mem_append_left _ (List.mem_append_left _ (List.mem_append_left _ (List.mem_append_left _ (List.mem_append_left _ (List.mem_append_left _ (List.mem_append_left _ (List.mem_append_right _ h))))))))
theorem inX5 : ∀ w ∈ wsX50, w ∈ lw_tbl := fun w h => wsL_law_in w (inlX5 w h)
theorem inlX6 : ∀ w ∈ wsX60, w ∈ wsL_law := fun _ h => List.mem_append_left _ (List.mem_append_left _ (List.mem_append_left _ (List.mem_append_left _ (List.mem_append_left _ (List.mem_append_left _ (List.mem_append_right _ h))))))
theorem inX6 : ∀ w ∈ wsX60, w ∈ lw_tbl := fun w h => wsL_law_in w (inlX6 w h)
theorem inlX7 : ∀ w ∈ wsX70, w ∈ wsL_law := fun _ h => List.mem_append_left _ (List.mem_append_left _ (List.mem_append_left _ (List.mem_append_left _ (List.mem_append_left _ (List.mem_append_right _ h)))))
theorem inX7 : ∀ w ∈ wsX70, w ∈ lw_tbl := fun w h => wsL_law_in w (inlX7 w h)
theorem inlX8 : ∀ w ∈ wsX80, w ∈ wsL_law := fun _ h => List.mem_append_left _ (List.mem_append_left _ (List.mem_append_left _ (List.mem_append_left _ (List.mem_append_left _ (List.mem_append_left _ (List.mem_append_left _ (List.mem_append_left _ (List.mem_append_left _ (List.mem_append_left _ (List.mem_append_left _ (List.mem_append_left _ (List.mem_append_left _ (List.mem_append_left _ (List.mem_append_right _ h))))))))))))))
theorem inX8 : ∀ w ∈ wsX80, w ∈ lw_tbl := fun w h => wsL_law_in w (inlX8 w h)
theorem inlX9 : ∀ w ∈ wsX90, w ∈ wsL_law := fun _ h => List.mem_append_left _ (List.mem_append_left _ (List.mem_append_left _ (List.mem_append_left _ (List.mem_append_left _ (List.mem_append_left _ (List.mem_append_left _ (List.mem_append_left _ (List.mem_append_left _ (List.mem_append_right _ h)))))))))
theorem inX9 : ∀ w ∈ wsX90, w ∈ lw_tbl := fun w h => wsL_law_in w (inlX9 w h)
theorem inlX10 : ∀ w ∈ wsX100, w ∈ wsL_law := fun _ h => List.mem_append_left _ (List.mem_append_left _ (List.mem_append_left _ (List.mem_append_left _ (List.mem_append_left _ (List.mem_append_left _ (List.mem_append_left _ (List.mem_append_right _ h)))))))
theorem inX10 : ∀ w ∈ wsX100, w ∈ lw_tbl := fun w h => wsL_law_in w (inlX10 w h)
theorem inlX11 : ∀ w ∈ wsX110, w ∈ wsL_law := fun _ h => List.mem_append_left _ (List.mem_append_left _ (List.mem_append_left _ (List.mem_append_left _ (List.mem_append_left _ (List.mem_append_left _ (List.mem_append_left _ (List.mem_append_left _ (List.mem_append_left _ (List.mem_append_left _ (List.mem_append_left _ (List.mem_append_left _ (List.mem_append_left _ (List.mem_append_left _ (List.mem_append_left _ (List.mem_append_left _ (List.mem_append_right _ h))))))))))))))))
theorem inX11 : ∀ w ∈ wsX110, w ∈ lw_tbl := fun w h => wsL_law_in w (inlX11 w h)
theorem inlX12 : ∀ w ∈ wsX120, w ∈ wsL_law := fun _ h => List.mem_append_left _ (List.mem_append_left _ (List.mem_append_left _ (List.mem_append_left _ (List.mem_append_left _ (List.mem_append_left _ (List.mem_append_left _ (List.mem_append_left _ (List.mem_append_left _ (List.mem_append_left _ (List.mem_append_left _ (List.mem_append_left _ (List.mem_append_left _ (List.mem_append_left _ (List.mem_append_left _ (List.mem_append_right _ h)))))))))))))))
theorem inX12 : ∀ w ∈ wsX120, w ∈ lw_tbl := fun w h => wsL_law_in w (inlX12 w h)
theorem inJ9 : ∀ w ∈ wsJ90, w ∈ lw_tbl := by decide +kernel
theorem inJ0 : ∀ w ∈ wsJ00, w ∈ lw_tbl := by decide +kernel
theorem inJ10 : ∀ w ∈ wsJ100, w ∈ lw_tbl := by decide +kernel
abbrev vwCl : List vw_C := [(RX0, TX0, 12), (RX1, TX1, 18), (RX2, TX2, 11), (RX3, TX3, 1), (RX4, TX4, 13), (RX5, TX5, 13), (RX6, TX6, 3), (RX7, TX7, 7), (RX8, TX8, 1), (RX9, TX9, 4), (RX10, TX10, 13), (RX11, TX11, 6), (RX12, TX12, 8)]
