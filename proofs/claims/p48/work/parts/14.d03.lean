theorem dX3_growOlder_0 : decode cX3_growOlder 0 = .ok (.iconst 0, 1) := by decide +kernel
theorem dX3_growOlder_1 : decode cX3_growOlder 1 = .ok (.istore_n 1, 1) := by decide +kernel
theorem dX3_growOlder_2 : decode cX3_growOlder 2 = .ok (.iload_n 1, 1) := by decide +kernel
theorem dX3_growOlder_3 : decode cX3_growOlder 3 = .ok (.aload_n 0, 1) := by decide +kernel
theorem dX3_growOlder_4 : decode cX3_growOlder 4 = .ok (.getfield 9, 3) := by decide +kernel
theorem dX3_growOlder_7 : decode cX3_growOlder 7 = .ok (.getfield 63, 3) := by decide +kernel
theorem dX3_growOlder_10 : decode cX3_growOlder 10 = .ok (.if_icmp .ge 63, 3) := by decide +kernel
theorem dX3_growOlder_13 : decode cX3_growOlder 13 = .ok (.aload_n 0, 1) := by decide +kernel
theorem dX3_growOlder_14 : decode cX3_growOlder 14 = .ok (.getfield 9, 3) := by decide +kernel
theorem dX3_growOlder_17 : decode cX3_growOlder 17 = .ok (.iload_n 1, 1) := by decide +kernel
theorem dX3_growOlder_18 : decode cX3_growOlder 18 = .ok (.invokevirtual 66, 3) := by decide +kernel
theorem dX3_growOlder_21 : decode cX3_growOlder 21 = .ok (.astore_n 2, 1) := by decide +kernel
theorem dX3_growOlder_22 : decode cX3_growOlder 22 = .ok (.aload_n 0, 1) := by decide +kernel
theorem dX3_growOlder_23 : decode cX3_growOlder 23 = .ok (.getfield 9, 3) := by decide +kernel
theorem dX3_growOlder_26 : decode cX3_growOlder 26 = .ok (.aload_n 2, 1) := by decide +kernel
theorem dX3_growOlder_27 : decode cX3_growOlder 27 = .ok (.invokevirtual 73, 3) := by decide +kernel
theorem dX3_growOlder_30 : decode cX3_growOlder 30 = .ok (.ifCond .eq 37, 3) := by decide +kernel
theorem dX3_growOlder_33 : decode cX3_growOlder 33 = .ok (.aload_n 2, 1) := by decide +kernel
theorem dX3_growOlder_34 : decode cX3_growOlder 34 = .ok (.dup, 1) := by decide +kernel
theorem dX3_growOlder_35 : decode cX3_growOlder 35 = .ok (.getfield 280, 3) := by decide +kernel
theorem dX3_growOlder_38 : decode cX3_growOlder 38 = .ok (.iconst 1, 1) := by decide +kernel
theorem dX3_growOlder_39 : decode cX3_growOlder 39 = .ok (.iadd, 1) := by decide +kernel
theorem dX3_growOlder_40 : decode cX3_growOlder 40 = .ok (.putfield 280, 3) := by decide +kernel
theorem dX3_growOlder_43 : decode cX3_growOlder 43 = .ok (.aload_n 2, 1) := by decide +kernel
theorem dX3_growOlder_44 : decode cX3_growOlder 44 = .ok (.getfield 280, 3) := by decide +kernel
theorem dX3_growOlder_47 : decode cX3_growOlder 47 = .ok (.iconst 5, 1) := by decide +kernel
theorem dX3_growOlder_48 : decode cX3_growOlder 48 = .ok (.if_icmp .ne 19, 3) := by decide +kernel
theorem dX3_growOlder_51 : decode cX3_growOlder 51 = .ok (.aload_n 0, 1) := by decide +kernel
theorem dX3_growOlder_52 : decode cX3_growOlder 52 = .ok (.getfield 9, 3) := by decide +kernel
theorem dX3_growOlder_55 : decode cX3_growOlder 55 = .ok (.aload_n 2, 1) := by decide +kernel
theorem dX3_growOlder_56 : decode cX3_growOlder 56 = .ok (.invokevirtual 246, 3) := by decide +kernel
theorem dX3_growOlder_59 : decode cX3_growOlder 59 = .ok (.ifCond .eq 8, 3) := by decide +kernel
theorem dX3_growOlder_62 : decode cX3_growOlder 62 = .ok (.aload_n 0, 1) := by decide +kernel
theorem dX3_growOlder_63 : decode cX3_growOlder 63 = .ok (.aload_n 2, 1) := by decide +kernel
theorem dX3_growOlder_64 : decode cX3_growOlder 64 = .ok (.invokevirtual 283, 3) := by decide +kernel
theorem dX3_growOlder_67 : decode cX3_growOlder 67 = .ok (.iinc 1 1, 3) := by decide +kernel
theorem dX3_growOlder_70 : decode cX3_growOlder 70 = .ok (.goto (-68), 3) := by decide +kernel
theorem dX3_growOlder_73 : decode cX3_growOlder 73 = .ok (.return_, 1) := by decide +kernel
theorem dX3_buyIn_0 : decode cX3_buyIn 0 = .ok (.aload_n 0, 1) := by decide +kernel
theorem dX3_buyIn_1 : decode cX3_buyIn 1 = .ok (.getfield 9, 3) := by decide +kernel
theorem dX3_buyIn_4 : decode cX3_buyIn 4 = .ok (.aload_n 1, 1) := by decide +kernel
theorem dX3_buyIn_5 : decode cX3_buyIn 5 = .ok (.getfield 77, 3) := by decide +kernel
theorem dX3_buyIn_8 : decode cX3_buyIn 8 = .ok (.aload_n 1, 1) := by decide +kernel
theorem dX3_buyIn_9 : decode cX3_buyIn 9 = .ok (.getfield 80, 3) := by decide +kernel
theorem dX3_buyIn_12 : decode cX3_buyIn 12 = .ok (.invokevirtual 261, 3) := by decide +kernel
theorem dX3_buyIn_15 : decode cX3_buyIn 15 = .ok (.lstore_n 2, 1) := by decide +kernel
theorem dX3_buyIn_16 : decode cX3_buyIn 16 = .ok (.aload_n 0, 1) := by decide +kernel
theorem dX3_buyIn_17 : decode cX3_buyIn 17 = .ok (.getfield 9, 3) := by decide +kernel
theorem dX3_buyIn_20 : decode cX3_buyIn 20 = .ok (.aload_n 1, 1) := by decide +kernel
theorem dX3_buyIn_21 : decode cX3_buyIn 21 = .ok (.getfield 163, 3) := by decide +kernel
theorem dX3_buyIn_24 : decode cX3_buyIn 24 = .ok (.aload_n 1, 1) := by decide +kernel
theorem dX3_buyIn_25 : decode cX3_buyIn 25 = .ok (.getfield 166, 3) := by decide +kernel
theorem dX3_buyIn_28 : decode cX3_buyIn 28 = .ok (.lconst 0, 1) := by decide +kernel
theorem dX3_buyIn_29 : decode cX3_buyIn 29 = .ok (.lload_n 2, 1) := by decide +kernel
theorem dX3_buyIn_30 : decode cX3_buyIn 30 = .ok (.aload_n 1, 1) := by decide +kernel
theorem dX3_buyIn_31 : decode cX3_buyIn 31 = .ok (.getfield 286, 3) := by decide +kernel
theorem dX3_buyIn_34 : decode cX3_buyIn 34 = .ok (.lsub, 1) := by decide +kernel
theorem dX3_buyIn_35 : decode cX3_buyIn 35 = .ok (.invokestatic 289, 3) := by decide +kernel
theorem dX3_buyIn_38 : decode cX3_buyIn 38 = .ok (.invokevirtual 172, 3) := by decide +kernel
theorem dX3_buyIn_41 : decode cX3_buyIn 41 = .ok (.aload_n 0, 1) := by decide +kernel
theorem dX3_buyIn_42 : decode cX3_buyIn 42 = .ok (.getfield 9, 3) := by decide +kernel
theorem dX3_buyIn_45 : decode cX3_buyIn 45 = .ok (.aload_n 1, 1) := by decide +kernel
theorem dX3_buyIn_46 : decode cX3_buyIn 46 = .ok (.invokevirtual 216, 3) := by decide +kernel
theorem dX3_buyIn_49 : decode cX3_buyIn 49 = .ok (.return_, 1) := by decide +kernel
theorem dX4_entitledOf_0 : decode cX4_entitledOf 0 = .ok (.iload_n 1, 1) := by decide +kernel
theorem dX4_entitledOf_1 : decode cX4_entitledOf 1 = .ok (.ifCond .lt 21, 3) := by decide +kernel
theorem dX4_entitledOf_4 : decode cX4_entitledOf 4 = .ok (.iload_n 1, 1) := by decide +kernel
theorem dX4_entitledOf_5 : decode cX4_entitledOf 5 = .ok (.aload_n 0, 1) := by decide +kernel
theorem dX4_entitledOf_6 : decode cX4_entitledOf 6 = .ok (.getfield 9, 3) := by decide +kernel
theorem dX4_entitledOf_9 : decode cX4_entitledOf 9 = .ok (.arraylength, 1) := by decide +kernel
theorem dX4_entitledOf_10 : decode cX4_entitledOf 10 = .ok (.if_icmp .ge 12, 3) := by decide +kernel
theorem dX4_entitledOf_13 : decode cX4_entitledOf 13 = .ok (.aload_n 0, 1) := by decide +kernel
theorem dX4_entitledOf_14 : decode cX4_entitledOf 14 = .ok (.getfield 9, 3) := by decide +kernel
theorem dX4_entitledOf_17 : decode cX4_entitledOf 17 = .ok (.iload_n 1, 1) := by decide +kernel
theorem dX4_entitledOf_18 : decode cX4_entitledOf 18 = .ok (.laload, 1) := by decide +kernel
theorem dX4_entitledOf_19 : decode cX4_entitledOf 19 = .ok (.goto 4, 3) := by decide +kernel
theorem dX4_entitledOf_22 : decode cX4_entitledOf 22 = .ok (.lconst 0, 1) := by decide +kernel
theorem dX4_entitledOf_23 : decode cX4_entitledOf 23 = .ok (.lreturn, 1) := by decide +kernel
theorem dX4_setEntitled_0 : decode cX4_setEntitled 0 = .ok (.iload_n 1, 1) := by decide +kernel
theorem dX4_setEntitled_1 : decode cX4_setEntitled 1 = .ok (.ifCond .lt 19, 3) := by decide +kernel
theorem dX4_setEntitled_4 : decode cX4_setEntitled 4 = .ok (.iload_n 1, 1) := by decide +kernel
theorem dX4_setEntitled_5 : decode cX4_setEntitled 5 = .ok (.aload_n 0, 1) := by decide +kernel
theorem dX4_setEntitled_6 : decode cX4_setEntitled 6 = .ok (.getfield 9, 3) := by decide +kernel
theorem dX4_setEntitled_9 : decode cX4_setEntitled 9 = .ok (.arraylength, 1) := by decide +kernel
theorem dX4_setEntitled_10 : decode cX4_setEntitled 10 = .ok (.if_icmp .ge 10, 3) := by decide +kernel
theorem dX4_setEntitled_13 : decode cX4_setEntitled 13 = .ok (.aload_n 0, 1) := by decide +kernel
theorem dX4_setEntitled_14 : decode cX4_setEntitled 14 = .ok (.getfield 9, 3) := by decide +kernel
theorem dX4_setEntitled_17 : decode cX4_setEntitled 17 = .ok (.iload_n 1, 1) := by decide +kernel
theorem dX4_setEntitled_18 : decode cX4_setEntitled 18 = .ok (.lload_n 2, 1) := by decide +kernel
theorem dX4_setEntitled_19 : decode cX4_setEntitled 19 = .ok (.lastore, 1) := by decide +kernel
theorem dX4_setEntitled_20 : decode cX4_setEntitled 20 = .ok (.return_, 1) := by decide +kernel
theorem dX4_electedOf_0 : decode cX4_electedOf 0 = .ok (.iload_n 1, 1) := by decide +kernel
theorem dX4_electedOf_1 : decode cX4_electedOf 1 = .ok (.ifCond .lt 21, 3) := by decide +kernel
theorem dX4_electedOf_4 : decode cX4_electedOf 4 = .ok (.iload_n 1, 1) := by decide +kernel
theorem dX4_electedOf_5 : decode cX4_electedOf 5 = .ok (.aload_n 0, 1) := by decide +kernel
theorem dX4_electedOf_6 : decode cX4_electedOf 6 = .ok (.getfield 15, 3) := by decide +kernel
theorem dX4_electedOf_9 : decode cX4_electedOf 9 = .ok (.arraylength, 1) := by decide +kernel
theorem dX4_electedOf_10 : decode cX4_electedOf 10 = .ok (.if_icmp .ge 12, 3) := by decide +kernel
theorem dX4_electedOf_13 : decode cX4_electedOf 13 = .ok (.aload_n 0, 1) := by decide +kernel
theorem dX4_electedOf_14 : decode cX4_electedOf 14 = .ok (.getfield 15, 3) := by decide +kernel
theorem dX4_electedOf_17 : decode cX4_electedOf 17 = .ok (.iload_n 1, 1) := by decide +kernel
theorem dX4_electedOf_18 : decode cX4_electedOf 18 = .ok (.laload, 1) := by decide +kernel
theorem dX4_electedOf_19 : decode cX4_electedOf 19 = .ok (.goto 4, 3) := by decide +kernel
theorem dX4_electedOf_22 : decode cX4_electedOf 22 = .ok (.lconst 0, 1) := by decide +kernel
theorem dX4_electedOf_23 : decode cX4_electedOf 23 = .ok (.lreturn, 1) := by decide +kernel
theorem dX4_claimedOf_0 : decode cX4_claimedOf 0 = .ok (.iload_n 1, 1) := by decide +kernel
theorem dX4_claimedOf_1 : decode cX4_claimedOf 1 = .ok (.ifCond .lt 21, 3) := by decide +kernel
theorem dX4_claimedOf_4 : decode cX4_claimedOf 4 = .ok (.iload_n 1, 1) := by decide +kernel
theorem dX4_claimedOf_5 : decode cX4_claimedOf 5 = .ok (.aload_n 0, 1) := by decide +kernel
theorem dX4_claimedOf_6 : decode cX4_claimedOf 6 = .ok (.getfield 18, 3) := by decide +kernel
theorem dX4_claimedOf_9 : decode cX4_claimedOf 9 = .ok (.arraylength, 1) := by decide +kernel
theorem dX4_claimedOf_10 : decode cX4_claimedOf 10 = .ok (.if_icmp .ge 12, 3) := by decide +kernel
theorem dX4_claimedOf_13 : decode cX4_claimedOf 13 = .ok (.aload_n 0, 1) := by decide +kernel
theorem dX4_claimedOf_14 : decode cX4_claimedOf 14 = .ok (.getfield 18, 3) := by decide +kernel
theorem dX4_claimedOf_17 : decode cX4_claimedOf 17 = .ok (.iload_n 1, 1) := by decide +kernel
theorem dX4_claimedOf_18 : decode cX4_claimedOf 18 = .ok (.laload, 1) := by decide +kernel
theorem dX4_claimedOf_19 : decode cX4_claimedOf 19 = .ok (.goto 4, 3) := by decide +kernel
theorem dX4_claimedOf_22 : decode cX4_claimedOf 22 = .ok (.lconst 0, 1) := by decide +kernel
theorem dX4_claimedOf_23 : decode cX4_claimedOf 23 = .ok (.lreturn, 1) := by decide +kernel
theorem dX4_setClaimed_0 : decode cX4_setClaimed 0 = .ok (.iload_n 1, 1) := by decide +kernel
theorem dX4_setClaimed_1 : decode cX4_setClaimed 1 = .ok (.ifCond .lt 19, 3) := by decide +kernel
theorem dX4_setClaimed_4 : decode cX4_setClaimed 4 = .ok (.iload_n 1, 1) := by decide +kernel
theorem dX4_setClaimed_5 : decode cX4_setClaimed 5 = .ok (.aload_n 0, 1) := by decide +kernel
theorem dX4_setClaimed_6 : decode cX4_setClaimed 6 = .ok (.getfield 18, 3) := by decide +kernel
theorem dX4_setClaimed_9 : decode cX4_setClaimed 9 = .ok (.arraylength, 1) := by decide +kernel
theorem dX4_setClaimed_10 : decode cX4_setClaimed 10 = .ok (.if_icmp .ge 10, 3) := by decide +kernel
theorem dX4_setClaimed_13 : decode cX4_setClaimed 13 = .ok (.aload_n 0, 1) := by decide +kernel
theorem dX4_setClaimed_14 : decode cX4_setClaimed 14 = .ok (.getfield 18, 3) := by decide +kernel
theorem dX4_setClaimed_17 : decode cX4_setClaimed 17 = .ok (.iload_n 1, 1) := by decide +kernel
theorem dX4_setClaimed_18 : decode cX4_setClaimed 18 = .ok (.lload_n 2, 1) := by decide +kernel
theorem dX4_setClaimed_19 : decode cX4_setClaimed 19 = .ok (.lastore, 1) := by decide +kernel
theorem dX4_setClaimed_20 : decode cX4_setClaimed 20 = .ok (.return_, 1) := by decide +kernel
theorem dX4_splitOf_0 : decode cX4_splitOf 0 = .ok (.aload_n 0, 1) := by decide +kernel
theorem dX4_splitOf_1 : decode cX4_splitOf 1 = .ok (.getfield 21, 3) := by decide +kernel
theorem dX4_splitOf_4 : decode cX4_splitOf 4 = .ok (.ifCond .ne 7, 3) := by decide +kernel
theorem dX4_splitOf_7 : decode cX4_splitOf 7 = .ok (.lload_n 1, 1) := by decide +kernel
theorem dX4_splitOf_8 : decode cX4_splitOf 8 = .ok (.goto 16, 3) := by decide +kernel
theorem dX4_splitOf_11 : decode cX4_splitOf 11 = .ok (.lload_n 1, 1) := by decide +kernel
theorem dX4_splitOf_12 : decode cX4_splitOf 12 = .ok (.aload_n 0, 1) := by decide +kernel
theorem dX4_splitOf_13 : decode cX4_splitOf 13 = .ok (.getfield 25, 3) := by decide +kernel
theorem dX4_splitOf_16 : decode cX4_splitOf 16 = .ok (.i2l, 1) := by decide +kernel
theorem dX4_splitOf_17 : decode cX4_splitOf 17 = .ok (.lmul, 1) := by decide +kernel
theorem dX4_splitOf_18 : decode cX4_splitOf 18 = .ok (.aload_n 0, 1) := by decide +kernel
theorem dX4_splitOf_19 : decode cX4_splitOf 19 = .ok (.getfield 21, 3) := by decide +kernel
theorem dX4_splitOf_22 : decode cX4_splitOf 22 = .ok (.i2l, 1) := by decide +kernel
theorem dX4_splitOf_23 : decode cX4_splitOf 23 = .ok (.ldiv, 1) := by decide +kernel
theorem dX4_splitOf_24 : decode cX4_splitOf 24 = .ok (.lreturn, 1) := by decide +kernel
theorem dX4_askedBy_0 : decode cX4_askedBy 0 = .ok (.aload_n 0, 1) := by decide +kernel
theorem dX4_askedBy_1 : decode cX4_askedBy 1 = .ok (.getfield 21, 3) := by decide +kernel
theorem dX4_askedBy_4 : decode cX4_askedBy 4 = .ok (.ifCond .ne 7, 3) := by decide +kernel
theorem dX4_askedBy_7 : decode cX4_askedBy 7 = .ok (.lconst 0, 1) := by decide +kernel
theorem dX4_askedBy_8 : decode cX4_askedBy 8 = .ok (.goto 14, 3) := by decide +kernel
theorem dX4_askedBy_11 : decode cX4_askedBy 11 = .ok (.aload_n 0, 1) := by decide +kernel
theorem dX4_askedBy_12 : decode cX4_askedBy 12 = .ok (.iload_n 1, 1) := by decide +kernel
theorem dX4_askedBy_13 : decode cX4_askedBy 13 = .ok (.invokevirtual 28, 3) := by decide +kernel
theorem dX4_askedBy_16 : decode cX4_askedBy 16 = .ok (.aload_n 0, 1) := by decide +kernel
theorem dX4_askedBy_17 : decode cX4_askedBy 17 = .ok (.getfield 21, 3) := by decide +kernel
theorem dX4_askedBy_20 : decode cX4_askedBy 20 = .ok (.i2l, 1) := by decide +kernel
theorem dX4_askedBy_21 : decode cX4_askedBy 21 = .ok (.ldiv, 1) := by decide +kernel
theorem dX4_askedBy_22 : decode cX4_askedBy 22 = .ok (.lreturn, 1) := by decide +kernel
theorem dX4_copyFrom_0 : decode cX4_copyFrom 0 = .ok (.aload_n 0, 1) := by decide +kernel
theorem dX4_copyFrom_1 : decode cX4_copyFrom 1 = .ok (.aload_n 1, 1) := by decide +kernel
theorem dX4_copyFrom_2 : decode cX4_copyFrom 2 = .ok (.getfield 32, 3) := by decide +kernel
theorem dX4_copyFrom_5 : decode cX4_copyFrom 5 = .ok (.putfield 32, 3) := by decide +kernel
theorem dX4_copyFrom_8 : decode cX4_copyFrom 8 = .ok (.aload_n 0, 1) := by decide +kernel
theorem dX4_copyFrom_9 : decode cX4_copyFrom 9 = .ok (.aload_n 1, 1) := by decide +kernel
theorem dX4_copyFrom_10 : decode cX4_copyFrom 10 = .ok (.getfield 35, 3) := by decide +kernel
theorem dX4_copyFrom_13 : decode cX4_copyFrom 13 = .ok (.putfield 35, 3) := by decide +kernel
theorem dX4_copyFrom_16 : decode cX4_copyFrom 16 = .ok (.aload_n 0, 1) := by decide +kernel
theorem dX4_copyFrom_17 : decode cX4_copyFrom 17 = .ok (.aload_n 1, 1) := by decide +kernel
theorem dX4_copyFrom_18 : decode cX4_copyFrom 18 = .ok (.getfield 25, 3) := by decide +kernel
theorem dX4_copyFrom_21 : decode cX4_copyFrom 21 = .ok (.putfield 25, 3) := by decide +kernel
theorem dX4_copyFrom_24 : decode cX4_copyFrom 24 = .ok (.aload_n 0, 1) := by decide +kernel
theorem dX4_copyFrom_25 : decode cX4_copyFrom 25 = .ok (.aload_n 1, 1) := by decide +kernel
theorem dX4_copyFrom_26 : decode cX4_copyFrom 26 = .ok (.getfield 21, 3) := by decide +kernel
theorem dX4_copyFrom_29 : decode cX4_copyFrom 29 = .ok (.putfield 21, 3) := by decide +kernel
theorem dX4_copyFrom_32 : decode cX4_copyFrom 32 = .ok (.aload_n 0, 1) := by decide +kernel
theorem dX4_copyFrom_33 : decode cX4_copyFrom 33 = .ok (.aload_n 1, 1) := by decide +kernel
theorem dX4_copyFrom_34 : decode cX4_copyFrom 34 = .ok (.getfield 38, 3) := by decide +kernel
theorem dX4_copyFrom_37 : decode cX4_copyFrom 37 = .ok (.putfield 38, 3) := by decide +kernel
theorem dX4_copyFrom_40 : decode cX4_copyFrom 40 = .ok (.aload_n 0, 1) := by decide +kernel
theorem dX4_copyFrom_41 : decode cX4_copyFrom 41 = .ok (.aload_n 1, 1) := by decide +kernel
theorem dX4_copyFrom_42 : decode cX4_copyFrom 42 = .ok (.getfield 41, 3) := by decide +kernel
theorem dX4_copyFrom_45 : decode cX4_copyFrom 45 = .ok (.putfield 41, 3) := by decide +kernel
theorem dX4_copyFrom_48 : decode cX4_copyFrom 48 = .ok (.aload_n 0, 1) := by decide +kernel
theorem dX4_copyFrom_49 : decode cX4_copyFrom 49 = .ok (.aload_n 1, 1) := by decide +kernel
theorem dX4_copyFrom_50 : decode cX4_copyFrom 50 = .ok (.getfield 44, 3) := by decide +kernel
theorem dX4_copyFrom_53 : decode cX4_copyFrom 53 = .ok (.putfield 44, 3) := by decide +kernel
theorem dX4_copyFrom_56 : decode cX4_copyFrom 56 = .ok (.aload_n 0, 1) := by decide +kernel
theorem dX4_copyFrom_57 : decode cX4_copyFrom 57 = .ok (.aload_n 1, 1) := by decide +kernel
theorem dX4_copyFrom_58 : decode cX4_copyFrom 58 = .ok (.getfield 47, 3) := by decide +kernel
theorem dX4_copyFrom_61 : decode cX4_copyFrom 61 = .ok (.putfield 47, 3) := by decide +kernel
theorem dX4_copyFrom_64 : decode cX4_copyFrom 64 = .ok (.aload_n 0, 1) := by decide +kernel
theorem dX4_copyFrom_65 : decode cX4_copyFrom 65 = .ok (.aload_n 1, 1) := by decide +kernel
theorem dX4_copyFrom_66 : decode cX4_copyFrom 66 = .ok (.getfield 51, 3) := by decide +kernel
theorem dX4_copyFrom_69 : decode cX4_copyFrom 69 = .ok (.putfield 51, 3) := by decide +kernel
theorem dX4_copyFrom_72 : decode cX4_copyFrom 72 = .ok (.aload_n 0, 1) := by decide +kernel
theorem dX4_copyFrom_73 : decode cX4_copyFrom 73 = .ok (.aload_n 1, 1) := by decide +kernel
theorem dX4_copyFrom_74 : decode cX4_copyFrom 74 = .ok (.getfield 54, 3) := by decide +kernel
theorem dX4_copyFrom_77 : decode cX4_copyFrom 77 = .ok (.putfield 54, 3) := by decide +kernel
theorem dX4_copyFrom_80 : decode cX4_copyFrom 80 = .ok (.aload_n 1, 1) := by decide +kernel
theorem dX4_copyFrom_81 : decode cX4_copyFrom 81 = .ok (.getfield 9, 3) := by decide +kernel
theorem dX4_copyFrom_84 : decode cX4_copyFrom 84 = .ok (.aload_n 0, 1) := by decide +kernel
theorem dX4_copyFrom_85 : decode cX4_copyFrom 85 = .ok (.getfield 9, 3) := by decide +kernel
theorem dX4_copyFrom_88 : decode cX4_copyFrom 88 = .ok (.invokestatic 57, 3) := by decide +kernel
theorem dX4_copyFrom_91 : decode cX4_copyFrom 91 = .ok (.aload_n 1, 1) := by decide +kernel
theorem dX4_copyFrom_92 : decode cX4_copyFrom 92 = .ok (.getfield 15, 3) := by decide +kernel
theorem dX4_copyFrom_95 : decode cX4_copyFrom 95 = .ok (.aload_n 0, 1) := by decide +kernel
theorem dX4_copyFrom_96 : decode cX4_copyFrom 96 = .ok (.getfield 15, 3) := by decide +kernel
theorem dX4_copyFrom_99 : decode cX4_copyFrom 99 = .ok (.invokestatic 57, 3) := by decide +kernel
theorem dX4_copyFrom_102 : decode cX4_copyFrom 102 = .ok (.aload_n 1, 1) := by decide +kernel
theorem dX4_copyFrom_103 : decode cX4_copyFrom 103 = .ok (.getfield 18, 3) := by decide +kernel
theorem dX4_copyFrom_106 : decode cX4_copyFrom 106 = .ok (.aload_n 0, 1) := by decide +kernel
theorem dX4_copyFrom_107 : decode cX4_copyFrom 107 = .ok (.getfield 18, 3) := by decide +kernel
theorem dX4_copyFrom_110 : decode cX4_copyFrom 110 = .ok (.invokestatic 57, 3) := by decide +kernel
theorem dX4_copyFrom_113 : decode cX4_copyFrom 113 = .ok (.return_, 1) := by decide +kernel
theorem dX5_isAlive_0 : decode cX5_isAlive 0 = .ok (.aload_n 0, 1) := by decide +kernel
theorem dX5_isAlive_1 : decode cX5_isAlive 1 = .ok (.getfield 9, 3) := by decide +kernel
theorem dX5_isAlive_4 : decode cX5_isAlive 4 = .ok (.ifCond .eq 11, 3) := by decide +kernel
theorem dX5_isAlive_7 : decode cX5_isAlive 7 = .ok (.aload_n 0, 1) := by decide +kernel
theorem dX5_isAlive_8 : decode cX5_isAlive 8 = .ok (.getfield 9, 3) := by decide +kernel
theorem dX5_isAlive_11 : decode cX5_isAlive 11 = .ok (.iconst 1, 1) := by decide +kernel
theorem dX5_isAlive_12 : decode cX5_isAlive 12 = .ok (.if_icmp .ne 7, 3) := by decide +kernel
theorem dX5_isAlive_15 : decode cX5_isAlive 15 = .ok (.iconst 1, 1) := by decide +kernel
theorem dX5_isAlive_16 : decode cX5_isAlive 16 = .ok (.goto 4, 3) := by decide +kernel
theorem dX5_isAlive_19 : decode cX5_isAlive 19 = .ok (.iconst 0, 1) := by decide +kernel
theorem dX5_isAlive_20 : decode cX5_isAlive 20 = .ok (.ireturn, 1) := by decide +kernel
theorem dX5_fits_0 : decode cX5_fits 0 = .ok (.aload_n 0, 1) := by decide +kernel
theorem dX5_fits_1 : decode cX5_fits 1 = .ok (.getfield 9, 3) := by decide +kernel
theorem dX5_fits_4 : decode cX5_fits 4 = .ok (.ifCond .ne 86, 3) := by decide +kernel
theorem dX5_fits_7 : decode cX5_fits 7 = .ok (.aload_n 0, 1) := by decide +kernel
theorem dX5_fits_8 : decode cX5_fits 8 = .ok (.getfield 18, 3) := by decide +kernel
theorem dX5_fits_11 : decode cX5_fits 11 = .ok (.aload_n 1, 1) := by decide +kernel
theorem dX5_fits_12 : decode cX5_fits 12 = .ok (.getfield 21, 3) := by decide +kernel
theorem dX5_fits_15 : decode cX5_fits 15 = .ok (.if_icmp .ne 75, 3) := by decide +kernel
theorem dX5_fits_18 : decode cX5_fits 18 = .ok (.aload_n 0, 1) := by decide +kernel
theorem dX5_fits_19 : decode cX5_fits 19 = .ok (.getfield 21, 3) := by decide +kernel
theorem dX5_fits_22 : decode cX5_fits 22 = .ok (.aload_n 1, 1) := by decide +kernel
theorem dX5_fits_23 : decode cX5_fits 23 = .ok (.getfield 18, 3) := by decide +kernel
theorem dX5_fits_26 : decode cX5_fits 26 = .ok (.if_icmp .ne 64, 3) := by decide +kernel
theorem dX5_fits_29 : decode cX5_fits 29 = .ok (.aload_n 0, 1) := by decide +kernel
theorem dX5_fits_30 : decode cX5_fits 30 = .ok (.getfield 24, 3) := by decide +kernel
theorem dX5_fits_33 : decode cX5_fits 33 = .ok (.aload_n 1, 1) := by decide +kernel
theorem dX5_fits_34 : decode cX5_fits 34 = .ok (.getfield 24, 3) := by decide +kernel
theorem dX5_fits_37 : decode cX5_fits 37 = .ok (.if_icmp .eq 53, 3) := by decide +kernel
theorem dX5_fits_40 : decode cX5_fits 40 = .ok (.aload_n 0, 1) := by decide +kernel
theorem dX5_fits_41 : decode cX5_fits 41 = .ok (.getfield 28, 3) := by decide +kernel
theorem dX5_fits_44 : decode cX5_fits 44 = .ok (.aload_n 1, 1) := by decide +kernel
theorem dX5_fits_45 : decode cX5_fits 45 = .ok (.getfield 28, 3) := by decide +kernel
theorem dX5_fits_48 : decode cX5_fits 48 = .ok (.if_icmp .ne 42, 3) := by decide +kernel
theorem dX5_fits_51 : decode cX5_fits 51 = .ok (.aload_n 0, 1) := by decide +kernel
theorem dX5_fits_52 : decode cX5_fits 52 = .ok (.getfield 31, 3) := by decide +kernel
theorem dX5_fits_55 : decode cX5_fits 55 = .ok (.aload_n 1, 1) := by decide +kernel
theorem dX5_fits_56 : decode cX5_fits 56 = .ok (.getfield 31, 3) := by decide +kernel
theorem dX5_fits_59 : decode cX5_fits 59 = .ok (.if_icmp .ne 31, 3) := by decide +kernel
theorem dX5_fits_62 : decode cX5_fits 62 = .ok (.aload_n 0, 1) := by decide +kernel
theorem dX5_fits_63 : decode cX5_fits 63 = .ok (.getfield 34, 3) := by decide +kernel
theorem dX5_fits_66 : decode cX5_fits 66 = .ok (.aload_n 1, 1) := by decide +kernel
theorem dX5_fits_67 : decode cX5_fits 67 = .ok (.getfield 34, 3) := by decide +kernel
theorem dX5_fits_70 : decode cX5_fits 70 = .ok (.if_icmp .ne 20, 3) := by decide +kernel
theorem dX5_fits_73 : decode cX5_fits 73 = .ok (.aload_n 0, 1) := by decide +kernel
theorem dX5_fits_74 : decode cX5_fits 74 = .ok (.getfield 37, 3) := by decide +kernel
theorem dX5_fits_77 : decode cX5_fits 77 = .ok (.iload_n 2, 1) := by decide +kernel
theorem dX5_fits_78 : decode cX5_fits 78 = .ok (.isub, 1) := by decide +kernel
theorem dX5_fits_79 : decode cX5_fits 79 = .ok (.invokestatic 40, 3) := by decide +kernel
theorem dX5_fits_82 : decode cX5_fits 82 = .ok (.iconst 2, 1) := by decide +kernel
theorem dX5_fits_83 : decode cX5_fits 83 = .ok (.if_icmp .gt 7, 3) := by decide +kernel
theorem dX5_fits_86 : decode cX5_fits 86 = .ok (.iconst 1, 1) := by decide +kernel
theorem dX5_fits_87 : decode cX5_fits 87 = .ok (.goto 4, 3) := by decide +kernel
theorem dX5_fits_90 : decode cX5_fits 90 = .ok (.iconst 0, 1) := by decide +kernel
theorem dX5_fits_91 : decode cX5_fits 91 = .ok (.ireturn, 1) := by decide +kernel
theorem dX5_copyFrom_0 : decode cX5_copyFrom 0 = .ok (.aload_n 0, 1) := by decide +kernel
theorem dX5_copyFrom_1 : decode cX5_copyFrom 1 = .ok (.aload_n 1, 1) := by decide +kernel
theorem dX5_copyFrom_2 : decode cX5_copyFrom 2 = .ok (.getfield 18, 3) := by decide +kernel
theorem dX5_copyFrom_5 : decode cX5_copyFrom 5 = .ok (.putfield 18, 3) := by decide +kernel
theorem dX5_copyFrom_8 : decode cX5_copyFrom 8 = .ok (.aload_n 0, 1) := by decide +kernel
theorem dX5_copyFrom_9 : decode cX5_copyFrom 9 = .ok (.aload_n 1, 1) := by decide +kernel
theorem dX5_copyFrom_10 : decode cX5_copyFrom 10 = .ok (.getfield 21, 3) := by decide +kernel
theorem dX5_copyFrom_13 : decode cX5_copyFrom 13 = .ok (.putfield 21, 3) := by decide +kernel
theorem dX5_copyFrom_16 : decode cX5_copyFrom 16 = .ok (.aload_n 0, 1) := by decide +kernel
theorem dX5_copyFrom_17 : decode cX5_copyFrom 17 = .ok (.aload_n 1, 1) := by decide +kernel
theorem dX5_copyFrom_18 : decode cX5_copyFrom 18 = .ok (.getfield 24, 3) := by decide +kernel
theorem dX5_copyFrom_21 : decode cX5_copyFrom 21 = .ok (.putfield 24, 3) := by decide +kernel
theorem dX5_copyFrom_24 : decode cX5_copyFrom 24 = .ok (.aload_n 0, 1) := by decide +kernel
theorem dX5_copyFrom_25 : decode cX5_copyFrom 25 = .ok (.aload_n 1, 1) := by decide +kernel
theorem dX5_copyFrom_26 : decode cX5_copyFrom 26 = .ok (.getfield 28, 3) := by decide +kernel
theorem dX5_copyFrom_29 : decode cX5_copyFrom 29 = .ok (.putfield 28, 3) := by decide +kernel
theorem dX5_copyFrom_32 : decode cX5_copyFrom 32 = .ok (.aload_n 0, 1) := by decide +kernel
theorem dX5_copyFrom_33 : decode cX5_copyFrom 33 = .ok (.aload_n 1, 1) := by decide +kernel
theorem dX5_copyFrom_34 : decode cX5_copyFrom 34 = .ok (.getfield 31, 3) := by decide +kernel
theorem dX5_copyFrom_37 : decode cX5_copyFrom 37 = .ok (.putfield 31, 3) := by decide +kernel
theorem dX5_copyFrom_40 : decode cX5_copyFrom 40 = .ok (.aload_n 0, 1) := by decide +kernel
theorem dX5_copyFrom_41 : decode cX5_copyFrom 41 = .ok (.aload_n 1, 1) := by decide +kernel
theorem dX5_copyFrom_42 : decode cX5_copyFrom 42 = .ok (.getfield 37, 3) := by decide +kernel
theorem dX5_copyFrom_45 : decode cX5_copyFrom 45 = .ok (.putfield 37, 3) := by decide +kernel
theorem dX5_copyFrom_48 : decode cX5_copyFrom 48 = .ok (.aload_n 0, 1) := by decide +kernel
theorem dX5_copyFrom_49 : decode cX5_copyFrom 49 = .ok (.aload_n 1, 1) := by decide +kernel
theorem dX5_copyFrom_50 : decode cX5_copyFrom 50 = .ok (.getfield 34, 3) := by decide +kernel
theorem dX5_copyFrom_53 : decode cX5_copyFrom 53 = .ok (.putfield 34, 3) := by decide +kernel
theorem dX5_copyFrom_56 : decode cX5_copyFrom 56 = .ok (.aload_n 0, 1) := by decide +kernel
theorem dX5_copyFrom_57 : decode cX5_copyFrom 57 = .ok (.aload_n 1, 1) := by decide +kernel
theorem dX5_copyFrom_58 : decode cX5_copyFrom 58 = .ok (.getfield 46, 3) := by decide +kernel
theorem dX5_copyFrom_61 : decode cX5_copyFrom 61 = .ok (.putfield 46, 3) := by decide +kernel
theorem dX5_copyFrom_64 : decode cX5_copyFrom 64 = .ok (.aload_n 0, 1) := by decide +kernel
theorem dX5_copyFrom_65 : decode cX5_copyFrom 65 = .ok (.aload_n 1, 1) := by decide +kernel
theorem dX5_copyFrom_66 : decode cX5_copyFrom 66 = .ok (.getfield 49, 3) := by decide +kernel
theorem dX5_copyFrom_69 : decode cX5_copyFrom 69 = .ok (.putfield 49, 3) := by decide +kernel
theorem dX5_copyFrom_72 : decode cX5_copyFrom 72 = .ok (.aload_n 0, 1) := by decide +kernel
theorem dX5_copyFrom_73 : decode cX5_copyFrom 73 = .ok (.aload_n 1, 1) := by decide +kernel
theorem dX5_copyFrom_74 : decode cX5_copyFrom 74 = .ok (.getfield 9, 3) := by decide +kernel
theorem dX5_copyFrom_77 : decode cX5_copyFrom 77 = .ok (.putfield 9, 3) := by decide +kernel
theorem dX5_copyFrom_80 : decode cX5_copyFrom 80 = .ok (.aload_n 0, 1) := by decide +kernel
theorem dX5_copyFrom_81 : decode cX5_copyFrom 81 = .ok (.aload_n 1, 1) := by decide +kernel
theorem dX5_copyFrom_82 : decode cX5_copyFrom 82 = .ok (.getfield 15, 3) := by decide +kernel
theorem dX5_copyFrom_85 : decode cX5_copyFrom 85 = .ok (.putfield 15, 3) := by decide +kernel
theorem dX5_copyFrom_88 : decode cX5_copyFrom 88 = .ok (.aload_n 0, 1) := by decide +kernel
theorem dX5_copyFrom_89 : decode cX5_copyFrom 89 = .ok (.aload_n 1, 1) := by decide +kernel
theorem dX5_copyFrom_90 : decode cX5_copyFrom 90 = .ok (.getfield 52, 3) := by decide +kernel
theorem dX5_copyFrom_93 : decode cX5_copyFrom 93 = .ok (.putfield 52, 3) := by decide +kernel
theorem dX5_copyFrom_96 : decode cX5_copyFrom 96 = .ok (.aload_n 0, 1) := by decide +kernel
theorem dX5_copyFrom_97 : decode cX5_copyFrom 97 = .ok (.aload_n 1, 1) := by decide +kernel
theorem dX5_copyFrom_98 : decode cX5_copyFrom 98 = .ok (.getfield 55, 3) := by decide +kernel
theorem dX5_copyFrom_101 : decode cX5_copyFrom 101 = .ok (.putfield 55, 3) := by decide +kernel
theorem dX5_copyFrom_104 : decode cX5_copyFrom 104 = .ok (.return_, 1) := by decide +kernel
theorem dX6_names_0 : decode cX6_names 0 = .ok (.aload_n 0, 1) := by decide +kernel
theorem dX6_names_1 : decode cX6_names 1 = .ok (.getfield 7, 3) := by decide +kernel
theorem dX6_names_4 : decode cX6_names 4 = .ok (.iload_n 1, 1) := by decide +kernel
theorem dX6_names_5 : decode cX6_names 5 = .ok (.if_icmp .eq 11, 3) := by decide +kernel
theorem dX6_names_8 : decode cX6_names 8 = .ok (.aload_n 0, 1) := by decide +kernel
theorem dX6_names_9 : decode cX6_names 9 = .ok (.getfield 13, 3) := by decide +kernel
theorem dX6_names_12 : decode cX6_names 12 = .ok (.iload_n 1, 1) := by decide +kernel
theorem dX6_names_13 : decode cX6_names 13 = .ok (.if_icmp .ne 7, 3) := by decide +kernel
theorem dX6_names_16 : decode cX6_names 16 = .ok (.iconst 1, 1) := by decide +kernel
theorem dX6_names_17 : decode cX6_names 17 = .ok (.goto 4, 3) := by decide +kernel
theorem dX6_names_20 : decode cX6_names 20 = .ok (.iconst 0, 1) := by decide +kernel
theorem dX6_names_21 : decode cX6_names 21 = .ok (.ireturn, 1) := by decide +kernel
theorem dX6_copyFrom_0 : decode cX6_copyFrom 0 = .ok (.aload_n 0, 1) := by decide +kernel
theorem dX6_copyFrom_1 : decode cX6_copyFrom 1 = .ok (.aload_n 1, 1) := by decide +kernel
theorem dX6_copyFrom_2 : decode cX6_copyFrom 2 = .ok (.getfield 7, 3) := by decide +kernel
theorem dX6_copyFrom_5 : decode cX6_copyFrom 5 = .ok (.putfield 7, 3) := by decide +kernel
theorem dX6_copyFrom_8 : decode cX6_copyFrom 8 = .ok (.aload_n 0, 1) := by decide +kernel
theorem dX6_copyFrom_9 : decode cX6_copyFrom 9 = .ok (.aload_n 1, 1) := by decide +kernel
theorem dX6_copyFrom_10 : decode cX6_copyFrom 10 = .ok (.getfield 13, 3) := by decide +kernel
theorem dX6_copyFrom_13 : decode cX6_copyFrom 13 = .ok (.putfield 13, 3) := by decide +kernel
theorem dX6_copyFrom_16 : decode cX6_copyFrom 16 = .ok (.aload_n 0, 1) := by decide +kernel
theorem dX6_copyFrom_17 : decode cX6_copyFrom 17 = .ok (.aload_n 1, 1) := by decide +kernel
theorem dX6_copyFrom_18 : decode cX6_copyFrom 18 = .ok (.getfield 16, 3) := by decide +kernel
theorem dX6_copyFrom_21 : decode cX6_copyFrom 21 = .ok (.putfield 16, 3) := by decide +kernel
theorem dX6_copyFrom_24 : decode cX6_copyFrom 24 = .ok (.return_, 1) := by decide +kernel
theorem dX7_copyFrom_0 : decode cX7_copyFrom 0 = .ok (.aload_n 0, 1) := by decide +kernel
theorem dX7_copyFrom_1 : decode cX7_copyFrom 1 = .ok (.aload_n 1, 1) := by decide +kernel
theorem dX7_copyFrom_2 : decode cX7_copyFrom 2 = .ok (.getfield 7, 3) := by decide +kernel
theorem dX7_copyFrom_5 : decode cX7_copyFrom 5 = .ok (.putfield 7, 3) := by decide +kernel
theorem dX7_copyFrom_8 : decode cX7_copyFrom 8 = .ok (.aload_n 0, 1) := by decide +kernel
theorem dX7_copyFrom_9 : decode cX7_copyFrom 9 = .ok (.aload_n 1, 1) := by decide +kernel
theorem dX7_copyFrom_10 : decode cX7_copyFrom 10 = .ok (.getfield 13, 3) := by decide +kernel
theorem dX7_copyFrom_13 : decode cX7_copyFrom 13 = .ok (.putfield 13, 3) := by decide +kernel
theorem dX7_copyFrom_16 : decode cX7_copyFrom 16 = .ok (.aload_n 0, 1) := by decide +kernel
theorem dX7_copyFrom_17 : decode cX7_copyFrom 17 = .ok (.aload_n 1, 1) := by decide +kernel
theorem dX7_copyFrom_18 : decode cX7_copyFrom 18 = .ok (.getfield 16, 3) := by decide +kernel
theorem dX7_copyFrom_21 : decode cX7_copyFrom 21 = .ok (.putfield 16, 3) := by decide +kernel
theorem dX7_copyFrom_24 : decode cX7_copyFrom 24 = .ok (.aload_n 0, 1) := by decide +kernel
theorem dX7_copyFrom_25 : decode cX7_copyFrom 25 = .ok (.aload_n 1, 1) := by decide +kernel
theorem dX7_copyFrom_26 : decode cX7_copyFrom 26 = .ok (.getfield 19, 3) := by decide +kernel
theorem dX7_copyFrom_29 : decode cX7_copyFrom 29 = .ok (.putfield 19, 3) := by decide +kernel
theorem dX7_copyFrom_32 : decode cX7_copyFrom 32 = .ok (.aload_n 0, 1) := by decide +kernel
theorem dX7_copyFrom_33 : decode cX7_copyFrom 33 = .ok (.aload_n 1, 1) := by decide +kernel
theorem dX7_copyFrom_34 : decode cX7_copyFrom 34 = .ok (.getfield 23, 3) := by decide +kernel
theorem dX7_copyFrom_37 : decode cX7_copyFrom 37 = .ok (.putfield 23, 3) := by decide +kernel
theorem dX7_copyFrom_40 : decode cX7_copyFrom 40 = .ok (.aload_n 0, 1) := by decide +kernel
theorem dX7_copyFrom_41 : decode cX7_copyFrom 41 = .ok (.aload_n 1, 1) := by decide +kernel
theorem dX7_copyFrom_42 : decode cX7_copyFrom 42 = .ok (.getfield 26, 3) := by decide +kernel
theorem dX7_copyFrom_45 : decode cX7_copyFrom 45 = .ok (.putfield 26, 3) := by decide +kernel
theorem dX7_copyFrom_48 : decode cX7_copyFrom 48 = .ok (.aload_n 0, 1) := by decide +kernel
theorem dX7_copyFrom_49 : decode cX7_copyFrom 49 = .ok (.aload_n 1, 1) := by decide +kernel
theorem dX7_copyFrom_50 : decode cX7_copyFrom 50 = .ok (.getfield 30, 3) := by decide +kernel
theorem dX7_copyFrom_53 : decode cX7_copyFrom 53 = .ok (.putfield 30, 3) := by decide +kernel
theorem dX7_copyFrom_56 : decode cX7_copyFrom 56 = .ok (.return_, 1) := by decide +kernel
theorem dX8_tell_0 : decode cX8_tell 0 = .ok (.iload_n 1, 1) := by decide +kernel
theorem dX8_tell_1 : decode cX8_tell 1 = .ok (.ifCond .lt 22, 3) := by decide +kernel
theorem dX8_tell_4 : decode cX8_tell 4 = .ok (.iload_n 1, 1) := by decide +kernel
theorem dX8_tell_5 : decode cX8_tell 5 = .ok (.aload_n 0, 1) := by decide +kernel
theorem dX8_tell_6 : decode cX8_tell 6 = .ok (.getfield 9, 3) := by decide +kernel
theorem dX8_tell_9 : decode cX8_tell 9 = .ok (.arraylength, 1) := by decide +kernel
theorem dX8_tell_10 : decode cX8_tell 10 = .ok (.if_icmp .ge 13, 3) := by decide +kernel
theorem dX8_tell_13 : decode cX8_tell 13 = .ok (.aload_n 0, 1) := by decide +kernel
theorem dX8_tell_14 : decode cX8_tell 14 = .ok (.getfield 9, 3) := by decide +kernel
theorem dX8_tell_17 : decode cX8_tell 17 = .ok (.iload_n 1, 1) := by decide +kernel
theorem dX8_tell_18 : decode cX8_tell 18 = .ok (.dup2, 1) := by decide +kernel
theorem dX8_tell_19 : decode cX8_tell 19 = .ok (.iaload, 1) := by decide +kernel
theorem dX8_tell_20 : decode cX8_tell 20 = .ok (.iconst 1, 1) := by decide +kernel
theorem dX8_tell_21 : decode cX8_tell 21 = .ok (.iadd, 1) := by decide +kernel
theorem dX8_tell_22 : decode cX8_tell 22 = .ok (.iastore, 1) := by decide +kernel
theorem dX8_tell_23 : decode cX8_tell 23 = .ok (.return_, 1) := by decide +kernel
theorem dX9_copyFrom_0 : decode cX9_copyFrom 0 = .ok (.aload_n 0, 1) := by decide +kernel
theorem dX9_copyFrom_1 : decode cX9_copyFrom 1 = .ok (.aload_n 1, 1) := by decide +kernel
theorem dX9_copyFrom_2 : decode cX9_copyFrom 2 = .ok (.getfield 7, 3) := by decide +kernel
theorem dX9_copyFrom_5 : decode cX9_copyFrom 5 = .ok (.putfield 7, 3) := by decide +kernel
theorem dX9_copyFrom_8 : decode cX9_copyFrom 8 = .ok (.aload_n 0, 1) := by decide +kernel
theorem dX9_copyFrom_9 : decode cX9_copyFrom 9 = .ok (.aload_n 1, 1) := by decide +kernel
theorem dX9_copyFrom_10 : decode cX9_copyFrom 10 = .ok (.getfield 13, 3) := by decide +kernel
theorem dX9_copyFrom_13 : decode cX9_copyFrom 13 = .ok (.putfield 13, 3) := by decide +kernel
theorem dX9_copyFrom_16 : decode cX9_copyFrom 16 = .ok (.aload_n 0, 1) := by decide +kernel
theorem dX9_copyFrom_17 : decode cX9_copyFrom 17 = .ok (.aload_n 1, 1) := by decide +kernel
theorem dX9_copyFrom_18 : decode cX9_copyFrom 18 = .ok (.getfield 16, 3) := by decide +kernel
theorem dX9_copyFrom_21 : decode cX9_copyFrom 21 = .ok (.putfield 16, 3) := by decide +kernel
theorem dX9_copyFrom_24 : decode cX9_copyFrom 24 = .ok (.aload_n 0, 1) := by decide +kernel
theorem dX9_copyFrom_25 : decode cX9_copyFrom 25 = .ok (.aload_n 1, 1) := by decide +kernel
theorem dX9_copyFrom_26 : decode cX9_copyFrom 26 = .ok (.getfield 19, 3) := by decide +kernel
theorem dX9_copyFrom_29 : decode cX9_copyFrom 29 = .ok (.putfield 19, 3) := by decide +kernel
theorem dX9_copyFrom_32 : decode cX9_copyFrom 32 = .ok (.return_, 1) := by decide +kernel
theorem dX10_copyFrom_0 : decode cX10_copyFrom 0 = .ok (.aload_n 0, 1) := by decide +kernel
theorem dX10_copyFrom_1 : decode cX10_copyFrom 1 = .ok (.aload_n 1, 1) := by decide +kernel
theorem dX10_copyFrom_2 : decode cX10_copyFrom 2 = .ok (.getfield 18, 3) := by decide +kernel
theorem dX10_copyFrom_5 : decode cX10_copyFrom 5 = .ok (.putfield 18, 3) := by decide +kernel
theorem dX10_copyFrom_8 : decode cX10_copyFrom 8 = .ok (.aload_n 0, 1) := by decide +kernel
theorem dX10_copyFrom_9 : decode cX10_copyFrom 9 = .ok (.aload_n 1, 1) := by decide +kernel
theorem dX10_copyFrom_10 : decode cX10_copyFrom 10 = .ok (.getfield 21, 3) := by decide +kernel
theorem dX10_copyFrom_13 : decode cX10_copyFrom 13 = .ok (.putfield 21, 3) := by decide +kernel
theorem dX10_copyFrom_16 : decode cX10_copyFrom 16 = .ok (.aload_n 0, 1) := by decide +kernel
theorem dX10_copyFrom_17 : decode cX10_copyFrom 17 = .ok (.aload_n 1, 1) := by decide +kernel
theorem dX10_copyFrom_18 : decode cX10_copyFrom 18 = .ok (.getfield 24, 3) := by decide +kernel
theorem dX10_copyFrom_21 : decode cX10_copyFrom 21 = .ok (.putfield 24, 3) := by decide +kernel
theorem dX10_copyFrom_24 : decode cX10_copyFrom 24 = .ok (.aload_n 0, 1) := by decide +kernel
theorem dX10_copyFrom_25 : decode cX10_copyFrom 25 = .ok (.aload_n 1, 1) := by decide +kernel
theorem dX10_copyFrom_26 : decode cX10_copyFrom 26 = .ok (.getfield 27, 3) := by decide +kernel
theorem dX10_copyFrom_29 : decode cX10_copyFrom 29 = .ok (.putfield 27, 3) := by decide +kernel
theorem dX10_copyFrom_32 : decode cX10_copyFrom 32 = .ok (.aload_n 0, 1) := by decide +kernel
theorem dX10_copyFrom_33 : decode cX10_copyFrom 33 = .ok (.aload_n 1, 1) := by decide +kernel
theorem dX10_copyFrom_34 : decode cX10_copyFrom 34 = .ok (.getfield 30, 3) := by decide +kernel
theorem dX10_copyFrom_37 : decode cX10_copyFrom 37 = .ok (.putfield 30, 3) := by decide +kernel
theorem dX10_copyFrom_40 : decode cX10_copyFrom 40 = .ok (.aload_n 0, 1) := by decide +kernel
theorem dX10_copyFrom_41 : decode cX10_copyFrom 41 = .ok (.aload_n 1, 1) := by decide +kernel
theorem dX10_copyFrom_42 : decode cX10_copyFrom 42 = .ok (.getfield 33, 3) := by decide +kernel
theorem dX10_copyFrom_45 : decode cX10_copyFrom 45 = .ok (.putfield 33, 3) := by decide +kernel
theorem dX10_copyFrom_48 : decode cX10_copyFrom 48 = .ok (.aload_n 0, 1) := by decide +kernel
theorem dX10_copyFrom_49 : decode cX10_copyFrom 49 = .ok (.aload_n 1, 1) := by decide +kernel
theorem dX10_copyFrom_50 : decode cX10_copyFrom 50 = .ok (.getfield 37, 3) := by decide +kernel
theorem dX10_copyFrom_53 : decode cX10_copyFrom 53 = .ok (.putfield 37, 3) := by decide +kernel
theorem dX10_copyFrom_56 : decode cX10_copyFrom 56 = .ok (.aload_n 0, 1) := by decide +kernel
theorem dX10_copyFrom_57 : decode cX10_copyFrom 57 = .ok (.aload_n 1, 1) := by decide +kernel
theorem dX10_copyFrom_58 : decode cX10_copyFrom 58 = .ok (.getfield 40, 3) := by decide +kernel
theorem dX10_copyFrom_61 : decode cX10_copyFrom 61 = .ok (.putfield 40, 3) := by decide +kernel
theorem dX10_copyFrom_64 : decode cX10_copyFrom 64 = .ok (.aload_n 0, 1) := by decide +kernel
theorem dX10_copyFrom_65 : decode cX10_copyFrom 65 = .ok (.aload_n 1, 1) := by decide +kernel
theorem dX10_copyFrom_66 : decode cX10_copyFrom 66 = .ok (.getfield 43, 3) := by decide +kernel
theorem dX10_copyFrom_69 : decode cX10_copyFrom 69 = .ok (.putfield 43, 3) := by decide +kernel
theorem dX10_copyFrom_72 : decode cX10_copyFrom 72 = .ok (.aload_n 0, 1) := by decide +kernel
theorem dX10_copyFrom_73 : decode cX10_copyFrom 73 = .ok (.aload_n 1, 1) := by decide +kernel
theorem dX10_copyFrom_74 : decode cX10_copyFrom 74 = .ok (.getfield 46, 3) := by decide +kernel
theorem dX10_copyFrom_77 : decode cX10_copyFrom 77 = .ok (.putfield 46, 3) := by decide +kernel
theorem dX10_copyFrom_80 : decode cX10_copyFrom 80 = .ok (.aload_n 0, 1) := by decide +kernel
theorem dX10_copyFrom_81 : decode cX10_copyFrom 81 = .ok (.aload_n 1, 1) := by decide +kernel
theorem dX10_copyFrom_82 : decode cX10_copyFrom 82 = .ok (.getfield 49, 3) := by decide +kernel
theorem dX10_copyFrom_85 : decode cX10_copyFrom 85 = .ok (.putfield 49, 3) := by decide +kernel
theorem dX10_copyFrom_88 : decode cX10_copyFrom 88 = .ok (.aload_n 0, 1) := by decide +kernel
theorem dX10_copyFrom_89 : decode cX10_copyFrom 89 = .ok (.aload_n 1, 1) := by decide +kernel
theorem dX10_copyFrom_90 : decode cX10_copyFrom 90 = .ok (.getfield 9, 3) := by decide +kernel
theorem dX10_copyFrom_93 : decode cX10_copyFrom 93 = .ok (.putfield 9, 3) := by decide +kernel
theorem dX10_copyFrom_96 : decode cX10_copyFrom 96 = .ok (.return_, 1) := by decide +kernel
theorem dX11_open_0 : decode cX11_open 0 = .ok (.iload_n 1, 1) := by decide +kernel
theorem dX11_open_1 : decode cX11_open 1 = .ok (.iconst (-1), 1) := by decide +kernel
theorem dX11_open_2 : decode cX11_open 2 = .ok (.if_icmp .eq 8, 3) := by decide +kernel
theorem dX11_open_5 : decode cX11_open 5 = .ok (.aload_n 0, 1) := by decide +kernel
theorem dX11_open_6 : decode cX11_open 6 = .ok (.iload_n 1, 1) := by decide +kernel
theorem dX11_open_7 : decode cX11_open 7 = .ok (.invokevirtual 48, 3) := by decide +kernel
theorem dX11_open_10 : decode cX11_open 10 = .ok (.iload_n 3, 1) := by decide +kernel
theorem dX11_open_11 : decode cX11_open 11 = .ok (.iconst 0, 1) := by decide +kernel
theorem dX11_open_12 : decode cX11_open 12 = .ok (.iconst 2, 1) := by decide +kernel
theorem dX11_open_13 : decode cX11_open 13 = .ok (.invokestatic 52, 3) := by decide +kernel
theorem dX11_open_16 : decode cX11_open 16 = .ok (.iload 4, 2) := by decide +kernel
theorem dX11_open_18 : decode cX11_open 18 = .ok (.iconst 0, 1) := by decide +kernel
theorem dX11_open_19 : decode cX11_open 19 = .ok (.ldc 56, 2) := by decide +kernel
theorem dX11_open_21 : decode cX11_open 21 = .ok (.invokestatic 52, 3) := by decide +kernel
theorem dX11_open_24 : decode cX11_open 24 = .ok (.iload 5, 2) := by decide +kernel
theorem dX11_open_26 : decode cX11_open 26 = .ok (.iconst 0, 1) := by decide +kernel
theorem dX11_open_27 : decode cX11_open 27 = .ok (.ldc 56, 2) := by decide +kernel
theorem dX11_open_29 : decode cX11_open 29 = .ok (.invokestatic 52, 3) := by decide +kernel
theorem dX11_open_32 : decode cX11_open 32 = .ok (.iload_n 1, 1) := by decide +kernel
theorem dX11_open_33 : decode cX11_open 33 = .ok (.iconst (-1), 1) := by decide +kernel
theorem dX11_open_34 : decode cX11_open 34 = .ok (.if_icmp .eq 18, 3) := by decide +kernel
theorem dX11_open_37 : decode cX11_open 37 = .ok (.aload_n 0, 1) := by decide +kernel
theorem dX11_open_38 : decode cX11_open 38 = .ok (.getfield 21, 3) := by decide +kernel
theorem dX11_open_41 : decode cX11_open 41 = .ok (.iload_n 1, 1) := by decide +kernel
theorem dX11_open_42 : decode cX11_open 42 = .ok (.invokevirtual 57, 3) := by decide +kernel
theorem dX11_open_45 : decode cX11_open 45 = .ok (.getfield 61, 3) := by decide +kernel
theorem dX11_open_48 : decode cX11_open 48 = .ok (.iconst (-1), 1) := by decide +kernel
theorem dX11_open_49 : decode cX11_open 49 = .ok (.if_icmp .ne 7, 3) := by decide +kernel
theorem dX11_open_52 : decode cX11_open 52 = .ok (.iconst 1, 1) := by decide +kernel
theorem dX11_open_53 : decode cX11_open 53 = .ok (.goto 4, 3) := by decide +kernel
theorem dX11_open_56 : decode cX11_open 56 = .ok (.iconst 0, 1) := by decide +kernel
theorem dX11_open_57 : decode cX11_open 57 = .ok (.invokestatic 67, 3) := by decide +kernel
theorem dX11_open_60 : decode cX11_open 60 = .ok (.aload_n 0, 1) := by decide +kernel
theorem dX11_open_61 : decode cX11_open 61 = .ok (.getfield 21, 3) := by decide +kernel
theorem dX11_open_64 : decode cX11_open 64 = .ok (.getfield 71, 3) := by decide +kernel
theorem dX11_open_67 : decode cX11_open 67 = .ok (.bipush 10, 2) := by decide +kernel
theorem dX11_open_69 : decode cX11_open 69 = .ok (.if_icmp .ge 7, 3) := by decide +kernel
theorem dX11_open_72 : decode cX11_open 72 = .ok (.iconst 1, 1) := by decide +kernel
theorem dX11_open_73 : decode cX11_open 73 = .ok (.goto 4, 3) := by decide +kernel
theorem dX11_open_76 : decode cX11_open 76 = .ok (.iconst 0, 1) := by decide +kernel
theorem dX11_open_77 : decode cX11_open 77 = .ok (.invokestatic 67, 3) := by decide +kernel
theorem dX11_open_80 : decode cX11_open 80 = .ok (.aload_n 0, 1) := by decide +kernel
theorem dX11_open_81 : decode cX11_open 81 = .ok (.getfield 21, 3) := by decide +kernel
theorem dX11_open_84 : decode cX11_open 84 = .ok (.getfield 71, 3) := by decide +kernel
theorem dX11_open_87 : decode cX11_open 87 = .ok (.istore 6, 2) := by decide +kernel
theorem dX11_open_89 : decode cX11_open 89 = .ok (.aload_n 0, 1) := by decide +kernel
theorem dX11_open_90 : decode cX11_open 90 = .ok (.getfield 21, 3) := by decide +kernel
theorem dX11_open_93 : decode cX11_open 93 = .ok (.iload 6, 2) := by decide +kernel
theorem dX11_open_95 : decode cX11_open 95 = .ok (.invokevirtual 57, 3) := by decide +kernel
theorem dX11_open_98 : decode cX11_open 98 = .ok (.astore 7, 2) := by decide +kernel
theorem dX11_open_100 : decode cX11_open 100 = .ok (.aload 7, 2) := by decide +kernel
theorem dX11_open_102 : decode cX11_open 102 = .ok (.iload_n 1, 1) := by decide +kernel
theorem dX11_open_103 : decode cX11_open 103 = .ok (.putfield 61, 3) := by decide +kernel
theorem dX11_open_106 : decode cX11_open 106 = .ok (.aload 7, 2) := by decide +kernel
theorem dX11_open_108 : decode cX11_open 108 = .ok (.iload_n 2, 1) := by decide +kernel
theorem dX11_open_109 : decode cX11_open 109 = .ok (.ifCond .eq 12, 3) := by decide +kernel
theorem dX11_open_112 : decode cX11_open 112 = .ok (.iload_n 1, 1) := by decide +kernel
theorem dX11_open_113 : decode cX11_open 113 = .ok (.iconst (-1), 1) := by decide +kernel
theorem dX11_open_114 : decode cX11_open 114 = .ok (.if_icmp .eq 7, 3) := by decide +kernel
theorem dX11_open_117 : decode cX11_open 117 = .ok (.iconst 1, 1) := by decide +kernel
theorem dX11_open_118 : decode cX11_open 118 = .ok (.goto 4, 3) := by decide +kernel
theorem dX11_open_121 : decode cX11_open 121 = .ok (.iconst 0, 1) := by decide +kernel
theorem dX11_open_122 : decode cX11_open 122 = .ok (.putfield 74, 3) := by decide +kernel
theorem dX11_open_125 : decode cX11_open 125 = .ok (.aload 7, 2) := by decide +kernel
theorem dX11_open_127 : decode cX11_open 127 = .ok (.iload_n 3, 1) := by decide +kernel
theorem dX11_open_128 : decode cX11_open 128 = .ok (.putfield 77, 3) := by decide +kernel
theorem dX11_open_131 : decode cX11_open 131 = .ok (.aload 7, 2) := by decide +kernel
theorem dX11_open_133 : decode cX11_open 133 = .ok (.iload 4, 2) := by decide +kernel
theorem dX11_open_135 : decode cX11_open 135 = .ok (.i2l, 1) := by decide +kernel
theorem dX11_open_136 : decode cX11_open 136 = .ok (.putfield 80, 3) := by decide +kernel
theorem dX11_open_139 : decode cX11_open 139 = .ok (.aload 7, 2) := by decide +kernel
theorem dX11_open_141 : decode cX11_open 141 = .ok (.iload 5, 2) := by decide +kernel
theorem dX11_open_143 : decode cX11_open 143 = .ok (.i2l, 1) := by decide +kernel
theorem dX11_open_144 : decode cX11_open 144 = .ok (.putfield 84, 3) := by decide +kernel
theorem dX11_open_147 : decode cX11_open 147 = .ok (.aload_n 0, 1) := by decide +kernel
theorem dX11_open_148 : decode cX11_open 148 = .ok (.getfield 21, 3) := by decide +kernel
theorem dX11_open_151 : decode cX11_open 151 = .ok (.iload 6, 2) := by decide +kernel
theorem dX11_open_153 : decode cX11_open 153 = .ok (.iconst 1, 1) := by decide +kernel
theorem dX11_open_154 : decode cX11_open 154 = .ok (.iadd, 1) := by decide +kernel
theorem dX11_open_155 : decode cX11_open 155 = .ok (.putfield 71, 3) := by decide +kernel
theorem dX11_open_158 : decode cX11_open 158 = .ok (.iload 6, 2) := by decide +kernel
theorem dX11_open_160 : decode cX11_open 160 = .ok (.ireturn, 1) := by decide +kernel
theorem dX11_lend_0 : decode cX11_lend 0 = .ok (.aload_n 0, 1) := by decide +kernel
theorem dX11_lend_1 : decode cX11_lend 1 = .ok (.iload_n 1, 1) := by decide +kernel
theorem dX11_lend_2 : decode cX11_lend 2 = .ok (.invokevirtual 48, 3) := by decide +kernel
theorem dX11_lend_5 : decode cX11_lend 5 = .ok (.aload_n 0, 1) := by decide +kernel
theorem dX11_lend_6 : decode cX11_lend 6 = .ok (.getfield 21, 3) := by decide +kernel
theorem dX11_lend_9 : decode cX11_lend 9 = .ok (.iload_n 1, 1) := by decide +kernel
theorem dX11_lend_10 : decode cX11_lend 10 = .ok (.invokevirtual 57, 3) := by decide +kernel
theorem dX11_lend_13 : decode cX11_lend 13 = .ok (.astore_n 2, 1) := by decide +kernel
theorem dX11_lend_14 : decode cX11_lend 14 = .ok (.aload_n 2, 1) := by decide +kernel
theorem dX11_lend_15 : decode cX11_lend 15 = .ok (.aload_n 2, 1) := by decide +kernel
theorem dX11_lend_16 : decode cX11_lend 16 = .ok (.getfield 87, 3) := by decide +kernel
theorem dX11_lend_19 : decode cX11_lend 19 = .ok (.ifCond .ne 7, 3) := by decide +kernel
theorem dX11_lend_22 : decode cX11_lend 22 = .ok (.iconst 1, 1) := by decide +kernel
theorem dX11_lend_23 : decode cX11_lend 23 = .ok (.goto 4, 3) := by decide +kernel
theorem dX11_lend_26 : decode cX11_lend 26 = .ok (.iconst 0, 1) := by decide +kernel
theorem dX11_lend_27 : decode cX11_lend 27 = .ok (.putfield 87, 3) := by decide +kernel
theorem dX11_lend_30 : decode cX11_lend 30 = .ok (.aload_n 2, 1) := by decide +kernel
theorem dX11_lend_31 : decode cX11_lend 31 = .ok (.getfield 87, 3) := by decide +kernel
theorem dX11_lend_34 : decode cX11_lend 34 = .ok (.ireturn, 1) := by decide +kernel
theorem dX11_issue_0 : decode cX11_issue 0 = .ok (.aload_n 0, 1) := by decide +kernel
theorem dX11_issue_1 : decode cX11_issue 1 = .ok (.iload_n 1, 1) := by decide +kernel
theorem dX11_issue_2 : decode cX11_issue 2 = .ok (.invokevirtual 48, 3) := by decide +kernel
theorem dX11_issue_5 : decode cX11_issue 5 = .ok (.iload_n 2, 1) := by decide +kernel
theorem dX11_issue_6 : decode cX11_issue 6 = .ok (.iconst 0, 1) := by decide +kernel
theorem dX11_issue_7 : decode cX11_issue 7 = .ok (.iconst 2, 1) := by decide +kernel
theorem dX11_issue_8 : decode cX11_issue 8 = .ok (.invokestatic 52, 3) := by decide +kernel
theorem dX11_issue_11 : decode cX11_issue 11 = .ok (.iload_n 3, 1) := by decide +kernel
theorem dX11_issue_12 : decode cX11_issue 12 = .ok (.iconst 1, 1) := by decide +kernel
theorem dX11_issue_13 : decode cX11_issue 13 = .ok (.ldc 100, 2) := by decide +kernel
theorem dX11_issue_15 : decode cX11_issue 15 = .ok (.invokestatic 52, 3) := by decide +kernel
theorem dX11_issue_18 : decode cX11_issue 18 = .ok (.iload 4, 2) := by decide +kernel
theorem dX11_issue_20 : decode cX11_issue 20 = .ok (.iconst 1, 1) := by decide +kernel
theorem dX11_issue_21 : decode cX11_issue 21 = .ok (.sipush 1000, 3) := by decide +kernel
theorem dX11_issue_24 : decode cX11_issue 24 = .ok (.invokestatic 52, 3) := by decide +kernel
theorem dX11_issue_27 : decode cX11_issue 27 = .ok (.iload 5, 2) := by decide +kernel
theorem dX11_issue_29 : decode cX11_issue 29 = .ok (.iconst 0, 1) := by decide +kernel
theorem dX11_issue_30 : decode cX11_issue 30 = .ok (.sipush 500, 3) := by decide +kernel
theorem dX11_issue_33 : decode cX11_issue 33 = .ok (.invokestatic 52, 3) := by decide +kernel
theorem dX11_issue_36 : decode cX11_issue 36 = .ok (.aload_n 0, 1) := by decide +kernel
theorem dX11_issue_37 : decode cX11_issue 37 = .ok (.getfield 21, 3) := by decide +kernel
theorem dX11_issue_40 : decode cX11_issue 40 = .ok (.getfield 101, 3) := by decide +kernel
theorem dX11_issue_43 : decode cX11_issue 43 = .ok (.iconst 4, 1) := by decide +kernel
theorem dX11_issue_44 : decode cX11_issue 44 = .ok (.if_icmp .ge 7, 3) := by decide +kernel
theorem dX11_issue_47 : decode cX11_issue 47 = .ok (.iconst 1, 1) := by decide +kernel
theorem dX11_issue_48 : decode cX11_issue 48 = .ok (.goto 4, 3) := by decide +kernel
theorem dX11_issue_51 : decode cX11_issue 51 = .ok (.iconst 0, 1) := by decide +kernel
theorem dX11_issue_52 : decode cX11_issue 52 = .ok (.invokestatic 67, 3) := by decide +kernel
theorem dX11_issue_55 : decode cX11_issue 55 = .ok (.aload_n 0, 1) := by decide +kernel
theorem dX11_issue_56 : decode cX11_issue 56 = .ok (.getfield 21, 3) := by decide +kernel
theorem dX11_issue_59 : decode cX11_issue 59 = .ok (.getfield 101, 3) := by decide +kernel
theorem dX11_issue_62 : decode cX11_issue 62 = .ok (.istore 6, 2) := by decide +kernel
theorem dX11_issue_64 : decode cX11_issue 64 = .ok (.aload_n 0, 1) := by decide +kernel
theorem dX11_issue_65 : decode cX11_issue 65 = .ok (.getfield 21, 3) := by decide +kernel
theorem dX11_issue_68 : decode cX11_issue 68 = .ok (.iload 6, 2) := by decide +kernel
theorem dX11_issue_70 : decode cX11_issue 70 = .ok (.invokevirtual 104, 3) := by decide +kernel
theorem dX11_issue_73 : decode cX11_issue 73 = .ok (.astore 7, 2) := by decide +kernel
theorem dX11_issue_75 : decode cX11_issue 75 = .ok (.aload 7, 2) := by decide +kernel
theorem dX11_issue_77 : decode cX11_issue 77 = .ok (.iload_n 2, 1) := by decide +kernel
theorem dX11_issue_78 : decode cX11_issue 78 = .ok (.putfield 108, 3) := by decide +kernel
theorem dX11_issue_81 : decode cX11_issue 81 = .ok (.aload 7, 2) := by decide +kernel
theorem dX11_issue_83 : decode cX11_issue 83 = .ok (.iload 4, 2) := by decide +kernel
theorem dX11_issue_85 : decode cX11_issue 85 = .ok (.putfield 111, 3) := by decide +kernel
theorem dX11_issue_88 : decode cX11_issue 88 = .ok (.aload 7, 2) := by decide +kernel
theorem dX11_issue_90 : decode cX11_issue 90 = .ok (.iload 5, 2) := by decide +kernel
theorem dX11_issue_92 : decode cX11_issue 92 = .ok (.putfield 114, 3) := by decide +kernel
theorem dX11_issue_95 : decode cX11_issue 95 = .ok (.aload 7, 2) := by decide +kernel
theorem dX11_issue_97 : decode cX11_issue 97 = .ok (.iload_n 3, 1) := by decide +kernel
theorem dX11_issue_98 : decode cX11_issue 98 = .ok (.i2l, 1) := by decide +kernel
theorem dX11_issue_99 : decode cX11_issue 99 = .ok (.putfield 117, 3) := by decide +kernel
theorem dX11_issue_102 : decode cX11_issue 102 = .ok (.aload_n 0, 1) := by decide +kernel
theorem dX11_issue_103 : decode cX11_issue 103 = .ok (.getfield 21, 3) := by decide +kernel
theorem dX11_issue_106 : decode cX11_issue 106 = .ok (.iload 6, 2) := by decide +kernel
theorem dX11_issue_108 : decode cX11_issue 108 = .ok (.iconst 1, 1) := by decide +kernel
theorem dX11_issue_109 : decode cX11_issue 109 = .ok (.iadd, 1) := by decide +kernel
theorem dX11_issue_110 : decode cX11_issue 110 = .ok (.putfield 101, 3) := by decide +kernel
theorem dX11_issue_113 : decode cX11_issue 113 = .ok (.aload_n 0, 1) := by decide +kernel
theorem dX11_issue_114 : decode cX11_issue 114 = .ok (.getfield 21, 3) := by decide +kernel
theorem dX11_issue_117 : decode cX11_issue 117 = .ok (.iload_n 1, 1) := by decide +kernel
theorem dX11_issue_118 : decode cX11_issue 118 = .ok (.invokevirtual 57, 3) := by decide +kernel
theorem dX11_issue_121 : decode cX11_issue 121 = .ok (.iload 6, 2) := by decide +kernel
theorem dX11_issue_123 : decode cX11_issue 123 = .ok (.iload_n 3, 1) := by decide +kernel
theorem dX11_issue_124 : decode cX11_issue 124 = .ok (.i2l, 1) := by decide +kernel
theorem dX11_issue_125 : decode cX11_issue 125 = .ok (.aload_n 0, 1) := by decide +kernel
theorem dX11_issue_126 : decode cX11_issue 126 = .ok (.getfield 21, 3) := by decide +kernel
theorem dX11_issue_129 : decode cX11_issue 129 = .ok (.getfield 120, 3) := by decide +kernel
theorem dX11_issue_132 : decode cX11_issue 132 = .ok (.invokevirtual 123, 3) := by decide +kernel
theorem dX11_issue_135 : decode cX11_issue 135 = .ok (.iload 6, 2) := by decide +kernel
theorem dX11_issue_137 : decode cX11_issue 137 = .ok (.ireturn, 1) := by decide +kernel
theorem dX11_setPrice_0 : decode cX11_setPrice 0 = .ok (.aload_n 0, 1) := by decide +kernel
theorem dX11_setPrice_1 : decode cX11_setPrice 1 = .ok (.iload_n 1, 1) := by decide +kernel
theorem dX11_setPrice_2 : decode cX11_setPrice 2 = .ok (.invokevirtual 127, 3) := by decide +kernel
theorem dX11_setPrice_5 : decode cX11_setPrice 5 = .ok (.iload_n 2, 1) := by decide +kernel
theorem dX11_setPrice_6 : decode cX11_setPrice 6 = .ok (.iconst 1, 1) := by decide +kernel
theorem dX11_setPrice_7 : decode cX11_setPrice 7 = .ok (.sipush 1000, 3) := by decide +kernel
theorem dX11_setPrice_10 : decode cX11_setPrice 10 = .ok (.invokestatic 52, 3) := by decide +kernel
theorem dX11_setPrice_13 : decode cX11_setPrice 13 = .ok (.aload_n 0, 1) := by decide +kernel
theorem dX11_setPrice_14 : decode cX11_setPrice 14 = .ok (.getfield 21, 3) := by decide +kernel
theorem dX11_setPrice_17 : decode cX11_setPrice 17 = .ok (.iload_n 1, 1) := by decide +kernel
theorem dX11_setPrice_18 : decode cX11_setPrice 18 = .ok (.invokevirtual 104, 3) := by decide +kernel
theorem dX11_setPrice_21 : decode cX11_setPrice 21 = .ok (.astore_n 3, 1) := by decide +kernel
theorem dX11_setPrice_22 : decode cX11_setPrice 22 = .ok (.aload_n 3, 1) := by decide +kernel
theorem dX11_setPrice_23 : decode cX11_setPrice 23 = .ok (.getfield 111, 3) := by decide +kernel
theorem dX11_setPrice_26 : decode cX11_setPrice 26 = .ok (.istore 4, 2) := by decide +kernel
theorem dX11_setPrice_28 : decode cX11_setPrice 28 = .ok (.aload_n 3, 1) := by decide +kernel
theorem dX11_setPrice_29 : decode cX11_setPrice 29 = .ok (.iload_n 2, 1) := by decide +kernel
theorem dX11_setPrice_30 : decode cX11_setPrice 30 = .ok (.putfield 111, 3) := by decide +kernel
theorem dX11_setPrice_33 : decode cX11_setPrice 33 = .ok (.iload 4, 2) := by decide +kernel
theorem dX11_setPrice_35 : decode cX11_setPrice 35 = .ok (.ireturn, 1) := by decide +kernel
theorem dX11_block_0 : decode cX11_block 0 = .ok (.aload_n 0, 1) := by decide +kernel
theorem dX11_block_1 : decode cX11_block 1 = .ok (.iload_n 1, 1) := by decide +kernel
theorem dX11_block_2 : decode cX11_block 2 = .ok (.invokevirtual 48, 3) := by decide +kernel
theorem dX11_block_5 : decode cX11_block 5 = .ok (.aload_n 0, 1) := by decide +kernel
theorem dX11_block_6 : decode cX11_block 6 = .ok (.iload_n 2, 1) := by decide +kernel
theorem dX11_block_7 : decode cX11_block 7 = .ok (.invokevirtual 127, 3) := by decide +kernel
theorem dX11_block_10 : decode cX11_block 10 = .ok (.iload_n 3, 1) := by decide +kernel
theorem dX11_block_11 : decode cX11_block 11 = .ok (.ifCond .lt 7, 3) := by decide +kernel
theorem dX11_block_14 : decode cX11_block 14 = .ok (.iconst 1, 1) := by decide +kernel
theorem dX11_block_15 : decode cX11_block 15 = .ok (.goto 4, 3) := by decide +kernel
theorem dX11_block_18 : decode cX11_block 18 = .ok (.iconst 0, 1) := by decide +kernel
theorem dX11_block_19 : decode cX11_block 19 = .ok (.invokestatic 130, 3) := by decide +kernel
theorem dX11_block_22 : decode cX11_block 22 = .ok (.aload_n 0, 1) := by decide +kernel
theorem dX11_block_23 : decode cX11_block 23 = .ok (.getfield 21, 3) := by decide +kernel
theorem dX11_block_26 : decode cX11_block 26 = .ok (.iload_n 1, 1) := by decide +kernel
theorem dX11_block_27 : decode cX11_block 27 = .ok (.invokevirtual 57, 3) := by decide +kernel
theorem dX11_block_30 : decode cX11_block 30 = .ok (.astore 4, 2) := by decide +kernel
theorem dX11_block_32 : decode cX11_block 32 = .ok (.iload_n 3, 1) := by decide +kernel
theorem dX11_block_33 : decode cX11_block 33 = .ok (.i2l, 1) := by decide +kernel
theorem dX11_block_34 : decode cX11_block 34 = .ok (.aload 4, 2) := by decide +kernel
theorem dX11_block_36 : decode cX11_block 36 = .ok (.iload_n 2, 1) := by decide +kernel
theorem dX11_block_37 : decode cX11_block 37 = .ok (.invokevirtual 133, 3) := by decide +kernel
theorem dX11_block_40 : decode cX11_block 40 = .ok (.lcmp, 1) := by decide +kernel
theorem dX11_block_41 : decode cX11_block 41 = .ok (.ifCond .gt 7, 3) := by decide +kernel
theorem dX11_block_44 : decode cX11_block 44 = .ok (.iconst 1, 1) := by decide +kernel
theorem dX11_block_45 : decode cX11_block 45 = .ok (.goto 4, 3) := by decide +kernel
theorem dX11_block_48 : decode cX11_block 48 = .ok (.iconst 0, 1) := by decide +kernel
theorem dX11_block_49 : decode cX11_block 49 = .ok (.invokestatic 67, 3) := by decide +kernel
theorem dX11_block_52 : decode cX11_block 52 = .ok (.aload 4, 2) := by decide +kernel
theorem dX11_block_54 : decode cX11_block 54 = .ok (.iload_n 2, 1) := by decide +kernel
theorem dX11_block_55 : decode cX11_block 55 = .ok (.invokevirtual 137, 3) := by decide +kernel
theorem dX11_block_58 : decode cX11_block 58 = .ok (.lstore 5, 2) := by decide +kernel
theorem dX11_block_60 : decode cX11_block 60 = .ok (.aload 4, 2) := by decide +kernel
theorem dX11_block_62 : decode cX11_block 62 = .ok (.iload_n 2, 1) := by decide +kernel
theorem dX11_block_63 : decode cX11_block 63 = .ok (.iload_n 3, 1) := by decide +kernel
theorem dX11_block_64 : decode cX11_block 64 = .ok (.i2l, 1) := by decide +kernel
theorem dX11_block_65 : decode cX11_block 65 = .ok (.invokevirtual 140, 3) := by decide +kernel
theorem dX11_block_68 : decode cX11_block 68 = .ok (.lload 5, 2) := by decide +kernel
theorem dX11_block_70 : decode cX11_block 70 = .ok (.lreturn, 1) := by decide +kernel
theorem dX11_instruct_0 : decode cX11_instruct 0 = .ok (.aload_n 0, 1) := by decide +kernel
theorem dX11_instruct_1 : decode cX11_instruct 1 = .ok (.iload_n 1, 1) := by decide +kernel
theorem dX11_instruct_2 : decode cX11_instruct 2 = .ok (.invokevirtual 48, 3) := by decide +kernel
theorem dX11_instruct_5 : decode cX11_instruct 5 = .ok (.aload_n 0, 1) := by decide +kernel
theorem dX11_instruct_6 : decode cX11_instruct 6 = .ok (.iload_n 2, 1) := by decide +kernel
theorem dX11_instruct_7 : decode cX11_instruct 7 = .ok (.invokevirtual 48, 3) := by decide +kernel
theorem dX11_instruct_10 : decode cX11_instruct 10 = .ok (.aload_n 0, 1) := by decide +kernel
theorem dX11_instruct_11 : decode cX11_instruct 11 = .ok (.iload 4, 2) := by decide +kernel
theorem dX11_instruct_13 : decode cX11_instruct 13 = .ok (.invokevirtual 127, 3) := by decide +kernel
theorem dX11_instruct_16 : decode cX11_instruct 16 = .ok (.iload_n 1, 1) := by decide +kernel
theorem dX11_instruct_17 : decode cX11_instruct 17 = .ok (.iload_n 2, 1) := by decide +kernel
theorem dX11_instruct_18 : decode cX11_instruct 18 = .ok (.if_icmp .eq 7, 3) := by decide +kernel
theorem dX11_instruct_21 : decode cX11_instruct 21 = .ok (.iconst 1, 1) := by decide +kernel
theorem dX11_instruct_22 : decode cX11_instruct 22 = .ok (.goto 4, 3) := by decide +kernel
theorem dX11_instruct_25 : decode cX11_instruct 25 = .ok (.iconst 0, 1) := by decide +kernel
theorem dX11_instruct_26 : decode cX11_instruct 26 = .ok (.invokestatic 130, 3) := by decide +kernel
theorem dX11_instruct_29 : decode cX11_instruct 29 = .ok (.iload 5, 2) := by decide +kernel
theorem dX11_instruct_31 : decode cX11_instruct 31 = .ok (.iconst 1, 1) := by decide +kernel
theorem dX11_instruct_32 : decode cX11_instruct 32 = .ok (.ldc 100, 2) := by decide +kernel
theorem dX11_instruct_34 : decode cX11_instruct 34 = .ok (.invokestatic 52, 3) := by decide +kernel
theorem dX11_instruct_37 : decode cX11_instruct 37 = .ok (.iload 6, 2) := by decide +kernel
theorem dX11_instruct_39 : decode cX11_instruct 39 = .ok (.iconst 0, 1) := by decide +kernel
theorem dX11_instruct_40 : decode cX11_instruct 40 = .ok (.ldc 149, 2) := by decide +kernel
theorem dX11_instruct_42 : decode cX11_instruct 42 = .ok (.invokestatic 52, 3) := by decide +kernel
theorem dX11_instruct_45 : decode cX11_instruct 45 = .ok (.iload 7, 2) := by decide +kernel
theorem dX11_instruct_47 : decode cX11_instruct 47 = .ok (.aload_n 0, 1) := by decide +kernel
theorem dX11_instruct_48 : decode cX11_instruct 48 = .ok (.getfield 21, 3) := by decide +kernel
theorem dX11_instruct_51 : decode cX11_instruct 51 = .ok (.getfield 150, 3) := by decide +kernel
theorem dX11_instruct_54 : decode cX11_instruct 54 = .ok (.sipush 2000, 3) := by decide +kernel
theorem dX11_instruct_57 : decode cX11_instruct 57 = .ok (.invokestatic 52, 3) := by decide +kernel
theorem dX11_instruct_60 : decode cX11_instruct 60 = .ok (.iload 8, 2) := by decide +kernel
theorem dX11_instruct_62 : decode cX11_instruct 62 = .ok (.iconst 0, 1) := by decide +kernel
theorem dX11_instruct_63 : decode cX11_instruct 63 = .ok (.bipush 9, 2) := by decide +kernel
theorem dX11_instruct_65 : decode cX11_instruct 65 = .ok (.invokestatic 52, 3) := by decide +kernel
theorem dX11_instruct_68 : decode cX11_instruct 68 = .ok (.iload 9, 2) := by decide +kernel
theorem dX11_instruct_70 : decode cX11_instruct 70 = .ok (.iconst 0, 1) := by decide +kernel
theorem dX11_instruct_71 : decode cX11_instruct 71 = .ok (.iload 5, 2) := by decide +kernel
theorem dX11_instruct_73 : decode cX11_instruct 73 = .ok (.invokestatic 52, 3) := by decide +kernel
theorem dX11_instruct_76 : decode cX11_instruct 76 = .ok (.aload_n 0, 1) := by decide +kernel
theorem dX11_instruct_77 : decode cX11_instruct 77 = .ok (.getfield 21, 3) := by decide +kernel
theorem dX11_instruct_80 : decode cX11_instruct 80 = .ok (.getfield 153, 3) := by decide +kernel
theorem dX11_instruct_83 : decode cX11_instruct 83 = .ok (.bipush 40, 2) := by decide +kernel
theorem dX11_instruct_85 : decode cX11_instruct 85 = .ok (.if_icmp .ge 7, 3) := by decide +kernel
theorem dX11_instruct_88 : decode cX11_instruct 88 = .ok (.iconst 1, 1) := by decide +kernel
theorem dX11_instruct_89 : decode cX11_instruct 89 = .ok (.goto 4, 3) := by decide +kernel
theorem dX11_instruct_92 : decode cX11_instruct 92 = .ok (.iconst 0, 1) := by decide +kernel
theorem dX11_instruct_93 : decode cX11_instruct 93 = .ok (.invokestatic 67, 3) := by decide +kernel
theorem dX11_instruct_96 : decode cX11_instruct 96 = .ok (.aload_n 0, 1) := by decide +kernel
theorem dX11_instruct_97 : decode cX11_instruct 97 = .ok (.getfield 21, 3) := by decide +kernel
theorem dX11_instruct_100 : decode cX11_instruct 100 = .ok (.getfield 153, 3) := by decide +kernel
theorem dX11_instruct_103 : decode cX11_instruct 103 = .ok (.istore 10, 2) := by decide +kernel
theorem dX11_instruct_105 : decode cX11_instruct 105 = .ok (.aload_n 0, 1) := by decide +kernel
theorem dX11_instruct_106 : decode cX11_instruct 106 = .ok (.getfield 21, 3) := by decide +kernel
theorem dX11_instruct_109 : decode cX11_instruct 109 = .ok (.iload 10, 2) := by decide +kernel
theorem dX11_instruct_111 : decode cX11_instruct 111 = .ok (.invokevirtual 156, 3) := by decide +kernel
theorem dX11_instruct_114 : decode cX11_instruct 114 = .ok (.astore 11, 2) := by decide +kernel
theorem dX11_instruct_116 : decode cX11_instruct 116 = .ok (.aload 11, 2) := by decide +kernel
theorem dX11_instruct_118 : decode cX11_instruct 118 = .ok (.iload_n 1, 1) := by decide +kernel
theorem dX11_instruct_119 : decode cX11_instruct 119 = .ok (.putfield 160, 3) := by decide +kernel
theorem dX11_instruct_122 : decode cX11_instruct 122 = .ok (.aload 11, 2) := by decide +kernel
theorem dX11_instruct_124 : decode cX11_instruct 124 = .ok (.iload_n 2, 1) := by decide +kernel
theorem dX11_instruct_125 : decode cX11_instruct 125 = .ok (.putfield 164, 3) := by decide +kernel
theorem dX11_instruct_128 : decode cX11_instruct 128 = .ok (.aload 11, 2) := by decide +kernel
theorem dX11_instruct_130 : decode cX11_instruct 130 = .ok (.iload_n 3, 1) := by decide +kernel
theorem dX11_instruct_131 : decode cX11_instruct 131 = .ok (.putfield 167, 3) := by decide +kernel
theorem dX11_instruct_134 : decode cX11_instruct 134 = .ok (.aload 11, 2) := by decide +kernel
theorem dX11_instruct_136 : decode cX11_instruct 136 = .ok (.iload 4, 2) := by decide +kernel
theorem dX11_instruct_138 : decode cX11_instruct 138 = .ok (.putfield 170, 3) := by decide +kernel
theorem dX11_instruct_141 : decode cX11_instruct 141 = .ok (.aload 11, 2) := by decide +kernel
theorem dX11_instruct_143 : decode cX11_instruct 143 = .ok (.iload 5, 2) := by decide +kernel
theorem dX11_instruct_145 : decode cX11_instruct 145 = .ok (.putfield 172, 3) := by decide +kernel
theorem dX11_instruct_148 : decode cX11_instruct 148 = .ok (.aload 11, 2) := by decide +kernel
theorem dX11_instruct_150 : decode cX11_instruct 150 = .ok (.iload 6, 2) := by decide +kernel
theorem dX11_instruct_152 : decode cX11_instruct 152 = .ok (.putfield 175, 3) := by decide +kernel
theorem dX11_instruct_155 : decode cX11_instruct 155 = .ok (.aload 11, 2) := by decide +kernel
theorem dX11_instruct_157 : decode cX11_instruct 157 = .ok (.iload 7, 2) := by decide +kernel
theorem dX11_instruct_159 : decode cX11_instruct 159 = .ok (.putfield 178, 3) := by decide +kernel
theorem dX11_instruct_162 : decode cX11_instruct 162 = .ok (.aload 11, 2) := by decide +kernel
theorem dX11_instruct_164 : decode cX11_instruct 164 = .ok (.iload 8, 2) := by decide +kernel
theorem dX11_instruct_166 : decode cX11_instruct 166 = .ok (.putfield 181, 3) := by decide +kernel
theorem dX11_instruct_169 : decode cX11_instruct 169 = .ok (.aload 11, 2) := by decide +kernel
theorem dX11_instruct_171 : decode cX11_instruct 171 = .ok (.iload 9, 2) := by decide +kernel
theorem dX11_instruct_173 : decode cX11_instruct 173 = .ok (.putfield 184, 3) := by decide +kernel
theorem dX11_instruct_176 : decode cX11_instruct 176 = .ok (.aload_n 0, 1) := by decide +kernel
theorem dX11_instruct_177 : decode cX11_instruct 177 = .ok (.getfield 21, 3) := by decide +kernel
theorem dX11_instruct_180 : decode cX11_instruct 180 = .ok (.aload 11, 2) := by decide +kernel
theorem dX11_instruct_182 : decode cX11_instruct 182 = .ok (.iload 6, 2) := by decide +kernel
theorem dX11_instruct_184 : decode cX11_instruct 184 = .ok (.invokevirtual 187, 3) := by decide +kernel
theorem dX11_instruct_187 : decode cX11_instruct 187 = .ok (.istore 12, 2) := by decide +kernel
theorem dX11_instruct_189 : decode cX11_instruct 189 = .ok (.iload 12, 2) := by decide +kernel
theorem dX11_instruct_191 : decode cX11_instruct 191 = .ok (.iconst (-1), 1) := by decide +kernel
theorem dX11_instruct_192 : decode cX11_instruct 192 = .ok (.if_icmp .eq 15, 3) := by decide +kernel
theorem dX11_instruct_195 : decode cX11_instruct 195 = .ok (.aload_n 0, 1) := by decide +kernel
theorem dX11_instruct_196 : decode cX11_instruct 196 = .ok (.getfield 21, 3) := by decide +kernel
theorem dX11_instruct_199 : decode cX11_instruct 199 = .ok (.getfield 191, 3) := by decide +kernel
theorem dX11_instruct_202 : decode cX11_instruct 202 = .ok (.bipush 20, 2) := by decide +kernel
theorem dX11_instruct_204 : decode cX11_instruct 204 = .ok (.if_icmp .ge 7, 3) := by decide +kernel
theorem dX11_instruct_207 : decode cX11_instruct 207 = .ok (.iconst 1, 1) := by decide +kernel
theorem dX11_instruct_208 : decode cX11_instruct 208 = .ok (.goto 4, 3) := by decide +kernel
theorem dX11_instruct_211 : decode cX11_instruct 211 = .ok (.iconst 0, 1) := by decide +kernel
theorem dX11_instruct_212 : decode cX11_instruct 212 = .ok (.invokestatic 67, 3) := by decide +kernel
theorem dX11_instruct_215 : decode cX11_instruct 215 = .ok (.aload_n 0, 1) := by decide +kernel
theorem dX11_instruct_216 : decode cX11_instruct 216 = .ok (.getfield 21, 3) := by decide +kernel
theorem dX11_instruct_219 : decode cX11_instruct 219 = .ok (.iload 10, 2) := by decide +kernel
theorem dX11_instruct_221 : decode cX11_instruct 221 = .ok (.iconst 1, 1) := by decide +kernel
theorem dX11_instruct_222 : decode cX11_instruct 222 = .ok (.iadd, 1) := by decide +kernel
theorem dX11_instruct_223 : decode cX11_instruct 223 = .ok (.putfield 153, 3) := by decide +kernel
theorem dX11_instruct_226 : decode cX11_instruct 226 = .ok (.iload 12, 2) := by decide +kernel
theorem dX11_instruct_228 : decode cX11_instruct 228 = .ok (.iconst (-1), 1) := by decide +kernel
theorem dX11_instruct_229 : decode cX11_instruct 229 = .ok (.if_icmp .eq 15, 3) := by decide +kernel
theorem dX11_instruct_232 : decode cX11_instruct 232 = .ok (.aload_n 0, 1) := by decide +kernel
theorem dX11_instruct_233 : decode cX11_instruct 233 = .ok (.getfield 21, 3) := by decide +kernel
theorem dX11_instruct_236 : decode cX11_instruct 236 = .ok (.iload 10, 2) := by decide +kernel
theorem dX11_instruct_238 : decode cX11_instruct 238 = .ok (.iload 12, 2) := by decide +kernel
theorem dX11_instruct_240 : decode cX11_instruct 240 = .ok (.invokevirtual 194, 3) := by decide +kernel
theorem dX11_instruct_243 : decode cX11_instruct 243 = .ok (.pop, 1) := by decide +kernel
theorem dX11_instruct_244 : decode cX11_instruct 244 = .ok (.iload 10, 2) := by decide +kernel
theorem dX11_instruct_246 : decode cX11_instruct 246 = .ok (.ireturn, 1) := by decide +kernel
theorem dX11_cancel_0 : decode cX11_cancel 0 = .ok (.aload_n 0, 1) := by decide +kernel
theorem dX11_cancel_1 : decode cX11_cancel 1 = .ok (.iload_n 1, 1) := by decide +kernel
theorem dX11_cancel_2 : decode cX11_cancel 2 = .ok (.invokevirtual 197, 3) := by decide +kernel
theorem dX11_cancel_5 : decode cX11_cancel 5 = .ok (.aload_n 0, 1) := by decide +kernel
theorem dX11_cancel_6 : decode cX11_cancel 6 = .ok (.getfield 21, 3) := by decide +kernel
theorem dX11_cancel_9 : decode cX11_cancel 9 = .ok (.iload_n 1, 1) := by decide +kernel
theorem dX11_cancel_10 : decode cX11_cancel 10 = .ok (.invokevirtual 156, 3) := by decide +kernel
theorem dX11_cancel_13 : decode cX11_cancel 13 = .ok (.astore_n 2, 1) := by decide +kernel
theorem dX11_cancel_14 : decode cX11_cancel 14 = .ok (.aload_n 2, 1) := by decide +kernel
theorem dX11_cancel_15 : decode cX11_cancel 15 = .ok (.invokevirtual 203, 3) := by decide +kernel
theorem dX11_cancel_18 : decode cX11_cancel 18 = .ok (.invokestatic 67, 3) := by decide +kernel
theorem dX11_cancel_21 : decode cX11_cancel 21 = .ok (.aload_n 2, 1) := by decide +kernel
theorem dX11_cancel_22 : decode cX11_cancel 22 = .ok (.getfield 200, 3) := by decide +kernel
theorem dX11_cancel_25 : decode cX11_cancel 25 = .ok (.ifCond .ne 13, 3) := by decide +kernel
theorem dX11_cancel_28 : decode cX11_cancel 28 = .ok (.aload_n 0, 1) := by decide +kernel
theorem dX11_cancel_29 : decode cX11_cancel 29 = .ok (.getfield 21, 3) := by decide +kernel
theorem dX11_cancel_32 : decode cX11_cancel 32 = .ok (.aload_n 2, 1) := by decide +kernel
theorem dX11_cancel_33 : decode cX11_cancel 33 = .ok (.invokevirtual 207, 3) := by decide +kernel
theorem dX11_cancel_36 : decode cX11_cancel 36 = .ok (.iconst 1, 1) := by decide +kernel
theorem dX11_cancel_37 : decode cX11_cancel 37 = .ok (.ireturn, 1) := by decide +kernel
theorem dX11_cancel_38 : decode cX11_cancel 38 = .ok (.aload_n 2, 1) := by decide +kernel
theorem dX11_cancel_39 : decode cX11_cancel 39 = .ok (.iconst 1, 1) := by decide +kernel
theorem dX11_cancel_40 : decode cX11_cancel 40 = .ok (.putfield 211, 3) := by decide +kernel
theorem dX11_cancel_43 : decode cX11_cancel 43 = .ok (.aload_n 0, 1) := by decide +kernel
theorem dX11_cancel_44 : decode cX11_cancel 44 = .ok (.getfield 21, 3) := by decide +kernel
theorem dX11_cancel_47 : decode cX11_cancel 47 = .ok (.aload_n 2, 1) := by decide +kernel
theorem dX11_cancel_48 : decode cX11_cancel 48 = .ok (.getfield 214, 3) := by decide +kernel
theorem dX11_cancel_51 : decode cX11_cancel 51 = .ok (.invokevirtual 217, 3) := by decide +kernel
theorem dX11_cancel_54 : decode cX11_cancel 54 = .ok (.astore_n 3, 1) := by decide +kernel
theorem dX11_cancel_55 : decode cX11_cancel 55 = .ok (.aload_n 0, 1) := by decide +kernel
theorem dX11_cancel_56 : decode cX11_cancel 56 = .ok (.getfield 21, 3) := by decide +kernel
theorem dX11_cancel_59 : decode cX11_cancel 59 = .ok (.aload_n 3, 1) := by decide +kernel
theorem dX11_cancel_60 : decode cX11_cancel 60 = .ok (.getfield 220, 3) := by decide +kernel
theorem dX11_cancel_63 : decode cX11_cancel 63 = .ok (.invokevirtual 156, 3) := by decide +kernel
theorem dX11_cancel_66 : decode cX11_cancel 66 = .ok (.getfield 211, 3) := by decide +kernel
theorem dX11_cancel_69 : decode cX11_cancel 69 = .ok (.ifCond .eq 20, 3) := by decide +kernel
theorem dX11_cancel_72 : decode cX11_cancel 72 = .ok (.aload_n 0, 1) := by decide +kernel
theorem dX11_cancel_73 : decode cX11_cancel 73 = .ok (.getfield 21, 3) := by decide +kernel
theorem dX11_cancel_76 : decode cX11_cancel 76 = .ok (.aload_n 3, 1) := by decide +kernel
theorem dX11_cancel_77 : decode cX11_cancel 77 = .ok (.getfield 225, 3) := by decide +kernel
theorem dX11_cancel_80 : decode cX11_cancel 80 = .ok (.invokevirtual 156, 3) := by decide +kernel
theorem dX11_cancel_83 : decode cX11_cancel 83 = .ok (.getfield 211, 3) := by decide +kernel
theorem dX11_cancel_86 : decode cX11_cancel 86 = .ok (.ifCond .ne 5, 3) := by decide +kernel
theorem dX11_cancel_89 : decode cX11_cancel 89 = .ok (.iconst 0, 1) := by decide +kernel
theorem dX11_cancel_90 : decode cX11_cancel 90 = .ok (.ireturn, 1) := by decide +kernel
theorem dX11_cancel_91 : decode cX11_cancel 91 = .ok (.aload_n 0, 1) := by decide +kernel
theorem dX11_cancel_92 : decode cX11_cancel 92 = .ok (.getfield 21, 3) := by decide +kernel
theorem dX11_cancel_95 : decode cX11_cancel 95 = .ok (.aload_n 3, 1) := by decide +kernel
theorem dX11_cancel_96 : decode cX11_cancel 96 = .ok (.invokevirtual 228, 3) := by decide +kernel
theorem dX11_cancel_99 : decode cX11_cancel 99 = .ok (.iconst 1, 1) := by decide +kernel
theorem dX11_cancel_100 : decode cX11_cancel 100 = .ok (.ireturn, 1) := by decide +kernel
theorem dX11_hold_0 : decode cX11_hold 0 = .ok (.aload_n 0, 1) := by decide +kernel
theorem dX11_hold_1 : decode cX11_hold 1 = .ok (.iload_n 1, 1) := by decide +kernel
theorem dX11_hold_2 : decode cX11_hold 2 = .ok (.invokevirtual 197, 3) := by decide +kernel
theorem dX11_hold_5 : decode cX11_hold 5 = .ok (.aload_n 0, 1) := by decide +kernel
theorem dX11_hold_6 : decode cX11_hold 6 = .ok (.getfield 21, 3) := by decide +kernel
theorem dX11_hold_9 : decode cX11_hold 9 = .ok (.iload_n 1, 1) := by decide +kernel
theorem dX11_hold_10 : decode cX11_hold 10 = .ok (.invokevirtual 156, 3) := by decide +kernel
theorem dX11_hold_13 : decode cX11_hold 13 = .ok (.astore_n 2, 1) := by decide +kernel
theorem dX11_hold_14 : decode cX11_hold 14 = .ok (.aload_n 2, 1) := by decide +kernel
theorem dX11_hold_15 : decode cX11_hold 15 = .ok (.invokevirtual 203, 3) := by decide +kernel
theorem dX11_hold_18 : decode cX11_hold 18 = .ok (.invokestatic 67, 3) := by decide +kernel
theorem dX11_hold_21 : decode cX11_hold 21 = .ok (.aload_n 2, 1) := by decide +kernel
theorem dX11_hold_22 : decode cX11_hold 22 = .ok (.aload_n 2, 1) := by decide +kernel
theorem dX11_hold_23 : decode cX11_hold 23 = .ok (.getfield 232, 3) := by decide +kernel
theorem dX11_hold_26 : decode cX11_hold 26 = .ok (.ifCond .ne 7, 3) := by decide +kernel
theorem dX11_hold_29 : decode cX11_hold 29 = .ok (.iconst 1, 1) := by decide +kernel
theorem dX11_hold_30 : decode cX11_hold 30 = .ok (.goto 4, 3) := by decide +kernel
theorem dX11_hold_33 : decode cX11_hold 33 = .ok (.iconst 0, 1) := by decide +kernel
theorem dX11_hold_34 : decode cX11_hold 34 = .ok (.putfield 232, 3) := by decide +kernel
theorem dX11_hold_37 : decode cX11_hold 37 = .ok (.aload_n 2, 1) := by decide +kernel
theorem dX11_hold_38 : decode cX11_hold 38 = .ok (.getfield 232, 3) := by decide +kernel
theorem dX11_hold_41 : decode cX11_hold 41 = .ok (.ireturn, 1) := by decide +kernel
theorem dX11_link_0 : decode cX11_link 0 = .ok (.aload_n 0, 1) := by decide +kernel
theorem dX11_link_1 : decode cX11_link 1 = .ok (.iload_n 1, 1) := by decide +kernel
theorem dX11_link_2 : decode cX11_link 2 = .ok (.invokevirtual 235, 3) := by decide +kernel
theorem dX11_link_5 : decode cX11_link 5 = .ok (.aload_n 0, 1) := by decide +kernel
theorem dX11_link_6 : decode cX11_link 6 = .ok (.iload_n 2, 1) := by decide +kernel
theorem dX11_link_7 : decode cX11_link 7 = .ok (.invokevirtual 235, 3) := by decide +kernel
theorem dX11_link_10 : decode cX11_link 10 = .ok (.iload_n 1, 1) := by decide +kernel
theorem dX11_link_11 : decode cX11_link 11 = .ok (.iload_n 2, 1) := by decide +kernel
theorem dX11_link_12 : decode cX11_link 12 = .ok (.if_icmp .eq 7, 3) := by decide +kernel
theorem dX11_link_15 : decode cX11_link 15 = .ok (.iconst 1, 1) := by decide +kernel
theorem dX11_link_16 : decode cX11_link 16 = .ok (.goto 4, 3) := by decide +kernel
theorem dX11_link_19 : decode cX11_link 19 = .ok (.iconst 0, 1) := by decide +kernel
theorem dX11_link_20 : decode cX11_link 20 = .ok (.invokestatic 130, 3) := by decide +kernel
theorem dX11_link_23 : decode cX11_link 23 = .ok (.aload_n 0, 1) := by decide +kernel
theorem dX11_link_24 : decode cX11_link 24 = .ok (.getfield 21, 3) := by decide +kernel
theorem dX11_link_27 : decode cX11_link 27 = .ok (.iload_n 1, 1) := by decide +kernel
theorem dX11_link_28 : decode cX11_link 28 = .ok (.invokevirtual 217, 3) := by decide +kernel
theorem dX11_link_31 : decode cX11_link 31 = .ok (.getfield 238, 3) := by decide +kernel
theorem dX11_link_34 : decode cX11_link 34 = .ok (.iconst 1, 1) := by decide +kernel
theorem dX11_link_35 : decode cX11_link 35 = .ok (.if_icmp .ne 22, 3) := by decide +kernel
theorem dX11_link_38 : decode cX11_link 38 = .ok (.aload_n 0, 1) := by decide +kernel
theorem dX11_link_39 : decode cX11_link 39 = .ok (.getfield 21, 3) := by decide +kernel
theorem dX11_link_42 : decode cX11_link 42 = .ok (.iload_n 2, 1) := by decide +kernel
theorem dX11_link_43 : decode cX11_link 43 = .ok (.invokevirtual 217, 3) := by decide +kernel
theorem dX11_link_46 : decode cX11_link 46 = .ok (.getfield 238, 3) := by decide +kernel
theorem dX11_link_49 : decode cX11_link 49 = .ok (.iconst 1, 1) := by decide +kernel
theorem dX11_link_50 : decode cX11_link 50 = .ok (.if_icmp .ne 7, 3) := by decide +kernel
theorem dX11_link_53 : decode cX11_link 53 = .ok (.iconst 1, 1) := by decide +kernel
theorem dX11_link_54 : decode cX11_link 54 = .ok (.goto 4, 3) := by decide +kernel
theorem dX11_link_57 : decode cX11_link 57 = .ok (.iconst 0, 1) := by decide +kernel
theorem dX11_link_58 : decode cX11_link 58 = .ok (.invokestatic 67, 3) := by decide +kernel
theorem dX11_link_61 : decode cX11_link 61 = .ok (.aload_n 0, 1) := by decide +kernel
theorem dX11_link_62 : decode cX11_link 62 = .ok (.getfield 21, 3) := by decide +kernel
theorem dX11_link_65 : decode cX11_link 65 = .ok (.iload_n 1, 1) := by decide +kernel
theorem dX11_link_66 : decode cX11_link 66 = .ok (.iload_n 2, 1) := by decide +kernel
theorem dX11_link_67 : decode cX11_link 67 = .ok (.invokevirtual 239, 3) := by decide +kernel
theorem dX11_link_70 : decode cX11_link 70 = .ok (.ifCond .ne 19, 3) := by decide +kernel
theorem dX11_link_73 : decode cX11_link 73 = .ok (.aload_n 0, 1) := by decide +kernel
theorem dX11_link_74 : decode cX11_link 74 = .ok (.getfield 21, 3) := by decide +kernel
theorem dX11_link_77 : decode cX11_link 77 = .ok (.getfield 243, 3) := by decide +kernel
theorem dX11_link_80 : decode cX11_link 80 = .ok (.bipush 10, 2) := by decide +kernel
theorem dX11_link_82 : decode cX11_link 82 = .ok (.if_icmp .ge 7, 3) := by decide +kernel
theorem dX11_link_85 : decode cX11_link 85 = .ok (.iconst 1, 1) := by decide +kernel
theorem dX11_link_86 : decode cX11_link 86 = .ok (.goto 4, 3) := by decide +kernel
theorem dX11_link_89 : decode cX11_link 89 = .ok (.iconst 0, 1) := by decide +kernel
theorem dX11_link_90 : decode cX11_link 90 = .ok (.invokestatic 67, 3) := by decide +kernel
theorem dX11_link_93 : decode cX11_link 93 = .ok (.aload_n 0, 1) := by decide +kernel
theorem dX11_link_94 : decode cX11_link 94 = .ok (.getfield 21, 3) := by decide +kernel
theorem dX11_link_97 : decode cX11_link 97 = .ok (.aload_n 0, 1) := by decide +kernel
theorem dX11_link_98 : decode cX11_link 98 = .ok (.getfield 21, 3) := by decide +kernel
theorem dX11_link_101 : decode cX11_link 101 = .ok (.getfield 243, 3) := by decide +kernel
theorem dX11_link_104 : decode cX11_link 104 = .ok (.invokevirtual 246, 3) := by decide +kernel
theorem dX11_link_107 : decode cX11_link 107 = .ok (.astore 4, 2) := by decide +kernel
theorem dX11_link_109 : decode cX11_link 109 = .ok (.aload 4, 2) := by decide +kernel
theorem dX11_link_111 : decode cX11_link 111 = .ok (.iload_n 1, 1) := by decide +kernel
theorem dX11_link_112 : decode cX11_link 112 = .ok (.putfield 250, 3) := by decide +kernel
theorem dX11_link_115 : decode cX11_link 115 = .ok (.aload 4, 2) := by decide +kernel
theorem dX11_link_117 : decode cX11_link 117 = .ok (.iload_n 2, 1) := by decide +kernel
theorem dX11_link_118 : decode cX11_link 118 = .ok (.putfield 255, 3) := by decide +kernel
theorem dX11_link_121 : decode cX11_link 121 = .ok (.aload 4, 2) := by decide +kernel
theorem dX11_link_123 : decode cX11_link 123 = .ok (.iload_n 3, 1) := by decide +kernel
theorem dX11_link_124 : decode cX11_link 124 = .ok (.putfield 258, 3) := by decide +kernel
theorem dX11_link_127 : decode cX11_link 127 = .ok (.aload_n 0, 1) := by decide +kernel
theorem dX11_link_128 : decode cX11_link 128 = .ok (.getfield 21, 3) := by decide +kernel
theorem dX11_link_131 : decode cX11_link 131 = .ok (.dup, 1) := by decide +kernel
theorem dX11_link_132 : decode cX11_link 132 = .ok (.getfield 243, 3) := by decide +kernel
theorem dX11_link_135 : decode cX11_link 135 = .ok (.iconst 1, 1) := by decide +kernel
theorem dX11_link_136 : decode cX11_link 136 = .ok (.iadd, 1) := by decide +kernel
theorem dX11_link_137 : decode cX11_link 137 = .ok (.putfield 243, 3) := by decide +kernel
theorem dX11_link_140 : decode cX11_link 140 = .ok (.aload_n 0, 1) := by decide +kernel
theorem dX11_link_141 : decode cX11_link 141 = .ok (.getfield 21, 3) := by decide +kernel
theorem dX11_link_144 : decode cX11_link 144 = .ok (.getfield 243, 3) := by decide +kernel
theorem dX11_link_147 : decode cX11_link 147 = .ok (.ireturn, 1) := by decide +kernel
