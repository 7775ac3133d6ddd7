theorem dX1_moveUnits_0 : decode cX1_moveUnits 0 = .ok (.aload_n 0, 1) := by decide +kernel
theorem dX1_moveUnits_1 : decode cX1_moveUnits 1 = .ok (.iload_n 1, 1) := by decide +kernel
theorem dX1_moveUnits_2 : decode cX1_moveUnits 2 = .ok (.invokevirtual 72, 3) := by decide +kernel
theorem dX1_moveUnits_5 : decode cX1_moveUnits 5 = .ok (.iload_n 3, 1) := by decide +kernel
theorem dX1_moveUnits_6 : decode cX1_moveUnits 6 = .ok (.lload 4, 2) := by decide +kernel
theorem dX1_moveUnits_8 : decode cX1_moveUnits 8 = .ok (.lneg, 1) := by decide +kernel
theorem dX1_moveUnits_9 : decode cX1_moveUnits 9 = .ok (.aload_n 0, 1) := by decide +kernel
theorem dX1_moveUnits_10 : decode cX1_moveUnits 10 = .ok (.getfield 155, 3) := by decide +kernel
theorem dX1_moveUnits_13 : decode cX1_moveUnits 13 = .ok (.invokevirtual 286, 3) := by decide +kernel
theorem dX1_moveUnits_16 : decode cX1_moveUnits 16 = .ok (.aload_n 0, 1) := by decide +kernel
theorem dX1_moveUnits_17 : decode cX1_moveUnits 17 = .ok (.iload_n 2, 1) := by decide +kernel
theorem dX1_moveUnits_18 : decode cX1_moveUnits 18 = .ok (.invokevirtual 72, 3) := by decide +kernel
theorem dX1_moveUnits_21 : decode cX1_moveUnits 21 = .ok (.iload_n 3, 1) := by decide +kernel
theorem dX1_moveUnits_22 : decode cX1_moveUnits 22 = .ok (.lload 4, 2) := by decide +kernel
theorem dX1_moveUnits_24 : decode cX1_moveUnits 24 = .ok (.aload_n 0, 1) := by decide +kernel
theorem dX1_moveUnits_25 : decode cX1_moveUnits 25 = .ok (.getfield 155, 3) := by decide +kernel
theorem dX1_moveUnits_28 : decode cX1_moveUnits 28 = .ok (.invokevirtual 286, 3) := by decide +kernel
theorem dX1_moveUnits_31 : decode cX1_moveUnits 31 = .ok (.return_, 1) := by decide +kernel
theorem dX1_causerOf_0 : decode cX1_causerOf 0 = .ok (.aload_n 1, 1) := by decide +kernel
theorem dX1_causerOf_1 : decode cX1_causerOf 1 = .ok (.astore_n 2, 1) := by decide +kernel
theorem dX1_causerOf_2 : decode cX1_causerOf 2 = .ok (.iconst 0, 1) := by decide +kernel
theorem dX1_causerOf_3 : decode cX1_causerOf 3 = .ok (.istore_n 3, 1) := by decide +kernel
theorem dX1_causerOf_4 : decode cX1_causerOf 4 = .ok (.iconst 0, 1) := by decide +kernel
theorem dX1_causerOf_5 : decode cX1_causerOf 5 = .ok (.istore 4, 2) := by decide +kernel
theorem dX1_causerOf_7 : decode cX1_causerOf 7 = .ok (.iload 4, 2) := by decide +kernel
theorem dX1_causerOf_9 : decode cX1_causerOf 9 = .ok (.bipush 20, 2) := by decide +kernel
theorem dX1_causerOf_11 : decode cX1_causerOf 11 = .ok (.if_icmp .ge 90, 3) := by decide +kernel
theorem dX1_causerOf_14 : decode cX1_causerOf 14 = .ok (.aload_n 0, 1) := by decide +kernel
theorem dX1_causerOf_15 : decode cX1_causerOf 15 = .ok (.aload_n 2, 1) := by decide +kernel
theorem dX1_causerOf_16 : decode cX1_causerOf 16 = .ok (.getfield 199, 3) := by decide +kernel
theorem dX1_causerOf_19 : decode cX1_causerOf 19 = .ok (.invokevirtual 87, 3) := by decide +kernel
theorem dX1_causerOf_22 : decode cX1_causerOf 22 = .ok (.getfield 268, 3) := by decide +kernel
theorem dX1_causerOf_25 : decode cX1_causerOf 25 = .ok (.ifCond .eq 8, 3) := by decide +kernel
theorem dX1_causerOf_28 : decode cX1_causerOf 28 = .ok (.aload_n 2, 1) := by decide +kernel
theorem dX1_causerOf_29 : decode cX1_causerOf 29 = .ok (.getfield 207, 3) := by decide +kernel
theorem dX1_causerOf_32 : decode cX1_causerOf 32 = .ok (.ireturn, 1) := by decide +kernel
theorem dX1_causerOf_33 : decode cX1_causerOf 33 = .ok (.aload_n 0, 1) := by decide +kernel
theorem dX1_causerOf_34 : decode cX1_causerOf 34 = .ok (.aload_n 2, 1) := by decide +kernel
theorem dX1_causerOf_35 : decode cX1_causerOf 35 = .ok (.getfield 202, 3) := by decide +kernel
theorem dX1_causerOf_38 : decode cX1_causerOf 38 = .ok (.invokevirtual 87, 3) := by decide +kernel
theorem dX1_causerOf_41 : decode cX1_causerOf 41 = .ok (.getfield 268, 3) := by decide +kernel
theorem dX1_causerOf_44 : decode cX1_causerOf 44 = .ok (.ifCond .ne 11, 3) := by decide +kernel
theorem dX1_causerOf_47 : decode cX1_causerOf 47 = .ok (.aload_n 0, 1) := by decide +kernel
theorem dX1_causerOf_48 : decode cX1_causerOf 48 = .ok (.aload_n 2, 1) := by decide +kernel
theorem dX1_causerOf_49 : decode cX1_causerOf 49 = .ok (.invokevirtual 290, 3) := by decide +kernel
theorem dX1_causerOf_52 : decode cX1_causerOf 52 = .ok (.ifCond .ne 8, 3) := by decide +kernel
theorem dX1_causerOf_55 : decode cX1_causerOf 55 = .ok (.aload_n 2, 1) := by decide +kernel
theorem dX1_causerOf_56 : decode cX1_causerOf 56 = .ok (.getfield 210, 3) := by decide +kernel
theorem dX1_causerOf_59 : decode cX1_causerOf 59 = .ok (.ireturn, 1) := by decide +kernel
theorem dX1_causerOf_60 : decode cX1_causerOf 60 = .ok (.iload_n 3, 1) := by decide +kernel
theorem dX1_causerOf_61 : decode cX1_causerOf 61 = .ok (.iconst 1, 1) := by decide +kernel
theorem dX1_causerOf_62 : decode cX1_causerOf 62 = .ok (.aload_n 2, 1) := by decide +kernel
theorem dX1_causerOf_63 : decode cX1_causerOf 63 = .ok (.getfield 261, 3) := by decide +kernel
theorem dX1_causerOf_66 : decode cX1_causerOf 66 = .ok (.ishl, 1) := by decide +kernel
theorem dX1_causerOf_67 : decode cX1_causerOf 67 = .ok (.ior, 1) := by decide +kernel
theorem dX1_causerOf_68 : decode cX1_causerOf 68 = .ok (.istore_n 3, 1) := by decide +kernel
theorem dX1_causerOf_69 : decode cX1_causerOf 69 = .ok (.aload_n 0, 1) := by decide +kernel
theorem dX1_causerOf_70 : decode cX1_causerOf 70 = .ok (.aload_n 2, 1) := by decide +kernel
theorem dX1_causerOf_71 : decode cX1_causerOf 71 = .ok (.iload_n 3, 1) := by decide +kernel
theorem dX1_causerOf_72 : decode cX1_causerOf 72 = .ok (.invokevirtual 294, 3) := by decide +kernel
theorem dX1_causerOf_75 : decode cX1_causerOf 75 = .ok (.istore 5, 2) := by decide +kernel
theorem dX1_causerOf_77 : decode cX1_causerOf 77 = .ok (.iload 5, 2) := by decide +kernel
theorem dX1_causerOf_79 : decode cX1_causerOf 79 = .ok (.iconst (-1), 1) := by decide +kernel
theorem dX1_causerOf_80 : decode cX1_causerOf 80 = .ok (.if_icmp .ne 8, 3) := by decide +kernel
theorem dX1_causerOf_83 : decode cX1_causerOf 83 = .ok (.aload_n 2, 1) := by decide +kernel
theorem dX1_causerOf_84 : decode cX1_causerOf 84 = .ok (.getfield 207, 3) := by decide +kernel
theorem dX1_causerOf_87 : decode cX1_causerOf 87 = .ok (.ireturn, 1) := by decide +kernel
theorem dX1_causerOf_88 : decode cX1_causerOf 88 = .ok (.aload_n 0, 1) := by decide +kernel
theorem dX1_causerOf_89 : decode cX1_causerOf 89 = .ok (.iload 5, 2) := by decide +kernel
theorem dX1_causerOf_91 : decode cX1_causerOf 91 = .ok (.invokevirtual 94, 3) := by decide +kernel
theorem dX1_causerOf_94 : decode cX1_causerOf 94 = .ok (.astore_n 2, 1) := by decide +kernel
theorem dX1_causerOf_95 : decode cX1_causerOf 95 = .ok (.iinc 4 1, 3) := by decide +kernel
theorem dX1_causerOf_98 : decode cX1_causerOf 98 = .ok (.goto (-91), 3) := by decide +kernel
theorem dX1_causerOf_101 : decode cX1_causerOf 101 = .ok (.aload_n 2, 1) := by decide +kernel
theorem dX1_causerOf_102 : decode cX1_causerOf 102 = .ok (.getfield 207, 3) := by decide +kernel
theorem dX1_causerOf_105 : decode cX1_causerOf 105 = .ok (.ireturn, 1) := by decide +kernel
theorem dX1_sourceOf_0 : decode cX1_sourceOf 0 = .ok (.iconst 0, 1) := by decide +kernel
theorem dX1_sourceOf_1 : decode cX1_sourceOf 1 = .ok (.istore_n 3, 1) := by decide +kernel
theorem dX1_sourceOf_2 : decode cX1_sourceOf 2 = .ok (.iload_n 3, 1) := by decide +kernel
theorem dX1_sourceOf_3 : decode cX1_sourceOf 3 = .ok (.aload_n 0, 1) := by decide +kernel
theorem dX1_sourceOf_4 : decode cX1_sourceOf 4 = .ok (.getfield 140, 3) := by decide +kernel
theorem dX1_sourceOf_7 : decode cX1_sourceOf 7 = .ok (.if_icmp .ge 71, 3) := by decide +kernel
theorem dX1_sourceOf_10 : decode cX1_sourceOf 10 = .ok (.aload_n 0, 1) := by decide +kernel
theorem dX1_sourceOf_11 : decode cX1_sourceOf 11 = .ok (.iload_n 3, 1) := by decide +kernel
theorem dX1_sourceOf_12 : decode cX1_sourceOf 12 = .ok (.invokevirtual 94, 3) := by decide +kernel
theorem dX1_sourceOf_15 : decode cX1_sourceOf 15 = .ok (.astore 4, 2) := by decide +kernel
theorem dX1_sourceOf_17 : decode cX1_sourceOf 17 = .ok (.iload_n 2, 1) := by decide +kernel
theorem dX1_sourceOf_18 : decode cX1_sourceOf 18 = .ok (.iload_n 3, 1) := by decide +kernel
theorem dX1_sourceOf_19 : decode cX1_sourceOf 19 = .ok (.ishr, 1) := by decide +kernel
theorem dX1_sourceOf_20 : decode cX1_sourceOf 20 = .ok (.iconst 1, 1) := by decide +kernel
theorem dX1_sourceOf_21 : decode cX1_sourceOf 21 = .ok (.iand, 1) := by decide +kernel
theorem dX1_sourceOf_22 : decode cX1_sourceOf 22 = .ok (.ifCond .ne 7, 3) := by decide +kernel
theorem dX1_sourceOf_25 : decode cX1_sourceOf 25 = .ok (.iconst 1, 1) := by decide +kernel
theorem dX1_sourceOf_26 : decode cX1_sourceOf 26 = .ok (.goto 4, 3) := by decide +kernel
theorem dX1_sourceOf_29 : decode cX1_sourceOf 29 = .ok (.iconst 0, 1) := by decide +kernel
theorem dX1_sourceOf_30 : decode cX1_sourceOf 30 = .ok (.istore 5, 2) := by decide +kernel
theorem dX1_sourceOf_32 : decode cX1_sourceOf 32 = .ok (.iload 5, 2) := by decide +kernel
theorem dX1_sourceOf_34 : decode cX1_sourceOf 34 = .ok (.ifCond .eq 38, 3) := by decide +kernel
theorem dX1_sourceOf_37 : decode cX1_sourceOf 37 = .ok (.aload_n 0, 1) := by decide +kernel
theorem dX1_sourceOf_38 : decode cX1_sourceOf 38 = .ok (.aload 4, 2) := by decide +kernel
theorem dX1_sourceOf_40 : decode cX1_sourceOf 40 = .ok (.invokevirtual 298, 3) := by decide +kernel
theorem dX1_sourceOf_43 : decode cX1_sourceOf 43 = .ok (.ifCond .eq 29, 3) := by decide +kernel
theorem dX1_sourceOf_46 : decode cX1_sourceOf 46 = .ok (.aload 4, 2) := by decide +kernel
theorem dX1_sourceOf_48 : decode cX1_sourceOf 48 = .ok (.getfield 210, 3) := by decide +kernel
theorem dX1_sourceOf_51 : decode cX1_sourceOf 51 = .ok (.aload_n 1, 1) := by decide +kernel
theorem dX1_sourceOf_52 : decode cX1_sourceOf 52 = .ok (.getfield 207, 3) := by decide +kernel
theorem dX1_sourceOf_55 : decode cX1_sourceOf 55 = .ok (.if_icmp .ne 17, 3) := by decide +kernel
theorem dX1_sourceOf_58 : decode cX1_sourceOf 58 = .ok (.aload 4, 2) := by decide +kernel
theorem dX1_sourceOf_60 : decode cX1_sourceOf 60 = .ok (.getfield 215, 3) := by decide +kernel
theorem dX1_sourceOf_63 : decode cX1_sourceOf 63 = .ok (.aload_n 1, 1) := by decide +kernel
theorem dX1_sourceOf_64 : decode cX1_sourceOf 64 = .ok (.getfield 215, 3) := by decide +kernel
theorem dX1_sourceOf_67 : decode cX1_sourceOf 67 = .ok (.if_icmp .ne 5, 3) := by decide +kernel
theorem dX1_sourceOf_70 : decode cX1_sourceOf 70 = .ok (.iload_n 3, 1) := by decide +kernel
theorem dX1_sourceOf_71 : decode cX1_sourceOf 71 = .ok (.ireturn, 1) := by decide +kernel
theorem dX1_sourceOf_72 : decode cX1_sourceOf 72 = .ok (.iinc 3 1, 3) := by decide +kernel
theorem dX1_sourceOf_75 : decode cX1_sourceOf 75 = .ok (.goto (-73), 3) := by decide +kernel
theorem dX1_sourceOf_78 : decode cX1_sourceOf 78 = .ok (.iconst (-1), 1) := by decide +kernel
theorem dX1_sourceOf_79 : decode cX1_sourceOf 79 = .ok (.ireturn, 1) := by decide +kernel
theorem dX2_bestByBranches_0 : decode cX2_bestByBranches 0 = .ok (.aload_n 0, 1) := by decide +kernel
theorem dX2_bestByBranches_1 : decode cX2_bestByBranches 1 = .ok (.invokevirtual 26, 3) := by decide +kernel
theorem dX2_bestByBranches_4 : decode cX2_bestByBranches 4 = .ok (.aload_n 0, 1) := by decide +kernel
theorem dX2_bestByBranches_5 : decode cX2_bestByBranches 5 = .ok (.iconst 0, 1) := by decide +kernel
theorem dX2_bestByBranches_6 : decode cX2_bestByBranches 6 = .ok (.invokestatic 29, 3) := by decide +kernel
theorem dX2_bestByBranches_9 : decode cX2_bestByBranches 9 = .ok (.aload_n 0, 1) := by decide +kernel
theorem dX2_bestByBranches_10 : decode cX2_bestByBranches 10 = .ok (.getfield 33, 3) := by decide +kernel
theorem dX2_bestByBranches_13 : decode cX2_bestByBranches 13 = .ok (.lreturn, 1) := by decide +kernel
theorem dX2_bestOfAllSets_0 : decode cX2_bestOfAllSets 0 = .ok (.aload_n 0, 1) := by decide +kernel
theorem dX2_bestOfAllSets_1 : decode cX2_bestOfAllSets 1 = .ok (.invokevirtual 26, 3) := by decide +kernel
theorem dX2_bestOfAllSets_4 : decode cX2_bestOfAllSets 4 = .ok (.iconst 0, 1) := by decide +kernel
theorem dX2_bestOfAllSets_5 : decode cX2_bestOfAllSets 5 = .ok (.istore_n 1, 1) := by decide +kernel
theorem dX2_bestOfAllSets_6 : decode cX2_bestOfAllSets 6 = .ok (.iload_n 1, 1) := by decide +kernel
theorem dX2_bestOfAllSets_7 : decode cX2_bestOfAllSets 7 = .ok (.iconst 1, 1) := by decide +kernel
theorem dX2_bestOfAllSets_8 : decode cX2_bestOfAllSets 8 = .ok (.aload_n 0, 1) := by decide +kernel
theorem dX2_bestOfAllSets_9 : decode cX2_bestOfAllSets 9 = .ok (.getfield 37, 3) := by decide +kernel
theorem dX2_bestOfAllSets_12 : decode cX2_bestOfAllSets 12 = .ok (.ishl, 1) := by decide +kernel
theorem dX2_bestOfAllSets_13 : decode cX2_bestOfAllSets 13 = .ok (.if_icmp .ge 79, 3) := by decide +kernel
theorem dX2_bestOfAllSets_16 : decode cX2_bestOfAllSets 16 = .ok (.iconst 0, 1) := by decide +kernel
theorem dX2_bestOfAllSets_17 : decode cX2_bestOfAllSets 17 = .ok (.istore_n 2, 1) := by decide +kernel
theorem dX2_bestOfAllSets_18 : decode cX2_bestOfAllSets 18 = .ok (.iload_n 2, 1) := by decide +kernel
theorem dX2_bestOfAllSets_19 : decode cX2_bestOfAllSets 19 = .ok (.aload_n 0, 1) := by decide +kernel
theorem dX2_bestOfAllSets_20 : decode cX2_bestOfAllSets 20 = .ok (.getfield 37, 3) := by decide +kernel
theorem dX2_bestOfAllSets_23 : decode cX2_bestOfAllSets 23 = .ok (.if_icmp .ge 26, 3) := by decide +kernel
theorem dX2_bestOfAllSets_26 : decode cX2_bestOfAllSets 26 = .ok (.iload_n 1, 1) := by decide +kernel
theorem dX2_bestOfAllSets_27 : decode cX2_bestOfAllSets 27 = .ok (.iload_n 2, 1) := by decide +kernel
theorem dX2_bestOfAllSets_28 : decode cX2_bestOfAllSets 28 = .ok (.ishr, 1) := by decide +kernel
theorem dX2_bestOfAllSets_29 : decode cX2_bestOfAllSets 29 = .ok (.iconst 1, 1) := by decide +kernel
theorem dX2_bestOfAllSets_30 : decode cX2_bestOfAllSets 30 = .ok (.iand, 1) := by decide +kernel
theorem dX2_bestOfAllSets_31 : decode cX2_bestOfAllSets 31 = .ok (.ifCond .eq 12, 3) := by decide +kernel
theorem dX2_bestOfAllSets_34 : decode cX2_bestOfAllSets 34 = .ok (.aload_n 0, 1) := by decide +kernel
theorem dX2_bestOfAllSets_35 : decode cX2_bestOfAllSets 35 = .ok (.aload_n 0, 1) := by decide +kernel
theorem dX2_bestOfAllSets_36 : decode cX2_bestOfAllSets 36 = .ok (.iload_n 2, 1) := by decide +kernel
theorem dX2_bestOfAllSets_37 : decode cX2_bestOfAllSets 37 = .ok (.invokevirtual 41, 3) := by decide +kernel
theorem dX2_bestOfAllSets_40 : decode cX2_bestOfAllSets 40 = .ok (.invokevirtual 45, 3) := by decide +kernel
theorem dX2_bestOfAllSets_43 : decode cX2_bestOfAllSets 43 = .ok (.iinc 2 1, 3) := by decide +kernel
theorem dX2_bestOfAllSets_46 : decode cX2_bestOfAllSets 46 = .ok (.goto (-28), 3) := by decide +kernel
theorem dX2_bestOfAllSets_49 : decode cX2_bestOfAllSets 49 = .ok (.aload_n 0, 1) := by decide +kernel
theorem dX2_bestOfAllSets_50 : decode cX2_bestOfAllSets 50 = .ok (.invokevirtual 49, 3) := by decide +kernel
theorem dX2_bestOfAllSets_53 : decode cX2_bestOfAllSets 53 = .ok (.iconst 0, 1) := by decide +kernel
theorem dX2_bestOfAllSets_54 : decode cX2_bestOfAllSets 54 = .ok (.istore_n 2, 1) := by decide +kernel
theorem dX2_bestOfAllSets_55 : decode cX2_bestOfAllSets 55 = .ok (.iload_n 2, 1) := by decide +kernel
theorem dX2_bestOfAllSets_56 : decode cX2_bestOfAllSets 56 = .ok (.aload_n 0, 1) := by decide +kernel
theorem dX2_bestOfAllSets_57 : decode cX2_bestOfAllSets 57 = .ok (.getfield 37, 3) := by decide +kernel
theorem dX2_bestOfAllSets_60 : decode cX2_bestOfAllSets 60 = .ok (.if_icmp .ge 26, 3) := by decide +kernel
theorem dX2_bestOfAllSets_63 : decode cX2_bestOfAllSets 63 = .ok (.iload_n 1, 1) := by decide +kernel
theorem dX2_bestOfAllSets_64 : decode cX2_bestOfAllSets 64 = .ok (.iload_n 2, 1) := by decide +kernel
theorem dX2_bestOfAllSets_65 : decode cX2_bestOfAllSets 65 = .ok (.ishr, 1) := by decide +kernel
theorem dX2_bestOfAllSets_66 : decode cX2_bestOfAllSets 66 = .ok (.iconst 1, 1) := by decide +kernel
theorem dX2_bestOfAllSets_67 : decode cX2_bestOfAllSets 67 = .ok (.iand, 1) := by decide +kernel
theorem dX2_bestOfAllSets_68 : decode cX2_bestOfAllSets 68 = .ok (.ifCond .eq 12, 3) := by decide +kernel
theorem dX2_bestOfAllSets_71 : decode cX2_bestOfAllSets 71 = .ok (.aload_n 0, 1) := by decide +kernel
theorem dX2_bestOfAllSets_72 : decode cX2_bestOfAllSets 72 = .ok (.aload_n 0, 1) := by decide +kernel
theorem dX2_bestOfAllSets_73 : decode cX2_bestOfAllSets 73 = .ok (.iload_n 2, 1) := by decide +kernel
theorem dX2_bestOfAllSets_74 : decode cX2_bestOfAllSets 74 = .ok (.invokevirtual 41, 3) := by decide +kernel
theorem dX2_bestOfAllSets_77 : decode cX2_bestOfAllSets 77 = .ok (.invokevirtual 52, 3) := by decide +kernel
theorem dX2_bestOfAllSets_80 : decode cX2_bestOfAllSets 80 = .ok (.iinc 2 1, 3) := by decide +kernel
theorem dX2_bestOfAllSets_83 : decode cX2_bestOfAllSets 83 = .ok (.goto (-28), 3) := by decide +kernel
theorem dX2_bestOfAllSets_86 : decode cX2_bestOfAllSets 86 = .ok (.iinc 1 1, 3) := by decide +kernel
theorem dX2_bestOfAllSets_89 : decode cX2_bestOfAllSets 89 = .ok (.goto (-83), 3) := by decide +kernel
theorem dX2_bestOfAllSets_92 : decode cX2_bestOfAllSets 92 = .ok (.aload_n 0, 1) := by decide +kernel
theorem dX2_bestOfAllSets_93 : decode cX2_bestOfAllSets 93 = .ok (.getfield 33, 3) := by decide +kernel
theorem dX2_bestOfAllSets_96 : decode cX2_bestOfAllSets 96 = .ok (.lreturn, 1) := by decide +kernel
theorem dX2_candidate_0 : decode cX2_candidate 0 = .ok (.aload_n 0, 1) := by decide +kernel
theorem dX2_candidate_1 : decode cX2_candidate 1 = .ok (.getfield 22, 3) := by decide +kernel
theorem dX2_candidate_4 : decode cX2_candidate 4 = .ok (.iload_n 1, 1) := by decide +kernel
theorem dX2_candidate_5 : decode cX2_candidate 5 = .ok (.ifCond .lt 21, 3) := by decide +kernel
theorem dX2_candidate_8 : decode cX2_candidate 8 = .ok (.iload_n 1, 1) := by decide +kernel
theorem dX2_candidate_9 : decode cX2_candidate 9 = .ok (.aload_n 0, 1) := by decide +kernel
theorem dX2_candidate_10 : decode cX2_candidate 10 = .ok (.getfield 9, 3) := by decide +kernel
theorem dX2_candidate_13 : decode cX2_candidate 13 = .ok (.arraylength, 1) := by decide +kernel
theorem dX2_candidate_14 : decode cX2_candidate 14 = .ok (.if_icmp .ge 12, 3) := by decide +kernel
theorem dX2_candidate_17 : decode cX2_candidate 17 = .ok (.aload_n 0, 1) := by decide +kernel
theorem dX2_candidate_18 : decode cX2_candidate 18 = .ok (.getfield 9, 3) := by decide +kernel
theorem dX2_candidate_21 : decode cX2_candidate 21 = .ok (.iload_n 1, 1) := by decide +kernel
theorem dX2_candidate_22 : decode cX2_candidate 22 = .ok (.iaload, 1) := by decide +kernel
theorem dX2_candidate_23 : decode cX2_candidate 23 = .ok (.goto 4, 3) := by decide +kernel
theorem dX2_candidate_26 : decode cX2_candidate 26 = .ok (.iconst (-1), 1) := by decide +kernel
theorem dX2_candidate_27 : decode cX2_candidate 27 = .ok (.invokevirtual 55, 3) := by decide +kernel
theorem dX2_candidate_30 : decode cX2_candidate 30 = .ok (.areturn, 1) := by decide +kernel
theorem dX2_beginSearch_0 : decode cX2_beginSearch 0 = .ok (.aload_n 0, 1) := by decide +kernel
theorem dX2_beginSearch_1 : decode cX2_beginSearch 1 = .ok (.invokevirtual 60, 3) := by decide +kernel
theorem dX2_beginSearch_4 : decode cX2_beginSearch 4 = .ok (.aload_n 0, 1) := by decide +kernel
theorem dX2_beginSearch_5 : decode cX2_beginSearch 5 = .ok (.iconst 0, 1) := by decide +kernel
theorem dX2_beginSearch_6 : decode cX2_beginSearch 6 = .ok (.putfield 63, 3) := by decide +kernel
theorem dX2_beginSearch_9 : decode cX2_beginSearch 9 = .ok (.aload_n 0, 1) := by decide +kernel
theorem dX2_beginSearch_10 : decode cX2_beginSearch 10 = .ok (.iconst 0, 1) := by decide +kernel
theorem dX2_beginSearch_11 : decode cX2_beginSearch 11 = .ok (.putfield 66, 3) := by decide +kernel
theorem dX2_beginSearch_14 : decode cX2_beginSearch 14 = .ok (.aload_n 0, 1) := by decide +kernel
theorem dX2_beginSearch_15 : decode cX2_beginSearch 15 = .ok (.lconst 0, 1) := by decide +kernel
theorem dX2_beginSearch_16 : decode cX2_beginSearch 16 = .ok (.putfield 69, 3) := by decide +kernel
theorem dX2_beginSearch_19 : decode cX2_beginSearch 19 = .ok (.aload_n 0, 1) := by decide +kernel
theorem dX2_beginSearch_20 : decode cX2_beginSearch 20 = .ok (.iconst 0, 1) := by decide +kernel
theorem dX2_beginSearch_21 : decode cX2_beginSearch 21 = .ok (.putfield 72, 3) := by decide +kernel
theorem dX2_beginSearch_24 : decode cX2_beginSearch 24 = .ok (.aload_n 0, 1) := by decide +kernel
theorem dX2_beginSearch_25 : decode cX2_beginSearch 25 = .ok (.iconst 0, 1) := by decide +kernel
theorem dX2_beginSearch_26 : decode cX2_beginSearch 26 = .ok (.putfield 75, 3) := by decide +kernel
theorem dX2_beginSearch_29 : decode cX2_beginSearch 29 = .ok (.aload_n 0, 1) := by decide +kernel
theorem dX2_beginSearch_30 : decode cX2_beginSearch 30 = .ok (.lconst 0, 1) := by decide +kernel
theorem dX2_beginSearch_31 : decode cX2_beginSearch 31 = .ok (.putfield 33, 3) := by decide +kernel
theorem dX2_beginSearch_34 : decode cX2_beginSearch 34 = .ok (.lconst 0, 1) := by decide +kernel
theorem dX2_beginSearch_35 : decode cX2_beginSearch 35 = .ok (.lstore_n 1, 1) := by decide +kernel
theorem dX2_beginSearch_36 : decode cX2_beginSearch 36 = .ok (.aload_n 0, 1) := by decide +kernel
theorem dX2_beginSearch_37 : decode cX2_beginSearch 37 = .ok (.getfield 15, 3) := by decide +kernel
theorem dX2_beginSearch_40 : decode cX2_beginSearch 40 = .ok (.arraylength, 1) := by decide +kernel
theorem dX2_beginSearch_41 : decode cX2_beginSearch 41 = .ok (.iconst 1, 1) := by decide +kernel
theorem dX2_beginSearch_42 : decode cX2_beginSearch 42 = .ok (.isub, 1) := by decide +kernel
theorem dX2_beginSearch_43 : decode cX2_beginSearch 43 = .ok (.istore_n 3, 1) := by decide +kernel
theorem dX2_beginSearch_44 : decode cX2_beginSearch 44 = .ok (.iload_n 3, 1) := by decide +kernel
theorem dX2_beginSearch_45 : decode cX2_beginSearch 45 = .ok (.ifCond .lt 40, 3) := by decide +kernel
theorem dX2_beginSearch_48 : decode cX2_beginSearch 48 = .ok (.lload_n 1, 1) := by decide +kernel
theorem dX2_beginSearch_49 : decode cX2_beginSearch 49 = .ok (.iload_n 3, 1) := by decide +kernel
theorem dX2_beginSearch_50 : decode cX2_beginSearch 50 = .ok (.aload_n 0, 1) := by decide +kernel
theorem dX2_beginSearch_51 : decode cX2_beginSearch 51 = .ok (.getfield 37, 3) := by decide +kernel
theorem dX2_beginSearch_54 : decode cX2_beginSearch 54 = .ok (.if_icmp .ge 15, 3) := by decide +kernel
theorem dX2_beginSearch_57 : decode cX2_beginSearch 57 = .ok (.aload_n 0, 1) := by decide +kernel
theorem dX2_beginSearch_58 : decode cX2_beginSearch 58 = .ok (.aload_n 0, 1) := by decide +kernel
theorem dX2_beginSearch_59 : decode cX2_beginSearch 59 = .ok (.iload_n 3, 1) := by decide +kernel
theorem dX2_beginSearch_60 : decode cX2_beginSearch 60 = .ok (.invokevirtual 41, 3) := by decide +kernel
theorem dX2_beginSearch_63 : decode cX2_beginSearch 63 = .ok (.invokevirtual 78, 3) := by decide +kernel
theorem dX2_beginSearch_66 : decode cX2_beginSearch 66 = .ok (.goto 4, 3) := by decide +kernel
theorem dX2_beginSearch_69 : decode cX2_beginSearch 69 = .ok (.lconst 0, 1) := by decide +kernel
theorem dX2_beginSearch_70 : decode cX2_beginSearch 70 = .ok (.ladd, 1) := by decide +kernel
theorem dX2_beginSearch_71 : decode cX2_beginSearch 71 = .ok (.lstore_n 1, 1) := by decide +kernel
theorem dX2_beginSearch_72 : decode cX2_beginSearch 72 = .ok (.aload_n 0, 1) := by decide +kernel
theorem dX2_beginSearch_73 : decode cX2_beginSearch 73 = .ok (.getfield 15, 3) := by decide +kernel
theorem dX2_beginSearch_76 : decode cX2_beginSearch 76 = .ok (.iload_n 3, 1) := by decide +kernel
theorem dX2_beginSearch_77 : decode cX2_beginSearch 77 = .ok (.lload_n 1, 1) := by decide +kernel
theorem dX2_beginSearch_78 : decode cX2_beginSearch 78 = .ok (.lastore, 1) := by decide +kernel
theorem dX2_beginSearch_79 : decode cX2_beginSearch 79 = .ok (.iinc 3 (-1), 3) := by decide +kernel
theorem dX2_beginSearch_82 : decode cX2_beginSearch 82 = .ok (.goto (-38), 3) := by decide +kernel
theorem dX2_beginSearch_85 : decode cX2_beginSearch 85 = .ok (.return_, 1) := by decide +kernel
theorem dX2_findCandidates_0 : decode cX2_findCandidates 0 = .ok (.aload_n 0, 1) := by decide +kernel
theorem dX2_findCandidates_1 : decode cX2_findCandidates 1 = .ok (.iconst 0, 1) := by decide +kernel
theorem dX2_findCandidates_2 : decode cX2_findCandidates 2 = .ok (.putfield 37, 3) := by decide +kernel
theorem dX2_findCandidates_5 : decode cX2_findCandidates 5 = .ok (.iconst 0, 1) := by decide +kernel
theorem dX2_findCandidates_6 : decode cX2_findCandidates 6 = .ok (.istore_n 1, 1) := by decide +kernel
theorem dX2_findCandidates_7 : decode cX2_findCandidates 7 = .ok (.iload_n 1, 1) := by decide +kernel
theorem dX2_findCandidates_8 : decode cX2_findCandidates 8 = .ok (.aload_n 0, 1) := by decide +kernel
theorem dX2_findCandidates_9 : decode cX2_findCandidates 9 = .ok (.getfield 22, 3) := by decide +kernel
theorem dX2_findCandidates_12 : decode cX2_findCandidates 12 = .ok (.getfield 82, 3) := by decide +kernel
theorem dX2_findCandidates_15 : decode cX2_findCandidates 15 = .ok (.if_icmp .ge 45, 3) := by decide +kernel
theorem dX2_findCandidates_18 : decode cX2_findCandidates 18 = .ok (.aload_n 0, 1) := by decide +kernel
theorem dX2_findCandidates_19 : decode cX2_findCandidates 19 = .ok (.getfield 22, 3) := by decide +kernel
theorem dX2_findCandidates_22 : decode cX2_findCandidates 22 = .ok (.iload_n 1, 1) := by decide +kernel
theorem dX2_findCandidates_23 : decode cX2_findCandidates 23 = .ok (.invokevirtual 55, 3) := by decide +kernel
theorem dX2_findCandidates_26 : decode cX2_findCandidates 26 = .ok (.astore_n 2, 1) := by decide +kernel
theorem dX2_findCandidates_27 : decode cX2_findCandidates 27 = .ok (.aload_n 0, 1) := by decide +kernel
theorem dX2_findCandidates_28 : decode cX2_findCandidates 28 = .ok (.getfield 22, 3) := by decide +kernel
theorem dX2_findCandidates_31 : decode cX2_findCandidates 31 = .ok (.aload_n 2, 1) := by decide +kernel
theorem dX2_findCandidates_32 : decode cX2_findCandidates 32 = .ok (.invokevirtual 85, 3) := by decide +kernel
theorem dX2_findCandidates_35 : decode cX2_findCandidates 35 = .ok (.ifCond .eq 19, 3) := by decide +kernel
theorem dX2_findCandidates_38 : decode cX2_findCandidates 38 = .ok (.aload_n 0, 1) := by decide +kernel
theorem dX2_findCandidates_39 : decode cX2_findCandidates 39 = .ok (.getfield 22, 3) := by decide +kernel
theorem dX2_findCandidates_42 : decode cX2_findCandidates 42 = .ok (.aload_n 2, 1) := by decide +kernel
theorem dX2_findCandidates_43 : decode cX2_findCandidates 43 = .ok (.invokevirtual 89, 3) := by decide +kernel
theorem dX2_findCandidates_46 : decode cX2_findCandidates 46 = .ok (.ifCond .ne 8, 3) := by decide +kernel
theorem dX2_findCandidates_49 : decode cX2_findCandidates 49 = .ok (.aload_n 0, 1) := by decide +kernel
theorem dX2_findCandidates_50 : decode cX2_findCandidates 50 = .ok (.aload_n 2, 1) := by decide +kernel
theorem dX2_findCandidates_51 : decode cX2_findCandidates 51 = .ok (.invokevirtual 92, 3) := by decide +kernel
theorem dX2_findCandidates_54 : decode cX2_findCandidates 54 = .ok (.iinc 1 1, 3) := by decide +kernel
theorem dX2_findCandidates_57 : decode cX2_findCandidates 57 = .ok (.goto (-50), 3) := by decide +kernel
theorem dX2_findCandidates_60 : decode cX2_findCandidates 60 = .ok (.aload_n 0, 1) := by decide +kernel
theorem dX2_findCandidates_61 : decode cX2_findCandidates 61 = .ok (.aload_n 0, 1) := by decide +kernel
theorem dX2_findCandidates_62 : decode cX2_findCandidates 62 = .ok (.getfield 37, 3) := by decide +kernel
theorem dX2_findCandidates_65 : decode cX2_findCandidates 65 = .ok (.bipush 10, 2) := by decide +kernel
theorem dX2_findCandidates_67 : decode cX2_findCandidates 67 = .ok (.invokestatic 95, 3) := by decide +kernel
theorem dX2_findCandidates_70 : decode cX2_findCandidates 70 = .ok (.putfield 37, 3) := by decide +kernel
theorem dX2_findCandidates_73 : decode cX2_findCandidates 73 = .ok (.return_, 1) := by decide +kernel
theorem dX2_insertCandidate_0 : decode cX2_insertCandidate 0 = .ok (.iconst 0, 1) := by decide +kernel
theorem dX2_insertCandidate_1 : decode cX2_insertCandidate 1 = .ok (.istore_n 2, 1) := by decide +kernel
theorem dX2_insertCandidate_2 : decode cX2_insertCandidate 2 = .ok (.iload_n 2, 1) := by decide +kernel
theorem dX2_insertCandidate_3 : decode cX2_insertCandidate 3 = .ok (.aload_n 0, 1) := by decide +kernel
theorem dX2_insertCandidate_4 : decode cX2_insertCandidate 4 = .ok (.getfield 37, 3) := by decide +kernel
theorem dX2_insertCandidate_7 : decode cX2_insertCandidate 7 = .ok (.if_icmp .ge 24, 3) := by decide +kernel
theorem dX2_insertCandidate_10 : decode cX2_insertCandidate 10 = .ok (.aload_n 0, 1) := by decide +kernel
theorem dX2_insertCandidate_11 : decode cX2_insertCandidate 11 = .ok (.iload_n 2, 1) := by decide +kernel
theorem dX2_insertCandidate_12 : decode cX2_insertCandidate 12 = .ok (.invokevirtual 41, 3) := by decide +kernel
theorem dX2_insertCandidate_15 : decode cX2_insertCandidate 15 = .ok (.invokestatic 101, 3) := by decide +kernel
theorem dX2_insertCandidate_18 : decode cX2_insertCandidate 18 = .ok (.aload_n 1, 1) := by decide +kernel
theorem dX2_insertCandidate_19 : decode cX2_insertCandidate 19 = .ok (.invokestatic 101, 3) := by decide +kernel
theorem dX2_insertCandidate_22 : decode cX2_insertCandidate 22 = .ok (.if_icmp .lt 9, 3) := by decide +kernel
theorem dX2_insertCandidate_25 : decode cX2_insertCandidate 25 = .ok (.iinc 2 1, 3) := by decide +kernel
theorem dX2_insertCandidate_28 : decode cX2_insertCandidate 28 = .ok (.goto (-26), 3) := by decide +kernel
theorem dX2_insertCandidate_31 : decode cX2_insertCandidate 31 = .ok (.aload_n 0, 1) := by decide +kernel
theorem dX2_insertCandidate_32 : decode cX2_insertCandidate 32 = .ok (.getfield 37, 3) := by decide +kernel
theorem dX2_insertCandidate_35 : decode cX2_insertCandidate 35 = .ok (.aload_n 0, 1) := by decide +kernel
theorem dX2_insertCandidate_36 : decode cX2_insertCandidate 36 = .ok (.getfield 9, 3) := by decide +kernel
theorem dX2_insertCandidate_39 : decode cX2_insertCandidate 39 = .ok (.arraylength, 1) := by decide +kernel
theorem dX2_insertCandidate_40 : decode cX2_insertCandidate 40 = .ok (.iconst 1, 1) := by decide +kernel
theorem dX2_insertCandidate_41 : decode cX2_insertCandidate 41 = .ok (.isub, 1) := by decide +kernel
theorem dX2_insertCandidate_42 : decode cX2_insertCandidate 42 = .ok (.invokestatic 95, 3) := by decide +kernel
theorem dX2_insertCandidate_45 : decode cX2_insertCandidate 45 = .ok (.istore_n 3, 1) := by decide +kernel
theorem dX2_insertCandidate_46 : decode cX2_insertCandidate 46 = .ok (.iload_n 3, 1) := by decide +kernel
theorem dX2_insertCandidate_47 : decode cX2_insertCandidate 47 = .ok (.iload_n 2, 1) := by decide +kernel
theorem dX2_insertCandidate_48 : decode cX2_insertCandidate 48 = .ok (.if_icmp .le 23, 3) := by decide +kernel
theorem dX2_insertCandidate_51 : decode cX2_insertCandidate 51 = .ok (.aload_n 0, 1) := by decide +kernel
theorem dX2_insertCandidate_52 : decode cX2_insertCandidate 52 = .ok (.getfield 9, 3) := by decide +kernel
theorem dX2_insertCandidate_55 : decode cX2_insertCandidate 55 = .ok (.iload_n 3, 1) := by decide +kernel
theorem dX2_insertCandidate_56 : decode cX2_insertCandidate 56 = .ok (.aload_n 0, 1) := by decide +kernel
theorem dX2_insertCandidate_57 : decode cX2_insertCandidate 57 = .ok (.getfield 9, 3) := by decide +kernel
theorem dX2_insertCandidate_60 : decode cX2_insertCandidate 60 = .ok (.iload_n 3, 1) := by decide +kernel
theorem dX2_insertCandidate_61 : decode cX2_insertCandidate 61 = .ok (.iconst 1, 1) := by decide +kernel
theorem dX2_insertCandidate_62 : decode cX2_insertCandidate 62 = .ok (.isub, 1) := by decide +kernel
theorem dX2_insertCandidate_63 : decode cX2_insertCandidate 63 = .ok (.iaload, 1) := by decide +kernel
theorem dX2_insertCandidate_64 : decode cX2_insertCandidate 64 = .ok (.iastore, 1) := by decide +kernel
theorem dX2_insertCandidate_65 : decode cX2_insertCandidate 65 = .ok (.iinc 3 (-1), 3) := by decide +kernel
theorem dX2_insertCandidate_68 : decode cX2_insertCandidate 68 = .ok (.goto (-22), 3) := by decide +kernel
theorem dX2_insertCandidate_71 : decode cX2_insertCandidate 71 = .ok (.iload_n 2, 1) := by decide +kernel
theorem dX2_insertCandidate_72 : decode cX2_insertCandidate 72 = .ok (.aload_n 0, 1) := by decide +kernel
theorem dX2_insertCandidate_73 : decode cX2_insertCandidate 73 = .ok (.getfield 9, 3) := by decide +kernel
theorem dX2_insertCandidate_76 : decode cX2_insertCandidate 76 = .ok (.arraylength, 1) := by decide +kernel
theorem dX2_insertCandidate_77 : decode cX2_insertCandidate 77 = .ok (.if_icmp .ge 23, 3) := by decide +kernel
theorem dX2_insertCandidate_80 : decode cX2_insertCandidate 80 = .ok (.aload_n 0, 1) := by decide +kernel
theorem dX2_insertCandidate_81 : decode cX2_insertCandidate 81 = .ok (.getfield 9, 3) := by decide +kernel
theorem dX2_insertCandidate_84 : decode cX2_insertCandidate 84 = .ok (.iload_n 2, 1) := by decide +kernel
theorem dX2_insertCandidate_85 : decode cX2_insertCandidate 85 = .ok (.aload_n 1, 1) := by decide +kernel
theorem dX2_insertCandidate_86 : decode cX2_insertCandidate 86 = .ok (.getfield 105, 3) := by decide +kernel
theorem dX2_insertCandidate_89 : decode cX2_insertCandidate 89 = .ok (.iastore, 1) := by decide +kernel
theorem dX2_insertCandidate_90 : decode cX2_insertCandidate 90 = .ok (.aload_n 0, 1) := by decide +kernel
theorem dX2_insertCandidate_91 : decode cX2_insertCandidate 91 = .ok (.dup, 1) := by decide +kernel
theorem dX2_insertCandidate_92 : decode cX2_insertCandidate 92 = .ok (.getfield 37, 3) := by decide +kernel
theorem dX2_insertCandidate_95 : decode cX2_insertCandidate 95 = .ok (.iconst 1, 1) := by decide +kernel
theorem dX2_insertCandidate_96 : decode cX2_insertCandidate 96 = .ok (.iadd, 1) := by decide +kernel
theorem dX2_insertCandidate_97 : decode cX2_insertCandidate 97 = .ok (.putfield 37, 3) := by decide +kernel
theorem dX2_insertCandidate_100 : decode cX2_insertCandidate 100 = .ok (.return_, 1) := by decide +kernel
theorem dX2_rankOf_0 : decode cX2_rankOf 0 = .ok (.aload_n 0, 1) := by decide +kernel
theorem dX2_rankOf_1 : decode cX2_rankOf 1 = .ok (.getfield 110, 3) := by decide +kernel
theorem dX2_rankOf_4 : decode cX2_rankOf 4 = .ok (.aload_n 0, 1) := by decide +kernel
theorem dX2_rankOf_5 : decode cX2_rankOf 5 = .ok (.getfield 113, 3) := by decide +kernel
theorem dX2_rankOf_8 : decode cX2_rankOf 8 = .ok (.iadd, 1) := by decide +kernel
theorem dX2_rankOf_9 : decode cX2_rankOf 9 = .ok (.ireturn, 1) := by decide +kernel
theorem dX2_worthOf_0 : decode cX2_worthOf 0 = .ok (.aload_n 1, 1) := by decide +kernel
theorem dX2_worthOf_1 : decode cX2_worthOf 1 = .ok (.getfield 116, 3) := by decide +kernel
theorem dX2_worthOf_4 : decode cX2_worthOf 4 = .ok (.aload_n 0, 1) := by decide +kernel
theorem dX2_worthOf_5 : decode cX2_worthOf 5 = .ok (.getfield 22, 3) := by decide +kernel
theorem dX2_worthOf_8 : decode cX2_worthOf 8 = .ok (.aload_n 1, 1) := by decide +kernel
theorem dX2_worthOf_9 : decode cX2_worthOf 9 = .ok (.getfield 119, 3) := by decide +kernel
theorem dX2_worthOf_12 : decode cX2_worthOf 12 = .ok (.aload_n 1, 1) := by decide +kernel
theorem dX2_worthOf_13 : decode cX2_worthOf 13 = .ok (.getfield 122, 3) := by decide +kernel
theorem dX2_worthOf_16 : decode cX2_worthOf 16 = .ok (.invokevirtual 125, 3) := by decide +kernel
theorem dX2_worthOf_19 : decode cX2_worthOf 19 = .ok (.ladd, 1) := by decide +kernel
theorem dX2_worthOf_20 : decode cX2_worthOf 20 = .ok (.lreturn, 1) := by decide +kernel
theorem dX2_choose_0 : decode cX2_choose 0 = .ok (.iload_n 1, 1) := by decide +kernel
theorem dX2_choose_1 : decode cX2_choose 1 = .ok (.aload_n 0, 1) := by decide +kernel
theorem dX2_choose_2 : decode cX2_choose 2 = .ok (.getfield 15, 3) := by decide +kernel
theorem dX2_choose_5 : decode cX2_choose 5 = .ok (.arraylength, 1) := by decide +kernel
theorem dX2_choose_6 : decode cX2_choose 6 = .ok (.if_icmp .ge 7, 3) := by decide +kernel
theorem dX2_choose_9 : decode cX2_choose 9 = .ok (.iload_n 1, 1) := by decide +kernel
theorem dX2_choose_10 : decode cX2_choose 10 = .ok (.ifCond .ge 4, 3) := by decide +kernel
theorem dX2_choose_13 : decode cX2_choose 13 = .ok (.return_, 1) := by decide +kernel
theorem dX2_choose_14 : decode cX2_choose 14 = .ok (.aload_n 0, 1) := by decide +kernel
theorem dX2_choose_15 : decode cX2_choose 15 = .ok (.getfield 69, 3) := by decide +kernel
theorem dX2_choose_18 : decode cX2_choose 18 = .ok (.aload_n 0, 1) := by decide +kernel
theorem dX2_choose_19 : decode cX2_choose 19 = .ok (.getfield 15, 3) := by decide +kernel
theorem dX2_choose_22 : decode cX2_choose 22 = .ok (.iload_n 1, 1) := by decide +kernel
theorem dX2_choose_23 : decode cX2_choose 23 = .ok (.laload, 1) := by decide +kernel
theorem dX2_choose_24 : decode cX2_choose 24 = .ok (.ladd, 1) := by decide +kernel
theorem dX2_choose_25 : decode cX2_choose 25 = .ok (.aload_n 0, 1) := by decide +kernel
theorem dX2_choose_26 : decode cX2_choose 26 = .ok (.getfield 33, 3) := by decide +kernel
theorem dX2_choose_29 : decode cX2_choose 29 = .ok (.lcmp, 1) := by decide +kernel
theorem dX2_choose_30 : decode cX2_choose 30 = .ok (.ifCond .ge 4, 3) := by decide +kernel
theorem dX2_choose_33 : decode cX2_choose 33 = .ok (.return_, 1) := by decide +kernel
theorem dX2_choose_34 : decode cX2_choose 34 = .ok (.iload_n 1, 1) := by decide +kernel
theorem dX2_choose_35 : decode cX2_choose 35 = .ok (.aload_n 0, 1) := by decide +kernel
theorem dX2_choose_36 : decode cX2_choose 36 = .ok (.getfield 37, 3) := by decide +kernel
theorem dX2_choose_39 : decode cX2_choose 39 = .ok (.if_icmp .lt 8, 3) := by decide +kernel
theorem dX2_choose_42 : decode cX2_choose 42 = .ok (.aload_n 0, 1) := by decide +kernel
theorem dX2_choose_43 : decode cX2_choose 43 = .ok (.invokevirtual 49, 3) := by decide +kernel
theorem dX2_choose_46 : decode cX2_choose 46 = .ok (.return_, 1) := by decide +kernel
theorem dX2_choose_47 : decode cX2_choose 47 = .ok (.aload_n 0, 1) := by decide +kernel
theorem dX2_choose_48 : decode cX2_choose 48 = .ok (.iload_n 1, 1) := by decide +kernel
theorem dX2_choose_49 : decode cX2_choose 49 = .ok (.invokevirtual 41, 3) := by decide +kernel
theorem dX2_choose_52 : decode cX2_choose 52 = .ok (.astore_n 2, 1) := by decide +kernel
theorem dX2_choose_53 : decode cX2_choose 53 = .ok (.aload_n 0, 1) := by decide +kernel
theorem dX2_choose_54 : decode cX2_choose 54 = .ok (.aload_n 2, 1) := by decide +kernel
theorem dX2_choose_55 : decode cX2_choose 55 = .ok (.invokevirtual 45, 3) := by decide +kernel
theorem dX2_choose_58 : decode cX2_choose 58 = .ok (.aload_n 0, 1) := by decide +kernel
theorem dX2_choose_59 : decode cX2_choose 59 = .ok (.iload_n 1, 1) := by decide +kernel
theorem dX2_choose_60 : decode cX2_choose 60 = .ok (.iconst 1, 1) := by decide +kernel
theorem dX2_choose_61 : decode cX2_choose 61 = .ok (.iadd, 1) := by decide +kernel
theorem dX2_choose_62 : decode cX2_choose 62 = .ok (.invokestatic 29, 3) := by decide +kernel
theorem dX2_choose_65 : decode cX2_choose 65 = .ok (.aload_n 0, 1) := by decide +kernel
theorem dX2_choose_66 : decode cX2_choose 66 = .ok (.aload_n 2, 1) := by decide +kernel
theorem dX2_choose_67 : decode cX2_choose 67 = .ok (.invokevirtual 52, 3) := by decide +kernel
theorem dX2_choose_70 : decode cX2_choose 70 = .ok (.aload_n 0, 1) := by decide +kernel
theorem dX2_choose_71 : decode cX2_choose 71 = .ok (.iload_n 1, 1) := by decide +kernel
theorem dX2_choose_72 : decode cX2_choose 72 = .ok (.iconst 1, 1) := by decide +kernel
theorem dX2_choose_73 : decode cX2_choose 73 = .ok (.iadd, 1) := by decide +kernel
theorem dX2_choose_74 : decode cX2_choose 74 = .ok (.invokestatic 29, 3) := by decide +kernel
theorem dX2_choose_77 : decode cX2_choose 77 = .ok (.return_, 1) := by decide +kernel
theorem dX2_putIn_0 : decode cX2_putIn 0 = .ok (.aload_n 0, 1) := by decide +kernel
theorem dX2_putIn_1 : decode cX2_putIn 1 = .ok (.getfield 22, 3) := by decide +kernel
theorem dX2_putIn_4 : decode cX2_putIn 4 = .ok (.aload_n 1, 1) := by decide +kernel
theorem dX2_putIn_5 : decode cX2_putIn 5 = .ok (.aload_n 1, 1) := by decide +kernel
theorem dX2_putIn_6 : decode cX2_putIn 6 = .ok (.getfield 122, 3) := by decide +kernel
theorem dX2_putIn_9 : decode cX2_putIn 9 = .ok (.aload_n 1, 1) := by decide +kernel
theorem dX2_putIn_10 : decode cX2_putIn 10 = .ok (.getfield 116, 3) := by decide +kernel
theorem dX2_putIn_13 : decode cX2_putIn 13 = .ok (.invokevirtual 128, 3) := by decide +kernel
theorem dX2_putIn_16 : decode cX2_putIn 16 = .ok (.aload_n 0, 1) := by decide +kernel
theorem dX2_putIn_17 : decode cX2_putIn 17 = .ok (.dup, 1) := by decide +kernel
theorem dX2_putIn_18 : decode cX2_putIn 18 = .ok (.getfield 63, 3) := by decide +kernel
theorem dX2_putIn_21 : decode cX2_putIn 21 = .ok (.iconst 1, 1) := by decide +kernel
theorem dX2_putIn_22 : decode cX2_putIn 22 = .ok (.aload_n 1, 1) := by decide +kernel
theorem dX2_putIn_23 : decode cX2_putIn 23 = .ok (.getfield 105, 3) := by decide +kernel
theorem dX2_putIn_26 : decode cX2_putIn 26 = .ok (.ishl, 1) := by decide +kernel
theorem dX2_putIn_27 : decode cX2_putIn 27 = .ok (.ior, 1) := by decide +kernel
theorem dX2_putIn_28 : decode cX2_putIn 28 = .ok (.putfield 63, 3) := by decide +kernel
theorem dX2_putIn_31 : decode cX2_putIn 31 = .ok (.aload_n 0, 1) := by decide +kernel
theorem dX2_putIn_32 : decode cX2_putIn 32 = .ok (.dup, 1) := by decide +kernel
theorem dX2_putIn_33 : decode cX2_putIn 33 = .ok (.getfield 66, 3) := by decide +kernel
theorem dX2_putIn_36 : decode cX2_putIn 36 = .ok (.iconst 1, 1) := by decide +kernel
theorem dX2_putIn_37 : decode cX2_putIn 37 = .ok (.iadd, 1) := by decide +kernel
theorem dX2_putIn_38 : decode cX2_putIn 38 = .ok (.putfield 66, 3) := by decide +kernel
theorem dX2_putIn_41 : decode cX2_putIn 41 = .ok (.aload_n 0, 1) := by decide +kernel
theorem dX2_putIn_42 : decode cX2_putIn 42 = .ok (.dup, 1) := by decide +kernel
theorem dX2_putIn_43 : decode cX2_putIn 43 = .ok (.getfield 69, 3) := by decide +kernel
theorem dX2_putIn_46 : decode cX2_putIn 46 = .ok (.aload_n 0, 1) := by decide +kernel
theorem dX2_putIn_47 : decode cX2_putIn 47 = .ok (.aload_n 1, 1) := by decide +kernel
theorem dX2_putIn_48 : decode cX2_putIn 48 = .ok (.invokevirtual 78, 3) := by decide +kernel
theorem dX2_putIn_51 : decode cX2_putIn 51 = .ok (.ladd, 1) := by decide +kernel
theorem dX2_putIn_52 : decode cX2_putIn 52 = .ok (.putfield 69, 3) := by decide +kernel
theorem dX2_putIn_55 : decode cX2_putIn 55 = .ok (.return_, 1) := by decide +kernel
theorem dX2_takeOut_0 : decode cX2_takeOut 0 = .ok (.aload_n 0, 1) := by decide +kernel
theorem dX2_takeOut_1 : decode cX2_takeOut 1 = .ok (.getfield 22, 3) := by decide +kernel
theorem dX2_takeOut_4 : decode cX2_takeOut 4 = .ok (.aload_n 1, 1) := by decide +kernel
theorem dX2_takeOut_5 : decode cX2_takeOut 5 = .ok (.aload_n 1, 1) := by decide +kernel
theorem dX2_takeOut_6 : decode cX2_takeOut 6 = .ok (.getfield 122, 3) := by decide +kernel
theorem dX2_takeOut_9 : decode cX2_takeOut 9 = .ok (.lneg, 1) := by decide +kernel
theorem dX2_takeOut_10 : decode cX2_takeOut 10 = .ok (.aload_n 1, 1) := by decide +kernel
theorem dX2_takeOut_11 : decode cX2_takeOut 11 = .ok (.getfield 116, 3) := by decide +kernel
theorem dX2_takeOut_14 : decode cX2_takeOut 14 = .ok (.lneg, 1) := by decide +kernel
theorem dX2_takeOut_15 : decode cX2_takeOut 15 = .ok (.invokevirtual 128, 3) := by decide +kernel
theorem dX2_takeOut_18 : decode cX2_takeOut 18 = .ok (.aload_n 0, 1) := by decide +kernel
theorem dX2_takeOut_19 : decode cX2_takeOut 19 = .ok (.dup, 1) := by decide +kernel
theorem dX2_takeOut_20 : decode cX2_takeOut 20 = .ok (.getfield 63, 3) := by decide +kernel
theorem dX2_takeOut_23 : decode cX2_takeOut 23 = .ok (.iconst 1, 1) := by decide +kernel
theorem dX2_takeOut_24 : decode cX2_takeOut 24 = .ok (.aload_n 1, 1) := by decide +kernel
theorem dX2_takeOut_25 : decode cX2_takeOut 25 = .ok (.getfield 105, 3) := by decide +kernel
theorem dX2_takeOut_28 : decode cX2_takeOut 28 = .ok (.ishl, 1) := by decide +kernel
theorem dX2_takeOut_29 : decode cX2_takeOut 29 = .ok (.iconst (-1), 1) := by decide +kernel
theorem dX2_takeOut_30 : decode cX2_takeOut 30 = .ok (.ixor, 1) := by decide +kernel
theorem dX2_takeOut_31 : decode cX2_takeOut 31 = .ok (.iand, 1) := by decide +kernel
theorem dX2_takeOut_32 : decode cX2_takeOut 32 = .ok (.putfield 63, 3) := by decide +kernel
theorem dX2_takeOut_35 : decode cX2_takeOut 35 = .ok (.aload_n 0, 1) := by decide +kernel
theorem dX2_takeOut_36 : decode cX2_takeOut 36 = .ok (.dup, 1) := by decide +kernel
theorem dX2_takeOut_37 : decode cX2_takeOut 37 = .ok (.getfield 66, 3) := by decide +kernel
theorem dX2_takeOut_40 : decode cX2_takeOut 40 = .ok (.iconst 1, 1) := by decide +kernel
theorem dX2_takeOut_41 : decode cX2_takeOut 41 = .ok (.isub, 1) := by decide +kernel
theorem dX2_takeOut_42 : decode cX2_takeOut 42 = .ok (.putfield 66, 3) := by decide +kernel
theorem dX2_takeOut_45 : decode cX2_takeOut 45 = .ok (.aload_n 0, 1) := by decide +kernel
theorem dX2_takeOut_46 : decode cX2_takeOut 46 = .ok (.dup, 1) := by decide +kernel
theorem dX2_takeOut_47 : decode cX2_takeOut 47 = .ok (.getfield 69, 3) := by decide +kernel
theorem dX2_takeOut_50 : decode cX2_takeOut 50 = .ok (.aload_n 0, 1) := by decide +kernel
theorem dX2_takeOut_51 : decode cX2_takeOut 51 = .ok (.aload_n 1, 1) := by decide +kernel
theorem dX2_takeOut_52 : decode cX2_takeOut 52 = .ok (.invokevirtual 78, 3) := by decide +kernel
theorem dX2_takeOut_55 : decode cX2_takeOut 55 = .ok (.lsub, 1) := by decide +kernel
theorem dX2_takeOut_56 : decode cX2_takeOut 56 = .ok (.putfield 69, 3) := by decide +kernel
theorem dX2_takeOut_59 : decode cX2_takeOut 59 = .ok (.return_, 1) := by decide +kernel
theorem dX2_weigh_0 : decode cX2_weigh 0 = .ok (.aload_n 0, 1) := by decide +kernel
theorem dX2_weigh_1 : decode cX2_weigh 1 = .ok (.getfield 69, 3) := by decide +kernel
theorem dX2_weigh_4 : decode cX2_weigh 4 = .ok (.aload_n 0, 1) := by decide +kernel
theorem dX2_weigh_5 : decode cX2_weigh 5 = .ok (.getfield 33, 3) := by decide +kernel
theorem dX2_weigh_8 : decode cX2_weigh 8 = .ok (.lcmp, 1) := by decide +kernel
theorem dX2_weigh_9 : decode cX2_weigh 9 = .ok (.ifCond .gt 26, 3) := by decide +kernel
theorem dX2_weigh_12 : decode cX2_weigh 12 = .ok (.aload_n 0, 1) := by decide +kernel
theorem dX2_weigh_13 : decode cX2_weigh 13 = .ok (.getfield 69, 3) := by decide +kernel
theorem dX2_weigh_16 : decode cX2_weigh 16 = .ok (.aload_n 0, 1) := by decide +kernel
theorem dX2_weigh_17 : decode cX2_weigh 17 = .ok (.getfield 33, 3) := by decide +kernel
theorem dX2_weigh_20 : decode cX2_weigh 20 = .ok (.lcmp, 1) := by decide +kernel
theorem dX2_weigh_21 : decode cX2_weigh 21 = .ok (.ifCond .ne 18, 3) := by decide +kernel
theorem dX2_weigh_24 : decode cX2_weigh 24 = .ok (.aload_n 0, 1) := by decide +kernel
theorem dX2_weigh_25 : decode cX2_weigh 25 = .ok (.getfield 66, 3) := by decide +kernel
theorem dX2_weigh_28 : decode cX2_weigh 28 = .ok (.aload_n 0, 1) := by decide +kernel
theorem dX2_weigh_29 : decode cX2_weigh 29 = .ok (.getfield 75, 3) := by decide +kernel
theorem dX2_weigh_32 : decode cX2_weigh 32 = .ok (.if_icmp .le 7, 3) := by decide +kernel
theorem dX2_weigh_35 : decode cX2_weigh 35 = .ok (.iconst 1, 1) := by decide +kernel
theorem dX2_weigh_36 : decode cX2_weigh 36 = .ok (.goto 4, 3) := by decide +kernel
theorem dX2_weigh_39 : decode cX2_weigh 39 = .ok (.iconst 0, 1) := by decide +kernel
theorem dX2_weigh_40 : decode cX2_weigh 40 = .ok (.istore_n 1, 1) := by decide +kernel
theorem dX2_weigh_41 : decode cX2_weigh 41 = .ok (.iload_n 1, 1) := by decide +kernel
theorem dX2_weigh_42 : decode cX2_weigh 42 = .ok (.ifCond .eq 41, 3) := by decide +kernel
theorem dX2_weigh_45 : decode cX2_weigh 45 = .ok (.aload_n 0, 1) := by decide +kernel
theorem dX2_weigh_46 : decode cX2_weigh 46 = .ok (.invokevirtual 132, 3) := by decide +kernel
theorem dX2_weigh_49 : decode cX2_weigh 49 = .ok (.ifCond .eq 34, 3) := by decide +kernel
theorem dX2_weigh_52 : decode cX2_weigh 52 = .ok (.aload_n 0, 1) := by decide +kernel
theorem dX2_weigh_53 : decode cX2_weigh 53 = .ok (.invokevirtual 136, 3) := by decide +kernel
theorem dX2_weigh_56 : decode cX2_weigh 56 = .ok (.ifCond .eq 27, 3) := by decide +kernel
theorem dX2_weigh_59 : decode cX2_weigh 59 = .ok (.aload_n 0, 1) := by decide +kernel
theorem dX2_weigh_60 : decode cX2_weigh 60 = .ok (.aload_n 0, 1) := by decide +kernel
theorem dX2_weigh_61 : decode cX2_weigh 61 = .ok (.getfield 63, 3) := by decide +kernel
theorem dX2_weigh_64 : decode cX2_weigh 64 = .ok (.putfield 72, 3) := by decide +kernel
theorem dX2_weigh_67 : decode cX2_weigh 67 = .ok (.aload_n 0, 1) := by decide +kernel
theorem dX2_weigh_68 : decode cX2_weigh 68 = .ok (.aload_n 0, 1) := by decide +kernel
theorem dX2_weigh_69 : decode cX2_weigh 69 = .ok (.getfield 66, 3) := by decide +kernel
theorem dX2_weigh_72 : decode cX2_weigh 72 = .ok (.putfield 75, 3) := by decide +kernel
theorem dX2_weigh_75 : decode cX2_weigh 75 = .ok (.aload_n 0, 1) := by decide +kernel
theorem dX2_weigh_76 : decode cX2_weigh 76 = .ok (.aload_n 0, 1) := by decide +kernel
theorem dX2_weigh_77 : decode cX2_weigh 77 = .ok (.getfield 69, 3) := by decide +kernel
theorem dX2_weigh_80 : decode cX2_weigh 80 = .ok (.putfield 33, 3) := by decide +kernel
theorem dX2_weigh_83 : decode cX2_weigh 83 = .ok (.return_, 1) := by decide +kernel
theorem dX2_areLinksKept_0 : decode cX2_areLinksKept 0 = .ok (.iconst 0, 1) := by decide +kernel
theorem dX2_areLinksKept_1 : decode cX2_areLinksKept 1 = .ok (.istore_n 1, 1) := by decide +kernel
theorem dX2_areLinksKept_2 : decode cX2_areLinksKept 2 = .ok (.iload_n 1, 1) := by decide +kernel
theorem dX2_areLinksKept_3 : decode cX2_areLinksKept 3 = .ok (.aload_n 0, 1) := by decide +kernel
theorem dX2_areLinksKept_4 : decode cX2_areLinksKept 4 = .ok (.getfield 22, 3) := by decide +kernel
theorem dX2_areLinksKept_7 : decode cX2_areLinksKept 7 = .ok (.getfield 139, 3) := by decide +kernel
theorem dX2_areLinksKept_10 : decode cX2_areLinksKept 10 = .ok (.if_icmp .ge 99, 3) := by decide +kernel
theorem dX2_areLinksKept_13 : decode cX2_areLinksKept 13 = .ok (.aload_n 0, 1) := by decide +kernel
theorem dX2_areLinksKept_14 : decode cX2_areLinksKept 14 = .ok (.getfield 22, 3) := by decide +kernel
theorem dX2_areLinksKept_17 : decode cX2_areLinksKept 17 = .ok (.iload_n 1, 1) := by decide +kernel
theorem dX2_areLinksKept_18 : decode cX2_areLinksKept 18 = .ok (.invokevirtual 142, 3) := by decide +kernel
theorem dX2_areLinksKept_21 : decode cX2_areLinksKept 21 = .ok (.astore_n 2, 1) := by decide +kernel
theorem dX2_areLinksKept_22 : decode cX2_areLinksKept 22 = .ok (.aload_n 2, 1) := by decide +kernel
theorem dX2_areLinksKept_23 : decode cX2_areLinksKept 23 = .ok (.getfield 146, 3) := by decide +kernel
theorem dX2_areLinksKept_26 : decode cX2_areLinksKept 26 = .ok (.aload_n 0, 1) := by decide +kernel
theorem dX2_areLinksKept_27 : decode cX2_areLinksKept 27 = .ok (.getfield 63, 3) := by decide +kernel
theorem dX2_areLinksKept_30 : decode cX2_areLinksKept 30 = .ok (.invokestatic 151, 3) := by decide +kernel
theorem dX2_areLinksKept_33 : decode cX2_areLinksKept 33 = .ok (.ifCond .eq 18, 3) := by decide +kernel
theorem dX2_areLinksKept_36 : decode cX2_areLinksKept 36 = .ok (.aload_n 0, 1) := by decide +kernel
theorem dX2_areLinksKept_37 : decode cX2_areLinksKept 37 = .ok (.aload_n 2, 1) := by decide +kernel
theorem dX2_areLinksKept_38 : decode cX2_areLinksKept 38 = .ok (.getfield 155, 3) := by decide +kernel
theorem dX2_areLinksKept_41 : decode cX2_areLinksKept 41 = .ok (.invokevirtual 158, 3) := by decide +kernel
theorem dX2_areLinksKept_44 : decode cX2_areLinksKept 44 = .ok (.ifCond .ne 7, 3) := by decide +kernel
theorem dX2_areLinksKept_47 : decode cX2_areLinksKept 47 = .ok (.iconst 1, 1) := by decide +kernel
theorem dX2_areLinksKept_48 : decode cX2_areLinksKept 48 = .ok (.goto 4, 3) := by decide +kernel
theorem dX2_areLinksKept_51 : decode cX2_areLinksKept 51 = .ok (.iconst 0, 1) := by decide +kernel
theorem dX2_areLinksKept_52 : decode cX2_areLinksKept 52 = .ok (.istore_n 3, 1) := by decide +kernel
theorem dX2_areLinksKept_53 : decode cX2_areLinksKept 53 = .ok (.aload_n 2, 1) := by decide +kernel
theorem dX2_areLinksKept_54 : decode cX2_areLinksKept 54 = .ok (.getfield 155, 3) := by decide +kernel
theorem dX2_areLinksKept_57 : decode cX2_areLinksKept 57 = .ok (.aload_n 0, 1) := by decide +kernel
theorem dX2_areLinksKept_58 : decode cX2_areLinksKept 58 = .ok (.getfield 63, 3) := by decide +kernel
theorem dX2_areLinksKept_61 : decode cX2_areLinksKept 61 = .ok (.invokestatic 151, 3) := by decide +kernel
theorem dX2_areLinksKept_64 : decode cX2_areLinksKept 64 = .ok (.ifCond .eq 18, 3) := by decide +kernel
theorem dX2_areLinksKept_67 : decode cX2_areLinksKept 67 = .ok (.aload_n 0, 1) := by decide +kernel
theorem dX2_areLinksKept_68 : decode cX2_areLinksKept 68 = .ok (.aload_n 2, 1) := by decide +kernel
theorem dX2_areLinksKept_69 : decode cX2_areLinksKept 69 = .ok (.getfield 146, 3) := by decide +kernel
theorem dX2_areLinksKept_72 : decode cX2_areLinksKept 72 = .ok (.invokevirtual 158, 3) := by decide +kernel
theorem dX2_areLinksKept_75 : decode cX2_areLinksKept 75 = .ok (.ifCond .ne 7, 3) := by decide +kernel
theorem dX2_areLinksKept_78 : decode cX2_areLinksKept 78 = .ok (.iconst 1, 1) := by decide +kernel
theorem dX2_areLinksKept_79 : decode cX2_areLinksKept 79 = .ok (.goto 4, 3) := by decide +kernel
theorem dX2_areLinksKept_82 : decode cX2_areLinksKept 82 = .ok (.iconst 0, 1) := by decide +kernel
theorem dX2_areLinksKept_83 : decode cX2_areLinksKept 83 = .ok (.istore 4, 2) := by decide +kernel
theorem dX2_areLinksKept_85 : decode cX2_areLinksKept 85 = .ok (.iload_n 3, 1) := by decide +kernel
theorem dX2_areLinksKept_86 : decode cX2_areLinksKept 86 = .ok (.ifCond .ne 15, 3) := by decide +kernel
theorem dX2_areLinksKept_89 : decode cX2_areLinksKept 89 = .ok (.aload_n 2, 1) := by decide +kernel
theorem dX2_areLinksKept_90 : decode cX2_areLinksKept 90 = .ok (.getfield 162, 3) := by decide +kernel
theorem dX2_areLinksKept_93 : decode cX2_areLinksKept 93 = .ok (.ifCond .eq 10, 3) := by decide +kernel
theorem dX2_areLinksKept_96 : decode cX2_areLinksKept 96 = .ok (.iload 4, 2) := by decide +kernel
theorem dX2_areLinksKept_98 : decode cX2_areLinksKept 98 = .ok (.ifCond .eq 5, 3) := by decide +kernel
theorem dX2_areLinksKept_101 : decode cX2_areLinksKept 101 = .ok (.iconst 0, 1) := by decide +kernel
theorem dX2_areLinksKept_102 : decode cX2_areLinksKept 102 = .ok (.ireturn, 1) := by decide +kernel
theorem dX2_areLinksKept_103 : decode cX2_areLinksKept 103 = .ok (.iinc 1 1, 3) := by decide +kernel
theorem dX2_areLinksKept_106 : decode cX2_areLinksKept 106 = .ok (.goto (-104), 3) := by decide +kernel
theorem dX2_areLinksKept_109 : decode cX2_areLinksKept 109 = .ok (.iconst 1, 1) := by decide +kernel
theorem dX2_areLinksKept_110 : decode cX2_areLinksKept 110 = .ok (.ireturn, 1) := by decide +kernel
theorem dX2_isInOrSettled_0 : decode cX2_isInOrSettled 0 = .ok (.iload_n 1, 1) := by decide +kernel
theorem dX2_isInOrSettled_1 : decode cX2_isInOrSettled 1 = .ok (.aload_n 0, 1) := by decide +kernel
theorem dX2_isInOrSettled_2 : decode cX2_isInOrSettled 2 = .ok (.getfield 63, 3) := by decide +kernel
theorem dX2_isInOrSettled_5 : decode cX2_isInOrSettled 5 = .ok (.invokestatic 151, 3) := by decide +kernel
theorem dX2_isInOrSettled_8 : decode cX2_isInOrSettled 8 = .ok (.ifCond .ne 18, 3) := by decide +kernel
theorem dX2_isInOrSettled_11 : decode cX2_isInOrSettled 11 = .ok (.aload_n 0, 1) := by decide +kernel
theorem dX2_isInOrSettled_12 : decode cX2_isInOrSettled 12 = .ok (.getfield 22, 3) := by decide +kernel
theorem dX2_isInOrSettled_15 : decode cX2_isInOrSettled 15 = .ok (.iload_n 1, 1) := by decide +kernel
theorem dX2_isInOrSettled_16 : decode cX2_isInOrSettled 16 = .ok (.invokevirtual 55, 3) := by decide +kernel
theorem dX2_isInOrSettled_19 : decode cX2_isInOrSettled 19 = .ok (.getfield 166, 3) := by decide +kernel
theorem dX2_isInOrSettled_22 : decode cX2_isInOrSettled 22 = .ok (.iconst 2, 1) := by decide +kernel
theorem dX2_isInOrSettled_23 : decode cX2_isInOrSettled 23 = .ok (.if_icmp .ne 7, 3) := by decide +kernel
theorem dX2_isInOrSettled_26 : decode cX2_isInOrSettled 26 = .ok (.iconst 1, 1) := by decide +kernel
theorem dX2_isInOrSettled_27 : decode cX2_isInOrSettled 27 = .ok (.goto 4, 3) := by decide +kernel
theorem dX2_isInOrSettled_30 : decode cX2_isInOrSettled 30 = .ok (.iconst 0, 1) := by decide +kernel
theorem dX2_isInOrSettled_31 : decode cX2_isInOrSettled 31 = .ok (.ireturn, 1) := by decide +kernel
theorem dX2_isIn_0 : decode cX2_isIn 0 = .ok (.iload_n 1, 1) := by decide +kernel
theorem dX2_isIn_1 : decode cX2_isIn 1 = .ok (.iload_n 0, 1) := by decide +kernel
theorem dX2_isIn_2 : decode cX2_isIn 2 = .ok (.ishr, 1) := by decide +kernel
theorem dX2_isIn_3 : decode cX2_isIn 3 = .ok (.iconst 1, 1) := by decide +kernel
theorem dX2_isIn_4 : decode cX2_isIn 4 = .ok (.iand, 1) := by decide +kernel
theorem dX2_isIn_5 : decode cX2_isIn 5 = .ok (.ifCond .eq 7, 3) := by decide +kernel
theorem dX2_isIn_8 : decode cX2_isIn 8 = .ok (.iconst 1, 1) := by decide +kernel
theorem dX2_isIn_9 : decode cX2_isIn 9 = .ok (.goto 4, 3) := by decide +kernel
theorem dX2_isIn_12 : decode cX2_isIn 12 = .ok (.iconst 0, 1) := by decide +kernel
theorem dX2_isIn_13 : decode cX2_isIn 13 = .ok (.ireturn, 1) := by decide +kernel
theorem dX2_areAllFirm_0 : decode cX2_areAllFirm 0 = .ok (.iconst 0, 1) := by decide +kernel
theorem dX2_areAllFirm_1 : decode cX2_areAllFirm 1 = .ok (.istore_n 1, 1) := by decide +kernel
theorem dX2_areAllFirm_2 : decode cX2_areAllFirm 2 = .ok (.iload_n 1, 1) := by decide +kernel
theorem dX2_areAllFirm_3 : decode cX2_areAllFirm 3 = .ok (.aload_n 0, 1) := by decide +kernel
theorem dX2_areAllFirm_4 : decode cX2_areAllFirm 4 = .ok (.getfield 37, 3) := by decide +kernel
theorem dX2_areAllFirm_7 : decode cX2_areAllFirm 7 = .ok (.if_icmp .ge 59, 3) := by decide +kernel
theorem dX2_areAllFirm_10 : decode cX2_areAllFirm 10 = .ok (.aload_n 0, 1) := by decide +kernel
theorem dX2_areAllFirm_11 : decode cX2_areAllFirm 11 = .ok (.iload_n 1, 1) := by decide +kernel
theorem dX2_areAllFirm_12 : decode cX2_areAllFirm 12 = .ok (.invokevirtual 41, 3) := by decide +kernel
theorem dX2_areAllFirm_15 : decode cX2_areAllFirm 15 = .ok (.astore_n 2, 1) := by decide +kernel
theorem dX2_areAllFirm_16 : decode cX2_areAllFirm 16 = .ok (.aload_n 2, 1) := by decide +kernel
theorem dX2_areAllFirm_17 : decode cX2_areAllFirm 17 = .ok (.getfield 105, 3) := by decide +kernel
theorem dX2_areAllFirm_20 : decode cX2_areAllFirm 20 = .ok (.aload_n 0, 1) := by decide +kernel
theorem dX2_areAllFirm_21 : decode cX2_areAllFirm 21 = .ok (.getfield 63, 3) := by decide +kernel
theorem dX2_areAllFirm_24 : decode cX2_areAllFirm 24 = .ok (.invokestatic 151, 3) := by decide +kernel
theorem dX2_areAllFirm_27 : decode cX2_areAllFirm 27 = .ok (.ifCond .eq 33, 3) := by decide +kernel
theorem dX2_areAllFirm_30 : decode cX2_areAllFirm 30 = .ok (.aload_n 0, 1) := by decide +kernel
theorem dX2_areAllFirm_31 : decode cX2_areAllFirm 31 = .ok (.getfield 22, 3) := by decide +kernel
theorem dX2_areAllFirm_34 : decode cX2_areAllFirm 34 = .ok (.aload_n 2, 1) := by decide +kernel
theorem dX2_areAllFirm_35 : decode cX2_areAllFirm 35 = .ok (.getfield 169, 3) := by decide +kernel
theorem dX2_areAllFirm_38 : decode cX2_areAllFirm 38 = .ok (.invokevirtual 172, 3) := by decide +kernel
theorem dX2_areAllFirm_41 : decode cX2_areAllFirm 41 = .ok (.ifCond .eq 17, 3) := by decide +kernel
theorem dX2_areAllFirm_44 : decode cX2_areAllFirm 44 = .ok (.aload_n 0, 1) := by decide +kernel
theorem dX2_areAllFirm_45 : decode cX2_areAllFirm 45 = .ok (.getfield 22, 3) := by decide +kernel
theorem dX2_areAllFirm_48 : decode cX2_areAllFirm 48 = .ok (.aload_n 2, 1) := by decide +kernel
theorem dX2_areAllFirm_49 : decode cX2_areAllFirm 49 = .ok (.getfield 175, 3) := by decide +kernel
theorem dX2_areAllFirm_52 : decode cX2_areAllFirm 52 = .ok (.invokevirtual 172, 3) := by decide +kernel
theorem dX2_areAllFirm_55 : decode cX2_areAllFirm 55 = .ok (.ifCond .ne 5, 3) := by decide +kernel
theorem dX2_areAllFirm_58 : decode cX2_areAllFirm 58 = .ok (.iconst 0, 1) := by decide +kernel
theorem dX2_areAllFirm_59 : decode cX2_areAllFirm 59 = .ok (.ireturn, 1) := by decide +kernel
theorem dX2_areAllFirm_60 : decode cX2_areAllFirm 60 = .ok (.iinc 1 1, 3) := by decide +kernel
theorem dX2_areAllFirm_63 : decode cX2_areAllFirm 63 = .ok (.goto (-61), 3) := by decide +kernel
theorem dX2_areAllFirm_66 : decode cX2_areAllFirm 66 = .ok (.iconst 1, 1) := by decide +kernel
theorem dX2_areAllFirm_67 : decode cX2_areAllFirm 67 = .ok (.ireturn, 1) := by decide +kernel
theorem dX2_giveLoansBack_0 : decode cX2_giveLoansBack 0 = .ok (.iconst 0, 1) := by decide +kernel
theorem dX2_giveLoansBack_1 : decode cX2_giveLoansBack 1 = .ok (.istore_n 1, 1) := by decide +kernel
theorem dX2_giveLoansBack_2 : decode cX2_giveLoansBack 2 = .ok (.iload_n 1, 1) := by decide +kernel
theorem dX2_giveLoansBack_3 : decode cX2_giveLoansBack 3 = .ok (.aload_n 0, 1) := by decide +kernel
theorem dX2_giveLoansBack_4 : decode cX2_giveLoansBack 4 = .ok (.getfield 22, 3) := by decide +kernel
theorem dX2_giveLoansBack_7 : decode cX2_giveLoansBack 7 = .ok (.getfield 178, 3) := by decide +kernel
theorem dX2_giveLoansBack_10 : decode cX2_giveLoansBack 10 = .ok (.if_icmp .ge 94, 3) := by decide +kernel
theorem dX2_giveLoansBack_13 : decode cX2_giveLoansBack 13 = .ok (.aload_n 0, 1) := by decide +kernel
theorem dX2_giveLoansBack_14 : decode cX2_giveLoansBack 14 = .ok (.getfield 22, 3) := by decide +kernel
theorem dX2_giveLoansBack_17 : decode cX2_giveLoansBack 17 = .ok (.iload_n 1, 1) := by decide +kernel
theorem dX2_giveLoansBack_18 : decode cX2_giveLoansBack 18 = .ok (.invokevirtual 181, 3) := by decide +kernel
theorem dX2_giveLoansBack_21 : decode cX2_giveLoansBack 21 = .ok (.astore_n 2, 1) := by decide +kernel
theorem dX2_giveLoansBack_22 : decode cX2_giveLoansBack 22 = .ok (.aload_n 0, 1) := by decide +kernel
theorem dX2_giveLoansBack_23 : decode cX2_giveLoansBack 23 = .ok (.getfield 22, 3) := by decide +kernel
theorem dX2_giveLoansBack_26 : decode cX2_giveLoansBack 26 = .ok (.aload_n 2, 1) := by decide +kernel
theorem dX2_giveLoansBack_27 : decode cX2_giveLoansBack 27 = .ok (.getfield 185, 3) := by decide +kernel
theorem dX2_giveLoansBack_30 : decode cX2_giveLoansBack 30 = .ok (.invokevirtual 190, 3) := by decide +kernel
theorem dX2_giveLoansBack_33 : decode cX2_giveLoansBack 33 = .ok (.astore_n 3, 1) := by decide +kernel
theorem dX2_giveLoansBack_34 : decode cX2_giveLoansBack 34 = .ok (.aload_n 2, 1) := by decide +kernel
theorem dX2_giveLoansBack_35 : decode cX2_giveLoansBack 35 = .ok (.getfield 194, 3) := by decide +kernel
theorem dX2_giveLoansBack_38 : decode cX2_giveLoansBack 38 = .ok (.ifCond .ne 60, 3) := by decide +kernel
theorem dX2_giveLoansBack_41 : decode cX2_giveLoansBack 41 = .ok (.aload_n 3, 1) := by decide +kernel
theorem dX2_giveLoansBack_42 : decode cX2_giveLoansBack 42 = .ok (.aload_n 2, 1) := by decide +kernel
theorem dX2_giveLoansBack_43 : decode cX2_giveLoansBack 43 = .ok (.getfield 197, 3) := by decide +kernel
theorem dX2_giveLoansBack_46 : decode cX2_giveLoansBack 46 = .ok (.invokevirtual 198, 3) := by decide +kernel
theorem dX2_giveLoansBack_49 : decode cX2_giveLoansBack 49 = .ok (.aload_n 2, 1) := by decide +kernel
theorem dX2_giveLoansBack_50 : decode cX2_giveLoansBack 50 = .ok (.getfield 204, 3) := by decide +kernel
theorem dX2_giveLoansBack_53 : decode cX2_giveLoansBack 53 = .ok (.lcmp, 1) := by decide +kernel
theorem dX2_giveLoansBack_54 : decode cX2_giveLoansBack 54 = .ok (.ifCond .lt 44, 3) := by decide +kernel
theorem dX2_giveLoansBack_57 : decode cX2_giveLoansBack 57 = .ok (.aload_n 0, 1) := by decide +kernel
theorem dX2_giveLoansBack_58 : decode cX2_giveLoansBack 58 = .ok (.getfield 22, 3) := by decide +kernel
theorem dX2_giveLoansBack_61 : decode cX2_giveLoansBack 61 = .ok (.aload_n 2, 1) := by decide +kernel
theorem dX2_giveLoansBack_62 : decode cX2_giveLoansBack 62 = .ok (.getfield 185, 3) := by decide +kernel
theorem dX2_giveLoansBack_65 : decode cX2_giveLoansBack 65 = .ok (.aload_n 2, 1) := by decide +kernel
theorem dX2_giveLoansBack_66 : decode cX2_giveLoansBack 66 = .ok (.getfield 205, 3) := by decide +kernel
theorem dX2_giveLoansBack_69 : decode cX2_giveLoansBack 69 = .ok (.aload_n 2, 1) := by decide +kernel
theorem dX2_giveLoansBack_70 : decode cX2_giveLoansBack 70 = .ok (.getfield 197, 3) := by decide +kernel
theorem dX2_giveLoansBack_73 : decode cX2_giveLoansBack 73 = .ok (.aload_n 2, 1) := by decide +kernel
theorem dX2_giveLoansBack_74 : decode cX2_giveLoansBack 74 = .ok (.getfield 204, 3) := by decide +kernel
theorem dX2_giveLoansBack_77 : decode cX2_giveLoansBack 77 = .ok (.invokevirtual 208, 3) := by decide +kernel
theorem dX2_giveLoansBack_80 : decode cX2_giveLoansBack 80 = .ok (.aload_n 3, 1) := by decide +kernel
theorem dX2_giveLoansBack_81 : decode cX2_giveLoansBack 81 = .ok (.dup, 1) := by decide +kernel
theorem dX2_giveLoansBack_82 : decode cX2_giveLoansBack 82 = .ok (.getfield 212, 3) := by decide +kernel
theorem dX2_giveLoansBack_85 : decode cX2_giveLoansBack 85 = .ok (.aload_n 2, 1) := by decide +kernel
theorem dX2_giveLoansBack_86 : decode cX2_giveLoansBack 86 = .ok (.getfield 215, 3) := by decide +kernel
theorem dX2_giveLoansBack_89 : decode cX2_giveLoansBack 89 = .ok (.lsub, 1) := by decide +kernel
theorem dX2_giveLoansBack_90 : decode cX2_giveLoansBack 90 = .ok (.putfield 212, 3) := by decide +kernel
theorem dX2_giveLoansBack_93 : decode cX2_giveLoansBack 93 = .ok (.aload_n 2, 1) := by decide +kernel
theorem dX2_giveLoansBack_94 : decode cX2_giveLoansBack 94 = .ok (.iconst 1, 1) := by decide +kernel
theorem dX2_giveLoansBack_95 : decode cX2_giveLoansBack 95 = .ok (.putfield 194, 3) := by decide +kernel
theorem dX2_giveLoansBack_98 : decode cX2_giveLoansBack 98 = .ok (.iinc 1 1, 3) := by decide +kernel
theorem dX2_giveLoansBack_101 : decode cX2_giveLoansBack 101 = .ok (.goto (-99), 3) := by decide +kernel
theorem dX2_giveLoansBack_104 : decode cX2_giveLoansBack 104 = .ok (.return_, 1) := by decide +kernel
theorem dX2_settleBestSet_0 : decode cX2_settleBestSet 0 = .ok (.iconst 0, 1) := by decide +kernel
theorem dX2_settleBestSet_1 : decode cX2_settleBestSet 1 = .ok (.istore_n 1, 1) := by decide +kernel
theorem dX2_settleBestSet_2 : decode cX2_settleBestSet 2 = .ok (.iload_n 1, 1) := by decide +kernel
theorem dX2_settleBestSet_3 : decode cX2_settleBestSet 3 = .ok (.aload_n 0, 1) := by decide +kernel
theorem dX2_settleBestSet_4 : decode cX2_settleBestSet 4 = .ok (.getfield 37, 3) := by decide +kernel
theorem dX2_settleBestSet_7 : decode cX2_settleBestSet 7 = .ok (.if_icmp .ge 37, 3) := by decide +kernel
theorem dX2_settleBestSet_10 : decode cX2_settleBestSet 10 = .ok (.aload_n 0, 1) := by decide +kernel
theorem dX2_settleBestSet_11 : decode cX2_settleBestSet 11 = .ok (.iload_n 1, 1) := by decide +kernel
theorem dX2_settleBestSet_12 : decode cX2_settleBestSet 12 = .ok (.invokevirtual 41, 3) := by decide +kernel
theorem dX2_settleBestSet_15 : decode cX2_settleBestSet 15 = .ok (.astore_n 2, 1) := by decide +kernel
theorem dX2_settleBestSet_16 : decode cX2_settleBestSet 16 = .ok (.aload_n 2, 1) := by decide +kernel
theorem dX2_settleBestSet_17 : decode cX2_settleBestSet 17 = .ok (.getfield 105, 3) := by decide +kernel
theorem dX2_settleBestSet_20 : decode cX2_settleBestSet 20 = .ok (.aload_n 0, 1) := by decide +kernel
theorem dX2_settleBestSet_21 : decode cX2_settleBestSet 21 = .ok (.getfield 72, 3) := by decide +kernel
theorem dX2_settleBestSet_24 : decode cX2_settleBestSet 24 = .ok (.invokestatic 151, 3) := by decide +kernel
theorem dX2_settleBestSet_27 : decode cX2_settleBestSet 27 = .ok (.ifCond .eq 11, 3) := by decide +kernel
theorem dX2_settleBestSet_30 : decode cX2_settleBestSet 30 = .ok (.aload_n 0, 1) := by decide +kernel
theorem dX2_settleBestSet_31 : decode cX2_settleBestSet 31 = .ok (.getfield 22, 3) := by decide +kernel
theorem dX2_settleBestSet_34 : decode cX2_settleBestSet 34 = .ok (.aload_n 2, 1) := by decide +kernel
theorem dX2_settleBestSet_35 : decode cX2_settleBestSet 35 = .ok (.invokevirtual 216, 3) := by decide +kernel
theorem dX2_settleBestSet_38 : decode cX2_settleBestSet 38 = .ok (.iinc 1 1, 3) := by decide +kernel
theorem dX2_settleBestSet_41 : decode cX2_settleBestSet 41 = .ok (.goto (-39), 3) := by decide +kernel
theorem dX2_settleBestSet_44 : decode cX2_settleBestSet 44 = .ok (.aload_n 0, 1) := by decide +kernel
theorem dX2_settleBestSet_45 : decode cX2_settleBestSet 45 = .ok (.getfield 75, 3) := by decide +kernel
theorem dX2_settleBestSet_48 : decode cX2_settleBestSet 48 = .ok (.ireturn, 1) := by decide +kernel
theorem dX2_settleByLoans_0 : decode cX2_settleByLoans 0 = .ok (.iconst 0, 1) := by decide +kernel
theorem dX2_settleByLoans_1 : decode cX2_settleByLoans 1 = .ok (.istore_n 1, 1) := by decide +kernel
theorem dX2_settleByLoans_2 : decode cX2_settleByLoans 2 = .ok (.iconst 0, 1) := by decide +kernel
theorem dX2_settleByLoans_3 : decode cX2_settleByLoans 3 = .ok (.istore_n 2, 1) := by decide +kernel
theorem dX2_settleByLoans_4 : decode cX2_settleByLoans 4 = .ok (.iload_n 2, 1) := by decide +kernel
theorem dX2_settleByLoans_5 : decode cX2_settleByLoans 5 = .ok (.aload_n 0, 1) := by decide +kernel
theorem dX2_settleByLoans_6 : decode cX2_settleByLoans 6 = .ok (.getfield 37, 3) := by decide +kernel
theorem dX2_settleByLoans_9 : decode cX2_settleByLoans 9 = .ok (.if_icmp .ge 56, 3) := by decide +kernel
theorem dX2_settleByLoans_12 : decode cX2_settleByLoans 12 = .ok (.aload_n 0, 1) := by decide +kernel
theorem dX2_settleByLoans_13 : decode cX2_settleByLoans 13 = .ok (.iload_n 2, 1) := by decide +kernel
theorem dX2_settleByLoans_14 : decode cX2_settleByLoans 14 = .ok (.invokevirtual 41, 3) := by decide +kernel
theorem dX2_settleByLoans_17 : decode cX2_settleByLoans 17 = .ok (.astore_n 3, 1) := by decide +kernel
theorem dX2_settleByLoans_18 : decode cX2_settleByLoans 18 = .ok (.aload_n 3, 1) := by decide +kernel
theorem dX2_settleByLoans_19 : decode cX2_settleByLoans 19 = .ok (.getfield 166, 3) := by decide +kernel
theorem dX2_settleByLoans_22 : decode cX2_settleByLoans 22 = .ok (.iconst 1, 1) := by decide +kernel
theorem dX2_settleByLoans_23 : decode cX2_settleByLoans 23 = .ok (.if_icmp .ne 36, 3) := by decide +kernel
theorem dX2_settleByLoans_26 : decode cX2_settleByLoans 26 = .ok (.aload_n 0, 1) := by decide +kernel
theorem dX2_settleByLoans_27 : decode cX2_settleByLoans 27 = .ok (.getfield 22, 3) := by decide +kernel
theorem dX2_settleByLoans_30 : decode cX2_settleByLoans 30 = .ok (.aload_n 3, 1) := by decide +kernel
theorem dX2_settleByLoans_31 : decode cX2_settleByLoans 31 = .ok (.invokevirtual 219, 3) := by decide +kernel
theorem dX2_settleByLoans_34 : decode cX2_settleByLoans 34 = .ok (.ifCond .eq 25, 3) := by decide +kernel
theorem dX2_settleByLoans_37 : decode cX2_settleByLoans 37 = .ok (.aload_n 0, 1) := by decide +kernel
theorem dX2_settleByLoans_38 : decode cX2_settleByLoans 38 = .ok (.getfield 22, 3) := by decide +kernel
theorem dX2_settleByLoans_41 : decode cX2_settleByLoans 41 = .ok (.aload_n 3, 1) := by decide +kernel
theorem dX2_settleByLoans_42 : decode cX2_settleByLoans 42 = .ok (.invokevirtual 222, 3) := by decide +kernel
theorem dX2_settleByLoans_45 : decode cX2_settleByLoans 45 = .ok (.ifCond .ne 14, 3) := by decide +kernel
theorem dX2_settleByLoans_48 : decode cX2_settleByLoans 48 = .ok (.aload_n 0, 1) := by decide +kernel
theorem dX2_settleByLoans_49 : decode cX2_settleByLoans 49 = .ok (.aload_n 3, 1) := by decide +kernel
theorem dX2_settleByLoans_50 : decode cX2_settleByLoans 50 = .ok (.invokevirtual 225, 3) := by decide +kernel
theorem dX2_settleByLoans_53 : decode cX2_settleByLoans 53 = .ok (.ifCond .eq 6, 3) := by decide +kernel
theorem dX2_settleByLoans_56 : decode cX2_settleByLoans 56 = .ok (.iinc 1 1, 3) := by decide +kernel
theorem dX2_settleByLoans_59 : decode cX2_settleByLoans 59 = .ok (.iinc 2 1, 3) := by decide +kernel
theorem dX2_settleByLoans_62 : decode cX2_settleByLoans 62 = .ok (.goto (-58), 3) := by decide +kernel
theorem dX2_settleByLoans_65 : decode cX2_settleByLoans 65 = .ok (.iload_n 1, 1) := by decide +kernel
theorem dX2_settleByLoans_66 : decode cX2_settleByLoans 66 = .ok (.ireturn, 1) := by decide +kernel
theorem dX2_settleByLoan_0 : decode cX2_settleByLoan 0 = .ok (.aload_n 0, 1) := by decide +kernel
theorem dX2_settleByLoan_1 : decode cX2_settleByLoan 1 = .ok (.aload_n 1, 1) := by decide +kernel
theorem dX2_settleByLoan_2 : decode cX2_settleByLoan 2 = .ok (.invokevirtual 228, 3) := by decide +kernel
theorem dX2_settleByLoan_5 : decode cX2_settleByLoan 5 = .ok (.aload_n 0, 1) := by decide +kernel
theorem dX2_settleByLoan_6 : decode cX2_settleByLoan 6 = .ok (.getfield 22, 3) := by decide +kernel
theorem dX2_settleByLoan_9 : decode cX2_settleByLoan 9 = .ok (.aload_n 1, 1) := by decide +kernel
theorem dX2_settleByLoan_10 : decode cX2_settleByLoan 10 = .ok (.getfield 169, 3) := by decide +kernel
theorem dX2_settleByLoan_13 : decode cX2_settleByLoan 13 = .ok (.invokevirtual 190, 3) := by decide +kernel
theorem dX2_settleByLoan_16 : decode cX2_settleByLoan 16 = .ok (.astore_n 2, 1) := by decide +kernel
theorem dX2_settleByLoan_17 : decode cX2_settleByLoan 17 = .ok (.aload_n 1, 1) := by decide +kernel
theorem dX2_settleByLoan_18 : decode cX2_settleByLoan 18 = .ok (.getfield 122, 3) := by decide +kernel
theorem dX2_settleByLoan_21 : decode cX2_settleByLoan 21 = .ok (.aload_n 2, 1) := by decide +kernel
theorem dX2_settleByLoan_22 : decode cX2_settleByLoan 22 = .ok (.aload_n 1, 1) := by decide +kernel
theorem dX2_settleByLoan_23 : decode cX2_settleByLoan 23 = .ok (.getfield 119, 3) := by decide +kernel
theorem dX2_settleByLoan_26 : decode cX2_settleByLoan 26 = .ok (.invokevirtual 198, 3) := by decide +kernel
theorem dX2_settleByLoan_29 : decode cX2_settleByLoan 29 = .ok (.lsub, 1) := by decide +kernel
theorem dX2_settleByLoan_30 : decode cX2_settleByLoan 30 = .ok (.lstore_n 3, 1) := by decide +kernel
theorem dX2_settleByLoan_31 : decode cX2_settleByLoan 31 = .ok (.iconst 0, 1) := by decide +kernel
theorem dX2_settleByLoan_32 : decode cX2_settleByLoan 32 = .ok (.istore 5, 2) := by decide +kernel
theorem dX2_settleByLoan_34 : decode cX2_settleByLoan 34 = .ok (.iconst 0, 1) := by decide +kernel
theorem dX2_settleByLoan_35 : decode cX2_settleByLoan 35 = .ok (.istore 6, 2) := by decide +kernel
theorem dX2_settleByLoan_37 : decode cX2_settleByLoan 37 = .ok (.iload 6, 2) := by decide +kernel
theorem dX2_settleByLoan_39 : decode cX2_settleByLoan 39 = .ok (.aload_n 0, 1) := by decide +kernel
theorem dX2_settleByLoan_40 : decode cX2_settleByLoan 40 = .ok (.getfield 19, 3) := by decide +kernel
theorem dX2_settleByLoan_43 : decode cX2_settleByLoan 43 = .ok (.arraylength, 1) := by decide +kernel
theorem dX2_settleByLoan_44 : decode cX2_settleByLoan 44 = .ok (.if_icmp .ge 31, 3) := by decide +kernel
theorem dX2_settleByLoan_47 : decode cX2_settleByLoan 47 = .ok (.iload 5, 2) := by decide +kernel
theorem dX2_settleByLoan_49 : decode cX2_settleByLoan 49 = .ok (.aload_n 0, 1) := by decide +kernel
theorem dX2_settleByLoan_50 : decode cX2_settleByLoan 50 = .ok (.getfield 19, 3) := by decide +kernel
theorem dX2_settleByLoan_53 : decode cX2_settleByLoan 53 = .ok (.iload 6, 2) := by decide +kernel
theorem dX2_settleByLoan_55 : decode cX2_settleByLoan 55 = .ok (.laload, 1) := by decide +kernel
theorem dX2_settleByLoan_56 : decode cX2_settleByLoan 56 = .ok (.lconst 0, 1) := by decide +kernel
theorem dX2_settleByLoan_57 : decode cX2_settleByLoan 57 = .ok (.lcmp, 1) := by decide +kernel
theorem dX2_settleByLoan_58 : decode cX2_settleByLoan 58 = .ok (.ifCond .le 7, 3) := by decide +kernel
theorem dX2_settleByLoan_61 : decode cX2_settleByLoan 61 = .ok (.iconst 1, 1) := by decide +kernel
theorem dX2_settleByLoan_62 : decode cX2_settleByLoan 62 = .ok (.goto 4, 3) := by decide +kernel
theorem dX2_settleByLoan_65 : decode cX2_settleByLoan 65 = .ok (.iconst 0, 1) := by decide +kernel
theorem dX2_settleByLoan_66 : decode cX2_settleByLoan 66 = .ok (.iadd, 1) := by decide +kernel
theorem dX2_settleByLoan_67 : decode cX2_settleByLoan 67 = .ok (.istore 5, 2) := by decide +kernel
theorem dX2_settleByLoan_69 : decode cX2_settleByLoan 69 = .ok (.iinc 6 1, 3) := by decide +kernel
theorem dX2_settleByLoan_72 : decode cX2_settleByLoan 72 = .ok (.goto (-35), 3) := by decide +kernel
theorem dX2_settleByLoan_75 : decode cX2_settleByLoan 75 = .ok (.aload_n 0, 1) := by decide +kernel
theorem dX2_settleByLoan_76 : decode cX2_settleByLoan 76 = .ok (.getfield 19, 3) := by decide +kernel
theorem dX2_settleByLoan_79 : decode cX2_settleByLoan 79 = .ok (.invokestatic 231, 3) := by decide +kernel
theorem dX2_settleByLoan_82 : decode cX2_settleByLoan 82 = .ok (.lload_n 3, 1) := by decide +kernel
theorem dX2_settleByLoan_83 : decode cX2_settleByLoan 83 = .ok (.lcmp, 1) := by decide +kernel
theorem dX2_settleByLoan_84 : decode cX2_settleByLoan 84 = .ok (.ifCond .lt 18, 3) := by decide +kernel
theorem dX2_settleByLoan_87 : decode cX2_settleByLoan 87 = .ok (.aload_n 0, 1) := by decide +kernel
theorem dX2_settleByLoan_88 : decode cX2_settleByLoan 88 = .ok (.getfield 22, 3) := by decide +kernel
theorem dX2_settleByLoan_91 : decode cX2_settleByLoan 91 = .ok (.getfield 178, 3) := by decide +kernel
theorem dX2_settleByLoan_94 : decode cX2_settleByLoan 94 = .ok (.iload 5, 2) := by decide +kernel
theorem dX2_settleByLoan_96 : decode cX2_settleByLoan 96 = .ok (.iadd, 1) := by decide +kernel
theorem dX2_settleByLoan_97 : decode cX2_settleByLoan 97 = .ok (.bipush 20, 2) := by decide +kernel
theorem dX2_settleByLoan_99 : decode cX2_settleByLoan 99 = .ok (.if_icmp .le 5, 3) := by decide +kernel
theorem dX2_settleByLoan_102 : decode cX2_settleByLoan 102 = .ok (.iconst 0, 1) := by decide +kernel
theorem dX2_settleByLoan_103 : decode cX2_settleByLoan 103 = .ok (.ireturn, 1) := by decide +kernel
theorem dX2_settleByLoan_104 : decode cX2_settleByLoan 104 = .ok (.aload_n 0, 1) := by decide +kernel
theorem dX2_settleByLoan_105 : decode cX2_settleByLoan 105 = .ok (.aload_n 1, 1) := by decide +kernel
theorem dX2_settleByLoan_106 : decode cX2_settleByLoan 106 = .ok (.iconst 1, 1) := by decide +kernel
theorem dX2_settleByLoan_107 : decode cX2_settleByLoan 107 = .ok (.invokevirtual 235, 3) := by decide +kernel
theorem dX2_settleByLoan_110 : decode cX2_settleByLoan 110 = .ok (.aload_n 0, 1) := by decide +kernel
theorem dX2_settleByLoan_111 : decode cX2_settleByLoan 111 = .ok (.getfield 22, 3) := by decide +kernel
theorem dX2_settleByLoan_114 : decode cX2_settleByLoan 114 = .ok (.aload_n 1, 1) := by decide +kernel
theorem dX2_settleByLoan_115 : decode cX2_settleByLoan 115 = .ok (.aload_n 1, 1) := by decide +kernel
theorem dX2_settleByLoan_116 : decode cX2_settleByLoan 116 = .ok (.getfield 122, 3) := by decide +kernel
theorem dX2_settleByLoan_119 : decode cX2_settleByLoan 119 = .ok (.aload_n 1, 1) := by decide +kernel
theorem dX2_settleByLoan_120 : decode cX2_settleByLoan 120 = .ok (.getfield 116, 3) := by decide +kernel
theorem dX2_settleByLoan_123 : decode cX2_settleByLoan 123 = .ok (.invokevirtual 128, 3) := by decide +kernel
theorem dX2_settleByLoan_126 : decode cX2_settleByLoan 126 = .ok (.aload_n 0, 1) := by decide +kernel
theorem dX2_settleByLoan_127 : decode cX2_settleByLoan 127 = .ok (.getfield 22, 3) := by decide +kernel
theorem dX2_settleByLoan_130 : decode cX2_settleByLoan 130 = .ok (.aload_n 1, 1) := by decide +kernel
theorem dX2_settleByLoan_131 : decode cX2_settleByLoan 131 = .ok (.getfield 169, 3) := by decide +kernel
theorem dX2_settleByLoan_134 : decode cX2_settleByLoan 134 = .ok (.invokevirtual 172, 3) := by decide +kernel
theorem dX2_settleByLoan_137 : decode cX2_settleByLoan 137 = .ok (.ifCond .eq 28, 3) := by decide +kernel
theorem dX2_settleByLoan_140 : decode cX2_settleByLoan 140 = .ok (.aload_n 0, 1) := by decide +kernel
theorem dX2_settleByLoan_141 : decode cX2_settleByLoan 141 = .ok (.getfield 22, 3) := by decide +kernel
theorem dX2_settleByLoan_144 : decode cX2_settleByLoan 144 = .ok (.aload_n 1, 1) := by decide +kernel
theorem dX2_settleByLoan_145 : decode cX2_settleByLoan 145 = .ok (.getfield 175, 3) := by decide +kernel
theorem dX2_settleByLoan_148 : decode cX2_settleByLoan 148 = .ok (.invokevirtual 172, 3) := by decide +kernel
theorem dX2_settleByLoan_151 : decode cX2_settleByLoan 151 = .ok (.ifCond .eq 14, 3) := by decide +kernel
theorem dX2_settleByLoan_154 : decode cX2_settleByLoan 154 = .ok (.aload_n 0, 1) := by decide +kernel
theorem dX2_settleByLoan_155 : decode cX2_settleByLoan 155 = .ok (.invokevirtual 239, 3) := by decide +kernel
theorem dX2_settleByLoan_158 : decode cX2_settleByLoan 158 = .ok (.ifCond .eq 7, 3) := by decide +kernel
theorem dX2_settleByLoan_161 : decode cX2_settleByLoan 161 = .ok (.iconst 1, 1) := by decide +kernel
theorem dX2_settleByLoan_162 : decode cX2_settleByLoan 162 = .ok (.goto 4, 3) := by decide +kernel
theorem dX2_settleByLoan_165 : decode cX2_settleByLoan 165 = .ok (.iconst 0, 1) := by decide +kernel
theorem dX2_settleByLoan_166 : decode cX2_settleByLoan 166 = .ok (.istore 6, 2) := by decide +kernel
theorem dX2_settleByLoan_168 : decode cX2_settleByLoan 168 = .ok (.aload_n 0, 1) := by decide +kernel
theorem dX2_settleByLoan_169 : decode cX2_settleByLoan 169 = .ok (.getfield 22, 3) := by decide +kernel
theorem dX2_settleByLoan_172 : decode cX2_settleByLoan 172 = .ok (.aload_n 1, 1) := by decide +kernel
theorem dX2_settleByLoan_173 : decode cX2_settleByLoan 173 = .ok (.aload_n 1, 1) := by decide +kernel
theorem dX2_settleByLoan_174 : decode cX2_settleByLoan 174 = .ok (.getfield 122, 3) := by decide +kernel
theorem dX2_settleByLoan_177 : decode cX2_settleByLoan 177 = .ok (.lneg, 1) := by decide +kernel
theorem dX2_settleByLoan_178 : decode cX2_settleByLoan 178 = .ok (.aload_n 1, 1) := by decide +kernel
theorem dX2_settleByLoan_179 : decode cX2_settleByLoan 179 = .ok (.getfield 116, 3) := by decide +kernel
theorem dX2_settleByLoan_182 : decode cX2_settleByLoan 182 = .ok (.lneg, 1) := by decide +kernel
theorem dX2_settleByLoan_183 : decode cX2_settleByLoan 183 = .ok (.invokevirtual 128, 3) := by decide +kernel
theorem dX2_settleByLoan_186 : decode cX2_settleByLoan 186 = .ok (.aload_n 0, 1) := by decide +kernel
theorem dX2_settleByLoan_187 : decode cX2_settleByLoan 187 = .ok (.aload_n 1, 1) := by decide +kernel
theorem dX2_settleByLoan_188 : decode cX2_settleByLoan 188 = .ok (.iconst (-1), 1) := by decide +kernel
theorem dX2_settleByLoan_189 : decode cX2_settleByLoan 189 = .ok (.invokevirtual 235, 3) := by decide +kernel
theorem dX2_settleByLoan_192 : decode cX2_settleByLoan 192 = .ok (.iload 6, 2) := by decide +kernel
theorem dX2_settleByLoan_194 : decode cX2_settleByLoan 194 = .ok (.ifCond .eq 16, 3) := by decide +kernel
theorem dX2_settleByLoan_197 : decode cX2_settleByLoan 197 = .ok (.aload_n 0, 1) := by decide +kernel
theorem dX2_settleByLoan_198 : decode cX2_settleByLoan 198 = .ok (.aload_n 1, 1) := by decide +kernel
theorem dX2_settleByLoan_199 : decode cX2_settleByLoan 199 = .ok (.invokevirtual 242, 3) := by decide +kernel
theorem dX2_settleByLoan_202 : decode cX2_settleByLoan 202 = .ok (.aload_n 0, 1) := by decide +kernel
theorem dX2_settleByLoan_203 : decode cX2_settleByLoan 203 = .ok (.getfield 22, 3) := by decide +kernel
theorem dX2_settleByLoan_206 : decode cX2_settleByLoan 206 = .ok (.aload_n 1, 1) := by decide +kernel
theorem dX2_settleByLoan_207 : decode cX2_settleByLoan 207 = .ok (.invokevirtual 216, 3) := by decide +kernel
theorem dX2_settleByLoan_210 : decode cX2_settleByLoan 210 = .ok (.iload 6, 2) := by decide +kernel
theorem dX2_settleByLoan_212 : decode cX2_settleByLoan 212 = .ok (.ireturn, 1) := by decide +kernel
theorem dX2_findLenders_0 : decode cX2_findLenders 0 = .ok (.aload_n 1, 1) := by decide +kernel
theorem dX2_findLenders_1 : decode cX2_findLenders 1 = .ok (.getfield 122, 3) := by decide +kernel
theorem dX2_findLenders_4 : decode cX2_findLenders 4 = .ok (.aload_n 0, 1) := by decide +kernel
theorem dX2_findLenders_5 : decode cX2_findLenders 5 = .ok (.getfield 22, 3) := by decide +kernel
theorem dX2_findLenders_8 : decode cX2_findLenders 8 = .ok (.aload_n 1, 1) := by decide +kernel
theorem dX2_findLenders_9 : decode cX2_findLenders 9 = .ok (.getfield 169, 3) := by decide +kernel
theorem dX2_findLenders_12 : decode cX2_findLenders 12 = .ok (.invokevirtual 190, 3) := by decide +kernel
theorem dX2_findLenders_15 : decode cX2_findLenders 15 = .ok (.aload_n 1, 1) := by decide +kernel
theorem dX2_findLenders_16 : decode cX2_findLenders 16 = .ok (.getfield 119, 3) := by decide +kernel
theorem dX2_findLenders_19 : decode cX2_findLenders 19 = .ok (.invokevirtual 198, 3) := by decide +kernel
theorem dX2_findLenders_22 : decode cX2_findLenders 22 = .ok (.lsub, 1) := by decide +kernel
theorem dX2_findLenders_23 : decode cX2_findLenders 23 = .ok (.lstore_n 2, 1) := by decide +kernel
theorem dX2_findLenders_24 : decode cX2_findLenders 24 = .ok (.iconst 0, 1) := by decide +kernel
theorem dX2_findLenders_25 : decode cX2_findLenders 25 = .ok (.istore 4, 2) := by decide +kernel
theorem dX2_findLenders_27 : decode cX2_findLenders 27 = .ok (.iload 4, 2) := by decide +kernel
theorem dX2_findLenders_29 : decode cX2_findLenders 29 = .ok (.aload_n 0, 1) := by decide +kernel
theorem dX2_findLenders_30 : decode cX2_findLenders 30 = .ok (.getfield 19, 3) := by decide +kernel
theorem dX2_findLenders_33 : decode cX2_findLenders 33 = .ok (.arraylength, 1) := by decide +kernel
theorem dX2_findLenders_34 : decode cX2_findLenders 34 = .ok (.if_icmp .ge 100, 3) := by decide +kernel
theorem dX2_findLenders_37 : decode cX2_findLenders 37 = .ok (.aload_n 0, 1) := by decide +kernel
theorem dX2_findLenders_38 : decode cX2_findLenders 38 = .ok (.getfield 22, 3) := by decide +kernel
theorem dX2_findLenders_41 : decode cX2_findLenders 41 = .ok (.iload 4, 2) := by decide +kernel
theorem dX2_findLenders_43 : decode cX2_findLenders 43 = .ok (.invokevirtual 190, 3) := by decide +kernel
theorem dX2_findLenders_46 : decode cX2_findLenders 46 = .ok (.astore 5, 2) := by decide +kernel
theorem dX2_findLenders_48 : decode cX2_findLenders 48 = .ok (.aload 5, 2) := by decide +kernel
theorem dX2_findLenders_50 : decode cX2_findLenders 50 = .ok (.getfield 245, 3) := by decide +kernel
theorem dX2_findLenders_53 : decode cX2_findLenders 53 = .ok (.ifCond .eq 25, 3) := by decide +kernel
theorem dX2_findLenders_56 : decode cX2_findLenders 56 = .ok (.iload 4, 2) := by decide +kernel
theorem dX2_findLenders_58 : decode cX2_findLenders 58 = .ok (.aload_n 1, 1) := by decide +kernel
theorem dX2_findLenders_59 : decode cX2_findLenders 59 = .ok (.getfield 169, 3) := by decide +kernel
theorem dX2_findLenders_62 : decode cX2_findLenders 62 = .ok (.if_icmp .eq 16, 3) := by decide +kernel
theorem dX2_findLenders_65 : decode cX2_findLenders 65 = .ok (.iload 4, 2) := by decide +kernel
theorem dX2_findLenders_67 : decode cX2_findLenders 67 = .ok (.aload_n 1, 1) := by decide +kernel
theorem dX2_findLenders_68 : decode cX2_findLenders 68 = .ok (.getfield 175, 3) := by decide +kernel
theorem dX2_findLenders_71 : decode cX2_findLenders 71 = .ok (.if_icmp .eq 7, 3) := by decide +kernel
theorem dX2_findLenders_74 : decode cX2_findLenders 74 = .ok (.iconst 1, 1) := by decide +kernel
theorem dX2_findLenders_75 : decode cX2_findLenders 75 = .ok (.goto 4, 3) := by decide +kernel
theorem dX2_findLenders_78 : decode cX2_findLenders 78 = .ok (.iconst 0, 1) := by decide +kernel
theorem dX2_findLenders_79 : decode cX2_findLenders 79 = .ok (.istore 6, 2) := by decide +kernel
theorem dX2_findLenders_81 : decode cX2_findLenders 81 = .ok (.iload 6, 2) := by decide +kernel
theorem dX2_findLenders_83 : decode cX2_findLenders 83 = .ok (.ifCond .eq 15, 3) := by decide +kernel
theorem dX2_findLenders_86 : decode cX2_findLenders 86 = .ok (.aload 5, 2) := by decide +kernel
theorem dX2_findLenders_88 : decode cX2_findLenders 88 = .ok (.aload_n 1, 1) := by decide +kernel
theorem dX2_findLenders_89 : decode cX2_findLenders 89 = .ok (.getfield 119, 3) := by decide +kernel
theorem dX2_findLenders_92 : decode cX2_findLenders 92 = .ok (.invokevirtual 198, 3) := by decide +kernel
theorem dX2_findLenders_95 : decode cX2_findLenders 95 = .ok (.goto 4, 3) := by decide +kernel
theorem dX2_findLenders_98 : decode cX2_findLenders 98 = .ok (.lconst 0, 1) := by decide +kernel
theorem dX2_findLenders_99 : decode cX2_findLenders 99 = .ok (.lstore 7, 2) := by decide +kernel
theorem dX2_findLenders_101 : decode cX2_findLenders 101 = .ok (.aload_n 0, 1) := by decide +kernel
theorem dX2_findLenders_102 : decode cX2_findLenders 102 = .ok (.getfield 19, 3) := by decide +kernel
theorem dX2_findLenders_105 : decode cX2_findLenders 105 = .ok (.iload 4, 2) := by decide +kernel
theorem dX2_findLenders_107 : decode cX2_findLenders 107 = .ok (.lconst 0, 1) := by decide +kernel
theorem dX2_findLenders_108 : decode cX2_findLenders 108 = .ok (.lload_n 2, 1) := by decide +kernel
theorem dX2_findLenders_109 : decode cX2_findLenders 109 = .ok (.lload 7, 2) := by decide +kernel
theorem dX2_findLenders_111 : decode cX2_findLenders 111 = .ok (.invokestatic 248, 3) := by decide +kernel
theorem dX2_findLenders_114 : decode cX2_findLenders 114 = .ok (.invokestatic 251, 3) := by decide +kernel
theorem dX2_findLenders_117 : decode cX2_findLenders 117 = .ok (.lastore, 1) := by decide +kernel
theorem dX2_findLenders_118 : decode cX2_findLenders 118 = .ok (.lload_n 2, 1) := by decide +kernel
theorem dX2_findLenders_119 : decode cX2_findLenders 119 = .ok (.aload_n 0, 1) := by decide +kernel
theorem dX2_findLenders_120 : decode cX2_findLenders 120 = .ok (.getfield 19, 3) := by decide +kernel
theorem dX2_findLenders_123 : decode cX2_findLenders 123 = .ok (.iload 4, 2) := by decide +kernel
theorem dX2_findLenders_125 : decode cX2_findLenders 125 = .ok (.laload, 1) := by decide +kernel
theorem dX2_findLenders_126 : decode cX2_findLenders 126 = .ok (.lsub, 1) := by decide +kernel
theorem dX2_findLenders_127 : decode cX2_findLenders 127 = .ok (.lstore_n 2, 1) := by decide +kernel
theorem dX2_findLenders_128 : decode cX2_findLenders 128 = .ok (.iinc 4 1, 3) := by decide +kernel
theorem dX2_findLenders_131 : decode cX2_findLenders 131 = .ok (.goto (-104), 3) := by decide +kernel
theorem dX2_findLenders_134 : decode cX2_findLenders 134 = .ok (.return_, 1) := by decide +kernel
