theorem dX1_test_99 : decode cX1_test 99 = .ok (.iadd, 1) := by decide +kernel
theorem dX1_test_100 : decode cX1_test 100 = .ok (.istore 6, 2) := by decide +kernel
theorem dX1_test_102 : decode cX1_test 102 = .ok (.iinc 7 1, 3) := by decide +kernel
theorem dX1_test_105 : decode cX1_test 105 = .ok (.goto (-37), 3) := by decide +kernel
theorem dX1_test_108 : decode cX1_test 108 = .ok (.aload_n 0, 1) := by decide +kernel
theorem dX1_test_109 : decode cX1_test 109 = .ok (.iload 5, 2) := by decide +kernel
theorem dX1_test_111 : decode cX1_test 111 = .ok (.putfield 58, 3) := by decide +kernel
theorem dX1_test_114 : decode cX1_test 114 = .ok (.iload 6, 2) := by decide +kernel
theorem dX1_test_116 : decode cX1_test 116 = .ok (.ireturn, 1) := by decide +kernel
theorem dX1_duel_0 : decode cX1_duel 0 = .ok (.iload_n 1, 1) := by decide +kernel
theorem dX1_duel_1 : decode cX1_duel 1 = .ok (.iconst 0, 1) := by decide +kernel
theorem dX1_duel_2 : decode cX1_duel 2 = .ok (.iconst 3, 1) := by decide +kernel
theorem dX1_duel_3 : decode cX1_duel 3 = .ok (.invokestatic 114, 3) := by decide +kernel
theorem dX1_duel_6 : decode cX1_duel 6 = .ok (.ifCond .ne 5, 3) := by decide +kernel
theorem dX1_duel_9 : decode cX1_duel 9 = .ok (.iconst (-1), 1) := by decide +kernel
theorem dX1_duel_10 : decode cX1_duel 10 = .ok (.ireturn, 1) := by decide +kernel
theorem dX1_duel_11 : decode cX1_duel 11 = .ok (.aload_n 0, 1) := by decide +kernel
theorem dX1_duel_12 : decode cX1_duel 12 = .ok (.getfield 29, 3) := by decide +kernel
theorem dX1_duel_15 : decode cX1_duel 15 = .ok (.getfield 108, 3) := by decide +kernel
theorem dX1_duel_18 : decode cX1_duel 18 = .ok (.ifCond .ne 6, 3) := by decide +kernel
theorem dX1_duel_21 : decode cX1_duel 21 = .ok (.bipush (-4), 2) := by decide +kernel
theorem dX1_duel_23 : decode cX1_duel 23 = .ok (.ireturn, 1) := by decide +kernel
theorem dX1_duel_24 : decode cX1_duel 24 = .ok (.aload_n 0, 1) := by decide +kernel
theorem dX1_duel_25 : decode cX1_duel 25 = .ok (.aload_n 0, 1) := by decide +kernel
theorem dX1_duel_26 : decode cX1_duel 26 = .ok (.getfield 29, 3) := by decide +kernel
theorem dX1_duel_29 : decode cX1_duel 29 = .ok (.invokevirtual 207, 3) := by decide +kernel
theorem dX1_duel_32 : decode cX1_duel 32 = .ok (.iconst 0, 1) := by decide +kernel
theorem dX1_duel_33 : decode cX1_duel 33 = .ok (.iload_n 1, 1) := by decide +kernel
theorem dX1_duel_34 : decode cX1_duel 34 = .ok (.invokevirtual 210, 3) := by decide +kernel
theorem dX1_duel_37 : decode cX1_duel 37 = .ok (.ireturn, 1) := by decide +kernel
theorem dX1_odds_0 : decode cX1_odds 0 = .ok (.iload_n 1, 1) := by decide +kernel
theorem dX1_odds_1 : decode cX1_odds 1 = .ok (.iconst 0, 1) := by decide +kernel
theorem dX1_odds_2 : decode cX1_odds 2 = .ok (.bipush 63, 2) := by decide +kernel
theorem dX1_odds_4 : decode cX1_odds 4 = .ok (.invokestatic 114, 3) := by decide +kernel
theorem dX1_odds_7 : decode cX1_odds 7 = .ok (.ifCond .eq 23, 3) := by decide +kernel
theorem dX1_odds_10 : decode cX1_odds 10 = .ok (.iload_n 2, 1) := by decide +kernel
theorem dX1_odds_11 : decode cX1_odds 11 = .ok (.iconst 0, 1) := by decide +kernel
theorem dX1_odds_12 : decode cX1_odds 12 = .ok (.bipush 20, 2) := by decide +kernel
theorem dX1_odds_14 : decode cX1_odds 14 = .ok (.invokestatic 114, 3) := by decide +kernel
theorem dX1_odds_17 : decode cX1_odds 17 = .ok (.ifCond .eq 13, 3) := by decide +kernel
theorem dX1_odds_20 : decode cX1_odds 20 = .ok (.iload_n 3, 1) := by decide +kernel
theorem dX1_odds_21 : decode cX1_odds 21 = .ok (.iconst 0, 1) := by decide +kernel
theorem dX1_odds_22 : decode cX1_odds 22 = .ok (.bipush 12, 2) := by decide +kernel
theorem dX1_odds_24 : decode cX1_odds 24 = .ok (.invokestatic 114, 3) := by decide +kernel
theorem dX1_odds_27 : decode cX1_odds 27 = .ok (.ifCond .ne 5, 3) := by decide +kernel
theorem dX1_odds_30 : decode cX1_odds 30 = .ok (.iconst (-1), 1) := by decide +kernel
theorem dX1_odds_31 : decode cX1_odds 31 = .ok (.ireturn, 1) := by decide +kernel
theorem dX1_odds_32 : decode cX1_odds 32 = .ok (.aload_n 0, 1) := by decide +kernel
theorem dX1_odds_33 : decode cX1_odds 33 = .ok (.getfield 29, 3) := by decide +kernel
theorem dX1_odds_36 : decode cX1_odds 36 = .ok (.getfield 108, 3) := by decide +kernel
theorem dX1_odds_39 : decode cX1_odds 39 = .ok (.ifCond .ne 6, 3) := by decide +kernel
theorem dX1_odds_42 : decode cX1_odds 42 = .ok (.bipush (-4), 2) := by decide +kernel
theorem dX1_odds_44 : decode cX1_odds 44 = .ok (.ireturn, 1) := by decide +kernel
theorem dX1_odds_45 : decode cX1_odds 45 = .ok (.aload_n 0, 1) := by decide +kernel
theorem dX1_odds_46 : decode cX1_odds 46 = .ok (.iload_n 1, 1) := by decide +kernel
theorem dX1_odds_47 : decode cX1_odds 47 = .ok (.iload_n 2, 1) := by decide +kernel
theorem dX1_odds_48 : decode cX1_odds 48 = .ok (.iload_n 3, 1) := by decide +kernel
theorem dX1_odds_49 : decode cX1_odds 49 = .ok (.invokevirtual 214, 3) := by decide +kernel
theorem dX1_odds_52 : decode cX1_odds 52 = .ok (.iconst 1, 1) := by decide +kernel
theorem dX1_odds_53 : decode cX1_odds 53 = .ok (.ireturn, 1) := by decide +kernel
theorem dX1_mid_0 : decode cX1_mid 0 = .ok (.iload_n 1, 1) := by decide +kernel
theorem dX1_mid_1 : decode cX1_mid 1 = .ok (.iconst 0, 1) := by decide +kernel
theorem dX1_mid_2 : decode cX1_mid 2 = .ok (.bipush 20, 2) := by decide +kernel
theorem dX1_mid_4 : decode cX1_mid 4 = .ok (.invokestatic 114, 3) := by decide +kernel
theorem dX1_mid_7 : decode cX1_mid 7 = .ok (.ifCond .eq 13, 3) := by decide +kernel
theorem dX1_mid_10 : decode cX1_mid 10 = .ok (.iload_n 2, 1) := by decide +kernel
theorem dX1_mid_11 : decode cX1_mid 11 = .ok (.iconst 0, 1) := by decide +kernel
theorem dX1_mid_12 : decode cX1_mid 12 = .ok (.bipush 12, 2) := by decide +kernel
theorem dX1_mid_14 : decode cX1_mid 14 = .ok (.invokestatic 114, 3) := by decide +kernel
theorem dX1_mid_17 : decode cX1_mid 17 = .ok (.ifCond .ne 5, 3) := by decide +kernel
theorem dX1_mid_20 : decode cX1_mid 20 = .ok (.iconst (-1), 1) := by decide +kernel
theorem dX1_mid_21 : decode cX1_mid 21 = .ok (.ireturn, 1) := by decide +kernel
theorem dX1_mid_22 : decode cX1_mid 22 = .ok (.aload_n 0, 1) := by decide +kernel
theorem dX1_mid_23 : decode cX1_mid 23 = .ok (.getfield 29, 3) := by decide +kernel
theorem dX1_mid_26 : decode cX1_mid 26 = .ok (.getfield 108, 3) := by decide +kernel
theorem dX1_mid_29 : decode cX1_mid 29 = .ok (.ifCond .ne 6, 3) := by decide +kernel
theorem dX1_mid_32 : decode cX1_mid 32 = .ok (.bipush (-4), 2) := by decide +kernel
theorem dX1_mid_34 : decode cX1_mid 34 = .ok (.ireturn, 1) := by decide +kernel
theorem dX1_mid_35 : decode cX1_mid 35 = .ok (.aload_n 0, 1) := by decide +kernel
theorem dX1_mid_36 : decode cX1_mid 36 = .ok (.iconst (-1), 1) := by decide +kernel
theorem dX1_mid_37 : decode cX1_mid 37 = .ok (.iload_n 1, 1) := by decide +kernel
theorem dX1_mid_38 : decode cX1_mid 38 = .ok (.iload_n 2, 1) := by decide +kernel
theorem dX1_mid_39 : decode cX1_mid 39 = .ok (.invokevirtual 214, 3) := by decide +kernel
theorem dX1_mid_42 : decode cX1_mid 42 = .ok (.iconst 1, 1) := by decide +kernel
theorem dX1_mid_43 : decode cX1_mid 43 = .ok (.ireturn, 1) := by decide +kernel
theorem dX1_lots_0 : decode cX1_lots 0 = .ok (.iload_n 1, 1) := by decide +kernel
theorem dX1_lots_1 : decode cX1_lots 1 = .ok (.iconst 1, 1) := by decide +kernel
theorem dX1_lots_2 : decode cX1_lots 2 = .ok (.bipush 20, 2) := by decide +kernel
theorem dX1_lots_4 : decode cX1_lots 4 = .ok (.invokestatic 114, 3) := by decide +kernel
theorem dX1_lots_7 : decode cX1_lots 7 = .ok (.ifCond .eq 17, 3) := by decide +kernel
theorem dX1_lots_10 : decode cX1_lots 10 = .ok (.iload_n 2, 1) := by decide +kernel
theorem dX1_lots_11 : decode cX1_lots 11 = .ok (.iconst 1, 1) := by decide +kernel
theorem dX1_lots_12 : decode cX1_lots 12 = .ok (.if_icmp .lt 12, 3) := by decide +kernel
theorem dX1_lots_15 : decode cX1_lots 15 = .ok (.iload_n 2, 1) := by decide +kernel
theorem dX1_lots_16 : decode cX1_lots 16 = .ok (.i2l, 1) := by decide +kernel
theorem dX1_lots_17 : decode cX1_lots 17 = .ok (.ldc2_w 217, 3) := by decide +kernel
theorem dX1_lots_20 : decode cX1_lots 20 = .ok (.lcmp, 1) := by decide +kernel
theorem dX1_lots_21 : decode cX1_lots 21 = .ok (.ifCond .lt 5, 3) := by decide +kernel
theorem dX1_lots_24 : decode cX1_lots 24 = .ok (.iconst (-1), 1) := by decide +kernel
theorem dX1_lots_25 : decode cX1_lots 25 = .ok (.ireturn, 1) := by decide +kernel
theorem dX1_lots_26 : decode cX1_lots 26 = .ok (.aload_n 0, 1) := by decide +kernel
theorem dX1_lots_27 : decode cX1_lots 27 = .ok (.getfield 29, 3) := by decide +kernel
theorem dX1_lots_30 : decode cX1_lots 30 = .ok (.getfield 108, 3) := by decide +kernel
theorem dX1_lots_33 : decode cX1_lots 33 = .ok (.ifCond .ne 6, 3) := by decide +kernel
theorem dX1_lots_36 : decode cX1_lots 36 = .ok (.bipush (-4), 2) := by decide +kernel
theorem dX1_lots_38 : decode cX1_lots 38 = .ok (.ireturn, 1) := by decide +kernel
theorem dX1_lots_39 : decode cX1_lots 39 = .ok (.aload_n 0, 1) := by decide +kernel
theorem dX1_lots_40 : decode cX1_lots 40 = .ok (.iload_n 1, 1) := by decide +kernel
theorem dX1_lots_41 : decode cX1_lots 41 = .ok (.invokevirtual 130, 3) := by decide +kernel
theorem dX1_lots_44 : decode cX1_lots 44 = .ok (.ifCond .ne 6, 3) := by decide +kernel
theorem dX1_lots_47 : decode cX1_lots 47 = .ok (.bipush (-2), 2) := by decide +kernel
theorem dX1_lots_49 : decode cX1_lots 49 = .ok (.ireturn, 1) := by decide +kernel
theorem dX1_lots_50 : decode cX1_lots 50 = .ok (.iload_n 2, 1) := by decide +kernel
theorem dX1_lots_51 : decode cX1_lots 51 = .ok (.i2l, 1) := by decide +kernel
theorem dX1_lots_52 : decode cX1_lots 52 = .ok (.lstore_n 3, 1) := by decide +kernel
theorem dX1_lots_53 : decode cX1_lots 53 = .ok (.iconst 0, 1) := by decide +kernel
theorem dX1_lots_54 : decode cX1_lots 54 = .ok (.istore 5, 2) := by decide +kernel
theorem dX1_lots_56 : decode cX1_lots 56 = .ok (.iload 5, 2) := by decide +kernel
theorem dX1_lots_58 : decode cX1_lots 58 = .ok (.iload_n 1, 1) := by decide +kernel
theorem dX1_lots_59 : decode cX1_lots 59 = .ok (.if_icmp .ge 25, 3) := by decide +kernel
theorem dX1_lots_62 : decode cX1_lots 62 = .ok (.lload_n 3, 1) := by decide +kernel
theorem dX1_lots_63 : decode cX1_lots 63 = .ok (.ldc2_w 219, 3) := by decide +kernel
theorem dX1_lots_66 : decode cX1_lots 66 = .ok (.lmul, 1) := by decide +kernel
theorem dX1_lots_67 : decode cX1_lots 67 = .ok (.ldc2_w 217, 3) := by decide +kernel
theorem dX1_lots_70 : decode cX1_lots 70 = .ok (.lrem, 1) := by decide +kernel
theorem dX1_lots_71 : decode cX1_lots 71 = .ok (.lstore_n 3, 1) := by decide +kernel
theorem dX1_lots_72 : decode cX1_lots 72 = .ok (.aload_n 0, 1) := by decide +kernel
theorem dX1_lots_73 : decode cX1_lots 73 = .ok (.lload_n 3, 1) := by decide +kernel
theorem dX1_lots_74 : decode cX1_lots 74 = .ok (.l2i, 1) := by decide +kernel
theorem dX1_lots_75 : decode cX1_lots 75 = .ok (.invokevirtual 221, 3) := by decide +kernel
theorem dX1_lots_78 : decode cX1_lots 78 = .ok (.iinc 5 1, 3) := by decide +kernel
theorem dX1_lots_81 : decode cX1_lots 81 = .ok (.goto (-25), 3) := by decide +kernel
theorem dX1_lots_84 : decode cX1_lots 84 = .ok (.aload_n 0, 1) := by decide +kernel
theorem dX1_lots_85 : decode cX1_lots 85 = .ok (.getfield 29, 3) := by decide +kernel
theorem dX1_lots_88 : decode cX1_lots 88 = .ok (.invokevirtual 137, 3) := by decide +kernel
theorem dX1_lots_91 : decode cX1_lots 91 = .ok (.ireturn, 1) := by decide +kernel
theorem dX1_asked_0 : decode cX1_asked 0 = .ok (.aload_n 0, 1) := by decide +kernel
theorem dX1_asked_1 : decode cX1_asked 1 = .ok (.getfield 58, 3) := by decide +kernel
theorem dX1_asked_4 : decode cX1_asked 4 = .ok (.ireturn, 1) := by decide +kernel
theorem dX1_upper_0 : decode cX1_upper 0 = .ok (.aload_n 0, 1) := by decide +kernel
theorem dX1_upper_1 : decode cX1_upper 1 = .ok (.getfield 61, 3) := by decide +kernel
theorem dX1_upper_4 : decode cX1_upper 4 = .ok (.lreturn, 1) := by decide +kernel
theorem dX1_lower_0 : decode cX1_lower 0 = .ok (.aload_n 0, 1) := by decide +kernel
theorem dX1_lower_1 : decode cX1_lower 1 = .ok (.getfield 65, 3) := by decide +kernel
theorem dX1_lower_4 : decode cX1_lower 4 = .ok (.lreturn, 1) := by decide +kernel
theorem dX1_count_0 : decode cX1_count 0 = .ok (.iload_n 1, 1) := by decide +kernel
theorem dX1_count_1 : decode cX1_count 1 = .ok (.iconst 0, 1) := by decide +kernel
theorem dX1_count_2 : decode cX1_count 2 = .ok (.bipush 10, 2) := by decide +kernel
theorem dX1_count_4 : decode cX1_count 4 = .ok (.invokestatic 114, 3) := by decide +kernel
theorem dX1_count_7 : decode cX1_count 7 = .ok (.ifCond .eq 11, 3) := by decide +kernel
theorem dX1_count_10 : decode cX1_count 10 = .ok (.aload_n 0, 1) := by decide +kernel
theorem dX1_count_11 : decode cX1_count 11 = .ok (.iload_n 1, 1) := by decide +kernel
theorem dX1_count_12 : decode cX1_count 12 = .ok (.invokevirtual 224, 3) := by decide +kernel
theorem dX1_count_15 : decode cX1_count 15 = .ok (.goto 4, 3) := by decide +kernel
theorem dX1_count_18 : decode cX1_count 18 = .ok (.iconst (-1), 1) := by decide +kernel
theorem dX1_count_19 : decode cX1_count 19 = .ok (.ireturn, 1) := by decide +kernel
theorem dX1_finding_0 : decode cX1_finding 0 = .ok (.aload_n 0, 1) := by decide +kernel
theorem dX1_finding_1 : decode cX1_finding 1 = .ok (.getfield 55, 3) := by decide +kernel
theorem dX1_finding_4 : decode cX1_finding 4 = .ok (.ireturn, 1) := by decide +kernel
theorem dX1_findings_0 : decode cX1_findings 0 = .ok (.iload_n 1, 1) := by decide +kernel
theorem dX1_findings_1 : decode cX1_findings 1 = .ok (.iconst 1, 1) := by decide +kernel
theorem dX1_findings_2 : decode cX1_findings 2 = .ok (.iconst 5, 1) := by decide +kernel
theorem dX1_findings_3 : decode cX1_findings 3 = .ok (.invokestatic 114, 3) := by decide +kernel
theorem dX1_findings_6 : decode cX1_findings 6 = .ok (.ifCond .eq 12, 3) := by decide +kernel
theorem dX1_findings_9 : decode cX1_findings 9 = .ok (.aload_n 0, 1) := by decide +kernel
theorem dX1_findings_10 : decode cX1_findings 10 = .ok (.getfield 52, 3) := by decide +kernel
theorem dX1_findings_13 : decode cX1_findings 13 = .ok (.iload_n 1, 1) := by decide +kernel
theorem dX1_findings_14 : decode cX1_findings 14 = .ok (.iaload, 1) := by decide +kernel
theorem dX1_findings_15 : decode cX1_findings 15 = .ok (.goto 4, 3) := by decide +kernel
theorem dX1_findings_18 : decode cX1_findings 18 = .ok (.iconst (-1), 1) := by decide +kernel
theorem dX1_findings_19 : decode cX1_findings 19 = .ok (.ireturn, 1) := by decide +kernel
theorem dX1_digest_0 : decode cX1_digest 0 = .ok (.ldc2_w 227, 3) := by decide +kernel
theorem dX1_digest_3 : decode cX1_digest 3 = .ok (.lstore_n 1, 1) := by decide +kernel
theorem dX1_digest_4 : decode cX1_digest 4 = .ok (.iconst 0, 1) := by decide +kernel
theorem dX1_digest_5 : decode cX1_digest 5 = .ok (.istore_n 3, 1) := by decide +kernel
theorem dX1_digest_6 : decode cX1_digest 6 = .ok (.iload_n 3, 1) := by decide +kernel
theorem dX1_digest_7 : decode cX1_digest 7 = .ok (.bipush 11, 2) := by decide +kernel
theorem dX1_digest_9 : decode cX1_digest 9 = .ok (.if_icmp .ge 22, 3) := by decide +kernel
theorem dX1_digest_12 : decode cX1_digest 12 = .ok (.ldc2_w 229, 3) := by decide +kernel
theorem dX1_digest_15 : decode cX1_digest 15 = .ok (.lload_n 1, 1) := by decide +kernel
theorem dX1_digest_16 : decode cX1_digest 16 = .ok (.lmul, 1) := by decide +kernel
theorem dX1_digest_17 : decode cX1_digest 17 = .ok (.aload_n 0, 1) := by decide +kernel
theorem dX1_digest_18 : decode cX1_digest 18 = .ok (.iload_n 3, 1) := by decide +kernel
theorem dX1_digest_19 : decode cX1_digest 19 = .ok (.invokevirtual 224, 3) := by decide +kernel
theorem dX1_digest_22 : decode cX1_digest 22 = .ok (.i2l, 1) := by decide +kernel
theorem dX1_digest_23 : decode cX1_digest 23 = .ok (.ladd, 1) := by decide +kernel
theorem dX1_digest_24 : decode cX1_digest 24 = .ok (.lstore_n 1, 1) := by decide +kernel
theorem dX1_digest_25 : decode cX1_digest 25 = .ok (.iinc 3 1, 3) := by decide +kernel
theorem dX1_digest_28 : decode cX1_digest 28 = .ok (.goto (-22), 3) := by decide +kernel
theorem dX1_digest_31 : decode cX1_digest 31 = .ok (.iconst 0, 1) := by decide +kernel
theorem dX1_digest_32 : decode cX1_digest 32 = .ok (.istore_n 3, 1) := by decide +kernel
theorem dX1_digest_33 : decode cX1_digest 33 = .ok (.iload_n 3, 1) := by decide +kernel
theorem dX1_digest_34 : decode cX1_digest 34 = .ok (.aload_n 0, 1) := by decide +kernel
theorem dX1_digest_35 : decode cX1_digest 35 = .ok (.getfield 29, 3) := by decide +kernel
theorem dX1_digest_38 : decode cX1_digest 38 = .ok (.getfield 108, 3) := by decide +kernel
theorem dX1_digest_41 : decode cX1_digest 41 = .ok (.if_icmp .ge 43, 3) := by decide +kernel
theorem dX1_digest_44 : decode cX1_digest 44 = .ok (.iconst 0, 1) := by decide +kernel
theorem dX1_digest_45 : decode cX1_digest 45 = .ok (.istore 4, 2) := by decide +kernel
theorem dX1_digest_47 : decode cX1_digest 47 = .ok (.iload 4, 2) := by decide +kernel
theorem dX1_digest_49 : decode cX1_digest 49 = .ok (.bipush 7, 2) := by decide +kernel
theorem dX1_digest_51 : decode cX1_digest 51 = .ok (.if_icmp .ge 27, 3) := by decide +kernel
theorem dX1_digest_54 : decode cX1_digest 54 = .ok (.ldc2_w 229, 3) := by decide +kernel
theorem dX1_digest_57 : decode cX1_digest 57 = .ok (.lload_n 1, 1) := by decide +kernel
theorem dX1_digest_58 : decode cX1_digest 58 = .ok (.lmul, 1) := by decide +kernel
theorem dX1_digest_59 : decode cX1_digest 59 = .ok (.aload_n 0, 1) := by decide +kernel
theorem dX1_digest_60 : decode cX1_digest 60 = .ok (.getfield 29, 3) := by decide +kernel
theorem dX1_digest_63 : decode cX1_digest 63 = .ok (.iload_n 3, 1) := by decide +kernel
theorem dX1_digest_64 : decode cX1_digest 64 = .ok (.iload 4, 2) := by decide +kernel
theorem dX1_digest_66 : decode cX1_digest 66 = .ok (.invokevirtual 117, 3) := by decide +kernel
theorem dX1_digest_69 : decode cX1_digest 69 = .ok (.i2l, 1) := by decide +kernel
theorem dX1_digest_70 : decode cX1_digest 70 = .ok (.ladd, 1) := by decide +kernel
theorem dX1_digest_71 : decode cX1_digest 71 = .ok (.lstore_n 1, 1) := by decide +kernel
theorem dX1_digest_72 : decode cX1_digest 72 = .ok (.iinc 4 1, 3) := by decide +kernel
theorem dX1_digest_75 : decode cX1_digest 75 = .ok (.goto (-28), 3) := by decide +kernel
theorem dX1_digest_78 : decode cX1_digest 78 = .ok (.iinc 3 1, 3) := by decide +kernel
theorem dX1_digest_81 : decode cX1_digest 81 = .ok (.goto (-48), 3) := by decide +kernel
theorem dX1_digest_84 : decode cX1_digest 84 = .ok (.iconst 0, 1) := by decide +kernel
theorem dX1_digest_85 : decode cX1_digest 85 = .ok (.istore_n 3, 1) := by decide +kernel
theorem dX1_digest_86 : decode cX1_digest 86 = .ok (.iload_n 3, 1) := by decide +kernel
theorem dX1_digest_87 : decode cX1_digest 87 = .ok (.iconst 3, 1) := by decide +kernel
theorem dX1_digest_88 : decode cX1_digest 88 = .ok (.if_icmp .ge 23, 3) := by decide +kernel
theorem dX1_digest_91 : decode cX1_digest 91 = .ok (.ldc2_w 229, 3) := by decide +kernel
theorem dX1_digest_94 : decode cX1_digest 94 = .ok (.lload_n 1, 1) := by decide +kernel
theorem dX1_digest_95 : decode cX1_digest 95 = .ok (.lmul, 1) := by decide +kernel
theorem dX1_digest_96 : decode cX1_digest 96 = .ok (.aload_n 0, 1) := by decide +kernel
theorem dX1_digest_97 : decode cX1_digest 97 = .ok (.getfield 46, 3) := by decide +kernel
theorem dX1_digest_100 : decode cX1_digest 100 = .ok (.iload_n 3, 1) := by decide +kernel
theorem dX1_digest_101 : decode cX1_digest 101 = .ok (.iaload, 1) := by decide +kernel
theorem dX1_digest_102 : decode cX1_digest 102 = .ok (.i2l, 1) := by decide +kernel
theorem dX1_digest_103 : decode cX1_digest 103 = .ok (.ladd, 1) := by decide +kernel
theorem dX1_digest_104 : decode cX1_digest 104 = .ok (.lstore_n 1, 1) := by decide +kernel
theorem dX1_digest_105 : decode cX1_digest 105 = .ok (.iinc 3 1, 3) := by decide +kernel
theorem dX1_digest_108 : decode cX1_digest 108 = .ok (.goto (-22), 3) := by decide +kernel
theorem dX1_digest_111 : decode cX1_digest 111 = .ok (.iconst 0, 1) := by decide +kernel
theorem dX1_digest_112 : decode cX1_digest 112 = .ok (.istore_n 3, 1) := by decide +kernel
theorem dX1_digest_113 : decode cX1_digest 113 = .ok (.iload_n 3, 1) := by decide +kernel
theorem dX1_digest_114 : decode cX1_digest 114 = .ok (.bipush 6, 2) := by decide +kernel
theorem dX1_digest_116 : decode cX1_digest 116 = .ok (.if_icmp .ge 60, 3) := by decide +kernel
theorem dX1_digest_119 : decode cX1_digest 119 = .ok (.ldc2_w 229, 3) := by decide +kernel
theorem dX1_digest_122 : decode cX1_digest 122 = .ok (.lload_n 1, 1) := by decide +kernel
theorem dX1_digest_123 : decode cX1_digest 123 = .ok (.lmul, 1) := by decide +kernel
theorem dX1_digest_124 : decode cX1_digest 124 = .ok (.aload_n 0, 1) := by decide +kernel
theorem dX1_digest_125 : decode cX1_digest 125 = .ok (.getfield 14, 3) := by decide +kernel
theorem dX1_digest_128 : decode cX1_digest 128 = .ok (.iload_n 3, 1) := by decide +kernel
theorem dX1_digest_129 : decode cX1_digest 129 = .ok (.iaload, 1) := by decide +kernel
theorem dX1_digest_130 : decode cX1_digest 130 = .ok (.i2l, 1) := by decide +kernel
theorem dX1_digest_131 : decode cX1_digest 131 = .ok (.ladd, 1) := by decide +kernel
theorem dX1_digest_132 : decode cX1_digest 132 = .ok (.lstore_n 1, 1) := by decide +kernel
theorem dX1_digest_133 : decode cX1_digest 133 = .ok (.iconst 0, 1) := by decide +kernel
theorem dX1_digest_134 : decode cX1_digest 134 = .ok (.istore 4, 2) := by decide +kernel
theorem dX1_digest_136 : decode cX1_digest 136 = .ok (.iload 4, 2) := by decide +kernel
theorem dX1_digest_138 : decode cX1_digest 138 = .ok (.aload_n 0, 1) := by decide +kernel
theorem dX1_digest_139 : decode cX1_digest 139 = .ok (.getfield 14, 3) := by decide +kernel
theorem dX1_digest_142 : decode cX1_digest 142 = .ok (.iload_n 3, 1) := by decide +kernel
theorem dX1_digest_143 : decode cX1_digest 143 = .ok (.iaload, 1) := by decide +kernel
theorem dX1_digest_144 : decode cX1_digest 144 = .ok (.if_icmp .ge 26, 3) := by decide +kernel
theorem dX1_digest_147 : decode cX1_digest 147 = .ok (.ldc2_w 229, 3) := by decide +kernel
theorem dX1_digest_150 : decode cX1_digest 150 = .ok (.lload_n 1, 1) := by decide +kernel
theorem dX1_digest_151 : decode cX1_digest 151 = .ok (.lmul, 1) := by decide +kernel
theorem dX1_digest_152 : decode cX1_digest 152 = .ok (.aload_n 0, 1) := by decide +kernel
theorem dX1_digest_153 : decode cX1_digest 153 = .ok (.getfield 11, 3) := by decide +kernel
theorem dX1_digest_156 : decode cX1_digest 156 = .ok (.iload_n 3, 1) := by decide +kernel
theorem dX1_digest_157 : decode cX1_digest 157 = .ok (.aaload, 1) := by decide +kernel
theorem dX1_digest_158 : decode cX1_digest 158 = .ok (.iload 4, 2) := by decide +kernel
theorem dX1_digest_160 : decode cX1_digest 160 = .ok (.iaload, 1) := by decide +kernel
theorem dX1_digest_161 : decode cX1_digest 161 = .ok (.i2l, 1) := by decide +kernel
theorem dX1_digest_162 : decode cX1_digest 162 = .ok (.ladd, 1) := by decide +kernel
theorem dX1_digest_163 : decode cX1_digest 163 = .ok (.lstore_n 1, 1) := by decide +kernel
theorem dX1_digest_164 : decode cX1_digest 164 = .ok (.iinc 4 1, 3) := by decide +kernel
theorem dX1_digest_167 : decode cX1_digest 167 = .ok (.goto (-31), 3) := by decide +kernel
theorem dX1_digest_170 : decode cX1_digest 170 = .ok (.iinc 3 1, 3) := by decide +kernel
theorem dX1_digest_173 : decode cX1_digest 173 = .ok (.goto (-60), 3) := by decide +kernel
theorem dX1_digest_176 : decode cX1_digest 176 = .ok (.iconst 0, 1) := by decide +kernel
theorem dX1_digest_177 : decode cX1_digest 177 = .ok (.istore_n 3, 1) := by decide +kernel
theorem dX1_digest_178 : decode cX1_digest 178 = .ok (.iload_n 3, 1) := by decide +kernel
theorem dX1_digest_179 : decode cX1_digest 179 = .ok (.iconst 4, 1) := by decide +kernel
theorem dX1_digest_180 : decode cX1_digest 180 = .ok (.if_icmp .ge 60, 3) := by decide +kernel
theorem dX1_digest_183 : decode cX1_digest 183 = .ok (.ldc2_w 229, 3) := by decide +kernel
theorem dX1_digest_186 : decode cX1_digest 186 = .ok (.lload_n 1, 1) := by decide +kernel
theorem dX1_digest_187 : decode cX1_digest 187 = .ok (.lmul, 1) := by decide +kernel
theorem dX1_digest_188 : decode cX1_digest 188 = .ok (.aload_n 0, 1) := by decide +kernel
theorem dX1_digest_189 : decode cX1_digest 189 = .ok (.getfield 23, 3) := by decide +kernel
theorem dX1_digest_192 : decode cX1_digest 192 = .ok (.iload_n 3, 1) := by decide +kernel
theorem dX1_digest_193 : decode cX1_digest 193 = .ok (.iaload, 1) := by decide +kernel
theorem dX1_digest_194 : decode cX1_digest 194 = .ok (.i2l, 1) := by decide +kernel
theorem dX1_digest_195 : decode cX1_digest 195 = .ok (.ladd, 1) := by decide +kernel
theorem dX1_digest_196 : decode cX1_digest 196 = .ok (.lstore_n 1, 1) := by decide +kernel
theorem dX1_digest_197 : decode cX1_digest 197 = .ok (.iconst 0, 1) := by decide +kernel
theorem dX1_digest_198 : decode cX1_digest 198 = .ok (.istore 4, 2) := by decide +kernel
theorem dX1_digest_200 : decode cX1_digest 200 = .ok (.iload 4, 2) := by decide +kernel
theorem dX1_digest_202 : decode cX1_digest 202 = .ok (.aload_n 0, 1) := by decide +kernel
theorem dX1_digest_203 : decode cX1_digest 203 = .ok (.getfield 23, 3) := by decide +kernel
theorem dX1_digest_206 : decode cX1_digest 206 = .ok (.iload_n 3, 1) := by decide +kernel
theorem dX1_digest_207 : decode cX1_digest 207 = .ok (.iaload, 1) := by decide +kernel
theorem dX1_digest_208 : decode cX1_digest 208 = .ok (.if_icmp .ge 26, 3) := by decide +kernel
theorem dX1_digest_211 : decode cX1_digest 211 = .ok (.ldc2_w 229, 3) := by decide +kernel
theorem dX1_digest_214 : decode cX1_digest 214 = .ok (.lload_n 1, 1) := by decide +kernel
theorem dX1_digest_215 : decode cX1_digest 215 = .ok (.lmul, 1) := by decide +kernel
theorem dX1_digest_216 : decode cX1_digest 216 = .ok (.aload_n 0, 1) := by decide +kernel
theorem dX1_digest_217 : decode cX1_digest 217 = .ok (.getfield 20, 3) := by decide +kernel
theorem dX1_digest_220 : decode cX1_digest 220 = .ok (.iload_n 3, 1) := by decide +kernel
theorem dX1_digest_221 : decode cX1_digest 221 = .ok (.aaload, 1) := by decide +kernel
theorem dX1_digest_222 : decode cX1_digest 222 = .ok (.iload 4, 2) := by decide +kernel
theorem dX1_digest_224 : decode cX1_digest 224 = .ok (.baload, 1) := by decide +kernel
theorem dX1_digest_225 : decode cX1_digest 225 = .ok (.i2l, 1) := by decide +kernel
theorem dX1_digest_226 : decode cX1_digest 226 = .ok (.ladd, 1) := by decide +kernel
theorem dX1_digest_227 : decode cX1_digest 227 = .ok (.lstore_n 1, 1) := by decide +kernel
theorem dX1_digest_228 : decode cX1_digest 228 = .ok (.iinc 4 1, 3) := by decide +kernel
theorem dX1_digest_231 : decode cX1_digest 231 = .ok (.goto (-31), 3) := by decide +kernel
theorem dX1_digest_234 : decode cX1_digest 234 = .ok (.iinc 3 1, 3) := by decide +kernel
theorem dX1_digest_237 : decode cX1_digest 237 = .ok (.goto (-59), 3) := by decide +kernel
theorem dX1_digest_240 : decode cX1_digest 240 = .ok (.lload_n 1, 1) := by decide +kernel
theorem dX1_digest_241 : decode cX1_digest 241 = .ok (.lreturn, 1) := by decide +kernel
theorem dX1_refuse_0 : decode cX1_refuse 0 = .ok (.iload_n 1, 1) := by decide +kernel
theorem dX1_refuse_1 : decode cX1_refuse 1 = .ok (.iconst 1, 1) := by decide +kernel
theorem dX1_refuse_2 : decode cX1_refuse 2 = .ok (.iconst 5, 1) := by decide +kernel
theorem dX1_refuse_3 : decode cX1_refuse 3 = .ok (.invokestatic 114, 3) := by decide +kernel
theorem dX1_refuse_6 : decode cX1_refuse 6 = .ok (.ifCond .eq 18, 3) := by decide +kernel
theorem dX1_refuse_9 : decode cX1_refuse 9 = .ok (.aload_n 0, 1) := by decide +kernel
theorem dX1_refuse_10 : decode cX1_refuse 10 = .ok (.iload_n 1, 1) := by decide +kernel
theorem dX1_refuse_11 : decode cX1_refuse 11 = .ok (.putfield 55, 3) := by decide +kernel
theorem dX1_refuse_14 : decode cX1_refuse 14 = .ok (.aload_n 0, 1) := by decide +kernel
theorem dX1_refuse_15 : decode cX1_refuse 15 = .ok (.getfield 52, 3) := by decide +kernel
theorem dX1_refuse_18 : decode cX1_refuse 18 = .ok (.iload_n 1, 1) := by decide +kernel
theorem dX1_refuse_19 : decode cX1_refuse 19 = .ok (.dup2, 1) := by decide +kernel
theorem dX1_refuse_20 : decode cX1_refuse 20 = .ok (.iaload, 1) := by decide +kernel
theorem dX1_refuse_21 : decode cX1_refuse 21 = .ok (.iconst 1, 1) := by decide +kernel
theorem dX1_refuse_22 : decode cX1_refuse 22 = .ok (.iadd, 1) := by decide +kernel
theorem dX1_refuse_23 : decode cX1_refuse 23 = .ok (.iastore, 1) := by decide +kernel
theorem dX1_refuse_24 : decode cX1_refuse 24 = .ok (.bipush (-3), 2) := by decide +kernel
theorem dX1_refuse_26 : decode cX1_refuse 26 = .ok (.ireturn, 1) := by decide +kernel
theorem dX1_isWithin_0 : decode cX1_isWithin 0 = .ok (.iload_n 0, 1) := by decide +kernel
theorem dX1_isWithin_1 : decode cX1_isWithin 1 = .ok (.iload_n 1, 1) := by decide +kernel
theorem dX1_isWithin_2 : decode cX1_isWithin 2 = .ok (.if_icmp .lt 12, 3) := by decide +kernel
theorem dX1_isWithin_5 : decode cX1_isWithin 5 = .ok (.iload_n 0, 1) := by decide +kernel
theorem dX1_isWithin_6 : decode cX1_isWithin 6 = .ok (.iload_n 2, 1) := by decide +kernel
theorem dX1_isWithin_7 : decode cX1_isWithin 7 = .ok (.if_icmp .gt 7, 3) := by decide +kernel
theorem dX1_isWithin_10 : decode cX1_isWithin 10 = .ok (.iconst 1, 1) := by decide +kernel
theorem dX1_isWithin_11 : decode cX1_isWithin 11 = .ok (.goto 4, 3) := by decide +kernel
theorem dX1_isWithin_14 : decode cX1_isWithin 14 = .ok (.iconst 0, 1) := by decide +kernel
theorem dX1_isWithin_15 : decode cX1_isWithin 15 = .ok (.ireturn, 1) := by decide +kernel
theorem dX1_isRow_0 : decode cX1_isRow 0 = .ok (.iload_n 0, 1) := by decide +kernel
theorem dX1_isRow_1 : decode cX1_isRow 1 = .ok (.iconst 0, 1) := by decide +kernel
theorem dX1_isRow_2 : decode cX1_isRow 2 = .ok (.iconst 5, 1) := by decide +kernel
theorem dX1_isRow_3 : decode cX1_isRow 3 = .ok (.invokestatic 114, 3) := by decide +kernel
theorem dX1_isRow_6 : decode cX1_isRow 6 = .ok (.ireturn, 1) := by decide +kernel
theorem dX1_isText_0 : decode cX1_isText 0 = .ok (.iload_n 0, 1) := by decide +kernel
theorem dX1_isText_1 : decode cX1_isText 1 = .ok (.iconst 0, 1) := by decide +kernel
theorem dX1_isText_2 : decode cX1_isText 2 = .ok (.iconst 3, 1) := by decide +kernel
theorem dX1_isText_3 : decode cX1_isText 3 = .ok (.invokestatic 114, 3) := by decide +kernel
theorem dX1_isText_6 : decode cX1_isText 6 = .ok (.ireturn, 1) := by decide +kernel
theorem dX1_isPlaceToKeep_0 : decode cX1_isPlaceToKeep 0 = .ok (.iload_n 0, 1) := by decide +kernel
theorem dX1_isPlaceToKeep_1 : decode cX1_isPlaceToKeep 1 = .ok (.iconst 0, 1) := by decide +kernel
theorem dX1_isPlaceToKeep_2 : decode cX1_isPlaceToKeep 2 = .ok (.iconst 2, 1) := by decide +kernel
theorem dX1_isPlaceToKeep_3 : decode cX1_isPlaceToKeep 3 = .ok (.invokestatic 114, 3) := by decide +kernel
theorem dX1_isPlaceToKeep_6 : decode cX1_isPlaceToKeep 6 = .ok (.ireturn, 1) := by decide +kernel
theorem dX1_lookForPlace_0 : decode cX1_lookForPlace 0 = .ok (.iload_n 1, 1) := by decide +kernel
theorem dX1_lookForPlace_1 : decode cX1_lookForPlace 1 = .ok (.iconst (-1), 1) := by decide +kernel
theorem dX1_lookForPlace_2 : decode cX1_lookForPlace 2 = .ok (.if_icmp .ne 5, 3) := by decide +kernel
theorem dX1_lookForPlace_5 : decode cX1_lookForPlace 5 = .ok (.iconst 1, 1) := by decide +kernel
theorem dX1_lookForPlace_6 : decode cX1_lookForPlace 6 = .ok (.ireturn, 1) := by decide +kernel
theorem dX1_lookForPlace_7 : decode cX1_lookForPlace 7 = .ok (.iload_n 0, 1) := by decide +kernel
theorem dX1_lookForPlace_8 : decode cX1_lookForPlace 8 = .ok (.ifCond .lt 8, 3) := by decide +kernel
theorem dX1_lookForPlace_11 : decode cX1_lookForPlace 11 = .ok (.iload_n 0, 1) := by decide +kernel
theorem dX1_lookForPlace_12 : decode cX1_lookForPlace 12 = .ok (.iload_n 1, 1) := by decide +kernel
theorem dX1_lookForPlace_13 : decode cX1_lookForPlace 13 = .ok (.if_icmp .lt 7, 3) := by decide +kernel
theorem dX1_lookForPlace_16 : decode cX1_lookForPlace 16 = .ok (.iconst 2, 1) := by decide +kernel
theorem dX1_lookForPlace_17 : decode cX1_lookForPlace 17 = .ok (.goto 4, 3) := by decide +kernel
theorem dX1_lookForPlace_20 : decode cX1_lookForPlace 20 = .ok (.iconst 0, 1) := by decide +kernel
theorem dX1_lookForPlace_21 : decode cX1_lookForPlace 21 = .ok (.ireturn, 1) := by decide +kernel
theorem dX1_hasPlaces_0 : decode cX1_hasPlaces 0 = .ok (.iload_n 0, 1) := by decide +kernel
theorem dX1_hasPlaces_1 : decode cX1_hasPlaces 1 = .ok (.ifCond .lt 14, 3) := by decide +kernel
theorem dX1_hasPlaces_4 : decode cX1_hasPlaces 4 = .ok (.iload_n 0, 1) := by decide +kernel
theorem dX1_hasPlaces_5 : decode cX1_hasPlaces 5 = .ok (.iload_n 2, 1) := by decide +kernel
theorem dX1_hasPlaces_6 : decode cX1_hasPlaces 6 = .ok (.iload_n 1, 1) := by decide +kernel
theorem dX1_hasPlaces_7 : decode cX1_hasPlaces 7 = .ok (.isub, 1) := by decide +kernel
theorem dX1_hasPlaces_8 : decode cX1_hasPlaces 8 = .ok (.if_icmp .gt 7, 3) := by decide +kernel
theorem dX1_hasPlaces_11 : decode cX1_hasPlaces 11 = .ok (.iconst 1, 1) := by decide +kernel
theorem dX1_hasPlaces_12 : decode cX1_hasPlaces 12 = .ok (.goto 4, 3) := by decide +kernel
theorem dX1_hasPlaces_15 : decode cX1_hasPlaces 15 = .ok (.iconst 0, 1) := by decide +kernel
theorem dX1_hasPlaces_16 : decode cX1_hasPlaces 16 = .ok (.ireturn, 1) := by decide +kernel
theorem dX1_lookThroughHeard_0 : decode cX1_lookThroughHeard 0 = .ok (.aload_n 0, 1) := by decide +kernel
theorem dX1_lookThroughHeard_1 : decode cX1_lookThroughHeard 1 = .ok (.getfield 14, 3) := by decide +kernel
theorem dX1_lookThroughHeard_4 : decode cX1_lookThroughHeard 4 = .ok (.iload_n 1, 1) := by decide +kernel
theorem dX1_lookThroughHeard_5 : decode cX1_lookThroughHeard 5 = .ok (.iaload, 1) := by decide +kernel
theorem dX1_lookThroughHeard_6 : decode cX1_lookThroughHeard 6 = .ok (.istore_n 2, 1) := by decide +kernel
theorem dX1_lookThroughHeard_7 : decode cX1_lookThroughHeard 7 = .ok (.iload_n 2, 1) := by decide +kernel
theorem dX1_lookThroughHeard_8 : decode cX1_lookThroughHeard 8 = .ok (.iconst (-1), 1) := by decide +kernel
theorem dX1_lookThroughHeard_9 : decode cX1_lookThroughHeard 9 = .ok (.if_icmp .ne 5, 3) := by decide +kernel
theorem dX1_lookThroughHeard_12 : decode cX1_lookThroughHeard 12 = .ok (.iconst 1, 1) := by decide +kernel
theorem dX1_lookThroughHeard_13 : decode cX1_lookThroughHeard 13 = .ok (.ireturn, 1) := by decide +kernel
theorem dX1_lookThroughHeard_14 : decode cX1_lookThroughHeard 14 = .ok (.iload_n 2, 1) := by decide +kernel
theorem dX1_lookThroughHeard_15 : decode cX1_lookThroughHeard 15 = .ok (.iconst 1, 1) := by decide +kernel
theorem dX1_lookThroughHeard_16 : decode cX1_lookThroughHeard 16 = .ok (.bipush 20, 2) := by decide +kernel
theorem dX1_lookThroughHeard_18 : decode cX1_lookThroughHeard 18 = .ok (.invokestatic 114, 3) := by decide +kernel
theorem dX1_lookThroughHeard_21 : decode cX1_lookThroughHeard 21 = .ok (.ifCond .ne 5, 3) := by decide +kernel
theorem dX1_lookThroughHeard_24 : decode cX1_lookThroughHeard 24 = .ok (.iconst 5, 1) := by decide +kernel
theorem dX1_lookThroughHeard_25 : decode cX1_lookThroughHeard 25 = .ok (.ireturn, 1) := by decide +kernel
theorem dX1_lookThroughHeard_26 : decode cX1_lookThroughHeard 26 = .ok (.iconst 0, 1) := by decide +kernel
theorem dX1_lookThroughHeard_27 : decode cX1_lookThroughHeard 27 = .ok (.istore_n 3, 1) := by decide +kernel
theorem dX1_lookThroughHeard_28 : decode cX1_lookThroughHeard 28 = .ok (.iload_n 3, 1) := by decide +kernel
theorem dX1_lookThroughHeard_29 : decode cX1_lookThroughHeard 29 = .ok (.iload_n 2, 1) := by decide +kernel
theorem dX1_lookThroughHeard_30 : decode cX1_lookThroughHeard 30 = .ok (.if_icmp .ge 27, 3) := by decide +kernel
theorem dX1_lookThroughHeard_33 : decode cX1_lookThroughHeard 33 = .ok (.aload_n 0, 1) := by decide +kernel
theorem dX1_lookThroughHeard_34 : decode cX1_lookThroughHeard 34 = .ok (.getfield 11, 3) := by decide +kernel
theorem dX1_lookThroughHeard_37 : decode cX1_lookThroughHeard 37 = .ok (.iload_n 1, 1) := by decide +kernel
theorem dX1_lookThroughHeard_38 : decode cX1_lookThroughHeard 38 = .ok (.aaload, 1) := by decide +kernel
theorem dX1_lookThroughHeard_39 : decode cX1_lookThroughHeard 39 = .ok (.iload_n 3, 1) := by decide +kernel
theorem dX1_lookThroughHeard_40 : decode cX1_lookThroughHeard 40 = .ok (.iaload, 1) := by decide +kernel
theorem dX1_lookThroughHeard_41 : decode cX1_lookThroughHeard 41 = .ok (.iconst 0, 1) := by decide +kernel
theorem dX1_lookThroughHeard_42 : decode cX1_lookThroughHeard 42 = .ok (.iconst 1, 1) := by decide +kernel
theorem dX1_lookThroughHeard_43 : decode cX1_lookThroughHeard 43 = .ok (.invokestatic 114, 3) := by decide +kernel
theorem dX1_lookThroughHeard_46 : decode cX1_lookThroughHeard 46 = .ok (.ifCond .ne 5, 3) := by decide +kernel
theorem dX1_lookThroughHeard_49 : decode cX1_lookThroughHeard 49 = .ok (.iconst 3, 1) := by decide +kernel
theorem dX1_lookThroughHeard_50 : decode cX1_lookThroughHeard 50 = .ok (.ireturn, 1) := by decide +kernel
theorem dX1_lookThroughHeard_51 : decode cX1_lookThroughHeard 51 = .ok (.iinc 3 1, 3) := by decide +kernel
theorem dX1_lookThroughHeard_54 : decode cX1_lookThroughHeard 54 = .ok (.goto (-26), 3) := by decide +kernel
theorem dX1_lookThroughHeard_57 : decode cX1_lookThroughHeard 57 = .ok (.iconst 0, 1) := by decide +kernel
theorem dX1_lookThroughHeard_58 : decode cX1_lookThroughHeard 58 = .ok (.ireturn, 1) := by decide +kernel
theorem dX1_makeRow_0 : decode cX1_makeRow 0 = .ok (.iconst 0, 1) := by decide +kernel
theorem dX1_makeRow_1 : decode cX1_makeRow 1 = .ok (.istore_n 3, 1) := by decide +kernel
theorem dX1_makeRow_2 : decode cX1_makeRow 2 = .ok (.iload_n 3, 1) := by decide +kernel
theorem dX1_makeRow_3 : decode cX1_makeRow 3 = .ok (.iload_n 2, 1) := by decide +kernel
theorem dX1_makeRow_4 : decode cX1_makeRow 4 = .ok (.if_icmp .ge 18, 3) := by decide +kernel
theorem dX1_makeRow_7 : decode cX1_makeRow 7 = .ok (.aload_n 0, 1) := by decide +kernel
theorem dX1_makeRow_8 : decode cX1_makeRow 8 = .ok (.getfield 11, 3) := by decide +kernel
theorem dX1_makeRow_11 : decode cX1_makeRow 11 = .ok (.iload_n 1, 1) := by decide +kernel
theorem dX1_makeRow_12 : decode cX1_makeRow 12 = .ok (.aaload, 1) := by decide +kernel
theorem dX1_makeRow_13 : decode cX1_makeRow 13 = .ok (.iload_n 3, 1) := by decide +kernel
theorem dX1_makeRow_14 : decode cX1_makeRow 14 = .ok (.iconst 0, 1) := by decide +kernel
theorem dX1_makeRow_15 : decode cX1_makeRow 15 = .ok (.iastore, 1) := by decide +kernel
theorem dX1_makeRow_16 : decode cX1_makeRow 16 = .ok (.iinc 3 1, 3) := by decide +kernel
theorem dX1_makeRow_19 : decode cX1_makeRow 19 = .ok (.goto (-17), 3) := by decide +kernel
theorem dX1_makeRow_22 : decode cX1_makeRow 22 = .ok (.aload_n 0, 1) := by decide +kernel
theorem dX1_makeRow_23 : decode cX1_makeRow 23 = .ok (.getfield 14, 3) := by decide +kernel
theorem dX1_makeRow_26 : decode cX1_makeRow 26 = .ok (.iload_n 1, 1) := by decide +kernel
theorem dX1_makeRow_27 : decode cX1_makeRow 27 = .ok (.iload_n 2, 1) := by decide +kernel
theorem dX1_makeRow_28 : decode cX1_makeRow 28 = .ok (.iastore, 1) := by decide +kernel
theorem dX1_makeRow_29 : decode cX1_makeRow 29 = .ok (.return_, 1) := by decide +kernel
theorem dX1_hasRoomFor_0 : decode cX1_hasRoomFor 0 = .ok (.aload_n 0, 1) := by decide +kernel
theorem dX1_hasRoomFor_1 : decode cX1_hasRoomFor 1 = .ok (.getfield 39, 3) := by decide +kernel
theorem dX1_hasRoomFor_4 : decode cX1_hasRoomFor 4 = .ok (.iload_n 1, 1) := by decide +kernel
theorem dX1_hasRoomFor_5 : decode cX1_hasRoomFor 5 = .ok (.iadd, 1) := by decide +kernel
theorem dX1_hasRoomFor_6 : decode cX1_hasRoomFor 6 = .ok (.bipush 40, 2) := by decide +kernel
theorem dX1_hasRoomFor_8 : decode cX1_hasRoomFor 8 = .ok (.if_icmp .gt 7, 3) := by decide +kernel
theorem dX1_hasRoomFor_11 : decode cX1_hasRoomFor 11 = .ok (.iconst 1, 1) := by decide +kernel
theorem dX1_hasRoomFor_12 : decode cX1_hasRoomFor 12 = .ok (.goto 4, 3) := by decide +kernel
theorem dX1_hasRoomFor_15 : decode cX1_hasRoomFor 15 = .ok (.iconst 0, 1) := by decide +kernel
theorem dX1_hasRoomFor_16 : decode cX1_hasRoomFor 16 = .ok (.ireturn, 1) := by decide +kernel
theorem dX1_addDeed_0 : decode cX1_addDeed 0 = .ok (.aload_n 0, 1) := by decide +kernel
theorem dX1_addDeed_1 : decode cX1_addDeed 1 = .ok (.iconst 1, 1) := by decide +kernel
theorem dX1_addDeed_2 : decode cX1_addDeed 2 = .ok (.invokevirtual 130, 3) := by decide +kernel
theorem dX1_addDeed_5 : decode cX1_addDeed 5 = .ok (.ifCond .ne 4, 3) := by decide +kernel
theorem dX1_addDeed_8 : decode cX1_addDeed 8 = .ok (.return_, 1) := by decide +kernel
theorem dX1_addDeed_9 : decode cX1_addDeed 9 = .ok (.iload_n 1, 1) := by decide +kernel
theorem dX1_addDeed_10 : decode cX1_addDeed 10 = .ok (.bipush 12, 2) := by decide +kernel
theorem dX1_addDeed_12 : decode cX1_addDeed 12 = .ok (.ishl, 1) := by decide +kernel
theorem dX1_addDeed_13 : decode cX1_addDeed 13 = .ok (.iload_n 2, 1) := by decide +kernel
theorem dX1_addDeed_14 : decode cX1_addDeed 14 = .ok (.bipush 9, 2) := by decide +kernel
theorem dX1_addDeed_16 : decode cX1_addDeed 16 = .ok (.ishl, 1) := by decide +kernel
theorem dX1_addDeed_17 : decode cX1_addDeed 17 = .ok (.ior, 1) := by decide +kernel
theorem dX1_addDeed_18 : decode cX1_addDeed 18 = .ok (.iload_n 3, 1) := by decide +kernel
theorem dX1_addDeed_19 : decode cX1_addDeed 19 = .ok (.ior, 1) := by decide +kernel
theorem dX1_addDeed_20 : decode cX1_addDeed 20 = .ok (.istore 4, 2) := by decide +kernel
theorem dX1_addDeed_22 : decode cX1_addDeed 22 = .ok (.aload_n 0, 1) := by decide +kernel
theorem dX1_addDeed_23 : decode cX1_addDeed 23 = .ok (.getfield 36, 3) := by decide +kernel
theorem dX1_addDeed_26 : decode cX1_addDeed 26 = .ok (.aload_n 0, 1) := by decide +kernel
theorem dX1_addDeed_27 : decode cX1_addDeed 27 = .ok (.getfield 39, 3) := by decide +kernel
theorem dX1_addDeed_30 : decode cX1_addDeed 30 = .ok (.iload 4, 2) := by decide +kernel
theorem dX1_addDeed_32 : decode cX1_addDeed 32 = .ok (.iastore, 1) := by decide +kernel
theorem dX1_addDeed_33 : decode cX1_addDeed 33 = .ok (.aload_n 0, 1) := by decide +kernel
theorem dX1_addDeed_34 : decode cX1_addDeed 34 = .ok (.dup, 1) := by decide +kernel
theorem dX1_addDeed_35 : decode cX1_addDeed 35 = .ok (.getfield 39, 3) := by decide +kernel
theorem dX1_addDeed_38 : decode cX1_addDeed 38 = .ok (.iconst 1, 1) := by decide +kernel
theorem dX1_addDeed_39 : decode cX1_addDeed 39 = .ok (.iadd, 1) := by decide +kernel
theorem dX1_addDeed_40 : decode cX1_addDeed 40 = .ok (.putfield 39, 3) := by decide +kernel
theorem dX1_addDeed_43 : decode cX1_addDeed 43 = .ok (.aload_n 0, 1) := by decide +kernel
theorem dX1_addDeed_44 : decode cX1_addDeed 44 = .ok (.iload 4, 2) := by decide +kernel
theorem dX1_addDeed_46 : decode cX1_addDeed 46 = .ok (.invokevirtual 231, 3) := by decide +kernel
theorem dX1_addDeed_49 : decode cX1_addDeed 49 = .ok (.return_, 1) := by decide +kernel
theorem dX1_perform_0 : decode cX1_perform 0 = .ok (.iload_n 1, 1) := by decide +kernel
theorem dX1_perform_1 : decode cX1_perform 1 = .ok (.bipush 9, 2) := by decide +kernel
theorem dX1_perform_3 : decode cX1_perform 3 = .ok (.ishr, 1) := by decide +kernel
theorem dX1_perform_4 : decode cX1_perform 4 = .ok (.bipush 7, 2) := by decide +kernel
theorem dX1_perform_6 : decode cX1_perform 6 = .ok (.iand, 1) := by decide +kernel
theorem dX1_perform_7 : decode cX1_perform 7 = .ok (.istore_n 2, 1) := by decide +kernel
theorem dX1_perform_8 : decode cX1_perform 8 = .ok (.iload_n 1, 1) := by decide +kernel
theorem dX1_perform_9 : decode cX1_perform 9 = .ok (.sipush 511, 3) := by decide +kernel
theorem dX1_perform_12 : decode cX1_perform 12 = .ok (.iand, 1) := by decide +kernel
theorem dX1_perform_13 : decode cX1_perform 13 = .ok (.istore_n 3, 1) := by decide +kernel
theorem dX1_perform_14 : decode cX1_perform 14 = .ok (.iload_n 1, 1) := by decide +kernel
theorem dX1_perform_15 : decode cX1_perform 15 = .ok (.bipush 12, 2) := by decide +kernel
theorem dX1_perform_17 : decode cX1_perform 17 = .ok (.ishr, 1) := by decide +kernel
theorem dX1_perform_18 : decode cX1_perform 18 = .ok (.tableswitch 76 0 3 #[30, 40, 52, 64], 30) := by decide +kernel
theorem dX1_perform_48 : decode cX1_perform 48 = .ok (.aload_n 0, 1) := by decide +kernel
theorem dX1_perform_49 : decode cX1_perform 49 = .ok (.getfield 29, 3) := by decide +kernel
theorem dX1_perform_52 : decode cX1_perform 52 = .ok (.invokevirtual 234, 3) := by decide +kernel
theorem dX1_perform_55 : decode cX1_perform 55 = .ok (.goto 39, 3) := by decide +kernel
theorem dX1_perform_58 : decode cX1_perform 58 = .ok (.aload_n 0, 1) := by decide +kernel
theorem dX1_perform_59 : decode cX1_perform 59 = .ok (.getfield 29, 3) := by decide +kernel
theorem dX1_perform_62 : decode cX1_perform 62 = .ok (.iload_n 2, 1) := by decide +kernel
theorem dX1_perform_63 : decode cX1_perform 63 = .ok (.iload_n 3, 1) := by decide +kernel
theorem dX1_perform_64 : decode cX1_perform 64 = .ok (.invokevirtual 237, 3) := by decide +kernel
theorem dX1_perform_67 : decode cX1_perform 67 = .ok (.goto 27, 3) := by decide +kernel
theorem dX1_perform_70 : decode cX1_perform 70 = .ok (.aload_n 0, 1) := by decide +kernel
theorem dX1_perform_71 : decode cX1_perform 71 = .ok (.getfield 29, 3) := by decide +kernel
theorem dX1_perform_74 : decode cX1_perform 74 = .ok (.iload_n 2, 1) := by decide +kernel
theorem dX1_perform_75 : decode cX1_perform 75 = .ok (.iload_n 3, 1) := by decide +kernel
theorem dX1_perform_76 : decode cX1_perform 76 = .ok (.invokevirtual 186, 3) := by decide +kernel
theorem dX1_perform_79 : decode cX1_perform 79 = .ok (.goto 15, 3) := by decide +kernel
theorem dX1_perform_82 : decode cX1_perform 82 = .ok (.aload_n 0, 1) := by decide +kernel
theorem dX1_perform_83 : decode cX1_perform 83 = .ok (.getfield 29, 3) := by decide +kernel
theorem dX1_perform_86 : decode cX1_perform 86 = .ok (.iload_n 2, 1) := by decide +kernel
theorem dX1_perform_87 : decode cX1_perform 87 = .ok (.iload_n 3, 1) := by decide +kernel
theorem dX1_perform_88 : decode cX1_perform 88 = .ok (.invokevirtual 240, 3) := by decide +kernel
theorem dX1_perform_91 : decode cX1_perform 91 = .ok (.goto 3, 3) := by decide +kernel
theorem dX1_perform_94 : decode cX1_perform 94 = .ok (.return_, 1) := by decide +kernel
theorem dX1_doAgain_0 : decode cX1_doAgain 0 = .ok (.aload_n 0, 1) := by decide +kernel
theorem dX1_doAgain_1 : decode cX1_doAgain 1 = .ok (.getfield 29, 3) := by decide +kernel
theorem dX1_doAgain_4 : decode cX1_doAgain 4 = .ok (.invokevirtual 101, 3) := by decide +kernel
theorem dX1_doAgain_7 : decode cX1_doAgain 7 = .ok (.iconst 0, 1) := by decide +kernel
theorem dX1_doAgain_8 : decode cX1_doAgain 8 = .ok (.istore_n 1, 1) := by decide +kernel
theorem dX1_doAgain_9 : decode cX1_doAgain 9 = .ok (.iload_n 1, 1) := by decide +kernel
theorem dX1_doAgain_10 : decode cX1_doAgain 10 = .ok (.aload_n 0, 1) := by decide +kernel
theorem dX1_doAgain_11 : decode cX1_doAgain 11 = .ok (.getfield 39, 3) := by decide +kernel
theorem dX1_doAgain_14 : decode cX1_doAgain 14 = .ok (.if_icmp .ge 19, 3) := by decide +kernel
theorem dX1_doAgain_17 : decode cX1_doAgain 17 = .ok (.aload_n 0, 1) := by decide +kernel
theorem dX1_doAgain_18 : decode cX1_doAgain 18 = .ok (.aload_n 0, 1) := by decide +kernel
theorem dX1_doAgain_19 : decode cX1_doAgain 19 = .ok (.getfield 36, 3) := by decide +kernel
theorem dX1_doAgain_22 : decode cX1_doAgain 22 = .ok (.iload_n 1, 1) := by decide +kernel
theorem dX1_doAgain_23 : decode cX1_doAgain 23 = .ok (.iaload, 1) := by decide +kernel
theorem dX1_doAgain_24 : decode cX1_doAgain 24 = .ok (.invokevirtual 231, 3) := by decide +kernel
theorem dX1_doAgain_27 : decode cX1_doAgain 27 = .ok (.iinc 1 1, 3) := by decide +kernel
theorem dX1_doAgain_30 : decode cX1_doAgain 30 = .ok (.goto (-21), 3) := by decide +kernel
theorem dX1_doAgain_33 : decode cX1_doAgain 33 = .ok (.return_, 1) := by decide +kernel
theorem dX1_doByLot_0 : decode cX1_doByLot 0 = .ok (.aload_n 0, 1) := by decide +kernel
theorem dX1_doByLot_1 : decode cX1_doByLot 1 = .ok (.getfield 29, 3) := by decide +kernel
theorem dX1_doByLot_4 : decode cX1_doByLot 4 = .ok (.getfield 108, 3) := by decide +kernel
theorem dX1_doByLot_7 : decode cX1_doByLot 7 = .ok (.ifCond .gt 4, 3) := by decide +kernel
theorem dX1_doByLot_10 : decode cX1_doByLot 10 = .ok (.return_, 1) := by decide +kernel
theorem dX1_doByLot_11 : decode cX1_doByLot 11 = .ok (.iload_n 1, 1) := by decide +kernel
theorem dX1_doByLot_12 : decode cX1_doByLot 12 = .ok (.bipush 8, 2) := by decide +kernel
theorem dX1_doByLot_14 : decode cX1_doByLot 14 = .ok (.idiv, 1) := by decide +kernel
theorem dX1_doByLot_15 : decode cX1_doByLot 15 = .ok (.aload_n 0, 1) := by decide +kernel
theorem dX1_doByLot_16 : decode cX1_doByLot 16 = .ok (.getfield 29, 3) := by decide +kernel
theorem dX1_doByLot_19 : decode cX1_doByLot 19 = .ok (.getfield 108, 3) := by decide +kernel
theorem dX1_doByLot_22 : decode cX1_doByLot 22 = .ok (.irem, 1) := by decide +kernel
theorem dX1_doByLot_23 : decode cX1_doByLot 23 = .ok (.istore_n 2, 1) := by decide +kernel
theorem dX1_doByLot_24 : decode cX1_doByLot 24 = .ok (.aload_n 0, 1) := by decide +kernel
theorem dX1_doByLot_25 : decode cX1_doByLot 25 = .ok (.getfield 29, 3) := by decide +kernel
theorem dX1_doByLot_28 : decode cX1_doByLot 28 = .ok (.getfield 141, 3) := by decide +kernel
theorem dX1_doByLot_31 : decode cX1_doByLot 31 = .ok (.iload_n 2, 1) := by decide +kernel
theorem dX1_doByLot_32 : decode cX1_doByLot 32 = .ok (.iaload, 1) := by decide +kernel
theorem dX1_doByLot_33 : decode cX1_doByLot 33 = .ok (.istore_n 3, 1) := by decide +kernel
theorem dX1_doByLot_34 : decode cX1_doByLot 34 = .ok (.iload_n 1, 1) := by decide +kernel
theorem dX1_doByLot_35 : decode cX1_doByLot 35 = .ok (.bipush 8, 2) := by decide +kernel
theorem dX1_doByLot_37 : decode cX1_doByLot 37 = .ok (.irem, 1) := by decide +kernel
theorem dX1_doByLot_38 : decode cX1_doByLot 38 = .ok (.tableswitch 73 0 3 #[30, 50, 50, 50], 30) := by decide +kernel
theorem dX1_doByLot_68 : decode cX1_doByLot 68 = .ok (.aload_n 0, 1) := by decide +kernel
theorem dX1_doByLot_69 : decode cX1_doByLot 69 = .ok (.iconst 2, 1) := by decide +kernel
theorem dX1_doByLot_70 : decode cX1_doByLot 70 = .ok (.iload_n 2, 1) := by decide +kernel
theorem dX1_doByLot_71 : decode cX1_doByLot 71 = .ok (.iload_n 2, 1) := by decide +kernel
theorem dX1_doByLot_72 : decode cX1_doByLot 72 = .ok (.iconst 1, 1) := by decide +kernel
theorem dX1_doByLot_73 : decode cX1_doByLot 73 = .ok (.iadd, 1) := by decide +kernel
theorem dX1_doByLot_74 : decode cX1_doByLot 74 = .ok (.aload_n 0, 1) := by decide +kernel
theorem dX1_doByLot_75 : decode cX1_doByLot 75 = .ok (.getfield 29, 3) := by decide +kernel
theorem dX1_doByLot_78 : decode cX1_doByLot 78 = .ok (.getfield 108, 3) := by decide +kernel
theorem dX1_doByLot_81 : decode cX1_doByLot 81 = .ok (.irem, 1) := by decide +kernel
theorem dX1_doByLot_82 : decode cX1_doByLot 82 = .ok (.invokevirtual 133, 3) := by decide +kernel
theorem dX1_doByLot_85 : decode cX1_doByLot 85 = .ok (.goto 49, 3) := by decide +kernel
theorem dX1_doByLot_88 : decode cX1_doByLot 88 = .ok (.aload_n 0, 1) := by decide +kernel
theorem dX1_doByLot_89 : decode cX1_doByLot 89 = .ok (.iconst 1, 1) := by decide +kernel
theorem dX1_doByLot_90 : decode cX1_doByLot 90 = .ok (.iload_n 2, 1) := by decide +kernel
theorem dX1_doByLot_91 : decode cX1_doByLot 91 = .ok (.iload_n 3, 1) := by decide +kernel
theorem dX1_doByLot_92 : decode cX1_doByLot 92 = .ok (.ifCond .le 12, 3) := by decide +kernel
theorem dX1_doByLot_95 : decode cX1_doByLot 95 = .ok (.iload_n 1, 1) := by decide +kernel
theorem dX1_doByLot_96 : decode cX1_doByLot 96 = .ok (.bipush 64, 2) := by decide +kernel
theorem dX1_doByLot_98 : decode cX1_doByLot 98 = .ok (.idiv, 1) := by decide +kernel
theorem dX1_doByLot_99 : decode cX1_doByLot 99 = .ok (.iload_n 3, 1) := by decide +kernel
theorem dX1_doByLot_100 : decode cX1_doByLot 100 = .ok (.irem, 1) := by decide +kernel
theorem dX1_doByLot_101 : decode cX1_doByLot 101 = .ok (.goto 4, 3) := by decide +kernel
theorem dX1_doByLot_104 : decode cX1_doByLot 104 = .ok (.iconst 0, 1) := by decide +kernel
theorem dX1_doByLot_105 : decode cX1_doByLot 105 = .ok (.invokevirtual 133, 3) := by decide +kernel
theorem dX1_doByLot_108 : decode cX1_doByLot 108 = .ok (.goto 26, 3) := by decide +kernel
theorem dX1_doByLot_111 : decode cX1_doByLot 111 = .ok (.aload_n 0, 1) := by decide +kernel
theorem dX1_doByLot_112 : decode cX1_doByLot 112 = .ok (.aload_n 0, 1) := by decide +kernel
theorem dX1_doByLot_113 : decode cX1_doByLot 113 = .ok (.getfield 29, 3) := by decide +kernel
theorem dX1_doByLot_116 : decode cX1_doByLot 116 = .ok (.getfield 127, 3) := by decide +kernel
theorem dX1_doByLot_119 : decode cX1_doByLot 119 = .ok (.bipush 99, 2) := by decide +kernel
theorem dX1_doByLot_121 : decode cX1_doByLot 121 = .ok (.if_icmp .ge 7, 3) := by decide +kernel
theorem dX1_doByLot_124 : decode cX1_doByLot 124 = .ok (.iconst 0, 1) := by decide +kernel
theorem dX1_doByLot_125 : decode cX1_doByLot 125 = .ok (.goto 4, 3) := by decide +kernel
theorem dX1_doByLot_128 : decode cX1_doByLot 128 = .ok (.iconst 4, 1) := by decide +kernel
theorem dX1_doByLot_129 : decode cX1_doByLot 129 = .ok (.iconst 0, 1) := by decide +kernel
theorem dX1_doByLot_130 : decode cX1_doByLot 130 = .ok (.iconst 0, 1) := by decide +kernel
theorem dX1_doByLot_131 : decode cX1_doByLot 131 = .ok (.invokevirtual 133, 3) := by decide +kernel
theorem dX1_doByLot_134 : decode cX1_doByLot 134 = .ok (.return_, 1) := by decide +kernel
theorem dX1_comesBack_0 : decode cX1_comesBack 0 = .ok (.aload_n 0, 1) := by decide +kernel
theorem dX1_comesBack_1 : decode cX1_comesBack 1 = .ok (.getfield 33, 3) := by decide +kernel
theorem dX1_comesBack_4 : decode cX1_comesBack 4 = .ok (.aload_n 0, 1) := by decide +kernel
theorem dX1_comesBack_5 : decode cX1_comesBack 5 = .ok (.getfield 29, 3) := by decide +kernel
theorem dX1_comesBack_8 : decode cX1_comesBack 8 = .ok (.invokevirtual 104, 3) := by decide +kernel
theorem dX1_comesBack_11 : decode cX1_comesBack 11 = .ok (.aload_n 0, 1) := by decide +kernel
theorem dX1_comesBack_12 : decode cX1_comesBack 12 = .ok (.getfield 33, 3) := by decide +kernel
theorem dX1_comesBack_15 : decode cX1_comesBack 15 = .ok (.iload_n 1, 1) := by decide +kernel
theorem dX1_comesBack_16 : decode cX1_comesBack 16 = .ok (.iload_n 2, 1) := by decide +kernel
theorem dX1_comesBack_17 : decode cX1_comesBack 17 = .ok (.invokevirtual 240, 3) := by decide +kernel
theorem dX1_comesBack_20 : decode cX1_comesBack 20 = .ok (.iconst 1, 1) := by decide +kernel
theorem dX1_comesBack_21 : decode cX1_comesBack 21 = .ok (.istore_n 3, 1) := by decide +kernel
theorem dX1_comesBack_22 : decode cX1_comesBack 22 = .ok (.iload_n 3, 1) := by decide +kernel
theorem dX1_comesBack_23 : decode cX1_comesBack 23 = .ok (.bipush 60, 2) := by decide +kernel
theorem dX1_comesBack_25 : decode cX1_comesBack 25 = .ok (.if_icmp .gt 32, 3) := by decide +kernel
theorem dX1_comesBack_28 : decode cX1_comesBack 28 = .ok (.aload_n 0, 1) := by decide +kernel
theorem dX1_comesBack_29 : decode cX1_comesBack 29 = .ok (.getfield 33, 3) := by decide +kernel
theorem dX1_comesBack_32 : decode cX1_comesBack 32 = .ok (.iconst 1, 1) := by decide +kernel
theorem dX1_comesBack_33 : decode cX1_comesBack 33 = .ok (.invokevirtual 159, 3) := by decide +kernel
theorem dX1_comesBack_36 : decode cX1_comesBack 36 = .ok (.aload_n 0, 1) := by decide +kernel
theorem dX1_comesBack_37 : decode cX1_comesBack 37 = .ok (.getfield 33, 3) := by decide +kernel
theorem dX1_comesBack_40 : decode cX1_comesBack 40 = .ok (.getfield 144, 3) := by decide +kernel
theorem dX1_comesBack_43 : decode cX1_comesBack 43 = .ok (.iload_n 1, 1) := by decide +kernel
theorem dX1_comesBack_44 : decode cX1_comesBack 44 = .ok (.iaload, 1) := by decide +kernel
theorem dX1_comesBack_45 : decode cX1_comesBack 45 = .ok (.iload_n 2, 1) := by decide +kernel
theorem dX1_comesBack_46 : decode cX1_comesBack 46 = .ok (.if_icmp .ne 5, 3) := by decide +kernel
theorem dX1_comesBack_49 : decode cX1_comesBack 49 = .ok (.iload_n 3, 1) := by decide +kernel
theorem dX1_comesBack_50 : decode cX1_comesBack 50 = .ok (.ireturn, 1) := by decide +kernel
theorem dX1_comesBack_51 : decode cX1_comesBack 51 = .ok (.iinc 3 1, 3) := by decide +kernel
theorem dX1_comesBack_54 : decode cX1_comesBack 54 = .ok (.goto (-32), 3) := by decide +kernel
theorem dX1_comesBack_57 : decode cX1_comesBack 57 = .ok (.bipush 61, 2) := by decide +kernel
theorem dX1_comesBack_59 : decode cX1_comesBack 59 = .ok (.ireturn, 1) := by decide +kernel
theorem dX1_isHeard_0 : decode cX1_isHeard 0 = .ok (.aload_n 0, 1) := by decide +kernel
theorem dX1_isHeard_1 : decode cX1_isHeard 1 = .ok (.getfield 14, 3) := by decide +kernel
theorem dX1_isHeard_4 : decode cX1_isHeard 4 = .ok (.iload_n 2, 1) := by decide +kernel
theorem dX1_isHeard_5 : decode cX1_isHeard 5 = .ok (.iaload, 1) := by decide +kernel
theorem dX1_isHeard_6 : decode cX1_isHeard 6 = .ok (.istore_n 3, 1) := by decide +kernel
theorem dX1_isHeard_7 : decode cX1_isHeard 7 = .ok (.iconst 0, 1) := by decide +kernel
theorem dX1_isHeard_8 : decode cX1_isHeard 8 = .ok (.istore 4, 2) := by decide +kernel
theorem dX1_isHeard_10 : decode cX1_isHeard 10 = .ok (.iconst 0, 1) := by decide +kernel
theorem dX1_isHeard_11 : decode cX1_isHeard 11 = .ok (.istore 5, 2) := by decide +kernel
theorem dX1_isHeard_13 : decode cX1_isHeard 13 = .ok (.iload 5, 2) := by decide +kernel
theorem dX1_isHeard_15 : decode cX1_isHeard 15 = .ok (.bipush 60, 2) := by decide +kernel
theorem dX1_isHeard_17 : decode cX1_isHeard 17 = .ok (.if_icmp .ge 59, 3) := by decide +kernel
theorem dX1_isHeard_20 : decode cX1_isHeard 20 = .ok (.iload 4, 2) := by decide +kernel
theorem dX1_isHeard_22 : decode cX1_isHeard 22 = .ok (.iload_n 3, 1) := by decide +kernel
theorem dX1_isHeard_23 : decode cX1_isHeard 23 = .ok (.if_icmp .ge 53, 3) := by decide +kernel
theorem dX1_isHeard_26 : decode cX1_isHeard 26 = .ok (.aload_n 0, 1) := by decide +kernel
theorem dX1_isHeard_27 : decode cX1_isHeard 27 = .ok (.getfield 33, 3) := by decide +kernel
theorem dX1_isHeard_30 : decode cX1_isHeard 30 = .ok (.iload_n 1, 1) := by decide +kernel
theorem dX1_isHeard_31 : decode cX1_isHeard 31 = .ok (.invokevirtual 163, 3) := by decide +kernel
theorem dX1_isHeard_34 : decode cX1_isHeard 34 = .ok (.ifCond .eq 28, 3) := by decide +kernel
theorem dX1_isHeard_37 : decode cX1_isHeard 37 = .ok (.aload_n 0, 1) := by decide +kernel
theorem dX1_isHeard_38 : decode cX1_isHeard 38 = .ok (.getfield 33, 3) := by decide +kernel
theorem dX1_isHeard_41 : decode cX1_isHeard 41 = .ok (.iload_n 1, 1) := by decide +kernel
theorem dX1_isHeard_42 : decode cX1_isHeard 42 = .ok (.invokevirtual 166, 3) := by decide +kernel
theorem dX1_isHeard_45 : decode cX1_isHeard 45 = .ok (.aload_n 0, 1) := by decide +kernel
theorem dX1_isHeard_46 : decode cX1_isHeard 46 = .ok (.getfield 11, 3) := by decide +kernel
theorem dX1_isHeard_49 : decode cX1_isHeard 49 = .ok (.iload_n 2, 1) := by decide +kernel
theorem dX1_isHeard_50 : decode cX1_isHeard 50 = .ok (.aaload, 1) := by decide +kernel
theorem dX1_isHeard_51 : decode cX1_isHeard 51 = .ok (.iload 4, 2) := by decide +kernel
theorem dX1_isHeard_53 : decode cX1_isHeard 53 = .ok (.iaload, 1) := by decide +kernel
theorem dX1_isHeard_54 : decode cX1_isHeard 54 = .ok (.if_icmp .eq 5, 3) := by decide +kernel
theorem dX1_isHeard_57 : decode cX1_isHeard 57 = .ok (.iconst 0, 1) := by decide +kernel
theorem dX1_isHeard_58 : decode cX1_isHeard 58 = .ok (.ireturn, 1) := by decide +kernel
theorem dX1_isHeard_59 : decode cX1_isHeard 59 = .ok (.iinc 4 1, 3) := by decide +kernel
theorem dX1_isHeard_62 : decode cX1_isHeard 62 = .ok (.aload_n 0, 1) := by decide +kernel
theorem dX1_isHeard_63 : decode cX1_isHeard 63 = .ok (.getfield 33, 3) := by decide +kernel
theorem dX1_isHeard_66 : decode cX1_isHeard 66 = .ok (.iconst 1, 1) := by decide +kernel
theorem dX1_isHeard_67 : decode cX1_isHeard 67 = .ok (.invokevirtual 159, 3) := by decide +kernel
theorem dX1_isHeard_70 : decode cX1_isHeard 70 = .ok (.iinc 5 1, 3) := by decide +kernel
theorem dX1_isHeard_73 : decode cX1_isHeard 73 = .ok (.goto (-60), 3) := by decide +kernel
theorem dX1_isHeard_76 : decode cX1_isHeard 76 = .ok (.iload 4, 2) := by decide +kernel
theorem dX1_isHeard_78 : decode cX1_isHeard 78 = .ok (.iload_n 3, 1) := by decide +kernel
theorem dX1_isHeard_79 : decode cX1_isHeard 79 = .ok (.if_icmp .ne 7, 3) := by decide +kernel
theorem dX1_isHeard_82 : decode cX1_isHeard 82 = .ok (.iconst 1, 1) := by decide +kernel
theorem dX1_isHeard_83 : decode cX1_isHeard 83 = .ok (.goto 4, 3) := by decide +kernel
theorem dX1_isHeard_86 : decode cX1_isHeard 86 = .ok (.iconst 0, 1) := by decide +kernel
theorem dX1_isHeard_87 : decode cX1_isHeard 87 = .ok (.ireturn, 1) := by decide +kernel
theorem dX1_kindsHeard_0 : decode cX1_kindsHeard 0 = .ok (.iconst 0, 1) := by decide +kernel
theorem dX1_kindsHeard_1 : decode cX1_kindsHeard 1 = .ok (.istore_n 3, 1) := by decide +kernel
theorem dX1_kindsHeard_2 : decode cX1_kindsHeard 2 = .ok (.iconst 0, 1) := by decide +kernel
theorem dX1_kindsHeard_3 : decode cX1_kindsHeard 3 = .ok (.istore 4, 2) := by decide +kernel
theorem dX1_kindsHeard_5 : decode cX1_kindsHeard 5 = .ok (.iload 4, 2) := by decide +kernel
theorem dX1_kindsHeard_7 : decode cX1_kindsHeard 7 = .ok (.bipush 6, 2) := by decide +kernel
theorem dX1_kindsHeard_9 : decode cX1_kindsHeard 9 = .ok (.if_icmp .ge 47, 3) := by decide +kernel
theorem dX1_kindsHeard_12 : decode cX1_kindsHeard 12 = .ok (.aload_n 0, 1) := by decide +kernel
theorem dX1_kindsHeard_13 : decode cX1_kindsHeard 13 = .ok (.getfield 33, 3) := by decide +kernel
theorem dX1_kindsHeard_16 : decode cX1_kindsHeard 16 = .ok (.aload_n 0, 1) := by decide +kernel
theorem dX1_kindsHeard_17 : decode cX1_kindsHeard 17 = .ok (.getfield 29, 3) := by decide +kernel
theorem dX1_kindsHeard_20 : decode cX1_kindsHeard 20 = .ok (.invokevirtual 104, 3) := by decide +kernel
theorem dX1_kindsHeard_23 : decode cX1_kindsHeard 23 = .ok (.aload_n 0, 1) := by decide +kernel
theorem dX1_kindsHeard_24 : decode cX1_kindsHeard 24 = .ok (.getfield 33, 3) := by decide +kernel
theorem dX1_kindsHeard_27 : decode cX1_kindsHeard 27 = .ok (.getfield 243, 3) := by decide +kernel
theorem dX1_kindsHeard_30 : decode cX1_kindsHeard 30 = .ok (.iload_n 1, 1) := by decide +kernel
theorem dX1_kindsHeard_31 : decode cX1_kindsHeard 31 = .ok (.iload 4, 2) := by decide +kernel
theorem dX1_kindsHeard_33 : decode cX1_kindsHeard 33 = .ok (.iastore, 1) := by decide +kernel
theorem dX1_kindsHeard_34 : decode cX1_kindsHeard 34 = .ok (.aload_n 0, 1) := by decide +kernel
theorem dX1_kindsHeard_35 : decode cX1_kindsHeard 35 = .ok (.iload_n 1, 1) := by decide +kernel
theorem dX1_kindsHeard_36 : decode cX1_kindsHeard 36 = .ok (.iload_n 2, 1) := by decide +kernel
theorem dX1_kindsHeard_37 : decode cX1_kindsHeard 37 = .ok (.invokevirtual 198, 3) := by decide +kernel
theorem dX1_kindsHeard_40 : decode cX1_kindsHeard 40 = .ok (.ifCond .eq 10, 3) := by decide +kernel
theorem dX1_kindsHeard_43 : decode cX1_kindsHeard 43 = .ok (.iload_n 3, 1) := by decide +kernel
theorem dX1_kindsHeard_44 : decode cX1_kindsHeard 44 = .ok (.iconst 1, 1) := by decide +kernel
theorem dX1_kindsHeard_45 : decode cX1_kindsHeard 45 = .ok (.iload 4, 2) := by decide +kernel
theorem dX1_kindsHeard_47 : decode cX1_kindsHeard 47 = .ok (.ishl, 1) := by decide +kernel
theorem dX1_kindsHeard_48 : decode cX1_kindsHeard 48 = .ok (.ior, 1) := by decide +kernel
theorem dX1_kindsHeard_49 : decode cX1_kindsHeard 49 = .ok (.istore_n 3, 1) := by decide +kernel
theorem dX1_kindsHeard_50 : decode cX1_kindsHeard 50 = .ok (.iinc 4 1, 3) := by decide +kernel
theorem dX1_kindsHeard_53 : decode cX1_kindsHeard 53 = .ok (.goto (-48), 3) := by decide +kernel
theorem dX1_kindsHeard_56 : decode cX1_kindsHeard 56 = .ok (.iload_n 3, 1) := by decide +kernel
theorem dX1_kindsHeard_57 : decode cX1_kindsHeard 57 = .ok (.ireturn, 1) := by decide +kernel
theorem dX1_lookAhead_0 : decode cX1_lookAhead 0 = .ok (.iconst 0, 1) := by decide +kernel
theorem dX1_lookAhead_1 : decode cX1_lookAhead 1 = .ok (.istore_n 2, 1) := by decide +kernel
theorem dX1_lookAhead_2 : decode cX1_lookAhead 2 = .ok (.iload_n 2, 1) := by decide +kernel
theorem dX1_lookAhead_3 : decode cX1_lookAhead 3 = .ok (.bipush 6, 2) := by decide +kernel
theorem dX1_lookAhead_5 : decode cX1_lookAhead 5 = .ok (.if_icmp .ge 69, 3) := by decide +kernel
theorem dX1_lookAhead_8 : decode cX1_lookAhead 8 = .ok (.aload_n 0, 1) := by decide +kernel
theorem dX1_lookAhead_9 : decode cX1_lookAhead 9 = .ok (.getfield 33, 3) := by decide +kernel
theorem dX1_lookAhead_12 : decode cX1_lookAhead 12 = .ok (.aload_n 0, 1) := by decide +kernel
theorem dX1_lookAhead_13 : decode cX1_lookAhead 13 = .ok (.getfield 29, 3) := by decide +kernel
theorem dX1_lookAhead_16 : decode cX1_lookAhead 16 = .ok (.invokevirtual 104, 3) := by decide +kernel
theorem dX1_lookAhead_19 : decode cX1_lookAhead 19 = .ok (.aload_n 0, 1) := by decide +kernel
theorem dX1_lookAhead_20 : decode cX1_lookAhead 20 = .ok (.getfield 33, 3) := by decide +kernel
theorem dX1_lookAhead_23 : decode cX1_lookAhead 23 = .ok (.getfield 243, 3) := by decide +kernel
theorem dX1_lookAhead_26 : decode cX1_lookAhead 26 = .ok (.iload_n 1, 1) := by decide +kernel
theorem dX1_lookAhead_27 : decode cX1_lookAhead 27 = .ok (.iload_n 2, 1) := by decide +kernel
theorem dX1_lookAhead_28 : decode cX1_lookAhead 28 = .ok (.iastore, 1) := by decide +kernel
theorem dX1_lookAhead_29 : decode cX1_lookAhead 29 = .ok (.iconst 0, 1) := by decide +kernel
theorem dX1_lookAhead_30 : decode cX1_lookAhead 30 = .ok (.istore_n 3, 1) := by decide +kernel
theorem dX1_lookAhead_31 : decode cX1_lookAhead 31 = .ok (.iload_n 3, 1) := by decide +kernel
theorem dX1_lookAhead_32 : decode cX1_lookAhead 32 = .ok (.bipush 20, 2) := by decide +kernel
theorem dX1_lookAhead_34 : decode cX1_lookAhead 34 = .ok (.if_icmp .ge 34, 3) := by decide +kernel
theorem dX1_lookAhead_37 : decode cX1_lookAhead 37 = .ok (.aload_n 0, 1) := by decide +kernel
theorem dX1_lookAhead_38 : decode cX1_lookAhead 38 = .ok (.getfield 33, 3) := by decide +kernel
theorem dX1_lookAhead_41 : decode cX1_lookAhead 41 = .ok (.iconst 1, 1) := by decide +kernel
theorem dX1_lookAhead_42 : decode cX1_lookAhead 42 = .ok (.invokevirtual 159, 3) := by decide +kernel
theorem dX1_lookAhead_45 : decode cX1_lookAhead 45 = .ok (.aload_n 0, 1) := by decide +kernel
theorem dX1_lookAhead_46 : decode cX1_lookAhead 46 = .ok (.getfield 49, 3) := by decide +kernel
theorem dX1_lookAhead_49 : decode cX1_lookAhead 49 = .ok (.iload_n 2, 1) := by decide +kernel
theorem dX1_lookAhead_50 : decode cX1_lookAhead 50 = .ok (.aaload, 1) := by decide +kernel
theorem dX1_lookAhead_51 : decode cX1_lookAhead 51 = .ok (.iload_n 3, 1) := by decide +kernel
theorem dX1_lookAhead_52 : decode cX1_lookAhead 52 = .ok (.aload_n 0, 1) := by decide +kernel
theorem dX1_lookAhead_53 : decode cX1_lookAhead 53 = .ok (.getfield 33, 3) := by decide +kernel
theorem dX1_lookAhead_56 : decode cX1_lookAhead 56 = .ok (.getfield 144, 3) := by decide +kernel
theorem dX1_lookAhead_59 : decode cX1_lookAhead 59 = .ok (.iload_n 1, 1) := by decide +kernel
theorem dX1_lookAhead_60 : decode cX1_lookAhead 60 = .ok (.iaload, 1) := by decide +kernel
theorem dX1_lookAhead_61 : decode cX1_lookAhead 61 = .ok (.iastore, 1) := by decide +kernel
theorem dX1_lookAhead_62 : decode cX1_lookAhead 62 = .ok (.iinc 3 1, 3) := by decide +kernel
theorem dX1_lookAhead_65 : decode cX1_lookAhead 65 = .ok (.goto (-34), 3) := by decide +kernel
theorem dX1_lookAhead_68 : decode cX1_lookAhead 68 = .ok (.iinc 2 1, 3) := by decide +kernel
theorem dX1_lookAhead_71 : decode cX1_lookAhead 71 = .ok (.goto (-69), 3) := by decide +kernel
theorem dX1_lookAhead_74 : decode cX1_lookAhead 74 = .ok (.return_, 1) := by decide +kernel
theorem dX1_greatestPart_0 : decode cX1_greatestPart 0 = .ok (.iconst 0, 1) := by decide +kernel
theorem dX1_greatestPart_1 : decode cX1_greatestPart 1 = .ok (.istore_n 3, 1) := by decide +kernel
theorem dX1_greatestPart_2 : decode cX1_greatestPart 2 = .ok (.iconst 0, 1) := by decide +kernel
theorem dX1_greatestPart_3 : decode cX1_greatestPart 3 = .ok (.istore 4, 2) := by decide +kernel
theorem dX1_greatestPart_5 : decode cX1_greatestPart 5 = .ok (.iload 4, 2) := by decide +kernel
theorem dX1_greatestPart_7 : decode cX1_greatestPart 7 = .ok (.bipush 6, 2) := by decide +kernel
theorem dX1_greatestPart_9 : decode cX1_greatestPart 9 = .ok (.if_icmp .ge 74, 3) := by decide +kernel
theorem dX1_greatestPart_12 : decode cX1_greatestPart 12 = .ok (.iconst 0, 1) := by decide +kernel
theorem dX1_greatestPart_13 : decode cX1_greatestPart 13 = .ok (.istore 5, 2) := by decide +kernel
theorem dX1_greatestPart_15 : decode cX1_greatestPart 15 = .ok (.iconst 0, 1) := by decide +kernel
theorem dX1_greatestPart_16 : decode cX1_greatestPart 16 = .ok (.istore 6, 2) := by decide +kernel
theorem dX1_greatestPart_18 : decode cX1_greatestPart 18 = .ok (.iload 6, 2) := by decide +kernel
theorem dX1_greatestPart_20 : decode cX1_greatestPart 20 = .ok (.bipush 6, 2) := by decide +kernel
theorem dX1_greatestPart_22 : decode cX1_greatestPart 22 = .ok (.if_icmp .ge 48, 3) := by decide +kernel
theorem dX1_greatestPart_25 : decode cX1_greatestPart 25 = .ok (.iload_n 1, 1) := by decide +kernel
theorem dX1_greatestPart_26 : decode cX1_greatestPart 26 = .ok (.iload 4, 2) := by decide +kernel
theorem dX1_greatestPart_28 : decode cX1_greatestPart 28 = .ok (.ishr, 1) := by decide +kernel
theorem dX1_greatestPart_29 : decode cX1_greatestPart 29 = .ok (.iload_n 1, 1) := by decide +kernel
theorem dX1_greatestPart_30 : decode cX1_greatestPart 30 = .ok (.iload 6, 2) := by decide +kernel
theorem dX1_greatestPart_32 : decode cX1_greatestPart 32 = .ok (.ishr, 1) := by decide +kernel
theorem dX1_greatestPart_33 : decode cX1_greatestPart 33 = .ok (.iand, 1) := by decide +kernel
theorem dX1_greatestPart_34 : decode cX1_greatestPart 34 = .ok (.iconst 1, 1) := by decide +kernel
theorem dX1_greatestPart_35 : decode cX1_greatestPart 35 = .ok (.iand, 1) := by decide +kernel
theorem dX1_greatestPart_36 : decode cX1_greatestPart 36 = .ok (.iconst 1, 1) := by decide +kernel
theorem dX1_greatestPart_37 : decode cX1_greatestPart 37 = .ok (.if_icmp .ne 27, 3) := by decide +kernel
theorem dX1_greatestPart_40 : decode cX1_greatestPart 40 = .ok (.aload_n 0, 1) := by decide +kernel
theorem dX1_greatestPart_41 : decode cX1_greatestPart 41 = .ok (.getfield 49, 3) := by decide +kernel
theorem dX1_greatestPart_44 : decode cX1_greatestPart 44 = .ok (.iload 4, 2) := by decide +kernel
theorem dX1_greatestPart_46 : decode cX1_greatestPart 46 = .ok (.aaload, 1) := by decide +kernel
theorem dX1_greatestPart_47 : decode cX1_greatestPart 47 = .ok (.iload_n 2, 1) := by decide +kernel
theorem dX1_greatestPart_48 : decode cX1_greatestPart 48 = .ok (.iaload, 1) := by decide +kernel
theorem dX1_greatestPart_49 : decode cX1_greatestPart 49 = .ok (.aload_n 0, 1) := by decide +kernel
theorem dX1_greatestPart_50 : decode cX1_greatestPart 50 = .ok (.getfield 49, 3) := by decide +kernel
theorem dX1_greatestPart_53 : decode cX1_greatestPart 53 = .ok (.iload 6, 2) := by decide +kernel
theorem dX1_greatestPart_55 : decode cX1_greatestPart 55 = .ok (.aaload, 1) := by decide +kernel
theorem dX1_greatestPart_56 : decode cX1_greatestPart 56 = .ok (.iload_n 2, 1) := by decide +kernel
theorem dX1_greatestPart_57 : decode cX1_greatestPart 57 = .ok (.iaload, 1) := by decide +kernel
theorem dX1_greatestPart_58 : decode cX1_greatestPart 58 = .ok (.if_icmp .ne 6, 3) := by decide +kernel
theorem dX1_greatestPart_61 : decode cX1_greatestPart 61 = .ok (.iinc 5 1, 3) := by decide +kernel
theorem dX1_greatestPart_64 : decode cX1_greatestPart 64 = .ok (.iinc 6 1, 3) := by decide +kernel
theorem dX1_greatestPart_67 : decode cX1_greatestPart 67 = .ok (.goto (-49), 3) := by decide +kernel
theorem dX1_greatestPart_70 : decode cX1_greatestPart 70 = .ok (.iload_n 3, 1) := by decide +kernel
theorem dX1_greatestPart_71 : decode cX1_greatestPart 71 = .ok (.iload 5, 2) := by decide +kernel
theorem dX1_greatestPart_73 : decode cX1_greatestPart 73 = .ok (.invokestatic 246, 3) := by decide +kernel
theorem dX1_greatestPart_76 : decode cX1_greatestPart 76 = .ok (.istore_n 3, 1) := by decide +kernel
theorem dX1_greatestPart_77 : decode cX1_greatestPart 77 = .ok (.iinc 4 1, 3) := by decide +kernel
theorem dX1_greatestPart_80 : decode cX1_greatestPart 80 = .ok (.goto (-75), 3) := by decide +kernel
theorem dX1_greatestPart_83 : decode cX1_greatestPart 83 = .ok (.iload_n 3, 1) := by decide +kernel
theorem dX1_greatestPart_84 : decode cX1_greatestPart 84 = .ok (.ireturn, 1) := by decide +kernel
theorem dX1_playOut_0 : decode cX1_playOut 0 = .ok (.iload_n 2, 1) := by decide +kernel
theorem dX1_playOut_1 : decode cX1_playOut 1 = .ok (.iload_n 3, 1) := by decide +kernel
theorem dX1_playOut_2 : decode cX1_playOut 2 = .ok (.if_icmp .ge 8, 3) := by decide +kernel
theorem dX1_playOut_5 : decode cX1_playOut 5 = .ok (.iload_n 2, 1) := by decide +kernel
theorem dX1_playOut_6 : decode cX1_playOut 6 = .ok (.iconst 3, 1) := by decide +kernel
theorem dX1_playOut_7 : decode cX1_playOut 7 = .ok (.if_icmp .lt 9, 3) := by decide +kernel
theorem dX1_playOut_10 : decode cX1_playOut 10 = .ok (.aload_n 0, 1) := by decide +kernel
theorem dX1_playOut_11 : decode cX1_playOut 11 = .ok (.iload_n 1, 1) := by decide +kernel
theorem dX1_playOut_12 : decode cX1_playOut 12 = .ok (.invokevirtual 249, 3) := by decide +kernel
theorem dX1_playOut_15 : decode cX1_playOut 15 = .ok (.ireturn, 1) := by decide +kernel
theorem dX1_playOut_16 : decode cX1_playOut 16 = .ok (.iload_n 2, 1) := by decide +kernel
theorem dX1_playOut_17 : decode cX1_playOut 17 = .ok (.iconst 2, 1) := by decide +kernel
theorem dX1_playOut_18 : decode cX1_playOut 18 = .ok (.irem, 1) := by decide +kernel
theorem dX1_playOut_19 : decode cX1_playOut 19 = .ok (.ifCond .ne 7, 3) := by decide +kernel
theorem dX1_playOut_22 : decode cX1_playOut 22 = .ok (.iconst 1, 1) := by decide +kernel
theorem dX1_playOut_23 : decode cX1_playOut 23 = .ok (.goto 4, 3) := by decide +kernel
theorem dX1_playOut_26 : decode cX1_playOut 26 = .ok (.iconst 0, 1) := by decide +kernel
theorem dX1_playOut_27 : decode cX1_playOut 27 = .ok (.istore 4, 2) := by decide +kernel
theorem dX1_playOut_29 : decode cX1_playOut 29 = .ok (.aload_n 0, 1) := by decide +kernel
theorem dX1_playOut_30 : decode cX1_playOut 30 = .ok (.iload_n 1, 1) := by decide +kernel
theorem dX1_playOut_31 : decode cX1_playOut 31 = .ok (.iload_n 2, 1) := by decide +kernel
theorem dX1_playOut_32 : decode cX1_playOut 32 = .ok (.iconst 1, 1) := by decide +kernel
theorem dX1_playOut_33 : decode cX1_playOut 33 = .ok (.iadd, 1) := by decide +kernel
theorem dX1_playOut_34 : decode cX1_playOut 34 = .ok (.iload_n 3, 1) := by decide +kernel
theorem dX1_playOut_35 : decode cX1_playOut 35 = .ok (.invokevirtual 210, 3) := by decide +kernel
theorem dX1_playOut_38 : decode cX1_playOut 38 = .ok (.istore 5, 2) := by decide +kernel
theorem dX1_playOut_40 : decode cX1_playOut 40 = .ok (.iconst 0, 1) := by decide +kernel
theorem dX1_playOut_41 : decode cX1_playOut 41 = .ok (.istore 6, 2) := by decide +kernel
theorem dX1_playOut_43 : decode cX1_playOut 43 = .ok (.iload 6, 2) := by decide +kernel
theorem dX1_playOut_45 : decode cX1_playOut 45 = .ok (.aload_n 0, 1) := by decide +kernel
theorem dX1_playOut_46 : decode cX1_playOut 46 = .ok (.getfield 29, 3) := by decide +kernel
theorem dX1_playOut_49 : decode cX1_playOut 49 = .ok (.getfield 108, 3) := by decide +kernel
theorem dX1_playOut_52 : decode cX1_playOut 52 = .ok (.if_icmp .ge 75, 3) := by decide +kernel
theorem dX1_playOut_55 : decode cX1_playOut 55 = .ok (.iload 4, 2) := by decide +kernel
theorem dX1_playOut_57 : decode cX1_playOut 57 = .ok (.ifCond .eq 12, 3) := by decide +kernel
theorem dX1_playOut_60 : decode cX1_playOut 60 = .ok (.iload_n 1, 1) := by decide +kernel
theorem dX1_playOut_61 : decode cX1_playOut 61 = .ok (.iconst 1, 1) := by decide +kernel
theorem dX1_playOut_62 : decode cX1_playOut 62 = .ok (.iload 6, 2) := by decide +kernel
theorem dX1_playOut_64 : decode cX1_playOut 64 = .ok (.ishl, 1) := by decide +kernel
theorem dX1_playOut_65 : decode cX1_playOut 65 = .ok (.ior, 1) := by decide +kernel
theorem dX1_playOut_66 : decode cX1_playOut 66 = .ok (.goto 11, 3) := by decide +kernel
theorem dX1_playOut_69 : decode cX1_playOut 69 = .ok (.iload_n 1, 1) := by decide +kernel
theorem dX1_playOut_70 : decode cX1_playOut 70 = .ok (.iconst 1, 1) := by decide +kernel
theorem dX1_playOut_71 : decode cX1_playOut 71 = .ok (.iload 6, 2) := by decide +kernel
theorem dX1_playOut_73 : decode cX1_playOut 73 = .ok (.ishl, 1) := by decide +kernel
theorem dX1_playOut_74 : decode cX1_playOut 74 = .ok (.iconst (-1), 1) := by decide +kernel
theorem dX1_playOut_75 : decode cX1_playOut 75 = .ok (.ixor, 1) := by decide +kernel
theorem dX1_playOut_76 : decode cX1_playOut 76 = .ok (.iand, 1) := by decide +kernel
theorem dX1_playOut_77 : decode cX1_playOut 77 = .ok (.istore 7, 2) := by decide +kernel
theorem dX1_playOut_79 : decode cX1_playOut 79 = .ok (.iload 7, 2) := by decide +kernel
theorem dX1_playOut_81 : decode cX1_playOut 81 = .ok (.iload_n 1, 1) := by decide +kernel
theorem dX1_playOut_82 : decode cX1_playOut 82 = .ok (.if_icmp .eq 39, 3) := by decide +kernel
theorem dX1_playOut_85 : decode cX1_playOut 85 = .ok (.aload_n 0, 1) := by decide +kernel
theorem dX1_playOut_86 : decode cX1_playOut 86 = .ok (.iload 7, 2) := by decide +kernel
theorem dX1_playOut_88 : decode cX1_playOut 88 = .ok (.iload_n 2, 1) := by decide +kernel
theorem dX1_playOut_89 : decode cX1_playOut 89 = .ok (.iconst 1, 1) := by decide +kernel
theorem dX1_playOut_90 : decode cX1_playOut 90 = .ok (.iadd, 1) := by decide +kernel
theorem dX1_playOut_91 : decode cX1_playOut 91 = .ok (.iload_n 3, 1) := by decide +kernel
theorem dX1_playOut_92 : decode cX1_playOut 92 = .ok (.invokevirtual 210, 3) := by decide +kernel
theorem dX1_playOut_95 : decode cX1_playOut 95 = .ok (.istore 8, 2) := by decide +kernel
theorem dX1_playOut_97 : decode cX1_playOut 97 = .ok (.iload 4, 2) := by decide +kernel
theorem dX1_playOut_99 : decode cX1_playOut 99 = .ok (.ifCond .eq 13, 3) := by decide +kernel
theorem dX1_playOut_102 : decode cX1_playOut 102 = .ok (.iload 5, 2) := by decide +kernel
theorem dX1_playOut_104 : decode cX1_playOut 104 = .ok (.iload 8, 2) := by decide +kernel
theorem dX1_playOut_106 : decode cX1_playOut 106 = .ok (.invokestatic 246, 3) := by decide +kernel
theorem dX1_playOut_109 : decode cX1_playOut 109 = .ok (.goto 10, 3) := by decide +kernel
theorem dX1_playOut_112 : decode cX1_playOut 112 = .ok (.iload 5, 2) := by decide +kernel
theorem dX1_playOut_114 : decode cX1_playOut 114 = .ok (.iload 8, 2) := by decide +kernel
theorem dX1_playOut_116 : decode cX1_playOut 116 = .ok (.invokestatic 169, 3) := by decide +kernel
theorem dX1_playOut_119 : decode cX1_playOut 119 = .ok (.istore 5, 2) := by decide +kernel
theorem dX1_playOut_121 : decode cX1_playOut 121 = .ok (.iinc 6 1, 3) := by decide +kernel
theorem dX1_playOut_124 : decode cX1_playOut 124 = .ok (.goto (-81), 3) := by decide +kernel
theorem dX1_playOut_127 : decode cX1_playOut 127 = .ok (.iload 5, 2) := by decide +kernel
theorem dX1_playOut_129 : decode cX1_playOut 129 = .ok (.ireturn, 1) := by decide +kernel
theorem dX1_leftWithEnds_0 : decode cX1_leftWithEnds 0 = .ok (.aload_n 0, 1) := by decide +kernel
theorem dX1_leftWithEnds_1 : decode cX1_leftWithEnds 1 = .ok (.getfield 33, 3) := by decide +kernel
theorem dX1_leftWithEnds_4 : decode cX1_leftWithEnds 4 = .ok (.aload_n 0, 1) := by decide +kernel
theorem dX1_leftWithEnds_5 : decode cX1_leftWithEnds 5 = .ok (.getfield 29, 3) := by decide +kernel
theorem dX1_leftWithEnds_8 : decode cX1_leftWithEnds 8 = .ok (.invokevirtual 104, 3) := by decide +kernel
theorem dX1_leftWithEnds_11 : decode cX1_leftWithEnds 11 = .ok (.aload_n 0, 1) := by decide +kernel
theorem dX1_leftWithEnds_12 : decode cX1_leftWithEnds 12 = .ok (.getfield 33, 3) := by decide +kernel
theorem dX1_leftWithEnds_15 : decode cX1_leftWithEnds 15 = .ok (.iload_n 1, 1) := by decide +kernel
theorem dX1_leftWithEnds_16 : decode cX1_leftWithEnds 16 = .ok (.invokevirtual 252, 3) := by decide +kernel
theorem dX1_leftWithEnds_19 : decode cX1_leftWithEnds 19 = .ok (.aload_n 0, 1) := by decide +kernel
theorem dX1_leftWithEnds_20 : decode cX1_leftWithEnds 20 = .ok (.getfield 33, 3) := by decide +kernel
theorem dX1_leftWithEnds_23 : decode cX1_leftWithEnds 23 = .ok (.bipush 8, 2) := by decide +kernel
theorem dX1_leftWithEnds_25 : decode cX1_leftWithEnds 25 = .ok (.invokevirtual 159, 3) := by decide +kernel
theorem dX1_leftWithEnds_28 : decode cX1_leftWithEnds 28 = .ok (.aload_n 0, 1) := by decide +kernel
theorem dX1_leftWithEnds_29 : decode cX1_leftWithEnds 29 = .ok (.getfield 33, 3) := by decide +kernel
theorem dX1_leftWithEnds_32 : decode cX1_leftWithEnds 32 = .ok (.invokevirtual 137, 3) := by decide +kernel
theorem dX1_leftWithEnds_35 : decode cX1_leftWithEnds 35 = .ok (.ireturn, 1) := by decide +kernel
theorem dX1_tellChance_0 : decode cX1_tellChance 0 = .ok (.lconst 0, 1) := by decide +kernel
theorem dX1_tellChance_1 : decode cX1_tellChance 1 = .ok (.lstore 4, 2) := by decide +kernel
theorem dX1_tellChance_3 : decode cX1_tellChance 3 = .ok (.iconst 0, 1) := by decide +kernel
theorem dX1_tellChance_4 : decode cX1_tellChance 4 = .ok (.istore 6, 2) := by decide +kernel
theorem dX1_tellChance_6 : decode cX1_tellChance 6 = .ok (.iload 6, 2) := by decide +kernel
theorem dX1_tellChance_8 : decode cX1_tellChance 8 = .ok (.iconst 1, 1) := by decide +kernel
theorem dX1_tellChance_9 : decode cX1_tellChance 9 = .ok (.aload_n 0, 1) := by decide +kernel
theorem dX1_tellChance_10 : decode cX1_tellChance 10 = .ok (.getfield 29, 3) := by decide +kernel
theorem dX1_tellChance_13 : decode cX1_tellChance 13 = .ok (.getfield 108, 3) := by decide +kernel
theorem dX1_tellChance_16 : decode cX1_tellChance 16 = .ok (.ishl, 1) := by decide +kernel
theorem dX1_tellChance_17 : decode cX1_tellChance 17 = .ok (.if_icmp .ge 68, 3) := by decide +kernel
theorem dX1_tellChance_20 : decode cX1_tellChance 20 = .ok (.aload_n 0, 1) := by decide +kernel
theorem dX1_tellChance_21 : decode cX1_tellChance 21 = .ok (.iload 6, 2) := by decide +kernel
theorem dX1_tellChance_23 : decode cX1_tellChance 23 = .ok (.iload_n 3, 1) := by decide +kernel
theorem dX1_tellChance_24 : decode cX1_tellChance 24 = .ok (.invokevirtual 255, 3) := by decide +kernel
theorem dX1_tellChance_27 : decode cX1_tellChance 27 = .ok (.lstore 7, 2) := by decide +kernel
theorem dX1_tellChance_29 : decode cX1_tellChance 29 = .ok (.lload 7, 2) := by decide +kernel
theorem dX1_tellChance_31 : decode cX1_tellChance 31 = .ok (.lconst 0, 1) := by decide +kernel
theorem dX1_tellChance_32 : decode cX1_tellChance 32 = .ok (.lcmp, 1) := by decide +kernel
theorem dX1_tellChance_33 : decode cX1_tellChance 33 = .ok (.ifCond .le 46, 3) := by decide +kernel
theorem dX1_tellChance_36 : decode cX1_tellChance 36 = .ok (.aload_n 0, 1) := by decide +kernel
theorem dX1_tellChance_37 : decode cX1_tellChance 37 = .ok (.iload 6, 2) := by decide +kernel
theorem dX1_tellChance_39 : decode cX1_tellChance 39 = .ok (.iload_n 2, 1) := by decide +kernel
theorem dX1_tellChance_40 : decode cX1_tellChance 40 = .ok (.invokevirtual 259, 3) := by decide +kernel
theorem dX1_tellChance_43 : decode cX1_tellChance 43 = .ok (.istore 9, 2) := by decide +kernel
theorem dX1_tellChance_45 : decode cX1_tellChance 45 = .ok (.iload 9, 2) := by decide +kernel
theorem dX1_tellChance_47 : decode cX1_tellChance 47 = .ok (.iload_n 1, 1) := by decide +kernel
theorem dX1_tellChance_48 : decode cX1_tellChance 48 = .ok (.if_icmp .lt 7, 3) := by decide +kernel
theorem dX1_tellChance_51 : decode cX1_tellChance 51 = .ok (.iconst 1, 1) := by decide +kernel
theorem dX1_tellChance_52 : decode cX1_tellChance 52 = .ok (.goto 4, 3) := by decide +kernel
theorem dX1_tellChance_55 : decode cX1_tellChance 55 = .ok (.iconst 0, 1) := by decide +kernel
theorem dX1_tellChance_56 : decode cX1_tellChance 56 = .ok (.istore 10, 2) := by decide +kernel
theorem dX1_tellChance_58 : decode cX1_tellChance 58 = .ok (.lload 4, 2) := by decide +kernel
theorem dX1_tellChance_60 : decode cX1_tellChance 60 = .ok (.lload 7, 2) := by decide +kernel
theorem dX1_tellChance_62 : decode cX1_tellChance 62 = .ok (.iload_n 1, 1) := by decide +kernel
theorem dX1_tellChance_63 : decode cX1_tellChance 63 = .ok (.iconst (-1), 1) := by decide +kernel
theorem dX1_tellChance_64 : decode cX1_tellChance 64 = .ok (.if_icmp .ne 8, 3) := by decide +kernel
theorem dX1_tellChance_67 : decode cX1_tellChance 67 = .ok (.iload 9, 2) := by decide +kernel
theorem dX1_tellChance_69 : decode cX1_tellChance 69 = .ok (.goto 5, 3) := by decide +kernel
theorem dX1_tellChance_72 : decode cX1_tellChance 72 = .ok (.iload 10, 2) := by decide +kernel
theorem dX1_tellChance_74 : decode cX1_tellChance 74 = .ok (.i2l, 1) := by decide +kernel
theorem dX1_tellChance_75 : decode cX1_tellChance 75 = .ok (.lmul, 1) := by decide +kernel
theorem dX1_tellChance_76 : decode cX1_tellChance 76 = .ok (.ladd, 1) := by decide +kernel
theorem dX1_tellChance_77 : decode cX1_tellChance 77 = .ok (.lstore 4, 2) := by decide +kernel
theorem dX1_tellChance_79 : decode cX1_tellChance 79 = .ok (.iinc 6 1, 3) := by decide +kernel
theorem dX1_tellChance_82 : decode cX1_tellChance 82 = .ok (.goto (-76), 3) := by decide +kernel
theorem dX1_tellChance_85 : decode cX1_tellChance 85 = .ok (.lconst 1, 1) := by decide +kernel
theorem dX1_tellChance_86 : decode cX1_tellChance 86 = .ok (.lstore 6, 2) := by decide +kernel
theorem dX1_tellChance_88 : decode cX1_tellChance 88 = .ok (.iconst 0, 1) := by decide +kernel
theorem dX1_tellChance_89 : decode cX1_tellChance 89 = .ok (.istore 8, 2) := by decide +kernel
theorem dX1_tellChance_91 : decode cX1_tellChance 91 = .ok (.iload 8, 2) := by decide +kernel
theorem dX1_tellChance_93 : decode cX1_tellChance 93 = .ok (.aload_n 0, 1) := by decide +kernel
theorem dX1_tellChance_94 : decode cX1_tellChance 94 = .ok (.getfield 29, 3) := by decide +kernel
theorem dX1_tellChance_97 : decode cX1_tellChance 97 = .ok (.getfield 108, 3) := by decide +kernel
theorem dX1_tellChance_100 : decode cX1_tellChance 100 = .ok (.if_icmp .ge 17, 3) := by decide +kernel
theorem dX1_tellChance_103 : decode cX1_tellChance 103 = .ok (.lload 6, 2) := by decide +kernel
theorem dX1_tellChance_105 : decode cX1_tellChance 105 = .ok (.ldc2_w 262, 3) := by decide +kernel
theorem dX1_tellChance_108 : decode cX1_tellChance 108 = .ok (.lmul, 1) := by decide +kernel
theorem dX1_tellChance_109 : decode cX1_tellChance 109 = .ok (.lstore 6, 2) := by decide +kernel
theorem dX1_tellChance_111 : decode cX1_tellChance 111 = .ok (.iinc 8 1, 3) := by decide +kernel
theorem dX1_tellChance_114 : decode cX1_tellChance 114 = .ok (.goto (-23), 3) := by decide +kernel
theorem dX1_tellChance_117 : decode cX1_tellChance 117 = .ok (.aload_n 0, 1) := by decide +kernel
theorem dX1_tellChance_118 : decode cX1_tellChance 118 = .ok (.lload 4, 2) := by decide +kernel
theorem dX1_tellChance_120 : decode cX1_tellChance 120 = .ok (.lload 6, 2) := by decide +kernel
theorem dX1_tellChance_122 : decode cX1_tellChance 122 = .ok (.invokevirtual 264, 3) := by decide +kernel
theorem dX1_tellChance_125 : decode cX1_tellChance 125 = .ok (.return_, 1) := by decide +kernel
theorem dX1_weightOf_0 : decode cX1_weightOf 0 = .ok (.lconst 1, 1) := by decide +kernel
theorem dX1_weightOf_1 : decode cX1_weightOf 1 = .ok (.lstore_n 3, 1) := by decide +kernel
theorem dX1_weightOf_2 : decode cX1_weightOf 2 = .ok (.iconst 0, 1) := by decide +kernel
theorem dX1_weightOf_3 : decode cX1_weightOf 3 = .ok (.istore 5, 2) := by decide +kernel
theorem dX1_weightOf_5 : decode cX1_weightOf 5 = .ok (.iload 5, 2) := by decide +kernel
theorem dX1_weightOf_7 : decode cX1_weightOf 7 = .ok (.aload_n 0, 1) := by decide +kernel
theorem dX1_weightOf_8 : decode cX1_weightOf 8 = .ok (.getfield 29, 3) := by decide +kernel
theorem dX1_weightOf_11 : decode cX1_weightOf 11 = .ok (.getfield 108, 3) := by decide +kernel
theorem dX1_weightOf_14 : decode cX1_weightOf 14 = .ok (.if_icmp .ge 32, 3) := by decide +kernel
theorem dX1_weightOf_17 : decode cX1_weightOf 17 = .ok (.lload_n 3, 1) := by decide +kernel
theorem dX1_weightOf_18 : decode cX1_weightOf 18 = .ok (.iload_n 1, 1) := by decide +kernel
theorem dX1_weightOf_19 : decode cX1_weightOf 19 = .ok (.iload 5, 2) := by decide +kernel
theorem dX1_weightOf_21 : decode cX1_weightOf 21 = .ok (.ishr, 1) := by decide +kernel
theorem dX1_weightOf_22 : decode cX1_weightOf 22 = .ok (.iconst 1, 1) := by decide +kernel
theorem dX1_weightOf_23 : decode cX1_weightOf 23 = .ok (.iand, 1) := by decide +kernel
theorem dX1_weightOf_24 : decode cX1_weightOf 24 = .ok (.iconst 1, 1) := by decide +kernel
theorem dX1_weightOf_25 : decode cX1_weightOf 25 = .ok (.if_icmp .ne 8, 3) := by decide +kernel
theorem dX1_weightOf_28 : decode cX1_weightOf 28 = .ok (.iload_n 2, 1) := by decide +kernel
theorem dX1_weightOf_29 : decode cX1_weightOf 29 = .ok (.i2l, 1) := by decide +kernel
theorem dX1_weightOf_30 : decode cX1_weightOf 30 = .ok (.goto 8, 3) := by decide +kernel
theorem dX1_weightOf_33 : decode cX1_weightOf 33 = .ok (.bipush 12, 2) := by decide +kernel
theorem dX1_weightOf_35 : decode cX1_weightOf 35 = .ok (.iload_n 2, 1) := by decide +kernel
theorem dX1_weightOf_36 : decode cX1_weightOf 36 = .ok (.isub, 1) := by decide +kernel
theorem dX1_weightOf_37 : decode cX1_weightOf 37 = .ok (.i2l, 1) := by decide +kernel
theorem dX1_weightOf_38 : decode cX1_weightOf 38 = .ok (.lmul, 1) := by decide +kernel
theorem dX1_weightOf_39 : decode cX1_weightOf 39 = .ok (.lstore_n 3, 1) := by decide +kernel
theorem dX1_weightOf_40 : decode cX1_weightOf 40 = .ok (.iinc 5 1, 3) := by decide +kernel
theorem dX1_weightOf_43 : decode cX1_weightOf 43 = .ok (.goto (-38), 3) := by decide +kernel
theorem dX1_weightOf_46 : decode cX1_weightOf 46 = .ok (.lload_n 3, 1) := by decide +kernel
theorem dX1_weightOf_47 : decode cX1_weightOf 47 = .ok (.lreturn, 1) := by decide +kernel
theorem dX1_leftWithout_0 : decode cX1_leftWithout 0 = .ok (.aload_n 0, 1) := by decide +kernel
theorem dX1_leftWithout_1 : decode cX1_leftWithout 1 = .ok (.getfield 33, 3) := by decide +kernel
theorem dX1_leftWithout_4 : decode cX1_leftWithout 4 = .ok (.aload_n 0, 1) := by decide +kernel
theorem dX1_leftWithout_5 : decode cX1_leftWithout 5 = .ok (.getfield 29, 3) := by decide +kernel
theorem dX1_leftWithout_8 : decode cX1_leftWithout 8 = .ok (.invokevirtual 104, 3) := by decide +kernel
theorem dX1_leftWithout_11 : decode cX1_leftWithout 11 = .ok (.aload_n 0, 1) := by decide +kernel
theorem dX1_leftWithout_12 : decode cX1_leftWithout 12 = .ok (.getfield 33, 3) := by decide +kernel
theorem dX1_leftWithout_15 : decode cX1_leftWithout 15 = .ok (.iload_n 1, 1) := by decide +kernel
theorem dX1_leftWithout_16 : decode cX1_leftWithout 16 = .ok (.invokevirtual 268, 3) := by decide +kernel
theorem dX1_leftWithout_19 : decode cX1_leftWithout 19 = .ok (.aload_n 0, 1) := by decide +kernel
theorem dX1_leftWithout_20 : decode cX1_leftWithout 20 = .ok (.getfield 33, 3) := by decide +kernel
theorem dX1_leftWithout_23 : decode cX1_leftWithout 23 = .ok (.iload_n 2, 1) := by decide +kernel
theorem dX1_leftWithout_24 : decode cX1_leftWithout 24 = .ok (.invokevirtual 159, 3) := by decide +kernel
theorem dX1_leftWithout_27 : decode cX1_leftWithout 27 = .ok (.aload_n 0, 1) := by decide +kernel
theorem dX1_leftWithout_28 : decode cX1_leftWithout 28 = .ok (.getfield 33, 3) := by decide +kernel
theorem dX1_leftWithout_31 : decode cX1_leftWithout 31 = .ok (.invokevirtual 137, 3) := by decide +kernel
theorem dX1_leftWithout_34 : decode cX1_leftWithout 34 = .ok (.ireturn, 1) := by decide +kernel
theorem dX1_tellLowest_0 : decode cX1_tellLowest 0 = .ok (.lload_n 3, 1) := by decide +kernel
theorem dX1_tellLowest_1 : decode cX1_tellLowest 1 = .ok (.lstore 5, 2) := by decide +kernel
theorem dX1_tellLowest_3 : decode cX1_tellLowest 3 = .ok (.lload_n 1, 1) := by decide +kernel
theorem dX1_tellLowest_4 : decode cX1_tellLowest 4 = .ok (.lstore 7, 2) := by decide +kernel
theorem dX1_tellLowest_6 : decode cX1_tellLowest 6 = .ok (.iconst 0, 1) := by decide +kernel
theorem dX1_tellLowest_7 : decode cX1_tellLowest 7 = .ok (.istore 9, 2) := by decide +kernel
theorem dX1_tellLowest_9 : decode cX1_tellLowest 9 = .ok (.iload 9, 2) := by decide +kernel
theorem dX1_tellLowest_11 : decode cX1_tellLowest 11 = .ok (.sipush 200, 3) := by decide +kernel
theorem dX1_tellLowest_14 : decode cX1_tellLowest 14 = .ok (.if_icmp .ge 31, 3) := by decide +kernel
theorem dX1_tellLowest_17 : decode cX1_tellLowest 17 = .ok (.lload 7, 2) := by decide +kernel
theorem dX1_tellLowest_19 : decode cX1_tellLowest 19 = .ok (.lconst 0, 1) := by decide +kernel
theorem dX1_tellLowest_20 : decode cX1_tellLowest 20 = .ok (.lcmp, 1) := by decide +kernel
theorem dX1_tellLowest_21 : decode cX1_tellLowest 21 = .ok (.ifCond .eq 24, 3) := by decide +kernel
theorem dX1_tellLowest_24 : decode cX1_tellLowest 24 = .ok (.lload 5, 2) := by decide +kernel
theorem dX1_tellLowest_26 : decode cX1_tellLowest 26 = .ok (.lload 7, 2) := by decide +kernel
theorem dX1_tellLowest_28 : decode cX1_tellLowest 28 = .ok (.lrem, 1) := by decide +kernel
theorem dX1_tellLowest_29 : decode cX1_tellLowest 29 = .ok (.lstore 10, 2) := by decide +kernel
theorem dX1_tellLowest_31 : decode cX1_tellLowest 31 = .ok (.lload 7, 2) := by decide +kernel
theorem dX1_tellLowest_33 : decode cX1_tellLowest 33 = .ok (.lstore 5, 2) := by decide +kernel
theorem dX1_tellLowest_35 : decode cX1_tellLowest 35 = .ok (.lload 10, 2) := by decide +kernel
theorem dX1_tellLowest_37 : decode cX1_tellLowest 37 = .ok (.lstore 7, 2) := by decide +kernel
theorem dX1_tellLowest_39 : decode cX1_tellLowest 39 = .ok (.iinc 9 1, 3) := by decide +kernel
theorem dX1_tellLowest_42 : decode cX1_tellLowest 42 = .ok (.goto (-33), 3) := by decide +kernel
theorem dX1_tellLowest_45 : decode cX1_tellLowest 45 = .ok (.aload_n 0, 1) := by decide +kernel
theorem dX1_tellLowest_46 : decode cX1_tellLowest 46 = .ok (.lload 5, 2) := by decide +kernel
theorem dX1_tellLowest_48 : decode cX1_tellLowest 48 = .ok (.lconst 0, 1) := by decide +kernel
theorem dX1_tellLowest_49 : decode cX1_tellLowest 49 = .ok (.lcmp, 1) := by decide +kernel
theorem dX1_tellLowest_50 : decode cX1_tellLowest 50 = .ok (.ifCond .le 10, 3) := by decide +kernel
theorem dX1_tellLowest_53 : decode cX1_tellLowest 53 = .ok (.lload_n 1, 1) := by decide +kernel
theorem dX1_tellLowest_54 : decode cX1_tellLowest 54 = .ok (.lload 5, 2) := by decide +kernel
theorem dX1_tellLowest_56 : decode cX1_tellLowest 56 = .ok (.ldiv, 1) := by decide +kernel
theorem dX1_tellLowest_57 : decode cX1_tellLowest 57 = .ok (.goto 4, 3) := by decide +kernel
theorem dX1_tellLowest_60 : decode cX1_tellLowest 60 = .ok (.lload_n 1, 1) := by decide +kernel
theorem dX1_tellLowest_61 : decode cX1_tellLowest 61 = .ok (.putfield 61, 3) := by decide +kernel
theorem dX1_tellLowest_64 : decode cX1_tellLowest 64 = .ok (.aload_n 0, 1) := by decide +kernel
theorem dX1_tellLowest_65 : decode cX1_tellLowest 65 = .ok (.lload 5, 2) := by decide +kernel
theorem dX1_tellLowest_67 : decode cX1_tellLowest 67 = .ok (.lconst 0, 1) := by decide +kernel
theorem dX1_tellLowest_68 : decode cX1_tellLowest 68 = .ok (.lcmp, 1) := by decide +kernel
theorem dX1_tellLowest_69 : decode cX1_tellLowest 69 = .ok (.ifCond .le 10, 3) := by decide +kernel
theorem dX1_tellLowest_72 : decode cX1_tellLowest 72 = .ok (.lload_n 3, 1) := by decide +kernel
theorem dX1_tellLowest_73 : decode cX1_tellLowest 73 = .ok (.lload 5, 2) := by decide +kernel
theorem dX1_tellLowest_75 : decode cX1_tellLowest 75 = .ok (.ldiv, 1) := by decide +kernel
theorem dX1_tellLowest_76 : decode cX1_tellLowest 76 = .ok (.goto 4, 3) := by decide +kernel
theorem dX1_tellLowest_79 : decode cX1_tellLowest 79 = .ok (.lload_n 3, 1) := by decide +kernel
theorem dX1_tellLowest_80 : decode cX1_tellLowest 80 = .ok (.putfield 65, 3) := by decide +kernel
theorem dX1_tellLowest_83 : decode cX1_tellLowest 83 = .ok (.return_, 1) := by decide +kernel
theorem dX1_countOf_0 : decode cX1_countOf 0 = .ok (.iload_n 1, 1) := by decide +kernel
theorem dX1_countOf_1 : decode cX1_countOf 1 = .ok (.tableswitch 133 0 9 #[55, 63, 71, 76, 84, 92, 100, 108, 116, 124], 55) := by decide +kernel
theorem dX1_countOf_56 : decode cX1_countOf 56 = .ok (.aload_n 0, 1) := by decide +kernel
theorem dX1_countOf_57 : decode cX1_countOf 57 = .ok (.getfield 29, 3) := by decide +kernel
theorem dX1_countOf_60 : decode cX1_countOf 60 = .ok (.getfield 108, 3) := by decide +kernel
theorem dX1_countOf_63 : decode cX1_countOf 63 = .ok (.ireturn, 1) := by decide +kernel
theorem dX1_countOf_64 : decode cX1_countOf 64 = .ok (.aload_n 0, 1) := by decide +kernel
theorem dX1_countOf_65 : decode cX1_countOf 65 = .ok (.getfield 29, 3) := by decide +kernel
theorem dX1_countOf_68 : decode cX1_countOf 68 = .ok (.getfield 127, 3) := by decide +kernel
theorem dX1_countOf_71 : decode cX1_countOf 71 = .ok (.ireturn, 1) := by decide +kernel
theorem dX1_countOf_72 : decode cX1_countOf 72 = .ok (.aload_n 0, 1) := by decide +kernel
theorem dX1_countOf_73 : decode cX1_countOf 73 = .ok (.getfield 39, 3) := by decide +kernel
theorem dX1_countOf_76 : decode cX1_countOf 76 = .ok (.ireturn, 1) := by decide +kernel
theorem dX1_countOf_77 : decode cX1_countOf 77 = .ok (.aload_n 0, 1) := by decide +kernel
theorem dX1_countOf_78 : decode cX1_countOf 78 = .ok (.getfield 29, 3) := by decide +kernel
theorem dX1_countOf_81 : decode cX1_countOf 81 = .ok (.invokevirtual 137, 3) := by decide +kernel
theorem dX1_countOf_84 : decode cX1_countOf 84 = .ok (.ireturn, 1) := by decide +kernel
theorem dX1_countOf_85 : decode cX1_countOf 85 = .ok (.aload_n 0, 1) := by decide +kernel
theorem dX1_countOf_86 : decode cX1_countOf 86 = .ok (.getfield 29, 3) := by decide +kernel
theorem dX1_countOf_89 : decode cX1_countOf 89 = .ok (.invokevirtual 271, 3) := by decide +kernel
theorem dX1_countOf_92 : decode cX1_countOf 92 = .ok (.ireturn, 1) := by decide +kernel
theorem dX1_countOf_93 : decode cX1_countOf 93 = .ok (.aload_n 0, 1) := by decide +kernel
theorem dX1_countOf_94 : decode cX1_countOf 94 = .ok (.getfield 29, 3) := by decide +kernel
theorem dX1_countOf_97 : decode cX1_countOf 97 = .ok (.invokevirtual 178, 3) := by decide +kernel
theorem dX1_countOf_100 : decode cX1_countOf 100 = .ok (.ireturn, 1) := by decide +kernel
theorem dX1_countOf_101 : decode cX1_countOf 101 = .ok (.aload_n 0, 1) := by decide +kernel
theorem dX1_countOf_102 : decode cX1_countOf 102 = .ok (.getfield 14, 3) := by decide +kernel
theorem dX1_countOf_105 : decode cX1_countOf 105 = .ok (.invokestatic 274, 3) := by decide +kernel
theorem dX1_countOf_108 : decode cX1_countOf 108 = .ok (.ireturn, 1) := by decide +kernel
theorem dX1_countOf_109 : decode cX1_countOf 109 = .ok (.aload_n 0, 1) := by decide +kernel
theorem dX1_countOf_110 : decode cX1_countOf 110 = .ok (.getfield 23, 3) := by decide +kernel
theorem dX1_countOf_113 : decode cX1_countOf 113 = .ok (.invokestatic 274, 3) := by decide +kernel
theorem dX1_countOf_116 : decode cX1_countOf 116 = .ok (.ireturn, 1) := by decide +kernel
theorem dX1_countOf_117 : decode cX1_countOf 117 = .ok (.aload_n 0, 1) := by decide +kernel
theorem dX1_countOf_118 : decode cX1_countOf 118 = .ok (.getfield 46, 3) := by decide +kernel
theorem dX1_countOf_121 : decode cX1_countOf 121 = .ok (.invokestatic 274, 3) := by decide +kernel
theorem dX1_countOf_124 : decode cX1_countOf 124 = .ok (.ireturn, 1) := by decide +kernel
theorem dX1_countOf_125 : decode cX1_countOf 125 = .ok (.aload_n 0, 1) := by decide +kernel
theorem dX1_countOf_126 : decode cX1_countOf 126 = .ok (.getfield 29, 3) := by decide +kernel
theorem dX1_countOf_129 : decode cX1_countOf 129 = .ok (.iconst 1, 1) := by decide +kernel
theorem dX1_countOf_130 : decode cX1_countOf 130 = .ok (.invokevirtual 278, 3) := by decide +kernel
theorem dX1_countOf_133 : decode cX1_countOf 133 = .ok (.ireturn, 1) := by decide +kernel
theorem dX1_countOf_134 : decode cX1_countOf 134 = .ok (.aload_n 0, 1) := by decide +kernel
theorem dX1_countOf_135 : decode cX1_countOf 135 = .ok (.getfield 29, 3) := by decide +kernel
theorem dX1_countOf_138 : decode cX1_countOf 138 = .ok (.iconst 2, 1) := by decide +kernel
theorem dX1_countOf_139 : decode cX1_countOf 139 = .ok (.invokevirtual 278, 3) := by decide +kernel
theorem dX1_countOf_142 : decode cX1_countOf 142 = .ok (.ireturn, 1) := by decide +kernel
theorem dX1_present_0 : decode cX1_present 0 = .ok (.iconst 0, 1) := by decide +kernel
theorem dX1_present_1 : decode cX1_present 1 = .ok (.istore_n 1, 1) := by decide +kernel
theorem dX1_present_2 : decode cX1_present 2 = .ok (.aload_n 0, 1) := by decide +kernel
theorem dX1_present_3 : decode cX1_present 3 = .ok (.astore_n 2, 1) := by decide +kernel
theorem dX1_present_4 : decode cX1_present 4 = .ok (.aload_n 2, 1) := by decide +kernel
theorem dX1_present_5 : decode cX1_present 5 = .ok (.arraylength, 1) := by decide +kernel
theorem dX1_present_6 : decode cX1_present 6 = .ok (.istore_n 3, 1) := by decide +kernel
theorem dX1_present_7 : decode cX1_present 7 = .ok (.iconst 0, 1) := by decide +kernel
theorem dX1_present_8 : decode cX1_present 8 = .ok (.istore 4, 2) := by decide +kernel
theorem dX1_present_10 : decode cX1_present 10 = .ok (.iload 4, 2) := by decide +kernel
theorem dX1_present_12 : decode cX1_present 12 = .ok (.iload_n 3, 1) := by decide +kernel
theorem dX1_present_13 : decode cX1_present 13 = .ok (.if_icmp .ge 24, 3) := by decide +kernel
theorem dX1_present_16 : decode cX1_present 16 = .ok (.aload_n 2, 1) := by decide +kernel
theorem dX1_present_17 : decode cX1_present 17 = .ok (.iload 4, 2) := by decide +kernel
theorem dX1_present_19 : decode cX1_present 19 = .ok (.iaload, 1) := by decide +kernel
theorem dX1_present_20 : decode cX1_present 20 = .ok (.istore 5, 2) := by decide +kernel
theorem dX1_present_22 : decode cX1_present 22 = .ok (.iload 5, 2) := by decide +kernel
theorem dX1_present_24 : decode cX1_present 24 = .ok (.iconst (-1), 1) := by decide +kernel
theorem dX1_present_25 : decode cX1_present 25 = .ok (.if_icmp .eq 6, 3) := by decide +kernel
theorem dX1_present_28 : decode cX1_present 28 = .ok (.iinc 1 1, 3) := by decide +kernel
theorem dX1_present_31 : decode cX1_present 31 = .ok (.iinc 4 1, 3) := by decide +kernel
theorem dX1_present_34 : decode cX1_present 34 = .ok (.goto (-24), 3) := by decide +kernel
theorem dX1_present_37 : decode cX1_present 37 = .ok (.iload_n 1, 1) := by decide +kernel
theorem dX1_present_38 : decode cX1_present 38 = .ok (.ireturn, 1) := by decide +kernel
