/-! what each instruction is: the law -/
theorem dL_town_0 : decode cL_town 0 = .ok (.aload_n 1, 1) := by decide +kernel
theorem dL_town_1 : decode cL_town 1 = .ok (.iconst 0, 1) := by decide +kernel
theorem dL_town_2 : decode cL_town 2 = .ok (.aload_n 0, 1) := by decide +kernel
theorem dL_town_3 : decode cL_town 3 = .ok (.invokevirtual 7, 3) := by decide +kernel
theorem dL_town_6 : decode cL_town 6 = .ok (.i2l, 1) := by decide +kernel
theorem dL_town_7 : decode cL_town 7 = .ok (.lastore, 1) := by decide +kernel
theorem dL_town_8 : decode cL_town 8 = .ok (.goto 9, 3) := by decide +kernel
theorem dL_town_11 : decode cL_town 11 = .ok (.astore_n 2, 1) := by decide +kernel
theorem dL_town_12 : decode cL_town 12 = .ok (.iconst 1, 1) := by decide +kernel
theorem dL_town_13 : decode cL_town 13 = .ok (.ireturn, 1) := by decide +kernel
theorem dL_town_14 : decode cL_town 14 = .ok (.astore_n 2, 1) := by decide +kernel
theorem dL_town_15 : decode cL_town 15 = .ok (.iconst 2, 1) := by decide +kernel
theorem dL_town_16 : decode cL_town 16 = .ok (.ireturn, 1) := by decide +kernel
theorem dL_town_17 : decode cL_town 17 = .ok (.iconst 0, 1) := by decide +kernel
theorem dL_town_18 : decode cL_town 18 = .ok (.ireturn, 1) := by decide +kernel
theorem dL_law_0 : decode cL_law 0 = .ok (.aload_n 1, 1) := by decide +kernel
theorem dL_law_1 : decode cL_law 1 = .ok (.iconst 0, 1) := by decide +kernel
theorem dL_law_2 : decode cL_law 2 = .ok (.aload_n 0, 1) := by decide +kernel
theorem dL_law_3 : decode cL_law 3 = .ok (.invokevirtual 17, 3) := by decide +kernel
theorem dL_law_6 : decode cL_law 6 = .ok (.i2l, 1) := by decide +kernel
theorem dL_law_7 : decode cL_law 7 = .ok (.lastore, 1) := by decide +kernel
theorem dL_law_8 : decode cL_law 8 = .ok (.goto 6, 3) := by decide +kernel
theorem dL_law_11 : decode cL_law 11 = .ok (.astore_n 2, 1) := by decide +kernel
theorem dL_law_12 : decode cL_law 12 = .ok (.iconst 1, 1) := by decide +kernel
theorem dL_law_13 : decode cL_law 13 = .ok (.ireturn, 1) := by decide +kernel
theorem dL_law_14 : decode cL_law 14 = .ok (.iconst 0, 1) := by decide +kernel
theorem dL_law_15 : decode cL_law 15 = .ok (.ireturn, 1) := by decide +kernel
theorem dL_family_0 : decode cL_family 0 = .ok (.aload_n 3, 1) := by decide +kernel
theorem dL_family_1 : decode cL_family 1 = .ok (.iconst 0, 1) := by decide +kernel
theorem dL_family_2 : decode cL_family 2 = .ok (.aload_n 0, 1) := by decide +kernel
theorem dL_family_3 : decode cL_family 3 = .ok (.iload_n 1, 1) := by decide +kernel
theorem dL_family_4 : decode cL_family 4 = .ok (.iload_n 2, 1) := by decide +kernel
theorem dL_family_5 : decode cL_family 5 = .ok (.invokevirtual 20, 3) := by decide +kernel
theorem dL_family_8 : decode cL_family 8 = .ok (.i2l, 1) := by decide +kernel
theorem dL_family_9 : decode cL_family 9 = .ok (.lastore, 1) := by decide +kernel
theorem dL_family_10 : decode cL_family 10 = .ok (.goto 11, 3) := by decide +kernel
theorem dL_family_13 : decode cL_family 13 = .ok (.astore 4, 2) := by decide +kernel
theorem dL_family_15 : decode cL_family 15 = .ok (.iconst 1, 1) := by decide +kernel
theorem dL_family_16 : decode cL_family 16 = .ok (.ireturn, 1) := by decide +kernel
theorem dL_family_17 : decode cL_family 17 = .ok (.astore 4, 2) := by decide +kernel
theorem dL_family_19 : decode cL_family 19 = .ok (.iconst 2, 1) := by decide +kernel
theorem dL_family_20 : decode cL_family 20 = .ok (.ireturn, 1) := by decide +kernel
theorem dL_family_21 : decode cL_family 21 = .ok (.iconst 0, 1) := by decide +kernel
theorem dL_family_22 : decode cL_family 22 = .ok (.ireturn, 1) := by decide +kernel
theorem dL_grudge_0 : decode cL_grudge 0 = .ok (.aload_n 3, 1) := by decide +kernel
theorem dL_grudge_1 : decode cL_grudge 1 = .ok (.iconst 0, 1) := by decide +kernel
theorem dL_grudge_2 : decode cL_grudge 2 = .ok (.aload_n 0, 1) := by decide +kernel
theorem dL_grudge_3 : decode cL_grudge 3 = .ok (.iload_n 1, 1) := by decide +kernel
theorem dL_grudge_4 : decode cL_grudge 4 = .ok (.iload_n 2, 1) := by decide +kernel
theorem dL_grudge_5 : decode cL_grudge 5 = .ok (.invokevirtual 28, 3) := by decide +kernel
theorem dL_grudge_8 : decode cL_grudge 8 = .ok (.i2l, 1) := by decide +kernel
theorem dL_grudge_9 : decode cL_grudge 9 = .ok (.lastore, 1) := by decide +kernel
theorem dL_grudge_10 : decode cL_grudge 10 = .ok (.goto 11, 3) := by decide +kernel
theorem dL_grudge_13 : decode cL_grudge 13 = .ok (.astore 4, 2) := by decide +kernel
theorem dL_grudge_15 : decode cL_grudge 15 = .ok (.iconst 1, 1) := by decide +kernel
theorem dL_grudge_16 : decode cL_grudge 16 = .ok (.ireturn, 1) := by decide +kernel
theorem dL_grudge_17 : decode cL_grudge 17 = .ok (.astore 4, 2) := by decide +kernel
theorem dL_grudge_19 : decode cL_grudge 19 = .ok (.iconst 2, 1) := by decide +kernel
theorem dL_grudge_20 : decode cL_grudge 20 = .ok (.ireturn, 1) := by decide +kernel
theorem dL_grudge_21 : decode cL_grudge 21 = .ok (.iconst 0, 1) := by decide +kernel
theorem dL_grudge_22 : decode cL_grudge 22 = .ok (.ireturn, 1) := by decide +kernel
theorem dL_slight_0 : decode cL_slight 0 = .ok (.aload_n 3, 1) := by decide +kernel
theorem dL_slight_1 : decode cL_slight 1 = .ok (.iconst 0, 1) := by decide +kernel
theorem dL_slight_2 : decode cL_slight 2 = .ok (.aload_n 0, 1) := by decide +kernel
theorem dL_slight_3 : decode cL_slight 3 = .ok (.iload_n 1, 1) := by decide +kernel
theorem dL_slight_4 : decode cL_slight 4 = .ok (.iload_n 2, 1) := by decide +kernel
theorem dL_slight_5 : decode cL_slight 5 = .ok (.invokevirtual 31, 3) := by decide +kernel
theorem dL_slight_8 : decode cL_slight 8 = .ok (.i2l, 1) := by decide +kernel
theorem dL_slight_9 : decode cL_slight 9 = .ok (.lastore, 1) := by decide +kernel
theorem dL_slight_10 : decode cL_slight 10 = .ok (.goto 11, 3) := by decide +kernel
theorem dL_slight_13 : decode cL_slight 13 = .ok (.astore 4, 2) := by decide +kernel
theorem dL_slight_15 : decode cL_slight 15 = .ok (.iconst 1, 1) := by decide +kernel
theorem dL_slight_16 : decode cL_slight 16 = .ok (.ireturn, 1) := by decide +kernel
theorem dL_slight_17 : decode cL_slight 17 = .ok (.astore 4, 2) := by decide +kernel
theorem dL_slight_19 : decode cL_slight 19 = .ok (.iconst 2, 1) := by decide +kernel
theorem dL_slight_20 : decode cL_slight 20 = .ok (.ireturn, 1) := by decide +kernel
theorem dL_slight_21 : decode cL_slight 21 = .ok (.iconst 0, 1) := by decide +kernel
theorem dL_slight_22 : decode cL_slight 22 = .ok (.ireturn, 1) := by decide +kernel
theorem dL_heat_0 : decode cL_heat 0 = .ok (.aload_n 2, 1) := by decide +kernel
theorem dL_heat_1 : decode cL_heat 1 = .ok (.iconst 0, 1) := by decide +kernel
theorem dL_heat_2 : decode cL_heat 2 = .ok (.aload_n 0, 1) := by decide +kernel
theorem dL_heat_3 : decode cL_heat 3 = .ok (.iload_n 1, 1) := by decide +kernel
theorem dL_heat_4 : decode cL_heat 4 = .ok (.invokevirtual 34, 3) := by decide +kernel
theorem dL_heat_7 : decode cL_heat 7 = .ok (.i2l, 1) := by decide +kernel
theorem dL_heat_8 : decode cL_heat 8 = .ok (.lastore, 1) := by decide +kernel
theorem dL_heat_9 : decode cL_heat 9 = .ok (.goto 6, 3) := by decide +kernel
theorem dL_heat_12 : decode cL_heat 12 = .ok (.astore_n 3, 1) := by decide +kernel
theorem dL_heat_13 : decode cL_heat 13 = .ok (.iconst 1, 1) := by decide +kernel
theorem dL_heat_14 : decode cL_heat 14 = .ok (.ireturn, 1) := by decide +kernel
theorem dL_heat_15 : decode cL_heat 15 = .ok (.iconst 0, 1) := by decide +kernel
theorem dL_heat_16 : decode cL_heat 16 = .ok (.ireturn, 1) := by decide +kernel
theorem dL_seasons_0 : decode cL_seasons 0 = .ok (.aload_n 2, 1) := by decide +kernel
theorem dL_seasons_1 : decode cL_seasons 1 = .ok (.iconst 0, 1) := by decide +kernel
theorem dL_seasons_2 : decode cL_seasons 2 = .ok (.aload_n 0, 1) := by decide +kernel
theorem dL_seasons_3 : decode cL_seasons 3 = .ok (.iload_n 1, 1) := by decide +kernel
theorem dL_seasons_4 : decode cL_seasons 4 = .ok (.invokevirtual 38, 3) := by decide +kernel
theorem dL_seasons_7 : decode cL_seasons 7 = .ok (.i2l, 1) := by decide +kernel
theorem dL_seasons_8 : decode cL_seasons 8 = .ok (.lastore, 1) := by decide +kernel
theorem dL_seasons_9 : decode cL_seasons 9 = .ok (.goto 6, 3) := by decide +kernel
theorem dL_seasons_12 : decode cL_seasons 12 = .ok (.astore_n 3, 1) := by decide +kernel
theorem dL_seasons_13 : decode cL_seasons 13 = .ok (.iconst 1, 1) := by decide +kernel
theorem dL_seasons_14 : decode cL_seasons 14 = .ok (.ireturn, 1) := by decide +kernel
theorem dL_seasons_15 : decode cL_seasons 15 = .ok (.iconst 0, 1) := by decide +kernel
theorem dL_seasons_16 : decode cL_seasons 16 = .ok (.ireturn, 1) := by decide +kernel
theorem dL_insult_0 : decode cL_insult 0 = .ok (.aload 4, 2) := by decide +kernel
theorem dL_insult_2 : decode cL_insult 2 = .ok (.iconst 0, 1) := by decide +kernel
theorem dL_insult_3 : decode cL_insult 3 = .ok (.aload_n 0, 1) := by decide +kernel
theorem dL_insult_4 : decode cL_insult 4 = .ok (.iload_n 1, 1) := by decide +kernel
theorem dL_insult_5 : decode cL_insult 5 = .ok (.iload_n 2, 1) := by decide +kernel
theorem dL_insult_6 : decode cL_insult 6 = .ok (.iload_n 3, 1) := by decide +kernel
theorem dL_insult_7 : decode cL_insult 7 = .ok (.invokevirtual 41, 3) := by decide +kernel
theorem dL_insult_10 : decode cL_insult 10 = .ok (.i2l, 1) := by decide +kernel
theorem dL_insult_11 : decode cL_insult 11 = .ok (.lastore, 1) := by decide +kernel
theorem dL_insult_12 : decode cL_insult 12 = .ok (.goto 15, 3) := by decide +kernel
theorem dL_insult_15 : decode cL_insult 15 = .ok (.astore 5, 2) := by decide +kernel
theorem dL_insult_17 : decode cL_insult 17 = .ok (.iconst 1, 1) := by decide +kernel
theorem dL_insult_18 : decode cL_insult 18 = .ok (.ireturn, 1) := by decide +kernel
theorem dL_insult_19 : decode cL_insult 19 = .ok (.astore 5, 2) := by decide +kernel
theorem dL_insult_21 : decode cL_insult 21 = .ok (.iconst 2, 1) := by decide +kernel
theorem dL_insult_22 : decode cL_insult 22 = .ok (.ireturn, 1) := by decide +kernel
theorem dL_insult_23 : decode cL_insult 23 = .ok (.astore 5, 2) := by decide +kernel
theorem dL_insult_25 : decode cL_insult 25 = .ok (.iconst 3, 1) := by decide +kernel
theorem dL_insult_26 : decode cL_insult 26 = .ok (.ireturn, 1) := by decide +kernel
theorem dL_insult_27 : decode cL_insult 27 = .ok (.iconst 0, 1) := by decide +kernel
theorem dL_insult_28 : decode cL_insult 28 = .ok (.ireturn, 1) := by decide +kernel
theorem dL_forgive_0 : decode cL_forgive 0 = .ok (.aload_n 2, 1) := by decide +kernel
theorem dL_forgive_1 : decode cL_forgive 1 = .ok (.iconst 0, 1) := by decide +kernel
theorem dL_forgive_2 : decode cL_forgive 2 = .ok (.aload_n 0, 1) := by decide +kernel
theorem dL_forgive_3 : decode cL_forgive 3 = .ok (.iload_n 1, 1) := by decide +kernel
theorem dL_forgive_4 : decode cL_forgive 4 = .ok (.invokevirtual 47, 3) := by decide +kernel
theorem dL_forgive_7 : decode cL_forgive 7 = .ok (.i2l, 1) := by decide +kernel
theorem dL_forgive_8 : decode cL_forgive 8 = .ok (.lastore, 1) := by decide +kernel
theorem dL_forgive_9 : decode cL_forgive 9 = .ok (.goto 9, 3) := by decide +kernel
theorem dL_forgive_12 : decode cL_forgive 12 = .ok (.astore_n 3, 1) := by decide +kernel
theorem dL_forgive_13 : decode cL_forgive 13 = .ok (.iconst 1, 1) := by decide +kernel
theorem dL_forgive_14 : decode cL_forgive 14 = .ok (.ireturn, 1) := by decide +kernel
theorem dL_forgive_15 : decode cL_forgive 15 = .ok (.astore_n 3, 1) := by decide +kernel
theorem dL_forgive_16 : decode cL_forgive 16 = .ok (.iconst 2, 1) := by decide +kernel
theorem dL_forgive_17 : decode cL_forgive 17 = .ok (.ireturn, 1) := by decide +kernel
theorem dL_forgive_18 : decode cL_forgive 18 = .ok (.iconst 0, 1) := by decide +kernel
theorem dL_forgive_19 : decode cL_forgive 19 = .ok (.ireturn, 1) := by decide +kernel
theorem dL_nurse_0 : decode cL_nurse 0 = .ok (.aload_n 3, 1) := by decide +kernel
theorem dL_nurse_1 : decode cL_nurse 1 = .ok (.iconst 0, 1) := by decide +kernel
theorem dL_nurse_2 : decode cL_nurse 2 = .ok (.aload_n 0, 1) := by decide +kernel
theorem dL_nurse_3 : decode cL_nurse 3 = .ok (.iload_n 1, 1) := by decide +kernel
theorem dL_nurse_4 : decode cL_nurse 4 = .ok (.iload_n 2, 1) := by decide +kernel
theorem dL_nurse_5 : decode cL_nurse 5 = .ok (.invokevirtual 50, 3) := by decide +kernel
theorem dL_nurse_8 : decode cL_nurse 8 = .ok (.ifCond .eq 7, 3) := by decide +kernel
theorem dL_nurse_11 : decode cL_nurse 11 = .ok (.lconst 1, 1) := by decide +kernel
theorem dL_nurse_12 : decode cL_nurse 12 = .ok (.goto 4, 3) := by decide +kernel
theorem dL_nurse_15 : decode cL_nurse 15 = .ok (.lconst 0, 1) := by decide +kernel
theorem dL_nurse_16 : decode cL_nurse 16 = .ok (.lastore, 1) := by decide +kernel
theorem dL_nurse_17 : decode cL_nurse 17 = .ok (.goto 11, 3) := by decide +kernel
theorem dL_nurse_20 : decode cL_nurse 20 = .ok (.astore 4, 2) := by decide +kernel
theorem dL_nurse_22 : decode cL_nurse 22 = .ok (.iconst 1, 1) := by decide +kernel
theorem dL_nurse_23 : decode cL_nurse 23 = .ok (.ireturn, 1) := by decide +kernel
theorem dL_nurse_24 : decode cL_nurse 24 = .ok (.astore 4, 2) := by decide +kernel
theorem dL_nurse_26 : decode cL_nurse 26 = .ok (.iconst 2, 1) := by decide +kernel
theorem dL_nurse_27 : decode cL_nurse 27 = .ok (.ireturn, 1) := by decide +kernel
theorem dL_nurse_28 : decode cL_nurse 28 = .ok (.iconst 0, 1) := by decide +kernel
theorem dL_nurse_29 : decode cL_nurse 29 = .ok (.ireturn, 1) := by decide +kernel
theorem dL_saw_0 : decode cL_saw 0 = .ok (.aload 4, 2) := by decide +kernel
theorem dL_saw_2 : decode cL_saw 2 = .ok (.iconst 0, 1) := by decide +kernel
theorem dL_saw_3 : decode cL_saw 3 = .ok (.aload_n 0, 1) := by decide +kernel
theorem dL_saw_4 : decode cL_saw 4 = .ok (.iload_n 1, 1) := by decide +kernel
theorem dL_saw_5 : decode cL_saw 5 = .ok (.iload_n 2, 1) := by decide +kernel
theorem dL_saw_6 : decode cL_saw 6 = .ok (.iload_n 3, 1) := by decide +kernel
theorem dL_saw_7 : decode cL_saw 7 = .ok (.invokevirtual 54, 3) := by decide +kernel
theorem dL_saw_10 : decode cL_saw 10 = .ok (.i2l, 1) := by decide +kernel
theorem dL_saw_11 : decode cL_saw 11 = .ok (.lastore, 1) := by decide +kernel
theorem dL_saw_12 : decode cL_saw 12 = .ok (.goto 15, 3) := by decide +kernel
theorem dL_saw_15 : decode cL_saw 15 = .ok (.astore 5, 2) := by decide +kernel
theorem dL_saw_17 : decode cL_saw 17 = .ok (.iconst 1, 1) := by decide +kernel
theorem dL_saw_18 : decode cL_saw 18 = .ok (.ireturn, 1) := by decide +kernel
theorem dL_saw_19 : decode cL_saw 19 = .ok (.astore 5, 2) := by decide +kernel
theorem dL_saw_21 : decode cL_saw 21 = .ok (.iconst 2, 1) := by decide +kernel
theorem dL_saw_22 : decode cL_saw 22 = .ok (.ireturn, 1) := by decide +kernel
theorem dL_saw_23 : decode cL_saw 23 = .ok (.astore 5, 2) := by decide +kernel
theorem dL_saw_25 : decode cL_saw 25 = .ok (.iconst 3, 1) := by decide +kernel
theorem dL_saw_26 : decode cL_saw 26 = .ok (.ireturn, 1) := by decide +kernel
theorem dL_saw_27 : decode cL_saw 27 = .ok (.iconst 0, 1) := by decide +kernel
theorem dL_saw_28 : decode cL_saw 28 = .ok (.ireturn, 1) := by decide +kernel
theorem dL_store_0 : decode cL_store 0 = .ok (.aload_n 3, 1) := by decide +kernel
theorem dL_store_1 : decode cL_store 1 = .ok (.iconst 0, 1) := by decide +kernel
theorem dL_store_2 : decode cL_store 2 = .ok (.aload_n 0, 1) := by decide +kernel
theorem dL_store_3 : decode cL_store 3 = .ok (.iload_n 1, 1) := by decide +kernel
theorem dL_store_4 : decode cL_store 4 = .ok (.iload_n 2, 1) := by decide +kernel
theorem dL_store_5 : decode cL_store 5 = .ok (.invokevirtual 57, 3) := by decide +kernel
theorem dL_store_8 : decode cL_store 8 = .ok (.i2l, 1) := by decide +kernel
theorem dL_store_9 : decode cL_store 9 = .ok (.lastore, 1) := by decide +kernel
theorem dL_store_10 : decode cL_store 10 = .ok (.goto 15, 3) := by decide +kernel
theorem dL_store_13 : decode cL_store 13 = .ok (.astore 4, 2) := by decide +kernel
theorem dL_store_15 : decode cL_store 15 = .ok (.iconst 1, 1) := by decide +kernel
theorem dL_store_16 : decode cL_store 16 = .ok (.ireturn, 1) := by decide +kernel
theorem dL_store_17 : decode cL_store 17 = .ok (.astore 4, 2) := by decide +kernel
theorem dL_store_19 : decode cL_store 19 = .ok (.iconst 2, 1) := by decide +kernel
theorem dL_store_20 : decode cL_store 20 = .ok (.ireturn, 1) := by decide +kernel
theorem dL_store_21 : decode cL_store 21 = .ok (.astore 4, 2) := by decide +kernel
theorem dL_store_23 : decode cL_store 23 = .ok (.iconst 3, 1) := by decide +kernel
theorem dL_store_24 : decode cL_store 24 = .ok (.ireturn, 1) := by decide +kernel
theorem dL_store_25 : decode cL_store 25 = .ok (.iconst 0, 1) := by decide +kernel
theorem dL_store_26 : decode cL_store 26 = .ok (.ireturn, 1) := by decide +kernel
theorem dL_deliver_0 : decode cL_deliver 0 = .ok (.aload_n 3, 1) := by decide +kernel
theorem dL_deliver_1 : decode cL_deliver 1 = .ok (.iconst 0, 1) := by decide +kernel
theorem dL_deliver_2 : decode cL_deliver 2 = .ok (.aload_n 0, 1) := by decide +kernel
theorem dL_deliver_3 : decode cL_deliver 3 = .ok (.iload_n 1, 1) := by decide +kernel
theorem dL_deliver_4 : decode cL_deliver 4 = .ok (.iload_n 2, 1) := by decide +kernel
theorem dL_deliver_5 : decode cL_deliver 5 = .ok (.invokevirtual 60, 3) := by decide +kernel
theorem dL_deliver_8 : decode cL_deliver 8 = .ok (.i2l, 1) := by decide +kernel
theorem dL_deliver_9 : decode cL_deliver 9 = .ok (.lastore, 1) := by decide +kernel
theorem dL_deliver_10 : decode cL_deliver 10 = .ok (.goto 15, 3) := by decide +kernel
theorem dL_deliver_13 : decode cL_deliver 13 = .ok (.astore 4, 2) := by decide +kernel
theorem dL_deliver_15 : decode cL_deliver 15 = .ok (.iconst 1, 1) := by decide +kernel
theorem dL_deliver_16 : decode cL_deliver 16 = .ok (.ireturn, 1) := by decide +kernel
theorem dL_deliver_17 : decode cL_deliver 17 = .ok (.astore 4, 2) := by decide +kernel
theorem dL_deliver_19 : decode cL_deliver 19 = .ok (.iconst 2, 1) := by decide +kernel
theorem dL_deliver_20 : decode cL_deliver 20 = .ok (.ireturn, 1) := by decide +kernel
theorem dL_deliver_21 : decode cL_deliver 21 = .ok (.astore 4, 2) := by decide +kernel
theorem dL_deliver_23 : decode cL_deliver 23 = .ok (.iconst 3, 1) := by decide +kernel
theorem dL_deliver_24 : decode cL_deliver 24 = .ok (.ireturn, 1) := by decide +kernel
theorem dL_deliver_25 : decode cL_deliver 25 = .ok (.iconst 0, 1) := by decide +kernel
theorem dL_deliver_26 : decode cL_deliver 26 = .ok (.ireturn, 1) := by decide +kernel
theorem dL_thaw_0 : decode cL_thaw 0 = .ok (.aload_n 2, 1) := by decide +kernel
theorem dL_thaw_1 : decode cL_thaw 1 = .ok (.iconst 0, 1) := by decide +kernel
theorem dL_thaw_2 : decode cL_thaw 2 = .ok (.aload_n 0, 1) := by decide +kernel
theorem dL_thaw_3 : decode cL_thaw 3 = .ok (.iload_n 1, 1) := by decide +kernel
theorem dL_thaw_4 : decode cL_thaw 4 = .ok (.invokevirtual 63, 3) := by decide +kernel
theorem dL_thaw_7 : decode cL_thaw 7 = .ok (.i2l, 1) := by decide +kernel
theorem dL_thaw_8 : decode cL_thaw 8 = .ok (.lastore, 1) := by decide +kernel
theorem dL_thaw_9 : decode cL_thaw 9 = .ok (.goto 6, 3) := by decide +kernel
theorem dL_thaw_12 : decode cL_thaw 12 = .ok (.astore_n 3, 1) := by decide +kernel
theorem dL_thaw_13 : decode cL_thaw 13 = .ok (.iconst 1, 1) := by decide +kernel
theorem dL_thaw_14 : decode cL_thaw 14 = .ok (.ireturn, 1) := by decide +kernel
theorem dL_thaw_15 : decode cL_thaw 15 = .ok (.iconst 0, 1) := by decide +kernel
theorem dL_thaw_16 : decode cL_thaw 16 = .ok (.ireturn, 1) := by decide +kernel
theorem dL_cuts_0 : decode cL_cuts 0 = .ok (.aload_n 2, 1) := by decide +kernel
theorem dL_cuts_1 : decode cL_cuts 1 = .ok (.iconst 0, 1) := by decide +kernel
theorem dL_cuts_2 : decode cL_cuts 2 = .ok (.aload_n 0, 1) := by decide +kernel
theorem dL_cuts_3 : decode cL_cuts 3 = .ok (.iload_n 1, 1) := by decide +kernel
theorem dL_cuts_4 : decode cL_cuts 4 = .ok (.invokevirtual 66, 3) := by decide +kernel
theorem dL_cuts_7 : decode cL_cuts 7 = .ok (.i2l, 1) := by decide +kernel
theorem dL_cuts_8 : decode cL_cuts 8 = .ok (.lastore, 1) := by decide +kernel
theorem dL_cuts_9 : decode cL_cuts 9 = .ok (.goto 6, 3) := by decide +kernel
theorem dL_cuts_12 : decode cL_cuts 12 = .ok (.astore_n 3, 1) := by decide +kernel
theorem dL_cuts_13 : decode cL_cuts 13 = .ok (.iconst 1, 1) := by decide +kernel
theorem dL_cuts_14 : decode cL_cuts 14 = .ok (.ireturn, 1) := by decide +kernel
theorem dL_cuts_15 : decode cL_cuts 15 = .ok (.iconst 0, 1) := by decide +kernel
theorem dL_cuts_16 : decode cL_cuts 16 = .ok (.ireturn, 1) := by decide +kernel
theorem dL_ask_0 : decode cL_ask 0 = .ok (.aload_n 1, 1) := by decide +kernel
theorem dL_ask_1 : decode cL_ask 1 = .ok (.iconst 0, 1) := by decide +kernel
theorem dL_ask_2 : decode cL_ask 2 = .ok (.aload_n 0, 1) := by decide +kernel
theorem dL_ask_3 : decode cL_ask 3 = .ok (.invokevirtual 70, 3) := by decide +kernel
theorem dL_ask_6 : decode cL_ask 6 = .ok (.i2l, 1) := by decide +kernel
theorem dL_ask_7 : decode cL_ask 7 = .ok (.lastore, 1) := by decide +kernel
theorem dL_ask_8 : decode cL_ask 8 = .ok (.goto 6, 3) := by decide +kernel
theorem dL_ask_11 : decode cL_ask 11 = .ok (.astore_n 2, 1) := by decide +kernel
theorem dL_ask_12 : decode cL_ask 12 = .ok (.iconst 1, 1) := by decide +kernel
theorem dL_ask_13 : decode cL_ask 13 = .ok (.ireturn, 1) := by decide +kernel
theorem dL_ask_14 : decode cL_ask 14 = .ok (.iconst 0, 1) := by decide +kernel
theorem dL_ask_15 : decode cL_ask 15 = .ok (.ireturn, 1) := by decide +kernel
theorem dL_steps_0 : decode cL_steps 0 = .ok (.aload_n 3, 1) := by decide +kernel
theorem dL_steps_1 : decode cL_steps 1 = .ok (.iconst 0, 1) := by decide +kernel
theorem dL_steps_2 : decode cL_steps 2 = .ok (.aload_n 0, 1) := by decide +kernel
theorem dL_steps_3 : decode cL_steps 3 = .ok (.iload_n 1, 1) := by decide +kernel
theorem dL_steps_4 : decode cL_steps 4 = .ok (.iload_n 2, 1) := by decide +kernel
theorem dL_steps_5 : decode cL_steps 5 = .ok (.invokevirtual 73, 3) := by decide +kernel
theorem dL_steps_8 : decode cL_steps 8 = .ok (.i2l, 1) := by decide +kernel
theorem dL_steps_9 : decode cL_steps 9 = .ok (.lastore, 1) := by decide +kernel
theorem dL_steps_10 : decode cL_steps 10 = .ok (.goto 7, 3) := by decide +kernel
theorem dL_steps_13 : decode cL_steps 13 = .ok (.astore 4, 2) := by decide +kernel
theorem dL_steps_15 : decode cL_steps 15 = .ok (.iconst 1, 1) := by decide +kernel
theorem dL_steps_16 : decode cL_steps 16 = .ok (.ireturn, 1) := by decide +kernel
theorem dL_steps_17 : decode cL_steps 17 = .ok (.iconst 0, 1) := by decide +kernel
theorem dL_steps_18 : decode cL_steps 18 = .ok (.ireturn, 1) := by decide +kernel
theorem dL_ring_0 : decode cL_ring 0 = .ok (.aload_n 2, 1) := by decide +kernel
theorem dL_ring_1 : decode cL_ring 1 = .ok (.iconst 0, 1) := by decide +kernel
theorem dL_ring_2 : decode cL_ring 2 = .ok (.aload_n 0, 1) := by decide +kernel
theorem dL_ring_3 : decode cL_ring 3 = .ok (.iload_n 1, 1) := by decide +kernel
theorem dL_ring_4 : decode cL_ring 4 = .ok (.invokevirtual 76, 3) := by decide +kernel
theorem dL_ring_7 : decode cL_ring 7 = .ok (.ifCond .eq 7, 3) := by decide +kernel
theorem dL_ring_10 : decode cL_ring 10 = .ok (.lconst 1, 1) := by decide +kernel
theorem dL_ring_11 : decode cL_ring 11 = .ok (.goto 4, 3) := by decide +kernel
theorem dL_ring_14 : decode cL_ring 14 = .ok (.lconst 0, 1) := by decide +kernel
theorem dL_ring_15 : decode cL_ring 15 = .ok (.lastore, 1) := by decide +kernel
theorem dL_ring_16 : decode cL_ring 16 = .ok (.goto 6, 3) := by decide +kernel
theorem dL_ring_19 : decode cL_ring 19 = .ok (.astore_n 3, 1) := by decide +kernel
theorem dL_ring_20 : decode cL_ring 20 = .ok (.iconst 1, 1) := by decide +kernel
theorem dL_ring_21 : decode cL_ring 21 = .ok (.ireturn, 1) := by decide +kernel
theorem dL_ring_22 : decode cL_ring 22 = .ok (.iconst 0, 1) := by decide +kernel
theorem dL_ring_23 : decode cL_ring 23 = .ok (.ireturn, 1) := by decide +kernel
theorem dL_kisses_0 : decode cL_kisses 0 = .ok (.aload_n 2, 1) := by decide +kernel
theorem dL_kisses_1 : decode cL_kisses 1 = .ok (.iconst 0, 1) := by decide +kernel
theorem dL_kisses_2 : decode cL_kisses 2 = .ok (.aload_n 0, 1) := by decide +kernel
theorem dL_kisses_3 : decode cL_kisses 3 = .ok (.iload_n 1, 1) := by decide +kernel
theorem dL_kisses_4 : decode cL_kisses 4 = .ok (.invokevirtual 80, 3) := by decide +kernel
theorem dL_kisses_7 : decode cL_kisses 7 = .ok (.i2l, 1) := by decide +kernel
theorem dL_kisses_8 : decode cL_kisses 8 = .ok (.lastore, 1) := by decide +kernel
theorem dL_kisses_9 : decode cL_kisses 9 = .ok (.goto 6, 3) := by decide +kernel
theorem dL_kisses_12 : decode cL_kisses 12 = .ok (.astore_n 3, 1) := by decide +kernel
theorem dL_kisses_13 : decode cL_kisses 13 = .ok (.iconst 1, 1) := by decide +kernel
theorem dL_kisses_14 : decode cL_kisses 14 = .ok (.ireturn, 1) := by decide +kernel
theorem dL_kisses_15 : decode cL_kisses 15 = .ok (.iconst 0, 1) := by decide +kernel
theorem dL_kisses_16 : decode cL_kisses 16 = .ok (.ireturn, 1) := by decide +kernel
theorem dL_shares_0 : decode cL_shares 0 = .ok (.aload_n 3, 1) := by decide +kernel
theorem dL_shares_1 : decode cL_shares 1 = .ok (.iconst 0, 1) := by decide +kernel
theorem dL_shares_2 : decode cL_shares 2 = .ok (.aload_n 0, 1) := by decide +kernel
theorem dL_shares_3 : decode cL_shares 3 = .ok (.iload_n 1, 1) := by decide +kernel
theorem dL_shares_4 : decode cL_shares 4 = .ok (.iload_n 2, 1) := by decide +kernel
theorem dL_shares_5 : decode cL_shares 5 = .ok (.invokevirtual 83, 3) := by decide +kernel
theorem dL_shares_8 : decode cL_shares 8 = .ok (.i2l, 1) := by decide +kernel
theorem dL_shares_9 : decode cL_shares 9 = .ok (.lastore, 1) := by decide +kernel
theorem dL_shares_10 : decode cL_shares 10 = .ok (.goto 11, 3) := by decide +kernel
theorem dL_shares_13 : decode cL_shares 13 = .ok (.astore 4, 2) := by decide +kernel
theorem dL_shares_15 : decode cL_shares 15 = .ok (.iconst 1, 1) := by decide +kernel
theorem dL_shares_16 : decode cL_shares 16 = .ok (.ireturn, 1) := by decide +kernel
theorem dL_shares_17 : decode cL_shares 17 = .ok (.astore 4, 2) := by decide +kernel
theorem dL_shares_19 : decode cL_shares 19 = .ok (.iconst 2, 1) := by decide +kernel
theorem dL_shares_20 : decode cL_shares 20 = .ok (.ireturn, 1) := by decide +kernel
theorem dL_shares_21 : decode cL_shares 21 = .ok (.iconst 0, 1) := by decide +kernel
theorem dL_shares_22 : decode cL_shares 22 = .ok (.ireturn, 1) := by decide +kernel
theorem dL_swap_0 : decode cL_swap 0 = .ok (.aload_n 3, 1) := by decide +kernel
theorem dL_swap_1 : decode cL_swap 1 = .ok (.iconst 0, 1) := by decide +kernel
theorem dL_swap_2 : decode cL_swap 2 = .ok (.aload_n 0, 1) := by decide +kernel
theorem dL_swap_3 : decode cL_swap 3 = .ok (.iload_n 1, 1) := by decide +kernel
theorem dL_swap_4 : decode cL_swap 4 = .ok (.iload_n 2, 1) := by decide +kernel
theorem dL_swap_5 : decode cL_swap 5 = .ok (.invokevirtual 86, 3) := by decide +kernel
theorem dL_swap_8 : decode cL_swap 8 = .ok (.ifCond .eq 7, 3) := by decide +kernel
theorem dL_swap_11 : decode cL_swap 11 = .ok (.lconst 1, 1) := by decide +kernel
theorem dL_swap_12 : decode cL_swap 12 = .ok (.goto 4, 3) := by decide +kernel
theorem dL_swap_15 : decode cL_swap 15 = .ok (.lconst 0, 1) := by decide +kernel
theorem dL_swap_16 : decode cL_swap 16 = .ok (.lastore, 1) := by decide +kernel
theorem dL_swap_17 : decode cL_swap 17 = .ok (.goto 11, 3) := by decide +kernel
theorem dL_swap_20 : decode cL_swap 20 = .ok (.astore 4, 2) := by decide +kernel
theorem dL_swap_22 : decode cL_swap 22 = .ok (.iconst 1, 1) := by decide +kernel
theorem dL_swap_23 : decode cL_swap 23 = .ok (.ireturn, 1) := by decide +kernel
theorem dL_swap_24 : decode cL_swap 24 = .ok (.astore 4, 2) := by decide +kernel
theorem dL_swap_26 : decode cL_swap 26 = .ok (.iconst 2, 1) := by decide +kernel
theorem dL_swap_27 : decode cL_swap 27 = .ok (.ireturn, 1) := by decide +kernel
theorem dL_swap_28 : decode cL_swap 28 = .ok (.iconst 0, 1) := by decide +kernel
theorem dL_swap_29 : decode cL_swap 29 = .ok (.ireturn, 1) := by decide +kernel
theorem dL_rests_0 : decode cL_rests 0 = .ok (.aload_n 2, 1) := by decide +kernel
theorem dL_rests_1 : decode cL_rests 1 = .ok (.iconst 0, 1) := by decide +kernel
theorem dL_rests_2 : decode cL_rests 2 = .ok (.aload_n 0, 1) := by decide +kernel
theorem dL_rests_3 : decode cL_rests 3 = .ok (.iload_n 1, 1) := by decide +kernel
theorem dL_rests_4 : decode cL_rests 4 = .ok (.invokevirtual 90, 3) := by decide +kernel
theorem dL_rests_7 : decode cL_rests 7 = .ok (.i2l, 1) := by decide +kernel
theorem dL_rests_8 : decode cL_rests 8 = .ok (.lastore, 1) := by decide +kernel
theorem dL_rests_9 : decode cL_rests 9 = .ok (.goto 6, 3) := by decide +kernel
theorem dL_rests_12 : decode cL_rests 12 = .ok (.astore_n 3, 1) := by decide +kernel
theorem dL_rests_13 : decode cL_rests 13 = .ok (.iconst 1, 1) := by decide +kernel
theorem dL_rests_14 : decode cL_rests 14 = .ok (.ireturn, 1) := by decide +kernel
theorem dL_rests_15 : decode cL_rests 15 = .ok (.iconst 0, 1) := by decide +kernel
theorem dL_rests_16 : decode cL_rests 16 = .ok (.ireturn, 1) := by decide +kernel
theorem dL_odds_0 : decode cL_odds 0 = .ok (.aload_n 3, 1) := by decide +kernel
theorem dL_odds_1 : decode cL_odds 1 = .ok (.iconst 0, 1) := by decide +kernel
theorem dL_odds_2 : decode cL_odds 2 = .ok (.aload_n 0, 1) := by decide +kernel
theorem dL_odds_3 : decode cL_odds 3 = .ok (.iload_n 1, 1) := by decide +kernel
theorem dL_odds_4 : decode cL_odds 4 = .ok (.iload_n 2, 1) := by decide +kernel
theorem dL_odds_5 : decode cL_odds 5 = .ok (.invokevirtual 93, 3) := by decide +kernel
theorem dL_odds_8 : decode cL_odds 8 = .ok (.i2l, 1) := by decide +kernel
theorem dL_odds_9 : decode cL_odds 9 = .ok (.lastore, 1) := by decide +kernel
theorem dL_odds_10 : decode cL_odds 10 = .ok (.goto 7, 3) := by decide +kernel
theorem dL_odds_13 : decode cL_odds 13 = .ok (.astore 4, 2) := by decide +kernel
theorem dL_odds_15 : decode cL_odds 15 = .ok (.iconst 1, 1) := by decide +kernel
theorem dL_odds_16 : decode cL_odds 16 = .ok (.ireturn, 1) := by decide +kernel
theorem dL_odds_17 : decode cL_odds 17 = .ok (.iconst 0, 1) := by decide +kernel
theorem dL_odds_18 : decode cL_odds 18 = .ok (.ireturn, 1) := by decide +kernel
theorem dL_ahead_0 : decode cL_ahead 0 = .ok (.aload_n 3, 1) := by decide +kernel
theorem dL_ahead_1 : decode cL_ahead 1 = .ok (.iconst 0, 1) := by decide +kernel
theorem dL_ahead_2 : decode cL_ahead 2 = .ok (.aload_n 0, 1) := by decide +kernel
theorem dL_ahead_3 : decode cL_ahead 3 = .ok (.iload_n 1, 1) := by decide +kernel
theorem dL_ahead_4 : decode cL_ahead 4 = .ok (.iload_n 2, 1) := by decide +kernel
theorem dL_ahead_5 : decode cL_ahead 5 = .ok (.invokevirtual 96, 3) := by decide +kernel
theorem dL_ahead_8 : decode cL_ahead 8 = .ok (.i2l, 1) := by decide +kernel
theorem dL_ahead_9 : decode cL_ahead 9 = .ok (.lastore, 1) := by decide +kernel
theorem dL_ahead_10 : decode cL_ahead 10 = .ok (.goto 11, 3) := by decide +kernel
theorem dL_ahead_13 : decode cL_ahead 13 = .ok (.astore 4, 2) := by decide +kernel
theorem dL_ahead_15 : decode cL_ahead 15 = .ok (.iconst 1, 1) := by decide +kernel
theorem dL_ahead_16 : decode cL_ahead 16 = .ok (.ireturn, 1) := by decide +kernel
theorem dL_ahead_17 : decode cL_ahead 17 = .ok (.astore 4, 2) := by decide +kernel
theorem dL_ahead_19 : decode cL_ahead 19 = .ok (.iconst 2, 1) := by decide +kernel
theorem dL_ahead_20 : decode cL_ahead 20 = .ok (.ireturn, 1) := by decide +kernel
theorem dL_ahead_21 : decode cL_ahead 21 = .ok (.iconst 0, 1) := by decide +kernel
theorem dL_ahead_22 : decode cL_ahead 22 = .ok (.ireturn, 1) := by decide +kernel
theorem dL_larder_0 : decode cL_larder 0 = .ok (.aload_n 3, 1) := by decide +kernel
theorem dL_larder_1 : decode cL_larder 1 = .ok (.iconst 0, 1) := by decide +kernel
theorem dL_larder_2 : decode cL_larder 2 = .ok (.aload_n 0, 1) := by decide +kernel
theorem dL_larder_3 : decode cL_larder 3 = .ok (.iload_n 1, 1) := by decide +kernel
theorem dL_larder_4 : decode cL_larder 4 = .ok (.iload_n 2, 1) := by decide +kernel
theorem dL_larder_5 : decode cL_larder 5 = .ok (.invokevirtual 99, 3) := by decide +kernel
theorem dL_larder_8 : decode cL_larder 8 = .ok (.i2l, 1) := by decide +kernel
theorem dL_larder_9 : decode cL_larder 9 = .ok (.lastore, 1) := by decide +kernel
theorem dL_larder_10 : decode cL_larder 10 = .ok (.goto 11, 3) := by decide +kernel
theorem dL_larder_13 : decode cL_larder 13 = .ok (.astore 4, 2) := by decide +kernel
theorem dL_larder_15 : decode cL_larder 15 = .ok (.iconst 1, 1) := by decide +kernel
theorem dL_larder_16 : decode cL_larder 16 = .ok (.ireturn, 1) := by decide +kernel
theorem dL_larder_17 : decode cL_larder 17 = .ok (.astore 4, 2) := by decide +kernel
theorem dL_larder_19 : decode cL_larder 19 = .ok (.iconst 2, 1) := by decide +kernel
theorem dL_larder_20 : decode cL_larder 20 = .ok (.ireturn, 1) := by decide +kernel
theorem dL_larder_21 : decode cL_larder 21 = .ok (.iconst 0, 1) := by decide +kernel
theorem dL_larder_22 : decode cL_larder 22 = .ok (.ireturn, 1) := by decide +kernel
theorem dL_trial_0 : decode cL_trial 0 = .ok (.aload_n 3, 1) := by decide +kernel
theorem dL_trial_1 : decode cL_trial 1 = .ok (.iconst 0, 1) := by decide +kernel
theorem dL_trial_2 : decode cL_trial 2 = .ok (.aload_n 0, 1) := by decide +kernel
theorem dL_trial_3 : decode cL_trial 3 = .ok (.iload_n 1, 1) := by decide +kernel
theorem dL_trial_4 : decode cL_trial 4 = .ok (.iload_n 2, 1) := by decide +kernel
theorem dL_trial_5 : decode cL_trial 5 = .ok (.invokevirtual 102, 3) := by decide +kernel
theorem dL_trial_8 : decode cL_trial 8 = .ok (.i2l, 1) := by decide +kernel
theorem dL_trial_9 : decode cL_trial 9 = .ok (.lastore, 1) := by decide +kernel
theorem dL_trial_10 : decode cL_trial 10 = .ok (.goto 7, 3) := by decide +kernel
theorem dL_trial_13 : decode cL_trial 13 = .ok (.astore 4, 2) := by decide +kernel
theorem dL_trial_15 : decode cL_trial 15 = .ok (.iconst 1, 1) := by decide +kernel
theorem dL_trial_16 : decode cL_trial 16 = .ok (.ireturn, 1) := by decide +kernel
theorem dL_trial_17 : decode cL_trial 17 = .ok (.iconst 0, 1) := by decide +kernel
theorem dL_trial_18 : decode cL_trial 18 = .ok (.ireturn, 1) := by decide +kernel
theorem dL_span_0 : decode cL_span 0 = .ok (.aload_n 3, 1) := by decide +kernel
theorem dL_span_1 : decode cL_span 1 = .ok (.iconst 0, 1) := by decide +kernel
theorem dL_span_2 : decode cL_span 2 = .ok (.aload_n 0, 1) := by decide +kernel
theorem dL_span_3 : decode cL_span 3 = .ok (.iload_n 1, 1) := by decide +kernel
theorem dL_span_4 : decode cL_span 4 = .ok (.iload_n 2, 1) := by decide +kernel
theorem dL_span_5 : decode cL_span 5 = .ok (.invokevirtual 106, 3) := by decide +kernel
theorem dL_span_8 : decode cL_span 8 = .ok (.i2l, 1) := by decide +kernel
theorem dL_span_9 : decode cL_span 9 = .ok (.lastore, 1) := by decide +kernel
theorem dL_span_10 : decode cL_span 10 = .ok (.goto 7, 3) := by decide +kernel
theorem dL_span_13 : decode cL_span 13 = .ok (.astore 4, 2) := by decide +kernel
theorem dL_span_15 : decode cL_span 15 = .ok (.iconst 1, 1) := by decide +kernel
theorem dL_span_16 : decode cL_span 16 = .ok (.ireturn, 1) := by decide +kernel
theorem dL_span_17 : decode cL_span 17 = .ok (.iconst 0, 1) := by decide +kernel
theorem dL_span_18 : decode cL_span 18 = .ok (.ireturn, 1) := by decide +kernel
theorem dL_led_0 : decode cL_led 0 = .ok (.aload_n 3, 1) := by decide +kernel
theorem dL_led_1 : decode cL_led 1 = .ok (.iconst 0, 1) := by decide +kernel
theorem dL_led_2 : decode cL_led 2 = .ok (.aload_n 0, 1) := by decide +kernel
theorem dL_led_3 : decode cL_led 3 = .ok (.iload_n 1, 1) := by decide +kernel
theorem dL_led_4 : decode cL_led 4 = .ok (.iload_n 2, 1) := by decide +kernel
theorem dL_led_5 : decode cL_led 5 = .ok (.invokevirtual 109, 3) := by decide +kernel
theorem dL_led_8 : decode cL_led 8 = .ok (.i2l, 1) := by decide +kernel
theorem dL_led_9 : decode cL_led 9 = .ok (.lastore, 1) := by decide +kernel
theorem dL_led_10 : decode cL_led 10 = .ok (.goto 7, 3) := by decide +kernel
theorem dL_led_13 : decode cL_led 13 = .ok (.astore 4, 2) := by decide +kernel
theorem dL_led_15 : decode cL_led 15 = .ok (.iconst 1, 1) := by decide +kernel
theorem dL_led_16 : decode cL_led 16 = .ok (.ireturn, 1) := by decide +kernel
theorem dL_led_17 : decode cL_led 17 = .ok (.iconst 0, 1) := by decide +kernel
theorem dL_led_18 : decode cL_led 18 = .ok (.ireturn, 1) := by decide +kernel
theorem dL_log_0 : decode cL_log 0 = .ok (.aload_n 3, 1) := by decide +kernel
theorem dL_log_1 : decode cL_log 1 = .ok (.iconst 0, 1) := by decide +kernel
theorem dL_log_2 : decode cL_log 2 = .ok (.aload_n 0, 1) := by decide +kernel
theorem dL_log_3 : decode cL_log 3 = .ok (.iload_n 1, 1) := by decide +kernel
theorem dL_log_4 : decode cL_log 4 = .ok (.iload_n 2, 1) := by decide +kernel
theorem dL_log_5 : decode cL_log 5 = .ok (.invokevirtual 112, 3) := by decide +kernel
theorem dL_log_8 : decode cL_log 8 = .ok (.i2l, 1) := by decide +kernel
theorem dL_log_9 : decode cL_log 9 = .ok (.lastore, 1) := by decide +kernel
theorem dL_log_10 : decode cL_log 10 = .ok (.goto 7, 3) := by decide +kernel
theorem dL_log_13 : decode cL_log 13 = .ok (.astore 4, 2) := by decide +kernel
theorem dL_log_15 : decode cL_log 15 = .ok (.iconst 1, 1) := by decide +kernel
theorem dL_log_16 : decode cL_log 16 = .ok (.ireturn, 1) := by decide +kernel
theorem dL_log_17 : decode cL_log 17 = .ok (.iconst 0, 1) := by decide +kernel
theorem dL_log_18 : decode cL_log 18 = .ok (.ireturn, 1) := by decide +kernel
theorem dL_law__0 : decode cL_law_ 0 = .ok (.new 8, 3) := by decide +kernel
theorem dL_law__3 : decode cL_law_ 3 = .ok (.dup, 1) := by decide +kernel
theorem dL_law__4 : decode cL_law_ 4 = .ok (.invokespecial 115, 3) := by decide +kernel
theorem dL_law__7 : decode cL_law_ 7 = .ok (.astore_n 1, 1) := by decide +kernel
theorem dL_law__8 : decode cL_law_ 8 = .ok (.new 116, 3) := by decide +kernel
theorem dL_law__11 : decode cL_law_ 11 = .ok (.dup, 1) := by decide +kernel
theorem dL_law__12 : decode cL_law_ 12 = .ok (.invokespecial 118, 3) := by decide +kernel
theorem dL_law__15 : decode cL_law_ 15 = .ok (.astore_n 2, 1) := by decide +kernel
theorem dL_law__16 : decode cL_law_ 16 = .ok (.iconst 1, 1) := by decide +kernel
theorem dL_law__17 : decode cL_law_ 17 = .ok (.newarray .long, 2) := by decide +kernel
theorem dL_law__19 : decode cL_law_ 19 = .ok (.astore_n 3, 1) := by decide +kernel
theorem dL_law__20 : decode cL_law_ 20 = .ok (.iconst 0, 1) := by decide +kernel
theorem dL_law__21 : decode cL_law_ 21 = .ok (.istore 4, 2) := by decide +kernel
theorem dL_law__23 : decode cL_law_ 23 = .ok (.iload 4, 2) := by decide +kernel
theorem dL_law__25 : decode cL_law_ 25 = .ok (.aload_n 0, 1) := by decide +kernel
theorem dL_law__26 : decode cL_law_ 26 = .ok (.arraylength, 1) := by decide +kernel
theorem dL_law__27 : decode cL_law_ 27 = .ok (.bipush 6, 2) := by decide +kernel
theorem dL_law__29 : decode cL_law_ 29 = .ok (.isub, 1) := by decide +kernel
theorem dL_law__30 : decode cL_law_ 30 = .ok (.if_icmp .gt 2715, 3) := by decide +kernel
theorem dL_law__33 : decode cL_law_ 33 = .ok (.aload_n 0, 1) := by decide +kernel
theorem dL_law__34 : decode cL_law_ 34 = .ok (.iload 4, 2) := by decide +kernel
theorem dL_law__36 : decode cL_law_ 36 = .ok (.iaload, 1) := by decide +kernel
theorem dL_law__37 : decode cL_law_ 37 = .ok (.bipush 63, 2) := by decide +kernel
theorem dL_law__39 : decode cL_law_ 39 = .ok (.iand, 1) := by decide +kernel
theorem dL_law__40 : decode cL_law_ 40 = .ok (.tableswitch 2699 0 56 #[244, 317, 342, 386, 430, 443, 511, 579, 647, 703, 759, 839, 895, 986, 1066, 1134, 1202, 1243, 1256, 1269, 1282, 1295, 1308, 1321, 1346, 1402, 1415, 1456, 1528, 1572, 1585, 1653, 1716, 1729, 1742, 1798, 1866, 1941, 1997, 2065, 2078, 2091, 2104, 2117, 2130, 2143, 2156, 2224, 2292, 2376, 2460, 2544, 2612, 2637, 2650, 2661, 2674], 244) := by decide +kernel
theorem dL_law__284 : decode cL_law_ 284 = .ok (.aload_n 1, 1) := by decide +kernel
theorem dL_law__285 : decode cL_law_ 285 = .ok (.aload_n 0, 1) := by decide +kernel
theorem dL_law__286 : decode cL_law_ 286 = .ok (.iload 4, 2) := by decide +kernel
theorem dL_law__288 : decode cL_law_ 288 = .ok (.iconst 1, 1) := by decide +kernel
theorem dL_law__289 : decode cL_law_ 289 = .ok (.iadd, 1) := by decide +kernel
theorem dL_law__290 : decode cL_law_ 290 = .ok (.iaload, 1) := by decide +kernel
theorem dL_law__291 : decode cL_law_ 291 = .ok (.aload_n 0, 1) := by decide +kernel
theorem dL_law__292 : decode cL_law_ 292 = .ok (.iload 4, 2) := by decide +kernel
theorem dL_law__294 : decode cL_law_ 294 = .ok (.iconst 2, 1) := by decide +kernel
theorem dL_law__295 : decode cL_law_ 295 = .ok (.iadd, 1) := by decide +kernel
theorem dL_law__296 : decode cL_law_ 296 = .ok (.iaload, 1) := by decide +kernel
theorem dL_law__297 : decode cL_law_ 297 = .ok (.aload_n 0, 1) := by decide +kernel
theorem dL_law__298 : decode cL_law_ 298 = .ok (.iload 4, 2) := by decide +kernel
theorem dL_law__300 : decode cL_law_ 300 = .ok (.iconst 3, 1) := by decide +kernel
theorem dL_law__301 : decode cL_law_ 301 = .ok (.iadd, 1) := by decide +kernel
theorem dL_law__302 : decode cL_law_ 302 = .ok (.iaload, 1) := by decide +kernel
theorem dL_law__303 : decode cL_law_ 303 = .ok (.aload_n 0, 1) := by decide +kernel
theorem dL_law__304 : decode cL_law_ 304 = .ok (.iload 4, 2) := by decide +kernel
theorem dL_law__306 : decode cL_law_ 306 = .ok (.iconst 4, 1) := by decide +kernel
theorem dL_law__307 : decode cL_law_ 307 = .ok (.iadd, 1) := by decide +kernel
theorem dL_law__308 : decode cL_law_ 308 = .ok (.iaload, 1) := by decide +kernel
theorem dL_law__309 : decode cL_law_ 309 = .ok (.aload_n 0, 1) := by decide +kernel
theorem dL_law__310 : decode cL_law_ 310 = .ok (.iload 4, 2) := by decide +kernel
theorem dL_law__312 : decode cL_law_ 312 = .ok (.iconst 5, 1) := by decide +kernel
theorem dL_law__313 : decode cL_law_ 313 = .ok (.iadd, 1) := by decide +kernel
theorem dL_law__314 : decode cL_law_ 314 = .ok (.iaload, 1) := by decide +kernel
theorem dL_law__315 : decode cL_law_ 315 = .ok (.invokevirtual 119, 3) := by decide +kernel
theorem dL_law__318 : decode cL_law_ 318 = .ok (.aload_n 2, 1) := by decide +kernel
theorem dL_law__319 : decode cL_law_ 319 = .ok (.aload_n 0, 1) := by decide +kernel
theorem dL_law__320 : decode cL_law_ 320 = .ok (.iload 4, 2) := by decide +kernel
theorem dL_law__322 : decode cL_law_ 322 = .ok (.iconst 1, 1) := by decide +kernel
theorem dL_law__323 : decode cL_law_ 323 = .ok (.iadd, 1) := by decide +kernel
theorem dL_law__324 : decode cL_law_ 324 = .ok (.iaload, 1) := by decide +kernel
theorem dL_law__325 : decode cL_law_ 325 = .ok (.aload_n 0, 1) := by decide +kernel
theorem dL_law__326 : decode cL_law_ 326 = .ok (.iload 4, 2) := by decide +kernel
theorem dL_law__328 : decode cL_law_ 328 = .ok (.iconst 2, 1) := by decide +kernel
theorem dL_law__329 : decode cL_law_ 329 = .ok (.iadd, 1) := by decide +kernel
theorem dL_law__330 : decode cL_law_ 330 = .ok (.iaload, 1) := by decide +kernel
theorem dL_law__331 : decode cL_law_ 331 = .ok (.aload_n 0, 1) := by decide +kernel
theorem dL_law__332 : decode cL_law_ 332 = .ok (.iload 4, 2) := by decide +kernel
theorem dL_law__334 : decode cL_law_ 334 = .ok (.iconst 3, 1) := by decide +kernel
theorem dL_law__335 : decode cL_law_ 335 = .ok (.iadd, 1) := by decide +kernel
theorem dL_law__336 : decode cL_law_ 336 = .ok (.iaload, 1) := by decide +kernel
theorem dL_law__337 : decode cL_law_ 337 = .ok (.aload_n 0, 1) := by decide +kernel
theorem dL_law__338 : decode cL_law_ 338 = .ok (.iload 4, 2) := by decide +kernel
theorem dL_law__340 : decode cL_law_ 340 = .ok (.iconst 4, 1) := by decide +kernel
theorem dL_law__341 : decode cL_law_ 341 = .ok (.iadd, 1) := by decide +kernel
theorem dL_law__342 : decode cL_law_ 342 = .ok (.iaload, 1) := by decide +kernel
theorem dL_law__343 : decode cL_law_ 343 = .ok (.aload_n 0, 1) := by decide +kernel
theorem dL_law__344 : decode cL_law_ 344 = .ok (.iload 4, 2) := by decide +kernel
theorem dL_law__346 : decode cL_law_ 346 = .ok (.iconst 5, 1) := by decide +kernel
theorem dL_law__347 : decode cL_law_ 347 = .ok (.iadd, 1) := by decide +kernel
theorem dL_law__348 : decode cL_law_ 348 = .ok (.iaload, 1) := by decide +kernel
theorem dL_law__349 : decode cL_law_ 349 = .ok (.invokevirtual 123, 3) := by decide +kernel
theorem dL_law__352 : decode cL_law_ 352 = .ok (.if_icmp .eq 2387, 3) := by decide +kernel
theorem dL_law__355 : decode cL_law_ 355 = .ok (.iconst 0, 1) := by decide +kernel
theorem dL_law__356 : decode cL_law_ 356 = .ok (.ireturn, 1) := by decide +kernel
theorem dL_law__357 : decode cL_law_ 357 = .ok (.aload_n 1, 1) := by decide +kernel
theorem dL_law__358 : decode cL_law_ 358 = .ok (.aload_n 0, 1) := by decide +kernel
theorem dL_law__359 : decode cL_law_ 359 = .ok (.iload 4, 2) := by decide +kernel
theorem dL_law__361 : decode cL_law_ 361 = .ok (.iconst 1, 1) := by decide +kernel
theorem dL_law__362 : decode cL_law_ 362 = .ok (.iadd, 1) := by decide +kernel
theorem dL_law__363 : decode cL_law_ 363 = .ok (.iaload, 1) := by decide +kernel
theorem dL_law__364 : decode cL_law_ 364 = .ok (.invokevirtual 124, 3) := by decide +kernel
theorem dL_law__367 : decode cL_law_ 367 = .ok (.aload_n 2, 1) := by decide +kernel
theorem dL_law__368 : decode cL_law_ 368 = .ok (.aload_n 0, 1) := by decide +kernel
theorem dL_law__369 : decode cL_law_ 369 = .ok (.iload 4, 2) := by decide +kernel
theorem dL_law__371 : decode cL_law_ 371 = .ok (.iconst 1, 1) := by decide +kernel
theorem dL_law__372 : decode cL_law_ 372 = .ok (.iadd, 1) := by decide +kernel
theorem dL_law__373 : decode cL_law_ 373 = .ok (.iaload, 1) := by decide +kernel
theorem dL_law__374 : decode cL_law_ 374 = .ok (.invokevirtual 127, 3) := by decide +kernel
theorem dL_law__377 : decode cL_law_ 377 = .ok (.if_icmp .eq 2362, 3) := by decide +kernel
theorem dL_law__380 : decode cL_law_ 380 = .ok (.iconst 0, 1) := by decide +kernel
theorem dL_law__381 : decode cL_law_ 381 = .ok (.ireturn, 1) := by decide +kernel
theorem dL_law__382 : decode cL_law_ 382 = .ok (.aload_n 1, 1) := by decide +kernel
theorem dL_law__383 : decode cL_law_ 383 = .ok (.aload_n 3, 1) := by decide +kernel
theorem dL_law__384 : decode cL_law_ 384 = .ok (.invokestatic 128, 3) := by decide +kernel
theorem dL_law__387 : decode cL_law_ 387 = .ok (.istore 5, 2) := by decide +kernel
theorem dL_law__389 : decode cL_law_ 389 = .ok (.aload_n 2, 1) := by decide +kernel
theorem dL_law__390 : decode cL_law_ 390 = .ok (.invokevirtual 133, 3) := by decide +kernel
theorem dL_law__393 : decode cL_law_ 393 = .ok (.istore 6, 2) := by decide +kernel
theorem dL_law__395 : decode cL_law_ 395 = .ok (.aload_n 2, 1) := by decide +kernel
theorem dL_law__396 : decode cL_law_ 396 = .ok (.invokevirtual 134, 3) := by decide +kernel
theorem dL_law__399 : decode cL_law_ 399 = .ok (.iload 5, 2) := by decide +kernel
theorem dL_law__401 : decode cL_law_ 401 = .ok (.if_icmp .eq 5, 3) := by decide +kernel
theorem dL_law__404 : decode cL_law_ 404 = .ok (.iconst 0, 1) := by decide +kernel
theorem dL_law__405 : decode cL_law_ 405 = .ok (.ireturn, 1) := by decide +kernel
theorem dL_law__406 : decode cL_law_ 406 = .ok (.iload 5, 2) := by decide +kernel
theorem dL_law__408 : decode cL_law_ 408 = .ok (.ifCond .ne 15, 3) := by decide +kernel
theorem dL_law__411 : decode cL_law_ 411 = .ok (.aload_n 3, 1) := by decide +kernel
theorem dL_law__412 : decode cL_law_ 412 = .ok (.iconst 0, 1) := by decide +kernel
theorem dL_law__413 : decode cL_law_ 413 = .ok (.laload, 1) := by decide +kernel
theorem dL_law__414 : decode cL_law_ 414 = .ok (.iload 6, 2) := by decide +kernel
theorem dL_law__416 : decode cL_law_ 416 = .ok (.i2l, 1) := by decide +kernel
theorem dL_law__417 : decode cL_law_ 417 = .ok (.lcmp, 1) := by decide +kernel
theorem dL_law__418 : decode cL_law_ 418 = .ok (.ifCond .eq 5, 3) := by decide +kernel
theorem dL_law__421 : decode cL_law_ 421 = .ok (.iconst 0, 1) := by decide +kernel
theorem dL_law__422 : decode cL_law_ 422 = .ok (.ireturn, 1) := by decide +kernel
theorem dL_law__423 : decode cL_law_ 423 = .ok (.goto 2316, 3) := by decide +kernel
theorem dL_law__426 : decode cL_law_ 426 = .ok (.aload_n 1, 1) := by decide +kernel
theorem dL_law__427 : decode cL_law_ 427 = .ok (.aload_n 3, 1) := by decide +kernel
theorem dL_law__428 : decode cL_law_ 428 = .ok (.invokestatic 137, 3) := by decide +kernel
theorem dL_law__431 : decode cL_law_ 431 = .ok (.istore 5, 2) := by decide +kernel
theorem dL_law__433 : decode cL_law_ 433 = .ok (.aload_n 2, 1) := by decide +kernel
theorem dL_law__434 : decode cL_law_ 434 = .ok (.invokevirtual 139, 3) := by decide +kernel
theorem dL_law__437 : decode cL_law_ 437 = .ok (.istore 6, 2) := by decide +kernel
theorem dL_law__439 : decode cL_law_ 439 = .ok (.aload_n 2, 1) := by decide +kernel
theorem dL_law__440 : decode cL_law_ 440 = .ok (.invokevirtual 134, 3) := by decide +kernel
theorem dL_law__443 : decode cL_law_ 443 = .ok (.iload 5, 2) := by decide +kernel
theorem dL_law__445 : decode cL_law_ 445 = .ok (.if_icmp .eq 5, 3) := by decide +kernel
theorem dL_law__448 : decode cL_law_ 448 = .ok (.iconst 0, 1) := by decide +kernel
theorem dL_law__449 : decode cL_law_ 449 = .ok (.ireturn, 1) := by decide +kernel
theorem dL_law__450 : decode cL_law_ 450 = .ok (.iload 5, 2) := by decide +kernel
theorem dL_law__452 : decode cL_law_ 452 = .ok (.ifCond .ne 15, 3) := by decide +kernel
theorem dL_law__455 : decode cL_law_ 455 = .ok (.aload_n 3, 1) := by decide +kernel
theorem dL_law__456 : decode cL_law_ 456 = .ok (.iconst 0, 1) := by decide +kernel
theorem dL_law__457 : decode cL_law_ 457 = .ok (.laload, 1) := by decide +kernel
theorem dL_law__458 : decode cL_law_ 458 = .ok (.iload 6, 2) := by decide +kernel
theorem dL_law__460 : decode cL_law_ 460 = .ok (.i2l, 1) := by decide +kernel
theorem dL_law__461 : decode cL_law_ 461 = .ok (.lcmp, 1) := by decide +kernel
theorem dL_law__462 : decode cL_law_ 462 = .ok (.ifCond .eq 5, 3) := by decide +kernel
theorem dL_law__465 : decode cL_law_ 465 = .ok (.iconst 0, 1) := by decide +kernel
theorem dL_law__466 : decode cL_law_ 466 = .ok (.ireturn, 1) := by decide +kernel
theorem dL_law__467 : decode cL_law_ 467 = .ok (.goto 2272, 3) := by decide +kernel
theorem dL_law__470 : decode cL_law_ 470 = .ok (.aload_n 1, 1) := by decide +kernel
theorem dL_law__471 : decode cL_law_ 471 = .ok (.invokevirtual 140, 3) := by decide +kernel
theorem dL_law__474 : decode cL_law_ 474 = .ok (.aload_n 2, 1) := by decide +kernel
theorem dL_law__475 : decode cL_law_ 475 = .ok (.invokevirtual 143, 3) := by decide +kernel
theorem dL_law__478 : decode cL_law_ 478 = .ok (.if_icmp .eq 2261, 3) := by decide +kernel
theorem dL_law__481 : decode cL_law_ 481 = .ok (.iconst 0, 1) := by decide +kernel
theorem dL_law__482 : decode cL_law_ 482 = .ok (.ireturn, 1) := by decide +kernel
theorem dL_law__483 : decode cL_law_ 483 = .ok (.aload_n 1, 1) := by decide +kernel
theorem dL_law__484 : decode cL_law_ 484 = .ok (.aload_n 0, 1) := by decide +kernel
theorem dL_law__485 : decode cL_law_ 485 = .ok (.iload 4, 2) := by decide +kernel
theorem dL_law__487 : decode cL_law_ 487 = .ok (.iconst 1, 1) := by decide +kernel
theorem dL_law__488 : decode cL_law_ 488 = .ok (.iadd, 1) := by decide +kernel
theorem dL_law__489 : decode cL_law_ 489 = .ok (.iaload, 1) := by decide +kernel
theorem dL_law__490 : decode cL_law_ 490 = .ok (.aload_n 0, 1) := by decide +kernel
theorem dL_law__491 : decode cL_law_ 491 = .ok (.iload 4, 2) := by decide +kernel
theorem dL_law__493 : decode cL_law_ 493 = .ok (.iconst 2, 1) := by decide +kernel
theorem dL_law__494 : decode cL_law_ 494 = .ok (.iadd, 1) := by decide +kernel
theorem dL_law__495 : decode cL_law_ 495 = .ok (.iaload, 1) := by decide +kernel
theorem dL_law__496 : decode cL_law_ 496 = .ok (.aload_n 3, 1) := by decide +kernel
theorem dL_law__497 : decode cL_law_ 497 = .ok (.invokestatic 144, 3) := by decide +kernel
theorem dL_law__500 : decode cL_law_ 500 = .ok (.istore 5, 2) := by decide +kernel
theorem dL_law__502 : decode cL_law_ 502 = .ok (.aload_n 2, 1) := by decide +kernel
theorem dL_law__503 : decode cL_law_ 503 = .ok (.aload_n 0, 1) := by decide +kernel
theorem dL_law__504 : decode cL_law_ 504 = .ok (.iload 4, 2) := by decide +kernel
theorem dL_law__506 : decode cL_law_ 506 = .ok (.iconst 1, 1) := by decide +kernel
theorem dL_law__507 : decode cL_law_ 507 = .ok (.iadd, 1) := by decide +kernel
theorem dL_law__508 : decode cL_law_ 508 = .ok (.iaload, 1) := by decide +kernel
theorem dL_law__509 : decode cL_law_ 509 = .ok (.aload_n 0, 1) := by decide +kernel
theorem dL_law__510 : decode cL_law_ 510 = .ok (.iload 4, 2) := by decide +kernel
theorem dL_law__512 : decode cL_law_ 512 = .ok (.iconst 2, 1) := by decide +kernel
theorem dL_law__513 : decode cL_law_ 513 = .ok (.iadd, 1) := by decide +kernel
theorem dL_law__514 : decode cL_law_ 514 = .ok (.iaload, 1) := by decide +kernel
theorem dL_law__515 : decode cL_law_ 515 = .ok (.invokevirtual 147, 3) := by decide +kernel
theorem dL_law__518 : decode cL_law_ 518 = .ok (.istore 6, 2) := by decide +kernel
theorem dL_law__520 : decode cL_law_ 520 = .ok (.aload_n 2, 1) := by decide +kernel
theorem dL_law__521 : decode cL_law_ 521 = .ok (.invokevirtual 134, 3) := by decide +kernel
theorem dL_law__524 : decode cL_law_ 524 = .ok (.iload 5, 2) := by decide +kernel
theorem dL_law__526 : decode cL_law_ 526 = .ok (.if_icmp .eq 5, 3) := by decide +kernel
theorem dL_law__529 : decode cL_law_ 529 = .ok (.iconst 0, 1) := by decide +kernel
theorem dL_law__530 : decode cL_law_ 530 = .ok (.ireturn, 1) := by decide +kernel
theorem dL_law__531 : decode cL_law_ 531 = .ok (.iload 5, 2) := by decide +kernel
theorem dL_law__533 : decode cL_law_ 533 = .ok (.ifCond .ne 15, 3) := by decide +kernel
theorem dL_law__536 : decode cL_law_ 536 = .ok (.aload_n 3, 1) := by decide +kernel
theorem dL_law__537 : decode cL_law_ 537 = .ok (.iconst 0, 1) := by decide +kernel
theorem dL_law__538 : decode cL_law_ 538 = .ok (.laload, 1) := by decide +kernel
theorem dL_law__539 : decode cL_law_ 539 = .ok (.iload 6, 2) := by decide +kernel
theorem dL_law__541 : decode cL_law_ 541 = .ok (.i2l, 1) := by decide +kernel
theorem dL_law__542 : decode cL_law_ 542 = .ok (.lcmp, 1) := by decide +kernel
theorem dL_law__543 : decode cL_law_ 543 = .ok (.ifCond .eq 5, 3) := by decide +kernel
theorem dL_law__546 : decode cL_law_ 546 = .ok (.iconst 0, 1) := by decide +kernel
theorem dL_law__547 : decode cL_law_ 547 = .ok (.ireturn, 1) := by decide +kernel
theorem dL_law__548 : decode cL_law_ 548 = .ok (.goto 2191, 3) := by decide +kernel
theorem dL_law__551 : decode cL_law_ 551 = .ok (.aload_n 1, 1) := by decide +kernel
theorem dL_law__552 : decode cL_law_ 552 = .ok (.aload_n 0, 1) := by decide +kernel
theorem dL_law__553 : decode cL_law_ 553 = .ok (.iload 4, 2) := by decide +kernel
theorem dL_law__555 : decode cL_law_ 555 = .ok (.iconst 1, 1) := by decide +kernel
theorem dL_law__556 : decode cL_law_ 556 = .ok (.iadd, 1) := by decide +kernel
theorem dL_law__557 : decode cL_law_ 557 = .ok (.iaload, 1) := by decide +kernel
theorem dL_law__558 : decode cL_law_ 558 = .ok (.aload_n 0, 1) := by decide +kernel
theorem dL_law__559 : decode cL_law_ 559 = .ok (.iload 4, 2) := by decide +kernel
theorem dL_law__561 : decode cL_law_ 561 = .ok (.iconst 2, 1) := by decide +kernel
theorem dL_law__562 : decode cL_law_ 562 = .ok (.iadd, 1) := by decide +kernel
theorem dL_law__563 : decode cL_law_ 563 = .ok (.iaload, 1) := by decide +kernel
theorem dL_law__564 : decode cL_law_ 564 = .ok (.aload_n 3, 1) := by decide +kernel
theorem dL_law__565 : decode cL_law_ 565 = .ok (.invokestatic 148, 3) := by decide +kernel
theorem dL_law__568 : decode cL_law_ 568 = .ok (.istore 5, 2) := by decide +kernel
theorem dL_law__570 : decode cL_law_ 570 = .ok (.aload_n 2, 1) := by decide +kernel
theorem dL_law__571 : decode cL_law_ 571 = .ok (.aload_n 0, 1) := by decide +kernel
theorem dL_law__572 : decode cL_law_ 572 = .ok (.iload 4, 2) := by decide +kernel
theorem dL_law__574 : decode cL_law_ 574 = .ok (.iconst 1, 1) := by decide +kernel
theorem dL_law__575 : decode cL_law_ 575 = .ok (.iadd, 1) := by decide +kernel
theorem dL_law__576 : decode cL_law_ 576 = .ok (.iaload, 1) := by decide +kernel
theorem dL_law__577 : decode cL_law_ 577 = .ok (.aload_n 0, 1) := by decide +kernel
theorem dL_law__578 : decode cL_law_ 578 = .ok (.iload 4, 2) := by decide +kernel
theorem dL_law__580 : decode cL_law_ 580 = .ok (.iconst 2, 1) := by decide +kernel
theorem dL_law__581 : decode cL_law_ 581 = .ok (.iadd, 1) := by decide +kernel
theorem dL_law__582 : decode cL_law_ 582 = .ok (.iaload, 1) := by decide +kernel
theorem dL_law__583 : decode cL_law_ 583 = .ok (.invokevirtual 150, 3) := by decide +kernel
theorem dL_law__586 : decode cL_law_ 586 = .ok (.istore 6, 2) := by decide +kernel
theorem dL_law__588 : decode cL_law_ 588 = .ok (.aload_n 2, 1) := by decide +kernel
theorem dL_law__589 : decode cL_law_ 589 = .ok (.invokevirtual 134, 3) := by decide +kernel
theorem dL_law__592 : decode cL_law_ 592 = .ok (.iload 5, 2) := by decide +kernel
theorem dL_law__594 : decode cL_law_ 594 = .ok (.if_icmp .eq 5, 3) := by decide +kernel
theorem dL_law__597 : decode cL_law_ 597 = .ok (.iconst 0, 1) := by decide +kernel
theorem dL_law__598 : decode cL_law_ 598 = .ok (.ireturn, 1) := by decide +kernel
theorem dL_law__599 : decode cL_law_ 599 = .ok (.iload 5, 2) := by decide +kernel
theorem dL_law__601 : decode cL_law_ 601 = .ok (.ifCond .ne 15, 3) := by decide +kernel
theorem dL_law__604 : decode cL_law_ 604 = .ok (.aload_n 3, 1) := by decide +kernel
theorem dL_law__605 : decode cL_law_ 605 = .ok (.iconst 0, 1) := by decide +kernel
theorem dL_law__606 : decode cL_law_ 606 = .ok (.laload, 1) := by decide +kernel
theorem dL_law__607 : decode cL_law_ 607 = .ok (.iload 6, 2) := by decide +kernel
theorem dL_law__609 : decode cL_law_ 609 = .ok (.i2l, 1) := by decide +kernel
theorem dL_law__610 : decode cL_law_ 610 = .ok (.lcmp, 1) := by decide +kernel
theorem dL_law__611 : decode cL_law_ 611 = .ok (.ifCond .eq 5, 3) := by decide +kernel
theorem dL_law__614 : decode cL_law_ 614 = .ok (.iconst 0, 1) := by decide +kernel
theorem dL_law__615 : decode cL_law_ 615 = .ok (.ireturn, 1) := by decide +kernel
theorem dL_law__616 : decode cL_law_ 616 = .ok (.goto 2123, 3) := by decide +kernel
theorem dL_law__619 : decode cL_law_ 619 = .ok (.aload_n 1, 1) := by decide +kernel
theorem dL_law__620 : decode cL_law_ 620 = .ok (.aload_n 0, 1) := by decide +kernel
theorem dL_law__621 : decode cL_law_ 621 = .ok (.iload 4, 2) := by decide +kernel
theorem dL_law__623 : decode cL_law_ 623 = .ok (.iconst 1, 1) := by decide +kernel
theorem dL_law__624 : decode cL_law_ 624 = .ok (.iadd, 1) := by decide +kernel
theorem dL_law__625 : decode cL_law_ 625 = .ok (.iaload, 1) := by decide +kernel
theorem dL_law__626 : decode cL_law_ 626 = .ok (.aload_n 0, 1) := by decide +kernel
theorem dL_law__627 : decode cL_law_ 627 = .ok (.iload 4, 2) := by decide +kernel
theorem dL_law__629 : decode cL_law_ 629 = .ok (.iconst 2, 1) := by decide +kernel
theorem dL_law__630 : decode cL_law_ 630 = .ok (.iadd, 1) := by decide +kernel
theorem dL_law__631 : decode cL_law_ 631 = .ok (.iaload, 1) := by decide +kernel
theorem dL_law__632 : decode cL_law_ 632 = .ok (.aload_n 3, 1) := by decide +kernel
theorem dL_law__633 : decode cL_law_ 633 = .ok (.invokestatic 151, 3) := by decide +kernel
theorem dL_law__636 : decode cL_law_ 636 = .ok (.istore 5, 2) := by decide +kernel
theorem dL_law__638 : decode cL_law_ 638 = .ok (.aload_n 2, 1) := by decide +kernel
theorem dL_law__639 : decode cL_law_ 639 = .ok (.aload_n 0, 1) := by decide +kernel
theorem dL_law__640 : decode cL_law_ 640 = .ok (.iload 4, 2) := by decide +kernel
theorem dL_law__642 : decode cL_law_ 642 = .ok (.iconst 1, 1) := by decide +kernel
theorem dL_law__643 : decode cL_law_ 643 = .ok (.iadd, 1) := by decide +kernel
theorem dL_law__644 : decode cL_law_ 644 = .ok (.iaload, 1) := by decide +kernel
theorem dL_law__645 : decode cL_law_ 645 = .ok (.aload_n 0, 1) := by decide +kernel
theorem dL_law__646 : decode cL_law_ 646 = .ok (.iload 4, 2) := by decide +kernel
theorem dL_law__648 : decode cL_law_ 648 = .ok (.iconst 2, 1) := by decide +kernel
theorem dL_law__649 : decode cL_law_ 649 = .ok (.iadd, 1) := by decide +kernel
theorem dL_law__650 : decode cL_law_ 650 = .ok (.iaload, 1) := by decide +kernel
theorem dL_law__651 : decode cL_law_ 651 = .ok (.invokevirtual 153, 3) := by decide +kernel
theorem dL_law__654 : decode cL_law_ 654 = .ok (.istore 6, 2) := by decide +kernel
theorem dL_law__656 : decode cL_law_ 656 = .ok (.aload_n 2, 1) := by decide +kernel
theorem dL_law__657 : decode cL_law_ 657 = .ok (.invokevirtual 134, 3) := by decide +kernel
theorem dL_law__660 : decode cL_law_ 660 = .ok (.iload 5, 2) := by decide +kernel
theorem dL_law__662 : decode cL_law_ 662 = .ok (.if_icmp .eq 5, 3) := by decide +kernel
theorem dL_law__665 : decode cL_law_ 665 = .ok (.iconst 0, 1) := by decide +kernel
theorem dL_law__666 : decode cL_law_ 666 = .ok (.ireturn, 1) := by decide +kernel
theorem dL_law__667 : decode cL_law_ 667 = .ok (.iload 5, 2) := by decide +kernel
theorem dL_law__669 : decode cL_law_ 669 = .ok (.ifCond .ne 15, 3) := by decide +kernel
theorem dL_law__672 : decode cL_law_ 672 = .ok (.aload_n 3, 1) := by decide +kernel
theorem dL_law__673 : decode cL_law_ 673 = .ok (.iconst 0, 1) := by decide +kernel
theorem dL_law__674 : decode cL_law_ 674 = .ok (.laload, 1) := by decide +kernel
theorem dL_law__675 : decode cL_law_ 675 = .ok (.iload 6, 2) := by decide +kernel
theorem dL_law__677 : decode cL_law_ 677 = .ok (.i2l, 1) := by decide +kernel
theorem dL_law__678 : decode cL_law_ 678 = .ok (.lcmp, 1) := by decide +kernel
theorem dL_law__679 : decode cL_law_ 679 = .ok (.ifCond .eq 5, 3) := by decide +kernel
theorem dL_law__682 : decode cL_law_ 682 = .ok (.iconst 0, 1) := by decide +kernel
theorem dL_law__683 : decode cL_law_ 683 = .ok (.ireturn, 1) := by decide +kernel
theorem dL_law__684 : decode cL_law_ 684 = .ok (.goto 2055, 3) := by decide +kernel
theorem dL_law__687 : decode cL_law_ 687 = .ok (.aload_n 1, 1) := by decide +kernel
theorem dL_law__688 : decode cL_law_ 688 = .ok (.aload_n 0, 1) := by decide +kernel
theorem dL_law__689 : decode cL_law_ 689 = .ok (.iload 4, 2) := by decide +kernel
theorem dL_law__691 : decode cL_law_ 691 = .ok (.iconst 1, 1) := by decide +kernel
theorem dL_law__692 : decode cL_law_ 692 = .ok (.iadd, 1) := by decide +kernel
theorem dL_law__693 : decode cL_law_ 693 = .ok (.iaload, 1) := by decide +kernel
theorem dL_law__694 : decode cL_law_ 694 = .ok (.aload_n 3, 1) := by decide +kernel
theorem dL_law__695 : decode cL_law_ 695 = .ok (.invokestatic 154, 3) := by decide +kernel
theorem dL_law__698 : decode cL_law_ 698 = .ok (.istore 5, 2) := by decide +kernel
theorem dL_law__700 : decode cL_law_ 700 = .ok (.aload_n 2, 1) := by decide +kernel
theorem dL_law__701 : decode cL_law_ 701 = .ok (.aload_n 0, 1) := by decide +kernel
theorem dL_law__702 : decode cL_law_ 702 = .ok (.iload 4, 2) := by decide +kernel
theorem dL_law__704 : decode cL_law_ 704 = .ok (.iconst 1, 1) := by decide +kernel
theorem dL_law__705 : decode cL_law_ 705 = .ok (.iadd, 1) := by decide +kernel
theorem dL_law__706 : decode cL_law_ 706 = .ok (.iaload, 1) := by decide +kernel
theorem dL_law__707 : decode cL_law_ 707 = .ok (.invokevirtual 157, 3) := by decide +kernel
theorem dL_law__710 : decode cL_law_ 710 = .ok (.istore 6, 2) := by decide +kernel
theorem dL_law__712 : decode cL_law_ 712 = .ok (.aload_n 2, 1) := by decide +kernel
theorem dL_law__713 : decode cL_law_ 713 = .ok (.invokevirtual 134, 3) := by decide +kernel
theorem dL_law__716 : decode cL_law_ 716 = .ok (.iload 5, 2) := by decide +kernel
theorem dL_law__718 : decode cL_law_ 718 = .ok (.if_icmp .eq 5, 3) := by decide +kernel
theorem dL_law__721 : decode cL_law_ 721 = .ok (.iconst 0, 1) := by decide +kernel
theorem dL_law__722 : decode cL_law_ 722 = .ok (.ireturn, 1) := by decide +kernel
theorem dL_law__723 : decode cL_law_ 723 = .ok (.iload 5, 2) := by decide +kernel
theorem dL_law__725 : decode cL_law_ 725 = .ok (.ifCond .ne 15, 3) := by decide +kernel
theorem dL_law__728 : decode cL_law_ 728 = .ok (.aload_n 3, 1) := by decide +kernel
theorem dL_law__729 : decode cL_law_ 729 = .ok (.iconst 0, 1) := by decide +kernel
theorem dL_law__730 : decode cL_law_ 730 = .ok (.laload, 1) := by decide +kernel
theorem dL_law__731 : decode cL_law_ 731 = .ok (.iload 6, 2) := by decide +kernel
theorem dL_law__733 : decode cL_law_ 733 = .ok (.i2l, 1) := by decide +kernel
theorem dL_law__734 : decode cL_law_ 734 = .ok (.lcmp, 1) := by decide +kernel
theorem dL_law__735 : decode cL_law_ 735 = .ok (.ifCond .eq 5, 3) := by decide +kernel
theorem dL_law__738 : decode cL_law_ 738 = .ok (.iconst 0, 1) := by decide +kernel
theorem dL_law__739 : decode cL_law_ 739 = .ok (.ireturn, 1) := by decide +kernel
theorem dL_law__740 : decode cL_law_ 740 = .ok (.goto 1999, 3) := by decide +kernel
theorem dL_law__743 : decode cL_law_ 743 = .ok (.aload_n 1, 1) := by decide +kernel
theorem dL_law__744 : decode cL_law_ 744 = .ok (.aload_n 0, 1) := by decide +kernel
theorem dL_law__745 : decode cL_law_ 745 = .ok (.iload 4, 2) := by decide +kernel
theorem dL_law__747 : decode cL_law_ 747 = .ok (.iconst 1, 1) := by decide +kernel
theorem dL_law__748 : decode cL_law_ 748 = .ok (.iadd, 1) := by decide +kernel
theorem dL_law__749 : decode cL_law_ 749 = .ok (.iaload, 1) := by decide +kernel
theorem dL_law__750 : decode cL_law_ 750 = .ok (.aload_n 3, 1) := by decide +kernel
theorem dL_law__751 : decode cL_law_ 751 = .ok (.invokestatic 158, 3) := by decide +kernel
theorem dL_law__754 : decode cL_law_ 754 = .ok (.istore 5, 2) := by decide +kernel
theorem dL_law__756 : decode cL_law_ 756 = .ok (.aload_n 2, 1) := by decide +kernel
theorem dL_law__757 : decode cL_law_ 757 = .ok (.aload_n 0, 1) := by decide +kernel
theorem dL_law__758 : decode cL_law_ 758 = .ok (.iload 4, 2) := by decide +kernel
theorem dL_law__760 : decode cL_law_ 760 = .ok (.iconst 1, 1) := by decide +kernel
theorem dL_law__761 : decode cL_law_ 761 = .ok (.iadd, 1) := by decide +kernel
theorem dL_law__762 : decode cL_law_ 762 = .ok (.iaload, 1) := by decide +kernel
theorem dL_law__763 : decode cL_law_ 763 = .ok (.invokevirtual 160, 3) := by decide +kernel
theorem dL_law__766 : decode cL_law_ 766 = .ok (.istore 6, 2) := by decide +kernel
theorem dL_law__768 : decode cL_law_ 768 = .ok (.aload_n 2, 1) := by decide +kernel
theorem dL_law__769 : decode cL_law_ 769 = .ok (.invokevirtual 134, 3) := by decide +kernel
theorem dL_law__772 : decode cL_law_ 772 = .ok (.iload 5, 2) := by decide +kernel
theorem dL_law__774 : decode cL_law_ 774 = .ok (.if_icmp .eq 5, 3) := by decide +kernel
theorem dL_law__777 : decode cL_law_ 777 = .ok (.iconst 0, 1) := by decide +kernel
theorem dL_law__778 : decode cL_law_ 778 = .ok (.ireturn, 1) := by decide +kernel
theorem dL_law__779 : decode cL_law_ 779 = .ok (.iload 5, 2) := by decide +kernel
theorem dL_law__781 : decode cL_law_ 781 = .ok (.ifCond .ne 15, 3) := by decide +kernel
theorem dL_law__784 : decode cL_law_ 784 = .ok (.aload_n 3, 1) := by decide +kernel
theorem dL_law__785 : decode cL_law_ 785 = .ok (.iconst 0, 1) := by decide +kernel
theorem dL_law__786 : decode cL_law_ 786 = .ok (.laload, 1) := by decide +kernel
theorem dL_law__787 : decode cL_law_ 787 = .ok (.iload 6, 2) := by decide +kernel
theorem dL_law__789 : decode cL_law_ 789 = .ok (.i2l, 1) := by decide +kernel
theorem dL_law__790 : decode cL_law_ 790 = .ok (.lcmp, 1) := by decide +kernel
theorem dL_law__791 : decode cL_law_ 791 = .ok (.ifCond .eq 5, 3) := by decide +kernel
theorem dL_law__794 : decode cL_law_ 794 = .ok (.iconst 0, 1) := by decide +kernel
theorem dL_law__795 : decode cL_law_ 795 = .ok (.ireturn, 1) := by decide +kernel
theorem dL_law__796 : decode cL_law_ 796 = .ok (.goto 1943, 3) := by decide +kernel
theorem dL_law__799 : decode cL_law_ 799 = .ok (.aload_n 1, 1) := by decide +kernel
theorem dL_law__800 : decode cL_law_ 800 = .ok (.aload_n 0, 1) := by decide +kernel
theorem dL_law__801 : decode cL_law_ 801 = .ok (.iload 4, 2) := by decide +kernel
theorem dL_law__803 : decode cL_law_ 803 = .ok (.iconst 1, 1) := by decide +kernel
theorem dL_law__804 : decode cL_law_ 804 = .ok (.iadd, 1) := by decide +kernel
theorem dL_law__805 : decode cL_law_ 805 = .ok (.iaload, 1) := by decide +kernel
theorem dL_law__806 : decode cL_law_ 806 = .ok (.aload_n 0, 1) := by decide +kernel
theorem dL_law__807 : decode cL_law_ 807 = .ok (.iload 4, 2) := by decide +kernel
theorem dL_law__809 : decode cL_law_ 809 = .ok (.iconst 2, 1) := by decide +kernel
theorem dL_law__810 : decode cL_law_ 810 = .ok (.iadd, 1) := by decide +kernel
theorem dL_law__811 : decode cL_law_ 811 = .ok (.iaload, 1) := by decide +kernel
theorem dL_law__812 : decode cL_law_ 812 = .ok (.aload_n 0, 1) := by decide +kernel
theorem dL_law__813 : decode cL_law_ 813 = .ok (.iload 4, 2) := by decide +kernel
theorem dL_law__815 : decode cL_law_ 815 = .ok (.iconst 3, 1) := by decide +kernel
theorem dL_law__816 : decode cL_law_ 816 = .ok (.iadd, 1) := by decide +kernel
theorem dL_law__817 : decode cL_law_ 817 = .ok (.iaload, 1) := by decide +kernel
theorem dL_law__818 : decode cL_law_ 818 = .ok (.aload_n 3, 1) := by decide +kernel
theorem dL_law__819 : decode cL_law_ 819 = .ok (.invokestatic 161, 3) := by decide +kernel
theorem dL_law__822 : decode cL_law_ 822 = .ok (.istore 5, 2) := by decide +kernel
theorem dL_law__824 : decode cL_law_ 824 = .ok (.aload_n 2, 1) := by decide +kernel
theorem dL_law__825 : decode cL_law_ 825 = .ok (.aload_n 0, 1) := by decide +kernel
theorem dL_law__826 : decode cL_law_ 826 = .ok (.iload 4, 2) := by decide +kernel
theorem dL_law__828 : decode cL_law_ 828 = .ok (.iconst 1, 1) := by decide +kernel
theorem dL_law__829 : decode cL_law_ 829 = .ok (.iadd, 1) := by decide +kernel
theorem dL_law__830 : decode cL_law_ 830 = .ok (.iaload, 1) := by decide +kernel
theorem dL_law__831 : decode cL_law_ 831 = .ok (.aload_n 0, 1) := by decide +kernel
theorem dL_law__832 : decode cL_law_ 832 = .ok (.iload 4, 2) := by decide +kernel
theorem dL_law__834 : decode cL_law_ 834 = .ok (.iconst 2, 1) := by decide +kernel
theorem dL_law__835 : decode cL_law_ 835 = .ok (.iadd, 1) := by decide +kernel
theorem dL_law__836 : decode cL_law_ 836 = .ok (.iaload, 1) := by decide +kernel
theorem dL_law__837 : decode cL_law_ 837 = .ok (.aload_n 0, 1) := by decide +kernel
theorem dL_law__838 : decode cL_law_ 838 = .ok (.iload 4, 2) := by decide +kernel
theorem dL_law__840 : decode cL_law_ 840 = .ok (.iconst 3, 1) := by decide +kernel
theorem dL_law__841 : decode cL_law_ 841 = .ok (.iadd, 1) := by decide +kernel
theorem dL_law__842 : decode cL_law_ 842 = .ok (.iaload, 1) := by decide +kernel
theorem dL_law__843 : decode cL_law_ 843 = .ok (.invokevirtual 164, 3) := by decide +kernel
theorem dL_law__846 : decode cL_law_ 846 = .ok (.istore 6, 2) := by decide +kernel
theorem dL_law__848 : decode cL_law_ 848 = .ok (.aload_n 2, 1) := by decide +kernel
theorem dL_law__849 : decode cL_law_ 849 = .ok (.invokevirtual 134, 3) := by decide +kernel
theorem dL_law__852 : decode cL_law_ 852 = .ok (.iload 5, 2) := by decide +kernel
theorem dL_law__854 : decode cL_law_ 854 = .ok (.if_icmp .eq 5, 3) := by decide +kernel
theorem dL_law__857 : decode cL_law_ 857 = .ok (.iconst 0, 1) := by decide +kernel
theorem dL_law__858 : decode cL_law_ 858 = .ok (.ireturn, 1) := by decide +kernel
theorem dL_law__859 : decode cL_law_ 859 = .ok (.iload 5, 2) := by decide +kernel
theorem dL_law__861 : decode cL_law_ 861 = .ok (.ifCond .ne 15, 3) := by decide +kernel
theorem dL_law__864 : decode cL_law_ 864 = .ok (.aload_n 3, 1) := by decide +kernel
theorem dL_law__865 : decode cL_law_ 865 = .ok (.iconst 0, 1) := by decide +kernel
theorem dL_law__866 : decode cL_law_ 866 = .ok (.laload, 1) := by decide +kernel
theorem dL_law__867 : decode cL_law_ 867 = .ok (.iload 6, 2) := by decide +kernel
theorem dL_law__869 : decode cL_law_ 869 = .ok (.i2l, 1) := by decide +kernel
theorem dL_law__870 : decode cL_law_ 870 = .ok (.lcmp, 1) := by decide +kernel
theorem dL_law__871 : decode cL_law_ 871 = .ok (.ifCond .eq 5, 3) := by decide +kernel
theorem dL_law__874 : decode cL_law_ 874 = .ok (.iconst 0, 1) := by decide +kernel
theorem dL_law__875 : decode cL_law_ 875 = .ok (.ireturn, 1) := by decide +kernel
theorem dL_law__876 : decode cL_law_ 876 = .ok (.goto 1863, 3) := by decide +kernel
theorem dL_law__879 : decode cL_law_ 879 = .ok (.aload_n 1, 1) := by decide +kernel
theorem dL_law__880 : decode cL_law_ 880 = .ok (.aload_n 0, 1) := by decide +kernel
theorem dL_law__881 : decode cL_law_ 881 = .ok (.iload 4, 2) := by decide +kernel
theorem dL_law__883 : decode cL_law_ 883 = .ok (.iconst 1, 1) := by decide +kernel
theorem dL_law__884 : decode cL_law_ 884 = .ok (.iadd, 1) := by decide +kernel
theorem dL_law__885 : decode cL_law_ 885 = .ok (.iaload, 1) := by decide +kernel
theorem dL_law__886 : decode cL_law_ 886 = .ok (.aload_n 3, 1) := by decide +kernel
theorem dL_law__887 : decode cL_law_ 887 = .ok (.invokestatic 165, 3) := by decide +kernel
theorem dL_law__890 : decode cL_law_ 890 = .ok (.istore 5, 2) := by decide +kernel
theorem dL_law__892 : decode cL_law_ 892 = .ok (.aload_n 2, 1) := by decide +kernel
theorem dL_law__893 : decode cL_law_ 893 = .ok (.aload_n 0, 1) := by decide +kernel
theorem dL_law__894 : decode cL_law_ 894 = .ok (.iload 4, 2) := by decide +kernel
theorem dL_law__896 : decode cL_law_ 896 = .ok (.iconst 1, 1) := by decide +kernel
theorem dL_law__897 : decode cL_law_ 897 = .ok (.iadd, 1) := by decide +kernel
theorem dL_law__898 : decode cL_law_ 898 = .ok (.iaload, 1) := by decide +kernel
theorem dL_law__899 : decode cL_law_ 899 = .ok (.invokevirtual 167, 3) := by decide +kernel
theorem dL_law__902 : decode cL_law_ 902 = .ok (.istore 6, 2) := by decide +kernel
theorem dL_law__904 : decode cL_law_ 904 = .ok (.aload_n 2, 1) := by decide +kernel
theorem dL_law__905 : decode cL_law_ 905 = .ok (.invokevirtual 134, 3) := by decide +kernel
theorem dL_law__908 : decode cL_law_ 908 = .ok (.iload 5, 2) := by decide +kernel
theorem dL_law__910 : decode cL_law_ 910 = .ok (.if_icmp .eq 5, 3) := by decide +kernel
theorem dL_law__913 : decode cL_law_ 913 = .ok (.iconst 0, 1) := by decide +kernel
theorem dL_law__914 : decode cL_law_ 914 = .ok (.ireturn, 1) := by decide +kernel
theorem dL_law__915 : decode cL_law_ 915 = .ok (.iload 5, 2) := by decide +kernel
theorem dL_law__917 : decode cL_law_ 917 = .ok (.ifCond .ne 15, 3) := by decide +kernel
theorem dL_law__920 : decode cL_law_ 920 = .ok (.aload_n 3, 1) := by decide +kernel
theorem dL_law__921 : decode cL_law_ 921 = .ok (.iconst 0, 1) := by decide +kernel
theorem dL_law__922 : decode cL_law_ 922 = .ok (.laload, 1) := by decide +kernel
theorem dL_law__923 : decode cL_law_ 923 = .ok (.iload 6, 2) := by decide +kernel
theorem dL_law__925 : decode cL_law_ 925 = .ok (.i2l, 1) := by decide +kernel
theorem dL_law__926 : decode cL_law_ 926 = .ok (.lcmp, 1) := by decide +kernel
theorem dL_law__927 : decode cL_law_ 927 = .ok (.ifCond .eq 5, 3) := by decide +kernel
theorem dL_law__930 : decode cL_law_ 930 = .ok (.iconst 0, 1) := by decide +kernel
theorem dL_law__931 : decode cL_law_ 931 = .ok (.ireturn, 1) := by decide +kernel
theorem dL_law__932 : decode cL_law_ 932 = .ok (.goto 1807, 3) := by decide +kernel
theorem dL_law__935 : decode cL_law_ 935 = .ok (.aload_n 1, 1) := by decide +kernel
theorem dL_law__936 : decode cL_law_ 936 = .ok (.aload_n 0, 1) := by decide +kernel
theorem dL_law__937 : decode cL_law_ 937 = .ok (.iload 4, 2) := by decide +kernel
theorem dL_law__939 : decode cL_law_ 939 = .ok (.iconst 1, 1) := by decide +kernel
theorem dL_law__940 : decode cL_law_ 940 = .ok (.iadd, 1) := by decide +kernel
theorem dL_law__941 : decode cL_law_ 941 = .ok (.iaload, 1) := by decide +kernel
theorem dL_law__942 : decode cL_law_ 942 = .ok (.aload_n 0, 1) := by decide +kernel
theorem dL_law__943 : decode cL_law_ 943 = .ok (.iload 4, 2) := by decide +kernel
theorem dL_law__945 : decode cL_law_ 945 = .ok (.iconst 2, 1) := by decide +kernel
theorem dL_law__946 : decode cL_law_ 946 = .ok (.iadd, 1) := by decide +kernel
theorem dL_law__947 : decode cL_law_ 947 = .ok (.iaload, 1) := by decide +kernel
theorem dL_law__948 : decode cL_law_ 948 = .ok (.ifCond .eq 7, 3) := by decide +kernel
theorem dL_law__951 : decode cL_law_ 951 = .ok (.iconst 1, 1) := by decide +kernel
theorem dL_law__952 : decode cL_law_ 952 = .ok (.goto 4, 3) := by decide +kernel
theorem dL_law__955 : decode cL_law_ 955 = .ok (.iconst 0, 1) := by decide +kernel
theorem dL_law__956 : decode cL_law_ 956 = .ok (.aload_n 3, 1) := by decide +kernel
theorem dL_law__957 : decode cL_law_ 957 = .ok (.invokestatic 168, 3) := by decide +kernel
theorem dL_law__960 : decode cL_law_ 960 = .ok (.istore 5, 2) := by decide +kernel
theorem dL_law__962 : decode cL_law_ 962 = .ok (.aload_n 2, 1) := by decide +kernel
theorem dL_law__963 : decode cL_law_ 963 = .ok (.aload_n 0, 1) := by decide +kernel
theorem dL_law__964 : decode cL_law_ 964 = .ok (.iload 4, 2) := by decide +kernel
theorem dL_law__966 : decode cL_law_ 966 = .ok (.iconst 1, 1) := by decide +kernel
theorem dL_law__967 : decode cL_law_ 967 = .ok (.iadd, 1) := by decide +kernel
theorem dL_law__968 : decode cL_law_ 968 = .ok (.iaload, 1) := by decide +kernel
theorem dL_law__969 : decode cL_law_ 969 = .ok (.aload_n 0, 1) := by decide +kernel
theorem dL_law__970 : decode cL_law_ 970 = .ok (.iload 4, 2) := by decide +kernel
theorem dL_law__972 : decode cL_law_ 972 = .ok (.iconst 2, 1) := by decide +kernel
theorem dL_law__973 : decode cL_law_ 973 = .ok (.iadd, 1) := by decide +kernel
theorem dL_law__974 : decode cL_law_ 974 = .ok (.iaload, 1) := by decide +kernel
theorem dL_law__975 : decode cL_law_ 975 = .ok (.ifCond .eq 7, 3) := by decide +kernel
theorem dL_law__978 : decode cL_law_ 978 = .ok (.iconst 1, 1) := by decide +kernel
theorem dL_law__979 : decode cL_law_ 979 = .ok (.goto 4, 3) := by decide +kernel
theorem dL_law__982 : decode cL_law_ 982 = .ok (.iconst 0, 1) := by decide +kernel
theorem dL_law__983 : decode cL_law_ 983 = .ok (.invokevirtual 171, 3) := by decide +kernel
theorem dL_law__986 : decode cL_law_ 986 = .ok (.istore 6, 2) := by decide +kernel
theorem dL_law__988 : decode cL_law_ 988 = .ok (.aload_n 2, 1) := by decide +kernel
theorem dL_law__989 : decode cL_law_ 989 = .ok (.invokevirtual 134, 3) := by decide +kernel
theorem dL_law__992 : decode cL_law_ 992 = .ok (.iload 5, 2) := by decide +kernel
theorem dL_law__994 : decode cL_law_ 994 = .ok (.if_icmp .eq 5, 3) := by decide +kernel
theorem dL_law__997 : decode cL_law_ 997 = .ok (.iconst 0, 1) := by decide +kernel
theorem dL_law__998 : decode cL_law_ 998 = .ok (.ireturn, 1) := by decide +kernel
theorem dL_law__999 : decode cL_law_ 999 = .ok (.iload 5, 2) := by decide +kernel
theorem dL_law__1001 : decode cL_law_ 1001 = .ok (.ifCond .ne 22, 3) := by decide +kernel
theorem dL_law__1004 : decode cL_law_ 1004 = .ok (.aload_n 3, 1) := by decide +kernel
theorem dL_law__1005 : decode cL_law_ 1005 = .ok (.iconst 0, 1) := by decide +kernel
theorem dL_law__1006 : decode cL_law_ 1006 = .ok (.laload, 1) := by decide +kernel
theorem dL_law__1007 : decode cL_law_ 1007 = .ok (.iload 6, 2) := by decide +kernel
theorem dL_law__1009 : decode cL_law_ 1009 = .ok (.ifCond .eq 7, 3) := by decide +kernel
theorem dL_law__1012 : decode cL_law_ 1012 = .ok (.lconst 1, 1) := by decide +kernel
theorem dL_law__1013 : decode cL_law_ 1013 = .ok (.goto 4, 3) := by decide +kernel
theorem dL_law__1016 : decode cL_law_ 1016 = .ok (.lconst 0, 1) := by decide +kernel
theorem dL_law__1017 : decode cL_law_ 1017 = .ok (.lcmp, 1) := by decide +kernel
theorem dL_law__1018 : decode cL_law_ 1018 = .ok (.ifCond .eq 5, 3) := by decide +kernel
theorem dL_law__1021 : decode cL_law_ 1021 = .ok (.iconst 0, 1) := by decide +kernel
theorem dL_law__1022 : decode cL_law_ 1022 = .ok (.ireturn, 1) := by decide +kernel
theorem dL_law__1023 : decode cL_law_ 1023 = .ok (.goto 1716, 3) := by decide +kernel
theorem dL_law__1026 : decode cL_law_ 1026 = .ok (.aload_n 1, 1) := by decide +kernel
theorem dL_law__1027 : decode cL_law_ 1027 = .ok (.aload_n 0, 1) := by decide +kernel
theorem dL_law__1028 : decode cL_law_ 1028 = .ok (.iload 4, 2) := by decide +kernel
theorem dL_law__1030 : decode cL_law_ 1030 = .ok (.iconst 1, 1) := by decide +kernel
theorem dL_law__1031 : decode cL_law_ 1031 = .ok (.iadd, 1) := by decide +kernel
theorem dL_law__1032 : decode cL_law_ 1032 = .ok (.iaload, 1) := by decide +kernel
theorem dL_law__1033 : decode cL_law_ 1033 = .ok (.aload_n 0, 1) := by decide +kernel
theorem dL_law__1034 : decode cL_law_ 1034 = .ok (.iload 4, 2) := by decide +kernel
theorem dL_law__1036 : decode cL_law_ 1036 = .ok (.iconst 2, 1) := by decide +kernel
theorem dL_law__1037 : decode cL_law_ 1037 = .ok (.iadd, 1) := by decide +kernel
theorem dL_law__1038 : decode cL_law_ 1038 = .ok (.iaload, 1) := by decide +kernel
theorem dL_law__1039 : decode cL_law_ 1039 = .ok (.aload_n 0, 1) := by decide +kernel
theorem dL_law__1040 : decode cL_law_ 1040 = .ok (.iload 4, 2) := by decide +kernel
theorem dL_law__1042 : decode cL_law_ 1042 = .ok (.iconst 3, 1) := by decide +kernel
theorem dL_law__1043 : decode cL_law_ 1043 = .ok (.iadd, 1) := by decide +kernel
theorem dL_law__1044 : decode cL_law_ 1044 = .ok (.iaload, 1) := by decide +kernel
theorem dL_law__1045 : decode cL_law_ 1045 = .ok (.aload_n 3, 1) := by decide +kernel
theorem dL_law__1046 : decode cL_law_ 1046 = .ok (.invokestatic 172, 3) := by decide +kernel
theorem dL_law__1049 : decode cL_law_ 1049 = .ok (.istore 5, 2) := by decide +kernel
theorem dL_law__1051 : decode cL_law_ 1051 = .ok (.aload_n 2, 1) := by decide +kernel
theorem dL_law__1052 : decode cL_law_ 1052 = .ok (.aload_n 0, 1) := by decide +kernel
theorem dL_law__1053 : decode cL_law_ 1053 = .ok (.iload 4, 2) := by decide +kernel
theorem dL_law__1055 : decode cL_law_ 1055 = .ok (.iconst 1, 1) := by decide +kernel
theorem dL_law__1056 : decode cL_law_ 1056 = .ok (.iadd, 1) := by decide +kernel
theorem dL_law__1057 : decode cL_law_ 1057 = .ok (.iaload, 1) := by decide +kernel
theorem dL_law__1058 : decode cL_law_ 1058 = .ok (.aload_n 0, 1) := by decide +kernel
theorem dL_law__1059 : decode cL_law_ 1059 = .ok (.iload 4, 2) := by decide +kernel
theorem dL_law__1061 : decode cL_law_ 1061 = .ok (.iconst 2, 1) := by decide +kernel
theorem dL_law__1062 : decode cL_law_ 1062 = .ok (.iadd, 1) := by decide +kernel
theorem dL_law__1063 : decode cL_law_ 1063 = .ok (.iaload, 1) := by decide +kernel
theorem dL_law__1064 : decode cL_law_ 1064 = .ok (.aload_n 0, 1) := by decide +kernel
theorem dL_law__1065 : decode cL_law_ 1065 = .ok (.iload 4, 2) := by decide +kernel
theorem dL_law__1067 : decode cL_law_ 1067 = .ok (.iconst 3, 1) := by decide +kernel
theorem dL_law__1068 : decode cL_law_ 1068 = .ok (.iadd, 1) := by decide +kernel
theorem dL_law__1069 : decode cL_law_ 1069 = .ok (.iaload, 1) := by decide +kernel
theorem dL_law__1070 : decode cL_law_ 1070 = .ok (.invokevirtual 174, 3) := by decide +kernel
theorem dL_law__1073 : decode cL_law_ 1073 = .ok (.istore 6, 2) := by decide +kernel
theorem dL_law__1075 : decode cL_law_ 1075 = .ok (.aload_n 2, 1) := by decide +kernel
theorem dL_law__1076 : decode cL_law_ 1076 = .ok (.invokevirtual 134, 3) := by decide +kernel
theorem dL_law__1079 : decode cL_law_ 1079 = .ok (.iload 5, 2) := by decide +kernel
theorem dL_law__1081 : decode cL_law_ 1081 = .ok (.if_icmp .eq 5, 3) := by decide +kernel
theorem dL_law__1084 : decode cL_law_ 1084 = .ok (.iconst 0, 1) := by decide +kernel
theorem dL_law__1085 : decode cL_law_ 1085 = .ok (.ireturn, 1) := by decide +kernel
theorem dL_law__1086 : decode cL_law_ 1086 = .ok (.iload 5, 2) := by decide +kernel
theorem dL_law__1088 : decode cL_law_ 1088 = .ok (.ifCond .ne 15, 3) := by decide +kernel
theorem dL_law__1091 : decode cL_law_ 1091 = .ok (.aload_n 3, 1) := by decide +kernel
theorem dL_law__1092 : decode cL_law_ 1092 = .ok (.iconst 0, 1) := by decide +kernel
theorem dL_law__1093 : decode cL_law_ 1093 = .ok (.laload, 1) := by decide +kernel
theorem dL_law__1094 : decode cL_law_ 1094 = .ok (.iload 6, 2) := by decide +kernel
theorem dL_law__1096 : decode cL_law_ 1096 = .ok (.i2l, 1) := by decide +kernel
theorem dL_law__1097 : decode cL_law_ 1097 = .ok (.lcmp, 1) := by decide +kernel
theorem dL_law__1098 : decode cL_law_ 1098 = .ok (.ifCond .eq 5, 3) := by decide +kernel
theorem dL_law__1101 : decode cL_law_ 1101 = .ok (.iconst 0, 1) := by decide +kernel
theorem dL_law__1102 : decode cL_law_ 1102 = .ok (.ireturn, 1) := by decide +kernel
theorem dL_law__1103 : decode cL_law_ 1103 = .ok (.goto 1636, 3) := by decide +kernel
theorem dL_law__1106 : decode cL_law_ 1106 = .ok (.aload_n 1, 1) := by decide +kernel
theorem dL_law__1107 : decode cL_law_ 1107 = .ok (.aload_n 0, 1) := by decide +kernel
theorem dL_law__1108 : decode cL_law_ 1108 = .ok (.iload 4, 2) := by decide +kernel
theorem dL_law__1110 : decode cL_law_ 1110 = .ok (.iconst 1, 1) := by decide +kernel
theorem dL_law__1111 : decode cL_law_ 1111 = .ok (.iadd, 1) := by decide +kernel
theorem dL_law__1112 : decode cL_law_ 1112 = .ok (.iaload, 1) := by decide +kernel
theorem dL_law__1113 : decode cL_law_ 1113 = .ok (.aload_n 0, 1) := by decide +kernel
theorem dL_law__1114 : decode cL_law_ 1114 = .ok (.iload 4, 2) := by decide +kernel
theorem dL_law__1116 : decode cL_law_ 1116 = .ok (.iconst 2, 1) := by decide +kernel
theorem dL_law__1117 : decode cL_law_ 1117 = .ok (.iadd, 1) := by decide +kernel
theorem dL_law__1118 : decode cL_law_ 1118 = .ok (.iaload, 1) := by decide +kernel
theorem dL_law__1119 : decode cL_law_ 1119 = .ok (.aload_n 3, 1) := by decide +kernel
theorem dL_law__1120 : decode cL_law_ 1120 = .ok (.invokestatic 175, 3) := by decide +kernel
theorem dL_law__1123 : decode cL_law_ 1123 = .ok (.istore 5, 2) := by decide +kernel
theorem dL_law__1125 : decode cL_law_ 1125 = .ok (.aload_n 2, 1) := by decide +kernel
theorem dL_law__1126 : decode cL_law_ 1126 = .ok (.aload_n 0, 1) := by decide +kernel
theorem dL_law__1127 : decode cL_law_ 1127 = .ok (.iload 4, 2) := by decide +kernel
theorem dL_law__1129 : decode cL_law_ 1129 = .ok (.iconst 1, 1) := by decide +kernel
theorem dL_law__1130 : decode cL_law_ 1130 = .ok (.iadd, 1) := by decide +kernel
theorem dL_law__1131 : decode cL_law_ 1131 = .ok (.iaload, 1) := by decide +kernel
theorem dL_law__1132 : decode cL_law_ 1132 = .ok (.aload_n 0, 1) := by decide +kernel
theorem dL_law__1133 : decode cL_law_ 1133 = .ok (.iload 4, 2) := by decide +kernel
theorem dL_law__1135 : decode cL_law_ 1135 = .ok (.iconst 2, 1) := by decide +kernel
theorem dL_law__1136 : decode cL_law_ 1136 = .ok (.iadd, 1) := by decide +kernel
theorem dL_law__1137 : decode cL_law_ 1137 = .ok (.iaload, 1) := by decide +kernel
theorem dL_law__1138 : decode cL_law_ 1138 = .ok (.invokevirtual 177, 3) := by decide +kernel
theorem dL_law__1141 : decode cL_law_ 1141 = .ok (.istore 6, 2) := by decide +kernel
theorem dL_law__1143 : decode cL_law_ 1143 = .ok (.aload_n 2, 1) := by decide +kernel
theorem dL_law__1144 : decode cL_law_ 1144 = .ok (.invokevirtual 134, 3) := by decide +kernel
theorem dL_law__1147 : decode cL_law_ 1147 = .ok (.iload 5, 2) := by decide +kernel
theorem dL_law__1149 : decode cL_law_ 1149 = .ok (.if_icmp .eq 5, 3) := by decide +kernel
theorem dL_law__1152 : decode cL_law_ 1152 = .ok (.iconst 0, 1) := by decide +kernel
theorem dL_law__1153 : decode cL_law_ 1153 = .ok (.ireturn, 1) := by decide +kernel
theorem dL_law__1154 : decode cL_law_ 1154 = .ok (.iload 5, 2) := by decide +kernel
theorem dL_law__1156 : decode cL_law_ 1156 = .ok (.ifCond .ne 15, 3) := by decide +kernel
theorem dL_law__1159 : decode cL_law_ 1159 = .ok (.aload_n 3, 1) := by decide +kernel
theorem dL_law__1160 : decode cL_law_ 1160 = .ok (.iconst 0, 1) := by decide +kernel
theorem dL_law__1161 : decode cL_law_ 1161 = .ok (.laload, 1) := by decide +kernel
theorem dL_law__1162 : decode cL_law_ 1162 = .ok (.iload 6, 2) := by decide +kernel
theorem dL_law__1164 : decode cL_law_ 1164 = .ok (.i2l, 1) := by decide +kernel
theorem dL_law__1165 : decode cL_law_ 1165 = .ok (.lcmp, 1) := by decide +kernel
theorem dL_law__1166 : decode cL_law_ 1166 = .ok (.ifCond .eq 5, 3) := by decide +kernel
theorem dL_law__1169 : decode cL_law_ 1169 = .ok (.iconst 0, 1) := by decide +kernel
theorem dL_law__1170 : decode cL_law_ 1170 = .ok (.ireturn, 1) := by decide +kernel
theorem dL_law__1171 : decode cL_law_ 1171 = .ok (.goto 1568, 3) := by decide +kernel
theorem dL_law__1174 : decode cL_law_ 1174 = .ok (.aload_n 1, 1) := by decide +kernel
theorem dL_law__1175 : decode cL_law_ 1175 = .ok (.aload_n 0, 1) := by decide +kernel
theorem dL_law__1176 : decode cL_law_ 1176 = .ok (.iload 4, 2) := by decide +kernel
theorem dL_law__1178 : decode cL_law_ 1178 = .ok (.iconst 1, 1) := by decide +kernel
theorem dL_law__1179 : decode cL_law_ 1179 = .ok (.iadd, 1) := by decide +kernel
theorem dL_law__1180 : decode cL_law_ 1180 = .ok (.iaload, 1) := by decide +kernel
theorem dL_law__1181 : decode cL_law_ 1181 = .ok (.aload_n 0, 1) := by decide +kernel
theorem dL_law__1182 : decode cL_law_ 1182 = .ok (.iload 4, 2) := by decide +kernel
theorem dL_law__1184 : decode cL_law_ 1184 = .ok (.iconst 2, 1) := by decide +kernel
theorem dL_law__1185 : decode cL_law_ 1185 = .ok (.iadd, 1) := by decide +kernel
theorem dL_law__1186 : decode cL_law_ 1186 = .ok (.iaload, 1) := by decide +kernel
theorem dL_law__1187 : decode cL_law_ 1187 = .ok (.aload_n 3, 1) := by decide +kernel
theorem dL_law__1188 : decode cL_law_ 1188 = .ok (.invokestatic 178, 3) := by decide +kernel
theorem dL_law__1191 : decode cL_law_ 1191 = .ok (.istore 5, 2) := by decide +kernel
theorem dL_law__1193 : decode cL_law_ 1193 = .ok (.aload_n 2, 1) := by decide +kernel
theorem dL_law__1194 : decode cL_law_ 1194 = .ok (.aload_n 0, 1) := by decide +kernel
theorem dL_law__1195 : decode cL_law_ 1195 = .ok (.iload 4, 2) := by decide +kernel
theorem dL_law__1197 : decode cL_law_ 1197 = .ok (.iconst 1, 1) := by decide +kernel
theorem dL_law__1198 : decode cL_law_ 1198 = .ok (.iadd, 1) := by decide +kernel
theorem dL_law__1199 : decode cL_law_ 1199 = .ok (.iaload, 1) := by decide +kernel
theorem dL_law__1200 : decode cL_law_ 1200 = .ok (.aload_n 0, 1) := by decide +kernel
theorem dL_law__1201 : decode cL_law_ 1201 = .ok (.iload 4, 2) := by decide +kernel
theorem dL_law__1203 : decode cL_law_ 1203 = .ok (.iconst 2, 1) := by decide +kernel
theorem dL_law__1204 : decode cL_law_ 1204 = .ok (.iadd, 1) := by decide +kernel
theorem dL_law__1205 : decode cL_law_ 1205 = .ok (.iaload, 1) := by decide +kernel
theorem dL_law__1206 : decode cL_law_ 1206 = .ok (.invokevirtual 180, 3) := by decide +kernel
theorem dL_law__1209 : decode cL_law_ 1209 = .ok (.istore 6, 2) := by decide +kernel
theorem dL_law__1211 : decode cL_law_ 1211 = .ok (.aload_n 2, 1) := by decide +kernel
theorem dL_law__1212 : decode cL_law_ 1212 = .ok (.invokevirtual 134, 3) := by decide +kernel
theorem dL_law__1215 : decode cL_law_ 1215 = .ok (.iload 5, 2) := by decide +kernel
theorem dL_law__1217 : decode cL_law_ 1217 = .ok (.if_icmp .eq 5, 3) := by decide +kernel
theorem dL_law__1220 : decode cL_law_ 1220 = .ok (.iconst 0, 1) := by decide +kernel
theorem dL_law__1221 : decode cL_law_ 1221 = .ok (.ireturn, 1) := by decide +kernel
theorem dL_law__1222 : decode cL_law_ 1222 = .ok (.iload 5, 2) := by decide +kernel
theorem dL_law__1224 : decode cL_law_ 1224 = .ok (.ifCond .ne 15, 3) := by decide +kernel
theorem dL_law__1227 : decode cL_law_ 1227 = .ok (.aload_n 3, 1) := by decide +kernel
theorem dL_law__1228 : decode cL_law_ 1228 = .ok (.iconst 0, 1) := by decide +kernel
theorem dL_law__1229 : decode cL_law_ 1229 = .ok (.laload, 1) := by decide +kernel
theorem dL_law__1230 : decode cL_law_ 1230 = .ok (.iload 6, 2) := by decide +kernel
theorem dL_law__1232 : decode cL_law_ 1232 = .ok (.i2l, 1) := by decide +kernel
theorem dL_law__1233 : decode cL_law_ 1233 = .ok (.lcmp, 1) := by decide +kernel
theorem dL_law__1234 : decode cL_law_ 1234 = .ok (.ifCond .eq 5, 3) := by decide +kernel
theorem dL_law__1237 : decode cL_law_ 1237 = .ok (.iconst 0, 1) := by decide +kernel
theorem dL_law__1238 : decode cL_law_ 1238 = .ok (.ireturn, 1) := by decide +kernel
theorem dL_law__1239 : decode cL_law_ 1239 = .ok (.goto 1500, 3) := by decide +kernel
theorem dL_law__1242 : decode cL_law_ 1242 = .ok (.aload_n 1, 1) := by decide +kernel
theorem dL_law__1243 : decode cL_law_ 1243 = .ok (.aload_n 0, 1) := by decide +kernel
theorem dL_law__1244 : decode cL_law_ 1244 = .ok (.iload 4, 2) := by decide +kernel
theorem dL_law__1246 : decode cL_law_ 1246 = .ok (.iconst 1, 1) := by decide +kernel
theorem dL_law__1247 : decode cL_law_ 1247 = .ok (.iadd, 1) := by decide +kernel
theorem dL_law__1248 : decode cL_law_ 1248 = .ok (.iaload, 1) := by decide +kernel
theorem dL_law__1249 : decode cL_law_ 1249 = .ok (.ifCond .eq 7, 3) := by decide +kernel
theorem dL_law__1252 : decode cL_law_ 1252 = .ok (.iconst 1, 1) := by decide +kernel
theorem dL_law__1253 : decode cL_law_ 1253 = .ok (.goto 4, 3) := by decide +kernel
theorem dL_law__1256 : decode cL_law_ 1256 = .ok (.iconst 0, 1) := by decide +kernel
theorem dL_law__1257 : decode cL_law_ 1257 = .ok (.invokevirtual 181, 3) := by decide +kernel
theorem dL_law__1260 : decode cL_law_ 1260 = .ok (.aload_n 2, 1) := by decide +kernel
theorem dL_law__1261 : decode cL_law_ 1261 = .ok (.aload_n 0, 1) := by decide +kernel
theorem dL_law__1262 : decode cL_law_ 1262 = .ok (.iload 4, 2) := by decide +kernel
theorem dL_law__1264 : decode cL_law_ 1264 = .ok (.iconst 1, 1) := by decide +kernel
theorem dL_law__1265 : decode cL_law_ 1265 = .ok (.iadd, 1) := by decide +kernel
theorem dL_law__1266 : decode cL_law_ 1266 = .ok (.iaload, 1) := by decide +kernel
theorem dL_law__1267 : decode cL_law_ 1267 = .ok (.ifCond .eq 7, 3) := by decide +kernel
theorem dL_law__1270 : decode cL_law_ 1270 = .ok (.iconst 1, 1) := by decide +kernel
theorem dL_law__1271 : decode cL_law_ 1271 = .ok (.goto 4, 3) := by decide +kernel
theorem dL_law__1274 : decode cL_law_ 1274 = .ok (.iconst 0, 1) := by decide +kernel
theorem dL_law__1275 : decode cL_law_ 1275 = .ok (.invokevirtual 185, 3) := by decide +kernel
theorem dL_law__1278 : decode cL_law_ 1278 = .ok (.if_icmp .eq 1461, 3) := by decide +kernel
theorem dL_law__1281 : decode cL_law_ 1281 = .ok (.iconst 0, 1) := by decide +kernel
theorem dL_law__1282 : decode cL_law_ 1282 = .ok (.ireturn, 1) := by decide +kernel
theorem dL_law__1283 : decode cL_law_ 1283 = .ok (.aload_n 1, 1) := by decide +kernel
theorem dL_law__1284 : decode cL_law_ 1284 = .ok (.invokevirtual 186, 3) := by decide +kernel
theorem dL_law__1287 : decode cL_law_ 1287 = .ok (.aload_n 2, 1) := by decide +kernel
theorem dL_law__1288 : decode cL_law_ 1288 = .ok (.invokevirtual 189, 3) := by decide +kernel
theorem dL_law__1291 : decode cL_law_ 1291 = .ok (.if_icmp .eq 1448, 3) := by decide +kernel
theorem dL_law__1294 : decode cL_law_ 1294 = .ok (.iconst 0, 1) := by decide +kernel
theorem dL_law__1295 : decode cL_law_ 1295 = .ok (.ireturn, 1) := by decide +kernel
theorem dL_law__1296 : decode cL_law_ 1296 = .ok (.aload_n 1, 1) := by decide +kernel
theorem dL_law__1297 : decode cL_law_ 1297 = .ok (.invokevirtual 190, 3) := by decide +kernel
theorem dL_law__1300 : decode cL_law_ 1300 = .ok (.aload_n 2, 1) := by decide +kernel
theorem dL_law__1301 : decode cL_law_ 1301 = .ok (.invokevirtual 193, 3) := by decide +kernel
theorem dL_law__1304 : decode cL_law_ 1304 = .ok (.if_icmp .eq 1435, 3) := by decide +kernel
theorem dL_law__1307 : decode cL_law_ 1307 = .ok (.iconst 0, 1) := by decide +kernel
theorem dL_law__1308 : decode cL_law_ 1308 = .ok (.ireturn, 1) := by decide +kernel
theorem dL_law__1309 : decode cL_law_ 1309 = .ok (.aload_n 1, 1) := by decide +kernel
theorem dL_law__1310 : decode cL_law_ 1310 = .ok (.invokevirtual 194, 3) := by decide +kernel
theorem dL_law__1313 : decode cL_law_ 1313 = .ok (.aload_n 2, 1) := by decide +kernel
theorem dL_law__1314 : decode cL_law_ 1314 = .ok (.invokevirtual 197, 3) := by decide +kernel
theorem dL_law__1317 : decode cL_law_ 1317 = .ok (.if_icmp .eq 1422, 3) := by decide +kernel
theorem dL_law__1320 : decode cL_law_ 1320 = .ok (.iconst 0, 1) := by decide +kernel
theorem dL_law__1321 : decode cL_law_ 1321 = .ok (.ireturn, 1) := by decide +kernel
theorem dL_law__1322 : decode cL_law_ 1322 = .ok (.aload_n 1, 1) := by decide +kernel
theorem dL_law__1323 : decode cL_law_ 1323 = .ok (.invokevirtual 198, 3) := by decide +kernel
theorem dL_law__1326 : decode cL_law_ 1326 = .ok (.aload_n 2, 1) := by decide +kernel
theorem dL_law__1327 : decode cL_law_ 1327 = .ok (.invokevirtual 201, 3) := by decide +kernel
theorem dL_law__1330 : decode cL_law_ 1330 = .ok (.if_icmp .eq 1409, 3) := by decide +kernel
theorem dL_law__1333 : decode cL_law_ 1333 = .ok (.iconst 0, 1) := by decide +kernel
theorem dL_law__1334 : decode cL_law_ 1334 = .ok (.ireturn, 1) := by decide +kernel
theorem dL_law__1335 : decode cL_law_ 1335 = .ok (.aload_n 1, 1) := by decide +kernel
theorem dL_law__1336 : decode cL_law_ 1336 = .ok (.invokevirtual 202, 3) := by decide +kernel
theorem dL_law__1339 : decode cL_law_ 1339 = .ok (.aload_n 2, 1) := by decide +kernel
theorem dL_law__1340 : decode cL_law_ 1340 = .ok (.invokevirtual 205, 3) := by decide +kernel
theorem dL_law__1343 : decode cL_law_ 1343 = .ok (.if_icmp .eq 1396, 3) := by decide +kernel
theorem dL_law__1346 : decode cL_law_ 1346 = .ok (.iconst 0, 1) := by decide +kernel
theorem dL_law__1347 : decode cL_law_ 1347 = .ok (.ireturn, 1) := by decide +kernel
theorem dL_law__1348 : decode cL_law_ 1348 = .ok (.aload_n 1, 1) := by decide +kernel
theorem dL_law__1349 : decode cL_law_ 1349 = .ok (.invokevirtual 206, 3) := by decide +kernel
theorem dL_law__1352 : decode cL_law_ 1352 = .ok (.aload_n 2, 1) := by decide +kernel
theorem dL_law__1353 : decode cL_law_ 1353 = .ok (.invokevirtual 209, 3) := by decide +kernel
theorem dL_law__1356 : decode cL_law_ 1356 = .ok (.if_icmp .eq 1383, 3) := by decide +kernel
theorem dL_law__1359 : decode cL_law_ 1359 = .ok (.iconst 0, 1) := by decide +kernel
theorem dL_law__1360 : decode cL_law_ 1360 = .ok (.ireturn, 1) := by decide +kernel
theorem dL_law__1361 : decode cL_law_ 1361 = .ok (.aload_n 1, 1) := by decide +kernel
theorem dL_law__1362 : decode cL_law_ 1362 = .ok (.aload_n 0, 1) := by decide +kernel
theorem dL_law__1363 : decode cL_law_ 1363 = .ok (.iload 4, 2) := by decide +kernel
theorem dL_law__1365 : decode cL_law_ 1365 = .ok (.iconst 1, 1) := by decide +kernel
theorem dL_law__1366 : decode cL_law_ 1366 = .ok (.iadd, 1) := by decide +kernel
theorem dL_law__1367 : decode cL_law_ 1367 = .ok (.iaload, 1) := by decide +kernel
theorem dL_law__1368 : decode cL_law_ 1368 = .ok (.invokevirtual 210, 3) := by decide +kernel
theorem dL_law__1371 : decode cL_law_ 1371 = .ok (.aload_n 2, 1) := by decide +kernel
theorem dL_law__1372 : decode cL_law_ 1372 = .ok (.aload_n 0, 1) := by decide +kernel
theorem dL_law__1373 : decode cL_law_ 1373 = .ok (.iload 4, 2) := by decide +kernel
theorem dL_law__1375 : decode cL_law_ 1375 = .ok (.iconst 1, 1) := by decide +kernel
theorem dL_law__1376 : decode cL_law_ 1376 = .ok (.iadd, 1) := by decide +kernel
theorem dL_law__1377 : decode cL_law_ 1377 = .ok (.iaload, 1) := by decide +kernel
theorem dL_law__1378 : decode cL_law_ 1378 = .ok (.invokevirtual 213, 3) := by decide +kernel
theorem dL_law__1381 : decode cL_law_ 1381 = .ok (.if_icmp .eq 1358, 3) := by decide +kernel
theorem dL_law__1384 : decode cL_law_ 1384 = .ok (.iconst 0, 1) := by decide +kernel
theorem dL_law__1385 : decode cL_law_ 1385 = .ok (.ireturn, 1) := by decide +kernel
theorem dL_law__1386 : decode cL_law_ 1386 = .ok (.aload_n 1, 1) := by decide +kernel
theorem dL_law__1387 : decode cL_law_ 1387 = .ok (.aload_n 0, 1) := by decide +kernel
theorem dL_law__1388 : decode cL_law_ 1388 = .ok (.iload 4, 2) := by decide +kernel
theorem dL_law__1390 : decode cL_law_ 1390 = .ok (.iconst 1, 1) := by decide +kernel
theorem dL_law__1391 : decode cL_law_ 1391 = .ok (.iadd, 1) := by decide +kernel
theorem dL_law__1392 : decode cL_law_ 1392 = .ok (.iaload, 1) := by decide +kernel
theorem dL_law__1393 : decode cL_law_ 1393 = .ok (.aload_n 3, 1) := by decide +kernel
theorem dL_law__1394 : decode cL_law_ 1394 = .ok (.invokestatic 214, 3) := by decide +kernel
theorem dL_law__1397 : decode cL_law_ 1397 = .ok (.istore 5, 2) := by decide +kernel
theorem dL_law__1399 : decode cL_law_ 1399 = .ok (.aload_n 2, 1) := by decide +kernel
theorem dL_law__1400 : decode cL_law_ 1400 = .ok (.aload_n 0, 1) := by decide +kernel
theorem dL_law__1401 : decode cL_law_ 1401 = .ok (.iload 4, 2) := by decide +kernel
theorem dL_law__1403 : decode cL_law_ 1403 = .ok (.iconst 1, 1) := by decide +kernel
theorem dL_law__1404 : decode cL_law_ 1404 = .ok (.iadd, 1) := by decide +kernel
theorem dL_law__1405 : decode cL_law_ 1405 = .ok (.iaload, 1) := by decide +kernel
theorem dL_law__1406 : decode cL_law_ 1406 = .ok (.invokevirtual 216, 3) := by decide +kernel
theorem dL_law__1409 : decode cL_law_ 1409 = .ok (.istore 6, 2) := by decide +kernel
theorem dL_law__1411 : decode cL_law_ 1411 = .ok (.aload_n 2, 1) := by decide +kernel
theorem dL_law__1412 : decode cL_law_ 1412 = .ok (.invokevirtual 134, 3) := by decide +kernel
theorem dL_law__1415 : decode cL_law_ 1415 = .ok (.iload 5, 2) := by decide +kernel
theorem dL_law__1417 : decode cL_law_ 1417 = .ok (.if_icmp .eq 5, 3) := by decide +kernel
theorem dL_law__1420 : decode cL_law_ 1420 = .ok (.iconst 0, 1) := by decide +kernel
theorem dL_law__1421 : decode cL_law_ 1421 = .ok (.ireturn, 1) := by decide +kernel
theorem dL_law__1422 : decode cL_law_ 1422 = .ok (.iload 5, 2) := by decide +kernel
theorem dL_law__1424 : decode cL_law_ 1424 = .ok (.ifCond .ne 15, 3) := by decide +kernel
theorem dL_law__1427 : decode cL_law_ 1427 = .ok (.aload_n 3, 1) := by decide +kernel
theorem dL_law__1428 : decode cL_law_ 1428 = .ok (.iconst 0, 1) := by decide +kernel
theorem dL_law__1429 : decode cL_law_ 1429 = .ok (.laload, 1) := by decide +kernel
theorem dL_law__1430 : decode cL_law_ 1430 = .ok (.iload 6, 2) := by decide +kernel
theorem dL_law__1432 : decode cL_law_ 1432 = .ok (.i2l, 1) := by decide +kernel
theorem dL_law__1433 : decode cL_law_ 1433 = .ok (.lcmp, 1) := by decide +kernel
theorem dL_law__1434 : decode cL_law_ 1434 = .ok (.ifCond .eq 5, 3) := by decide +kernel
theorem dL_law__1437 : decode cL_law_ 1437 = .ok (.iconst 0, 1) := by decide +kernel
theorem dL_law__1438 : decode cL_law_ 1438 = .ok (.ireturn, 1) := by decide +kernel
theorem dL_law__1439 : decode cL_law_ 1439 = .ok (.goto 1300, 3) := by decide +kernel
theorem dL_law__1442 : decode cL_law_ 1442 = .ok (.aload_n 1, 1) := by decide +kernel
theorem dL_law__1443 : decode cL_law_ 1443 = .ok (.invokevirtual 217, 3) := by decide +kernel
theorem dL_law__1446 : decode cL_law_ 1446 = .ok (.aload_n 2, 1) := by decide +kernel
theorem dL_law__1447 : decode cL_law_ 1447 = .ok (.invokevirtual 220, 3) := by decide +kernel
theorem dL_law__1450 : decode cL_law_ 1450 = .ok (.if_icmp .eq 1289, 3) := by decide +kernel
theorem dL_law__1453 : decode cL_law_ 1453 = .ok (.iconst 0, 1) := by decide +kernel
theorem dL_law__1454 : decode cL_law_ 1454 = .ok (.ireturn, 1) := by decide +kernel
theorem dL_law__1455 : decode cL_law_ 1455 = .ok (.aload_n 1, 1) := by decide +kernel
theorem dL_law__1456 : decode cL_law_ 1456 = .ok (.aload_n 0, 1) := by decide +kernel
theorem dL_law__1457 : decode cL_law_ 1457 = .ok (.iload 4, 2) := by decide +kernel
theorem dL_law__1459 : decode cL_law_ 1459 = .ok (.iconst 1, 1) := by decide +kernel
theorem dL_law__1460 : decode cL_law_ 1460 = .ok (.iadd, 1) := by decide +kernel
theorem dL_law__1461 : decode cL_law_ 1461 = .ok (.iaload, 1) := by decide +kernel
theorem dL_law__1462 : decode cL_law_ 1462 = .ok (.ifCond .eq 7, 3) := by decide +kernel
theorem dL_law__1465 : decode cL_law_ 1465 = .ok (.iconst 1, 1) := by decide +kernel
theorem dL_law__1466 : decode cL_law_ 1466 = .ok (.goto 4, 3) := by decide +kernel
theorem dL_law__1469 : decode cL_law_ 1469 = .ok (.iconst 0, 1) := by decide +kernel
theorem dL_law__1470 : decode cL_law_ 1470 = .ok (.invokevirtual 221, 3) := by decide +kernel
theorem dL_law__1473 : decode cL_law_ 1473 = .ok (.aload_n 2, 1) := by decide +kernel
theorem dL_law__1474 : decode cL_law_ 1474 = .ok (.aload_n 0, 1) := by decide +kernel
theorem dL_law__1475 : decode cL_law_ 1475 = .ok (.iload 4, 2) := by decide +kernel
theorem dL_law__1477 : decode cL_law_ 1477 = .ok (.iconst 1, 1) := by decide +kernel
theorem dL_law__1478 : decode cL_law_ 1478 = .ok (.iadd, 1) := by decide +kernel
theorem dL_law__1479 : decode cL_law_ 1479 = .ok (.iaload, 1) := by decide +kernel
theorem dL_law__1480 : decode cL_law_ 1480 = .ok (.ifCond .eq 7, 3) := by decide +kernel
theorem dL_law__1483 : decode cL_law_ 1483 = .ok (.iconst 1, 1) := by decide +kernel
theorem dL_law__1484 : decode cL_law_ 1484 = .ok (.goto 4, 3) := by decide +kernel
theorem dL_law__1487 : decode cL_law_ 1487 = .ok (.iconst 0, 1) := by decide +kernel
theorem dL_law__1488 : decode cL_law_ 1488 = .ok (.invokevirtual 224, 3) := by decide +kernel
theorem dL_law__1491 : decode cL_law_ 1491 = .ok (.if_icmp .eq 1248, 3) := by decide +kernel
theorem dL_law__1494 : decode cL_law_ 1494 = .ok (.iconst 0, 1) := by decide +kernel
theorem dL_law__1495 : decode cL_law_ 1495 = .ok (.ireturn, 1) := by decide +kernel
theorem dL_law__1496 : decode cL_law_ 1496 = .ok (.aload_n 1, 1) := by decide +kernel
theorem dL_law__1497 : decode cL_law_ 1497 = .ok (.aload_n 0, 1) := by decide +kernel
theorem dL_law__1498 : decode cL_law_ 1498 = .ok (.iload 4, 2) := by decide +kernel
theorem dL_law__1500 : decode cL_law_ 1500 = .ok (.iconst 1, 1) := by decide +kernel
theorem dL_law__1501 : decode cL_law_ 1501 = .ok (.iadd, 1) := by decide +kernel
theorem dL_law__1502 : decode cL_law_ 1502 = .ok (.iaload, 1) := by decide +kernel
theorem dL_law__1503 : decode cL_law_ 1503 = .ok (.ifCond .eq 7, 3) := by decide +kernel
theorem dL_law__1506 : decode cL_law_ 1506 = .ok (.iconst 1, 1) := by decide +kernel
theorem dL_law__1507 : decode cL_law_ 1507 = .ok (.goto 4, 3) := by decide +kernel
theorem dL_law__1510 : decode cL_law_ 1510 = .ok (.iconst 0, 1) := by decide +kernel
theorem dL_law__1511 : decode cL_law_ 1511 = .ok (.aload_n 3, 1) := by decide +kernel
theorem dL_law__1512 : decode cL_law_ 1512 = .ok (.invokestatic 225, 3) := by decide +kernel
theorem dL_law__1515 : decode cL_law_ 1515 = .ok (.istore 5, 2) := by decide +kernel
theorem dL_law__1517 : decode cL_law_ 1517 = .ok (.aload_n 2, 1) := by decide +kernel
theorem dL_law__1518 : decode cL_law_ 1518 = .ok (.aload_n 0, 1) := by decide +kernel
theorem dL_law__1519 : decode cL_law_ 1519 = .ok (.iload 4, 2) := by decide +kernel
theorem dL_law__1521 : decode cL_law_ 1521 = .ok (.iconst 1, 1) := by decide +kernel
theorem dL_law__1522 : decode cL_law_ 1522 = .ok (.iadd, 1) := by decide +kernel
theorem dL_law__1523 : decode cL_law_ 1523 = .ok (.iaload, 1) := by decide +kernel
theorem dL_law__1524 : decode cL_law_ 1524 = .ok (.ifCond .eq 7, 3) := by decide +kernel
theorem dL_law__1527 : decode cL_law_ 1527 = .ok (.iconst 1, 1) := by decide +kernel
theorem dL_law__1528 : decode cL_law_ 1528 = .ok (.goto 4, 3) := by decide +kernel
theorem dL_law__1531 : decode cL_law_ 1531 = .ok (.iconst 0, 1) := by decide +kernel
theorem dL_law__1532 : decode cL_law_ 1532 = .ok (.invokevirtual 228, 3) := by decide +kernel
theorem dL_law__1535 : decode cL_law_ 1535 = .ok (.istore 6, 2) := by decide +kernel
theorem dL_law__1537 : decode cL_law_ 1537 = .ok (.aload_n 2, 1) := by decide +kernel
theorem dL_law__1538 : decode cL_law_ 1538 = .ok (.invokevirtual 134, 3) := by decide +kernel
theorem dL_law__1541 : decode cL_law_ 1541 = .ok (.iload 5, 2) := by decide +kernel
theorem dL_law__1543 : decode cL_law_ 1543 = .ok (.if_icmp .eq 5, 3) := by decide +kernel
theorem dL_law__1546 : decode cL_law_ 1546 = .ok (.iconst 0, 1) := by decide +kernel
theorem dL_law__1547 : decode cL_law_ 1547 = .ok (.ireturn, 1) := by decide +kernel
theorem dL_law__1548 : decode cL_law_ 1548 = .ok (.iload 5, 2) := by decide +kernel
theorem dL_law__1550 : decode cL_law_ 1550 = .ok (.ifCond .ne 15, 3) := by decide +kernel
theorem dL_law__1553 : decode cL_law_ 1553 = .ok (.aload_n 3, 1) := by decide +kernel
theorem dL_law__1554 : decode cL_law_ 1554 = .ok (.iconst 0, 1) := by decide +kernel
theorem dL_law__1555 : decode cL_law_ 1555 = .ok (.laload, 1) := by decide +kernel
theorem dL_law__1556 : decode cL_law_ 1556 = .ok (.iload 6, 2) := by decide +kernel
theorem dL_law__1558 : decode cL_law_ 1558 = .ok (.i2l, 1) := by decide +kernel
theorem dL_law__1559 : decode cL_law_ 1559 = .ok (.lcmp, 1) := by decide +kernel
theorem dL_law__1560 : decode cL_law_ 1560 = .ok (.ifCond .eq 5, 3) := by decide +kernel
theorem dL_law__1563 : decode cL_law_ 1563 = .ok (.iconst 0, 1) := by decide +kernel
theorem dL_law__1564 : decode cL_law_ 1564 = .ok (.ireturn, 1) := by decide +kernel
theorem dL_law__1565 : decode cL_law_ 1565 = .ok (.goto 1174, 3) := by decide +kernel
theorem dL_law__1568 : decode cL_law_ 1568 = .ok (.aload_n 1, 1) := by decide +kernel
theorem dL_law__1569 : decode cL_law_ 1569 = .ok (.aload_n 3, 1) := by decide +kernel
theorem dL_law__1570 : decode cL_law_ 1570 = .ok (.invokestatic 229, 3) := by decide +kernel
theorem dL_law__1573 : decode cL_law_ 1573 = .ok (.istore 5, 2) := by decide +kernel
theorem dL_law__1575 : decode cL_law_ 1575 = .ok (.aload_n 2, 1) := by decide +kernel
theorem dL_law__1576 : decode cL_law_ 1576 = .ok (.invokevirtual 231, 3) := by decide +kernel
theorem dL_law__1579 : decode cL_law_ 1579 = .ok (.istore 6, 2) := by decide +kernel
theorem dL_law__1581 : decode cL_law_ 1581 = .ok (.aload_n 2, 1) := by decide +kernel
theorem dL_law__1582 : decode cL_law_ 1582 = .ok (.invokevirtual 134, 3) := by decide +kernel
theorem dL_law__1585 : decode cL_law_ 1585 = .ok (.iload 5, 2) := by decide +kernel
theorem dL_law__1587 : decode cL_law_ 1587 = .ok (.if_icmp .eq 5, 3) := by decide +kernel
theorem dL_law__1590 : decode cL_law_ 1590 = .ok (.iconst 0, 1) := by decide +kernel
theorem dL_law__1591 : decode cL_law_ 1591 = .ok (.ireturn, 1) := by decide +kernel
theorem dL_law__1592 : decode cL_law_ 1592 = .ok (.iload 5, 2) := by decide +kernel
theorem dL_law__1594 : decode cL_law_ 1594 = .ok (.ifCond .ne 15, 3) := by decide +kernel
theorem dL_law__1597 : decode cL_law_ 1597 = .ok (.aload_n 3, 1) := by decide +kernel
theorem dL_law__1598 : decode cL_law_ 1598 = .ok (.iconst 0, 1) := by decide +kernel
theorem dL_law__1599 : decode cL_law_ 1599 = .ok (.laload, 1) := by decide +kernel
theorem dL_law__1600 : decode cL_law_ 1600 = .ok (.iload 6, 2) := by decide +kernel
theorem dL_law__1602 : decode cL_law_ 1602 = .ok (.i2l, 1) := by decide +kernel
theorem dL_law__1603 : decode cL_law_ 1603 = .ok (.lcmp, 1) := by decide +kernel
theorem dL_law__1604 : decode cL_law_ 1604 = .ok (.ifCond .eq 5, 3) := by decide +kernel
theorem dL_law__1607 : decode cL_law_ 1607 = .ok (.iconst 0, 1) := by decide +kernel
theorem dL_law__1608 : decode cL_law_ 1608 = .ok (.ireturn, 1) := by decide +kernel
theorem dL_law__1609 : decode cL_law_ 1609 = .ok (.goto 1130, 3) := by decide +kernel
theorem dL_law__1612 : decode cL_law_ 1612 = .ok (.aload_n 1, 1) := by decide +kernel
theorem dL_law__1613 : decode cL_law_ 1613 = .ok (.invokevirtual 232, 3) := by decide +kernel
theorem dL_law__1616 : decode cL_law_ 1616 = .ok (.aload_n 2, 1) := by decide +kernel
theorem dL_law__1617 : decode cL_law_ 1617 = .ok (.invokevirtual 235, 3) := by decide +kernel
theorem dL_law__1620 : decode cL_law_ 1620 = .ok (.if_icmp .eq 1119, 3) := by decide +kernel
theorem dL_law__1623 : decode cL_law_ 1623 = .ok (.iconst 0, 1) := by decide +kernel
theorem dL_law__1624 : decode cL_law_ 1624 = .ok (.ireturn, 1) := by decide +kernel
theorem dL_law__1625 : decode cL_law_ 1625 = .ok (.aload_n 1, 1) := by decide +kernel
theorem dL_law__1626 : decode cL_law_ 1626 = .ok (.aload_n 0, 1) := by decide +kernel
theorem dL_law__1627 : decode cL_law_ 1627 = .ok (.iload 4, 2) := by decide +kernel
theorem dL_law__1629 : decode cL_law_ 1629 = .ok (.iconst 1, 1) := by decide +kernel
theorem dL_law__1630 : decode cL_law_ 1630 = .ok (.iadd, 1) := by decide +kernel
theorem dL_law__1631 : decode cL_law_ 1631 = .ok (.iaload, 1) := by decide +kernel
theorem dL_law__1632 : decode cL_law_ 1632 = .ok (.aload_n 0, 1) := by decide +kernel
theorem dL_law__1633 : decode cL_law_ 1633 = .ok (.iload 4, 2) := by decide +kernel
theorem dL_law__1635 : decode cL_law_ 1635 = .ok (.iconst 2, 1) := by decide +kernel
theorem dL_law__1636 : decode cL_law_ 1636 = .ok (.iadd, 1) := by decide +kernel
theorem dL_law__1637 : decode cL_law_ 1637 = .ok (.iaload, 1) := by decide +kernel
theorem dL_law__1638 : decode cL_law_ 1638 = .ok (.aload_n 3, 1) := by decide +kernel
theorem dL_law__1639 : decode cL_law_ 1639 = .ok (.invokestatic 236, 3) := by decide +kernel
theorem dL_law__1642 : decode cL_law_ 1642 = .ok (.istore 5, 2) := by decide +kernel
theorem dL_law__1644 : decode cL_law_ 1644 = .ok (.aload_n 2, 1) := by decide +kernel
theorem dL_law__1645 : decode cL_law_ 1645 = .ok (.aload_n 0, 1) := by decide +kernel
theorem dL_law__1646 : decode cL_law_ 1646 = .ok (.iload 4, 2) := by decide +kernel
theorem dL_law__1648 : decode cL_law_ 1648 = .ok (.iconst 1, 1) := by decide +kernel
theorem dL_law__1649 : decode cL_law_ 1649 = .ok (.iadd, 1) := by decide +kernel
theorem dL_law__1650 : decode cL_law_ 1650 = .ok (.iaload, 1) := by decide +kernel
theorem dL_law__1651 : decode cL_law_ 1651 = .ok (.aload_n 0, 1) := by decide +kernel
theorem dL_law__1652 : decode cL_law_ 1652 = .ok (.iload 4, 2) := by decide +kernel
theorem dL_law__1654 : decode cL_law_ 1654 = .ok (.iconst 2, 1) := by decide +kernel
theorem dL_law__1655 : decode cL_law_ 1655 = .ok (.iadd, 1) := by decide +kernel
theorem dL_law__1656 : decode cL_law_ 1656 = .ok (.iaload, 1) := by decide +kernel
theorem dL_law__1657 : decode cL_law_ 1657 = .ok (.invokevirtual 238, 3) := by decide +kernel
theorem dL_law__1660 : decode cL_law_ 1660 = .ok (.istore 6, 2) := by decide +kernel
theorem dL_law__1662 : decode cL_law_ 1662 = .ok (.aload_n 2, 1) := by decide +kernel
theorem dL_law__1663 : decode cL_law_ 1663 = .ok (.invokevirtual 134, 3) := by decide +kernel
theorem dL_law__1666 : decode cL_law_ 1666 = .ok (.iload 5, 2) := by decide +kernel
theorem dL_law__1668 : decode cL_law_ 1668 = .ok (.if_icmp .eq 5, 3) := by decide +kernel
theorem dL_law__1671 : decode cL_law_ 1671 = .ok (.iconst 0, 1) := by decide +kernel
theorem dL_law__1672 : decode cL_law_ 1672 = .ok (.ireturn, 1) := by decide +kernel
theorem dL_law__1673 : decode cL_law_ 1673 = .ok (.iload 5, 2) := by decide +kernel
theorem dL_law__1675 : decode cL_law_ 1675 = .ok (.ifCond .ne 15, 3) := by decide +kernel
theorem dL_law__1678 : decode cL_law_ 1678 = .ok (.aload_n 3, 1) := by decide +kernel
theorem dL_law__1679 : decode cL_law_ 1679 = .ok (.iconst 0, 1) := by decide +kernel
theorem dL_law__1680 : decode cL_law_ 1680 = .ok (.laload, 1) := by decide +kernel
theorem dL_law__1681 : decode cL_law_ 1681 = .ok (.iload 6, 2) := by decide +kernel
theorem dL_law__1683 : decode cL_law_ 1683 = .ok (.i2l, 1) := by decide +kernel
theorem dL_law__1684 : decode cL_law_ 1684 = .ok (.lcmp, 1) := by decide +kernel
theorem dL_law__1685 : decode cL_law_ 1685 = .ok (.ifCond .eq 5, 3) := by decide +kernel
theorem dL_law__1688 : decode cL_law_ 1688 = .ok (.iconst 0, 1) := by decide +kernel
theorem dL_law__1689 : decode cL_law_ 1689 = .ok (.ireturn, 1) := by decide +kernel
theorem dL_law__1690 : decode cL_law_ 1690 = .ok (.goto 1049, 3) := by decide +kernel
theorem dL_law__1693 : decode cL_law_ 1693 = .ok (.aload_n 1, 1) := by decide +kernel
theorem dL_law__1694 : decode cL_law_ 1694 = .ok (.aload_n 0, 1) := by decide +kernel
theorem dL_law__1695 : decode cL_law_ 1695 = .ok (.iload 4, 2) := by decide +kernel
theorem dL_law__1697 : decode cL_law_ 1697 = .ok (.iconst 1, 1) := by decide +kernel
theorem dL_law__1698 : decode cL_law_ 1698 = .ok (.iadd, 1) := by decide +kernel
theorem dL_law__1699 : decode cL_law_ 1699 = .ok (.iaload, 1) := by decide +kernel
theorem dL_law__1700 : decode cL_law_ 1700 = .ok (.aload_n 3, 1) := by decide +kernel
theorem dL_law__1701 : decode cL_law_ 1701 = .ok (.invokestatic 239, 3) := by decide +kernel
theorem dL_law__1704 : decode cL_law_ 1704 = .ok (.istore 5, 2) := by decide +kernel
theorem dL_law__1706 : decode cL_law_ 1706 = .ok (.aload_n 2, 1) := by decide +kernel
theorem dL_law__1707 : decode cL_law_ 1707 = .ok (.aload_n 0, 1) := by decide +kernel
theorem dL_law__1708 : decode cL_law_ 1708 = .ok (.iload 4, 2) := by decide +kernel
theorem dL_law__1710 : decode cL_law_ 1710 = .ok (.iconst 1, 1) := by decide +kernel
theorem dL_law__1711 : decode cL_law_ 1711 = .ok (.iadd, 1) := by decide +kernel
theorem dL_law__1712 : decode cL_law_ 1712 = .ok (.iaload, 1) := by decide +kernel
theorem dL_law__1713 : decode cL_law_ 1713 = .ok (.invokevirtual 241, 3) := by decide +kernel
theorem dL_law__1716 : decode cL_law_ 1716 = .ok (.istore 6, 2) := by decide +kernel
theorem dL_law__1718 : decode cL_law_ 1718 = .ok (.aload_n 2, 1) := by decide +kernel
theorem dL_law__1719 : decode cL_law_ 1719 = .ok (.invokevirtual 134, 3) := by decide +kernel
theorem dL_law__1722 : decode cL_law_ 1722 = .ok (.iload 5, 2) := by decide +kernel
theorem dL_law__1724 : decode cL_law_ 1724 = .ok (.if_icmp .eq 5, 3) := by decide +kernel
theorem dL_law__1727 : decode cL_law_ 1727 = .ok (.iconst 0, 1) := by decide +kernel
theorem dL_law__1728 : decode cL_law_ 1728 = .ok (.ireturn, 1) := by decide +kernel
theorem dL_law__1729 : decode cL_law_ 1729 = .ok (.iload 5, 2) := by decide +kernel
theorem dL_law__1731 : decode cL_law_ 1731 = .ok (.ifCond .ne 22, 3) := by decide +kernel
theorem dL_law__1734 : decode cL_law_ 1734 = .ok (.aload_n 3, 1) := by decide +kernel
theorem dL_law__1735 : decode cL_law_ 1735 = .ok (.iconst 0, 1) := by decide +kernel
theorem dL_law__1736 : decode cL_law_ 1736 = .ok (.laload, 1) := by decide +kernel
theorem dL_law__1737 : decode cL_law_ 1737 = .ok (.iload 6, 2) := by decide +kernel
theorem dL_law__1739 : decode cL_law_ 1739 = .ok (.ifCond .eq 7, 3) := by decide +kernel
theorem dL_law__1742 : decode cL_law_ 1742 = .ok (.lconst 1, 1) := by decide +kernel
theorem dL_law__1743 : decode cL_law_ 1743 = .ok (.goto 4, 3) := by decide +kernel
theorem dL_law__1746 : decode cL_law_ 1746 = .ok (.lconst 0, 1) := by decide +kernel
theorem dL_law__1747 : decode cL_law_ 1747 = .ok (.lcmp, 1) := by decide +kernel
theorem dL_law__1748 : decode cL_law_ 1748 = .ok (.ifCond .eq 5, 3) := by decide +kernel
theorem dL_law__1751 : decode cL_law_ 1751 = .ok (.iconst 0, 1) := by decide +kernel
theorem dL_law__1752 : decode cL_law_ 1752 = .ok (.ireturn, 1) := by decide +kernel
theorem dL_law__1753 : decode cL_law_ 1753 = .ok (.goto 986, 3) := by decide +kernel
theorem dL_law__1756 : decode cL_law_ 1756 = .ok (.aload_n 1, 1) := by decide +kernel
theorem dL_law__1757 : decode cL_law_ 1757 = .ok (.invokevirtual 242, 3) := by decide +kernel
theorem dL_law__1760 : decode cL_law_ 1760 = .ok (.aload_n 2, 1) := by decide +kernel
theorem dL_law__1761 : decode cL_law_ 1761 = .ok (.invokevirtual 245, 3) := by decide +kernel
theorem dL_law__1764 : decode cL_law_ 1764 = .ok (.if_icmp .eq 975, 3) := by decide +kernel
theorem dL_law__1767 : decode cL_law_ 1767 = .ok (.iconst 0, 1) := by decide +kernel
theorem dL_law__1768 : decode cL_law_ 1768 = .ok (.ireturn, 1) := by decide +kernel
theorem dL_law__1769 : decode cL_law_ 1769 = .ok (.aload_n 1, 1) := by decide +kernel
theorem dL_law__1770 : decode cL_law_ 1770 = .ok (.invokevirtual 246, 3) := by decide +kernel
theorem dL_law__1773 : decode cL_law_ 1773 = .ok (.aload_n 2, 1) := by decide +kernel
theorem dL_law__1774 : decode cL_law_ 1774 = .ok (.invokevirtual 249, 3) := by decide +kernel
theorem dL_law__1777 : decode cL_law_ 1777 = .ok (.if_icmp .eq 962, 3) := by decide +kernel
theorem dL_law__1780 : decode cL_law_ 1780 = .ok (.iconst 0, 1) := by decide +kernel
theorem dL_law__1781 : decode cL_law_ 1781 = .ok (.ireturn, 1) := by decide +kernel
theorem dL_law__1782 : decode cL_law_ 1782 = .ok (.aload_n 1, 1) := by decide +kernel
theorem dL_law__1783 : decode cL_law_ 1783 = .ok (.aload_n 0, 1) := by decide +kernel
theorem dL_law__1784 : decode cL_law_ 1784 = .ok (.iload 4, 2) := by decide +kernel
theorem dL_law__1786 : decode cL_law_ 1786 = .ok (.iconst 1, 1) := by decide +kernel
theorem dL_law__1787 : decode cL_law_ 1787 = .ok (.iadd, 1) := by decide +kernel
theorem dL_law__1788 : decode cL_law_ 1788 = .ok (.iaload, 1) := by decide +kernel
theorem dL_law__1789 : decode cL_law_ 1789 = .ok (.aload_n 3, 1) := by decide +kernel
theorem dL_law__1790 : decode cL_law_ 1790 = .ok (.invokestatic 250, 3) := by decide +kernel
theorem dL_law__1793 : decode cL_law_ 1793 = .ok (.istore 5, 2) := by decide +kernel
theorem dL_law__1795 : decode cL_law_ 1795 = .ok (.aload_n 2, 1) := by decide +kernel
theorem dL_law__1796 : decode cL_law_ 1796 = .ok (.aload_n 0, 1) := by decide +kernel
theorem dL_law__1797 : decode cL_law_ 1797 = .ok (.iload 4, 2) := by decide +kernel
theorem dL_law__1799 : decode cL_law_ 1799 = .ok (.iconst 1, 1) := by decide +kernel
theorem dL_law__1800 : decode cL_law_ 1800 = .ok (.iadd, 1) := by decide +kernel
theorem dL_law__1801 : decode cL_law_ 1801 = .ok (.iaload, 1) := by decide +kernel
theorem dL_law__1802 : decode cL_law_ 1802 = .ok (.invokevirtual 252, 3) := by decide +kernel
theorem dL_law__1805 : decode cL_law_ 1805 = .ok (.istore 6, 2) := by decide +kernel
theorem dL_law__1807 : decode cL_law_ 1807 = .ok (.aload_n 2, 1) := by decide +kernel
theorem dL_law__1808 : decode cL_law_ 1808 = .ok (.invokevirtual 134, 3) := by decide +kernel
theorem dL_law__1811 : decode cL_law_ 1811 = .ok (.iload 5, 2) := by decide +kernel
theorem dL_law__1813 : decode cL_law_ 1813 = .ok (.if_icmp .eq 5, 3) := by decide +kernel
theorem dL_law__1816 : decode cL_law_ 1816 = .ok (.iconst 0, 1) := by decide +kernel
theorem dL_law__1817 : decode cL_law_ 1817 = .ok (.ireturn, 1) := by decide +kernel
theorem dL_law__1818 : decode cL_law_ 1818 = .ok (.iload 5, 2) := by decide +kernel
theorem dL_law__1820 : decode cL_law_ 1820 = .ok (.ifCond .ne 15, 3) := by decide +kernel
theorem dL_law__1823 : decode cL_law_ 1823 = .ok (.aload_n 3, 1) := by decide +kernel
theorem dL_law__1824 : decode cL_law_ 1824 = .ok (.iconst 0, 1) := by decide +kernel
theorem dL_law__1825 : decode cL_law_ 1825 = .ok (.laload, 1) := by decide +kernel
theorem dL_law__1826 : decode cL_law_ 1826 = .ok (.iload 6, 2) := by decide +kernel
theorem dL_law__1828 : decode cL_law_ 1828 = .ok (.i2l, 1) := by decide +kernel
theorem dL_law__1829 : decode cL_law_ 1829 = .ok (.lcmp, 1) := by decide +kernel
theorem dL_law__1830 : decode cL_law_ 1830 = .ok (.ifCond .eq 5, 3) := by decide +kernel
theorem dL_law__1833 : decode cL_law_ 1833 = .ok (.iconst 0, 1) := by decide +kernel
theorem dL_law__1834 : decode cL_law_ 1834 = .ok (.ireturn, 1) := by decide +kernel
theorem dL_law__1835 : decode cL_law_ 1835 = .ok (.goto 904, 3) := by decide +kernel
theorem dL_law__1838 : decode cL_law_ 1838 = .ok (.aload_n 1, 1) := by decide +kernel
theorem dL_law__1839 : decode cL_law_ 1839 = .ok (.aload_n 0, 1) := by decide +kernel
theorem dL_law__1840 : decode cL_law_ 1840 = .ok (.iload 4, 2) := by decide +kernel
theorem dL_law__1842 : decode cL_law_ 1842 = .ok (.iconst 1, 1) := by decide +kernel
theorem dL_law__1843 : decode cL_law_ 1843 = .ok (.iadd, 1) := by decide +kernel
theorem dL_law__1844 : decode cL_law_ 1844 = .ok (.iaload, 1) := by decide +kernel
theorem dL_law__1845 : decode cL_law_ 1845 = .ok (.aload_n 0, 1) := by decide +kernel
theorem dL_law__1846 : decode cL_law_ 1846 = .ok (.iload 4, 2) := by decide +kernel
theorem dL_law__1848 : decode cL_law_ 1848 = .ok (.iconst 2, 1) := by decide +kernel
theorem dL_law__1849 : decode cL_law_ 1849 = .ok (.iadd, 1) := by decide +kernel
theorem dL_law__1850 : decode cL_law_ 1850 = .ok (.iaload, 1) := by decide +kernel
theorem dL_law__1851 : decode cL_law_ 1851 = .ok (.aload_n 3, 1) := by decide +kernel
theorem dL_law__1852 : decode cL_law_ 1852 = .ok (.invokestatic 253, 3) := by decide +kernel
theorem dL_law__1855 : decode cL_law_ 1855 = .ok (.istore 5, 2) := by decide +kernel
theorem dL_law__1857 : decode cL_law_ 1857 = .ok (.aload_n 2, 1) := by decide +kernel
theorem dL_law__1858 : decode cL_law_ 1858 = .ok (.aload_n 0, 1) := by decide +kernel
theorem dL_law__1859 : decode cL_law_ 1859 = .ok (.iload 4, 2) := by decide +kernel
theorem dL_law__1861 : decode cL_law_ 1861 = .ok (.iconst 1, 1) := by decide +kernel
theorem dL_law__1862 : decode cL_law_ 1862 = .ok (.iadd, 1) := by decide +kernel
theorem dL_law__1863 : decode cL_law_ 1863 = .ok (.iaload, 1) := by decide +kernel
theorem dL_law__1864 : decode cL_law_ 1864 = .ok (.aload_n 0, 1) := by decide +kernel
theorem dL_law__1865 : decode cL_law_ 1865 = .ok (.iload 4, 2) := by decide +kernel
theorem dL_law__1867 : decode cL_law_ 1867 = .ok (.iconst 2, 1) := by decide +kernel
theorem dL_law__1868 : decode cL_law_ 1868 = .ok (.iadd, 1) := by decide +kernel
theorem dL_law__1869 : decode cL_law_ 1869 = .ok (.iaload, 1) := by decide +kernel
theorem dL_law__1870 : decode cL_law_ 1870 = .ok (.invokevirtual 255, 3) := by decide +kernel
theorem dL_law__1873 : decode cL_law_ 1873 = .ok (.istore 6, 2) := by decide +kernel
theorem dL_law__1875 : decode cL_law_ 1875 = .ok (.aload_n 2, 1) := by decide +kernel
theorem dL_law__1876 : decode cL_law_ 1876 = .ok (.invokevirtual 134, 3) := by decide +kernel
theorem dL_law__1879 : decode cL_law_ 1879 = .ok (.iload 5, 2) := by decide +kernel
theorem dL_law__1881 : decode cL_law_ 1881 = .ok (.if_icmp .eq 5, 3) := by decide +kernel
theorem dL_law__1884 : decode cL_law_ 1884 = .ok (.iconst 0, 1) := by decide +kernel
theorem dL_law__1885 : decode cL_law_ 1885 = .ok (.ireturn, 1) := by decide +kernel
theorem dL_law__1886 : decode cL_law_ 1886 = .ok (.iload 5, 2) := by decide +kernel
theorem dL_law__1888 : decode cL_law_ 1888 = .ok (.ifCond .ne 15, 3) := by decide +kernel
theorem dL_law__1891 : decode cL_law_ 1891 = .ok (.aload_n 3, 1) := by decide +kernel
theorem dL_law__1892 : decode cL_law_ 1892 = .ok (.iconst 0, 1) := by decide +kernel
theorem dL_law__1893 : decode cL_law_ 1893 = .ok (.laload, 1) := by decide +kernel
theorem dL_law__1894 : decode cL_law_ 1894 = .ok (.iload 6, 2) := by decide +kernel
theorem dL_law__1896 : decode cL_law_ 1896 = .ok (.i2l, 1) := by decide +kernel
theorem dL_law__1897 : decode cL_law_ 1897 = .ok (.lcmp, 1) := by decide +kernel
theorem dL_law__1898 : decode cL_law_ 1898 = .ok (.ifCond .eq 5, 3) := by decide +kernel
theorem dL_law__1901 : decode cL_law_ 1901 = .ok (.iconst 0, 1) := by decide +kernel
theorem dL_law__1902 : decode cL_law_ 1902 = .ok (.ireturn, 1) := by decide +kernel
theorem dL_law__1903 : decode cL_law_ 1903 = .ok (.goto 836, 3) := by decide +kernel
theorem dL_law__1906 : decode cL_law_ 1906 = .ok (.aload_n 1, 1) := by decide +kernel
theorem dL_law__1907 : decode cL_law_ 1907 = .ok (.aload_n 0, 1) := by decide +kernel
theorem dL_law__1908 : decode cL_law_ 1908 = .ok (.iload 4, 2) := by decide +kernel
theorem dL_law__1910 : decode cL_law_ 1910 = .ok (.iconst 1, 1) := by decide +kernel
theorem dL_law__1911 : decode cL_law_ 1911 = .ok (.iadd, 1) := by decide +kernel
theorem dL_law__1912 : decode cL_law_ 1912 = .ok (.iaload, 1) := by decide +kernel
theorem dL_law__1913 : decode cL_law_ 1913 = .ok (.aload_n 0, 1) := by decide +kernel
theorem dL_law__1914 : decode cL_law_ 1914 = .ok (.iload 4, 2) := by decide +kernel
theorem dL_law__1916 : decode cL_law_ 1916 = .ok (.iconst 2, 1) := by decide +kernel
theorem dL_law__1917 : decode cL_law_ 1917 = .ok (.iadd, 1) := by decide +kernel
theorem dL_law__1918 : decode cL_law_ 1918 = .ok (.iaload, 1) := by decide +kernel
theorem dL_law__1919 : decode cL_law_ 1919 = .ok (.aload_n 3, 1) := by decide +kernel
theorem dL_law__1920 : decode cL_law_ 1920 = .ok (.invokestatic 256, 3) := by decide +kernel
theorem dL_law__1923 : decode cL_law_ 1923 = .ok (.istore 5, 2) := by decide +kernel
theorem dL_law__1925 : decode cL_law_ 1925 = .ok (.aload_n 2, 1) := by decide +kernel
theorem dL_law__1926 : decode cL_law_ 1926 = .ok (.aload_n 0, 1) := by decide +kernel
theorem dL_law__1927 : decode cL_law_ 1927 = .ok (.iload 4, 2) := by decide +kernel
theorem dL_law__1929 : decode cL_law_ 1929 = .ok (.iconst 1, 1) := by decide +kernel
theorem dL_law__1930 : decode cL_law_ 1930 = .ok (.iadd, 1) := by decide +kernel
theorem dL_law__1931 : decode cL_law_ 1931 = .ok (.iaload, 1) := by decide +kernel
theorem dL_law__1932 : decode cL_law_ 1932 = .ok (.aload_n 0, 1) := by decide +kernel
theorem dL_law__1933 : decode cL_law_ 1933 = .ok (.iload 4, 2) := by decide +kernel
theorem dL_law__1935 : decode cL_law_ 1935 = .ok (.iconst 2, 1) := by decide +kernel
theorem dL_law__1936 : decode cL_law_ 1936 = .ok (.iadd, 1) := by decide +kernel
theorem dL_law__1937 : decode cL_law_ 1937 = .ok (.iaload, 1) := by decide +kernel
theorem dL_law__1938 : decode cL_law_ 1938 = .ok (.invokevirtual 258, 3) := by decide +kernel
theorem dL_law__1941 : decode cL_law_ 1941 = .ok (.istore 6, 2) := by decide +kernel
theorem dL_law__1943 : decode cL_law_ 1943 = .ok (.aload_n 2, 1) := by decide +kernel
theorem dL_law__1944 : decode cL_law_ 1944 = .ok (.invokevirtual 134, 3) := by decide +kernel
theorem dL_law__1947 : decode cL_law_ 1947 = .ok (.iload 5, 2) := by decide +kernel
theorem dL_law__1949 : decode cL_law_ 1949 = .ok (.if_icmp .eq 5, 3) := by decide +kernel
theorem dL_law__1952 : decode cL_law_ 1952 = .ok (.iconst 0, 1) := by decide +kernel
theorem dL_law__1953 : decode cL_law_ 1953 = .ok (.ireturn, 1) := by decide +kernel
theorem dL_law__1954 : decode cL_law_ 1954 = .ok (.iload 5, 2) := by decide +kernel
theorem dL_law__1956 : decode cL_law_ 1956 = .ok (.ifCond .ne 22, 3) := by decide +kernel
theorem dL_law__1959 : decode cL_law_ 1959 = .ok (.aload_n 3, 1) := by decide +kernel
theorem dL_law__1960 : decode cL_law_ 1960 = .ok (.iconst 0, 1) := by decide +kernel
theorem dL_law__1961 : decode cL_law_ 1961 = .ok (.laload, 1) := by decide +kernel
theorem dL_law__1962 : decode cL_law_ 1962 = .ok (.iload 6, 2) := by decide +kernel
theorem dL_law__1964 : decode cL_law_ 1964 = .ok (.ifCond .eq 7, 3) := by decide +kernel
theorem dL_law__1967 : decode cL_law_ 1967 = .ok (.lconst 1, 1) := by decide +kernel
theorem dL_law__1968 : decode cL_law_ 1968 = .ok (.goto 4, 3) := by decide +kernel
theorem dL_law__1971 : decode cL_law_ 1971 = .ok (.lconst 0, 1) := by decide +kernel
theorem dL_law__1972 : decode cL_law_ 1972 = .ok (.lcmp, 1) := by decide +kernel
theorem dL_law__1973 : decode cL_law_ 1973 = .ok (.ifCond .eq 5, 3) := by decide +kernel
theorem dL_law__1976 : decode cL_law_ 1976 = .ok (.iconst 0, 1) := by decide +kernel
theorem dL_law__1977 : decode cL_law_ 1977 = .ok (.ireturn, 1) := by decide +kernel
theorem dL_law__1978 : decode cL_law_ 1978 = .ok (.goto 761, 3) := by decide +kernel
theorem dL_law__1981 : decode cL_law_ 1981 = .ok (.aload_n 1, 1) := by decide +kernel
theorem dL_law__1982 : decode cL_law_ 1982 = .ok (.aload_n 0, 1) := by decide +kernel
theorem dL_law__1983 : decode cL_law_ 1983 = .ok (.iload 4, 2) := by decide +kernel
theorem dL_law__1985 : decode cL_law_ 1985 = .ok (.iconst 1, 1) := by decide +kernel
theorem dL_law__1986 : decode cL_law_ 1986 = .ok (.iadd, 1) := by decide +kernel
theorem dL_law__1987 : decode cL_law_ 1987 = .ok (.iaload, 1) := by decide +kernel
theorem dL_law__1988 : decode cL_law_ 1988 = .ok (.aload_n 3, 1) := by decide +kernel
theorem dL_law__1989 : decode cL_law_ 1989 = .ok (.invokestatic 259, 3) := by decide +kernel
theorem dL_law__1992 : decode cL_law_ 1992 = .ok (.istore 5, 2) := by decide +kernel
theorem dL_law__1994 : decode cL_law_ 1994 = .ok (.aload_n 2, 1) := by decide +kernel
theorem dL_law__1995 : decode cL_law_ 1995 = .ok (.aload_n 0, 1) := by decide +kernel
theorem dL_law__1996 : decode cL_law_ 1996 = .ok (.iload 4, 2) := by decide +kernel
theorem dL_law__1998 : decode cL_law_ 1998 = .ok (.iconst 1, 1) := by decide +kernel
theorem dL_law__1999 : decode cL_law_ 1999 = .ok (.iadd, 1) := by decide +kernel
theorem dL_law__2000 : decode cL_law_ 2000 = .ok (.iaload, 1) := by decide +kernel
theorem dL_law__2001 : decode cL_law_ 2001 = .ok (.invokevirtual 261, 3) := by decide +kernel
theorem dL_law__2004 : decode cL_law_ 2004 = .ok (.istore 6, 2) := by decide +kernel
theorem dL_law__2006 : decode cL_law_ 2006 = .ok (.aload_n 2, 1) := by decide +kernel
theorem dL_law__2007 : decode cL_law_ 2007 = .ok (.invokevirtual 134, 3) := by decide +kernel
theorem dL_law__2010 : decode cL_law_ 2010 = .ok (.iload 5, 2) := by decide +kernel
theorem dL_law__2012 : decode cL_law_ 2012 = .ok (.if_icmp .eq 5, 3) := by decide +kernel
theorem dL_law__2015 : decode cL_law_ 2015 = .ok (.iconst 0, 1) := by decide +kernel
theorem dL_law__2016 : decode cL_law_ 2016 = .ok (.ireturn, 1) := by decide +kernel
theorem dL_law__2017 : decode cL_law_ 2017 = .ok (.iload 5, 2) := by decide +kernel
theorem dL_law__2019 : decode cL_law_ 2019 = .ok (.ifCond .ne 15, 3) := by decide +kernel
theorem dL_law__2022 : decode cL_law_ 2022 = .ok (.aload_n 3, 1) := by decide +kernel
theorem dL_law__2023 : decode cL_law_ 2023 = .ok (.iconst 0, 1) := by decide +kernel
theorem dL_law__2024 : decode cL_law_ 2024 = .ok (.laload, 1) := by decide +kernel
theorem dL_law__2025 : decode cL_law_ 2025 = .ok (.iload 6, 2) := by decide +kernel
theorem dL_law__2027 : decode cL_law_ 2027 = .ok (.i2l, 1) := by decide +kernel
theorem dL_law__2028 : decode cL_law_ 2028 = .ok (.lcmp, 1) := by decide +kernel
theorem dL_law__2029 : decode cL_law_ 2029 = .ok (.ifCond .eq 5, 3) := by decide +kernel
theorem dL_law__2032 : decode cL_law_ 2032 = .ok (.iconst 0, 1) := by decide +kernel
theorem dL_law__2033 : decode cL_law_ 2033 = .ok (.ireturn, 1) := by decide +kernel
theorem dL_law__2034 : decode cL_law_ 2034 = .ok (.goto 705, 3) := by decide +kernel
theorem dL_law__2037 : decode cL_law_ 2037 = .ok (.aload_n 1, 1) := by decide +kernel
theorem dL_law__2038 : decode cL_law_ 2038 = .ok (.aload_n 0, 1) := by decide +kernel
theorem dL_law__2039 : decode cL_law_ 2039 = .ok (.iload 4, 2) := by decide +kernel
theorem dL_law__2041 : decode cL_law_ 2041 = .ok (.iconst 1, 1) := by decide +kernel
theorem dL_law__2042 : decode cL_law_ 2042 = .ok (.iadd, 1) := by decide +kernel
theorem dL_law__2043 : decode cL_law_ 2043 = .ok (.iaload, 1) := by decide +kernel
theorem dL_law__2044 : decode cL_law_ 2044 = .ok (.aload_n 0, 1) := by decide +kernel
theorem dL_law__2045 : decode cL_law_ 2045 = .ok (.iload 4, 2) := by decide +kernel
theorem dL_law__2047 : decode cL_law_ 2047 = .ok (.iconst 2, 1) := by decide +kernel
theorem dL_law__2048 : decode cL_law_ 2048 = .ok (.iadd, 1) := by decide +kernel
theorem dL_law__2049 : decode cL_law_ 2049 = .ok (.iaload, 1) := by decide +kernel
theorem dL_law__2050 : decode cL_law_ 2050 = .ok (.aload_n 3, 1) := by decide +kernel
theorem dL_law__2051 : decode cL_law_ 2051 = .ok (.invokestatic 262, 3) := by decide +kernel
theorem dL_law__2054 : decode cL_law_ 2054 = .ok (.istore 5, 2) := by decide +kernel
theorem dL_law__2056 : decode cL_law_ 2056 = .ok (.aload_n 2, 1) := by decide +kernel
theorem dL_law__2057 : decode cL_law_ 2057 = .ok (.aload_n 0, 1) := by decide +kernel
theorem dL_law__2058 : decode cL_law_ 2058 = .ok (.iload 4, 2) := by decide +kernel
theorem dL_law__2060 : decode cL_law_ 2060 = .ok (.iconst 1, 1) := by decide +kernel
theorem dL_law__2061 : decode cL_law_ 2061 = .ok (.iadd, 1) := by decide +kernel
theorem dL_law__2062 : decode cL_law_ 2062 = .ok (.iaload, 1) := by decide +kernel
theorem dL_law__2063 : decode cL_law_ 2063 = .ok (.aload_n 0, 1) := by decide +kernel
theorem dL_law__2064 : decode cL_law_ 2064 = .ok (.iload 4, 2) := by decide +kernel
theorem dL_law__2066 : decode cL_law_ 2066 = .ok (.iconst 2, 1) := by decide +kernel
theorem dL_law__2067 : decode cL_law_ 2067 = .ok (.iadd, 1) := by decide +kernel
theorem dL_law__2068 : decode cL_law_ 2068 = .ok (.iaload, 1) := by decide +kernel
theorem dL_law__2069 : decode cL_law_ 2069 = .ok (.invokevirtual 264, 3) := by decide +kernel
theorem dL_law__2072 : decode cL_law_ 2072 = .ok (.istore 6, 2) := by decide +kernel
theorem dL_law__2074 : decode cL_law_ 2074 = .ok (.aload_n 2, 1) := by decide +kernel
theorem dL_law__2075 : decode cL_law_ 2075 = .ok (.invokevirtual 134, 3) := by decide +kernel
theorem dL_law__2078 : decode cL_law_ 2078 = .ok (.iload 5, 2) := by decide +kernel
theorem dL_law__2080 : decode cL_law_ 2080 = .ok (.if_icmp .eq 5, 3) := by decide +kernel
theorem dL_law__2083 : decode cL_law_ 2083 = .ok (.iconst 0, 1) := by decide +kernel
theorem dL_law__2084 : decode cL_law_ 2084 = .ok (.ireturn, 1) := by decide +kernel
theorem dL_law__2085 : decode cL_law_ 2085 = .ok (.iload 5, 2) := by decide +kernel
theorem dL_law__2087 : decode cL_law_ 2087 = .ok (.ifCond .ne 15, 3) := by decide +kernel
theorem dL_law__2090 : decode cL_law_ 2090 = .ok (.aload_n 3, 1) := by decide +kernel
theorem dL_law__2091 : decode cL_law_ 2091 = .ok (.iconst 0, 1) := by decide +kernel
theorem dL_law__2092 : decode cL_law_ 2092 = .ok (.laload, 1) := by decide +kernel
theorem dL_law__2093 : decode cL_law_ 2093 = .ok (.iload 6, 2) := by decide +kernel
theorem dL_law__2095 : decode cL_law_ 2095 = .ok (.i2l, 1) := by decide +kernel
theorem dL_law__2096 : decode cL_law_ 2096 = .ok (.lcmp, 1) := by decide +kernel
theorem dL_law__2097 : decode cL_law_ 2097 = .ok (.ifCond .eq 5, 3) := by decide +kernel
theorem dL_law__2100 : decode cL_law_ 2100 = .ok (.iconst 0, 1) := by decide +kernel
theorem dL_law__2101 : decode cL_law_ 2101 = .ok (.ireturn, 1) := by decide +kernel
theorem dL_law__2102 : decode cL_law_ 2102 = .ok (.goto 637, 3) := by decide +kernel
theorem dL_law__2105 : decode cL_law_ 2105 = .ok (.aload_n 1, 1) := by decide +kernel
theorem dL_law__2106 : decode cL_law_ 2106 = .ok (.invokevirtual 265, 3) := by decide +kernel
theorem dL_law__2109 : decode cL_law_ 2109 = .ok (.aload_n 2, 1) := by decide +kernel
theorem dL_law__2110 : decode cL_law_ 2110 = .ok (.invokevirtual 268, 3) := by decide +kernel
theorem dL_law__2113 : decode cL_law_ 2113 = .ok (.if_icmp .eq 626, 3) := by decide +kernel
theorem dL_law__2116 : decode cL_law_ 2116 = .ok (.iconst 0, 1) := by decide +kernel
theorem dL_law__2117 : decode cL_law_ 2117 = .ok (.ireturn, 1) := by decide +kernel
theorem dL_law__2118 : decode cL_law_ 2118 = .ok (.aload_n 1, 1) := by decide +kernel
theorem dL_law__2119 : decode cL_law_ 2119 = .ok (.invokevirtual 269, 3) := by decide +kernel
theorem dL_law__2122 : decode cL_law_ 2122 = .ok (.aload_n 2, 1) := by decide +kernel
theorem dL_law__2123 : decode cL_law_ 2123 = .ok (.invokevirtual 272, 3) := by decide +kernel
theorem dL_law__2126 : decode cL_law_ 2126 = .ok (.if_icmp .eq 613, 3) := by decide +kernel
theorem dL_law__2129 : decode cL_law_ 2129 = .ok (.iconst 0, 1) := by decide +kernel
theorem dL_law__2130 : decode cL_law_ 2130 = .ok (.ireturn, 1) := by decide +kernel
theorem dL_law__2131 : decode cL_law_ 2131 = .ok (.aload_n 1, 1) := by decide +kernel
theorem dL_law__2132 : decode cL_law_ 2132 = .ok (.invokevirtual 273, 3) := by decide +kernel
theorem dL_law__2135 : decode cL_law_ 2135 = .ok (.aload_n 2, 1) := by decide +kernel
theorem dL_law__2136 : decode cL_law_ 2136 = .ok (.invokevirtual 276, 3) := by decide +kernel
theorem dL_law__2139 : decode cL_law_ 2139 = .ok (.if_icmp .eq 600, 3) := by decide +kernel
theorem dL_law__2142 : decode cL_law_ 2142 = .ok (.iconst 0, 1) := by decide +kernel
theorem dL_law__2143 : decode cL_law_ 2143 = .ok (.ireturn, 1) := by decide +kernel
theorem dL_law__2144 : decode cL_law_ 2144 = .ok (.aload_n 1, 1) := by decide +kernel
theorem dL_law__2145 : decode cL_law_ 2145 = .ok (.invokevirtual 277, 3) := by decide +kernel
theorem dL_law__2148 : decode cL_law_ 2148 = .ok (.aload_n 2, 1) := by decide +kernel
theorem dL_law__2149 : decode cL_law_ 2149 = .ok (.invokevirtual 280, 3) := by decide +kernel
theorem dL_law__2152 : decode cL_law_ 2152 = .ok (.if_icmp .eq 587, 3) := by decide +kernel
theorem dL_law__2155 : decode cL_law_ 2155 = .ok (.iconst 0, 1) := by decide +kernel
theorem dL_law__2156 : decode cL_law_ 2156 = .ok (.ireturn, 1) := by decide +kernel
theorem dL_law__2157 : decode cL_law_ 2157 = .ok (.aload_n 1, 1) := by decide +kernel
theorem dL_law__2158 : decode cL_law_ 2158 = .ok (.invokevirtual 281, 3) := by decide +kernel
theorem dL_law__2161 : decode cL_law_ 2161 = .ok (.aload_n 2, 1) := by decide +kernel
theorem dL_law__2162 : decode cL_law_ 2162 = .ok (.invokevirtual 284, 3) := by decide +kernel
theorem dL_law__2165 : decode cL_law_ 2165 = .ok (.if_icmp .eq 574, 3) := by decide +kernel
theorem dL_law__2168 : decode cL_law_ 2168 = .ok (.iconst 0, 1) := by decide +kernel
theorem dL_law__2169 : decode cL_law_ 2169 = .ok (.ireturn, 1) := by decide +kernel
theorem dL_law__2170 : decode cL_law_ 2170 = .ok (.aload_n 1, 1) := by decide +kernel
theorem dL_law__2171 : decode cL_law_ 2171 = .ok (.invokevirtual 285, 3) := by decide +kernel
theorem dL_law__2174 : decode cL_law_ 2174 = .ok (.aload_n 2, 1) := by decide +kernel
theorem dL_law__2175 : decode cL_law_ 2175 = .ok (.invokevirtual 288, 3) := by decide +kernel
theorem dL_law__2178 : decode cL_law_ 2178 = .ok (.if_icmp .eq 561, 3) := by decide +kernel
theorem dL_law__2181 : decode cL_law_ 2181 = .ok (.iconst 0, 1) := by decide +kernel
theorem dL_law__2182 : decode cL_law_ 2182 = .ok (.ireturn, 1) := by decide +kernel
theorem dL_law__2183 : decode cL_law_ 2183 = .ok (.aload_n 1, 1) := by decide +kernel
theorem dL_law__2184 : decode cL_law_ 2184 = .ok (.invokevirtual 289, 3) := by decide +kernel
theorem dL_law__2187 : decode cL_law_ 2187 = .ok (.aload_n 2, 1) := by decide +kernel
theorem dL_law__2188 : decode cL_law_ 2188 = .ok (.invokevirtual 292, 3) := by decide +kernel
theorem dL_law__2191 : decode cL_law_ 2191 = .ok (.if_icmp .eq 548, 3) := by decide +kernel
theorem dL_law__2194 : decode cL_law_ 2194 = .ok (.iconst 0, 1) := by decide +kernel
theorem dL_law__2195 : decode cL_law_ 2195 = .ok (.ireturn, 1) := by decide +kernel
theorem dL_law__2196 : decode cL_law_ 2196 = .ok (.aload_n 1, 1) := by decide +kernel
theorem dL_law__2197 : decode cL_law_ 2197 = .ok (.aload_n 0, 1) := by decide +kernel
theorem dL_law__2198 : decode cL_law_ 2198 = .ok (.iload 4, 2) := by decide +kernel
theorem dL_law__2200 : decode cL_law_ 2200 = .ok (.iconst 1, 1) := by decide +kernel
theorem dL_law__2201 : decode cL_law_ 2201 = .ok (.iadd, 1) := by decide +kernel
theorem dL_law__2202 : decode cL_law_ 2202 = .ok (.iaload, 1) := by decide +kernel
theorem dL_law__2203 : decode cL_law_ 2203 = .ok (.aload_n 0, 1) := by decide +kernel
theorem dL_law__2204 : decode cL_law_ 2204 = .ok (.iload 4, 2) := by decide +kernel
theorem dL_law__2206 : decode cL_law_ 2206 = .ok (.iconst 2, 1) := by decide +kernel
theorem dL_law__2207 : decode cL_law_ 2207 = .ok (.iadd, 1) := by decide +kernel
theorem dL_law__2208 : decode cL_law_ 2208 = .ok (.iaload, 1) := by decide +kernel
theorem dL_law__2209 : decode cL_law_ 2209 = .ok (.aload_n 3, 1) := by decide +kernel
theorem dL_law__2210 : decode cL_law_ 2210 = .ok (.invokestatic 293, 3) := by decide +kernel
theorem dL_law__2213 : decode cL_law_ 2213 = .ok (.istore 5, 2) := by decide +kernel
theorem dL_law__2215 : decode cL_law_ 2215 = .ok (.aload_n 2, 1) := by decide +kernel
theorem dL_law__2216 : decode cL_law_ 2216 = .ok (.aload_n 0, 1) := by decide +kernel
theorem dL_law__2217 : decode cL_law_ 2217 = .ok (.iload 4, 2) := by decide +kernel
theorem dL_law__2219 : decode cL_law_ 2219 = .ok (.iconst 1, 1) := by decide +kernel
theorem dL_law__2220 : decode cL_law_ 2220 = .ok (.iadd, 1) := by decide +kernel
theorem dL_law__2221 : decode cL_law_ 2221 = .ok (.iaload, 1) := by decide +kernel
theorem dL_law__2222 : decode cL_law_ 2222 = .ok (.aload_n 0, 1) := by decide +kernel
theorem dL_law__2223 : decode cL_law_ 2223 = .ok (.iload 4, 2) := by decide +kernel
theorem dL_law__2225 : decode cL_law_ 2225 = .ok (.iconst 2, 1) := by decide +kernel
theorem dL_law__2226 : decode cL_law_ 2226 = .ok (.iadd, 1) := by decide +kernel
theorem dL_law__2227 : decode cL_law_ 2227 = .ok (.iaload, 1) := by decide +kernel
theorem dL_law__2228 : decode cL_law_ 2228 = .ok (.invokevirtual 295, 3) := by decide +kernel
theorem dL_law__2231 : decode cL_law_ 2231 = .ok (.istore 6, 2) := by decide +kernel
theorem dL_law__2233 : decode cL_law_ 2233 = .ok (.aload_n 2, 1) := by decide +kernel
theorem dL_law__2234 : decode cL_law_ 2234 = .ok (.invokevirtual 134, 3) := by decide +kernel
theorem dL_law__2237 : decode cL_law_ 2237 = .ok (.iload 5, 2) := by decide +kernel
theorem dL_law__2239 : decode cL_law_ 2239 = .ok (.if_icmp .eq 5, 3) := by decide +kernel
theorem dL_law__2242 : decode cL_law_ 2242 = .ok (.iconst 0, 1) := by decide +kernel
theorem dL_law__2243 : decode cL_law_ 2243 = .ok (.ireturn, 1) := by decide +kernel
theorem dL_law__2244 : decode cL_law_ 2244 = .ok (.iload 5, 2) := by decide +kernel
theorem dL_law__2246 : decode cL_law_ 2246 = .ok (.ifCond .ne 15, 3) := by decide +kernel
theorem dL_law__2249 : decode cL_law_ 2249 = .ok (.aload_n 3, 1) := by decide +kernel
theorem dL_law__2250 : decode cL_law_ 2250 = .ok (.iconst 0, 1) := by decide +kernel
theorem dL_law__2251 : decode cL_law_ 2251 = .ok (.laload, 1) := by decide +kernel
theorem dL_law__2252 : decode cL_law_ 2252 = .ok (.iload 6, 2) := by decide +kernel
theorem dL_law__2254 : decode cL_law_ 2254 = .ok (.i2l, 1) := by decide +kernel
theorem dL_law__2255 : decode cL_law_ 2255 = .ok (.lcmp, 1) := by decide +kernel
theorem dL_law__2256 : decode cL_law_ 2256 = .ok (.ifCond .eq 5, 3) := by decide +kernel
theorem dL_law__2259 : decode cL_law_ 2259 = .ok (.iconst 0, 1) := by decide +kernel
theorem dL_law__2260 : decode cL_law_ 2260 = .ok (.ireturn, 1) := by decide +kernel
theorem dL_law__2261 : decode cL_law_ 2261 = .ok (.goto 478, 3) := by decide +kernel
theorem dL_law__2264 : decode cL_law_ 2264 = .ok (.aload_n 1, 1) := by decide +kernel
theorem dL_law__2265 : decode cL_law_ 2265 = .ok (.aload_n 0, 1) := by decide +kernel
theorem dL_law__2266 : decode cL_law_ 2266 = .ok (.iload 4, 2) := by decide +kernel
theorem dL_law__2268 : decode cL_law_ 2268 = .ok (.iconst 1, 1) := by decide +kernel
theorem dL_law__2269 : decode cL_law_ 2269 = .ok (.iadd, 1) := by decide +kernel
theorem dL_law__2270 : decode cL_law_ 2270 = .ok (.iaload, 1) := by decide +kernel
theorem dL_law__2271 : decode cL_law_ 2271 = .ok (.aload_n 0, 1) := by decide +kernel
theorem dL_law__2272 : decode cL_law_ 2272 = .ok (.iload 4, 2) := by decide +kernel
theorem dL_law__2274 : decode cL_law_ 2274 = .ok (.iconst 2, 1) := by decide +kernel
theorem dL_law__2275 : decode cL_law_ 2275 = .ok (.iadd, 1) := by decide +kernel
theorem dL_law__2276 : decode cL_law_ 2276 = .ok (.iaload, 1) := by decide +kernel
theorem dL_law__2277 : decode cL_law_ 2277 = .ok (.aload_n 3, 1) := by decide +kernel
theorem dL_law__2278 : decode cL_law_ 2278 = .ok (.invokestatic 296, 3) := by decide +kernel
theorem dL_law__2281 : decode cL_law_ 2281 = .ok (.istore 5, 2) := by decide +kernel
theorem dL_law__2283 : decode cL_law_ 2283 = .ok (.aload_n 2, 1) := by decide +kernel
theorem dL_law__2284 : decode cL_law_ 2284 = .ok (.aload_n 0, 1) := by decide +kernel
theorem dL_law__2285 : decode cL_law_ 2285 = .ok (.iload 4, 2) := by decide +kernel
theorem dL_law__2287 : decode cL_law_ 2287 = .ok (.iconst 1, 1) := by decide +kernel
theorem dL_law__2288 : decode cL_law_ 2288 = .ok (.iadd, 1) := by decide +kernel
theorem dL_law__2289 : decode cL_law_ 2289 = .ok (.iaload, 1) := by decide +kernel
theorem dL_law__2290 : decode cL_law_ 2290 = .ok (.aload_n 0, 1) := by decide +kernel
theorem dL_law__2291 : decode cL_law_ 2291 = .ok (.iload 4, 2) := by decide +kernel
theorem dL_law__2293 : decode cL_law_ 2293 = .ok (.iconst 2, 1) := by decide +kernel
theorem dL_law__2294 : decode cL_law_ 2294 = .ok (.iadd, 1) := by decide +kernel
theorem dL_law__2295 : decode cL_law_ 2295 = .ok (.iaload, 1) := by decide +kernel
theorem dL_law__2296 : decode cL_law_ 2296 = .ok (.invokevirtual 298, 3) := by decide +kernel
theorem dL_law__2299 : decode cL_law_ 2299 = .ok (.istore 6, 2) := by decide +kernel
theorem dL_law__2301 : decode cL_law_ 2301 = .ok (.aload_n 2, 1) := by decide +kernel
theorem dL_law__2302 : decode cL_law_ 2302 = .ok (.invokevirtual 134, 3) := by decide +kernel
theorem dL_law__2305 : decode cL_law_ 2305 = .ok (.iload 5, 2) := by decide +kernel
theorem dL_law__2307 : decode cL_law_ 2307 = .ok (.if_icmp .eq 5, 3) := by decide +kernel
theorem dL_law__2310 : decode cL_law_ 2310 = .ok (.iconst 0, 1) := by decide +kernel
theorem dL_law__2311 : decode cL_law_ 2311 = .ok (.ireturn, 1) := by decide +kernel
theorem dL_law__2312 : decode cL_law_ 2312 = .ok (.iload 5, 2) := by decide +kernel
theorem dL_law__2314 : decode cL_law_ 2314 = .ok (.ifCond .ne 15, 3) := by decide +kernel
theorem dL_law__2317 : decode cL_law_ 2317 = .ok (.aload_n 3, 1) := by decide +kernel
theorem dL_law__2318 : decode cL_law_ 2318 = .ok (.iconst 0, 1) := by decide +kernel
theorem dL_law__2319 : decode cL_law_ 2319 = .ok (.laload, 1) := by decide +kernel
theorem dL_law__2320 : decode cL_law_ 2320 = .ok (.iload 6, 2) := by decide +kernel
theorem dL_law__2322 : decode cL_law_ 2322 = .ok (.i2l, 1) := by decide +kernel
theorem dL_law__2323 : decode cL_law_ 2323 = .ok (.lcmp, 1) := by decide +kernel
theorem dL_law__2324 : decode cL_law_ 2324 = .ok (.ifCond .eq 5, 3) := by decide +kernel
theorem dL_law__2327 : decode cL_law_ 2327 = .ok (.iconst 0, 1) := by decide +kernel
theorem dL_law__2328 : decode cL_law_ 2328 = .ok (.ireturn, 1) := by decide +kernel
theorem dL_law__2329 : decode cL_law_ 2329 = .ok (.goto 410, 3) := by decide +kernel
theorem dL_law__2332 : decode cL_law_ 2332 = .ok (.aload_n 1, 1) := by decide +kernel
theorem dL_law__2333 : decode cL_law_ 2333 = .ok (.aload_n 0, 1) := by decide +kernel
theorem dL_law__2334 : decode cL_law_ 2334 = .ok (.iload 4, 2) := by decide +kernel
theorem dL_law__2336 : decode cL_law_ 2336 = .ok (.iconst 1, 1) := by decide +kernel
theorem dL_law__2337 : decode cL_law_ 2337 = .ok (.iadd, 1) := by decide +kernel
theorem dL_law__2338 : decode cL_law_ 2338 = .ok (.iaload, 1) := by decide +kernel
theorem dL_law__2339 : decode cL_law_ 2339 = .ok (.aload_n 0, 1) := by decide +kernel
theorem dL_law__2340 : decode cL_law_ 2340 = .ok (.iload 4, 2) := by decide +kernel
theorem dL_law__2342 : decode cL_law_ 2342 = .ok (.iconst 2, 1) := by decide +kernel
theorem dL_law__2343 : decode cL_law_ 2343 = .ok (.iadd, 1) := by decide +kernel
theorem dL_law__2344 : decode cL_law_ 2344 = .ok (.iaload, 1) := by decide +kernel
theorem dL_law__2345 : decode cL_law_ 2345 = .ok (.ifCond .eq 7, 3) := by decide +kernel
theorem dL_law__2348 : decode cL_law_ 2348 = .ok (.iconst 1, 1) := by decide +kernel
theorem dL_law__2349 : decode cL_law_ 2349 = .ok (.goto 4, 3) := by decide +kernel
theorem dL_law__2352 : decode cL_law_ 2352 = .ok (.iconst 0, 1) := by decide +kernel
theorem dL_law__2353 : decode cL_law_ 2353 = .ok (.aload_n 3, 1) := by decide +kernel
theorem dL_law__2354 : decode cL_law_ 2354 = .ok (.invokestatic 299, 3) := by decide +kernel
theorem dL_law__2357 : decode cL_law_ 2357 = .ok (.istore 5, 2) := by decide +kernel
theorem dL_law__2359 : decode cL_law_ 2359 = .ok (.aload_n 2, 1) := by decide +kernel
theorem dL_law__2360 : decode cL_law_ 2360 = .ok (.aload_n 0, 1) := by decide +kernel
theorem dL_law__2361 : decode cL_law_ 2361 = .ok (.iload 4, 2) := by decide +kernel
theorem dL_law__2363 : decode cL_law_ 2363 = .ok (.iconst 1, 1) := by decide +kernel
theorem dL_law__2364 : decode cL_law_ 2364 = .ok (.iadd, 1) := by decide +kernel
theorem dL_law__2365 : decode cL_law_ 2365 = .ok (.iaload, 1) := by decide +kernel
theorem dL_law__2366 : decode cL_law_ 2366 = .ok (.aload_n 0, 1) := by decide +kernel
theorem dL_law__2367 : decode cL_law_ 2367 = .ok (.iload 4, 2) := by decide +kernel
theorem dL_law__2369 : decode cL_law_ 2369 = .ok (.iconst 2, 1) := by decide +kernel
theorem dL_law__2370 : decode cL_law_ 2370 = .ok (.iadd, 1) := by decide +kernel
theorem dL_law__2371 : decode cL_law_ 2371 = .ok (.iaload, 1) := by decide +kernel
theorem dL_law__2372 : decode cL_law_ 2372 = .ok (.ifCond .eq 7, 3) := by decide +kernel
theorem dL_law__2375 : decode cL_law_ 2375 = .ok (.iconst 1, 1) := by decide +kernel
theorem dL_law__2376 : decode cL_law_ 2376 = .ok (.goto 4, 3) := by decide +kernel
theorem dL_law__2379 : decode cL_law_ 2379 = .ok (.iconst 0, 1) := by decide +kernel
theorem dL_law__2380 : decode cL_law_ 2380 = .ok (.invokevirtual 301, 3) := by decide +kernel
theorem dL_law__2383 : decode cL_law_ 2383 = .ok (.istore 6, 2) := by decide +kernel
theorem dL_law__2385 : decode cL_law_ 2385 = .ok (.aload_n 2, 1) := by decide +kernel
theorem dL_law__2386 : decode cL_law_ 2386 = .ok (.invokevirtual 134, 3) := by decide +kernel
theorem dL_law__2389 : decode cL_law_ 2389 = .ok (.iload 5, 2) := by decide +kernel
theorem dL_law__2391 : decode cL_law_ 2391 = .ok (.if_icmp .eq 5, 3) := by decide +kernel
theorem dL_law__2394 : decode cL_law_ 2394 = .ok (.iconst 0, 1) := by decide +kernel
theorem dL_law__2395 : decode cL_law_ 2395 = .ok (.ireturn, 1) := by decide +kernel
theorem dL_law__2396 : decode cL_law_ 2396 = .ok (.iload 5, 2) := by decide +kernel
theorem dL_law__2398 : decode cL_law_ 2398 = .ok (.ifCond .ne 15, 3) := by decide +kernel
theorem dL_law__2401 : decode cL_law_ 2401 = .ok (.aload_n 3, 1) := by decide +kernel
theorem dL_law__2402 : decode cL_law_ 2402 = .ok (.iconst 0, 1) := by decide +kernel
theorem dL_law__2403 : decode cL_law_ 2403 = .ok (.laload, 1) := by decide +kernel
theorem dL_law__2404 : decode cL_law_ 2404 = .ok (.iload 6, 2) := by decide +kernel
theorem dL_law__2406 : decode cL_law_ 2406 = .ok (.i2l, 1) := by decide +kernel
theorem dL_law__2407 : decode cL_law_ 2407 = .ok (.lcmp, 1) := by decide +kernel
theorem dL_law__2408 : decode cL_law_ 2408 = .ok (.ifCond .eq 5, 3) := by decide +kernel
theorem dL_law__2411 : decode cL_law_ 2411 = .ok (.iconst 0, 1) := by decide +kernel
theorem dL_law__2412 : decode cL_law_ 2412 = .ok (.ireturn, 1) := by decide +kernel
theorem dL_law__2413 : decode cL_law_ 2413 = .ok (.goto 326, 3) := by decide +kernel
theorem dL_law__2416 : decode cL_law_ 2416 = .ok (.aload_n 1, 1) := by decide +kernel
theorem dL_law__2417 : decode cL_law_ 2417 = .ok (.aload_n 0, 1) := by decide +kernel
theorem dL_law__2418 : decode cL_law_ 2418 = .ok (.iload 4, 2) := by decide +kernel
theorem dL_law__2420 : decode cL_law_ 2420 = .ok (.iconst 1, 1) := by decide +kernel
theorem dL_law__2421 : decode cL_law_ 2421 = .ok (.iadd, 1) := by decide +kernel
theorem dL_law__2422 : decode cL_law_ 2422 = .ok (.iaload, 1) := by decide +kernel
theorem dL_law__2423 : decode cL_law_ 2423 = .ok (.aload_n 0, 1) := by decide +kernel
theorem dL_law__2424 : decode cL_law_ 2424 = .ok (.iload 4, 2) := by decide +kernel
theorem dL_law__2426 : decode cL_law_ 2426 = .ok (.iconst 2, 1) := by decide +kernel
theorem dL_law__2427 : decode cL_law_ 2427 = .ok (.iadd, 1) := by decide +kernel
theorem dL_law__2428 : decode cL_law_ 2428 = .ok (.iaload, 1) := by decide +kernel
theorem dL_law__2429 : decode cL_law_ 2429 = .ok (.ifCond .eq 7, 3) := by decide +kernel
theorem dL_law__2432 : decode cL_law_ 2432 = .ok (.iconst 1, 1) := by decide +kernel
theorem dL_law__2433 : decode cL_law_ 2433 = .ok (.goto 4, 3) := by decide +kernel
theorem dL_law__2436 : decode cL_law_ 2436 = .ok (.iconst 0, 1) := by decide +kernel
theorem dL_law__2437 : decode cL_law_ 2437 = .ok (.aload_n 3, 1) := by decide +kernel
theorem dL_law__2438 : decode cL_law_ 2438 = .ok (.invokestatic 302, 3) := by decide +kernel
theorem dL_law__2441 : decode cL_law_ 2441 = .ok (.istore 5, 2) := by decide +kernel
theorem dL_law__2443 : decode cL_law_ 2443 = .ok (.aload_n 2, 1) := by decide +kernel
theorem dL_law__2444 : decode cL_law_ 2444 = .ok (.aload_n 0, 1) := by decide +kernel
theorem dL_law__2445 : decode cL_law_ 2445 = .ok (.iload 4, 2) := by decide +kernel
theorem dL_law__2447 : decode cL_law_ 2447 = .ok (.iconst 1, 1) := by decide +kernel
theorem dL_law__2448 : decode cL_law_ 2448 = .ok (.iadd, 1) := by decide +kernel
theorem dL_law__2449 : decode cL_law_ 2449 = .ok (.iaload, 1) := by decide +kernel
theorem dL_law__2450 : decode cL_law_ 2450 = .ok (.aload_n 0, 1) := by decide +kernel
theorem dL_law__2451 : decode cL_law_ 2451 = .ok (.iload 4, 2) := by decide +kernel
theorem dL_law__2453 : decode cL_law_ 2453 = .ok (.iconst 2, 1) := by decide +kernel
theorem dL_law__2454 : decode cL_law_ 2454 = .ok (.iadd, 1) := by decide +kernel
theorem dL_law__2455 : decode cL_law_ 2455 = .ok (.iaload, 1) := by decide +kernel
theorem dL_law__2456 : decode cL_law_ 2456 = .ok (.ifCond .eq 7, 3) := by decide +kernel
theorem dL_law__2459 : decode cL_law_ 2459 = .ok (.iconst 1, 1) := by decide +kernel
theorem dL_law__2460 : decode cL_law_ 2460 = .ok (.goto 4, 3) := by decide +kernel
theorem dL_law__2463 : decode cL_law_ 2463 = .ok (.iconst 0, 1) := by decide +kernel
theorem dL_law__2464 : decode cL_law_ 2464 = .ok (.invokevirtual 304, 3) := by decide +kernel
theorem dL_law__2467 : decode cL_law_ 2467 = .ok (.istore 6, 2) := by decide +kernel
theorem dL_law__2469 : decode cL_law_ 2469 = .ok (.aload_n 2, 1) := by decide +kernel
theorem dL_law__2470 : decode cL_law_ 2470 = .ok (.invokevirtual 134, 3) := by decide +kernel
theorem dL_law__2473 : decode cL_law_ 2473 = .ok (.iload 5, 2) := by decide +kernel
theorem dL_law__2475 : decode cL_law_ 2475 = .ok (.if_icmp .eq 5, 3) := by decide +kernel
theorem dL_law__2478 : decode cL_law_ 2478 = .ok (.iconst 0, 1) := by decide +kernel
theorem dL_law__2479 : decode cL_law_ 2479 = .ok (.ireturn, 1) := by decide +kernel
theorem dL_law__2480 : decode cL_law_ 2480 = .ok (.iload 5, 2) := by decide +kernel
theorem dL_law__2482 : decode cL_law_ 2482 = .ok (.ifCond .ne 15, 3) := by decide +kernel
theorem dL_law__2485 : decode cL_law_ 2485 = .ok (.aload_n 3, 1) := by decide +kernel
theorem dL_law__2486 : decode cL_law_ 2486 = .ok (.iconst 0, 1) := by decide +kernel
theorem dL_law__2487 : decode cL_law_ 2487 = .ok (.laload, 1) := by decide +kernel
theorem dL_law__2488 : decode cL_law_ 2488 = .ok (.iload 6, 2) := by decide +kernel
theorem dL_law__2490 : decode cL_law_ 2490 = .ok (.i2l, 1) := by decide +kernel
theorem dL_law__2491 : decode cL_law_ 2491 = .ok (.lcmp, 1) := by decide +kernel
theorem dL_law__2492 : decode cL_law_ 2492 = .ok (.ifCond .eq 5, 3) := by decide +kernel
theorem dL_law__2495 : decode cL_law_ 2495 = .ok (.iconst 0, 1) := by decide +kernel
theorem dL_law__2496 : decode cL_law_ 2496 = .ok (.ireturn, 1) := by decide +kernel
theorem dL_law__2497 : decode cL_law_ 2497 = .ok (.goto 242, 3) := by decide +kernel
theorem dL_law__2500 : decode cL_law_ 2500 = .ok (.aload_n 1, 1) := by decide +kernel
theorem dL_law__2501 : decode cL_law_ 2501 = .ok (.aload_n 0, 1) := by decide +kernel
theorem dL_law__2502 : decode cL_law_ 2502 = .ok (.iload 4, 2) := by decide +kernel
theorem dL_law__2504 : decode cL_law_ 2504 = .ok (.iconst 1, 1) := by decide +kernel
theorem dL_law__2505 : decode cL_law_ 2505 = .ok (.iadd, 1) := by decide +kernel
theorem dL_law__2506 : decode cL_law_ 2506 = .ok (.iaload, 1) := by decide +kernel
theorem dL_law__2507 : decode cL_law_ 2507 = .ok (.aload_n 0, 1) := by decide +kernel
theorem dL_law__2508 : decode cL_law_ 2508 = .ok (.iload 4, 2) := by decide +kernel
theorem dL_law__2510 : decode cL_law_ 2510 = .ok (.iconst 2, 1) := by decide +kernel
theorem dL_law__2511 : decode cL_law_ 2511 = .ok (.iadd, 1) := by decide +kernel
theorem dL_law__2512 : decode cL_law_ 2512 = .ok (.iaload, 1) := by decide +kernel
theorem dL_law__2513 : decode cL_law_ 2513 = .ok (.ifCond .eq 7, 3) := by decide +kernel
theorem dL_law__2516 : decode cL_law_ 2516 = .ok (.iconst 1, 1) := by decide +kernel
theorem dL_law__2517 : decode cL_law_ 2517 = .ok (.goto 4, 3) := by decide +kernel
theorem dL_law__2520 : decode cL_law_ 2520 = .ok (.iconst 0, 1) := by decide +kernel
theorem dL_law__2521 : decode cL_law_ 2521 = .ok (.aload_n 3, 1) := by decide +kernel
theorem dL_law__2522 : decode cL_law_ 2522 = .ok (.invokestatic 305, 3) := by decide +kernel
theorem dL_law__2525 : decode cL_law_ 2525 = .ok (.istore 5, 2) := by decide +kernel
theorem dL_law__2527 : decode cL_law_ 2527 = .ok (.aload_n 2, 1) := by decide +kernel
theorem dL_law__2528 : decode cL_law_ 2528 = .ok (.aload_n 0, 1) := by decide +kernel
theorem dL_law__2529 : decode cL_law_ 2529 = .ok (.iload 4, 2) := by decide +kernel
theorem dL_law__2531 : decode cL_law_ 2531 = .ok (.iconst 1, 1) := by decide +kernel
theorem dL_law__2532 : decode cL_law_ 2532 = .ok (.iadd, 1) := by decide +kernel
theorem dL_law__2533 : decode cL_law_ 2533 = .ok (.iaload, 1) := by decide +kernel
theorem dL_law__2534 : decode cL_law_ 2534 = .ok (.aload_n 0, 1) := by decide +kernel
theorem dL_law__2535 : decode cL_law_ 2535 = .ok (.iload 4, 2) := by decide +kernel
theorem dL_law__2537 : decode cL_law_ 2537 = .ok (.iconst 2, 1) := by decide +kernel
theorem dL_law__2538 : decode cL_law_ 2538 = .ok (.iadd, 1) := by decide +kernel
theorem dL_law__2539 : decode cL_law_ 2539 = .ok (.iaload, 1) := by decide +kernel
theorem dL_law__2540 : decode cL_law_ 2540 = .ok (.ifCond .eq 7, 3) := by decide +kernel
theorem dL_law__2543 : decode cL_law_ 2543 = .ok (.iconst 1, 1) := by decide +kernel
theorem dL_law__2544 : decode cL_law_ 2544 = .ok (.goto 4, 3) := by decide +kernel
theorem dL_law__2547 : decode cL_law_ 2547 = .ok (.iconst 0, 1) := by decide +kernel
theorem dL_law__2548 : decode cL_law_ 2548 = .ok (.invokevirtual 307, 3) := by decide +kernel
theorem dL_law__2551 : decode cL_law_ 2551 = .ok (.istore 6, 2) := by decide +kernel
theorem dL_law__2553 : decode cL_law_ 2553 = .ok (.aload_n 2, 1) := by decide +kernel
theorem dL_law__2554 : decode cL_law_ 2554 = .ok (.invokevirtual 134, 3) := by decide +kernel
theorem dL_law__2557 : decode cL_law_ 2557 = .ok (.iload 5, 2) := by decide +kernel
theorem dL_law__2559 : decode cL_law_ 2559 = .ok (.if_icmp .eq 5, 3) := by decide +kernel
theorem dL_law__2562 : decode cL_law_ 2562 = .ok (.iconst 0, 1) := by decide +kernel
theorem dL_law__2563 : decode cL_law_ 2563 = .ok (.ireturn, 1) := by decide +kernel
theorem dL_law__2564 : decode cL_law_ 2564 = .ok (.iload 5, 2) := by decide +kernel
theorem dL_law__2566 : decode cL_law_ 2566 = .ok (.ifCond .ne 15, 3) := by decide +kernel
theorem dL_law__2569 : decode cL_law_ 2569 = .ok (.aload_n 3, 1) := by decide +kernel
theorem dL_law__2570 : decode cL_law_ 2570 = .ok (.iconst 0, 1) := by decide +kernel
theorem dL_law__2571 : decode cL_law_ 2571 = .ok (.laload, 1) := by decide +kernel
theorem dL_law__2572 : decode cL_law_ 2572 = .ok (.iload 6, 2) := by decide +kernel
theorem dL_law__2574 : decode cL_law_ 2574 = .ok (.i2l, 1) := by decide +kernel
theorem dL_law__2575 : decode cL_law_ 2575 = .ok (.lcmp, 1) := by decide +kernel
theorem dL_law__2576 : decode cL_law_ 2576 = .ok (.ifCond .eq 5, 3) := by decide +kernel
theorem dL_law__2579 : decode cL_law_ 2579 = .ok (.iconst 0, 1) := by decide +kernel
theorem dL_law__2580 : decode cL_law_ 2580 = .ok (.ireturn, 1) := by decide +kernel
theorem dL_law__2581 : decode cL_law_ 2581 = .ok (.goto 158, 3) := by decide +kernel
theorem dL_law__2584 : decode cL_law_ 2584 = .ok (.aload_n 1, 1) := by decide +kernel
theorem dL_law__2585 : decode cL_law_ 2585 = .ok (.aload_n 0, 1) := by decide +kernel
theorem dL_law__2586 : decode cL_law_ 2586 = .ok (.iload 4, 2) := by decide +kernel
theorem dL_law__2588 : decode cL_law_ 2588 = .ok (.iconst 1, 1) := by decide +kernel
theorem dL_law__2589 : decode cL_law_ 2589 = .ok (.iadd, 1) := by decide +kernel
theorem dL_law__2590 : decode cL_law_ 2590 = .ok (.iaload, 1) := by decide +kernel
theorem dL_law__2591 : decode cL_law_ 2591 = .ok (.aload_n 0, 1) := by decide +kernel
theorem dL_law__2592 : decode cL_law_ 2592 = .ok (.iload 4, 2) := by decide +kernel
theorem dL_law__2594 : decode cL_law_ 2594 = .ok (.iconst 2, 1) := by decide +kernel
theorem dL_law__2595 : decode cL_law_ 2595 = .ok (.iadd, 1) := by decide +kernel
theorem dL_law__2596 : decode cL_law_ 2596 = .ok (.iaload, 1) := by decide +kernel
theorem dL_law__2597 : decode cL_law_ 2597 = .ok (.aload_n 3, 1) := by decide +kernel
theorem dL_law__2598 : decode cL_law_ 2598 = .ok (.invokestatic 308, 3) := by decide +kernel
theorem dL_law__2601 : decode cL_law_ 2601 = .ok (.istore 5, 2) := by decide +kernel
theorem dL_law__2603 : decode cL_law_ 2603 = .ok (.aload_n 2, 1) := by decide +kernel
theorem dL_law__2604 : decode cL_law_ 2604 = .ok (.aload_n 0, 1) := by decide +kernel
theorem dL_law__2605 : decode cL_law_ 2605 = .ok (.iload 4, 2) := by decide +kernel
theorem dL_law__2607 : decode cL_law_ 2607 = .ok (.iconst 1, 1) := by decide +kernel
theorem dL_law__2608 : decode cL_law_ 2608 = .ok (.iadd, 1) := by decide +kernel
theorem dL_law__2609 : decode cL_law_ 2609 = .ok (.iaload, 1) := by decide +kernel
theorem dL_law__2610 : decode cL_law_ 2610 = .ok (.aload_n 0, 1) := by decide +kernel
theorem dL_law__2611 : decode cL_law_ 2611 = .ok (.iload 4, 2) := by decide +kernel
theorem dL_law__2613 : decode cL_law_ 2613 = .ok (.iconst 2, 1) := by decide +kernel
theorem dL_law__2614 : decode cL_law_ 2614 = .ok (.iadd, 1) := by decide +kernel
theorem dL_law__2615 : decode cL_law_ 2615 = .ok (.iaload, 1) := by decide +kernel
theorem dL_law__2616 : decode cL_law_ 2616 = .ok (.invokevirtual 310, 3) := by decide +kernel
theorem dL_law__2619 : decode cL_law_ 2619 = .ok (.istore 6, 2) := by decide +kernel
theorem dL_law__2621 : decode cL_law_ 2621 = .ok (.aload_n 2, 1) := by decide +kernel
theorem dL_law__2622 : decode cL_law_ 2622 = .ok (.invokevirtual 134, 3) := by decide +kernel
theorem dL_law__2625 : decode cL_law_ 2625 = .ok (.iload 5, 2) := by decide +kernel
theorem dL_law__2627 : decode cL_law_ 2627 = .ok (.if_icmp .eq 5, 3) := by decide +kernel
theorem dL_law__2630 : decode cL_law_ 2630 = .ok (.iconst 0, 1) := by decide +kernel
theorem dL_law__2631 : decode cL_law_ 2631 = .ok (.ireturn, 1) := by decide +kernel
theorem dL_law__2632 : decode cL_law_ 2632 = .ok (.iload 5, 2) := by decide +kernel
theorem dL_law__2634 : decode cL_law_ 2634 = .ok (.ifCond .ne 15, 3) := by decide +kernel
theorem dL_law__2637 : decode cL_law_ 2637 = .ok (.aload_n 3, 1) := by decide +kernel
theorem dL_law__2638 : decode cL_law_ 2638 = .ok (.iconst 0, 1) := by decide +kernel
theorem dL_law__2639 : decode cL_law_ 2639 = .ok (.laload, 1) := by decide +kernel
theorem dL_law__2640 : decode cL_law_ 2640 = .ok (.iload 6, 2) := by decide +kernel
theorem dL_law__2642 : decode cL_law_ 2642 = .ok (.i2l, 1) := by decide +kernel
theorem dL_law__2643 : decode cL_law_ 2643 = .ok (.lcmp, 1) := by decide +kernel
theorem dL_law__2644 : decode cL_law_ 2644 = .ok (.ifCond .eq 5, 3) := by decide +kernel
theorem dL_law__2647 : decode cL_law_ 2647 = .ok (.iconst 0, 1) := by decide +kernel
theorem dL_law__2648 : decode cL_law_ 2648 = .ok (.ireturn, 1) := by decide +kernel
theorem dL_law__2649 : decode cL_law_ 2649 = .ok (.goto 90, 3) := by decide +kernel
theorem dL_law__2652 : decode cL_law_ 2652 = .ok (.aload_n 1, 1) := by decide +kernel
theorem dL_law__2653 : decode cL_law_ 2653 = .ok (.aload_n 0, 1) := by decide +kernel
theorem dL_law__2654 : decode cL_law_ 2654 = .ok (.iload 4, 2) := by decide +kernel
theorem dL_law__2656 : decode cL_law_ 2656 = .ok (.iconst 1, 1) := by decide +kernel
theorem dL_law__2657 : decode cL_law_ 2657 = .ok (.iadd, 1) := by decide +kernel
theorem dL_law__2658 : decode cL_law_ 2658 = .ok (.iaload, 1) := by decide +kernel
theorem dL_law__2659 : decode cL_law_ 2659 = .ok (.invokevirtual 311, 3) := by decide +kernel
theorem dL_law__2662 : decode cL_law_ 2662 = .ok (.aload_n 2, 1) := by decide +kernel
theorem dL_law__2663 : decode cL_law_ 2663 = .ok (.aload_n 0, 1) := by decide +kernel
theorem dL_law__2664 : decode cL_law_ 2664 = .ok (.iload 4, 2) := by decide +kernel
theorem dL_law__2666 : decode cL_law_ 2666 = .ok (.iconst 1, 1) := by decide +kernel
theorem dL_law__2667 : decode cL_law_ 2667 = .ok (.iadd, 1) := by decide +kernel
theorem dL_law__2668 : decode cL_law_ 2668 = .ok (.iaload, 1) := by decide +kernel
theorem dL_law__2669 : decode cL_law_ 2669 = .ok (.invokevirtual 314, 3) := by decide +kernel
theorem dL_law__2672 : decode cL_law_ 2672 = .ok (.if_icmp .eq 67, 3) := by decide +kernel
theorem dL_law__2675 : decode cL_law_ 2675 = .ok (.iconst 0, 1) := by decide +kernel
theorem dL_law__2676 : decode cL_law_ 2676 = .ok (.ireturn, 1) := by decide +kernel
theorem dL_law__2677 : decode cL_law_ 2677 = .ok (.aload_n 1, 1) := by decide +kernel
theorem dL_law__2678 : decode cL_law_ 2678 = .ok (.invokevirtual 315, 3) := by decide +kernel
theorem dL_law__2681 : decode cL_law_ 2681 = .ok (.aload_n 2, 1) := by decide +kernel
theorem dL_law__2682 : decode cL_law_ 2682 = .ok (.invokevirtual 319, 3) := by decide +kernel
theorem dL_law__2685 : decode cL_law_ 2685 = .ok (.if_icmp .eq 54, 3) := by decide +kernel
theorem dL_law__2688 : decode cL_law_ 2688 = .ok (.iconst 0, 1) := by decide +kernel
theorem dL_law__2689 : decode cL_law_ 2689 = .ok (.ireturn, 1) := by decide +kernel
theorem dL_law__2690 : decode cL_law_ 2690 = .ok (.aload_n 1, 1) := by decide +kernel
theorem dL_law__2691 : decode cL_law_ 2691 = .ok (.invokevirtual 320, 3) := by decide +kernel
theorem dL_law__2694 : decode cL_law_ 2694 = .ok (.aload_n 2, 1) := by decide +kernel
theorem dL_law__2695 : decode cL_law_ 2695 = .ok (.invokevirtual 323, 3) := by decide +kernel
theorem dL_law__2698 : decode cL_law_ 2698 = .ok (.goto 41, 3) := by decide +kernel
theorem dL_law__2701 : decode cL_law_ 2701 = .ok (.aload_n 1, 1) := by decide +kernel
theorem dL_law__2702 : decode cL_law_ 2702 = .ok (.invokevirtual 324, 3) := by decide +kernel
theorem dL_law__2705 : decode cL_law_ 2705 = .ok (.aload_n 2, 1) := by decide +kernel
theorem dL_law__2706 : decode cL_law_ 2706 = .ok (.invokevirtual 327, 3) := by decide +kernel
theorem dL_law__2709 : decode cL_law_ 2709 = .ok (.if_icmp .eq 30, 3) := by decide +kernel
theorem dL_law__2712 : decode cL_law_ 2712 = .ok (.iconst 0, 1) := by decide +kernel
theorem dL_law__2713 : decode cL_law_ 2713 = .ok (.ireturn, 1) := by decide +kernel
theorem dL_law__2714 : decode cL_law_ 2714 = .ok (.aload_n 1, 1) := by decide +kernel
theorem dL_law__2715 : decode cL_law_ 2715 = .ok (.aload_n 0, 1) := by decide +kernel
theorem dL_law__2716 : decode cL_law_ 2716 = .ok (.iload 4, 2) := by decide +kernel
theorem dL_law__2718 : decode cL_law_ 2718 = .ok (.iconst 1, 1) := by decide +kernel
theorem dL_law__2719 : decode cL_law_ 2719 = .ok (.iadd, 1) := by decide +kernel
theorem dL_law__2720 : decode cL_law_ 2720 = .ok (.iaload, 1) := by decide +kernel
theorem dL_law__2721 : decode cL_law_ 2721 = .ok (.invokevirtual 328, 3) := by decide +kernel
theorem dL_law__2724 : decode cL_law_ 2724 = .ok (.aload_n 2, 1) := by decide +kernel
theorem dL_law__2725 : decode cL_law_ 2725 = .ok (.aload_n 0, 1) := by decide +kernel
theorem dL_law__2726 : decode cL_law_ 2726 = .ok (.iload 4, 2) := by decide +kernel
theorem dL_law__2728 : decode cL_law_ 2728 = .ok (.iconst 1, 1) := by decide +kernel
theorem dL_law__2729 : decode cL_law_ 2729 = .ok (.iadd, 1) := by decide +kernel
theorem dL_law__2730 : decode cL_law_ 2730 = .ok (.iaload, 1) := by decide +kernel
theorem dL_law__2731 : decode cL_law_ 2731 = .ok (.invokevirtual 331, 3) := by decide +kernel
theorem dL_law__2734 : decode cL_law_ 2734 = .ok (.if_icmp .eq 5, 3) := by decide +kernel
theorem dL_law__2737 : decode cL_law_ 2737 = .ok (.iconst 0, 1) := by decide +kernel
theorem dL_law__2738 : decode cL_law_ 2738 = .ok (.ireturn, 1) := by decide +kernel
theorem dL_law__2739 : decode cL_law_ 2739 = .ok (.iinc 4 6, 3) := by decide +kernel
theorem dL_law__2742 : decode cL_law_ 2742 = .ok (.goto (-2719), 3) := by decide +kernel
theorem dL_law__2745 : decode cL_law_ 2745 = .ok (.iconst 1, 1) := by decide +kernel
theorem dL_law__2746 : decode cL_law_ 2746 = .ok (.ireturn, 1) := by decide +kernel
