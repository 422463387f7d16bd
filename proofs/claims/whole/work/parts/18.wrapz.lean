theorem dL_cloister_0 : decode cL_cloister 0 = .ok (.aload_n 1, 1) := by decide +kernel
theorem dL_cloister_1 : decode cL_cloister 1 = .ok (.iconst 0, 1) := by decide +kernel
theorem dL_cloister_2 : decode cL_cloister 2 = .ok (.aload_n 0, 1) := by decide +kernel
theorem dL_cloister_3 : decode cL_cloister 3 = .ok (.invokevirtual 7, 3) := by decide +kernel
theorem dL_cloister_6 : decode cL_cloister 6 = .ok (.i2l, 1) := by decide +kernel
theorem dL_cloister_7 : decode cL_cloister 7 = .ok (.lastore, 1) := by decide +kernel
theorem dL_cloister_8 : decode cL_cloister 8 = .ok (.goto 9, 3) := by decide +kernel
theorem dL_cloister_11 : decode cL_cloister 11 = .ok (.astore_n 2, 1) := by decide +kernel
theorem dL_cloister_12 : decode cL_cloister 12 = .ok (.iconst 1, 1) := by decide +kernel
theorem dL_cloister_13 : decode cL_cloister 13 = .ok (.ireturn, 1) := by decide +kernel
theorem dL_cloister_14 : decode cL_cloister 14 = .ok (.astore_n 2, 1) := by decide +kernel
theorem dL_cloister_15 : decode cL_cloister 15 = .ok (.iconst 2, 1) := by decide +kernel
theorem dL_cloister_16 : decode cL_cloister 16 = .ok (.ireturn, 1) := by decide +kernel
theorem dL_cloister_17 : decode cL_cloister 17 = .ok (.iconst 0, 1) := by decide +kernel
theorem dL_cloister_18 : decode cL_cloister 18 = .ok (.ireturn, 1) := by decide +kernel
theorem dL_law_0 : decode cL_law 0 = .ok (.aload_n 1, 1) := by decide +kernel
theorem dL_law_1 : decode cL_law 1 = .ok (.iconst 0, 1) := by decide +kernel
theorem dL_law_2 : decode cL_law 2 = .ok (.aload_n 0, 1) := by decide +kernel
theorem dL_law_3 : decode cL_law 3 = .ok (.invokevirtual 17, 3) := by decide +kernel
theorem dL_law_6 : decode cL_law 6 = .ok (.i2l, 1) := by decide +kernel
theorem dL_law_7 : decode cL_law 7 = .ok (.lastore, 1) := by decide +kernel
theorem dL_law_8 : decode cL_law 8 = .ok (.goto 6, 3) := by decide +kernel
theorem dL_law_11 : decode cL_law 11 = .ok (.astore_n 2, 1) := by decide +kernel
theorem dL_law_12 : decode cL_law 12 = .ok (.iconst 1, 1) := by decide +kernel
theorem dL_law_13 : decode cL_law 13 = .ok (.ireturn, 1) := by decide +kernel
theorem dL_law_14 : decode cL_law 14 = .ok (.iconst 0, 1) := by decide +kernel
theorem dL_law_15 : decode cL_law 15 = .ok (.ireturn, 1) := by decide +kernel
theorem dL_monk_0 : decode cL_monk 0 = .ok (.aload_n 3, 1) := by decide +kernel
theorem dL_monk_1 : decode cL_monk 1 = .ok (.iconst 0, 1) := by decide +kernel
theorem dL_monk_2 : decode cL_monk 2 = .ok (.aload_n 0, 1) := by decide +kernel
theorem dL_monk_3 : decode cL_monk 3 = .ok (.iload_n 1, 1) := by decide +kernel
theorem dL_monk_4 : decode cL_monk 4 = .ok (.iload_n 2, 1) := by decide +kernel
theorem dL_monk_5 : decode cL_monk 5 = .ok (.invokevirtual 20, 3) := by decide +kernel
theorem dL_monk_8 : decode cL_monk 8 = .ok (.i2l, 1) := by decide +kernel
theorem dL_monk_9 : decode cL_monk 9 = .ok (.lastore, 1) := by decide +kernel
theorem dL_monk_10 : decode cL_monk 10 = .ok (.goto 11, 3) := by decide +kernel
theorem dL_monk_13 : decode cL_monk 13 = .ok (.astore 4, 2) := by decide +kernel
theorem dL_monk_15 : decode cL_monk 15 = .ok (.iconst 1, 1) := by decide +kernel
theorem dL_monk_16 : decode cL_monk 16 = .ok (.ireturn, 1) := by decide +kernel
theorem dL_monk_17 : decode cL_monk 17 = .ok (.astore 4, 2) := by decide +kernel
theorem dL_monk_19 : decode cL_monk 19 = .ok (.iconst 2, 1) := by decide +kernel
theorem dL_monk_20 : decode cL_monk 20 = .ok (.ireturn, 1) := by decide +kernel
theorem dL_monk_21 : decode cL_monk 21 = .ok (.iconst 0, 1) := by decide +kernel
theorem dL_monk_22 : decode cL_monk 22 = .ok (.ireturn, 1) := by decide +kernel
theorem dL_store_0 : decode cL_store 0 = .ok (.aload_n 2, 1) := by decide +kernel
theorem dL_store_1 : decode cL_store 1 = .ok (.iconst 0, 1) := by decide +kernel
theorem dL_store_2 : decode cL_store 2 = .ok (.aload_n 0, 1) := by decide +kernel
theorem dL_store_3 : decode cL_store 3 = .ok (.iload_n 1, 1) := by decide +kernel
theorem dL_store_4 : decode cL_store 4 = .ok (.invokevirtual 28, 3) := by decide +kernel
theorem dL_store_7 : decode cL_store 7 = .ok (.i2l, 1) := by decide +kernel
theorem dL_store_8 : decode cL_store 8 = .ok (.lastore, 1) := by decide +kernel
theorem dL_store_9 : decode cL_store 9 = .ok (.goto 6, 3) := by decide +kernel
theorem dL_store_12 : decode cL_store 12 = .ok (.astore_n 3, 1) := by decide +kernel
theorem dL_store_13 : decode cL_store 13 = .ok (.iconst 1, 1) := by decide +kernel
theorem dL_store_14 : decode cL_store 14 = .ok (.ireturn, 1) := by decide +kernel
theorem dL_store_15 : decode cL_store 15 = .ok (.iconst 0, 1) := by decide +kernel
theorem dL_store_16 : decode cL_store 16 = .ok (.ireturn, 1) := by decide +kernel
theorem dL_season_0 : decode cL_season 0 = .ok (.aload_n 2, 1) := by decide +kernel
theorem dL_season_1 : decode cL_season 1 = .ok (.iconst 0, 1) := by decide +kernel
theorem dL_season_2 : decode cL_season 2 = .ok (.aload_n 0, 1) := by decide +kernel
theorem dL_season_3 : decode cL_season 3 = .ok (.iload_n 1, 1) := by decide +kernel
theorem dL_season_4 : decode cL_season 4 = .ok (.invokevirtual 32, 3) := by decide +kernel
theorem dL_season_7 : decode cL_season 7 = .ok (.i2l, 1) := by decide +kernel
theorem dL_season_8 : decode cL_season 8 = .ok (.lastore, 1) := by decide +kernel
theorem dL_season_9 : decode cL_season 9 = .ok (.goto 6, 3) := by decide +kernel
theorem dL_season_12 : decode cL_season 12 = .ok (.astore_n 3, 1) := by decide +kernel
theorem dL_season_13 : decode cL_season 13 = .ok (.iconst 1, 1) := by decide +kernel
theorem dL_season_14 : decode cL_season 14 = .ok (.ireturn, 1) := by decide +kernel
theorem dL_season_15 : decode cL_season 15 = .ok (.iconst 0, 1) := by decide +kernel
theorem dL_season_16 : decode cL_season 16 = .ok (.ireturn, 1) := by decide +kernel
theorem dL_hours_0 : decode cL_hours 0 = .ok (.aload_n 2, 1) := by decide +kernel
theorem dL_hours_1 : decode cL_hours 1 = .ok (.iconst 0, 1) := by decide +kernel
theorem dL_hours_2 : decode cL_hours 2 = .ok (.aload_n 0, 1) := by decide +kernel
theorem dL_hours_3 : decode cL_hours 3 = .ok (.iload_n 1, 1) := by decide +kernel
theorem dL_hours_4 : decode cL_hours 4 = .ok (.invokevirtual 35, 3) := by decide +kernel
theorem dL_hours_7 : decode cL_hours 7 = .ok (.i2l, 1) := by decide +kernel
theorem dL_hours_8 : decode cL_hours 8 = .ok (.lastore, 1) := by decide +kernel
theorem dL_hours_9 : decode cL_hours 9 = .ok (.goto 6, 3) := by decide +kernel
theorem dL_hours_12 : decode cL_hours 12 = .ok (.astore_n 3, 1) := by decide +kernel
theorem dL_hours_13 : decode cL_hours 13 = .ok (.iconst 1, 1) := by decide +kernel
theorem dL_hours_14 : decode cL_hours 14 = .ok (.ireturn, 1) := by decide +kernel
theorem dL_hours_15 : decode cL_hours 15 = .ok (.iconst 0, 1) := by decide +kernel
theorem dL_hours_16 : decode cL_hours 16 = .ok (.ireturn, 1) := by decide +kernel
theorem dL_cross_0 : decode cL_cross 0 = .ok (.aload_n 2, 1) := by decide +kernel
theorem dL_cross_1 : decode cL_cross 1 = .ok (.iconst 0, 1) := by decide +kernel
theorem dL_cross_2 : decode cL_cross 2 = .ok (.aload_n 0, 1) := by decide +kernel
theorem dL_cross_3 : decode cL_cross 3 = .ok (.iload_n 1, 1) := by decide +kernel
theorem dL_cross_4 : decode cL_cross 4 = .ok (.invokevirtual 38, 3) := by decide +kernel
theorem dL_cross_7 : decode cL_cross 7 = .ok (.i2l, 1) := by decide +kernel
theorem dL_cross_8 : decode cL_cross 8 = .ok (.lastore, 1) := by decide +kernel
theorem dL_cross_9 : decode cL_cross 9 = .ok (.goto 9, 3) := by decide +kernel
theorem dL_cross_12 : decode cL_cross 12 = .ok (.astore_n 3, 1) := by decide +kernel
theorem dL_cross_13 : decode cL_cross 13 = .ok (.iconst 1, 1) := by decide +kernel
theorem dL_cross_14 : decode cL_cross 14 = .ok (.ireturn, 1) := by decide +kernel
theorem dL_cross_15 : decode cL_cross 15 = .ok (.astore_n 3, 1) := by decide +kernel
theorem dL_cross_16 : decode cL_cross 16 = .ok (.iconst 2, 1) := by decide +kernel
theorem dL_cross_17 : decode cL_cross 17 = .ok (.ireturn, 1) := by decide +kernel
theorem dL_cross_18 : decode cL_cross 18 = .ok (.iconst 0, 1) := by decide +kernel
theorem dL_cross_19 : decode cL_cross 19 = .ok (.ireturn, 1) := by decide +kernel
theorem dL_bell_0 : decode cL_bell 0 = .ok (.aload_n 2, 1) := by decide +kernel
theorem dL_bell_1 : decode cL_bell 1 = .ok (.iconst 0, 1) := by decide +kernel
theorem dL_bell_2 : decode cL_bell 2 = .ok (.aload_n 0, 1) := by decide +kernel
theorem dL_bell_3 : decode cL_bell 3 = .ok (.iload_n 1, 1) := by decide +kernel
theorem dL_bell_4 : decode cL_bell 4 = .ok (.invokevirtual 43, 3) := by decide +kernel
theorem dL_bell_7 : decode cL_bell 7 = .ok (.i2l, 1) := by decide +kernel
theorem dL_bell_8 : decode cL_bell 8 = .ok (.lastore, 1) := by decide +kernel
theorem dL_bell_9 : decode cL_bell 9 = .ok (.goto 6, 3) := by decide +kernel
theorem dL_bell_12 : decode cL_bell 12 = .ok (.astore_n 3, 1) := by decide +kernel
theorem dL_bell_13 : decode cL_bell 13 = .ok (.iconst 1, 1) := by decide +kernel
theorem dL_bell_14 : decode cL_bell 14 = .ok (.ireturn, 1) := by decide +kernel
theorem dL_bell_15 : decode cL_bell 15 = .ok (.iconst 0, 1) := by decide +kernel
theorem dL_bell_16 : decode cL_bell 16 = .ok (.ireturn, 1) := by decide +kernel
theorem dL_mood_0 : decode cL_mood 0 = .ok (.aload_n 2, 1) := by decide +kernel
theorem dL_mood_1 : decode cL_mood 1 = .ok (.iconst 0, 1) := by decide +kernel
theorem dL_mood_2 : decode cL_mood 2 = .ok (.aload_n 0, 1) := by decide +kernel
theorem dL_mood_3 : decode cL_mood 3 = .ok (.iload_n 1, 1) := by decide +kernel
theorem dL_mood_4 : decode cL_mood 4 = .ok (.invokevirtual 46, 3) := by decide +kernel
theorem dL_mood_7 : decode cL_mood 7 = .ok (.i2l, 1) := by decide +kernel
theorem dL_mood_8 : decode cL_mood 8 = .ok (.lastore, 1) := by decide +kernel
theorem dL_mood_9 : decode cL_mood 9 = .ok (.goto 6, 3) := by decide +kernel
theorem dL_mood_12 : decode cL_mood 12 = .ok (.astore_n 3, 1) := by decide +kernel
theorem dL_mood_13 : decode cL_mood 13 = .ok (.iconst 1, 1) := by decide +kernel
theorem dL_mood_14 : decode cL_mood 14 = .ok (.ireturn, 1) := by decide +kernel
theorem dL_mood_15 : decode cL_mood 15 = .ok (.iconst 0, 1) := by decide +kernel
theorem dL_mood_16 : decode cL_mood 16 = .ok (.ireturn, 1) := by decide +kernel
theorem dL_change_0 : decode cL_change 0 = .ok (.aload_n 3, 1) := by decide +kernel
theorem dL_change_1 : decode cL_change 1 = .ok (.iconst 0, 1) := by decide +kernel
theorem dL_change_2 : decode cL_change 2 = .ok (.aload_n 0, 1) := by decide +kernel
theorem dL_change_3 : decode cL_change 3 = .ok (.iload_n 1, 1) := by decide +kernel
theorem dL_change_4 : decode cL_change 4 = .ok (.iload_n 2, 1) := by decide +kernel
theorem dL_change_5 : decode cL_change 5 = .ok (.invokevirtual 49, 3) := by decide +kernel
theorem dL_change_8 : decode cL_change 8 = .ok (.i2l, 1) := by decide +kernel
theorem dL_change_9 : decode cL_change 9 = .ok (.lastore, 1) := by decide +kernel
theorem dL_change_10 : decode cL_change 10 = .ok (.goto 11, 3) := by decide +kernel
theorem dL_change_13 : decode cL_change 13 = .ok (.astore 4, 2) := by decide +kernel
theorem dL_change_15 : decode cL_change 15 = .ok (.iconst 1, 1) := by decide +kernel
theorem dL_change_16 : decode cL_change 16 = .ok (.ireturn, 1) := by decide +kernel
theorem dL_change_17 : decode cL_change 17 = .ok (.astore 4, 2) := by decide +kernel
theorem dL_change_19 : decode cL_change 19 = .ok (.iconst 2, 1) := by decide +kernel
theorem dL_change_20 : decode cL_change 20 = .ok (.ireturn, 1) := by decide +kernel
theorem dL_change_21 : decode cL_change 21 = .ok (.iconst 0, 1) := by decide +kernel
theorem dL_change_22 : decode cL_change 22 = .ok (.ireturn, 1) := by decide +kernel
theorem dL_pace_0 : decode cL_pace 0 = .ok (.aload_n 3, 1) := by decide +kernel
theorem dL_pace_1 : decode cL_pace 1 = .ok (.iconst 0, 1) := by decide +kernel
theorem dL_pace_2 : decode cL_pace 2 = .ok (.aload_n 0, 1) := by decide +kernel
theorem dL_pace_3 : decode cL_pace 3 = .ok (.iload_n 1, 1) := by decide +kernel
theorem dL_pace_4 : decode cL_pace 4 = .ok (.iload_n 2, 1) := by decide +kernel
theorem dL_pace_5 : decode cL_pace 5 = .ok (.invokevirtual 52, 3) := by decide +kernel
theorem dL_pace_8 : decode cL_pace 8 = .ok (.i2l, 1) := by decide +kernel
theorem dL_pace_9 : decode cL_pace 9 = .ok (.lastore, 1) := by decide +kernel
theorem dL_pace_10 : decode cL_pace 10 = .ok (.goto 11, 3) := by decide +kernel
theorem dL_pace_13 : decode cL_pace 13 = .ok (.astore 4, 2) := by decide +kernel
theorem dL_pace_15 : decode cL_pace 15 = .ok (.iconst 1, 1) := by decide +kernel
theorem dL_pace_16 : decode cL_pace 16 = .ok (.ireturn, 1) := by decide +kernel
theorem dL_pace_17 : decode cL_pace 17 = .ok (.astore 4, 2) := by decide +kernel
theorem dL_pace_19 : decode cL_pace 19 = .ok (.iconst 2, 1) := by decide +kernel
theorem dL_pace_20 : decode cL_pace 20 = .ok (.ireturn, 1) := by decide +kernel
theorem dL_pace_21 : decode cL_pace 21 = .ok (.iconst 0, 1) := by decide +kernel
theorem dL_pace_22 : decode cL_pace 22 = .ok (.ireturn, 1) := by decide +kernel
theorem dL_fill_0 : decode cL_fill 0 = .ok (.aload_n 3, 1) := by decide +kernel
theorem dL_fill_1 : decode cL_fill 1 = .ok (.iconst 0, 1) := by decide +kernel
theorem dL_fill_2 : decode cL_fill 2 = .ok (.aload_n 0, 1) := by decide +kernel
theorem dL_fill_3 : decode cL_fill 3 = .ok (.iload_n 1, 1) := by decide +kernel
theorem dL_fill_4 : decode cL_fill 4 = .ok (.iload_n 2, 1) := by decide +kernel
theorem dL_fill_5 : decode cL_fill 5 = .ok (.invokevirtual 55, 3) := by decide +kernel
theorem dL_fill_8 : decode cL_fill 8 = .ok (.i2l, 1) := by decide +kernel
theorem dL_fill_9 : decode cL_fill 9 = .ok (.lastore, 1) := by decide +kernel
theorem dL_fill_10 : decode cL_fill 10 = .ok (.goto 11, 3) := by decide +kernel
theorem dL_fill_13 : decode cL_fill 13 = .ok (.astore 4, 2) := by decide +kernel
theorem dL_fill_15 : decode cL_fill 15 = .ok (.iconst 1, 1) := by decide +kernel
theorem dL_fill_16 : decode cL_fill 16 = .ok (.ireturn, 1) := by decide +kernel
theorem dL_fill_17 : decode cL_fill 17 = .ok (.astore 4, 2) := by decide +kernel
theorem dL_fill_19 : decode cL_fill 19 = .ok (.iconst 2, 1) := by decide +kernel
theorem dL_fill_20 : decode cL_fill 20 = .ok (.ireturn, 1) := by decide +kernel
theorem dL_fill_21 : decode cL_fill 21 = .ok (.iconst 0, 1) := by decide +kernel
theorem dL_fill_22 : decode cL_fill 22 = .ok (.ireturn, 1) := by decide +kernel
theorem dL_find_0 : decode cL_find 0 = .ok (.aload_n 2, 1) := by decide +kernel
theorem dL_find_1 : decode cL_find 1 = .ok (.iconst 0, 1) := by decide +kernel
theorem dL_find_2 : decode cL_find 2 = .ok (.aload_n 0, 1) := by decide +kernel
theorem dL_find_3 : decode cL_find 3 = .ok (.iload_n 1, 1) := by decide +kernel
theorem dL_find_4 : decode cL_find 4 = .ok (.invokevirtual 58, 3) := by decide +kernel
theorem dL_find_7 : decode cL_find 7 = .ok (.i2l, 1) := by decide +kernel
theorem dL_find_8 : decode cL_find 8 = .ok (.lastore, 1) := by decide +kernel
theorem dL_find_9 : decode cL_find 9 = .ok (.goto 9, 3) := by decide +kernel
theorem dL_find_12 : decode cL_find 12 = .ok (.astore_n 3, 1) := by decide +kernel
theorem dL_find_13 : decode cL_find 13 = .ok (.iconst 1, 1) := by decide +kernel
theorem dL_find_14 : decode cL_find 14 = .ok (.ireturn, 1) := by decide +kernel
theorem dL_find_15 : decode cL_find 15 = .ok (.astore_n 3, 1) := by decide +kernel
theorem dL_find_16 : decode cL_find 16 = .ok (.iconst 2, 1) := by decide +kernel
theorem dL_find_17 : decode cL_find 17 = .ok (.ireturn, 1) := by decide +kernel
theorem dL_find_18 : decode cL_find 18 = .ok (.iconst 0, 1) := by decide +kernel
theorem dL_find_19 : decode cL_find 19 = .ok (.ireturn, 1) := by decide +kernel
theorem dL_when_0 : decode cL_when 0 = .ok (.aload_n 3, 1) := by decide +kernel
theorem dL_when_1 : decode cL_when 1 = .ok (.iconst 0, 1) := by decide +kernel
theorem dL_when_2 : decode cL_when 2 = .ok (.aload_n 0, 1) := by decide +kernel
theorem dL_when_3 : decode cL_when 3 = .ok (.iload_n 1, 1) := by decide +kernel
theorem dL_when_4 : decode cL_when 4 = .ok (.iload_n 2, 1) := by decide +kernel
theorem dL_when_5 : decode cL_when 5 = .ok (.invokevirtual 61, 3) := by decide +kernel
theorem dL_when_8 : decode cL_when 8 = .ok (.i2l, 1) := by decide +kernel
theorem dL_when_9 : decode cL_when 9 = .ok (.lastore, 1) := by decide +kernel
theorem dL_when_10 : decode cL_when 10 = .ok (.goto 7, 3) := by decide +kernel
theorem dL_when_13 : decode cL_when 13 = .ok (.astore 4, 2) := by decide +kernel
theorem dL_when_15 : decode cL_when 15 = .ok (.iconst 1, 1) := by decide +kernel
theorem dL_when_16 : decode cL_when 16 = .ok (.ireturn, 1) := by decide +kernel
theorem dL_when_17 : decode cL_when 17 = .ok (.iconst 0, 1) := by decide +kernel
theorem dL_when_18 : decode cL_when 18 = .ok (.ireturn, 1) := by decide +kernel
theorem dL_meet_0 : decode cL_meet 0 = .ok (.aload_n 3, 1) := by decide +kernel
theorem dL_meet_1 : decode cL_meet 1 = .ok (.iconst 0, 1) := by decide +kernel
theorem dL_meet_2 : decode cL_meet 2 = .ok (.aload_n 0, 1) := by decide +kernel
theorem dL_meet_3 : decode cL_meet 3 = .ok (.iload_n 1, 1) := by decide +kernel
theorem dL_meet_4 : decode cL_meet 4 = .ok (.iload_n 2, 1) := by decide +kernel
theorem dL_meet_5 : decode cL_meet 5 = .ok (.invokevirtual 64, 3) := by decide +kernel
theorem dL_meet_8 : decode cL_meet 8 = .ok (.i2l, 1) := by decide +kernel
theorem dL_meet_9 : decode cL_meet 9 = .ok (.lastore, 1) := by decide +kernel
theorem dL_meet_10 : decode cL_meet 10 = .ok (.goto 11, 3) := by decide +kernel
theorem dL_meet_13 : decode cL_meet 13 = .ok (.astore 4, 2) := by decide +kernel
theorem dL_meet_15 : decode cL_meet 15 = .ok (.iconst 1, 1) := by decide +kernel
theorem dL_meet_16 : decode cL_meet 16 = .ok (.ireturn, 1) := by decide +kernel
theorem dL_meet_17 : decode cL_meet 17 = .ok (.astore 4, 2) := by decide +kernel
theorem dL_meet_19 : decode cL_meet 19 = .ok (.iconst 2, 1) := by decide +kernel
theorem dL_meet_20 : decode cL_meet 20 = .ok (.ireturn, 1) := by decide +kernel
theorem dL_meet_21 : decode cL_meet 21 = .ok (.iconst 0, 1) := by decide +kernel
theorem dL_meet_22 : decode cL_meet 22 = .ok (.ireturn, 1) := by decide +kernel
theorem dL_lates_0 : decode cL_lates 0 = .ok (.aload_n 2, 1) := by decide +kernel
theorem dL_lates_1 : decode cL_lates 1 = .ok (.iconst 0, 1) := by decide +kernel
theorem dL_lates_2 : decode cL_lates 2 = .ok (.aload_n 0, 1) := by decide +kernel
theorem dL_lates_3 : decode cL_lates 3 = .ok (.iload_n 1, 1) := by decide +kernel
theorem dL_lates_4 : decode cL_lates 4 = .ok (.invokevirtual 67, 3) := by decide +kernel
theorem dL_lates_7 : decode cL_lates 7 = .ok (.i2l, 1) := by decide +kernel
theorem dL_lates_8 : decode cL_lates 8 = .ok (.lastore, 1) := by decide +kernel
theorem dL_lates_9 : decode cL_lates 9 = .ok (.goto 6, 3) := by decide +kernel
theorem dL_lates_12 : decode cL_lates 12 = .ok (.astore_n 3, 1) := by decide +kernel
theorem dL_lates_13 : decode cL_lates 13 = .ok (.iconst 1, 1) := by decide +kernel
theorem dL_lates_14 : decode cL_lates 14 = .ok (.ireturn, 1) := by decide +kernel
theorem dL_lates_15 : decode cL_lates 15 = .ok (.iconst 0, 1) := by decide +kernel
theorem dL_lates_16 : decode cL_lates 16 = .ok (.ireturn, 1) := by decide +kernel
theorem dL_far_0 : decode cL_far 0 = .ok (.aload_n 3, 1) := by decide +kernel
theorem dL_far_1 : decode cL_far 1 = .ok (.iconst 0, 1) := by decide +kernel
theorem dL_far_2 : decode cL_far 2 = .ok (.aload_n 0, 1) := by decide +kernel
theorem dL_far_3 : decode cL_far 3 = .ok (.iload_n 1, 1) := by decide +kernel
theorem dL_far_4 : decode cL_far 4 = .ok (.iload_n 2, 1) := by decide +kernel
theorem dL_far_5 : decode cL_far 5 = .ok (.invokevirtual 70, 3) := by decide +kernel
theorem dL_far_8 : decode cL_far 8 = .ok (.i2l, 1) := by decide +kernel
theorem dL_far_9 : decode cL_far 9 = .ok (.lastore, 1) := by decide +kernel
theorem dL_far_10 : decode cL_far 10 = .ok (.goto 7, 3) := by decide +kernel
theorem dL_far_13 : decode cL_far 13 = .ok (.astore 4, 2) := by decide +kernel
theorem dL_far_15 : decode cL_far 15 = .ok (.iconst 1, 1) := by decide +kernel
theorem dL_far_16 : decode cL_far 16 = .ok (.ireturn, 1) := by decide +kernel
theorem dL_far_17 : decode cL_far 17 = .ok (.iconst 0, 1) := by decide +kernel
theorem dL_far_18 : decode cL_far 18 = .ok (.ireturn, 1) := by decide +kernel
theorem dL_road_0 : decode cL_road 0 = .ok (.aload_n 3, 1) := by decide +kernel
theorem dL_road_1 : decode cL_road 1 = .ok (.iconst 0, 1) := by decide +kernel
theorem dL_road_2 : decode cL_road 2 = .ok (.aload_n 0, 1) := by decide +kernel
theorem dL_road_3 : decode cL_road 3 = .ok (.iload_n 1, 1) := by decide +kernel
theorem dL_road_4 : decode cL_road 4 = .ok (.iload_n 2, 1) := by decide +kernel
theorem dL_road_5 : decode cL_road 5 = .ok (.invokevirtual 73, 3) := by decide +kernel
theorem dL_road_8 : decode cL_road 8 = .ok (.i2l, 1) := by decide +kernel
theorem dL_road_9 : decode cL_road 9 = .ok (.lastore, 1) := by decide +kernel
theorem dL_road_10 : decode cL_road 10 = .ok (.goto 11, 3) := by decide +kernel
theorem dL_road_13 : decode cL_road 13 = .ok (.astore 4, 2) := by decide +kernel
theorem dL_road_15 : decode cL_road 15 = .ok (.iconst 1, 1) := by decide +kernel
theorem dL_road_16 : decode cL_road 16 = .ok (.ireturn, 1) := by decide +kernel
theorem dL_road_17 : decode cL_road 17 = .ok (.astore 4, 2) := by decide +kernel
theorem dL_road_19 : decode cL_road 19 = .ok (.iconst 2, 1) := by decide +kernel
theorem dL_road_20 : decode cL_road 20 = .ok (.ireturn, 1) := by decide +kernel
theorem dL_road_21 : decode cL_road 21 = .ok (.iconst 0, 1) := by decide +kernel
theorem dL_road_22 : decode cL_road 22 = .ok (.ireturn, 1) := by decide +kernel
theorem dL_seats_0 : decode cL_seats 0 = .ok (.aload_n 2, 1) := by decide +kernel
theorem dL_seats_1 : decode cL_seats 1 = .ok (.iconst 0, 1) := by decide +kernel
theorem dL_seats_2 : decode cL_seats 2 = .ok (.aload_n 0, 1) := by decide +kernel
theorem dL_seats_3 : decode cL_seats 3 = .ok (.iload_n 1, 1) := by decide +kernel
theorem dL_seats_4 : decode cL_seats 4 = .ok (.invokevirtual 77, 3) := by decide +kernel
theorem dL_seats_7 : decode cL_seats 7 = .ok (.i2l, 1) := by decide +kernel
theorem dL_seats_8 : decode cL_seats 8 = .ok (.lastore, 1) := by decide +kernel
theorem dL_seats_9 : decode cL_seats 9 = .ok (.goto 6, 3) := by decide +kernel
theorem dL_seats_12 : decode cL_seats 12 = .ok (.astore_n 3, 1) := by decide +kernel
theorem dL_seats_13 : decode cL_seats 13 = .ok (.iconst 1, 1) := by decide +kernel
theorem dL_seats_14 : decode cL_seats 14 = .ok (.ireturn, 1) := by decide +kernel
theorem dL_seats_15 : decode cL_seats 15 = .ok (.iconst 0, 1) := by decide +kernel
theorem dL_seats_16 : decode cL_seats 16 = .ok (.ireturn, 1) := by decide +kernel
theorem dL_serves_0 : decode cL_serves 0 = .ok (.aload_n 2, 1) := by decide +kernel
theorem dL_serves_1 : decode cL_serves 1 = .ok (.iconst 0, 1) := by decide +kernel
theorem dL_serves_2 : decode cL_serves 2 = .ok (.aload_n 0, 1) := by decide +kernel
theorem dL_serves_3 : decode cL_serves 3 = .ok (.iload_n 1, 1) := by decide +kernel
theorem dL_serves_4 : decode cL_serves 4 = .ok (.invokevirtual 80, 3) := by decide +kernel
theorem dL_serves_7 : decode cL_serves 7 = .ok (.i2l, 1) := by decide +kernel
theorem dL_serves_8 : decode cL_serves 8 = .ok (.lastore, 1) := by decide +kernel
theorem dL_serves_9 : decode cL_serves 9 = .ok (.goto 6, 3) := by decide +kernel
theorem dL_serves_12 : decode cL_serves 12 = .ok (.astore_n 3, 1) := by decide +kernel
theorem dL_serves_13 : decode cL_serves 13 = .ok (.iconst 1, 1) := by decide +kernel
theorem dL_serves_14 : decode cL_serves 14 = .ok (.ireturn, 1) := by decide +kernel
theorem dL_serves_15 : decode cL_serves 15 = .ok (.iconst 0, 1) := by decide +kernel
theorem dL_serves_16 : decode cL_serves 16 = .ok (.ireturn, 1) := by decide +kernel
theorem dL_trade_0 : decode cL_trade 0 = .ok (.aload_n 3, 1) := by decide +kernel
theorem dL_trade_1 : decode cL_trade 1 = .ok (.iconst 0, 1) := by decide +kernel
theorem dL_trade_2 : decode cL_trade 2 = .ok (.aload_n 0, 1) := by decide +kernel
theorem dL_trade_3 : decode cL_trade 3 = .ok (.iload_n 1, 1) := by decide +kernel
theorem dL_trade_4 : decode cL_trade 4 = .ok (.iload_n 2, 1) := by decide +kernel
theorem dL_trade_5 : decode cL_trade 5 = .ok (.invokevirtual 83, 3) := by decide +kernel
theorem dL_trade_8 : decode cL_trade 8 = .ok (.i2l, 1) := by decide +kernel
theorem dL_trade_9 : decode cL_trade 9 = .ok (.lastore, 1) := by decide +kernel
theorem dL_trade_10 : decode cL_trade 10 = .ok (.goto 7, 3) := by decide +kernel
theorem dL_trade_13 : decode cL_trade 13 = .ok (.astore 4, 2) := by decide +kernel
theorem dL_trade_15 : decode cL_trade 15 = .ok (.iconst 1, 1) := by decide +kernel
theorem dL_trade_16 : decode cL_trade 16 = .ok (.ireturn, 1) := by decide +kernel
theorem dL_trade_17 : decode cL_trade 17 = .ok (.iconst 0, 1) := by decide +kernel
theorem dL_trade_18 : decode cL_trade 18 = .ok (.ireturn, 1) := by decide +kernel
theorem dL_seen_0 : decode cL_seen 0 = .ok (.aload_n 2, 1) := by decide +kernel
theorem dL_seen_1 : decode cL_seen 1 = .ok (.iconst 0, 1) := by decide +kernel
theorem dL_seen_2 : decode cL_seen 2 = .ok (.aload_n 0, 1) := by decide +kernel
theorem dL_seen_3 : decode cL_seen 3 = .ok (.iload_n 1, 1) := by decide +kernel
theorem dL_seen_4 : decode cL_seen 4 = .ok (.invokevirtual 86, 3) := by decide +kernel
theorem dL_seen_7 : decode cL_seen 7 = .ok (.i2l, 1) := by decide +kernel
theorem dL_seen_8 : decode cL_seen 8 = .ok (.lastore, 1) := by decide +kernel
theorem dL_seen_9 : decode cL_seen 9 = .ok (.goto 6, 3) := by decide +kernel
theorem dL_seen_12 : decode cL_seen 12 = .ok (.astore_n 3, 1) := by decide +kernel
theorem dL_seen_13 : decode cL_seen 13 = .ok (.iconst 1, 1) := by decide +kernel
theorem dL_seen_14 : decode cL_seen 14 = .ok (.ireturn, 1) := by decide +kernel
theorem dL_seen_15 : decode cL_seen 15 = .ok (.iconst 0, 1) := by decide +kernel
theorem dL_seen_16 : decode cL_seen 16 = .ok (.ireturn, 1) := by decide +kernel
theorem dL_ask_0 : decode cL_ask 0 = .ok (.aload_n 1, 1) := by decide +kernel
theorem dL_ask_1 : decode cL_ask 1 = .ok (.iconst 0, 1) := by decide +kernel
theorem dL_ask_2 : decode cL_ask 2 = .ok (.aload_n 0, 1) := by decide +kernel
theorem dL_ask_3 : decode cL_ask 3 = .ok (.invokevirtual 90, 3) := by decide +kernel
theorem dL_ask_6 : decode cL_ask 6 = .ok (.i2l, 1) := by decide +kernel
theorem dL_ask_7 : decode cL_ask 7 = .ok (.lastore, 1) := by decide +kernel
theorem dL_ask_8 : decode cL_ask 8 = .ok (.goto 6, 3) := by decide +kernel
theorem dL_ask_11 : decode cL_ask 11 = .ok (.astore_n 2, 1) := by decide +kernel
theorem dL_ask_12 : decode cL_ask 12 = .ok (.iconst 1, 1) := by decide +kernel
theorem dL_ask_13 : decode cL_ask 13 = .ok (.ireturn, 1) := by decide +kernel
theorem dL_ask_14 : decode cL_ask 14 = .ok (.iconst 0, 1) := by decide +kernel
theorem dL_ask_15 : decode cL_ask 15 = .ok (.ireturn, 1) := by decide +kernel
theorem dL_rule_0 : decode cL_rule 0 = .ok (.aload_n 2, 1) := by decide +kernel
theorem dL_rule_1 : decode cL_rule 1 = .ok (.iconst 0, 1) := by decide +kernel
theorem dL_rule_2 : decode cL_rule 2 = .ok (.aload_n 0, 1) := by decide +kernel
theorem dL_rule_3 : decode cL_rule 3 = .ok (.iload_n 1, 1) := by decide +kernel
theorem dL_rule_4 : decode cL_rule 4 = .ok (.invokevirtual 93, 3) := by decide +kernel
theorem dL_rule_7 : decode cL_rule 7 = .ok (.i2l, 1) := by decide +kernel
theorem dL_rule_8 : decode cL_rule 8 = .ok (.lastore, 1) := by decide +kernel
theorem dL_rule_9 : decode cL_rule 9 = .ok (.goto 6, 3) := by decide +kernel
theorem dL_rule_12 : decode cL_rule 12 = .ok (.astore_n 3, 1) := by decide +kernel
theorem dL_rule_13 : decode cL_rule 13 = .ok (.iconst 1, 1) := by decide +kernel
theorem dL_rule_14 : decode cL_rule 14 = .ok (.ireturn, 1) := by decide +kernel
theorem dL_rule_15 : decode cL_rule 15 = .ok (.iconst 0, 1) := by decide +kernel
theorem dL_rule_16 : decode cL_rule 16 = .ok (.ireturn, 1) := by decide +kernel
theorem dL_tells_0 : decode cL_tells 0 = .ok (.aload_n 1, 1) := by decide +kernel
theorem dL_tells_1 : decode cL_tells 1 = .ok (.iconst 0, 1) := by decide +kernel
theorem dL_tells_2 : decode cL_tells 2 = .ok (.aload_n 0, 1) := by decide +kernel
theorem dL_tells_3 : decode cL_tells 3 = .ok (.invokevirtual 96, 3) := by decide +kernel
theorem dL_tells_6 : decode cL_tells 6 = .ok (.i2l, 1) := by decide +kernel
theorem dL_tells_7 : decode cL_tells 7 = .ok (.lastore, 1) := by decide +kernel
theorem dL_tells_8 : decode cL_tells 8 = .ok (.goto 6, 3) := by decide +kernel
theorem dL_tells_11 : decode cL_tells 11 = .ok (.astore_n 2, 1) := by decide +kernel
theorem dL_tells_12 : decode cL_tells 12 = .ok (.iconst 1, 1) := by decide +kernel
theorem dL_tells_13 : decode cL_tells 13 = .ok (.ireturn, 1) := by decide +kernel
theorem dL_tells_14 : decode cL_tells 14 = .ok (.iconst 0, 1) := by decide +kernel
theorem dL_tells_15 : decode cL_tells 15 = .ok (.ireturn, 1) := by decide +kernel
theorem dL_share_0 : decode cL_share 0 = .ok (.aload_n 3, 1) := by decide +kernel
theorem dL_share_1 : decode cL_share 1 = .ok (.iconst 0, 1) := by decide +kernel
theorem dL_share_2 : decode cL_share 2 = .ok (.aload_n 0, 1) := by decide +kernel
theorem dL_share_3 : decode cL_share 3 = .ok (.iload_n 1, 1) := by decide +kernel
theorem dL_share_4 : decode cL_share 4 = .ok (.iload_n 2, 1) := by decide +kernel
theorem dL_share_5 : decode cL_share 5 = .ok (.invokevirtual 99, 3) := by decide +kernel
theorem dL_share_8 : decode cL_share 8 = .ok (.i2l, 1) := by decide +kernel
theorem dL_share_9 : decode cL_share 9 = .ok (.lastore, 1) := by decide +kernel
theorem dL_share_10 : decode cL_share 10 = .ok (.goto 11, 3) := by decide +kernel
theorem dL_share_13 : decode cL_share 13 = .ok (.astore 4, 2) := by decide +kernel
theorem dL_share_15 : decode cL_share 15 = .ok (.iconst 1, 1) := by decide +kernel
theorem dL_share_16 : decode cL_share 16 = .ok (.ireturn, 1) := by decide +kernel
theorem dL_share_17 : decode cL_share 17 = .ok (.astore 4, 2) := by decide +kernel
theorem dL_share_19 : decode cL_share 19 = .ok (.iconst 2, 1) := by decide +kernel
theorem dL_share_20 : decode cL_share 20 = .ok (.ireturn, 1) := by decide +kernel
theorem dL_share_21 : decode cL_share 21 = .ok (.iconst 0, 1) := by decide +kernel
theorem dL_share_22 : decode cL_share 22 = .ok (.ireturn, 1) := by decide +kernel
theorem dL_feeds_0 : decode cL_feeds 0 = .ok (.aload_n 2, 1) := by decide +kernel
theorem dL_feeds_1 : decode cL_feeds 1 = .ok (.iconst 0, 1) := by decide +kernel
theorem dL_feeds_2 : decode cL_feeds 2 = .ok (.aload_n 0, 1) := by decide +kernel
theorem dL_feeds_3 : decode cL_feeds 3 = .ok (.iload_n 1, 1) := by decide +kernel
theorem dL_feeds_4 : decode cL_feeds 4 = .ok (.invokevirtual 102, 3) := by decide +kernel
theorem dL_feeds_7 : decode cL_feeds 7 = .ok (.i2l, 1) := by decide +kernel
theorem dL_feeds_8 : decode cL_feeds 8 = .ok (.lastore, 1) := by decide +kernel
theorem dL_feeds_9 : decode cL_feeds 9 = .ok (.goto 6, 3) := by decide +kernel
theorem dL_feeds_12 : decode cL_feeds 12 = .ok (.astore_n 3, 1) := by decide +kernel
theorem dL_feeds_13 : decode cL_feeds 13 = .ok (.iconst 1, 1) := by decide +kernel
theorem dL_feeds_14 : decode cL_feeds 14 = .ok (.ireturn, 1) := by decide +kernel
theorem dL_feeds_15 : decode cL_feeds 15 = .ok (.iconst 0, 1) := by decide +kernel
theorem dL_feeds_16 : decode cL_feeds 16 = .ok (.ireturn, 1) := by decide +kernel
theorem dL_pairs_0 : decode cL_pairs 0 = .ok (.aload_n 2, 1) := by decide +kernel
theorem dL_pairs_1 : decode cL_pairs 1 = .ok (.iconst 0, 1) := by decide +kernel
theorem dL_pairs_2 : decode cL_pairs 2 = .ok (.aload_n 0, 1) := by decide +kernel
theorem dL_pairs_3 : decode cL_pairs 3 = .ok (.iload_n 1, 1) := by decide +kernel
theorem dL_pairs_4 : decode cL_pairs 4 = .ok (.invokevirtual 105, 3) := by decide +kernel
theorem dL_pairs_7 : decode cL_pairs 7 = .ok (.i2l, 1) := by decide +kernel
theorem dL_pairs_8 : decode cL_pairs 8 = .ok (.lastore, 1) := by decide +kernel
theorem dL_pairs_9 : decode cL_pairs 9 = .ok (.goto 6, 3) := by decide +kernel
theorem dL_pairs_12 : decode cL_pairs 12 = .ok (.astore_n 3, 1) := by decide +kernel
theorem dL_pairs_13 : decode cL_pairs 13 = .ok (.iconst 1, 1) := by decide +kernel
theorem dL_pairs_14 : decode cL_pairs 14 = .ok (.ireturn, 1) := by decide +kernel
theorem dL_pairs_15 : decode cL_pairs 15 = .ok (.iconst 0, 1) := by decide +kernel
theorem dL_pairs_16 : decode cL_pairs 16 = .ok (.ireturn, 1) := by decide +kernel
theorem dL_swings_0 : decode cL_swings 0 = .ok (.aload_n 2, 1) := by decide +kernel
theorem dL_swings_1 : decode cL_swings 1 = .ok (.iconst 0, 1) := by decide +kernel
theorem dL_swings_2 : decode cL_swings 2 = .ok (.aload_n 0, 1) := by decide +kernel
theorem dL_swings_3 : decode cL_swings 3 = .ok (.iload_n 1, 1) := by decide +kernel
theorem dL_swings_4 : decode cL_swings 4 = .ok (.invokevirtual 108, 3) := by decide +kernel
theorem dL_swings_7 : decode cL_swings 7 = .ok (.i2l, 1) := by decide +kernel
theorem dL_swings_8 : decode cL_swings 8 = .ok (.lastore, 1) := by decide +kernel
theorem dL_swings_9 : decode cL_swings 9 = .ok (.goto 6, 3) := by decide +kernel
theorem dL_swings_12 : decode cL_swings 12 = .ok (.astore_n 3, 1) := by decide +kernel
theorem dL_swings_13 : decode cL_swings 13 = .ok (.iconst 1, 1) := by decide +kernel
theorem dL_swings_14 : decode cL_swings 14 = .ok (.ireturn, 1) := by decide +kernel
theorem dL_swings_15 : decode cL_swings 15 = .ok (.iconst 0, 1) := by decide +kernel
theorem dL_swings_16 : decode cL_swings 16 = .ok (.ireturn, 1) := by decide +kernel
theorem dL_rests_0 : decode cL_rests 0 = .ok (.aload_n 2, 1) := by decide +kernel
theorem dL_rests_1 : decode cL_rests 1 = .ok (.iconst 0, 1) := by decide +kernel
theorem dL_rests_2 : decode cL_rests 2 = .ok (.aload_n 0, 1) := by decide +kernel
theorem dL_rests_3 : decode cL_rests 3 = .ok (.iload_n 1, 1) := by decide +kernel
theorem dL_rests_4 : decode cL_rests 4 = .ok (.invokevirtual 111, 3) := by decide +kernel
theorem dL_rests_7 : decode cL_rests 7 = .ok (.i2l, 1) := by decide +kernel
theorem dL_rests_8 : decode cL_rests 8 = .ok (.lastore, 1) := by decide +kernel
theorem dL_rests_9 : decode cL_rests 9 = .ok (.goto 6, 3) := by decide +kernel
theorem dL_rests_12 : decode cL_rests 12 = .ok (.astore_n 3, 1) := by decide +kernel
theorem dL_rests_13 : decode cL_rests 13 = .ok (.iconst 1, 1) := by decide +kernel
theorem dL_rests_14 : decode cL_rests 14 = .ok (.ireturn, 1) := by decide +kernel
theorem dL_rests_15 : decode cL_rests 15 = .ok (.iconst 0, 1) := by decide +kernel
theorem dL_rests_16 : decode cL_rests 16 = .ok (.ireturn, 1) := by decide +kernel
theorem dL_odds_0 : decode cL_odds 0 = .ok (.aload_n 3, 1) := by decide +kernel
theorem dL_odds_1 : decode cL_odds 1 = .ok (.iconst 0, 1) := by decide +kernel
theorem dL_odds_2 : decode cL_odds 2 = .ok (.aload_n 0, 1) := by decide +kernel
theorem dL_odds_3 : decode cL_odds 3 = .ok (.iload_n 1, 1) := by decide +kernel
theorem dL_odds_4 : decode cL_odds 4 = .ok (.iload_n 2, 1) := by decide +kernel
theorem dL_odds_5 : decode cL_odds 5 = .ok (.invokevirtual 114, 3) := by decide +kernel
theorem dL_odds_8 : decode cL_odds 8 = .ok (.i2l, 1) := by decide +kernel
theorem dL_odds_9 : decode cL_odds 9 = .ok (.lastore, 1) := by decide +kernel
theorem dL_odds_10 : decode cL_odds 10 = .ok (.goto 7, 3) := by decide +kernel
theorem dL_odds_13 : decode cL_odds 13 = .ok (.astore 4, 2) := by decide +kernel
theorem dL_odds_15 : decode cL_odds 15 = .ok (.iconst 1, 1) := by decide +kernel
theorem dL_odds_16 : decode cL_odds 16 = .ok (.ireturn, 1) := by decide +kernel
theorem dL_odds_17 : decode cL_odds 17 = .ok (.iconst 0, 1) := by decide +kernel
theorem dL_odds_18 : decode cL_odds 18 = .ok (.ireturn, 1) := by decide +kernel
theorem dL_round_0 : decode cL_round 0 = .ok (.aload_n 2, 1) := by decide +kernel
theorem dL_round_1 : decode cL_round 1 = .ok (.iconst 0, 1) := by decide +kernel
theorem dL_round_2 : decode cL_round 2 = .ok (.aload_n 0, 1) := by decide +kernel
theorem dL_round_3 : decode cL_round 3 = .ok (.iload_n 1, 1) := by decide +kernel
theorem dL_round_4 : decode cL_round 4 = .ok (.invokevirtual 117, 3) := by decide +kernel
theorem dL_round_7 : decode cL_round 7 = .ok (.i2l, 1) := by decide +kernel
theorem dL_round_8 : decode cL_round 8 = .ok (.lastore, 1) := by decide +kernel
theorem dL_round_9 : decode cL_round 9 = .ok (.goto 6, 3) := by decide +kernel
theorem dL_round_12 : decode cL_round 12 = .ok (.astore_n 3, 1) := by decide +kernel
theorem dL_round_13 : decode cL_round 13 = .ok (.iconst 1, 1) := by decide +kernel
theorem dL_round_14 : decode cL_round 14 = .ok (.ireturn, 1) := by decide +kernel
theorem dL_round_15 : decode cL_round 15 = .ok (.iconst 0, 1) := by decide +kernel
theorem dL_round_16 : decode cL_round 16 = .ok (.ireturn, 1) := by decide +kernel
theorem dL_ahead_0 : decode cL_ahead 0 = .ok (.aload 4, 2) := by decide +kernel
theorem dL_ahead_2 : decode cL_ahead 2 = .ok (.iconst 0, 1) := by decide +kernel
theorem dL_ahead_3 : decode cL_ahead 3 = .ok (.aload_n 0, 1) := by decide +kernel
theorem dL_ahead_4 : decode cL_ahead 4 = .ok (.iload_n 1, 1) := by decide +kernel
theorem dL_ahead_5 : decode cL_ahead 5 = .ok (.iload_n 2, 1) := by decide +kernel
theorem dL_ahead_6 : decode cL_ahead 6 = .ok (.iload_n 3, 1) := by decide +kernel
theorem dL_ahead_7 : decode cL_ahead 7 = .ok (.invokevirtual 120, 3) := by decide +kernel
theorem dL_ahead_10 : decode cL_ahead 10 = .ok (.i2l, 1) := by decide +kernel
theorem dL_ahead_11 : decode cL_ahead 11 = .ok (.lastore, 1) := by decide +kernel
theorem dL_ahead_12 : decode cL_ahead 12 = .ok (.goto 15, 3) := by decide +kernel
theorem dL_ahead_15 : decode cL_ahead 15 = .ok (.astore 5, 2) := by decide +kernel
theorem dL_ahead_17 : decode cL_ahead 17 = .ok (.iconst 1, 1) := by decide +kernel
theorem dL_ahead_18 : decode cL_ahead 18 = .ok (.ireturn, 1) := by decide +kernel
theorem dL_ahead_19 : decode cL_ahead 19 = .ok (.astore 5, 2) := by decide +kernel
theorem dL_ahead_21 : decode cL_ahead 21 = .ok (.iconst 2, 1) := by decide +kernel
theorem dL_ahead_22 : decode cL_ahead 22 = .ok (.ireturn, 1) := by decide +kernel
theorem dL_ahead_23 : decode cL_ahead 23 = .ok (.astore 5, 2) := by decide +kernel
theorem dL_ahead_25 : decode cL_ahead 25 = .ok (.iconst 3, 1) := by decide +kernel
theorem dL_ahead_26 : decode cL_ahead 26 = .ok (.ireturn, 1) := by decide +kernel
theorem dL_ahead_27 : decode cL_ahead 27 = .ok (.iconst 0, 1) := by decide +kernel
theorem dL_ahead_28 : decode cL_ahead 28 = .ok (.ireturn, 1) := by decide +kernel
theorem dL_trial_0 : decode cL_trial 0 = .ok (.aload_n 3, 1) := by decide +kernel
theorem dL_trial_1 : decode cL_trial 1 = .ok (.iconst 0, 1) := by decide +kernel
theorem dL_trial_2 : decode cL_trial 2 = .ok (.aload_n 0, 1) := by decide +kernel
theorem dL_trial_3 : decode cL_trial 3 = .ok (.iload_n 1, 1) := by decide +kernel
theorem dL_trial_4 : decode cL_trial 4 = .ok (.iload_n 2, 1) := by decide +kernel
theorem dL_trial_5 : decode cL_trial 5 = .ok (.invokevirtual 124, 3) := by decide +kernel
theorem dL_trial_8 : decode cL_trial 8 = .ok (.i2l, 1) := by decide +kernel
theorem dL_trial_9 : decode cL_trial 9 = .ok (.lastore, 1) := by decide +kernel
theorem dL_trial_10 : decode cL_trial 10 = .ok (.goto 7, 3) := by decide +kernel
theorem dL_trial_13 : decode cL_trial 13 = .ok (.astore 4, 2) := by decide +kernel
theorem dL_trial_15 : decode cL_trial 15 = .ok (.iconst 1, 1) := by decide +kernel
theorem dL_trial_16 : decode cL_trial 16 = .ok (.ireturn, 1) := by decide +kernel
theorem dL_trial_17 : decode cL_trial 17 = .ok (.iconst 0, 1) := by decide +kernel
theorem dL_trial_18 : decode cL_trial 18 = .ok (.ireturn, 1) := by decide +kernel
theorem dL_span_0 : decode cL_span 0 = .ok (.aload_n 3, 1) := by decide +kernel
theorem dL_span_1 : decode cL_span 1 = .ok (.iconst 0, 1) := by decide +kernel
theorem dL_span_2 : decode cL_span 2 = .ok (.aload_n 0, 1) := by decide +kernel
theorem dL_span_3 : decode cL_span 3 = .ok (.iload_n 1, 1) := by decide +kernel
theorem dL_span_4 : decode cL_span 4 = .ok (.iload_n 2, 1) := by decide +kernel
theorem dL_span_5 : decode cL_span 5 = .ok (.invokevirtual 127, 3) := by decide +kernel
theorem dL_span_8 : decode cL_span 8 = .ok (.i2l, 1) := by decide +kernel
theorem dL_span_9 : decode cL_span 9 = .ok (.lastore, 1) := by decide +kernel
theorem dL_span_10 : decode cL_span 10 = .ok (.goto 7, 3) := by decide +kernel
theorem dL_span_13 : decode cL_span 13 = .ok (.astore 4, 2) := by decide +kernel
theorem dL_span_15 : decode cL_span 15 = .ok (.iconst 1, 1) := by decide +kernel
theorem dL_span_16 : decode cL_span 16 = .ok (.ireturn, 1) := by decide +kernel
theorem dL_span_17 : decode cL_span 17 = .ok (.iconst 0, 1) := by decide +kernel
theorem dL_span_18 : decode cL_span 18 = .ok (.ireturn, 1) := by decide +kernel
theorem dL_led_0 : decode cL_led 0 = .ok (.aload_n 3, 1) := by decide +kernel
theorem dL_led_1 : decode cL_led 1 = .ok (.iconst 0, 1) := by decide +kernel
theorem dL_led_2 : decode cL_led 2 = .ok (.aload_n 0, 1) := by decide +kernel
theorem dL_led_3 : decode cL_led 3 = .ok (.iload_n 1, 1) := by decide +kernel
theorem dL_led_4 : decode cL_led 4 = .ok (.iload_n 2, 1) := by decide +kernel
theorem dL_led_5 : decode cL_led 5 = .ok (.invokevirtual 130, 3) := by decide +kernel
theorem dL_led_8 : decode cL_led 8 = .ok (.i2l, 1) := by decide +kernel
theorem dL_led_9 : decode cL_led 9 = .ok (.lastore, 1) := by decide +kernel
theorem dL_led_10 : decode cL_led 10 = .ok (.goto 7, 3) := by decide +kernel
theorem dL_led_13 : decode cL_led 13 = .ok (.astore 4, 2) := by decide +kernel
theorem dL_led_15 : decode cL_led 15 = .ok (.iconst 1, 1) := by decide +kernel
theorem dL_led_16 : decode cL_led 16 = .ok (.ireturn, 1) := by decide +kernel
theorem dL_led_17 : decode cL_led 17 = .ok (.iconst 0, 1) := by decide +kernel
theorem dL_led_18 : decode cL_led 18 = .ok (.ireturn, 1) := by decide +kernel
theorem dL_log_0 : decode cL_log 0 = .ok (.aload_n 3, 1) := by decide +kernel
theorem dL_log_1 : decode cL_log 1 = .ok (.iconst 0, 1) := by decide +kernel
theorem dL_log_2 : decode cL_log 2 = .ok (.aload_n 0, 1) := by decide +kernel
theorem dL_log_3 : decode cL_log 3 = .ok (.iload_n 1, 1) := by decide +kernel
theorem dL_log_4 : decode cL_log 4 = .ok (.iload_n 2, 1) := by decide +kernel
theorem dL_log_5 : decode cL_log 5 = .ok (.invokevirtual 133, 3) := by decide +kernel
theorem dL_log_8 : decode cL_log 8 = .ok (.i2l, 1) := by decide +kernel
theorem dL_log_9 : decode cL_log 9 = .ok (.lastore, 1) := by decide +kernel
theorem dL_log_10 : decode cL_log 10 = .ok (.goto 7, 3) := by decide +kernel
theorem dL_log_13 : decode cL_log 13 = .ok (.astore 4, 2) := by decide +kernel
theorem dL_log_15 : decode cL_log 15 = .ok (.iconst 1, 1) := by decide +kernel
theorem dL_log_16 : decode cL_log 16 = .ok (.ireturn, 1) := by decide +kernel
theorem dL_log_17 : decode cL_log 17 = .ok (.iconst 0, 1) := by decide +kernel
theorem dL_log_18 : decode cL_log 18 = .ok (.ireturn, 1) := by decide +kernel

