theorem dL_town_0 : decode cL_town 0 = .ok (.aload_n 2, 1) := by decide +kernel
theorem dL_town_1 : decode cL_town 1 = .ok (.iconst 0, 1) := by decide +kernel
theorem dL_town_2 : decode cL_town 2 = .ok (.aload_n 0, 1) := by decide +kernel
theorem dL_town_3 : decode cL_town 3 = .ok (.iload_n 1, 1) := by decide +kernel
theorem dL_town_4 : decode cL_town 4 = .ok (.invokevirtual 7, 3) := by decide +kernel
theorem dL_town_7 : decode cL_town 7 = .ok (.i2l, 1) := by decide +kernel
theorem dL_town_8 : decode cL_town 8 = .ok (.lastore, 1) := by decide +kernel
theorem dL_town_9 : decode cL_town 9 = .ok (.goto 6, 3) := by decide +kernel
theorem dL_town_12 : decode cL_town 12 = .ok (.astore_n 3, 1) := by decide +kernel
theorem dL_town_13 : decode cL_town 13 = .ok (.iconst 1, 1) := by decide +kernel
theorem dL_town_14 : decode cL_town 14 = .ok (.ireturn, 1) := by decide +kernel
theorem dL_town_15 : decode cL_town 15 = .ok (.iconst 0, 1) := by decide +kernel
theorem dL_town_16 : decode cL_town 16 = .ok (.ireturn, 1) := by decide +kernel
theorem dL_count_0 : decode cL_count 0 = .ok (.aload_n 2, 1) := by decide +kernel
theorem dL_count_1 : decode cL_count 1 = .ok (.iconst 0, 1) := by decide +kernel
theorem dL_count_2 : decode cL_count 2 = .ok (.aload_n 0, 1) := by decide +kernel
theorem dL_count_3 : decode cL_count 3 = .ok (.iload_n 1, 1) := by decide +kernel
theorem dL_count_4 : decode cL_count 4 = .ok (.invokevirtual 15, 3) := by decide +kernel
theorem dL_count_7 : decode cL_count 7 = .ok (.i2l, 1) := by decide +kernel
theorem dL_count_8 : decode cL_count 8 = .ok (.lastore, 1) := by decide +kernel
theorem dL_count_9 : decode cL_count 9 = .ok (.goto 6, 3) := by decide +kernel
theorem dL_count_12 : decode cL_count 12 = .ok (.astore_n 3, 1) := by decide +kernel
theorem dL_count_13 : decode cL_count 13 = .ok (.iconst 1, 1) := by decide +kernel
theorem dL_count_14 : decode cL_count 14 = .ok (.ireturn, 1) := by decide +kernel
theorem dL_count_15 : decode cL_count 15 = .ok (.iconst 0, 1) := by decide +kernel
theorem dL_count_16 : decode cL_count 16 = .ok (.ireturn, 1) := by decide +kernel
theorem dL_has_0 : decode cL_has 0 = .ok (.aload_n 3, 1) := by decide +kernel
theorem dL_has_1 : decode cL_has 1 = .ok (.iconst 0, 1) := by decide +kernel
theorem dL_has_2 : decode cL_has 2 = .ok (.aload_n 0, 1) := by decide +kernel
theorem dL_has_3 : decode cL_has 3 = .ok (.iload_n 1, 1) := by decide +kernel
theorem dL_has_4 : decode cL_has 4 = .ok (.iload_n 2, 1) := by decide +kernel
theorem dL_has_5 : decode cL_has 5 = .ok (.invokevirtual 20, 3) := by decide +kernel
theorem dL_has_8 : decode cL_has 8 = .ok (.i2l, 1) := by decide +kernel
theorem dL_has_9 : decode cL_has 9 = .ok (.lastore, 1) := by decide +kernel
theorem dL_has_10 : decode cL_has 10 = .ok (.goto 7, 3) := by decide +kernel
theorem dL_has_13 : decode cL_has 13 = .ok (.astore 4, 2) := by decide +kernel
theorem dL_has_15 : decode cL_has 15 = .ok (.iconst 1, 1) := by decide +kernel
theorem dL_has_16 : decode cL_has 16 = .ok (.ireturn, 1) := by decide +kernel
theorem dL_has_17 : decode cL_has 17 = .ok (.iconst 0, 1) := by decide +kernel
theorem dL_has_18 : decode cL_has 18 = .ok (.ireturn, 1) := by decide +kernel
theorem dL_likes_0 : decode cL_likes 0 = .ok (.aload_n 3, 1) := by decide +kernel
theorem dL_likes_1 : decode cL_likes 1 = .ok (.iconst 0, 1) := by decide +kernel
theorem dL_likes_2 : decode cL_likes 2 = .ok (.aload_n 0, 1) := by decide +kernel
theorem dL_likes_3 : decode cL_likes 3 = .ok (.iload_n 1, 1) := by decide +kernel
theorem dL_likes_4 : decode cL_likes 4 = .ok (.iload_n 2, 1) := by decide +kernel
theorem dL_likes_5 : decode cL_likes 5 = .ok (.invokevirtual 24, 3) := by decide +kernel
theorem dL_likes_8 : decode cL_likes 8 = .ok (.i2l, 1) := by decide +kernel
theorem dL_likes_9 : decode cL_likes 9 = .ok (.lastore, 1) := by decide +kernel
theorem dL_likes_10 : decode cL_likes 10 = .ok (.goto 7, 3) := by decide +kernel
theorem dL_likes_13 : decode cL_likes 13 = .ok (.astore 4, 2) := by decide +kernel
theorem dL_likes_15 : decode cL_likes 15 = .ok (.iconst 1, 1) := by decide +kernel
theorem dL_likes_16 : decode cL_likes 16 = .ok (.ireturn, 1) := by decide +kernel
theorem dL_likes_17 : decode cL_likes 17 = .ok (.iconst 0, 1) := by decide +kernel
theorem dL_likes_18 : decode cL_likes 18 = .ok (.ireturn, 1) := by decide +kernel
theorem dL_worth_0 : decode cL_worth 0 = .ok (.aload_n 2, 1) := by decide +kernel
theorem dL_worth_1 : decode cL_worth 1 = .ok (.iconst 0, 1) := by decide +kernel
theorem dL_worth_2 : decode cL_worth 2 = .ok (.aload_n 0, 1) := by decide +kernel
theorem dL_worth_3 : decode cL_worth 3 = .ok (.iload_n 1, 1) := by decide +kernel
theorem dL_worth_4 : decode cL_worth 4 = .ok (.invokevirtual 27, 3) := by decide +kernel
theorem dL_worth_7 : decode cL_worth 7 = .ok (.i2l, 1) := by decide +kernel
theorem dL_worth_8 : decode cL_worth 8 = .ok (.lastore, 1) := by decide +kernel
theorem dL_worth_9 : decode cL_worth 9 = .ok (.goto 6, 3) := by decide +kernel
theorem dL_worth_12 : decode cL_worth 12 = .ok (.astore_n 3, 1) := by decide +kernel
theorem dL_worth_13 : decode cL_worth 13 = .ok (.iconst 1, 1) := by decide +kernel
theorem dL_worth_14 : decode cL_worth 14 = .ok (.ireturn, 1) := by decide +kernel
theorem dL_worth_15 : decode cL_worth 15 = .ok (.iconst 0, 1) := by decide +kernel
theorem dL_worth_16 : decode cL_worth 16 = .ok (.ireturn, 1) := by decide +kernel
theorem dL_left_0 : decode cL_left 0 = .ok (.aload_n 2, 1) := by decide +kernel
theorem dL_left_1 : decode cL_left 1 = .ok (.iconst 0, 1) := by decide +kernel
theorem dL_left_2 : decode cL_left 2 = .ok (.aload_n 0, 1) := by decide +kernel
theorem dL_left_3 : decode cL_left 3 = .ok (.iload_n 1, 1) := by decide +kernel
theorem dL_left_4 : decode cL_left 4 = .ok (.invokevirtual 30, 3) := by decide +kernel
theorem dL_left_7 : decode cL_left 7 = .ok (.i2l, 1) := by decide +kernel
theorem dL_left_8 : decode cL_left 8 = .ok (.lastore, 1) := by decide +kernel
theorem dL_left_9 : decode cL_left 9 = .ok (.goto 6, 3) := by decide +kernel
theorem dL_left_12 : decode cL_left 12 = .ok (.astore_n 3, 1) := by decide +kernel
theorem dL_left_13 : decode cL_left 13 = .ok (.iconst 1, 1) := by decide +kernel
theorem dL_left_14 : decode cL_left 14 = .ok (.ireturn, 1) := by decide +kernel
theorem dL_left_15 : decode cL_left 15 = .ok (.iconst 0, 1) := by decide +kernel
theorem dL_left_16 : decode cL_left 16 = .ok (.ireturn, 1) := by decide +kernel
theorem dL_meeting_0 : decode cL_meeting 0 = .ok (.aload_n 3, 1) := by decide +kernel
theorem dL_meeting_1 : decode cL_meeting 1 = .ok (.iconst 0, 1) := by decide +kernel
theorem dL_meeting_2 : decode cL_meeting 2 = .ok (.aload_n 0, 1) := by decide +kernel
theorem dL_meeting_3 : decode cL_meeting 3 = .ok (.iload_n 1, 1) := by decide +kernel
theorem dL_meeting_4 : decode cL_meeting 4 = .ok (.iload_n 2, 1) := by decide +kernel
theorem dL_meeting_5 : decode cL_meeting 5 = .ok (.invokevirtual 33, 3) := by decide +kernel
theorem dL_meeting_8 : decode cL_meeting 8 = .ok (.i2l, 1) := by decide +kernel
theorem dL_meeting_9 : decode cL_meeting 9 = .ok (.lastore, 1) := by decide +kernel
theorem dL_meeting_10 : decode cL_meeting 10 = .ok (.goto 7, 3) := by decide +kernel
theorem dL_meeting_13 : decode cL_meeting 13 = .ok (.astore 4, 2) := by decide +kernel
theorem dL_meeting_15 : decode cL_meeting 15 = .ok (.iconst 1, 1) := by decide +kernel
theorem dL_meeting_16 : decode cL_meeting 16 = .ok (.ireturn, 1) := by decide +kernel
theorem dL_meeting_17 : decode cL_meeting 17 = .ok (.iconst 0, 1) := by decide +kernel
theorem dL_meeting_18 : decode cL_meeting 18 = .ok (.ireturn, 1) := by decide +kernel
theorem dL_look_0 : decode cL_look 0 = .ok (.aload 6, 2) := by decide +kernel
theorem dL_look_2 : decode cL_look 2 = .ok (.iconst 0, 1) := by decide +kernel
theorem dL_look_3 : decode cL_look 3 = .ok (.aload_n 0, 1) := by decide +kernel
theorem dL_look_4 : decode cL_look 4 = .ok (.iload_n 1, 1) := by decide +kernel
theorem dL_look_5 : decode cL_look 5 = .ok (.iload_n 2, 1) := by decide +kernel
theorem dL_look_6 : decode cL_look 6 = .ok (.iload_n 3, 1) := by decide +kernel
theorem dL_look_7 : decode cL_look 7 = .ok (.iload 4, 2) := by decide +kernel
theorem dL_look_9 : decode cL_look 9 = .ok (.iload 5, 2) := by decide +kernel
theorem dL_look_11 : decode cL_look 11 = .ok (.invokevirtual 36, 3) := by decide +kernel
theorem dL_look_14 : decode cL_look 14 = .ok (.i2l, 1) := by decide +kernel
theorem dL_look_15 : decode cL_look 15 = .ok (.lastore, 1) := by decide +kernel
theorem dL_look_16 : decode cL_look 16 = .ok (.goto 11, 3) := by decide +kernel
theorem dL_look_19 : decode cL_look 19 = .ok (.astore 7, 2) := by decide +kernel
theorem dL_look_21 : decode cL_look 21 = .ok (.iconst 1, 1) := by decide +kernel
theorem dL_look_22 : decode cL_look 22 = .ok (.ireturn, 1) := by decide +kernel
theorem dL_look_23 : decode cL_look 23 = .ok (.astore 7, 2) := by decide +kernel
theorem dL_look_25 : decode cL_look 25 = .ok (.iconst 2, 1) := by decide +kernel
theorem dL_look_26 : decode cL_look 26 = .ok (.ireturn, 1) := by decide +kernel
theorem dL_look_27 : decode cL_look 27 = .ok (.iconst 0, 1) := by decide +kernel
theorem dL_look_28 : decode cL_look 28 = .ok (.ireturn, 1) := by decide +kernel
theorem dL_trade_0 : decode cL_trade 0 = .ok (.aload 5, 2) := by decide +kernel
theorem dL_trade_2 : decode cL_trade 2 = .ok (.iconst 0, 1) := by decide +kernel
theorem dL_trade_3 : decode cL_trade 3 = .ok (.aload_n 0, 1) := by decide +kernel
theorem dL_trade_4 : decode cL_trade 4 = .ok (.iload_n 1, 1) := by decide +kernel
theorem dL_trade_5 : decode cL_trade 5 = .ok (.iload_n 2, 1) := by decide +kernel
theorem dL_trade_6 : decode cL_trade 6 = .ok (.iload_n 3, 1) := by decide +kernel
theorem dL_trade_7 : decode cL_trade 7 = .ok (.iload 4, 2) := by decide +kernel
theorem dL_trade_9 : decode cL_trade 9 = .ok (.invokevirtual 40, 3) := by decide +kernel
theorem dL_trade_12 : decode cL_trade 12 = .ok (.ifCond .eq 7, 3) := by decide +kernel
theorem dL_trade_15 : decode cL_trade 15 = .ok (.lconst 1, 1) := by decide +kernel
theorem dL_trade_16 : decode cL_trade 16 = .ok (.goto 4, 3) := by decide +kernel
theorem dL_trade_19 : decode cL_trade 19 = .ok (.lconst 0, 1) := by decide +kernel
theorem dL_trade_20 : decode cL_trade 20 = .ok (.lastore, 1) := by decide +kernel
theorem dL_trade_21 : decode cL_trade 21 = .ok (.goto 7, 3) := by decide +kernel
theorem dL_trade_24 : decode cL_trade 24 = .ok (.astore 6, 2) := by decide +kernel
theorem dL_trade_26 : decode cL_trade 26 = .ok (.iconst 1, 1) := by decide +kernel
theorem dL_trade_27 : decode cL_trade 27 = .ok (.ireturn, 1) := by decide +kernel
theorem dL_trade_28 : decode cL_trade 28 = .ok (.iconst 0, 1) := by decide +kernel
theorem dL_trade_29 : decode cL_trade 29 = .ok (.ireturn, 1) := by decide +kernel
theorem dL_tie_0 : decode cL_tie 0 = .ok (.aload_n 3, 1) := by decide +kernel
theorem dL_tie_1 : decode cL_tie 1 = .ok (.iconst 0, 1) := by decide +kernel
theorem dL_tie_2 : decode cL_tie 2 = .ok (.aload_n 0, 1) := by decide +kernel
theorem dL_tie_3 : decode cL_tie 3 = .ok (.iload_n 1, 1) := by decide +kernel
theorem dL_tie_4 : decode cL_tie 4 = .ok (.iload_n 2, 1) := by decide +kernel
theorem dL_tie_5 : decode cL_tie 5 = .ok (.invokevirtual 44, 3) := by decide +kernel
theorem dL_tie_8 : decode cL_tie 8 = .ok (.ifCond .eq 7, 3) := by decide +kernel
theorem dL_tie_11 : decode cL_tie 11 = .ok (.lconst 1, 1) := by decide +kernel
theorem dL_tie_12 : decode cL_tie 12 = .ok (.goto 4, 3) := by decide +kernel
theorem dL_tie_15 : decode cL_tie 15 = .ok (.lconst 0, 1) := by decide +kernel
theorem dL_tie_16 : decode cL_tie 16 = .ok (.lastore, 1) := by decide +kernel
theorem dL_tie_17 : decode cL_tie 17 = .ok (.goto 7, 3) := by decide +kernel
theorem dL_tie_20 : decode cL_tie 20 = .ok (.astore 4, 2) := by decide +kernel
theorem dL_tie_22 : decode cL_tie 22 = .ok (.iconst 1, 1) := by decide +kernel
theorem dL_tie_23 : decode cL_tie 23 = .ok (.ireturn, 1) := by decide +kernel
theorem dL_tie_24 : decode cL_tie 24 = .ok (.iconst 0, 1) := by decide +kernel
theorem dL_tie_25 : decode cL_tie 25 = .ok (.ireturn, 1) := by decide +kernel
theorem dL_come_0 : decode cL_come 0 = .ok (.aload_n 3, 1) := by decide +kernel
theorem dL_come_1 : decode cL_come 1 = .ok (.iconst 0, 1) := by decide +kernel
theorem dL_come_2 : decode cL_come 2 = .ok (.aload_n 0, 1) := by decide +kernel
theorem dL_come_3 : decode cL_come 3 = .ok (.iload_n 1, 1) := by decide +kernel
theorem dL_come_4 : decode cL_come 4 = .ok (.iload_n 2, 1) := by decide +kernel
theorem dL_come_5 : decode cL_come 5 = .ok (.invokevirtual 48, 3) := by decide +kernel
theorem dL_come_8 : decode cL_come 8 = .ok (.i2l, 1) := by decide +kernel
theorem dL_come_9 : decode cL_come 9 = .ok (.lastore, 1) := by decide +kernel
theorem dL_come_10 : decode cL_come 10 = .ok (.goto 7, 3) := by decide +kernel
theorem dL_come_13 : decode cL_come 13 = .ok (.astore 4, 2) := by decide +kernel
theorem dL_come_15 : decode cL_come 15 = .ok (.iconst 1, 1) := by decide +kernel
theorem dL_come_16 : decode cL_come 16 = .ok (.ireturn, 1) := by decide +kernel
theorem dL_come_17 : decode cL_come 17 = .ok (.iconst 0, 1) := by decide +kernel
theorem dL_come_18 : decode cL_come 18 = .ok (.ireturn, 1) := by decide +kernel
theorem dL_step_0 : decode cL_step 0 = .ok (.aload_n 3, 1) := by decide +kernel
theorem dL_step_1 : decode cL_step 1 = .ok (.iconst 0, 1) := by decide +kernel
theorem dL_step_2 : decode cL_step 2 = .ok (.aload_n 0, 1) := by decide +kernel
theorem dL_step_3 : decode cL_step 3 = .ok (.iload_n 1, 1) := by decide +kernel
theorem dL_step_4 : decode cL_step 4 = .ok (.iload_n 2, 1) := by decide +kernel
theorem dL_step_5 : decode cL_step 5 = .ok (.invokevirtual 51, 3) := by decide +kernel
theorem dL_step_8 : decode cL_step 8 = .ok (.i2l, 1) := by decide +kernel
theorem dL_step_9 : decode cL_step 9 = .ok (.lastore, 1) := by decide +kernel
theorem dL_step_10 : decode cL_step 10 = .ok (.goto 7, 3) := by decide +kernel
theorem dL_step_13 : decode cL_step 13 = .ok (.astore 4, 2) := by decide +kernel
theorem dL_step_15 : decode cL_step 15 = .ok (.iconst 1, 1) := by decide +kernel
theorem dL_step_16 : decode cL_step 16 = .ok (.ireturn, 1) := by decide +kernel
theorem dL_step_17 : decode cL_step 17 = .ok (.iconst 0, 1) := by decide +kernel
theorem dL_step_18 : decode cL_step 18 = .ok (.ireturn, 1) := by decide +kernel
theorem dL_poor_0 : decode cL_poor 0 = .ok (.aload_n 3, 1) := by decide +kernel
theorem dL_poor_1 : decode cL_poor 1 = .ok (.iconst 0, 1) := by decide +kernel
theorem dL_poor_2 : decode cL_poor 2 = .ok (.aload_n 0, 1) := by decide +kernel
theorem dL_poor_3 : decode cL_poor 3 = .ok (.iload_n 1, 1) := by decide +kernel
theorem dL_poor_4 : decode cL_poor 4 = .ok (.iload_n 2, 1) := by decide +kernel
theorem dL_poor_5 : decode cL_poor 5 = .ok (.invokevirtual 54, 3) := by decide +kernel
theorem dL_poor_8 : decode cL_poor 8 = .ok (.i2l, 1) := by decide +kernel
theorem dL_poor_9 : decode cL_poor 9 = .ok (.lastore, 1) := by decide +kernel
theorem dL_poor_10 : decode cL_poor 10 = .ok (.goto 7, 3) := by decide +kernel
theorem dL_poor_13 : decode cL_poor 13 = .ok (.astore 4, 2) := by decide +kernel
theorem dL_poor_15 : decode cL_poor 15 = .ok (.iconst 1, 1) := by decide +kernel
theorem dL_poor_16 : decode cL_poor 16 = .ok (.ireturn, 1) := by decide +kernel
theorem dL_poor_17 : decode cL_poor 17 = .ok (.iconst 0, 1) := by decide +kernel
theorem dL_poor_18 : decode cL_poor 18 = .ok (.ireturn, 1) := by decide +kernel
theorem dL_bag_0 : decode cL_bag 0 = .ok (.aload_n 2, 1) := by decide +kernel
theorem dL_bag_1 : decode cL_bag 1 = .ok (.iconst 0, 1) := by decide +kernel
theorem dL_bag_2 : decode cL_bag 2 = .ok (.aload_n 0, 1) := by decide +kernel
theorem dL_bag_3 : decode cL_bag 3 = .ok (.iload_n 1, 1) := by decide +kernel
theorem dL_bag_4 : decode cL_bag 4 = .ok (.invokevirtual 57, 3) := by decide +kernel
theorem dL_bag_7 : decode cL_bag 7 = .ok (.i2l, 1) := by decide +kernel
theorem dL_bag_8 : decode cL_bag 8 = .ok (.lastore, 1) := by decide +kernel
theorem dL_bag_9 : decode cL_bag 9 = .ok (.goto 6, 3) := by decide +kernel
theorem dL_bag_12 : decode cL_bag 12 = .ok (.astore_n 3, 1) := by decide +kernel
theorem dL_bag_13 : decode cL_bag 13 = .ok (.iconst 1, 1) := by decide +kernel
theorem dL_bag_14 : decode cL_bag 14 = .ok (.ireturn, 1) := by decide +kernel
theorem dL_bag_15 : decode cL_bag 15 = .ok (.iconst 0, 1) := by decide +kernel
theorem dL_bag_16 : decode cL_bag 16 = .ok (.ireturn, 1) := by decide +kernel
theorem dL_meet_0 : decode cL_meet 0 = .ok (.aload_n 3, 1) := by decide +kernel
theorem dL_meet_1 : decode cL_meet 1 = .ok (.iconst 0, 1) := by decide +kernel
theorem dL_meet_2 : decode cL_meet 2 = .ok (.aload_n 0, 1) := by decide +kernel
theorem dL_meet_3 : decode cL_meet 3 = .ok (.iload_n 1, 1) := by decide +kernel
theorem dL_meet_4 : decode cL_meet 4 = .ok (.iload_n 2, 1) := by decide +kernel
theorem dL_meet_5 : decode cL_meet 5 = .ok (.invokevirtual 60, 3) := by decide +kernel
theorem dL_meet_8 : decode cL_meet 8 = .ok (.i2l, 1) := by decide +kernel
theorem dL_meet_9 : decode cL_meet 9 = .ok (.lastore, 1) := by decide +kernel
theorem dL_meet_10 : decode cL_meet 10 = .ok (.goto 7, 3) := by decide +kernel
theorem dL_meet_13 : decode cL_meet 13 = .ok (.astore 4, 2) := by decide +kernel
theorem dL_meet_15 : decode cL_meet 15 = .ok (.iconst 1, 1) := by decide +kernel
theorem dL_meet_16 : decode cL_meet 16 = .ok (.ireturn, 1) := by decide +kernel
theorem dL_meet_17 : decode cL_meet 17 = .ok (.iconst 0, 1) := by decide +kernel
theorem dL_meet_18 : decode cL_meet 18 = .ok (.ireturn, 1) := by decide +kernel
theorem dL_days_0 : decode cL_days 0 = .ok (.aload_n 2, 1) := by decide +kernel
theorem dL_days_1 : decode cL_days 1 = .ok (.iconst 0, 1) := by decide +kernel
theorem dL_days_2 : decode cL_days 2 = .ok (.aload_n 0, 1) := by decide +kernel
theorem dL_days_3 : decode cL_days 3 = .ok (.iload_n 1, 1) := by decide +kernel
theorem dL_days_4 : decode cL_days 4 = .ok (.invokevirtual 63, 3) := by decide +kernel
theorem dL_days_7 : decode cL_days 7 = .ok (.i2l, 1) := by decide +kernel
theorem dL_days_8 : decode cL_days 8 = .ok (.lastore, 1) := by decide +kernel
theorem dL_days_9 : decode cL_days 9 = .ok (.goto 6, 3) := by decide +kernel
theorem dL_days_12 : decode cL_days 12 = .ok (.astore_n 3, 1) := by decide +kernel
theorem dL_days_13 : decode cL_days 13 = .ok (.iconst 1, 1) := by decide +kernel
theorem dL_days_14 : decode cL_days 14 = .ok (.ireturn, 1) := by decide +kernel
theorem dL_days_15 : decode cL_days 15 = .ok (.iconst 0, 1) := by decide +kernel
theorem dL_days_16 : decode cL_days 16 = .ok (.ireturn, 1) := by decide +kernel
theorem dL_end_0 : decode cL_end 0 = .ok (.aload_n 2, 1) := by decide +kernel
theorem dL_end_1 : decode cL_end 1 = .ok (.iconst 0, 1) := by decide +kernel
theorem dL_end_2 : decode cL_end 2 = .ok (.aload_n 0, 1) := by decide +kernel
theorem dL_end_3 : decode cL_end 3 = .ok (.iload_n 1, 1) := by decide +kernel
theorem dL_end_4 : decode cL_end 4 = .ok (.invokevirtual 66, 3) := by decide +kernel
theorem dL_end_7 : decode cL_end 7 = .ok (.i2l, 1) := by decide +kernel
theorem dL_end_8 : decode cL_end 8 = .ok (.lastore, 1) := by decide +kernel
theorem dL_end_9 : decode cL_end 9 = .ok (.goto 6, 3) := by decide +kernel
theorem dL_end_12 : decode cL_end 12 = .ok (.astore_n 3, 1) := by decide +kernel
theorem dL_end_13 : decode cL_end 13 = .ok (.iconst 1, 1) := by decide +kernel
theorem dL_end_14 : decode cL_end 14 = .ok (.ireturn, 1) := by decide +kernel
theorem dL_end_15 : decode cL_end 15 = .ok (.iconst 0, 1) := by decide +kernel
theorem dL_end_16 : decode cL_end 16 = .ok (.ireturn, 1) := by decide +kernel
theorem dL_ordered_0 : decode cL_ordered 0 = .ok (.aload_n 2, 1) := by decide +kernel
theorem dL_ordered_1 : decode cL_ordered 1 = .ok (.iconst 0, 1) := by decide +kernel
theorem dL_ordered_2 : decode cL_ordered 2 = .ok (.aload_n 0, 1) := by decide +kernel
theorem dL_ordered_3 : decode cL_ordered 3 = .ok (.iload_n 1, 1) := by decide +kernel
theorem dL_ordered_4 : decode cL_ordered 4 = .ok (.invokevirtual 69, 3) := by decide +kernel
theorem dL_ordered_7 : decode cL_ordered 7 = .ok (.i2l, 1) := by decide +kernel
theorem dL_ordered_8 : decode cL_ordered 8 = .ok (.lastore, 1) := by decide +kernel
theorem dL_ordered_9 : decode cL_ordered 9 = .ok (.goto 6, 3) := by decide +kernel
theorem dL_ordered_12 : decode cL_ordered 12 = .ok (.astore_n 3, 1) := by decide +kernel
theorem dL_ordered_13 : decode cL_ordered 13 = .ok (.iconst 1, 1) := by decide +kernel
theorem dL_ordered_14 : decode cL_ordered 14 = .ok (.ireturn, 1) := by decide +kernel
theorem dL_ordered_15 : decode cL_ordered 15 = .ok (.iconst 0, 1) := by decide +kernel
theorem dL_ordered_16 : decode cL_ordered 16 = .ok (.ireturn, 1) := by decide +kernel
theorem dL_ahead_0 : decode cL_ahead 0 = .ok (.aload_n 2, 1) := by decide +kernel
theorem dL_ahead_1 : decode cL_ahead 1 = .ok (.iconst 0, 1) := by decide +kernel
theorem dL_ahead_2 : decode cL_ahead 2 = .ok (.aload_n 0, 1) := by decide +kernel
theorem dL_ahead_3 : decode cL_ahead 3 = .ok (.iload_n 1, 1) := by decide +kernel
theorem dL_ahead_4 : decode cL_ahead 4 = .ok (.invokevirtual 72, 3) := by decide +kernel
theorem dL_ahead_7 : decode cL_ahead 7 = .ok (.i2l, 1) := by decide +kernel
theorem dL_ahead_8 : decode cL_ahead 8 = .ok (.lastore, 1) := by decide +kernel
theorem dL_ahead_9 : decode cL_ahead 9 = .ok (.goto 6, 3) := by decide +kernel
theorem dL_ahead_12 : decode cL_ahead 12 = .ok (.astore_n 3, 1) := by decide +kernel
theorem dL_ahead_13 : decode cL_ahead 13 = .ok (.iconst 1, 1) := by decide +kernel
theorem dL_ahead_14 : decode cL_ahead 14 = .ok (.ireturn, 1) := by decide +kernel
theorem dL_ahead_15 : decode cL_ahead 15 = .ok (.iconst 0, 1) := by decide +kernel
theorem dL_ahead_16 : decode cL_ahead 16 = .ok (.ireturn, 1) := by decide +kernel
theorem dL_still_0 : decode cL_still 0 = .ok (.aload 4, 2) := by decide +kernel
theorem dL_still_2 : decode cL_still 2 = .ok (.iconst 0, 1) := by decide +kernel
theorem dL_still_3 : decode cL_still 3 = .ok (.aload_n 0, 1) := by decide +kernel
theorem dL_still_4 : decode cL_still 4 = .ok (.iload_n 1, 1) := by decide +kernel
theorem dL_still_5 : decode cL_still 5 = .ok (.iload_n 2, 1) := by decide +kernel
theorem dL_still_6 : decode cL_still 6 = .ok (.iload_n 3, 1) := by decide +kernel
theorem dL_still_7 : decode cL_still 7 = .ok (.invokevirtual 75, 3) := by decide +kernel
theorem dL_still_10 : decode cL_still 10 = .ok (.i2l, 1) := by decide +kernel
theorem dL_still_11 : decode cL_still 11 = .ok (.lastore, 1) := by decide +kernel
theorem dL_still_12 : decode cL_still 12 = .ok (.goto 11, 3) := by decide +kernel
theorem dL_still_15 : decode cL_still 15 = .ok (.astore 5, 2) := by decide +kernel
theorem dL_still_17 : decode cL_still 17 = .ok (.iconst 1, 1) := by decide +kernel
theorem dL_still_18 : decode cL_still 18 = .ok (.ireturn, 1) := by decide +kernel
theorem dL_still_19 : decode cL_still 19 = .ok (.astore 5, 2) := by decide +kernel
theorem dL_still_21 : decode cL_still 21 = .ok (.iconst 2, 1) := by decide +kernel
theorem dL_still_22 : decode cL_still 22 = .ok (.ireturn, 1) := by decide +kernel
theorem dL_still_23 : decode cL_still 23 = .ok (.iconst 0, 1) := by decide +kernel
theorem dL_still_24 : decode cL_still 24 = .ok (.ireturn, 1) := by decide +kernel
theorem dL_share_0 : decode cL_share 0 = .ok (.aload_n 2, 1) := by decide +kernel
theorem dL_share_1 : decode cL_share 1 = .ok (.iconst 0, 1) := by decide +kernel
theorem dL_share_2 : decode cL_share 2 = .ok (.aload_n 0, 1) := by decide +kernel
theorem dL_share_3 : decode cL_share 3 = .ok (.iload_n 1, 1) := by decide +kernel
theorem dL_share_4 : decode cL_share 4 = .ok (.invokevirtual 79, 3) := by decide +kernel
theorem dL_share_7 : decode cL_share 7 = .ok (.i2l, 1) := by decide +kernel
theorem dL_share_8 : decode cL_share 8 = .ok (.lastore, 1) := by decide +kernel
theorem dL_share_9 : decode cL_share 9 = .ok (.goto 6, 3) := by decide +kernel
theorem dL_share_12 : decode cL_share 12 = .ok (.astore_n 3, 1) := by decide +kernel
theorem dL_share_13 : decode cL_share 13 = .ok (.iconst 1, 1) := by decide +kernel
theorem dL_share_14 : decode cL_share 14 = .ok (.ireturn, 1) := by decide +kernel
theorem dL_share_15 : decode cL_share 15 = .ok (.iconst 0, 1) := by decide +kernel
theorem dL_share_16 : decode cL_share 16 = .ok (.ireturn, 1) := by decide +kernel
theorem dL_shared_0 : decode cL_shared 0 = .ok (.aload_n 3, 1) := by decide +kernel
theorem dL_shared_1 : decode cL_shared 1 = .ok (.iconst 0, 1) := by decide +kernel
theorem dL_shared_2 : decode cL_shared 2 = .ok (.aload_n 0, 1) := by decide +kernel
theorem dL_shared_3 : decode cL_shared 3 = .ok (.iload_n 1, 1) := by decide +kernel
theorem dL_shared_4 : decode cL_shared 4 = .ok (.iload_n 2, 1) := by decide +kernel
theorem dL_shared_5 : decode cL_shared 5 = .ok (.invokevirtual 82, 3) := by decide +kernel
theorem dL_shared_8 : decode cL_shared 8 = .ok (.i2l, 1) := by decide +kernel
theorem dL_shared_9 : decode cL_shared 9 = .ok (.lastore, 1) := by decide +kernel
theorem dL_shared_10 : decode cL_shared 10 = .ok (.goto 7, 3) := by decide +kernel
theorem dL_shared_13 : decode cL_shared 13 = .ok (.astore 4, 2) := by decide +kernel
theorem dL_shared_15 : decode cL_shared 15 = .ok (.iconst 1, 1) := by decide +kernel
theorem dL_shared_16 : decode cL_shared 16 = .ok (.ireturn, 1) := by decide +kernel
theorem dL_shared_17 : decode cL_shared 17 = .ok (.iconst 0, 1) := by decide +kernel
theorem dL_shared_18 : decode cL_shared 18 = .ok (.ireturn, 1) := by decide +kernel
theorem dL_law_0 : decode cL_law 0 = .ok (.aload_n 3, 1) := by decide +kernel
theorem dL_law_1 : decode cL_law 1 = .ok (.iconst 0, 1) := by decide +kernel
theorem dL_law_2 : decode cL_law 2 = .ok (.aload_n 0, 1) := by decide +kernel
theorem dL_law_3 : decode cL_law 3 = .ok (.iload_n 1, 1) := by decide +kernel
theorem dL_law_4 : decode cL_law 4 = .ok (.iload_n 2, 1) := by decide +kernel
theorem dL_law_5 : decode cL_law 5 = .ok (.invokevirtual 85, 3) := by decide +kernel
theorem dL_law_8 : decode cL_law 8 = .ok (.i2l, 1) := by decide +kernel
theorem dL_law_9 : decode cL_law 9 = .ok (.lastore, 1) := by decide +kernel
theorem dL_law_10 : decode cL_law 10 = .ok (.goto 7, 3) := by decide +kernel
theorem dL_law_13 : decode cL_law 13 = .ok (.astore 4, 2) := by decide +kernel
theorem dL_law_15 : decode cL_law 15 = .ok (.iconst 1, 1) := by decide +kernel
theorem dL_law_16 : decode cL_law 16 = .ok (.ireturn, 1) := by decide +kernel
theorem dL_law_17 : decode cL_law 17 = .ok (.iconst 0, 1) := by decide +kernel
theorem dL_law_18 : decode cL_law 18 = .ok (.ireturn, 1) := by decide +kernel
theorem dL_run_0 : decode cL_run 0 = .ok (.aload_n 3, 1) := by decide +kernel
theorem dL_run_1 : decode cL_run 1 = .ok (.iconst 0, 1) := by decide +kernel
theorem dL_run_2 : decode cL_run 2 = .ok (.aload_n 0, 1) := by decide +kernel
theorem dL_run_3 : decode cL_run 3 = .ok (.iload_n 1, 1) := by decide +kernel
theorem dL_run_4 : decode cL_run 4 = .ok (.iload_n 2, 1) := by decide +kernel
theorem dL_run_5 : decode cL_run 5 = .ok (.invokevirtual 88, 3) := by decide +kernel
theorem dL_run_8 : decode cL_run 8 = .ok (.i2l, 1) := by decide +kernel
theorem dL_run_9 : decode cL_run 9 = .ok (.lastore, 1) := by decide +kernel
theorem dL_run_10 : decode cL_run 10 = .ok (.goto 7, 3) := by decide +kernel
theorem dL_run_13 : decode cL_run 13 = .ok (.astore 4, 2) := by decide +kernel
theorem dL_run_15 : decode cL_run 15 = .ok (.iconst 1, 1) := by decide +kernel
theorem dL_run_16 : decode cL_run 16 = .ok (.ireturn, 1) := by decide +kernel
theorem dL_run_17 : decode cL_run 17 = .ok (.iconst 0, 1) := by decide +kernel
theorem dL_run_18 : decode cL_run 18 = .ok (.ireturn, 1) := by decide +kernel
theorem dL_law__0 : decode cL_law_ 0 = .ok (.new 8, 3) := by decide +kernel
theorem dL_law__3 : decode cL_law_ 3 = .ok (.dup, 1) := by decide +kernel
theorem dL_law__4 : decode cL_law_ 4 = .ok (.invokespecial 91, 3) := by decide +kernel
theorem dL_law__7 : decode cL_law_ 7 = .ok (.astore_n 1, 1) := by decide +kernel
theorem dL_law__8 : decode cL_law_ 8 = .ok (.new 92, 3) := by decide +kernel
theorem dL_law__11 : decode cL_law_ 11 = .ok (.dup, 1) := by decide +kernel
theorem dL_law__12 : decode cL_law_ 12 = .ok (.invokespecial 94, 3) := by decide +kernel
theorem dL_law__15 : decode cL_law_ 15 = .ok (.astore_n 2, 1) := by decide +kernel
theorem dL_law__16 : decode cL_law_ 16 = .ok (.iconst 1, 1) := by decide +kernel
theorem dL_law__17 : decode cL_law_ 17 = .ok (.newarray .long, 2) := by decide +kernel
theorem dL_law__19 : decode cL_law_ 19 = .ok (.astore_n 3, 1) := by decide +kernel
theorem dL_law__20 : decode cL_law_ 20 = .ok (.iconst 0, 1) := by decide +kernel
theorem dL_law__21 : decode cL_law_ 21 = .ok (.istore 4, 2) := by decide +kernel
theorem dL_law__23 : decode cL_law_ 23 = .ok (.iload 4, 2) := by decide +kernel
theorem dL_law__25 : decode cL_law_ 25 = .ok (.aload_n 0, 1) := by decide +kernel
theorem dL_law__26 : decode cL_law_ 26 = .ok (.arraylength, 1) := by decide +kernel
theorem dL_law__27 : decode cL_law_ 27 = .ok (.bipush 6, 2) := by decide +kernel
theorem dL_law__29 : decode cL_law_ 29 = .ok (.isub, 1) := by decide +kernel
theorem dL_law__30 : decode cL_law_ 30 = .ok (.if_icmp .gt 1920, 3) := by decide +kernel
theorem dL_law__33 : decode cL_law_ 33 = .ok (.aload_n 0, 1) := by decide +kernel
theorem dL_law__34 : decode cL_law_ 34 = .ok (.iload 4, 2) := by decide +kernel
theorem dL_law__36 : decode cL_law_ 36 = .ok (.iaload, 1) := by decide +kernel
theorem dL_law__37 : decode cL_law_ 37 = .ok (.bipush 31, 2) := by decide +kernel
theorem dL_law__39 : decode cL_law_ 39 = .ok (.iand, 1) := by decide +kernel
theorem dL_law__40 : decode cL_law_ 40 = .ok (.tableswitch 1904 0 31 #[144, 217, 273, 286, 342, 410, 478, 534, 590, 658, 762, 861, 936, 1004, 1072, 1140, 1196, 1209, 1222, 1290, 1346, 1402, 1415, 1471, 1527, 1607, 1663, 1731, 1799, 1812, 1880, 1891], 144) := by decide +kernel
theorem dL_law__184 : decode cL_law_ 184 = .ok (.aload_n 1, 1) := by decide +kernel
theorem dL_law__185 : decode cL_law_ 185 = .ok (.aload_n 0, 1) := by decide +kernel
theorem dL_law__186 : decode cL_law_ 186 = .ok (.iload 4, 2) := by decide +kernel
theorem dL_law__188 : decode cL_law_ 188 = .ok (.iconst 1, 1) := by decide +kernel
theorem dL_law__189 : decode cL_law_ 189 = .ok (.iadd, 1) := by decide +kernel
theorem dL_law__190 : decode cL_law_ 190 = .ok (.iaload, 1) := by decide +kernel
theorem dL_law__191 : decode cL_law_ 191 = .ok (.aload_n 0, 1) := by decide +kernel
theorem dL_law__192 : decode cL_law_ 192 = .ok (.iload 4, 2) := by decide +kernel
theorem dL_law__194 : decode cL_law_ 194 = .ok (.iconst 2, 1) := by decide +kernel
theorem dL_law__195 : decode cL_law_ 195 = .ok (.iadd, 1) := by decide +kernel
theorem dL_law__196 : decode cL_law_ 196 = .ok (.iaload, 1) := by decide +kernel
theorem dL_law__197 : decode cL_law_ 197 = .ok (.aload_n 0, 1) := by decide +kernel
theorem dL_law__198 : decode cL_law_ 198 = .ok (.iload 4, 2) := by decide +kernel
theorem dL_law__200 : decode cL_law_ 200 = .ok (.iconst 3, 1) := by decide +kernel
theorem dL_law__201 : decode cL_law_ 201 = .ok (.iadd, 1) := by decide +kernel
theorem dL_law__202 : decode cL_law_ 202 = .ok (.iaload, 1) := by decide +kernel
theorem dL_law__203 : decode cL_law_ 203 = .ok (.aload_n 0, 1) := by decide +kernel
theorem dL_law__204 : decode cL_law_ 204 = .ok (.iload 4, 2) := by decide +kernel
theorem dL_law__206 : decode cL_law_ 206 = .ok (.iconst 4, 1) := by decide +kernel
theorem dL_law__207 : decode cL_law_ 207 = .ok (.iadd, 1) := by decide +kernel
theorem dL_law__208 : decode cL_law_ 208 = .ok (.iaload, 1) := by decide +kernel
theorem dL_law__209 : decode cL_law_ 209 = .ok (.aload_n 0, 1) := by decide +kernel
theorem dL_law__210 : decode cL_law_ 210 = .ok (.iload 4, 2) := by decide +kernel
theorem dL_law__212 : decode cL_law_ 212 = .ok (.iconst 5, 1) := by decide +kernel
theorem dL_law__213 : decode cL_law_ 213 = .ok (.iadd, 1) := by decide +kernel
theorem dL_law__214 : decode cL_law_ 214 = .ok (.iaload, 1) := by decide +kernel
theorem dL_law__215 : decode cL_law_ 215 = .ok (.invokevirtual 95, 3) := by decide +kernel
theorem dL_law__218 : decode cL_law_ 218 = .ok (.aload_n 2, 1) := by decide +kernel
theorem dL_law__219 : decode cL_law_ 219 = .ok (.aload_n 0, 1) := by decide +kernel
theorem dL_law__220 : decode cL_law_ 220 = .ok (.iload 4, 2) := by decide +kernel
theorem dL_law__222 : decode cL_law_ 222 = .ok (.iconst 1, 1) := by decide +kernel
theorem dL_law__223 : decode cL_law_ 223 = .ok (.iadd, 1) := by decide +kernel
theorem dL_law__224 : decode cL_law_ 224 = .ok (.iaload, 1) := by decide +kernel
theorem dL_law__225 : decode cL_law_ 225 = .ok (.aload_n 0, 1) := by decide +kernel
theorem dL_law__226 : decode cL_law_ 226 = .ok (.iload 4, 2) := by decide +kernel
theorem dL_law__228 : decode cL_law_ 228 = .ok (.iconst 2, 1) := by decide +kernel
theorem dL_law__229 : decode cL_law_ 229 = .ok (.iadd, 1) := by decide +kernel
theorem dL_law__230 : decode cL_law_ 230 = .ok (.iaload, 1) := by decide +kernel
theorem dL_law__231 : decode cL_law_ 231 = .ok (.aload_n 0, 1) := by decide +kernel
theorem dL_law__232 : decode cL_law_ 232 = .ok (.iload 4, 2) := by decide +kernel
theorem dL_law__234 : decode cL_law_ 234 = .ok (.iconst 3, 1) := by decide +kernel
theorem dL_law__235 : decode cL_law_ 235 = .ok (.iadd, 1) := by decide +kernel
theorem dL_law__236 : decode cL_law_ 236 = .ok (.iaload, 1) := by decide +kernel
theorem dL_law__237 : decode cL_law_ 237 = .ok (.aload_n 0, 1) := by decide +kernel
theorem dL_law__238 : decode cL_law_ 238 = .ok (.iload 4, 2) := by decide +kernel
theorem dL_law__240 : decode cL_law_ 240 = .ok (.iconst 4, 1) := by decide +kernel
theorem dL_law__241 : decode cL_law_ 241 = .ok (.iadd, 1) := by decide +kernel
theorem dL_law__242 : decode cL_law_ 242 = .ok (.iaload, 1) := by decide +kernel
theorem dL_law__243 : decode cL_law_ 243 = .ok (.aload_n 0, 1) := by decide +kernel
theorem dL_law__244 : decode cL_law_ 244 = .ok (.iload 4, 2) := by decide +kernel
theorem dL_law__246 : decode cL_law_ 246 = .ok (.iconst 5, 1) := by decide +kernel
theorem dL_law__247 : decode cL_law_ 247 = .ok (.iadd, 1) := by decide +kernel
theorem dL_law__248 : decode cL_law_ 248 = .ok (.iaload, 1) := by decide +kernel
theorem dL_law__249 : decode cL_law_ 249 = .ok (.invokevirtual 98, 3) := by decide +kernel
theorem dL_law__252 : decode cL_law_ 252 = .ok (.if_icmp .eq 1692, 3) := by decide +kernel
theorem dL_law__255 : decode cL_law_ 255 = .ok (.iconst 0, 1) := by decide +kernel
theorem dL_law__256 : decode cL_law_ 256 = .ok (.ireturn, 1) := by decide +kernel
theorem dL_law__257 : decode cL_law_ 257 = .ok (.aload_n 1, 1) := by decide +kernel
theorem dL_law__258 : decode cL_law_ 258 = .ok (.aload_n 0, 1) := by decide +kernel
theorem dL_law__259 : decode cL_law_ 259 = .ok (.iload 4, 2) := by decide +kernel
theorem dL_law__261 : decode cL_law_ 261 = .ok (.iconst 1, 1) := by decide +kernel
theorem dL_law__262 : decode cL_law_ 262 = .ok (.iadd, 1) := by decide +kernel
theorem dL_law__263 : decode cL_law_ 263 = .ok (.iaload, 1) := by decide +kernel
theorem dL_law__264 : decode cL_law_ 264 = .ok (.aload_n 3, 1) := by decide +kernel
theorem dL_law__265 : decode cL_law_ 265 = .ok (.invokestatic 99, 3) := by decide +kernel
theorem dL_law__268 : decode cL_law_ 268 = .ok (.istore 5, 2) := by decide +kernel
theorem dL_law__270 : decode cL_law_ 270 = .ok (.aload_n 2, 1) := by decide +kernel
theorem dL_law__271 : decode cL_law_ 271 = .ok (.aload_n 0, 1) := by decide +kernel
theorem dL_law__272 : decode cL_law_ 272 = .ok (.iload 4, 2) := by decide +kernel
theorem dL_law__274 : decode cL_law_ 274 = .ok (.iconst 1, 1) := by decide +kernel
theorem dL_law__275 : decode cL_law_ 275 = .ok (.iadd, 1) := by decide +kernel
theorem dL_law__276 : decode cL_law_ 276 = .ok (.iaload, 1) := by decide +kernel
theorem dL_law__277 : decode cL_law_ 277 = .ok (.invokevirtual 104, 3) := by decide +kernel
theorem dL_law__280 : decode cL_law_ 280 = .ok (.istore 6, 2) := by decide +kernel
theorem dL_law__282 : decode cL_law_ 282 = .ok (.aload_n 2, 1) := by decide +kernel
theorem dL_law__283 : decode cL_law_ 283 = .ok (.invokevirtual 105, 3) := by decide +kernel
theorem dL_law__286 : decode cL_law_ 286 = .ok (.iload 5, 2) := by decide +kernel
theorem dL_law__288 : decode cL_law_ 288 = .ok (.if_icmp .eq 5, 3) := by decide +kernel
theorem dL_law__291 : decode cL_law_ 291 = .ok (.iconst 0, 1) := by decide +kernel
theorem dL_law__292 : decode cL_law_ 292 = .ok (.ireturn, 1) := by decide +kernel
theorem dL_law__293 : decode cL_law_ 293 = .ok (.iload 5, 2) := by decide +kernel
theorem dL_law__295 : decode cL_law_ 295 = .ok (.ifCond .ne 15, 3) := by decide +kernel
theorem dL_law__298 : decode cL_law_ 298 = .ok (.aload_n 3, 1) := by decide +kernel
theorem dL_law__299 : decode cL_law_ 299 = .ok (.iconst 0, 1) := by decide +kernel
theorem dL_law__300 : decode cL_law_ 300 = .ok (.laload, 1) := by decide +kernel
theorem dL_law__301 : decode cL_law_ 301 = .ok (.iload 6, 2) := by decide +kernel
theorem dL_law__303 : decode cL_law_ 303 = .ok (.i2l, 1) := by decide +kernel
theorem dL_law__304 : decode cL_law_ 304 = .ok (.lcmp, 1) := by decide +kernel
theorem dL_law__305 : decode cL_law_ 305 = .ok (.ifCond .eq 5, 3) := by decide +kernel
theorem dL_law__308 : decode cL_law_ 308 = .ok (.iconst 0, 1) := by decide +kernel
theorem dL_law__309 : decode cL_law_ 309 = .ok (.ireturn, 1) := by decide +kernel
theorem dL_law__310 : decode cL_law_ 310 = .ok (.goto 1634, 3) := by decide +kernel
theorem dL_law__313 : decode cL_law_ 313 = .ok (.aload_n 1, 1) := by decide +kernel
theorem dL_law__314 : decode cL_law_ 314 = .ok (.invokevirtual 109, 3) := by decide +kernel
theorem dL_law__317 : decode cL_law_ 317 = .ok (.aload_n 2, 1) := by decide +kernel
theorem dL_law__318 : decode cL_law_ 318 = .ok (.invokevirtual 112, 3) := by decide +kernel
theorem dL_law__321 : decode cL_law_ 321 = .ok (.if_icmp .eq 1623, 3) := by decide +kernel
theorem dL_law__324 : decode cL_law_ 324 = .ok (.iconst 0, 1) := by decide +kernel
theorem dL_law__325 : decode cL_law_ 325 = .ok (.ireturn, 1) := by decide +kernel
theorem dL_law__326 : decode cL_law_ 326 = .ok (.aload_n 1, 1) := by decide +kernel
theorem dL_law__327 : decode cL_law_ 327 = .ok (.aload_n 0, 1) := by decide +kernel
theorem dL_law__328 : decode cL_law_ 328 = .ok (.iload 4, 2) := by decide +kernel
theorem dL_law__330 : decode cL_law_ 330 = .ok (.iconst 1, 1) := by decide +kernel
theorem dL_law__331 : decode cL_law_ 331 = .ok (.iadd, 1) := by decide +kernel
theorem dL_law__332 : decode cL_law_ 332 = .ok (.iaload, 1) := by decide +kernel
theorem dL_law__333 : decode cL_law_ 333 = .ok (.aload_n 3, 1) := by decide +kernel
theorem dL_law__334 : decode cL_law_ 334 = .ok (.invokestatic 113, 3) := by decide +kernel
theorem dL_law__337 : decode cL_law_ 337 = .ok (.istore 5, 2) := by decide +kernel
theorem dL_law__339 : decode cL_law_ 339 = .ok (.aload_n 2, 1) := by decide +kernel
theorem dL_law__340 : decode cL_law_ 340 = .ok (.aload_n 0, 1) := by decide +kernel
theorem dL_law__341 : decode cL_law_ 341 = .ok (.iload 4, 2) := by decide +kernel
theorem dL_law__343 : decode cL_law_ 343 = .ok (.iconst 1, 1) := by decide +kernel
theorem dL_law__344 : decode cL_law_ 344 = .ok (.iadd, 1) := by decide +kernel
theorem dL_law__345 : decode cL_law_ 345 = .ok (.iaload, 1) := by decide +kernel
theorem dL_law__346 : decode cL_law_ 346 = .ok (.invokevirtual 115, 3) := by decide +kernel
theorem dL_law__349 : decode cL_law_ 349 = .ok (.istore 6, 2) := by decide +kernel
theorem dL_law__351 : decode cL_law_ 351 = .ok (.aload_n 2, 1) := by decide +kernel
theorem dL_law__352 : decode cL_law_ 352 = .ok (.invokevirtual 105, 3) := by decide +kernel
theorem dL_law__355 : decode cL_law_ 355 = .ok (.iload 5, 2) := by decide +kernel
theorem dL_law__357 : decode cL_law_ 357 = .ok (.if_icmp .eq 5, 3) := by decide +kernel
theorem dL_law__360 : decode cL_law_ 360 = .ok (.iconst 0, 1) := by decide +kernel
theorem dL_law__361 : decode cL_law_ 361 = .ok (.ireturn, 1) := by decide +kernel
theorem dL_law__362 : decode cL_law_ 362 = .ok (.iload 5, 2) := by decide +kernel
theorem dL_law__364 : decode cL_law_ 364 = .ok (.ifCond .ne 15, 3) := by decide +kernel
theorem dL_law__367 : decode cL_law_ 367 = .ok (.aload_n 3, 1) := by decide +kernel
theorem dL_law__368 : decode cL_law_ 368 = .ok (.iconst 0, 1) := by decide +kernel
theorem dL_law__369 : decode cL_law_ 369 = .ok (.laload, 1) := by decide +kernel
theorem dL_law__370 : decode cL_law_ 370 = .ok (.iload 6, 2) := by decide +kernel
theorem dL_law__372 : decode cL_law_ 372 = .ok (.i2l, 1) := by decide +kernel
theorem dL_law__373 : decode cL_law_ 373 = .ok (.lcmp, 1) := by decide +kernel
theorem dL_law__374 : decode cL_law_ 374 = .ok (.ifCond .eq 5, 3) := by decide +kernel
theorem dL_law__377 : decode cL_law_ 377 = .ok (.iconst 0, 1) := by decide +kernel
theorem dL_law__378 : decode cL_law_ 378 = .ok (.ireturn, 1) := by decide +kernel
theorem dL_law__379 : decode cL_law_ 379 = .ok (.goto 1565, 3) := by decide +kernel
theorem dL_law__382 : decode cL_law_ 382 = .ok (.aload_n 1, 1) := by decide +kernel
theorem dL_law__383 : decode cL_law_ 383 = .ok (.aload_n 0, 1) := by decide +kernel
theorem dL_law__384 : decode cL_law_ 384 = .ok (.iload 4, 2) := by decide +kernel
theorem dL_law__386 : decode cL_law_ 386 = .ok (.iconst 1, 1) := by decide +kernel
theorem dL_law__387 : decode cL_law_ 387 = .ok (.iadd, 1) := by decide +kernel
theorem dL_law__388 : decode cL_law_ 388 = .ok (.iaload, 1) := by decide +kernel
theorem dL_law__389 : decode cL_law_ 389 = .ok (.aload_n 0, 1) := by decide +kernel
theorem dL_law__390 : decode cL_law_ 390 = .ok (.iload 4, 2) := by decide +kernel
theorem dL_law__392 : decode cL_law_ 392 = .ok (.iconst 2, 1) := by decide +kernel
theorem dL_law__393 : decode cL_law_ 393 = .ok (.iadd, 1) := by decide +kernel
theorem dL_law__394 : decode cL_law_ 394 = .ok (.iaload, 1) := by decide +kernel
theorem dL_law__395 : decode cL_law_ 395 = .ok (.aload_n 3, 1) := by decide +kernel
theorem dL_law__396 : decode cL_law_ 396 = .ok (.invokestatic 116, 3) := by decide +kernel
theorem dL_law__399 : decode cL_law_ 399 = .ok (.istore 5, 2) := by decide +kernel
theorem dL_law__401 : decode cL_law_ 401 = .ok (.aload_n 2, 1) := by decide +kernel
theorem dL_law__402 : decode cL_law_ 402 = .ok (.aload_n 0, 1) := by decide +kernel
theorem dL_law__403 : decode cL_law_ 403 = .ok (.iload 4, 2) := by decide +kernel
theorem dL_law__405 : decode cL_law_ 405 = .ok (.iconst 1, 1) := by decide +kernel
theorem dL_law__406 : decode cL_law_ 406 = .ok (.iadd, 1) := by decide +kernel
theorem dL_law__407 : decode cL_law_ 407 = .ok (.iaload, 1) := by decide +kernel
theorem dL_law__408 : decode cL_law_ 408 = .ok (.aload_n 0, 1) := by decide +kernel
theorem dL_law__409 : decode cL_law_ 409 = .ok (.iload 4, 2) := by decide +kernel
theorem dL_law__411 : decode cL_law_ 411 = .ok (.iconst 2, 1) := by decide +kernel
theorem dL_law__412 : decode cL_law_ 412 = .ok (.iadd, 1) := by decide +kernel
theorem dL_law__413 : decode cL_law_ 413 = .ok (.iaload, 1) := by decide +kernel
theorem dL_law__414 : decode cL_law_ 414 = .ok (.invokevirtual 119, 3) := by decide +kernel
theorem dL_law__417 : decode cL_law_ 417 = .ok (.istore 6, 2) := by decide +kernel
theorem dL_law__419 : decode cL_law_ 419 = .ok (.aload_n 2, 1) := by decide +kernel
theorem dL_law__420 : decode cL_law_ 420 = .ok (.invokevirtual 105, 3) := by decide +kernel
theorem dL_law__423 : decode cL_law_ 423 = .ok (.iload 5, 2) := by decide +kernel
theorem dL_law__425 : decode cL_law_ 425 = .ok (.if_icmp .eq 5, 3) := by decide +kernel
theorem dL_law__428 : decode cL_law_ 428 = .ok (.iconst 0, 1) := by decide +kernel
theorem dL_law__429 : decode cL_law_ 429 = .ok (.ireturn, 1) := by decide +kernel
theorem dL_law__430 : decode cL_law_ 430 = .ok (.iload 5, 2) := by decide +kernel
theorem dL_law__432 : decode cL_law_ 432 = .ok (.ifCond .ne 15, 3) := by decide +kernel
theorem dL_law__435 : decode cL_law_ 435 = .ok (.aload_n 3, 1) := by decide +kernel
theorem dL_law__436 : decode cL_law_ 436 = .ok (.iconst 0, 1) := by decide +kernel
theorem dL_law__437 : decode cL_law_ 437 = .ok (.laload, 1) := by decide +kernel
theorem dL_law__438 : decode cL_law_ 438 = .ok (.iload 6, 2) := by decide +kernel
theorem dL_law__440 : decode cL_law_ 440 = .ok (.i2l, 1) := by decide +kernel
theorem dL_law__441 : decode cL_law_ 441 = .ok (.lcmp, 1) := by decide +kernel
theorem dL_law__442 : decode cL_law_ 442 = .ok (.ifCond .eq 5, 3) := by decide +kernel
theorem dL_law__445 : decode cL_law_ 445 = .ok (.iconst 0, 1) := by decide +kernel
theorem dL_law__446 : decode cL_law_ 446 = .ok (.ireturn, 1) := by decide +kernel
theorem dL_law__447 : decode cL_law_ 447 = .ok (.goto 1497, 3) := by decide +kernel
theorem dL_law__450 : decode cL_law_ 450 = .ok (.aload_n 1, 1) := by decide +kernel
theorem dL_law__451 : decode cL_law_ 451 = .ok (.aload_n 0, 1) := by decide +kernel
theorem dL_law__452 : decode cL_law_ 452 = .ok (.iload 4, 2) := by decide +kernel
theorem dL_law__454 : decode cL_law_ 454 = .ok (.iconst 1, 1) := by decide +kernel
theorem dL_law__455 : decode cL_law_ 455 = .ok (.iadd, 1) := by decide +kernel
theorem dL_law__456 : decode cL_law_ 456 = .ok (.iaload, 1) := by decide +kernel
theorem dL_law__457 : decode cL_law_ 457 = .ok (.aload_n 0, 1) := by decide +kernel
theorem dL_law__458 : decode cL_law_ 458 = .ok (.iload 4, 2) := by decide +kernel
theorem dL_law__460 : decode cL_law_ 460 = .ok (.iconst 2, 1) := by decide +kernel
theorem dL_law__461 : decode cL_law_ 461 = .ok (.iadd, 1) := by decide +kernel
theorem dL_law__462 : decode cL_law_ 462 = .ok (.iaload, 1) := by decide +kernel
theorem dL_law__463 : decode cL_law_ 463 = .ok (.aload_n 3, 1) := by decide +kernel
theorem dL_law__464 : decode cL_law_ 464 = .ok (.invokestatic 120, 3) := by decide +kernel
theorem dL_law__467 : decode cL_law_ 467 = .ok (.istore 5, 2) := by decide +kernel
theorem dL_law__469 : decode cL_law_ 469 = .ok (.aload_n 2, 1) := by decide +kernel
theorem dL_law__470 : decode cL_law_ 470 = .ok (.aload_n 0, 1) := by decide +kernel
theorem dL_law__471 : decode cL_law_ 471 = .ok (.iload 4, 2) := by decide +kernel
theorem dL_law__473 : decode cL_law_ 473 = .ok (.iconst 1, 1) := by decide +kernel
theorem dL_law__474 : decode cL_law_ 474 = .ok (.iadd, 1) := by decide +kernel
theorem dL_law__475 : decode cL_law_ 475 = .ok (.iaload, 1) := by decide +kernel
theorem dL_law__476 : decode cL_law_ 476 = .ok (.aload_n 0, 1) := by decide +kernel
theorem dL_law__477 : decode cL_law_ 477 = .ok (.iload 4, 2) := by decide +kernel
theorem dL_law__479 : decode cL_law_ 479 = .ok (.iconst 2, 1) := by decide +kernel
theorem dL_law__480 : decode cL_law_ 480 = .ok (.iadd, 1) := by decide +kernel
theorem dL_law__481 : decode cL_law_ 481 = .ok (.iaload, 1) := by decide +kernel
theorem dL_law__482 : decode cL_law_ 482 = .ok (.invokevirtual 122, 3) := by decide +kernel
theorem dL_law__485 : decode cL_law_ 485 = .ok (.istore 6, 2) := by decide +kernel
theorem dL_law__487 : decode cL_law_ 487 = .ok (.aload_n 2, 1) := by decide +kernel
theorem dL_law__488 : decode cL_law_ 488 = .ok (.invokevirtual 105, 3) := by decide +kernel
theorem dL_law__491 : decode cL_law_ 491 = .ok (.iload 5, 2) := by decide +kernel
theorem dL_law__493 : decode cL_law_ 493 = .ok (.if_icmp .eq 5, 3) := by decide +kernel
theorem dL_law__496 : decode cL_law_ 496 = .ok (.iconst 0, 1) := by decide +kernel
theorem dL_law__497 : decode cL_law_ 497 = .ok (.ireturn, 1) := by decide +kernel
theorem dL_law__498 : decode cL_law_ 498 = .ok (.iload 5, 2) := by decide +kernel
theorem dL_law__500 : decode cL_law_ 500 = .ok (.ifCond .ne 15, 3) := by decide +kernel
theorem dL_law__503 : decode cL_law_ 503 = .ok (.aload_n 3, 1) := by decide +kernel
theorem dL_law__504 : decode cL_law_ 504 = .ok (.iconst 0, 1) := by decide +kernel
theorem dL_law__505 : decode cL_law_ 505 = .ok (.laload, 1) := by decide +kernel
theorem dL_law__506 : decode cL_law_ 506 = .ok (.iload 6, 2) := by decide +kernel
theorem dL_law__508 : decode cL_law_ 508 = .ok (.i2l, 1) := by decide +kernel
theorem dL_law__509 : decode cL_law_ 509 = .ok (.lcmp, 1) := by decide +kernel
theorem dL_law__510 : decode cL_law_ 510 = .ok (.ifCond .eq 5, 3) := by decide +kernel
theorem dL_law__513 : decode cL_law_ 513 = .ok (.iconst 0, 1) := by decide +kernel
theorem dL_law__514 : decode cL_law_ 514 = .ok (.ireturn, 1) := by decide +kernel
theorem dL_law__515 : decode cL_law_ 515 = .ok (.goto 1429, 3) := by decide +kernel
theorem dL_law__518 : decode cL_law_ 518 = .ok (.aload_n 1, 1) := by decide +kernel
theorem dL_law__519 : decode cL_law_ 519 = .ok (.aload_n 0, 1) := by decide +kernel
theorem dL_law__520 : decode cL_law_ 520 = .ok (.iload 4, 2) := by decide +kernel
theorem dL_law__522 : decode cL_law_ 522 = .ok (.iconst 1, 1) := by decide +kernel
theorem dL_law__523 : decode cL_law_ 523 = .ok (.iadd, 1) := by decide +kernel
theorem dL_law__524 : decode cL_law_ 524 = .ok (.iaload, 1) := by decide +kernel
theorem dL_law__525 : decode cL_law_ 525 = .ok (.aload_n 3, 1) := by decide +kernel
theorem dL_law__526 : decode cL_law_ 526 = .ok (.invokestatic 123, 3) := by decide +kernel
theorem dL_law__529 : decode cL_law_ 529 = .ok (.istore 5, 2) := by decide +kernel
theorem dL_law__531 : decode cL_law_ 531 = .ok (.aload_n 2, 1) := by decide +kernel
theorem dL_law__532 : decode cL_law_ 532 = .ok (.aload_n 0, 1) := by decide +kernel
theorem dL_law__533 : decode cL_law_ 533 = .ok (.iload 4, 2) := by decide +kernel
theorem dL_law__535 : decode cL_law_ 535 = .ok (.iconst 1, 1) := by decide +kernel
theorem dL_law__536 : decode cL_law_ 536 = .ok (.iadd, 1) := by decide +kernel
theorem dL_law__537 : decode cL_law_ 537 = .ok (.iaload, 1) := by decide +kernel
theorem dL_law__538 : decode cL_law_ 538 = .ok (.invokevirtual 125, 3) := by decide +kernel
theorem dL_law__541 : decode cL_law_ 541 = .ok (.istore 6, 2) := by decide +kernel
theorem dL_law__543 : decode cL_law_ 543 = .ok (.aload_n 2, 1) := by decide +kernel
theorem dL_law__544 : decode cL_law_ 544 = .ok (.invokevirtual 105, 3) := by decide +kernel
theorem dL_law__547 : decode cL_law_ 547 = .ok (.iload 5, 2) := by decide +kernel
theorem dL_law__549 : decode cL_law_ 549 = .ok (.if_icmp .eq 5, 3) := by decide +kernel
theorem dL_law__552 : decode cL_law_ 552 = .ok (.iconst 0, 1) := by decide +kernel
theorem dL_law__553 : decode cL_law_ 553 = .ok (.ireturn, 1) := by decide +kernel
theorem dL_law__554 : decode cL_law_ 554 = .ok (.iload 5, 2) := by decide +kernel
theorem dL_law__556 : decode cL_law_ 556 = .ok (.ifCond .ne 15, 3) := by decide +kernel
theorem dL_law__559 : decode cL_law_ 559 = .ok (.aload_n 3, 1) := by decide +kernel
theorem dL_law__560 : decode cL_law_ 560 = .ok (.iconst 0, 1) := by decide +kernel
theorem dL_law__561 : decode cL_law_ 561 = .ok (.laload, 1) := by decide +kernel
theorem dL_law__562 : decode cL_law_ 562 = .ok (.iload 6, 2) := by decide +kernel
theorem dL_law__564 : decode cL_law_ 564 = .ok (.i2l, 1) := by decide +kernel
theorem dL_law__565 : decode cL_law_ 565 = .ok (.lcmp, 1) := by decide +kernel
theorem dL_law__566 : decode cL_law_ 566 = .ok (.ifCond .eq 5, 3) := by decide +kernel
theorem dL_law__569 : decode cL_law_ 569 = .ok (.iconst 0, 1) := by decide +kernel
theorem dL_law__570 : decode cL_law_ 570 = .ok (.ireturn, 1) := by decide +kernel
theorem dL_law__571 : decode cL_law_ 571 = .ok (.goto 1373, 3) := by decide +kernel
theorem dL_law__574 : decode cL_law_ 574 = .ok (.aload_n 1, 1) := by decide +kernel
theorem dL_law__575 : decode cL_law_ 575 = .ok (.aload_n 0, 1) := by decide +kernel
theorem dL_law__576 : decode cL_law_ 576 = .ok (.iload 4, 2) := by decide +kernel
theorem dL_law__578 : decode cL_law_ 578 = .ok (.iconst 1, 1) := by decide +kernel
theorem dL_law__579 : decode cL_law_ 579 = .ok (.iadd, 1) := by decide +kernel
theorem dL_law__580 : decode cL_law_ 580 = .ok (.iaload, 1) := by decide +kernel
theorem dL_law__581 : decode cL_law_ 581 = .ok (.aload_n 3, 1) := by decide +kernel
theorem dL_law__582 : decode cL_law_ 582 = .ok (.invokestatic 126, 3) := by decide +kernel
theorem dL_law__585 : decode cL_law_ 585 = .ok (.istore 5, 2) := by decide +kernel
theorem dL_law__587 : decode cL_law_ 587 = .ok (.aload_n 2, 1) := by decide +kernel
theorem dL_law__588 : decode cL_law_ 588 = .ok (.aload_n 0, 1) := by decide +kernel
theorem dL_law__589 : decode cL_law_ 589 = .ok (.iload 4, 2) := by decide +kernel
theorem dL_law__591 : decode cL_law_ 591 = .ok (.iconst 1, 1) := by decide +kernel
theorem dL_law__592 : decode cL_law_ 592 = .ok (.iadd, 1) := by decide +kernel
theorem dL_law__593 : decode cL_law_ 593 = .ok (.iaload, 1) := by decide +kernel
theorem dL_law__594 : decode cL_law_ 594 = .ok (.invokevirtual 128, 3) := by decide +kernel
theorem dL_law__597 : decode cL_law_ 597 = .ok (.istore 6, 2) := by decide +kernel
theorem dL_law__599 : decode cL_law_ 599 = .ok (.aload_n 2, 1) := by decide +kernel
theorem dL_law__600 : decode cL_law_ 600 = .ok (.invokevirtual 105, 3) := by decide +kernel
theorem dL_law__603 : decode cL_law_ 603 = .ok (.iload 5, 2) := by decide +kernel
theorem dL_law__605 : decode cL_law_ 605 = .ok (.if_icmp .eq 5, 3) := by decide +kernel
theorem dL_law__608 : decode cL_law_ 608 = .ok (.iconst 0, 1) := by decide +kernel
theorem dL_law__609 : decode cL_law_ 609 = .ok (.ireturn, 1) := by decide +kernel
theorem dL_law__610 : decode cL_law_ 610 = .ok (.iload 5, 2) := by decide +kernel
theorem dL_law__612 : decode cL_law_ 612 = .ok (.ifCond .ne 15, 3) := by decide +kernel
theorem dL_law__615 : decode cL_law_ 615 = .ok (.aload_n 3, 1) := by decide +kernel
theorem dL_law__616 : decode cL_law_ 616 = .ok (.iconst 0, 1) := by decide +kernel
theorem dL_law__617 : decode cL_law_ 617 = .ok (.laload, 1) := by decide +kernel
theorem dL_law__618 : decode cL_law_ 618 = .ok (.iload 6, 2) := by decide +kernel
theorem dL_law__620 : decode cL_law_ 620 = .ok (.i2l, 1) := by decide +kernel
theorem dL_law__621 : decode cL_law_ 621 = .ok (.lcmp, 1) := by decide +kernel
theorem dL_law__622 : decode cL_law_ 622 = .ok (.ifCond .eq 5, 3) := by decide +kernel
theorem dL_law__625 : decode cL_law_ 625 = .ok (.iconst 0, 1) := by decide +kernel
theorem dL_law__626 : decode cL_law_ 626 = .ok (.ireturn, 1) := by decide +kernel
theorem dL_law__627 : decode cL_law_ 627 = .ok (.goto 1317, 3) := by decide +kernel
theorem dL_law__630 : decode cL_law_ 630 = .ok (.aload_n 1, 1) := by decide +kernel
theorem dL_law__631 : decode cL_law_ 631 = .ok (.aload_n 0, 1) := by decide +kernel
theorem dL_law__632 : decode cL_law_ 632 = .ok (.iload 4, 2) := by decide +kernel
theorem dL_law__634 : decode cL_law_ 634 = .ok (.iconst 1, 1) := by decide +kernel
theorem dL_law__635 : decode cL_law_ 635 = .ok (.iadd, 1) := by decide +kernel
theorem dL_law__636 : decode cL_law_ 636 = .ok (.iaload, 1) := by decide +kernel
theorem dL_law__637 : decode cL_law_ 637 = .ok (.aload_n 0, 1) := by decide +kernel
theorem dL_law__638 : decode cL_law_ 638 = .ok (.iload 4, 2) := by decide +kernel
theorem dL_law__640 : decode cL_law_ 640 = .ok (.iconst 2, 1) := by decide +kernel
theorem dL_law__641 : decode cL_law_ 641 = .ok (.iadd, 1) := by decide +kernel
theorem dL_law__642 : decode cL_law_ 642 = .ok (.iaload, 1) := by decide +kernel
theorem dL_law__643 : decode cL_law_ 643 = .ok (.aload_n 3, 1) := by decide +kernel
theorem dL_law__644 : decode cL_law_ 644 = .ok (.invokestatic 129, 3) := by decide +kernel
theorem dL_law__647 : decode cL_law_ 647 = .ok (.istore 5, 2) := by decide +kernel
theorem dL_law__649 : decode cL_law_ 649 = .ok (.aload_n 2, 1) := by decide +kernel
theorem dL_law__650 : decode cL_law_ 650 = .ok (.aload_n 0, 1) := by decide +kernel
theorem dL_law__651 : decode cL_law_ 651 = .ok (.iload 4, 2) := by decide +kernel
theorem dL_law__653 : decode cL_law_ 653 = .ok (.iconst 1, 1) := by decide +kernel
theorem dL_law__654 : decode cL_law_ 654 = .ok (.iadd, 1) := by decide +kernel
theorem dL_law__655 : decode cL_law_ 655 = .ok (.iaload, 1) := by decide +kernel
theorem dL_law__656 : decode cL_law_ 656 = .ok (.aload_n 0, 1) := by decide +kernel
theorem dL_law__657 : decode cL_law_ 657 = .ok (.iload 4, 2) := by decide +kernel
theorem dL_law__659 : decode cL_law_ 659 = .ok (.iconst 2, 1) := by decide +kernel
theorem dL_law__660 : decode cL_law_ 660 = .ok (.iadd, 1) := by decide +kernel
theorem dL_law__661 : decode cL_law_ 661 = .ok (.iaload, 1) := by decide +kernel
theorem dL_law__662 : decode cL_law_ 662 = .ok (.invokevirtual 131, 3) := by decide +kernel
theorem dL_law__665 : decode cL_law_ 665 = .ok (.istore 6, 2) := by decide +kernel
theorem dL_law__667 : decode cL_law_ 667 = .ok (.aload_n 2, 1) := by decide +kernel
theorem dL_law__668 : decode cL_law_ 668 = .ok (.invokevirtual 105, 3) := by decide +kernel
theorem dL_law__671 : decode cL_law_ 671 = .ok (.iload 5, 2) := by decide +kernel
theorem dL_law__673 : decode cL_law_ 673 = .ok (.if_icmp .eq 5, 3) := by decide +kernel
theorem dL_law__676 : decode cL_law_ 676 = .ok (.iconst 0, 1) := by decide +kernel
theorem dL_law__677 : decode cL_law_ 677 = .ok (.ireturn, 1) := by decide +kernel
theorem dL_law__678 : decode cL_law_ 678 = .ok (.iload 5, 2) := by decide +kernel
theorem dL_law__680 : decode cL_law_ 680 = .ok (.ifCond .ne 15, 3) := by decide +kernel
theorem dL_law__683 : decode cL_law_ 683 = .ok (.aload_n 3, 1) := by decide +kernel
theorem dL_law__684 : decode cL_law_ 684 = .ok (.iconst 0, 1) := by decide +kernel
theorem dL_law__685 : decode cL_law_ 685 = .ok (.laload, 1) := by decide +kernel
theorem dL_law__686 : decode cL_law_ 686 = .ok (.iload 6, 2) := by decide +kernel
theorem dL_law__688 : decode cL_law_ 688 = .ok (.i2l, 1) := by decide +kernel
theorem dL_law__689 : decode cL_law_ 689 = .ok (.lcmp, 1) := by decide +kernel
theorem dL_law__690 : decode cL_law_ 690 = .ok (.ifCond .eq 5, 3) := by decide +kernel
theorem dL_law__693 : decode cL_law_ 693 = .ok (.iconst 0, 1) := by decide +kernel
theorem dL_law__694 : decode cL_law_ 694 = .ok (.ireturn, 1) := by decide +kernel
theorem dL_law__695 : decode cL_law_ 695 = .ok (.goto 1249, 3) := by decide +kernel
theorem dL_law__698 : decode cL_law_ 698 = .ok (.aload_n 1, 1) := by decide +kernel
theorem dL_law__699 : decode cL_law_ 699 = .ok (.aload_n 0, 1) := by decide +kernel
theorem dL_law__700 : decode cL_law_ 700 = .ok (.iload 4, 2) := by decide +kernel
theorem dL_law__702 : decode cL_law_ 702 = .ok (.iconst 1, 1) := by decide +kernel
theorem dL_law__703 : decode cL_law_ 703 = .ok (.iadd, 1) := by decide +kernel
theorem dL_law__704 : decode cL_law_ 704 = .ok (.iaload, 1) := by decide +kernel
theorem dL_law__705 : decode cL_law_ 705 = .ok (.aload_n 0, 1) := by decide +kernel
theorem dL_law__706 : decode cL_law_ 706 = .ok (.iload 4, 2) := by decide +kernel
theorem dL_law__708 : decode cL_law_ 708 = .ok (.iconst 2, 1) := by decide +kernel
theorem dL_law__709 : decode cL_law_ 709 = .ok (.iadd, 1) := by decide +kernel
theorem dL_law__710 : decode cL_law_ 710 = .ok (.iaload, 1) := by decide +kernel
theorem dL_law__711 : decode cL_law_ 711 = .ok (.aload_n 0, 1) := by decide +kernel
theorem dL_law__712 : decode cL_law_ 712 = .ok (.iload 4, 2) := by decide +kernel
theorem dL_law__714 : decode cL_law_ 714 = .ok (.iconst 3, 1) := by decide +kernel
theorem dL_law__715 : decode cL_law_ 715 = .ok (.iadd, 1) := by decide +kernel
theorem dL_law__716 : decode cL_law_ 716 = .ok (.iaload, 1) := by decide +kernel
theorem dL_law__717 : decode cL_law_ 717 = .ok (.aload_n 0, 1) := by decide +kernel
theorem dL_law__718 : decode cL_law_ 718 = .ok (.iload 4, 2) := by decide +kernel
theorem dL_law__720 : decode cL_law_ 720 = .ok (.iconst 4, 1) := by decide +kernel
theorem dL_law__721 : decode cL_law_ 721 = .ok (.iadd, 1) := by decide +kernel
theorem dL_law__722 : decode cL_law_ 722 = .ok (.iaload, 1) := by decide +kernel
theorem dL_law__723 : decode cL_law_ 723 = .ok (.aload_n 0, 1) := by decide +kernel
theorem dL_law__724 : decode cL_law_ 724 = .ok (.iload 4, 2) := by decide +kernel
theorem dL_law__726 : decode cL_law_ 726 = .ok (.iconst 5, 1) := by decide +kernel
theorem dL_law__727 : decode cL_law_ 727 = .ok (.iadd, 1) := by decide +kernel
theorem dL_law__728 : decode cL_law_ 728 = .ok (.iaload, 1) := by decide +kernel
theorem dL_law__729 : decode cL_law_ 729 = .ok (.aload_n 3, 1) := by decide +kernel
theorem dL_law__730 : decode cL_law_ 730 = .ok (.invokestatic 132, 3) := by decide +kernel
theorem dL_law__733 : decode cL_law_ 733 = .ok (.istore 5, 2) := by decide +kernel
theorem dL_law__735 : decode cL_law_ 735 = .ok (.aload_n 2, 1) := by decide +kernel
theorem dL_law__736 : decode cL_law_ 736 = .ok (.aload_n 0, 1) := by decide +kernel
theorem dL_law__737 : decode cL_law_ 737 = .ok (.iload 4, 2) := by decide +kernel
theorem dL_law__739 : decode cL_law_ 739 = .ok (.iconst 1, 1) := by decide +kernel
theorem dL_law__740 : decode cL_law_ 740 = .ok (.iadd, 1) := by decide +kernel
theorem dL_law__741 : decode cL_law_ 741 = .ok (.iaload, 1) := by decide +kernel
theorem dL_law__742 : decode cL_law_ 742 = .ok (.aload_n 0, 1) := by decide +kernel
theorem dL_law__743 : decode cL_law_ 743 = .ok (.iload 4, 2) := by decide +kernel
theorem dL_law__745 : decode cL_law_ 745 = .ok (.iconst 2, 1) := by decide +kernel
theorem dL_law__746 : decode cL_law_ 746 = .ok (.iadd, 1) := by decide +kernel
theorem dL_law__747 : decode cL_law_ 747 = .ok (.iaload, 1) := by decide +kernel
theorem dL_law__748 : decode cL_law_ 748 = .ok (.aload_n 0, 1) := by decide +kernel
theorem dL_law__749 : decode cL_law_ 749 = .ok (.iload 4, 2) := by decide +kernel
theorem dL_law__751 : decode cL_law_ 751 = .ok (.iconst 3, 1) := by decide +kernel
theorem dL_law__752 : decode cL_law_ 752 = .ok (.iadd, 1) := by decide +kernel
theorem dL_law__753 : decode cL_law_ 753 = .ok (.iaload, 1) := by decide +kernel
theorem dL_law__754 : decode cL_law_ 754 = .ok (.aload_n 0, 1) := by decide +kernel
theorem dL_law__755 : decode cL_law_ 755 = .ok (.iload 4, 2) := by decide +kernel
theorem dL_law__757 : decode cL_law_ 757 = .ok (.iconst 4, 1) := by decide +kernel
theorem dL_law__758 : decode cL_law_ 758 = .ok (.iadd, 1) := by decide +kernel
theorem dL_law__759 : decode cL_law_ 759 = .ok (.iaload, 1) := by decide +kernel
theorem dL_law__760 : decode cL_law_ 760 = .ok (.aload_n 0, 1) := by decide +kernel
theorem dL_law__761 : decode cL_law_ 761 = .ok (.iload 4, 2) := by decide +kernel
theorem dL_law__763 : decode cL_law_ 763 = .ok (.iconst 5, 1) := by decide +kernel
theorem dL_law__764 : decode cL_law_ 764 = .ok (.iadd, 1) := by decide +kernel
theorem dL_law__765 : decode cL_law_ 765 = .ok (.iaload, 1) := by decide +kernel
theorem dL_law__766 : decode cL_law_ 766 = .ok (.invokevirtual 135, 3) := by decide +kernel
theorem dL_law__769 : decode cL_law_ 769 = .ok (.istore 6, 2) := by decide +kernel
theorem dL_law__771 : decode cL_law_ 771 = .ok (.aload_n 2, 1) := by decide +kernel
theorem dL_law__772 : decode cL_law_ 772 = .ok (.invokevirtual 105, 3) := by decide +kernel
theorem dL_law__775 : decode cL_law_ 775 = .ok (.iload 5, 2) := by decide +kernel
theorem dL_law__777 : decode cL_law_ 777 = .ok (.if_icmp .eq 5, 3) := by decide +kernel
theorem dL_law__780 : decode cL_law_ 780 = .ok (.iconst 0, 1) := by decide +kernel
theorem dL_law__781 : decode cL_law_ 781 = .ok (.ireturn, 1) := by decide +kernel
theorem dL_law__782 : decode cL_law_ 782 = .ok (.iload 5, 2) := by decide +kernel
theorem dL_law__784 : decode cL_law_ 784 = .ok (.ifCond .ne 15, 3) := by decide +kernel
theorem dL_law__787 : decode cL_law_ 787 = .ok (.aload_n 3, 1) := by decide +kernel
theorem dL_law__788 : decode cL_law_ 788 = .ok (.iconst 0, 1) := by decide +kernel
theorem dL_law__789 : decode cL_law_ 789 = .ok (.laload, 1) := by decide +kernel
theorem dL_law__790 : decode cL_law_ 790 = .ok (.iload 6, 2) := by decide +kernel
theorem dL_law__792 : decode cL_law_ 792 = .ok (.i2l, 1) := by decide +kernel
theorem dL_law__793 : decode cL_law_ 793 = .ok (.lcmp, 1) := by decide +kernel
theorem dL_law__794 : decode cL_law_ 794 = .ok (.ifCond .eq 5, 3) := by decide +kernel
theorem dL_law__797 : decode cL_law_ 797 = .ok (.iconst 0, 1) := by decide +kernel
theorem dL_law__798 : decode cL_law_ 798 = .ok (.ireturn, 1) := by decide +kernel
theorem dL_law__799 : decode cL_law_ 799 = .ok (.goto 1145, 3) := by decide +kernel
theorem dL_law__802 : decode cL_law_ 802 = .ok (.aload_n 1, 1) := by decide +kernel
theorem dL_law__803 : decode cL_law_ 803 = .ok (.aload_n 0, 1) := by decide +kernel
theorem dL_law__804 : decode cL_law_ 804 = .ok (.iload 4, 2) := by decide +kernel
theorem dL_law__806 : decode cL_law_ 806 = .ok (.iconst 1, 1) := by decide +kernel
theorem dL_law__807 : decode cL_law_ 807 = .ok (.iadd, 1) := by decide +kernel
theorem dL_law__808 : decode cL_law_ 808 = .ok (.iaload, 1) := by decide +kernel
theorem dL_law__809 : decode cL_law_ 809 = .ok (.aload_n 0, 1) := by decide +kernel
theorem dL_law__810 : decode cL_law_ 810 = .ok (.iload 4, 2) := by decide +kernel
theorem dL_law__812 : decode cL_law_ 812 = .ok (.iconst 2, 1) := by decide +kernel
theorem dL_law__813 : decode cL_law_ 813 = .ok (.iadd, 1) := by decide +kernel
theorem dL_law__814 : decode cL_law_ 814 = .ok (.iaload, 1) := by decide +kernel
theorem dL_law__815 : decode cL_law_ 815 = .ok (.aload_n 0, 1) := by decide +kernel
theorem dL_law__816 : decode cL_law_ 816 = .ok (.iload 4, 2) := by decide +kernel
theorem dL_law__818 : decode cL_law_ 818 = .ok (.iconst 3, 1) := by decide +kernel
theorem dL_law__819 : decode cL_law_ 819 = .ok (.iadd, 1) := by decide +kernel
theorem dL_law__820 : decode cL_law_ 820 = .ok (.iaload, 1) := by decide +kernel
theorem dL_law__821 : decode cL_law_ 821 = .ok (.aload_n 0, 1) := by decide +kernel
theorem dL_law__822 : decode cL_law_ 822 = .ok (.iload 4, 2) := by decide +kernel
theorem dL_law__824 : decode cL_law_ 824 = .ok (.iconst 4, 1) := by decide +kernel
theorem dL_law__825 : decode cL_law_ 825 = .ok (.iadd, 1) := by decide +kernel
theorem dL_law__826 : decode cL_law_ 826 = .ok (.iaload, 1) := by decide +kernel
theorem dL_law__827 : decode cL_law_ 827 = .ok (.aload_n 3, 1) := by decide +kernel
theorem dL_law__828 : decode cL_law_ 828 = .ok (.invokestatic 136, 3) := by decide +kernel
theorem dL_law__831 : decode cL_law_ 831 = .ok (.istore 5, 2) := by decide +kernel
theorem dL_law__833 : decode cL_law_ 833 = .ok (.aload_n 2, 1) := by decide +kernel
theorem dL_law__834 : decode cL_law_ 834 = .ok (.aload_n 0, 1) := by decide +kernel
theorem dL_law__835 : decode cL_law_ 835 = .ok (.iload 4, 2) := by decide +kernel
theorem dL_law__837 : decode cL_law_ 837 = .ok (.iconst 1, 1) := by decide +kernel
theorem dL_law__838 : decode cL_law_ 838 = .ok (.iadd, 1) := by decide +kernel
theorem dL_law__839 : decode cL_law_ 839 = .ok (.iaload, 1) := by decide +kernel
theorem dL_law__840 : decode cL_law_ 840 = .ok (.aload_n 0, 1) := by decide +kernel
theorem dL_law__841 : decode cL_law_ 841 = .ok (.iload 4, 2) := by decide +kernel
theorem dL_law__843 : decode cL_law_ 843 = .ok (.iconst 2, 1) := by decide +kernel
theorem dL_law__844 : decode cL_law_ 844 = .ok (.iadd, 1) := by decide +kernel
theorem dL_law__845 : decode cL_law_ 845 = .ok (.iaload, 1) := by decide +kernel
theorem dL_law__846 : decode cL_law_ 846 = .ok (.aload_n 0, 1) := by decide +kernel
theorem dL_law__847 : decode cL_law_ 847 = .ok (.iload 4, 2) := by decide +kernel
theorem dL_law__849 : decode cL_law_ 849 = .ok (.iconst 3, 1) := by decide +kernel
theorem dL_law__850 : decode cL_law_ 850 = .ok (.iadd, 1) := by decide +kernel
theorem dL_law__851 : decode cL_law_ 851 = .ok (.iaload, 1) := by decide +kernel
theorem dL_law__852 : decode cL_law_ 852 = .ok (.aload_n 0, 1) := by decide +kernel
theorem dL_law__853 : decode cL_law_ 853 = .ok (.iload 4, 2) := by decide +kernel
theorem dL_law__855 : decode cL_law_ 855 = .ok (.iconst 4, 1) := by decide +kernel
theorem dL_law__856 : decode cL_law_ 856 = .ok (.iadd, 1) := by decide +kernel
theorem dL_law__857 : decode cL_law_ 857 = .ok (.iaload, 1) := by decide +kernel
theorem dL_law__858 : decode cL_law_ 858 = .ok (.invokevirtual 139, 3) := by decide +kernel
theorem dL_law__861 : decode cL_law_ 861 = .ok (.istore 6, 2) := by decide +kernel
theorem dL_law__863 : decode cL_law_ 863 = .ok (.aload_n 2, 1) := by decide +kernel
theorem dL_law__864 : decode cL_law_ 864 = .ok (.invokevirtual 105, 3) := by decide +kernel
theorem dL_law__867 : decode cL_law_ 867 = .ok (.iload 5, 2) := by decide +kernel
theorem dL_law__869 : decode cL_law_ 869 = .ok (.if_icmp .eq 5, 3) := by decide +kernel
theorem dL_law__872 : decode cL_law_ 872 = .ok (.iconst 0, 1) := by decide +kernel
theorem dL_law__873 : decode cL_law_ 873 = .ok (.ireturn, 1) := by decide +kernel
theorem dL_law__874 : decode cL_law_ 874 = .ok (.iload 5, 2) := by decide +kernel
theorem dL_law__876 : decode cL_law_ 876 = .ok (.ifCond .ne 22, 3) := by decide +kernel
theorem dL_law__879 : decode cL_law_ 879 = .ok (.aload_n 3, 1) := by decide +kernel
theorem dL_law__880 : decode cL_law_ 880 = .ok (.iconst 0, 1) := by decide +kernel
theorem dL_law__881 : decode cL_law_ 881 = .ok (.laload, 1) := by decide +kernel
theorem dL_law__882 : decode cL_law_ 882 = .ok (.iload 6, 2) := by decide +kernel
theorem dL_law__884 : decode cL_law_ 884 = .ok (.ifCond .eq 7, 3) := by decide +kernel
theorem dL_law__887 : decode cL_law_ 887 = .ok (.lconst 1, 1) := by decide +kernel
theorem dL_law__888 : decode cL_law_ 888 = .ok (.goto 4, 3) := by decide +kernel
theorem dL_law__891 : decode cL_law_ 891 = .ok (.lconst 0, 1) := by decide +kernel
theorem dL_law__892 : decode cL_law_ 892 = .ok (.lcmp, 1) := by decide +kernel
theorem dL_law__893 : decode cL_law_ 893 = .ok (.ifCond .eq 5, 3) := by decide +kernel
theorem dL_law__896 : decode cL_law_ 896 = .ok (.iconst 0, 1) := by decide +kernel
theorem dL_law__897 : decode cL_law_ 897 = .ok (.ireturn, 1) := by decide +kernel
theorem dL_law__898 : decode cL_law_ 898 = .ok (.goto 1046, 3) := by decide +kernel
theorem dL_law__901 : decode cL_law_ 901 = .ok (.aload_n 1, 1) := by decide +kernel
theorem dL_law__902 : decode cL_law_ 902 = .ok (.aload_n 0, 1) := by decide +kernel
theorem dL_law__903 : decode cL_law_ 903 = .ok (.iload 4, 2) := by decide +kernel
theorem dL_law__905 : decode cL_law_ 905 = .ok (.iconst 1, 1) := by decide +kernel
theorem dL_law__906 : decode cL_law_ 906 = .ok (.iadd, 1) := by decide +kernel
theorem dL_law__907 : decode cL_law_ 907 = .ok (.iaload, 1) := by decide +kernel
theorem dL_law__908 : decode cL_law_ 908 = .ok (.aload_n 0, 1) := by decide +kernel
theorem dL_law__909 : decode cL_law_ 909 = .ok (.iload 4, 2) := by decide +kernel
theorem dL_law__911 : decode cL_law_ 911 = .ok (.iconst 2, 1) := by decide +kernel
theorem dL_law__912 : decode cL_law_ 912 = .ok (.iadd, 1) := by decide +kernel
theorem dL_law__913 : decode cL_law_ 913 = .ok (.iaload, 1) := by decide +kernel
theorem dL_law__914 : decode cL_law_ 914 = .ok (.aload_n 3, 1) := by decide +kernel
theorem dL_law__915 : decode cL_law_ 915 = .ok (.invokestatic 140, 3) := by decide +kernel
theorem dL_law__918 : decode cL_law_ 918 = .ok (.istore 5, 2) := by decide +kernel
theorem dL_law__920 : decode cL_law_ 920 = .ok (.aload_n 2, 1) := by decide +kernel
theorem dL_law__921 : decode cL_law_ 921 = .ok (.aload_n 0, 1) := by decide +kernel
theorem dL_law__922 : decode cL_law_ 922 = .ok (.iload 4, 2) := by decide +kernel
theorem dL_law__924 : decode cL_law_ 924 = .ok (.iconst 1, 1) := by decide +kernel
theorem dL_law__925 : decode cL_law_ 925 = .ok (.iadd, 1) := by decide +kernel
theorem dL_law__926 : decode cL_law_ 926 = .ok (.iaload, 1) := by decide +kernel
theorem dL_law__927 : decode cL_law_ 927 = .ok (.aload_n 0, 1) := by decide +kernel
theorem dL_law__928 : decode cL_law_ 928 = .ok (.iload 4, 2) := by decide +kernel
theorem dL_law__930 : decode cL_law_ 930 = .ok (.iconst 2, 1) := by decide +kernel
theorem dL_law__931 : decode cL_law_ 931 = .ok (.iadd, 1) := by decide +kernel
theorem dL_law__932 : decode cL_law_ 932 = .ok (.iaload, 1) := by decide +kernel
theorem dL_law__933 : decode cL_law_ 933 = .ok (.invokevirtual 142, 3) := by decide +kernel
theorem dL_law__936 : decode cL_law_ 936 = .ok (.istore 6, 2) := by decide +kernel
theorem dL_law__938 : decode cL_law_ 938 = .ok (.aload_n 2, 1) := by decide +kernel
theorem dL_law__939 : decode cL_law_ 939 = .ok (.invokevirtual 105, 3) := by decide +kernel
theorem dL_law__942 : decode cL_law_ 942 = .ok (.iload 5, 2) := by decide +kernel
theorem dL_law__944 : decode cL_law_ 944 = .ok (.if_icmp .eq 5, 3) := by decide +kernel
theorem dL_law__947 : decode cL_law_ 947 = .ok (.iconst 0, 1) := by decide +kernel
theorem dL_law__948 : decode cL_law_ 948 = .ok (.ireturn, 1) := by decide +kernel
theorem dL_law__949 : decode cL_law_ 949 = .ok (.iload 5, 2) := by decide +kernel
theorem dL_law__951 : decode cL_law_ 951 = .ok (.ifCond .ne 22, 3) := by decide +kernel
theorem dL_law__954 : decode cL_law_ 954 = .ok (.aload_n 3, 1) := by decide +kernel
theorem dL_law__955 : decode cL_law_ 955 = .ok (.iconst 0, 1) := by decide +kernel
theorem dL_law__956 : decode cL_law_ 956 = .ok (.laload, 1) := by decide +kernel
theorem dL_law__957 : decode cL_law_ 957 = .ok (.iload 6, 2) := by decide +kernel
theorem dL_law__959 : decode cL_law_ 959 = .ok (.ifCond .eq 7, 3) := by decide +kernel
theorem dL_law__962 : decode cL_law_ 962 = .ok (.lconst 1, 1) := by decide +kernel
theorem dL_law__963 : decode cL_law_ 963 = .ok (.goto 4, 3) := by decide +kernel
theorem dL_law__966 : decode cL_law_ 966 = .ok (.lconst 0, 1) := by decide +kernel
theorem dL_law__967 : decode cL_law_ 967 = .ok (.lcmp, 1) := by decide +kernel
theorem dL_law__968 : decode cL_law_ 968 = .ok (.ifCond .eq 5, 3) := by decide +kernel
theorem dL_law__971 : decode cL_law_ 971 = .ok (.iconst 0, 1) := by decide +kernel
theorem dL_law__972 : decode cL_law_ 972 = .ok (.ireturn, 1) := by decide +kernel
theorem dL_law__973 : decode cL_law_ 973 = .ok (.goto 971, 3) := by decide +kernel
theorem dL_law__976 : decode cL_law_ 976 = .ok (.aload_n 1, 1) := by decide +kernel
theorem dL_law__977 : decode cL_law_ 977 = .ok (.aload_n 0, 1) := by decide +kernel
theorem dL_law__978 : decode cL_law_ 978 = .ok (.iload 4, 2) := by decide +kernel
theorem dL_law__980 : decode cL_law_ 980 = .ok (.iconst 1, 1) := by decide +kernel
theorem dL_law__981 : decode cL_law_ 981 = .ok (.iadd, 1) := by decide +kernel
theorem dL_law__982 : decode cL_law_ 982 = .ok (.iaload, 1) := by decide +kernel
theorem dL_law__983 : decode cL_law_ 983 = .ok (.aload_n 0, 1) := by decide +kernel
theorem dL_law__984 : decode cL_law_ 984 = .ok (.iload 4, 2) := by decide +kernel
theorem dL_law__986 : decode cL_law_ 986 = .ok (.iconst 2, 1) := by decide +kernel
theorem dL_law__987 : decode cL_law_ 987 = .ok (.iadd, 1) := by decide +kernel
theorem dL_law__988 : decode cL_law_ 988 = .ok (.iaload, 1) := by decide +kernel
theorem dL_law__989 : decode cL_law_ 989 = .ok (.aload_n 3, 1) := by decide +kernel
theorem dL_law__990 : decode cL_law_ 990 = .ok (.invokestatic 143, 3) := by decide +kernel
theorem dL_law__993 : decode cL_law_ 993 = .ok (.istore 5, 2) := by decide +kernel
theorem dL_law__995 : decode cL_law_ 995 = .ok (.aload_n 2, 1) := by decide +kernel
theorem dL_law__996 : decode cL_law_ 996 = .ok (.aload_n 0, 1) := by decide +kernel
theorem dL_law__997 : decode cL_law_ 997 = .ok (.iload 4, 2) := by decide +kernel
theorem dL_law__999 : decode cL_law_ 999 = .ok (.iconst 1, 1) := by decide +kernel
theorem dL_law__1000 : decode cL_law_ 1000 = .ok (.iadd, 1) := by decide +kernel
theorem dL_law__1001 : decode cL_law_ 1001 = .ok (.iaload, 1) := by decide +kernel
theorem dL_law__1002 : decode cL_law_ 1002 = .ok (.aload_n 0, 1) := by decide +kernel
theorem dL_law__1003 : decode cL_law_ 1003 = .ok (.iload 4, 2) := by decide +kernel
theorem dL_law__1005 : decode cL_law_ 1005 = .ok (.iconst 2, 1) := by decide +kernel
theorem dL_law__1006 : decode cL_law_ 1006 = .ok (.iadd, 1) := by decide +kernel
theorem dL_law__1007 : decode cL_law_ 1007 = .ok (.iaload, 1) := by decide +kernel
theorem dL_law__1008 : decode cL_law_ 1008 = .ok (.invokevirtual 145, 3) := by decide +kernel
theorem dL_law__1011 : decode cL_law_ 1011 = .ok (.istore 6, 2) := by decide +kernel
theorem dL_law__1013 : decode cL_law_ 1013 = .ok (.aload_n 2, 1) := by decide +kernel
theorem dL_law__1014 : decode cL_law_ 1014 = .ok (.invokevirtual 105, 3) := by decide +kernel
theorem dL_law__1017 : decode cL_law_ 1017 = .ok (.iload 5, 2) := by decide +kernel
theorem dL_law__1019 : decode cL_law_ 1019 = .ok (.if_icmp .eq 5, 3) := by decide +kernel
theorem dL_law__1022 : decode cL_law_ 1022 = .ok (.iconst 0, 1) := by decide +kernel
theorem dL_law__1023 : decode cL_law_ 1023 = .ok (.ireturn, 1) := by decide +kernel
theorem dL_law__1024 : decode cL_law_ 1024 = .ok (.iload 5, 2) := by decide +kernel
theorem dL_law__1026 : decode cL_law_ 1026 = .ok (.ifCond .ne 15, 3) := by decide +kernel
theorem dL_law__1029 : decode cL_law_ 1029 = .ok (.aload_n 3, 1) := by decide +kernel
theorem dL_law__1030 : decode cL_law_ 1030 = .ok (.iconst 0, 1) := by decide +kernel
theorem dL_law__1031 : decode cL_law_ 1031 = .ok (.laload, 1) := by decide +kernel
theorem dL_law__1032 : decode cL_law_ 1032 = .ok (.iload 6, 2) := by decide +kernel
theorem dL_law__1034 : decode cL_law_ 1034 = .ok (.i2l, 1) := by decide +kernel
theorem dL_law__1035 : decode cL_law_ 1035 = .ok (.lcmp, 1) := by decide +kernel
theorem dL_law__1036 : decode cL_law_ 1036 = .ok (.ifCond .eq 5, 3) := by decide +kernel
theorem dL_law__1039 : decode cL_law_ 1039 = .ok (.iconst 0, 1) := by decide +kernel
theorem dL_law__1040 : decode cL_law_ 1040 = .ok (.ireturn, 1) := by decide +kernel
theorem dL_law__1041 : decode cL_law_ 1041 = .ok (.goto 903, 3) := by decide +kernel
theorem dL_law__1044 : decode cL_law_ 1044 = .ok (.aload_n 1, 1) := by decide +kernel
theorem dL_law__1045 : decode cL_law_ 1045 = .ok (.aload_n 0, 1) := by decide +kernel
theorem dL_law__1046 : decode cL_law_ 1046 = .ok (.iload 4, 2) := by decide +kernel
theorem dL_law__1048 : decode cL_law_ 1048 = .ok (.iconst 1, 1) := by decide +kernel
theorem dL_law__1049 : decode cL_law_ 1049 = .ok (.iadd, 1) := by decide +kernel
theorem dL_law__1050 : decode cL_law_ 1050 = .ok (.iaload, 1) := by decide +kernel
theorem dL_law__1051 : decode cL_law_ 1051 = .ok (.aload_n 0, 1) := by decide +kernel
theorem dL_law__1052 : decode cL_law_ 1052 = .ok (.iload 4, 2) := by decide +kernel
theorem dL_law__1054 : decode cL_law_ 1054 = .ok (.iconst 2, 1) := by decide +kernel
theorem dL_law__1055 : decode cL_law_ 1055 = .ok (.iadd, 1) := by decide +kernel
theorem dL_law__1056 : decode cL_law_ 1056 = .ok (.iaload, 1) := by decide +kernel
theorem dL_law__1057 : decode cL_law_ 1057 = .ok (.aload_n 3, 1) := by decide +kernel
theorem dL_law__1058 : decode cL_law_ 1058 = .ok (.invokestatic 146, 3) := by decide +kernel
theorem dL_law__1061 : decode cL_law_ 1061 = .ok (.istore 5, 2) := by decide +kernel
theorem dL_law__1063 : decode cL_law_ 1063 = .ok (.aload_n 2, 1) := by decide +kernel
theorem dL_law__1064 : decode cL_law_ 1064 = .ok (.aload_n 0, 1) := by decide +kernel
theorem dL_law__1065 : decode cL_law_ 1065 = .ok (.iload 4, 2) := by decide +kernel
theorem dL_law__1067 : decode cL_law_ 1067 = .ok (.iconst 1, 1) := by decide +kernel
theorem dL_law__1068 : decode cL_law_ 1068 = .ok (.iadd, 1) := by decide +kernel
theorem dL_law__1069 : decode cL_law_ 1069 = .ok (.iaload, 1) := by decide +kernel
theorem dL_law__1070 : decode cL_law_ 1070 = .ok (.aload_n 0, 1) := by decide +kernel
theorem dL_law__1071 : decode cL_law_ 1071 = .ok (.iload 4, 2) := by decide +kernel
theorem dL_law__1073 : decode cL_law_ 1073 = .ok (.iconst 2, 1) := by decide +kernel
theorem dL_law__1074 : decode cL_law_ 1074 = .ok (.iadd, 1) := by decide +kernel
theorem dL_law__1075 : decode cL_law_ 1075 = .ok (.iaload, 1) := by decide +kernel
theorem dL_law__1076 : decode cL_law_ 1076 = .ok (.invokevirtual 148, 3) := by decide +kernel
theorem dL_law__1079 : decode cL_law_ 1079 = .ok (.istore 6, 2) := by decide +kernel
theorem dL_law__1081 : decode cL_law_ 1081 = .ok (.aload_n 2, 1) := by decide +kernel
theorem dL_law__1082 : decode cL_law_ 1082 = .ok (.invokevirtual 105, 3) := by decide +kernel
theorem dL_law__1085 : decode cL_law_ 1085 = .ok (.iload 5, 2) := by decide +kernel
theorem dL_law__1087 : decode cL_law_ 1087 = .ok (.if_icmp .eq 5, 3) := by decide +kernel
theorem dL_law__1090 : decode cL_law_ 1090 = .ok (.iconst 0, 1) := by decide +kernel
theorem dL_law__1091 : decode cL_law_ 1091 = .ok (.ireturn, 1) := by decide +kernel
theorem dL_law__1092 : decode cL_law_ 1092 = .ok (.iload 5, 2) := by decide +kernel
theorem dL_law__1094 : decode cL_law_ 1094 = .ok (.ifCond .ne 15, 3) := by decide +kernel
theorem dL_law__1097 : decode cL_law_ 1097 = .ok (.aload_n 3, 1) := by decide +kernel
theorem dL_law__1098 : decode cL_law_ 1098 = .ok (.iconst 0, 1) := by decide +kernel
theorem dL_law__1099 : decode cL_law_ 1099 = .ok (.laload, 1) := by decide +kernel
theorem dL_law__1100 : decode cL_law_ 1100 = .ok (.iload 6, 2) := by decide +kernel
theorem dL_law__1102 : decode cL_law_ 1102 = .ok (.i2l, 1) := by decide +kernel
theorem dL_law__1103 : decode cL_law_ 1103 = .ok (.lcmp, 1) := by decide +kernel
theorem dL_law__1104 : decode cL_law_ 1104 = .ok (.ifCond .eq 5, 3) := by decide +kernel
theorem dL_law__1107 : decode cL_law_ 1107 = .ok (.iconst 0, 1) := by decide +kernel
theorem dL_law__1108 : decode cL_law_ 1108 = .ok (.ireturn, 1) := by decide +kernel
theorem dL_law__1109 : decode cL_law_ 1109 = .ok (.goto 835, 3) := by decide +kernel
theorem dL_law__1112 : decode cL_law_ 1112 = .ok (.aload_n 1, 1) := by decide +kernel
theorem dL_law__1113 : decode cL_law_ 1113 = .ok (.aload_n 0, 1) := by decide +kernel
theorem dL_law__1114 : decode cL_law_ 1114 = .ok (.iload 4, 2) := by decide +kernel
theorem dL_law__1116 : decode cL_law_ 1116 = .ok (.iconst 1, 1) := by decide +kernel
theorem dL_law__1117 : decode cL_law_ 1117 = .ok (.iadd, 1) := by decide +kernel
theorem dL_law__1118 : decode cL_law_ 1118 = .ok (.iaload, 1) := by decide +kernel
theorem dL_law__1119 : decode cL_law_ 1119 = .ok (.aload_n 0, 1) := by decide +kernel
theorem dL_law__1120 : decode cL_law_ 1120 = .ok (.iload 4, 2) := by decide +kernel
theorem dL_law__1122 : decode cL_law_ 1122 = .ok (.iconst 2, 1) := by decide +kernel
theorem dL_law__1123 : decode cL_law_ 1123 = .ok (.iadd, 1) := by decide +kernel
theorem dL_law__1124 : decode cL_law_ 1124 = .ok (.iaload, 1) := by decide +kernel
theorem dL_law__1125 : decode cL_law_ 1125 = .ok (.aload_n 3, 1) := by decide +kernel
theorem dL_law__1126 : decode cL_law_ 1126 = .ok (.invokestatic 149, 3) := by decide +kernel
theorem dL_law__1129 : decode cL_law_ 1129 = .ok (.istore 5, 2) := by decide +kernel
theorem dL_law__1131 : decode cL_law_ 1131 = .ok (.aload_n 2, 1) := by decide +kernel
theorem dL_law__1132 : decode cL_law_ 1132 = .ok (.aload_n 0, 1) := by decide +kernel
theorem dL_law__1133 : decode cL_law_ 1133 = .ok (.iload 4, 2) := by decide +kernel
theorem dL_law__1135 : decode cL_law_ 1135 = .ok (.iconst 1, 1) := by decide +kernel
theorem dL_law__1136 : decode cL_law_ 1136 = .ok (.iadd, 1) := by decide +kernel
theorem dL_law__1137 : decode cL_law_ 1137 = .ok (.iaload, 1) := by decide +kernel
theorem dL_law__1138 : decode cL_law_ 1138 = .ok (.aload_n 0, 1) := by decide +kernel
theorem dL_law__1139 : decode cL_law_ 1139 = .ok (.iload 4, 2) := by decide +kernel
theorem dL_law__1141 : decode cL_law_ 1141 = .ok (.iconst 2, 1) := by decide +kernel
theorem dL_law__1142 : decode cL_law_ 1142 = .ok (.iadd, 1) := by decide +kernel
theorem dL_law__1143 : decode cL_law_ 1143 = .ok (.iaload, 1) := by decide +kernel
theorem dL_law__1144 : decode cL_law_ 1144 = .ok (.invokevirtual 151, 3) := by decide +kernel
theorem dL_law__1147 : decode cL_law_ 1147 = .ok (.istore 6, 2) := by decide +kernel
theorem dL_law__1149 : decode cL_law_ 1149 = .ok (.aload_n 2, 1) := by decide +kernel
theorem dL_law__1150 : decode cL_law_ 1150 = .ok (.invokevirtual 105, 3) := by decide +kernel
theorem dL_law__1153 : decode cL_law_ 1153 = .ok (.iload 5, 2) := by decide +kernel
theorem dL_law__1155 : decode cL_law_ 1155 = .ok (.if_icmp .eq 5, 3) := by decide +kernel
theorem dL_law__1158 : decode cL_law_ 1158 = .ok (.iconst 0, 1) := by decide +kernel
theorem dL_law__1159 : decode cL_law_ 1159 = .ok (.ireturn, 1) := by decide +kernel
theorem dL_law__1160 : decode cL_law_ 1160 = .ok (.iload 5, 2) := by decide +kernel
theorem dL_law__1162 : decode cL_law_ 1162 = .ok (.ifCond .ne 15, 3) := by decide +kernel
theorem dL_law__1165 : decode cL_law_ 1165 = .ok (.aload_n 3, 1) := by decide +kernel
theorem dL_law__1166 : decode cL_law_ 1166 = .ok (.iconst 0, 1) := by decide +kernel
theorem dL_law__1167 : decode cL_law_ 1167 = .ok (.laload, 1) := by decide +kernel
theorem dL_law__1168 : decode cL_law_ 1168 = .ok (.iload 6, 2) := by decide +kernel
theorem dL_law__1170 : decode cL_law_ 1170 = .ok (.i2l, 1) := by decide +kernel
theorem dL_law__1171 : decode cL_law_ 1171 = .ok (.lcmp, 1) := by decide +kernel
theorem dL_law__1172 : decode cL_law_ 1172 = .ok (.ifCond .eq 5, 3) := by decide +kernel
theorem dL_law__1175 : decode cL_law_ 1175 = .ok (.iconst 0, 1) := by decide +kernel
theorem dL_law__1176 : decode cL_law_ 1176 = .ok (.ireturn, 1) := by decide +kernel
theorem dL_law__1177 : decode cL_law_ 1177 = .ok (.goto 767, 3) := by decide +kernel
theorem dL_law__1180 : decode cL_law_ 1180 = .ok (.aload_n 1, 1) := by decide +kernel
theorem dL_law__1181 : decode cL_law_ 1181 = .ok (.aload_n 0, 1) := by decide +kernel
theorem dL_law__1182 : decode cL_law_ 1182 = .ok (.iload 4, 2) := by decide +kernel
theorem dL_law__1184 : decode cL_law_ 1184 = .ok (.iconst 1, 1) := by decide +kernel
theorem dL_law__1185 : decode cL_law_ 1185 = .ok (.iadd, 1) := by decide +kernel
theorem dL_law__1186 : decode cL_law_ 1186 = .ok (.iaload, 1) := by decide +kernel
theorem dL_law__1187 : decode cL_law_ 1187 = .ok (.aload_n 3, 1) := by decide +kernel
theorem dL_law__1188 : decode cL_law_ 1188 = .ok (.invokestatic 152, 3) := by decide +kernel
theorem dL_law__1191 : decode cL_law_ 1191 = .ok (.istore 5, 2) := by decide +kernel
theorem dL_law__1193 : decode cL_law_ 1193 = .ok (.aload_n 2, 1) := by decide +kernel
theorem dL_law__1194 : decode cL_law_ 1194 = .ok (.aload_n 0, 1) := by decide +kernel
theorem dL_law__1195 : decode cL_law_ 1195 = .ok (.iload 4, 2) := by decide +kernel
theorem dL_law__1197 : decode cL_law_ 1197 = .ok (.iconst 1, 1) := by decide +kernel
theorem dL_law__1198 : decode cL_law_ 1198 = .ok (.iadd, 1) := by decide +kernel
theorem dL_law__1199 : decode cL_law_ 1199 = .ok (.iaload, 1) := by decide +kernel
theorem dL_law__1200 : decode cL_law_ 1200 = .ok (.invokevirtual 154, 3) := by decide +kernel
theorem dL_law__1203 : decode cL_law_ 1203 = .ok (.istore 6, 2) := by decide +kernel
theorem dL_law__1205 : decode cL_law_ 1205 = .ok (.aload_n 2, 1) := by decide +kernel
theorem dL_law__1206 : decode cL_law_ 1206 = .ok (.invokevirtual 105, 3) := by decide +kernel
theorem dL_law__1209 : decode cL_law_ 1209 = .ok (.iload 5, 2) := by decide +kernel
theorem dL_law__1211 : decode cL_law_ 1211 = .ok (.if_icmp .eq 5, 3) := by decide +kernel
theorem dL_law__1214 : decode cL_law_ 1214 = .ok (.iconst 0, 1) := by decide +kernel
theorem dL_law__1215 : decode cL_law_ 1215 = .ok (.ireturn, 1) := by decide +kernel
theorem dL_law__1216 : decode cL_law_ 1216 = .ok (.iload 5, 2) := by decide +kernel
theorem dL_law__1218 : decode cL_law_ 1218 = .ok (.ifCond .ne 15, 3) := by decide +kernel
theorem dL_law__1221 : decode cL_law_ 1221 = .ok (.aload_n 3, 1) := by decide +kernel
theorem dL_law__1222 : decode cL_law_ 1222 = .ok (.iconst 0, 1) := by decide +kernel
theorem dL_law__1223 : decode cL_law_ 1223 = .ok (.laload, 1) := by decide +kernel
theorem dL_law__1224 : decode cL_law_ 1224 = .ok (.iload 6, 2) := by decide +kernel
theorem dL_law__1226 : decode cL_law_ 1226 = .ok (.i2l, 1) := by decide +kernel
theorem dL_law__1227 : decode cL_law_ 1227 = .ok (.lcmp, 1) := by decide +kernel
theorem dL_law__1228 : decode cL_law_ 1228 = .ok (.ifCond .eq 5, 3) := by decide +kernel
theorem dL_law__1231 : decode cL_law_ 1231 = .ok (.iconst 0, 1) := by decide +kernel
theorem dL_law__1232 : decode cL_law_ 1232 = .ok (.ireturn, 1) := by decide +kernel
theorem dL_law__1233 : decode cL_law_ 1233 = .ok (.goto 711, 3) := by decide +kernel
theorem dL_law__1236 : decode cL_law_ 1236 = .ok (.aload_n 1, 1) := by decide +kernel
theorem dL_law__1237 : decode cL_law_ 1237 = .ok (.invokevirtual 155, 3) := by decide +kernel
theorem dL_law__1240 : decode cL_law_ 1240 = .ok (.aload_n 2, 1) := by decide +kernel
theorem dL_law__1241 : decode cL_law_ 1241 = .ok (.invokevirtual 158, 3) := by decide +kernel
theorem dL_law__1244 : decode cL_law_ 1244 = .ok (.if_icmp .eq 700, 3) := by decide +kernel
theorem dL_law__1247 : decode cL_law_ 1247 = .ok (.iconst 0, 1) := by decide +kernel
theorem dL_law__1248 : decode cL_law_ 1248 = .ok (.ireturn, 1) := by decide +kernel
theorem dL_law__1249 : decode cL_law_ 1249 = .ok (.aload_n 1, 1) := by decide +kernel
theorem dL_law__1250 : decode cL_law_ 1250 = .ok (.invokevirtual 159, 3) := by decide +kernel
theorem dL_law__1253 : decode cL_law_ 1253 = .ok (.aload_n 2, 1) := by decide +kernel
theorem dL_law__1254 : decode cL_law_ 1254 = .ok (.invokevirtual 162, 3) := by decide +kernel
theorem dL_law__1257 : decode cL_law_ 1257 = .ok (.if_icmp .eq 687, 3) := by decide +kernel
theorem dL_law__1260 : decode cL_law_ 1260 = .ok (.iconst 0, 1) := by decide +kernel
theorem dL_law__1261 : decode cL_law_ 1261 = .ok (.ireturn, 1) := by decide +kernel
theorem dL_law__1262 : decode cL_law_ 1262 = .ok (.aload_n 1, 1) := by decide +kernel
theorem dL_law__1263 : decode cL_law_ 1263 = .ok (.aload_n 0, 1) := by decide +kernel
theorem dL_law__1264 : decode cL_law_ 1264 = .ok (.iload 4, 2) := by decide +kernel
theorem dL_law__1266 : decode cL_law_ 1266 = .ok (.iconst 1, 1) := by decide +kernel
theorem dL_law__1267 : decode cL_law_ 1267 = .ok (.iadd, 1) := by decide +kernel
theorem dL_law__1268 : decode cL_law_ 1268 = .ok (.iaload, 1) := by decide +kernel
theorem dL_law__1269 : decode cL_law_ 1269 = .ok (.aload_n 0, 1) := by decide +kernel
theorem dL_law__1270 : decode cL_law_ 1270 = .ok (.iload 4, 2) := by decide +kernel
theorem dL_law__1272 : decode cL_law_ 1272 = .ok (.iconst 2, 1) := by decide +kernel
theorem dL_law__1273 : decode cL_law_ 1273 = .ok (.iadd, 1) := by decide +kernel
theorem dL_law__1274 : decode cL_law_ 1274 = .ok (.iaload, 1) := by decide +kernel
theorem dL_law__1275 : decode cL_law_ 1275 = .ok (.aload_n 3, 1) := by decide +kernel
theorem dL_law__1276 : decode cL_law_ 1276 = .ok (.invokestatic 163, 3) := by decide +kernel
theorem dL_law__1279 : decode cL_law_ 1279 = .ok (.istore 5, 2) := by decide +kernel
theorem dL_law__1281 : decode cL_law_ 1281 = .ok (.aload_n 2, 1) := by decide +kernel
theorem dL_law__1282 : decode cL_law_ 1282 = .ok (.aload_n 0, 1) := by decide +kernel
theorem dL_law__1283 : decode cL_law_ 1283 = .ok (.iload 4, 2) := by decide +kernel
theorem dL_law__1285 : decode cL_law_ 1285 = .ok (.iconst 1, 1) := by decide +kernel
theorem dL_law__1286 : decode cL_law_ 1286 = .ok (.iadd, 1) := by decide +kernel
theorem dL_law__1287 : decode cL_law_ 1287 = .ok (.iaload, 1) := by decide +kernel
theorem dL_law__1288 : decode cL_law_ 1288 = .ok (.aload_n 0, 1) := by decide +kernel
theorem dL_law__1289 : decode cL_law_ 1289 = .ok (.iload 4, 2) := by decide +kernel
theorem dL_law__1291 : decode cL_law_ 1291 = .ok (.iconst 2, 1) := by decide +kernel
theorem dL_law__1292 : decode cL_law_ 1292 = .ok (.iadd, 1) := by decide +kernel
theorem dL_law__1293 : decode cL_law_ 1293 = .ok (.iaload, 1) := by decide +kernel
theorem dL_law__1294 : decode cL_law_ 1294 = .ok (.invokevirtual 165, 3) := by decide +kernel
theorem dL_law__1297 : decode cL_law_ 1297 = .ok (.istore 6, 2) := by decide +kernel
theorem dL_law__1299 : decode cL_law_ 1299 = .ok (.aload_n 2, 1) := by decide +kernel
theorem dL_law__1300 : decode cL_law_ 1300 = .ok (.invokevirtual 105, 3) := by decide +kernel
theorem dL_law__1303 : decode cL_law_ 1303 = .ok (.iload 5, 2) := by decide +kernel
theorem dL_law__1305 : decode cL_law_ 1305 = .ok (.if_icmp .eq 5, 3) := by decide +kernel
theorem dL_law__1308 : decode cL_law_ 1308 = .ok (.iconst 0, 1) := by decide +kernel
theorem dL_law__1309 : decode cL_law_ 1309 = .ok (.ireturn, 1) := by decide +kernel
theorem dL_law__1310 : decode cL_law_ 1310 = .ok (.iload 5, 2) := by decide +kernel
theorem dL_law__1312 : decode cL_law_ 1312 = .ok (.ifCond .ne 15, 3) := by decide +kernel
theorem dL_law__1315 : decode cL_law_ 1315 = .ok (.aload_n 3, 1) := by decide +kernel
theorem dL_law__1316 : decode cL_law_ 1316 = .ok (.iconst 0, 1) := by decide +kernel
theorem dL_law__1317 : decode cL_law_ 1317 = .ok (.laload, 1) := by decide +kernel
theorem dL_law__1318 : decode cL_law_ 1318 = .ok (.iload 6, 2) := by decide +kernel
theorem dL_law__1320 : decode cL_law_ 1320 = .ok (.i2l, 1) := by decide +kernel
theorem dL_law__1321 : decode cL_law_ 1321 = .ok (.lcmp, 1) := by decide +kernel
theorem dL_law__1322 : decode cL_law_ 1322 = .ok (.ifCond .eq 5, 3) := by decide +kernel
theorem dL_law__1325 : decode cL_law_ 1325 = .ok (.iconst 0, 1) := by decide +kernel
theorem dL_law__1326 : decode cL_law_ 1326 = .ok (.ireturn, 1) := by decide +kernel
theorem dL_law__1327 : decode cL_law_ 1327 = .ok (.goto 617, 3) := by decide +kernel
theorem dL_law__1330 : decode cL_law_ 1330 = .ok (.aload_n 1, 1) := by decide +kernel
theorem dL_law__1331 : decode cL_law_ 1331 = .ok (.aload_n 0, 1) := by decide +kernel
theorem dL_law__1332 : decode cL_law_ 1332 = .ok (.iload 4, 2) := by decide +kernel
theorem dL_law__1334 : decode cL_law_ 1334 = .ok (.iconst 1, 1) := by decide +kernel
theorem dL_law__1335 : decode cL_law_ 1335 = .ok (.iadd, 1) := by decide +kernel
theorem dL_law__1336 : decode cL_law_ 1336 = .ok (.iaload, 1) := by decide +kernel
theorem dL_law__1337 : decode cL_law_ 1337 = .ok (.aload_n 3, 1) := by decide +kernel
theorem dL_law__1338 : decode cL_law_ 1338 = .ok (.invokestatic 166, 3) := by decide +kernel
theorem dL_law__1341 : decode cL_law_ 1341 = .ok (.istore 5, 2) := by decide +kernel
theorem dL_law__1343 : decode cL_law_ 1343 = .ok (.aload_n 2, 1) := by decide +kernel
theorem dL_law__1344 : decode cL_law_ 1344 = .ok (.aload_n 0, 1) := by decide +kernel
theorem dL_law__1345 : decode cL_law_ 1345 = .ok (.iload 4, 2) := by decide +kernel
theorem dL_law__1347 : decode cL_law_ 1347 = .ok (.iconst 1, 1) := by decide +kernel
theorem dL_law__1348 : decode cL_law_ 1348 = .ok (.iadd, 1) := by decide +kernel
theorem dL_law__1349 : decode cL_law_ 1349 = .ok (.iaload, 1) := by decide +kernel
theorem dL_law__1350 : decode cL_law_ 1350 = .ok (.invokevirtual 168, 3) := by decide +kernel
theorem dL_law__1353 : decode cL_law_ 1353 = .ok (.istore 6, 2) := by decide +kernel
theorem dL_law__1355 : decode cL_law_ 1355 = .ok (.aload_n 2, 1) := by decide +kernel
theorem dL_law__1356 : decode cL_law_ 1356 = .ok (.invokevirtual 105, 3) := by decide +kernel
theorem dL_law__1359 : decode cL_law_ 1359 = .ok (.iload 5, 2) := by decide +kernel
theorem dL_law__1361 : decode cL_law_ 1361 = .ok (.if_icmp .eq 5, 3) := by decide +kernel
theorem dL_law__1364 : decode cL_law_ 1364 = .ok (.iconst 0, 1) := by decide +kernel
theorem dL_law__1365 : decode cL_law_ 1365 = .ok (.ireturn, 1) := by decide +kernel
theorem dL_law__1366 : decode cL_law_ 1366 = .ok (.iload 5, 2) := by decide +kernel
theorem dL_law__1368 : decode cL_law_ 1368 = .ok (.ifCond .ne 15, 3) := by decide +kernel
theorem dL_law__1371 : decode cL_law_ 1371 = .ok (.aload_n 3, 1) := by decide +kernel
theorem dL_law__1372 : decode cL_law_ 1372 = .ok (.iconst 0, 1) := by decide +kernel
theorem dL_law__1373 : decode cL_law_ 1373 = .ok (.laload, 1) := by decide +kernel
theorem dL_law__1374 : decode cL_law_ 1374 = .ok (.iload 6, 2) := by decide +kernel
theorem dL_law__1376 : decode cL_law_ 1376 = .ok (.i2l, 1) := by decide +kernel
theorem dL_law__1377 : decode cL_law_ 1377 = .ok (.lcmp, 1) := by decide +kernel
theorem dL_law__1378 : decode cL_law_ 1378 = .ok (.ifCond .eq 5, 3) := by decide +kernel
theorem dL_law__1381 : decode cL_law_ 1381 = .ok (.iconst 0, 1) := by decide +kernel
theorem dL_law__1382 : decode cL_law_ 1382 = .ok (.ireturn, 1) := by decide +kernel
theorem dL_law__1383 : decode cL_law_ 1383 = .ok (.goto 561, 3) := by decide +kernel
theorem dL_law__1386 : decode cL_law_ 1386 = .ok (.aload_n 1, 1) := by decide +kernel
theorem dL_law__1387 : decode cL_law_ 1387 = .ok (.aload_n 0, 1) := by decide +kernel
theorem dL_law__1388 : decode cL_law_ 1388 = .ok (.iload 4, 2) := by decide +kernel
theorem dL_law__1390 : decode cL_law_ 1390 = .ok (.iconst 1, 1) := by decide +kernel
theorem dL_law__1391 : decode cL_law_ 1391 = .ok (.iadd, 1) := by decide +kernel
theorem dL_law__1392 : decode cL_law_ 1392 = .ok (.iaload, 1) := by decide +kernel
theorem dL_law__1393 : decode cL_law_ 1393 = .ok (.aload_n 3, 1) := by decide +kernel
theorem dL_law__1394 : decode cL_law_ 1394 = .ok (.invokestatic 169, 3) := by decide +kernel
theorem dL_law__1397 : decode cL_law_ 1397 = .ok (.istore 5, 2) := by decide +kernel
theorem dL_law__1399 : decode cL_law_ 1399 = .ok (.aload_n 2, 1) := by decide +kernel
theorem dL_law__1400 : decode cL_law_ 1400 = .ok (.aload_n 0, 1) := by decide +kernel
theorem dL_law__1401 : decode cL_law_ 1401 = .ok (.iload 4, 2) := by decide +kernel
theorem dL_law__1403 : decode cL_law_ 1403 = .ok (.iconst 1, 1) := by decide +kernel
theorem dL_law__1404 : decode cL_law_ 1404 = .ok (.iadd, 1) := by decide +kernel
theorem dL_law__1405 : decode cL_law_ 1405 = .ok (.iaload, 1) := by decide +kernel
theorem dL_law__1406 : decode cL_law_ 1406 = .ok (.invokevirtual 171, 3) := by decide +kernel
theorem dL_law__1409 : decode cL_law_ 1409 = .ok (.istore 6, 2) := by decide +kernel
theorem dL_law__1411 : decode cL_law_ 1411 = .ok (.aload_n 2, 1) := by decide +kernel
theorem dL_law__1412 : decode cL_law_ 1412 = .ok (.invokevirtual 105, 3) := by decide +kernel
theorem dL_law__1415 : decode cL_law_ 1415 = .ok (.iload 5, 2) := by decide +kernel
theorem dL_law__1417 : decode cL_law_ 1417 = .ok (.if_icmp .eq 5, 3) := by decide +kernel
theorem dL_law__1420 : decode cL_law_ 1420 = .ok (.iconst 0, 1) := by decide +kernel
theorem dL_law__1421 : decode cL_law_ 1421 = .ok (.ireturn, 1) := by decide +kernel
theorem dL_law__1422 : decode cL_law_ 1422 = .ok (.iload 5, 2) := by decide +kernel
theorem dL_law__1424 : decode cL_law_ 1424 = .ok (.ifCond .ne 15, 3) := by decide +kernel
theorem dL_law__1427 : decode cL_law_ 1427 = .ok (.aload_n 3, 1) := by decide +kernel
theorem dL_law__1428 : decode cL_law_ 1428 = .ok (.iconst 0, 1) := by decide +kernel
theorem dL_law__1429 : decode cL_law_ 1429 = .ok (.laload, 1) := by decide +kernel
theorem dL_law__1430 : decode cL_law_ 1430 = .ok (.iload 6, 2) := by decide +kernel
theorem dL_law__1432 : decode cL_law_ 1432 = .ok (.i2l, 1) := by decide +kernel
theorem dL_law__1433 : decode cL_law_ 1433 = .ok (.lcmp, 1) := by decide +kernel
theorem dL_law__1434 : decode cL_law_ 1434 = .ok (.ifCond .eq 5, 3) := by decide +kernel
theorem dL_law__1437 : decode cL_law_ 1437 = .ok (.iconst 0, 1) := by decide +kernel
theorem dL_law__1438 : decode cL_law_ 1438 = .ok (.ireturn, 1) := by decide +kernel
theorem dL_law__1439 : decode cL_law_ 1439 = .ok (.goto 505, 3) := by decide +kernel
theorem dL_law__1442 : decode cL_law_ 1442 = .ok (.aload_n 1, 1) := by decide +kernel
theorem dL_law__1443 : decode cL_law_ 1443 = .ok (.invokevirtual 172, 3) := by decide +kernel
theorem dL_law__1446 : decode cL_law_ 1446 = .ok (.aload_n 2, 1) := by decide +kernel
theorem dL_law__1447 : decode cL_law_ 1447 = .ok (.invokevirtual 175, 3) := by decide +kernel
theorem dL_law__1450 : decode cL_law_ 1450 = .ok (.if_icmp .eq 494, 3) := by decide +kernel
theorem dL_law__1453 : decode cL_law_ 1453 = .ok (.iconst 0, 1) := by decide +kernel
theorem dL_law__1454 : decode cL_law_ 1454 = .ok (.ireturn, 1) := by decide +kernel
theorem dL_law__1455 : decode cL_law_ 1455 = .ok (.aload_n 1, 1) := by decide +kernel
theorem dL_law__1456 : decode cL_law_ 1456 = .ok (.aload_n 0, 1) := by decide +kernel
theorem dL_law__1457 : decode cL_law_ 1457 = .ok (.iload 4, 2) := by decide +kernel
theorem dL_law__1459 : decode cL_law_ 1459 = .ok (.iconst 1, 1) := by decide +kernel
theorem dL_law__1460 : decode cL_law_ 1460 = .ok (.iadd, 1) := by decide +kernel
theorem dL_law__1461 : decode cL_law_ 1461 = .ok (.iaload, 1) := by decide +kernel
theorem dL_law__1462 : decode cL_law_ 1462 = .ok (.aload_n 3, 1) := by decide +kernel
theorem dL_law__1463 : decode cL_law_ 1463 = .ok (.invokestatic 176, 3) := by decide +kernel
theorem dL_law__1466 : decode cL_law_ 1466 = .ok (.istore 5, 2) := by decide +kernel
theorem dL_law__1468 : decode cL_law_ 1468 = .ok (.aload_n 2, 1) := by decide +kernel
theorem dL_law__1469 : decode cL_law_ 1469 = .ok (.aload_n 0, 1) := by decide +kernel
theorem dL_law__1470 : decode cL_law_ 1470 = .ok (.iload 4, 2) := by decide +kernel
theorem dL_law__1472 : decode cL_law_ 1472 = .ok (.iconst 1, 1) := by decide +kernel
theorem dL_law__1473 : decode cL_law_ 1473 = .ok (.iadd, 1) := by decide +kernel
theorem dL_law__1474 : decode cL_law_ 1474 = .ok (.iaload, 1) := by decide +kernel
theorem dL_law__1475 : decode cL_law_ 1475 = .ok (.invokevirtual 178, 3) := by decide +kernel
theorem dL_law__1478 : decode cL_law_ 1478 = .ok (.istore 6, 2) := by decide +kernel
theorem dL_law__1480 : decode cL_law_ 1480 = .ok (.aload_n 2, 1) := by decide +kernel
theorem dL_law__1481 : decode cL_law_ 1481 = .ok (.invokevirtual 105, 3) := by decide +kernel
theorem dL_law__1484 : decode cL_law_ 1484 = .ok (.iload 5, 2) := by decide +kernel
theorem dL_law__1486 : decode cL_law_ 1486 = .ok (.if_icmp .eq 5, 3) := by decide +kernel
theorem dL_law__1489 : decode cL_law_ 1489 = .ok (.iconst 0, 1) := by decide +kernel
theorem dL_law__1490 : decode cL_law_ 1490 = .ok (.ireturn, 1) := by decide +kernel
theorem dL_law__1491 : decode cL_law_ 1491 = .ok (.iload 5, 2) := by decide +kernel
theorem dL_law__1493 : decode cL_law_ 1493 = .ok (.ifCond .ne 15, 3) := by decide +kernel
theorem dL_law__1496 : decode cL_law_ 1496 = .ok (.aload_n 3, 1) := by decide +kernel
theorem dL_law__1497 : decode cL_law_ 1497 = .ok (.iconst 0, 1) := by decide +kernel
theorem dL_law__1498 : decode cL_law_ 1498 = .ok (.laload, 1) := by decide +kernel
theorem dL_law__1499 : decode cL_law_ 1499 = .ok (.iload 6, 2) := by decide +kernel
theorem dL_law__1501 : decode cL_law_ 1501 = .ok (.i2l, 1) := by decide +kernel
theorem dL_law__1502 : decode cL_law_ 1502 = .ok (.lcmp, 1) := by decide +kernel
theorem dL_law__1503 : decode cL_law_ 1503 = .ok (.ifCond .eq 5, 3) := by decide +kernel
theorem dL_law__1506 : decode cL_law_ 1506 = .ok (.iconst 0, 1) := by decide +kernel
theorem dL_law__1507 : decode cL_law_ 1507 = .ok (.ireturn, 1) := by decide +kernel
theorem dL_law__1508 : decode cL_law_ 1508 = .ok (.goto 436, 3) := by decide +kernel
theorem dL_law__1511 : decode cL_law_ 1511 = .ok (.aload_n 1, 1) := by decide +kernel
theorem dL_law__1512 : decode cL_law_ 1512 = .ok (.aload_n 0, 1) := by decide +kernel
theorem dL_law__1513 : decode cL_law_ 1513 = .ok (.iload 4, 2) := by decide +kernel
theorem dL_law__1515 : decode cL_law_ 1515 = .ok (.iconst 1, 1) := by decide +kernel
theorem dL_law__1516 : decode cL_law_ 1516 = .ok (.iadd, 1) := by decide +kernel
theorem dL_law__1517 : decode cL_law_ 1517 = .ok (.iaload, 1) := by decide +kernel
theorem dL_law__1518 : decode cL_law_ 1518 = .ok (.aload_n 3, 1) := by decide +kernel
theorem dL_law__1519 : decode cL_law_ 1519 = .ok (.invokestatic 179, 3) := by decide +kernel
theorem dL_law__1522 : decode cL_law_ 1522 = .ok (.istore 5, 2) := by decide +kernel
theorem dL_law__1524 : decode cL_law_ 1524 = .ok (.aload_n 2, 1) := by decide +kernel
theorem dL_law__1525 : decode cL_law_ 1525 = .ok (.aload_n 0, 1) := by decide +kernel
theorem dL_law__1526 : decode cL_law_ 1526 = .ok (.iload 4, 2) := by decide +kernel
theorem dL_law__1528 : decode cL_law_ 1528 = .ok (.iconst 1, 1) := by decide +kernel
theorem dL_law__1529 : decode cL_law_ 1529 = .ok (.iadd, 1) := by decide +kernel
theorem dL_law__1530 : decode cL_law_ 1530 = .ok (.iaload, 1) := by decide +kernel
theorem dL_law__1531 : decode cL_law_ 1531 = .ok (.invokevirtual 181, 3) := by decide +kernel
theorem dL_law__1534 : decode cL_law_ 1534 = .ok (.istore 6, 2) := by decide +kernel
theorem dL_law__1536 : decode cL_law_ 1536 = .ok (.aload_n 2, 1) := by decide +kernel
theorem dL_law__1537 : decode cL_law_ 1537 = .ok (.invokevirtual 105, 3) := by decide +kernel
theorem dL_law__1540 : decode cL_law_ 1540 = .ok (.iload 5, 2) := by decide +kernel
theorem dL_law__1542 : decode cL_law_ 1542 = .ok (.if_icmp .eq 5, 3) := by decide +kernel
theorem dL_law__1545 : decode cL_law_ 1545 = .ok (.iconst 0, 1) := by decide +kernel
theorem dL_law__1546 : decode cL_law_ 1546 = .ok (.ireturn, 1) := by decide +kernel
theorem dL_law__1547 : decode cL_law_ 1547 = .ok (.iload 5, 2) := by decide +kernel
theorem dL_law__1549 : decode cL_law_ 1549 = .ok (.ifCond .ne 15, 3) := by decide +kernel
theorem dL_law__1552 : decode cL_law_ 1552 = .ok (.aload_n 3, 1) := by decide +kernel
theorem dL_law__1553 : decode cL_law_ 1553 = .ok (.iconst 0, 1) := by decide +kernel
theorem dL_law__1554 : decode cL_law_ 1554 = .ok (.laload, 1) := by decide +kernel
theorem dL_law__1555 : decode cL_law_ 1555 = .ok (.iload 6, 2) := by decide +kernel
theorem dL_law__1557 : decode cL_law_ 1557 = .ok (.i2l, 1) := by decide +kernel
theorem dL_law__1558 : decode cL_law_ 1558 = .ok (.lcmp, 1) := by decide +kernel
theorem dL_law__1559 : decode cL_law_ 1559 = .ok (.ifCond .eq 5, 3) := by decide +kernel
theorem dL_law__1562 : decode cL_law_ 1562 = .ok (.iconst 0, 1) := by decide +kernel
theorem dL_law__1563 : decode cL_law_ 1563 = .ok (.ireturn, 1) := by decide +kernel
theorem dL_law__1564 : decode cL_law_ 1564 = .ok (.goto 380, 3) := by decide +kernel
theorem dL_law__1567 : decode cL_law_ 1567 = .ok (.aload_n 1, 1) := by decide +kernel
theorem dL_law__1568 : decode cL_law_ 1568 = .ok (.aload_n 0, 1) := by decide +kernel
theorem dL_law__1569 : decode cL_law_ 1569 = .ok (.iload 4, 2) := by decide +kernel
theorem dL_law__1571 : decode cL_law_ 1571 = .ok (.iconst 1, 1) := by decide +kernel
theorem dL_law__1572 : decode cL_law_ 1572 = .ok (.iadd, 1) := by decide +kernel
theorem dL_law__1573 : decode cL_law_ 1573 = .ok (.iaload, 1) := by decide +kernel
theorem dL_law__1574 : decode cL_law_ 1574 = .ok (.aload_n 0, 1) := by decide +kernel
theorem dL_law__1575 : decode cL_law_ 1575 = .ok (.iload 4, 2) := by decide +kernel
theorem dL_law__1577 : decode cL_law_ 1577 = .ok (.iconst 2, 1) := by decide +kernel
theorem dL_law__1578 : decode cL_law_ 1578 = .ok (.iadd, 1) := by decide +kernel
theorem dL_law__1579 : decode cL_law_ 1579 = .ok (.iaload, 1) := by decide +kernel
theorem dL_law__1580 : decode cL_law_ 1580 = .ok (.aload_n 0, 1) := by decide +kernel
theorem dL_law__1581 : decode cL_law_ 1581 = .ok (.iload 4, 2) := by decide +kernel
theorem dL_law__1583 : decode cL_law_ 1583 = .ok (.iconst 3, 1) := by decide +kernel
theorem dL_law__1584 : decode cL_law_ 1584 = .ok (.iadd, 1) := by decide +kernel
theorem dL_law__1585 : decode cL_law_ 1585 = .ok (.iaload, 1) := by decide +kernel
theorem dL_law__1586 : decode cL_law_ 1586 = .ok (.aload_n 3, 1) := by decide +kernel
theorem dL_law__1587 : decode cL_law_ 1587 = .ok (.invokestatic 182, 3) := by decide +kernel
theorem dL_law__1590 : decode cL_law_ 1590 = .ok (.istore 5, 2) := by decide +kernel
theorem dL_law__1592 : decode cL_law_ 1592 = .ok (.aload_n 2, 1) := by decide +kernel
theorem dL_law__1593 : decode cL_law_ 1593 = .ok (.aload_n 0, 1) := by decide +kernel
theorem dL_law__1594 : decode cL_law_ 1594 = .ok (.iload 4, 2) := by decide +kernel
theorem dL_law__1596 : decode cL_law_ 1596 = .ok (.iconst 1, 1) := by decide +kernel
theorem dL_law__1597 : decode cL_law_ 1597 = .ok (.iadd, 1) := by decide +kernel
theorem dL_law__1598 : decode cL_law_ 1598 = .ok (.iaload, 1) := by decide +kernel
theorem dL_law__1599 : decode cL_law_ 1599 = .ok (.aload_n 0, 1) := by decide +kernel
theorem dL_law__1600 : decode cL_law_ 1600 = .ok (.iload 4, 2) := by decide +kernel
theorem dL_law__1602 : decode cL_law_ 1602 = .ok (.iconst 2, 1) := by decide +kernel
theorem dL_law__1603 : decode cL_law_ 1603 = .ok (.iadd, 1) := by decide +kernel
theorem dL_law__1604 : decode cL_law_ 1604 = .ok (.iaload, 1) := by decide +kernel
theorem dL_law__1605 : decode cL_law_ 1605 = .ok (.aload_n 0, 1) := by decide +kernel
theorem dL_law__1606 : decode cL_law_ 1606 = .ok (.iload 4, 2) := by decide +kernel
theorem dL_law__1608 : decode cL_law_ 1608 = .ok (.iconst 3, 1) := by decide +kernel
theorem dL_law__1609 : decode cL_law_ 1609 = .ok (.iadd, 1) := by decide +kernel
theorem dL_law__1610 : decode cL_law_ 1610 = .ok (.iaload, 1) := by decide +kernel
theorem dL_law__1611 : decode cL_law_ 1611 = .ok (.invokevirtual 185, 3) := by decide +kernel
theorem dL_law__1614 : decode cL_law_ 1614 = .ok (.istore 6, 2) := by decide +kernel
theorem dL_law__1616 : decode cL_law_ 1616 = .ok (.aload_n 2, 1) := by decide +kernel
theorem dL_law__1617 : decode cL_law_ 1617 = .ok (.invokevirtual 105, 3) := by decide +kernel
theorem dL_law__1620 : decode cL_law_ 1620 = .ok (.iload 5, 2) := by decide +kernel
theorem dL_law__1622 : decode cL_law_ 1622 = .ok (.if_icmp .eq 5, 3) := by decide +kernel
theorem dL_law__1625 : decode cL_law_ 1625 = .ok (.iconst 0, 1) := by decide +kernel
theorem dL_law__1626 : decode cL_law_ 1626 = .ok (.ireturn, 1) := by decide +kernel
theorem dL_law__1627 : decode cL_law_ 1627 = .ok (.iload 5, 2) := by decide +kernel
theorem dL_law__1629 : decode cL_law_ 1629 = .ok (.ifCond .ne 15, 3) := by decide +kernel
theorem dL_law__1632 : decode cL_law_ 1632 = .ok (.aload_n 3, 1) := by decide +kernel
theorem dL_law__1633 : decode cL_law_ 1633 = .ok (.iconst 0, 1) := by decide +kernel
theorem dL_law__1634 : decode cL_law_ 1634 = .ok (.laload, 1) := by decide +kernel
theorem dL_law__1635 : decode cL_law_ 1635 = .ok (.iload 6, 2) := by decide +kernel
theorem dL_law__1637 : decode cL_law_ 1637 = .ok (.i2l, 1) := by decide +kernel
theorem dL_law__1638 : decode cL_law_ 1638 = .ok (.lcmp, 1) := by decide +kernel
theorem dL_law__1639 : decode cL_law_ 1639 = .ok (.ifCond .eq 5, 3) := by decide +kernel
theorem dL_law__1642 : decode cL_law_ 1642 = .ok (.iconst 0, 1) := by decide +kernel
theorem dL_law__1643 : decode cL_law_ 1643 = .ok (.ireturn, 1) := by decide +kernel
theorem dL_law__1644 : decode cL_law_ 1644 = .ok (.goto 300, 3) := by decide +kernel
theorem dL_law__1647 : decode cL_law_ 1647 = .ok (.aload_n 1, 1) := by decide +kernel
theorem dL_law__1648 : decode cL_law_ 1648 = .ok (.aload_n 0, 1) := by decide +kernel
theorem dL_law__1649 : decode cL_law_ 1649 = .ok (.iload 4, 2) := by decide +kernel
theorem dL_law__1651 : decode cL_law_ 1651 = .ok (.iconst 1, 1) := by decide +kernel
theorem dL_law__1652 : decode cL_law_ 1652 = .ok (.iadd, 1) := by decide +kernel
theorem dL_law__1653 : decode cL_law_ 1653 = .ok (.iaload, 1) := by decide +kernel
theorem dL_law__1654 : decode cL_law_ 1654 = .ok (.aload_n 3, 1) := by decide +kernel
theorem dL_law__1655 : decode cL_law_ 1655 = .ok (.invokestatic 186, 3) := by decide +kernel
theorem dL_law__1658 : decode cL_law_ 1658 = .ok (.istore 5, 2) := by decide +kernel
theorem dL_law__1660 : decode cL_law_ 1660 = .ok (.aload_n 2, 1) := by decide +kernel
theorem dL_law__1661 : decode cL_law_ 1661 = .ok (.aload_n 0, 1) := by decide +kernel
theorem dL_law__1662 : decode cL_law_ 1662 = .ok (.iload 4, 2) := by decide +kernel
theorem dL_law__1664 : decode cL_law_ 1664 = .ok (.iconst 1, 1) := by decide +kernel
theorem dL_law__1665 : decode cL_law_ 1665 = .ok (.iadd, 1) := by decide +kernel
theorem dL_law__1666 : decode cL_law_ 1666 = .ok (.iaload, 1) := by decide +kernel
theorem dL_law__1667 : decode cL_law_ 1667 = .ok (.invokevirtual 188, 3) := by decide +kernel
theorem dL_law__1670 : decode cL_law_ 1670 = .ok (.istore 6, 2) := by decide +kernel
theorem dL_law__1672 : decode cL_law_ 1672 = .ok (.aload_n 2, 1) := by decide +kernel
theorem dL_law__1673 : decode cL_law_ 1673 = .ok (.invokevirtual 105, 3) := by decide +kernel
theorem dL_law__1676 : decode cL_law_ 1676 = .ok (.iload 5, 2) := by decide +kernel
theorem dL_law__1678 : decode cL_law_ 1678 = .ok (.if_icmp .eq 5, 3) := by decide +kernel
theorem dL_law__1681 : decode cL_law_ 1681 = .ok (.iconst 0, 1) := by decide +kernel
theorem dL_law__1682 : decode cL_law_ 1682 = .ok (.ireturn, 1) := by decide +kernel
theorem dL_law__1683 : decode cL_law_ 1683 = .ok (.iload 5, 2) := by decide +kernel
theorem dL_law__1685 : decode cL_law_ 1685 = .ok (.ifCond .ne 15, 3) := by decide +kernel
theorem dL_law__1688 : decode cL_law_ 1688 = .ok (.aload_n 3, 1) := by decide +kernel
theorem dL_law__1689 : decode cL_law_ 1689 = .ok (.iconst 0, 1) := by decide +kernel
theorem dL_law__1690 : decode cL_law_ 1690 = .ok (.laload, 1) := by decide +kernel
theorem dL_law__1691 : decode cL_law_ 1691 = .ok (.iload 6, 2) := by decide +kernel
theorem dL_law__1693 : decode cL_law_ 1693 = .ok (.i2l, 1) := by decide +kernel
theorem dL_law__1694 : decode cL_law_ 1694 = .ok (.lcmp, 1) := by decide +kernel
theorem dL_law__1695 : decode cL_law_ 1695 = .ok (.ifCond .eq 5, 3) := by decide +kernel
theorem dL_law__1698 : decode cL_law_ 1698 = .ok (.iconst 0, 1) := by decide +kernel
theorem dL_law__1699 : decode cL_law_ 1699 = .ok (.ireturn, 1) := by decide +kernel
theorem dL_law__1700 : decode cL_law_ 1700 = .ok (.goto 244, 3) := by decide +kernel
theorem dL_law__1703 : decode cL_law_ 1703 = .ok (.aload_n 1, 1) := by decide +kernel
theorem dL_law__1704 : decode cL_law_ 1704 = .ok (.aload_n 0, 1) := by decide +kernel
theorem dL_law__1705 : decode cL_law_ 1705 = .ok (.iload 4, 2) := by decide +kernel
theorem dL_law__1707 : decode cL_law_ 1707 = .ok (.iconst 1, 1) := by decide +kernel
theorem dL_law__1708 : decode cL_law_ 1708 = .ok (.iadd, 1) := by decide +kernel
theorem dL_law__1709 : decode cL_law_ 1709 = .ok (.iaload, 1) := by decide +kernel
theorem dL_law__1710 : decode cL_law_ 1710 = .ok (.aload_n 0, 1) := by decide +kernel
theorem dL_law__1711 : decode cL_law_ 1711 = .ok (.iload 4, 2) := by decide +kernel
theorem dL_law__1713 : decode cL_law_ 1713 = .ok (.iconst 2, 1) := by decide +kernel
theorem dL_law__1714 : decode cL_law_ 1714 = .ok (.iadd, 1) := by decide +kernel
theorem dL_law__1715 : decode cL_law_ 1715 = .ok (.iaload, 1) := by decide +kernel
theorem dL_law__1716 : decode cL_law_ 1716 = .ok (.aload_n 3, 1) := by decide +kernel
theorem dL_law__1717 : decode cL_law_ 1717 = .ok (.invokestatic 189, 3) := by decide +kernel
theorem dL_law__1720 : decode cL_law_ 1720 = .ok (.istore 5, 2) := by decide +kernel
theorem dL_law__1722 : decode cL_law_ 1722 = .ok (.aload_n 2, 1) := by decide +kernel
theorem dL_law__1723 : decode cL_law_ 1723 = .ok (.aload_n 0, 1) := by decide +kernel
theorem dL_law__1724 : decode cL_law_ 1724 = .ok (.iload 4, 2) := by decide +kernel
theorem dL_law__1726 : decode cL_law_ 1726 = .ok (.iconst 1, 1) := by decide +kernel
theorem dL_law__1727 : decode cL_law_ 1727 = .ok (.iadd, 1) := by decide +kernel
theorem dL_law__1728 : decode cL_law_ 1728 = .ok (.iaload, 1) := by decide +kernel
theorem dL_law__1729 : decode cL_law_ 1729 = .ok (.aload_n 0, 1) := by decide +kernel
theorem dL_law__1730 : decode cL_law_ 1730 = .ok (.iload 4, 2) := by decide +kernel
theorem dL_law__1732 : decode cL_law_ 1732 = .ok (.iconst 2, 1) := by decide +kernel
theorem dL_law__1733 : decode cL_law_ 1733 = .ok (.iadd, 1) := by decide +kernel
theorem dL_law__1734 : decode cL_law_ 1734 = .ok (.iaload, 1) := by decide +kernel
theorem dL_law__1735 : decode cL_law_ 1735 = .ok (.invokevirtual 191, 3) := by decide +kernel
theorem dL_law__1738 : decode cL_law_ 1738 = .ok (.istore 6, 2) := by decide +kernel
theorem dL_law__1740 : decode cL_law_ 1740 = .ok (.aload_n 2, 1) := by decide +kernel
theorem dL_law__1741 : decode cL_law_ 1741 = .ok (.invokevirtual 105, 3) := by decide +kernel
theorem dL_law__1744 : decode cL_law_ 1744 = .ok (.iload 5, 2) := by decide +kernel
theorem dL_law__1746 : decode cL_law_ 1746 = .ok (.if_icmp .eq 5, 3) := by decide +kernel
theorem dL_law__1749 : decode cL_law_ 1749 = .ok (.iconst 0, 1) := by decide +kernel
theorem dL_law__1750 : decode cL_law_ 1750 = .ok (.ireturn, 1) := by decide +kernel
theorem dL_law__1751 : decode cL_law_ 1751 = .ok (.iload 5, 2) := by decide +kernel
theorem dL_law__1753 : decode cL_law_ 1753 = .ok (.ifCond .ne 15, 3) := by decide +kernel
theorem dL_law__1756 : decode cL_law_ 1756 = .ok (.aload_n 3, 1) := by decide +kernel
theorem dL_law__1757 : decode cL_law_ 1757 = .ok (.iconst 0, 1) := by decide +kernel
theorem dL_law__1758 : decode cL_law_ 1758 = .ok (.laload, 1) := by decide +kernel
theorem dL_law__1759 : decode cL_law_ 1759 = .ok (.iload 6, 2) := by decide +kernel
theorem dL_law__1761 : decode cL_law_ 1761 = .ok (.i2l, 1) := by decide +kernel
theorem dL_law__1762 : decode cL_law_ 1762 = .ok (.lcmp, 1) := by decide +kernel
theorem dL_law__1763 : decode cL_law_ 1763 = .ok (.ifCond .eq 5, 3) := by decide +kernel
theorem dL_law__1766 : decode cL_law_ 1766 = .ok (.iconst 0, 1) := by decide +kernel
theorem dL_law__1767 : decode cL_law_ 1767 = .ok (.ireturn, 1) := by decide +kernel
theorem dL_law__1768 : decode cL_law_ 1768 = .ok (.goto 176, 3) := by decide +kernel
theorem dL_law__1771 : decode cL_law_ 1771 = .ok (.aload_n 1, 1) := by decide +kernel
theorem dL_law__1772 : decode cL_law_ 1772 = .ok (.aload_n 0, 1) := by decide +kernel
theorem dL_law__1773 : decode cL_law_ 1773 = .ok (.iload 4, 2) := by decide +kernel
theorem dL_law__1775 : decode cL_law_ 1775 = .ok (.iconst 1, 1) := by decide +kernel
theorem dL_law__1776 : decode cL_law_ 1776 = .ok (.iadd, 1) := by decide +kernel
theorem dL_law__1777 : decode cL_law_ 1777 = .ok (.iaload, 1) := by decide +kernel
theorem dL_law__1778 : decode cL_law_ 1778 = .ok (.aload_n 0, 1) := by decide +kernel
theorem dL_law__1779 : decode cL_law_ 1779 = .ok (.iload 4, 2) := by decide +kernel
theorem dL_law__1781 : decode cL_law_ 1781 = .ok (.iconst 2, 1) := by decide +kernel
theorem dL_law__1782 : decode cL_law_ 1782 = .ok (.iadd, 1) := by decide +kernel
theorem dL_law__1783 : decode cL_law_ 1783 = .ok (.iaload, 1) := by decide +kernel
theorem dL_law__1784 : decode cL_law_ 1784 = .ok (.aload_n 3, 1) := by decide +kernel
theorem dL_law__1785 : decode cL_law_ 1785 = .ok (.invokestatic 192, 3) := by decide +kernel
theorem dL_law__1788 : decode cL_law_ 1788 = .ok (.istore 5, 2) := by decide +kernel
theorem dL_law__1790 : decode cL_law_ 1790 = .ok (.aload_n 2, 1) := by decide +kernel
theorem dL_law__1791 : decode cL_law_ 1791 = .ok (.aload_n 0, 1) := by decide +kernel
theorem dL_law__1792 : decode cL_law_ 1792 = .ok (.iload 4, 2) := by decide +kernel
theorem dL_law__1794 : decode cL_law_ 1794 = .ok (.iconst 1, 1) := by decide +kernel
theorem dL_law__1795 : decode cL_law_ 1795 = .ok (.iadd, 1) := by decide +kernel
theorem dL_law__1796 : decode cL_law_ 1796 = .ok (.iaload, 1) := by decide +kernel
theorem dL_law__1797 : decode cL_law_ 1797 = .ok (.aload_n 0, 1) := by decide +kernel
theorem dL_law__1798 : decode cL_law_ 1798 = .ok (.iload 4, 2) := by decide +kernel
theorem dL_law__1800 : decode cL_law_ 1800 = .ok (.iconst 2, 1) := by decide +kernel
theorem dL_law__1801 : decode cL_law_ 1801 = .ok (.iadd, 1) := by decide +kernel
theorem dL_law__1802 : decode cL_law_ 1802 = .ok (.iaload, 1) := by decide +kernel
theorem dL_law__1803 : decode cL_law_ 1803 = .ok (.invokevirtual 194, 3) := by decide +kernel
theorem dL_law__1806 : decode cL_law_ 1806 = .ok (.istore 6, 2) := by decide +kernel
theorem dL_law__1808 : decode cL_law_ 1808 = .ok (.aload_n 2, 1) := by decide +kernel
theorem dL_law__1809 : decode cL_law_ 1809 = .ok (.invokevirtual 105, 3) := by decide +kernel
theorem dL_law__1812 : decode cL_law_ 1812 = .ok (.iload 5, 2) := by decide +kernel
theorem dL_law__1814 : decode cL_law_ 1814 = .ok (.if_icmp .eq 5, 3) := by decide +kernel
theorem dL_law__1817 : decode cL_law_ 1817 = .ok (.iconst 0, 1) := by decide +kernel
theorem dL_law__1818 : decode cL_law_ 1818 = .ok (.ireturn, 1) := by decide +kernel
theorem dL_law__1819 : decode cL_law_ 1819 = .ok (.iload 5, 2) := by decide +kernel
theorem dL_law__1821 : decode cL_law_ 1821 = .ok (.ifCond .ne 15, 3) := by decide +kernel
theorem dL_law__1824 : decode cL_law_ 1824 = .ok (.aload_n 3, 1) := by decide +kernel
theorem dL_law__1825 : decode cL_law_ 1825 = .ok (.iconst 0, 1) := by decide +kernel
theorem dL_law__1826 : decode cL_law_ 1826 = .ok (.laload, 1) := by decide +kernel
theorem dL_law__1827 : decode cL_law_ 1827 = .ok (.iload 6, 2) := by decide +kernel
theorem dL_law__1829 : decode cL_law_ 1829 = .ok (.i2l, 1) := by decide +kernel
theorem dL_law__1830 : decode cL_law_ 1830 = .ok (.lcmp, 1) := by decide +kernel
theorem dL_law__1831 : decode cL_law_ 1831 = .ok (.ifCond .eq 5, 3) := by decide +kernel
theorem dL_law__1834 : decode cL_law_ 1834 = .ok (.iconst 0, 1) := by decide +kernel
theorem dL_law__1835 : decode cL_law_ 1835 = .ok (.ireturn, 1) := by decide +kernel
theorem dL_law__1836 : decode cL_law_ 1836 = .ok (.goto 108, 3) := by decide +kernel
theorem dL_law__1839 : decode cL_law_ 1839 = .ok (.aload_n 1, 1) := by decide +kernel
theorem dL_law__1840 : decode cL_law_ 1840 = .ok (.invokevirtual 195, 3) := by decide +kernel
theorem dL_law__1843 : decode cL_law_ 1843 = .ok (.aload_n 2, 1) := by decide +kernel
theorem dL_law__1844 : decode cL_law_ 1844 = .ok (.invokevirtual 198, 3) := by decide +kernel
theorem dL_law__1847 : decode cL_law_ 1847 = .ok (.if_icmp .eq 97, 3) := by decide +kernel
theorem dL_law__1850 : decode cL_law_ 1850 = .ok (.iconst 0, 1) := by decide +kernel
theorem dL_law__1851 : decode cL_law_ 1851 = .ok (.ireturn, 1) := by decide +kernel
theorem dL_law__1852 : decode cL_law_ 1852 = .ok (.aload_n 1, 1) := by decide +kernel
theorem dL_law__1853 : decode cL_law_ 1853 = .ok (.aload_n 0, 1) := by decide +kernel
theorem dL_law__1854 : decode cL_law_ 1854 = .ok (.iload 4, 2) := by decide +kernel
theorem dL_law__1856 : decode cL_law_ 1856 = .ok (.iconst 1, 1) := by decide +kernel
theorem dL_law__1857 : decode cL_law_ 1857 = .ok (.iadd, 1) := by decide +kernel
theorem dL_law__1858 : decode cL_law_ 1858 = .ok (.iaload, 1) := by decide +kernel
theorem dL_law__1859 : decode cL_law_ 1859 = .ok (.aload_n 0, 1) := by decide +kernel
theorem dL_law__1860 : decode cL_law_ 1860 = .ok (.iload 4, 2) := by decide +kernel
theorem dL_law__1862 : decode cL_law_ 1862 = .ok (.iconst 2, 1) := by decide +kernel
theorem dL_law__1863 : decode cL_law_ 1863 = .ok (.iadd, 1) := by decide +kernel
theorem dL_law__1864 : decode cL_law_ 1864 = .ok (.iaload, 1) := by decide +kernel
theorem dL_law__1865 : decode cL_law_ 1865 = .ok (.aload_n 3, 1) := by decide +kernel
theorem dL_law__1866 : decode cL_law_ 1866 = .ok (.invokestatic 199, 3) := by decide +kernel
theorem dL_law__1869 : decode cL_law_ 1869 = .ok (.istore 5, 2) := by decide +kernel
theorem dL_law__1871 : decode cL_law_ 1871 = .ok (.aload_n 2, 1) := by decide +kernel
theorem dL_law__1872 : decode cL_law_ 1872 = .ok (.aload_n 0, 1) := by decide +kernel
theorem dL_law__1873 : decode cL_law_ 1873 = .ok (.iload 4, 2) := by decide +kernel
theorem dL_law__1875 : decode cL_law_ 1875 = .ok (.iconst 1, 1) := by decide +kernel
theorem dL_law__1876 : decode cL_law_ 1876 = .ok (.iadd, 1) := by decide +kernel
theorem dL_law__1877 : decode cL_law_ 1877 = .ok (.iaload, 1) := by decide +kernel
theorem dL_law__1878 : decode cL_law_ 1878 = .ok (.aload_n 0, 1) := by decide +kernel
theorem dL_law__1879 : decode cL_law_ 1879 = .ok (.iload 4, 2) := by decide +kernel
theorem dL_law__1881 : decode cL_law_ 1881 = .ok (.iconst 2, 1) := by decide +kernel
theorem dL_law__1882 : decode cL_law_ 1882 = .ok (.iadd, 1) := by decide +kernel
theorem dL_law__1883 : decode cL_law_ 1883 = .ok (.iaload, 1) := by decide +kernel
theorem dL_law__1884 : decode cL_law_ 1884 = .ok (.invokevirtual 201, 3) := by decide +kernel
theorem dL_law__1887 : decode cL_law_ 1887 = .ok (.istore 6, 2) := by decide +kernel
theorem dL_law__1889 : decode cL_law_ 1889 = .ok (.aload_n 2, 1) := by decide +kernel
theorem dL_law__1890 : decode cL_law_ 1890 = .ok (.invokevirtual 105, 3) := by decide +kernel
theorem dL_law__1893 : decode cL_law_ 1893 = .ok (.iload 5, 2) := by decide +kernel
theorem dL_law__1895 : decode cL_law_ 1895 = .ok (.if_icmp .eq 5, 3) := by decide +kernel
theorem dL_law__1898 : decode cL_law_ 1898 = .ok (.iconst 0, 1) := by decide +kernel
theorem dL_law__1899 : decode cL_law_ 1899 = .ok (.ireturn, 1) := by decide +kernel
theorem dL_law__1900 : decode cL_law_ 1900 = .ok (.iload 5, 2) := by decide +kernel
theorem dL_law__1902 : decode cL_law_ 1902 = .ok (.ifCond .ne 15, 3) := by decide +kernel
theorem dL_law__1905 : decode cL_law_ 1905 = .ok (.aload_n 3, 1) := by decide +kernel
theorem dL_law__1906 : decode cL_law_ 1906 = .ok (.iconst 0, 1) := by decide +kernel
theorem dL_law__1907 : decode cL_law_ 1907 = .ok (.laload, 1) := by decide +kernel
theorem dL_law__1908 : decode cL_law_ 1908 = .ok (.iload 6, 2) := by decide +kernel
theorem dL_law__1910 : decode cL_law_ 1910 = .ok (.i2l, 1) := by decide +kernel
theorem dL_law__1911 : decode cL_law_ 1911 = .ok (.lcmp, 1) := by decide +kernel
theorem dL_law__1912 : decode cL_law_ 1912 = .ok (.ifCond .eq 5, 3) := by decide +kernel
theorem dL_law__1915 : decode cL_law_ 1915 = .ok (.iconst 0, 1) := by decide +kernel
theorem dL_law__1916 : decode cL_law_ 1916 = .ok (.ireturn, 1) := by decide +kernel
theorem dL_law__1917 : decode cL_law_ 1917 = .ok (.goto 27, 3) := by decide +kernel
theorem dL_law__1920 : decode cL_law_ 1920 = .ok (.aload_n 1, 1) := by decide +kernel
theorem dL_law__1921 : decode cL_law_ 1921 = .ok (.invokevirtual 202, 3) := by decide +kernel
theorem dL_law__1924 : decode cL_law_ 1924 = .ok (.aload_n 2, 1) := by decide +kernel
theorem dL_law__1925 : decode cL_law_ 1925 = .ok (.invokevirtual 205, 3) := by decide +kernel
theorem dL_law__1928 : decode cL_law_ 1928 = .ok (.goto 16, 3) := by decide +kernel
theorem dL_law__1931 : decode cL_law_ 1931 = .ok (.aload_n 1, 1) := by decide +kernel
theorem dL_law__1932 : decode cL_law_ 1932 = .ok (.invokevirtual 206, 3) := by decide +kernel
theorem dL_law__1935 : decode cL_law_ 1935 = .ok (.aload_n 2, 1) := by decide +kernel
theorem dL_law__1936 : decode cL_law_ 1936 = .ok (.invokevirtual 210, 3) := by decide +kernel
theorem dL_law__1939 : decode cL_law_ 1939 = .ok (.if_icmp .eq 5, 3) := by decide +kernel
theorem dL_law__1942 : decode cL_law_ 1942 = .ok (.iconst 0, 1) := by decide +kernel
theorem dL_law__1943 : decode cL_law_ 1943 = .ok (.ireturn, 1) := by decide +kernel
theorem dL_law__1944 : decode cL_law_ 1944 = .ok (.iinc 4 6, 3) := by decide +kernel
theorem dL_law__1947 : decode cL_law_ 1947 = .ok (.goto (-1924), 3) := by decide +kernel
theorem dL_law__1950 : decode cL_law_ 1950 = .ok (.iconst 1, 1) := by decide +kernel
theorem dL_law__1951 : decode cL_law_ 1951 = .ok (.ireturn, 1) := by decide +kernel
