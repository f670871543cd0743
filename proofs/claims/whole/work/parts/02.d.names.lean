theorem dX6_isNewLeap_10 : decode cX6_isNewLeap 10 = .ok (.ifCond .ne 11, 3) := by decide +kernel
theorem dX6_isNewLeap_13 : decode cX6_isNewLeap 13 = .ok (.iload_n 0, 1) := by decide +kernel
theorem dX6_isNewLeap_14 : decode cX6_isNewLeap 14 = .ok (.sipush 400, 3) := by decide +kernel
theorem dX6_isNewLeap_17 : decode cX6_isNewLeap 17 = .ok (.irem, 1) := by decide +kernel
theorem dX6_isNewLeap_18 : decode cX6_isNewLeap 18 = .ok (.ifCond .ne 7, 3) := by decide +kernel
theorem dX6_isNewLeap_21 : decode cX6_isNewLeap 21 = .ok (.iconst 1, 1) := by decide +kernel
theorem dX6_isNewLeap_22 : decode cX6_isNewLeap 22 = .ok (.goto 4, 3) := by decide +kernel
theorem dX6_isNewLeap_25 : decode cX6_isNewLeap 25 = .ok (.iconst 0, 1) := by decide +kernel
theorem dX6_isNewLeap_26 : decode cX6_isNewLeap 26 = .ok (.ireturn, 1) := by decide +kernel
set_option maxRecDepth 20000 in
theorem ggX6_monthDays_X6_isIn : GoodIn wsX6_monthDays wsX6_isIn := goodIn_r _ [5] (by decide +kernel) (by decide +kernel)
set_option maxRecDepth 20000 in
theorem gX6_monthDays_X6_isIn : GoodIn wsX6_monthDays (va_wsS RX6 44 yX6_isIn wsX6_isIn) := goodIn_app (goodIn_of _ (by decide +kernel)) ggX6_monthDays_X6_isIn
theorem dX6_monthDays_0 : decode cX6_monthDays 0 = .ok (.iload_n 0, 1) := by decide +kernel
theorem dX6_monthDays_1 : decode cX6_monthDays 1 = .ok (.iconst 1, 1) := by decide +kernel
theorem dX6_monthDays_2 : decode cX6_monthDays 2 = .ok (.bipush 12, 2) := by decide +kernel
theorem dX6_monthDays_4 : decode cX6_monthDays 4 = .ok (.invokestatic 44, 3) := by decide +kernel
theorem dX6_monthDays_7 : decode cX6_monthDays 7 = .ok (.ifCond .ne 5, 3) := by decide +kernel
theorem dX6_monthDays_10 : decode cX6_monthDays 10 = .ok (.iconst 0, 1) := by decide +kernel
theorem dX6_monthDays_11 : decode cX6_monthDays 11 = .ok (.ireturn, 1) := by decide +kernel
theorem dX6_monthDays_12 : decode cX6_monthDays 12 = .ok (.iload_n 0, 1) := by decide +kernel
theorem dX6_monthDays_13 : decode cX6_monthDays 13 = .ok (.iconst 2, 1) := by decide +kernel
theorem dX6_monthDays_14 : decode cX6_monthDays 14 = .ok (.if_icmp .ne 19, 3) := by decide +kernel
theorem dX6_monthDays_17 : decode cX6_monthDays 17 = .ok (.iload_n 1, 1) := by decide +kernel
theorem dX6_monthDays_18 : decode cX6_monthDays 18 = .ok (.ifCond .eq 15, 3) := by decide +kernel
theorem dX6_monthDays_21 : decode cX6_monthDays 21 = .ok (.getstatic 149, 3) := by decide +kernel
theorem dX6_monthDays_24 : decode cX6_monthDays 24 = .ok (.iload_n 0, 1) := by decide +kernel
theorem dX6_monthDays_25 : decode cX6_monthDays 25 = .ok (.iconst 1, 1) := by decide +kernel
theorem dX6_monthDays_26 : decode cX6_monthDays 26 = .ok (.isub, 1) := by decide +kernel
theorem dX6_monthDays_27 : decode cX6_monthDays 27 = .ok (.iaload, 1) := by decide +kernel
theorem dX6_monthDays_28 : decode cX6_monthDays 28 = .ok (.iconst 1, 1) := by decide +kernel
theorem dX6_monthDays_29 : decode cX6_monthDays 29 = .ok (.iadd, 1) := by decide +kernel
theorem dX6_monthDays_30 : decode cX6_monthDays 30 = .ok (.goto 10, 3) := by decide +kernel
theorem dX6_monthDays_33 : decode cX6_monthDays 33 = .ok (.getstatic 149, 3) := by decide +kernel
theorem dX6_monthDays_36 : decode cX6_monthDays 36 = .ok (.iload_n 0, 1) := by decide +kernel
theorem dX6_monthDays_37 : decode cX6_monthDays 37 = .ok (.iconst 1, 1) := by decide +kernel
theorem dX6_monthDays_38 : decode cX6_monthDays 38 = .ok (.isub, 1) := by decide +kernel
theorem dX6_monthDays_39 : decode cX6_monthDays 39 = .ok (.iaload, 1) := by decide +kernel
theorem dX6_monthDays_40 : decode cX6_monthDays 40 = .ok (.ireturn, 1) := by decide +kernel
set_option maxRecDepth 20000 in
theorem ggX6_oldDayNumber_X6_isOldLeap : GoodIn wsX6_oldDayNumber wsX6_isOldLeap := goodIn_r _ [4] (by decide +kernel) (by decide +kernel)
set_option maxRecDepth 20000 in
theorem gX6_oldDayNumber_X6_isOldLeap : GoodIn wsX6_oldDayNumber (va_wsS RX6 142 yX6_isOldLeap wsX6_isOldLeap) := goodIn_app (goodIn_of _ (by decide +kernel)) ggX6_oldDayNumber_X6_isOldLeap
set_option maxRecDepth 20000 in
theorem ggX6_oldDayNumber_X6_monthDays : GoodIn wsX6_oldDayNumber wsX6_monthDays := goodIn_r _ [7, 8, 9, 10, 3, 11] (by decide +kernel) (by decide +kernel)
set_option maxRecDepth 20000 in
theorem gX6_oldDayNumber_X6_monthDays : GoodIn wsX6_oldDayNumber (va_wsS RX6 145 yX6_monthDays wsX6_monthDays) := goodIn_app (goodIn_of _ (by decide +kernel)) ggX6_oldDayNumber_X6_monthDays
theorem dX6_oldDayNumber_0 : decode cX6_oldDayNumber 0 = .ok (.sipush 365, 3) := by decide +kernel
theorem dX6_oldDayNumber_3 : decode cX6_oldDayNumber 3 = .ok (.iload_n 0, 1) := by decide +kernel
theorem dX6_oldDayNumber_4 : decode cX6_oldDayNumber 4 = .ok (.iconst 1, 1) := by decide +kernel
theorem dX6_oldDayNumber_5 : decode cX6_oldDayNumber 5 = .ok (.isub, 1) := by decide +kernel
theorem dX6_oldDayNumber_6 : decode cX6_oldDayNumber 6 = .ok (.imul, 1) := by decide +kernel
theorem dX6_oldDayNumber_7 : decode cX6_oldDayNumber 7 = .ok (.iload_n 0, 1) := by decide +kernel
theorem dX6_oldDayNumber_8 : decode cX6_oldDayNumber 8 = .ok (.iconst 1, 1) := by decide +kernel
theorem dX6_oldDayNumber_9 : decode cX6_oldDayNumber 9 = .ok (.isub, 1) := by decide +kernel
theorem dX6_oldDayNumber_10 : decode cX6_oldDayNumber 10 = .ok (.iconst 4, 1) := by decide +kernel
theorem dX6_oldDayNumber_11 : decode cX6_oldDayNumber 11 = .ok (.idiv, 1) := by decide +kernel
theorem dX6_oldDayNumber_12 : decode cX6_oldDayNumber 12 = .ok (.iadd, 1) := by decide +kernel
theorem dX6_oldDayNumber_13 : decode cX6_oldDayNumber 13 = .ok (.iload_n 2, 1) := by decide +kernel
theorem dX6_oldDayNumber_14 : decode cX6_oldDayNumber 14 = .ok (.iadd, 1) := by decide +kernel
theorem dX6_oldDayNumber_15 : decode cX6_oldDayNumber 15 = .ok (.iconst 2, 1) := by decide +kernel
theorem dX6_oldDayNumber_16 : decode cX6_oldDayNumber 16 = .ok (.isub, 1) := by decide +kernel
theorem dX6_oldDayNumber_17 : decode cX6_oldDayNumber 17 = .ok (.istore_n 3, 1) := by decide +kernel
theorem dX6_oldDayNumber_18 : decode cX6_oldDayNumber 18 = .ok (.iconst 1, 1) := by decide +kernel
theorem dX6_oldDayNumber_19 : decode cX6_oldDayNumber 19 = .ok (.istore 4, 2) := by decide +kernel
theorem dX6_oldDayNumber_21 : decode cX6_oldDayNumber 21 = .ok (.iload 4, 2) := by decide +kernel
theorem dX6_oldDayNumber_23 : decode cX6_oldDayNumber 23 = .ok (.iload_n 1, 1) := by decide +kernel
theorem dX6_oldDayNumber_24 : decode cX6_oldDayNumber 24 = .ok (.if_icmp .ge 21, 3) := by decide +kernel
theorem dX6_oldDayNumber_27 : decode cX6_oldDayNumber 27 = .ok (.iload_n 3, 1) := by decide +kernel
theorem dX6_oldDayNumber_28 : decode cX6_oldDayNumber 28 = .ok (.iload 4, 2) := by decide +kernel
theorem dX6_oldDayNumber_30 : decode cX6_oldDayNumber 30 = .ok (.iload_n 0, 1) := by decide +kernel
theorem dX6_oldDayNumber_31 : decode cX6_oldDayNumber 31 = .ok (.invokestatic 142, 3) := by decide +kernel
theorem dX6_oldDayNumber_34 : decode cX6_oldDayNumber 34 = .ok (.invokestatic 145, 3) := by decide +kernel
theorem dX6_oldDayNumber_37 : decode cX6_oldDayNumber 37 = .ok (.iadd, 1) := by decide +kernel
theorem dX6_oldDayNumber_38 : decode cX6_oldDayNumber 38 = .ok (.istore_n 3, 1) := by decide +kernel
theorem dX6_oldDayNumber_39 : decode cX6_oldDayNumber 39 = .ok (.iinc 4 1, 3) := by decide +kernel
theorem dX6_oldDayNumber_42 : decode cX6_oldDayNumber 42 = .ok (.goto (-21), 3) := by decide +kernel
theorem dX6_oldDayNumber_45 : decode cX6_oldDayNumber 45 = .ok (.iload_n 3, 1) := by decide +kernel
theorem dX6_oldDayNumber_46 : decode cX6_oldDayNumber 46 = .ok (.ireturn, 1) := by decide +kernel
theorem dX6_newDaysAhead_0 : decode cX6_newDaysAhead 0 = .ok (.sipush 365, 3) := by decide +kernel
theorem dX6_newDaysAhead_3 : decode cX6_newDaysAhead 3 = .ok (.iload_n 0, 1) := by decide +kernel
theorem dX6_newDaysAhead_4 : decode cX6_newDaysAhead 4 = .ok (.iconst 1, 1) := by decide +kernel
theorem dX6_newDaysAhead_5 : decode cX6_newDaysAhead 5 = .ok (.isub, 1) := by decide +kernel
theorem dX6_newDaysAhead_6 : decode cX6_newDaysAhead 6 = .ok (.imul, 1) := by decide +kernel
theorem dX6_newDaysAhead_7 : decode cX6_newDaysAhead 7 = .ok (.iload_n 0, 1) := by decide +kernel
theorem dX6_newDaysAhead_8 : decode cX6_newDaysAhead 8 = .ok (.iconst 1, 1) := by decide +kernel
theorem dX6_newDaysAhead_9 : decode cX6_newDaysAhead 9 = .ok (.isub, 1) := by decide +kernel
theorem dX6_newDaysAhead_10 : decode cX6_newDaysAhead 10 = .ok (.iconst 4, 1) := by decide +kernel
theorem dX6_newDaysAhead_11 : decode cX6_newDaysAhead 11 = .ok (.idiv, 1) := by decide +kernel
theorem dX6_newDaysAhead_12 : decode cX6_newDaysAhead 12 = .ok (.iadd, 1) := by decide +kernel
theorem dX6_newDaysAhead_13 : decode cX6_newDaysAhead 13 = .ok (.iload_n 0, 1) := by decide +kernel
theorem dX6_newDaysAhead_14 : decode cX6_newDaysAhead 14 = .ok (.iconst 1, 1) := by decide +kernel
theorem dX6_newDaysAhead_15 : decode cX6_newDaysAhead 15 = .ok (.isub, 1) := by decide +kernel
theorem dX6_newDaysAhead_16 : decode cX6_newDaysAhead 16 = .ok (.bipush 100, 2) := by decide +kernel
theorem dX6_newDaysAhead_18 : decode cX6_newDaysAhead 18 = .ok (.idiv, 1) := by decide +kernel
theorem dX6_newDaysAhead_19 : decode cX6_newDaysAhead 19 = .ok (.isub, 1) := by decide +kernel
theorem dX6_newDaysAhead_20 : decode cX6_newDaysAhead 20 = .ok (.iload_n 0, 1) := by decide +kernel
theorem dX6_newDaysAhead_21 : decode cX6_newDaysAhead 21 = .ok (.iconst 1, 1) := by decide +kernel
theorem dX6_newDaysAhead_22 : decode cX6_newDaysAhead 22 = .ok (.isub, 1) := by decide +kernel
theorem dX6_newDaysAhead_23 : decode cX6_newDaysAhead 23 = .ok (.sipush 400, 3) := by decide +kernel
theorem dX6_newDaysAhead_26 : decode cX6_newDaysAhead 26 = .ok (.idiv, 1) := by decide +kernel
theorem dX6_newDaysAhead_27 : decode cX6_newDaysAhead 27 = .ok (.iadd, 1) := by decide +kernel
theorem dX6_newDaysAhead_28 : decode cX6_newDaysAhead 28 = .ok (.ireturn, 1) := by decide +kernel
set_option maxRecDepth 20000 in
theorem ggX6_newStyleDay_X6_isNewLeap : GoodIn wsX6_newStyleDay wsX6_isNewLeap := goodIn_r _ [4] (by decide +kernel) (by decide +kernel)
set_option maxRecDepth 20000 in
theorem gX6_newStyleDay_X6_isNewLeap : GoodIn wsX6_newStyleDay (va_wsS RX6 152 yX6_isNewLeap wsX6_isNewLeap) := goodIn_app (goodIn_of _ (by decide +kernel)) ggX6_newStyleDay_X6_isNewLeap
set_option maxRecDepth 20000 in
theorem ggX6_newStyleDay_X6_monthDays : GoodIn wsX6_newStyleDay wsX6_monthDays := goodIn_r _ [7, 8, 9, 10, 3, 11] (by decide +kernel) (by decide +kernel)
set_option maxRecDepth 20000 in
theorem gX6_newStyleDay_X6_monthDays : GoodIn wsX6_newStyleDay (va_wsS RX6 145 yX6_monthDays wsX6_monthDays) := goodIn_app (goodIn_of _ (by decide +kernel)) ggX6_newStyleDay_X6_monthDays
theorem dX6_newStyleDay_0 : decode cX6_newStyleDay 0 = .ok (.iload_n 0, 1) := by decide +kernel
theorem dX6_newStyleDay_1 : decode cX6_newStyleDay 1 = .ok (.invokestatic 152, 3) := by decide +kernel
theorem dX6_newStyleDay_4 : decode cX6_newStyleDay 4 = .ok (.istore_n 2, 1) := by decide +kernel
theorem dX6_newStyleDay_5 : decode cX6_newStyleDay 5 = .ok (.iconst 1, 1) := by decide +kernel
theorem dX6_newStyleDay_6 : decode cX6_newStyleDay 6 = .ok (.istore_n 3, 1) := by decide +kernel
theorem dX6_newStyleDay_7 : decode cX6_newStyleDay 7 = .ok (.iload_n 1, 1) := by decide +kernel
theorem dX6_newStyleDay_8 : decode cX6_newStyleDay 8 = .ok (.istore 4, 2) := by decide +kernel
theorem dX6_newStyleDay_10 : decode cX6_newStyleDay 10 = .ok (.iload_n 3, 1) := by decide +kernel
theorem dX6_newStyleDay_11 : decode cX6_newStyleDay 11 = .ok (.bipush 12, 2) := by decide +kernel
theorem dX6_newStyleDay_13 : decode cX6_newStyleDay 13 = .ok (.if_icmp .ge 29, 3) := by decide +kernel
theorem dX6_newStyleDay_16 : decode cX6_newStyleDay 16 = .ok (.iload 4, 2) := by decide +kernel
theorem dX6_newStyleDay_18 : decode cX6_newStyleDay 18 = .ok (.iload_n 3, 1) := by decide +kernel
theorem dX6_newStyleDay_19 : decode cX6_newStyleDay 19 = .ok (.iload_n 2, 1) := by decide +kernel
theorem dX6_newStyleDay_20 : decode cX6_newStyleDay 20 = .ok (.invokestatic 145, 3) := by decide +kernel
theorem dX6_newStyleDay_23 : decode cX6_newStyleDay 23 = .ok (.if_icmp .le 19, 3) := by decide +kernel
theorem dX6_newStyleDay_26 : decode cX6_newStyleDay 26 = .ok (.iload 4, 2) := by decide +kernel
theorem dX6_newStyleDay_28 : decode cX6_newStyleDay 28 = .ok (.iload_n 3, 1) := by decide +kernel
theorem dX6_newStyleDay_29 : decode cX6_newStyleDay 29 = .ok (.iload_n 2, 1) := by decide +kernel
theorem dX6_newStyleDay_30 : decode cX6_newStyleDay 30 = .ok (.invokestatic 145, 3) := by decide +kernel
theorem dX6_newStyleDay_33 : decode cX6_newStyleDay 33 = .ok (.isub, 1) := by decide +kernel
theorem dX6_newStyleDay_34 : decode cX6_newStyleDay 34 = .ok (.istore 4, 2) := by decide +kernel
theorem dX6_newStyleDay_36 : decode cX6_newStyleDay 36 = .ok (.iinc 3 1, 3) := by decide +kernel
theorem dX6_newStyleDay_39 : decode cX6_newStyleDay 39 = .ok (.goto (-29), 3) := by decide +kernel
theorem dX6_newStyleDay_42 : decode cX6_newStyleDay 42 = .ok (.sipush 10000, 3) := by decide +kernel
theorem dX6_newStyleDay_45 : decode cX6_newStyleDay 45 = .ok (.iload_n 0, 1) := by decide +kernel
theorem dX6_newStyleDay_46 : decode cX6_newStyleDay 46 = .ok (.imul, 1) := by decide +kernel
theorem dX6_newStyleDay_47 : decode cX6_newStyleDay 47 = .ok (.bipush 100, 2) := by decide +kernel
theorem dX6_newStyleDay_49 : decode cX6_newStyleDay 49 = .ok (.iload_n 3, 1) := by decide +kernel
theorem dX6_newStyleDay_50 : decode cX6_newStyleDay 50 = .ok (.imul, 1) := by decide +kernel
theorem dX6_newStyleDay_51 : decode cX6_newStyleDay 51 = .ok (.iadd, 1) := by decide +kernel
theorem dX6_newStyleDay_52 : decode cX6_newStyleDay 52 = .ok (.iload 4, 2) := by decide +kernel
theorem dX6_newStyleDay_54 : decode cX6_newStyleDay 54 = .ok (.iadd, 1) := by decide +kernel
theorem dX6_newStyleDay_55 : decode cX6_newStyleDay 55 = .ok (.ireturn, 1) := by decide +kernel
set_option maxRecDepth 20000 in
theorem ggX6_pack_X6_isIn : GoodIn wsX6_pack wsX6_isIn := goodIn_r _ [4] (by decide +kernel) (by decide +kernel)
set_option maxRecDepth 20000 in
theorem gX6_pack_X6_isIn : GoodIn wsX6_pack (va_wsS RX6 44 yX6_isIn wsX6_isIn) := goodIn_app (goodIn_of _ (by decide +kernel)) ggX6_pack_X6_isIn
set_option maxRecDepth 20000 in
theorem ggX6_pack_X6_isRow : GoodIn wsX6_pack wsX6_isRow := goodIn_r _ [7] (by decide +kernel) (by decide +kernel)
set_option maxRecDepth 20000 in
theorem gX6_pack_X6_isRow : GoodIn wsX6_pack (va_wsS RX6 155 yX6_isRow wsX6_isRow) := goodIn_app (goodIn_of _ (by decide +kernel)) ggX6_pack_X6_isRow
set_option maxRecDepth 20000 in
theorem ggX6_pack_X6_sumOfChosen : GoodIn wsX6_pack wsX6_sumOfChosen := goodIn_r _ [10] (by decide +kernel) (by decide +kernel)
set_option maxRecDepth 20000 in
theorem gX6_pack_X6_sumOfChosen : GoodIn wsX6_pack (va_wsS RX6 159 yX6_sumOfChosen wsX6_sumOfChosen) := goodIn_app (goodIn_of _ (by decide +kernel)) ggX6_pack_X6_sumOfChosen
theorem dX6_pack_0 : decode cX6_pack 0 = .ok (.iload_n 3, 1) := by decide +kernel
theorem dX6_pack_1 : decode cX6_pack 1 = .ok (.iconst 1, 1) := by decide +kernel
theorem dX6_pack_2 : decode cX6_pack 2 = .ok (.bipush 9, 2) := by decide +kernel
theorem dX6_pack_4 : decode cX6_pack 4 = .ok (.invokestatic 44, 3) := by decide +kernel
theorem dX6_pack_7 : decode cX6_pack 7 = .ok (.ifCond .eq 40, 3) := by decide +kernel
theorem dX6_pack_10 : decode cX6_pack 10 = .ok (.iload_n 1, 1) := by decide +kernel
theorem dX6_pack_11 : decode cX6_pack 11 = .ok (.iload_n 3, 1) := by decide +kernel
theorem dX6_pack_12 : decode cX6_pack 12 = .ok (.invokestatic 155, 3) := by decide +kernel
theorem dX6_pack_15 : decode cX6_pack 15 = .ok (.ifCond .eq 32, 3) := by decide +kernel
theorem dX6_pack_18 : decode cX6_pack 18 = .ok (.iload_n 2, 1) := by decide +kernel
theorem dX6_pack_19 : decode cX6_pack 19 = .ok (.iload_n 3, 1) := by decide +kernel
theorem dX6_pack_20 : decode cX6_pack 20 = .ok (.invokestatic 155, 3) := by decide +kernel
theorem dX6_pack_23 : decode cX6_pack 23 = .ok (.ifCond .eq 24, 3) := by decide +kernel
theorem dX6_pack_26 : decode cX6_pack 26 = .ok (.iload 4, 2) := by decide +kernel
theorem dX6_pack_28 : decode cX6_pack 28 = .ok (.iconst 0, 1) := by decide +kernel
theorem dX6_pack_29 : decode cX6_pack 29 = .ok (.bipush 99, 2) := by decide +kernel
theorem dX6_pack_31 : decode cX6_pack 31 = .ok (.invokestatic 44, 3) := by decide +kernel
theorem dX6_pack_34 : decode cX6_pack 34 = .ok (.ifCond .eq 13, 3) := by decide +kernel
theorem dX6_pack_37 : decode cX6_pack 37 = .ok (.iload 5, 2) := by decide +kernel
theorem dX6_pack_39 : decode cX6_pack 39 = .ok (.iconst 0, 1) := by decide +kernel
theorem dX6_pack_40 : decode cX6_pack 40 = .ok (.iconst 1, 1) := by decide +kernel
theorem dX6_pack_41 : decode cX6_pack 41 = .ok (.invokestatic 44, 3) := by decide +kernel
theorem dX6_pack_44 : decode cX6_pack 44 = .ok (.ifCond .ne 6, 3) := by decide +kernel
theorem dX6_pack_47 : decode cX6_pack 47 = .ok (.bipush (-2), 2) := by decide +kernel
theorem dX6_pack_49 : decode cX6_pack 49 = .ok (.ireturn, 1) := by decide +kernel
theorem dX6_pack_50 : decode cX6_pack 50 = .ok (.iconst 0, 1) := by decide +kernel
theorem dX6_pack_51 : decode cX6_pack 51 = .ok (.istore 6, 2) := by decide +kernel
theorem dX6_pack_53 : decode cX6_pack 53 = .ok (.iconst 0, 1) := by decide +kernel
theorem dX6_pack_54 : decode cX6_pack 54 = .ok (.istore 7, 2) := by decide +kernel
theorem dX6_pack_56 : decode cX6_pack 56 = .ok (.iconst 1, 1) := by decide +kernel
theorem dX6_pack_57 : decode cX6_pack 57 = .ok (.istore 8, 2) := by decide +kernel
theorem dX6_pack_59 : decode cX6_pack 59 = .ok (.iload 8, 2) := by decide +kernel
theorem dX6_pack_61 : decode cX6_pack 61 = .ok (.iconst 1, 1) := by decide +kernel
theorem dX6_pack_62 : decode cX6_pack 62 = .ok (.iload_n 3, 1) := by decide +kernel
theorem dX6_pack_63 : decode cX6_pack 63 = .ok (.ishl, 1) := by decide +kernel
theorem dX6_pack_64 : decode cX6_pack 64 = .ok (.if_icmp .ge 45, 3) := by decide +kernel
theorem dX6_pack_67 : decode cX6_pack 67 = .ok (.iload_n 2, 1) := by decide +kernel
theorem dX6_pack_68 : decode cX6_pack 68 = .ok (.iload_n 3, 1) := by decide +kernel
theorem dX6_pack_69 : decode cX6_pack 69 = .ok (.iload 8, 2) := by decide +kernel
theorem dX6_pack_71 : decode cX6_pack 71 = .ok (.invokestatic 159, 3) := by decide +kernel
theorem dX6_pack_74 : decode cX6_pack 74 = .ok (.istore 9, 2) := by decide +kernel
theorem dX6_pack_76 : decode cX6_pack 76 = .ok (.iload 9, 2) := by decide +kernel
theorem dX6_pack_78 : decode cX6_pack 78 = .ok (.iload 6, 2) := by decide +kernel
theorem dX6_pack_80 : decode cX6_pack 80 = .ok (.if_icmp .le 23, 3) := by decide +kernel
theorem dX6_pack_83 : decode cX6_pack 83 = .ok (.iload_n 1, 1) := by decide +kernel
theorem dX6_pack_84 : decode cX6_pack 84 = .ok (.iload_n 3, 1) := by decide +kernel
theorem dX6_pack_85 : decode cX6_pack 85 = .ok (.iload 8, 2) := by decide +kernel
theorem dX6_pack_87 : decode cX6_pack 87 = .ok (.invokestatic 159, 3) := by decide +kernel
theorem dX6_pack_90 : decode cX6_pack 90 = .ok (.iload 4, 2) := by decide +kernel
theorem dX6_pack_92 : decode cX6_pack 92 = .ok (.if_icmp .gt 11, 3) := by decide +kernel
theorem dX6_pack_95 : decode cX6_pack 95 = .ok (.iload 9, 2) := by decide +kernel
theorem dX6_pack_97 : decode cX6_pack 97 = .ok (.istore 6, 2) := by decide +kernel
theorem dX6_pack_99 : decode cX6_pack 99 = .ok (.iload 8, 2) := by decide +kernel
theorem dX6_pack_101 : decode cX6_pack 101 = .ok (.istore 7, 2) := by decide +kernel
theorem dX6_pack_103 : decode cX6_pack 103 = .ok (.iinc 8 1, 3) := by decide +kernel
theorem dX6_pack_106 : decode cX6_pack 106 = .ok (.goto (-47), 3) := by decide +kernel
theorem dX6_pack_109 : decode cX6_pack 109 = .ok (.iload 5, 2) := by decide +kernel
theorem dX6_pack_111 : decode cX6_pack 111 = .ok (.ifCond .ne 8, 3) := by decide +kernel
theorem dX6_pack_114 : decode cX6_pack 114 = .ok (.iload 6, 2) := by decide +kernel
theorem dX6_pack_116 : decode cX6_pack 116 = .ok (.goto 5, 3) := by decide +kernel
theorem dX6_pack_119 : decode cX6_pack 119 = .ok (.iload 7, 2) := by decide +kernel
theorem dX6_pack_121 : decode cX6_pack 121 = .ok (.ireturn, 1) := by decide +kernel
theorem dX6_isRow_0 : decode cX6_isRow 0 = .ok (.iload_n 0, 1) := by decide +kernel
theorem dX6_isRow_1 : decode cX6_isRow 1 = .ok (.istore_n 2, 1) := by decide +kernel
theorem dX6_isRow_2 : decode cX6_isRow 2 = .ok (.iconst 0, 1) := by decide +kernel
theorem dX6_isRow_3 : decode cX6_isRow 3 = .ok (.istore_n 3, 1) := by decide +kernel
theorem dX6_isRow_4 : decode cX6_isRow 4 = .ok (.iload_n 3, 1) := by decide +kernel
theorem dX6_isRow_5 : decode cX6_isRow 5 = .ok (.iload_n 1, 1) := by decide +kernel
theorem dX6_isRow_6 : decode cX6_isRow 6 = .ok (.if_icmp .ge 23, 3) := by decide +kernel
theorem dX6_isRow_9 : decode cX6_isRow 9 = .ok (.iload_n 2, 1) := by decide +kernel
theorem dX6_isRow_10 : decode cX6_isRow 10 = .ok (.bipush 10, 2) := by decide +kernel
theorem dX6_isRow_12 : decode cX6_isRow 12 = .ok (.irem, 1) := by decide +kernel
theorem dX6_isRow_13 : decode cX6_isRow 13 = .ok (.ifCond .gt 5, 3) := by decide +kernel
theorem dX6_isRow_16 : decode cX6_isRow 16 = .ok (.iconst 0, 1) := by decide +kernel
theorem dX6_isRow_17 : decode cX6_isRow 17 = .ok (.ireturn, 1) := by decide +kernel
theorem dX6_isRow_18 : decode cX6_isRow 18 = .ok (.iload_n 2, 1) := by decide +kernel
theorem dX6_isRow_19 : decode cX6_isRow 19 = .ok (.bipush 10, 2) := by decide +kernel
theorem dX6_isRow_21 : decode cX6_isRow 21 = .ok (.idiv, 1) := by decide +kernel
theorem dX6_isRow_22 : decode cX6_isRow 22 = .ok (.istore_n 2, 1) := by decide +kernel
theorem dX6_isRow_23 : decode cX6_isRow 23 = .ok (.iinc 3 1, 3) := by decide +kernel
theorem dX6_isRow_26 : decode cX6_isRow 26 = .ok (.goto (-22), 3) := by decide +kernel
theorem dX6_isRow_29 : decode cX6_isRow 29 = .ok (.iload_n 2, 1) := by decide +kernel
theorem dX6_isRow_30 : decode cX6_isRow 30 = .ok (.ifCond .ne 7, 3) := by decide +kernel
theorem dX6_isRow_33 : decode cX6_isRow 33 = .ok (.iconst 1, 1) := by decide +kernel
theorem dX6_isRow_34 : decode cX6_isRow 34 = .ok (.goto 4, 3) := by decide +kernel
theorem dX6_isRow_37 : decode cX6_isRow 37 = .ok (.iconst 0, 1) := by decide +kernel
theorem dX6_isRow_38 : decode cX6_isRow 38 = .ok (.ireturn, 1) := by decide +kernel
theorem dX6_sumOfChosen_0 : decode cX6_sumOfChosen 0 = .ok (.iconst 0, 1) := by decide +kernel
theorem dX6_sumOfChosen_1 : decode cX6_sumOfChosen 1 = .ok (.istore_n 3, 1) := by decide +kernel
theorem dX6_sumOfChosen_2 : decode cX6_sumOfChosen 2 = .ok (.iload_n 0, 1) := by decide +kernel
theorem dX6_sumOfChosen_3 : decode cX6_sumOfChosen 3 = .ok (.istore 4, 2) := by decide +kernel
theorem dX6_sumOfChosen_5 : decode cX6_sumOfChosen 5 = .ok (.iload_n 1, 1) := by decide +kernel
theorem dX6_sumOfChosen_6 : decode cX6_sumOfChosen 6 = .ok (.iconst 1, 1) := by decide +kernel
theorem dX6_sumOfChosen_7 : decode cX6_sumOfChosen 7 = .ok (.isub, 1) := by decide +kernel
theorem dX6_sumOfChosen_8 : decode cX6_sumOfChosen 8 = .ok (.istore 5, 2) := by decide +kernel
theorem dX6_sumOfChosen_10 : decode cX6_sumOfChosen 10 = .ok (.iload 5, 2) := by decide +kernel
theorem dX6_sumOfChosen_12 : decode cX6_sumOfChosen 12 = .ok (.ifCond .lt 34, 3) := by decide +kernel
theorem dX6_sumOfChosen_15 : decode cX6_sumOfChosen 15 = .ok (.iload_n 2, 1) := by decide +kernel
theorem dX6_sumOfChosen_16 : decode cX6_sumOfChosen 16 = .ok (.iload 5, 2) := by decide +kernel
theorem dX6_sumOfChosen_18 : decode cX6_sumOfChosen 18 = .ok (.ishr, 1) := by decide +kernel
theorem dX6_sumOfChosen_19 : decode cX6_sumOfChosen 19 = .ok (.iconst 1, 1) := by decide +kernel
theorem dX6_sumOfChosen_20 : decode cX6_sumOfChosen 20 = .ok (.iand, 1) := by decide +kernel
theorem dX6_sumOfChosen_21 : decode cX6_sumOfChosen 21 = .ok (.iconst 1, 1) := by decide +kernel
theorem dX6_sumOfChosen_22 : decode cX6_sumOfChosen 22 = .ok (.if_icmp .ne 11, 3) := by decide +kernel
theorem dX6_sumOfChosen_25 : decode cX6_sumOfChosen 25 = .ok (.iload_n 3, 1) := by decide +kernel
theorem dX6_sumOfChosen_26 : decode cX6_sumOfChosen 26 = .ok (.iload 4, 2) := by decide +kernel
theorem dX6_sumOfChosen_28 : decode cX6_sumOfChosen 28 = .ok (.bipush 10, 2) := by decide +kernel
theorem dX6_sumOfChosen_30 : decode cX6_sumOfChosen 30 = .ok (.irem, 1) := by decide +kernel
theorem dX6_sumOfChosen_31 : decode cX6_sumOfChosen 31 = .ok (.iadd, 1) := by decide +kernel
theorem dX6_sumOfChosen_32 : decode cX6_sumOfChosen 32 = .ok (.istore_n 3, 1) := by decide +kernel
theorem dX6_sumOfChosen_33 : decode cX6_sumOfChosen 33 = .ok (.iload 4, 2) := by decide +kernel
theorem dX6_sumOfChosen_35 : decode cX6_sumOfChosen 35 = .ok (.bipush 10, 2) := by decide +kernel
theorem dX6_sumOfChosen_37 : decode cX6_sumOfChosen 37 = .ok (.idiv, 1) := by decide +kernel
theorem dX6_sumOfChosen_38 : decode cX6_sumOfChosen 38 = .ok (.istore 4, 2) := by decide +kernel
theorem dX6_sumOfChosen_40 : decode cX6_sumOfChosen 40 = .ok (.iinc 5 (-1), 3) := by decide +kernel
theorem dX6_sumOfChosen_43 : decode cX6_sumOfChosen 43 = .ok (.goto (-33), 3) := by decide +kernel
theorem dX6_sumOfChosen_46 : decode cX6_sumOfChosen 46 = .ok (.iload_n 3, 1) := by decide +kernel
theorem dX6_sumOfChosen_47 : decode cX6_sumOfChosen 47 = .ok (.ireturn, 1) := by decide +kernel
set_option maxRecDepth 20000 in
theorem ggX6_seen_X6_isIn : GoodIn wsX6_seen wsX6_isIn := goodIn_r _ [6] (by decide +kernel) (by decide +kernel)
set_option maxRecDepth 20000 in
theorem gX6_seen_X6_isIn : GoodIn wsX6_seen (va_wsS RX6 44 yX6_isIn wsX6_isIn) := goodIn_app (goodIn_of _ (by decide +kernel)) ggX6_seen_X6_isIn
set_option maxRecDepth 20000 in
theorem ggX6_seen_X3_add : GoodIn wsX6_seen wsX3_add := goodIn_r _ [11, 12, 13, 14, 4, 5, 6, 20, 21, 22] (by decide +kernel) (by decide +kernel)
set_option maxRecDepth 20000 in
theorem gX6_seen_X3_add : GoodIn wsX6_seen (wsV RX6 162 RX3 yX3_add wsX3_add) := goodIn_app (goodIn_of _ (by decide +kernel)) ggX6_seen_X3_add
theorem dX6_seen_0 : decode cX6_seen 0 = .ok (.iload_n 1, 1) := by decide +kernel
theorem dX6_seen_1 : decode cX6_seen 1 = .ok (.iconst 0, 1) := by decide +kernel
theorem dX6_seen_2 : decode cX6_seen 2 = .ok (.bipush 99, 2) := by decide +kernel
theorem dX6_seen_4 : decode cX6_seen 4 = .ok (.invokestatic 44, 3) := by decide +kernel
theorem dX6_seen_7 : decode cX6_seen 7 = .ok (.ifCond .ne 6, 3) := by decide +kernel
theorem dX6_seen_10 : decode cX6_seen 10 = .ok (.bipush (-2), 2) := by decide +kernel
theorem dX6_seen_12 : decode cX6_seen 12 = .ok (.ireturn, 1) := by decide +kernel
theorem dX6_seen_13 : decode cX6_seen 13 = .ok (.aload_n 0, 1) := by decide +kernel
theorem dX6_seen_14 : decode cX6_seen 14 = .ok (.getfield 19, 3) := by decide +kernel
theorem dX6_seen_17 : decode cX6_seen 17 = .ok (.iload_n 1, 1) := by decide +kernel
theorem dX6_seen_18 : decode cX6_seen 18 = .ok (.iload_n 2, 1) := by decide +kernel
theorem dX6_seen_19 : decode cX6_seen 19 = .ok (.invokevirtual 162, 3) := by decide +kernel
theorem dX6_seen_22 : decode cX6_seen 22 = .ok (.ifCond .eq 13, 3) := by decide +kernel
theorem dX6_seen_25 : decode cX6_seen 25 = .ok (.aload_n 0, 1) := by decide +kernel
theorem dX6_seen_26 : decode cX6_seen 26 = .ok (.getfield 19, 3) := by decide +kernel
theorem dX6_seen_29 : decode cX6_seen 29 = .ok (.getfield 165, 3) := by decide +kernel
theorem dX6_seen_32 : decode cX6_seen 32 = .ok (.goto 5, 3) := by decide +kernel
theorem dX6_seen_35 : decode cX6_seen 35 = .ok (.bipush (-4), 2) := by decide +kernel
theorem dX6_seen_37 : decode cX6_seen 37 = .ok (.ireturn, 1) := by decide +kernel
theorem dX6_forget_0 : decode cX6_forget 0 = .ok (.aload_n 0, 1) := by decide +kernel
theorem dX6_forget_1 : decode cX6_forget 1 = .ok (.getfield 19, 3) := by decide +kernel
theorem dX6_forget_4 : decode cX6_forget 4 = .ok (.getfield 165, 3) := by decide +kernel
theorem dX6_forget_7 : decode cX6_forget 7 = .ok (.istore_n 1, 1) := by decide +kernel
theorem dX6_forget_8 : decode cX6_forget 8 = .ok (.aload_n 0, 1) := by decide +kernel
theorem dX6_forget_9 : decode cX6_forget 9 = .ok (.getfield 19, 3) := by decide +kernel
theorem dX6_forget_12 : decode cX6_forget 12 = .ok (.iconst 0, 1) := by decide +kernel
theorem dX6_forget_13 : decode cX6_forget 13 = .ok (.putfield 165, 3) := by decide +kernel
theorem dX6_forget_16 : decode cX6_forget 16 = .ok (.iload_n 1, 1) := by decide +kernel
theorem dX6_forget_17 : decode cX6_forget 17 = .ok (.ireturn, 1) := by decide +kernel
set_option maxRecDepth 20000 in
theorem ggX6_rounds_X3_fittingRounds : GoodIn wsX6_rounds wsX3_fittingRounds := goodIn_r _ [6, 7, 8, 9, 5, 10, 11, 12, 13, 23, 24, 25] (by decide +kernel) (by decide +kernel)
set_option maxRecDepth 20000 in
theorem gX6_rounds_X3_fittingRounds : GoodIn wsX6_rounds (wsV RX6 166 RX3 yX3_fittingRounds wsX3_fittingRounds) := goodIn_app (goodIn_of _ (by decide +kernel)) ggX6_rounds_X3_fittingRounds
set_option maxRecDepth 20000 in
theorem ggX6_rounds_X3_fittingRound : GoodIn wsX6_rounds wsX3_fittingRound := goodIn_r _ [17, 7, 8, 9, 5, 10, 11, 12, 13, 23, 24, 25] (by decide +kernel) (by decide +kernel)
set_option maxRecDepth 20000 in
theorem gX6_rounds_X3_fittingRound : GoodIn wsX6_rounds (wsV RX6 169 RX3 yX3_fittingRound wsX3_fittingRound) := goodIn_app (goodIn_of _ (by decide +kernel)) ggX6_rounds_X3_fittingRound
theorem dX6_rounds_0 : decode cX6_rounds 0 = .ok (.iload_n 1, 1) := by decide +kernel
theorem dX6_rounds_1 : decode cX6_rounds 1 = .ok (.iconst (-1), 1) := by decide +kernel
theorem dX6_rounds_2 : decode cX6_rounds 2 = .ok (.if_icmp .ne 13, 3) := by decide +kernel
theorem dX6_rounds_5 : decode cX6_rounds 5 = .ok (.aload_n 0, 1) := by decide +kernel
theorem dX6_rounds_6 : decode cX6_rounds 6 = .ok (.getfield 19, 3) := by decide +kernel
theorem dX6_rounds_9 : decode cX6_rounds 9 = .ok (.invokevirtual 166, 3) := by decide +kernel
theorem dX6_rounds_12 : decode cX6_rounds 12 = .ok (.goto 11, 3) := by decide +kernel
theorem dX6_rounds_15 : decode cX6_rounds 15 = .ok (.aload_n 0, 1) := by decide +kernel
theorem dX6_rounds_16 : decode cX6_rounds 16 = .ok (.getfield 19, 3) := by decide +kernel
theorem dX6_rounds_19 : decode cX6_rounds 19 = .ok (.iload_n 1, 1) := by decide +kernel
theorem dX6_rounds_20 : decode cX6_rounds 20 = .ok (.invokevirtual 169, 3) := by decide +kernel
theorem dX6_rounds_23 : decode cX6_rounds 23 = .ok (.ireturn, 1) := by decide +kernel
set_option maxRecDepth 20000 in
theorem ggX6_ask_X6_isIn : GoodIn wsX6_ask wsX6_isIn := goodIn_r _ [9] (by decide +kernel) (by decide +kernel)
set_option maxRecDepth 20000 in
theorem gX6_ask_X6_isIn : GoodIn wsX6_ask (va_wsS RX6 44 yX6_isIn wsX6_isIn) := goodIn_app (goodIn_of _ (by decide +kernel)) ggX6_ask_X6_isIn
set_option maxRecDepth 20000 in
theorem ggX6_ask_X3_fittingRounds : GoodIn wsX6_ask wsX3_fittingRounds := goodIn_r _ [14, 15, 16, 17, 13, 18, 19, 20, 21, 31, 32, 33] (by decide +kernel) (by decide +kernel)
set_option maxRecDepth 20000 in
theorem gX6_ask_X3_fittingRounds : GoodIn wsX6_ask (wsV RX6 166 RX3 yX3_fittingRounds wsX3_fittingRounds) := goodIn_app (goodIn_of _ (by decide +kernel)) ggX6_ask_X3_fittingRounds
set_option maxRecDepth 20000 in
theorem ggX6_ask_X3_roundsRingingAt : GoodIn wsX6_ask wsX3_roundsRingingAt := goodIn_r _ [25, 15, 16, 17, 13, 18, 19, 20, 21, 31, 32, 33] (by decide +kernel) (by decide +kernel)
set_option maxRecDepth 20000 in
theorem gX6_ask_X3_roundsRingingAt : GoodIn wsX6_ask (wsV RX6 172 RX3 yX3_roundsRingingAt wsX3_roundsRingingAt) := goodIn_app (goodIn_of _ (by decide +kernel)) ggX6_ask_X3_roundsRingingAt
theorem dX6_ask_0 : decode cX6_ask 0 = .ok (.iload_n 1, 1) := by decide +kernel
theorem dX6_ask_1 : decode cX6_ask 1 = .ok (.iconst 0, 1) := by decide +kernel
theorem dX6_ask_2 : decode cX6_ask 2 = .ok (.iconst 1, 1) := by decide +kernel
theorem dX6_ask_3 : decode cX6_ask 3 = .ok (.invokestatic 44, 3) := by decide +kernel
theorem dX6_ask_6 : decode cX6_ask 6 = .ok (.ifCond .ne 6, 3) := by decide +kernel
theorem dX6_ask_9 : decode cX6_ask 9 = .ok (.bipush (-2), 2) := by decide +kernel
theorem dX6_ask_11 : decode cX6_ask 11 = .ok (.ireturn, 1) := by decide +kernel
theorem dX6_ask_12 : decode cX6_ask 12 = .ok (.aload_n 0, 1) := by decide +kernel
theorem dX6_ask_13 : decode cX6_ask 13 = .ok (.getfield 19, 3) := by decide +kernel
theorem dX6_ask_16 : decode cX6_ask 16 = .ok (.invokevirtual 166, 3) := by decide +kernel
theorem dX6_ask_19 : decode cX6_ask 19 = .ok (.istore_n 2, 1) := by decide +kernel
theorem dX6_ask_20 : decode cX6_ask 20 = .ok (.iload_n 2, 1) := by decide +kernel
theorem dX6_ask_21 : decode cX6_ask 21 = .ok (.ifCond .ne 6, 3) := by decide +kernel
theorem dX6_ask_24 : decode cX6_ask 24 = .ok (.bipush (-6), 2) := by decide +kernel
theorem dX6_ask_26 : decode cX6_ask 26 = .ok (.ireturn, 1) := by decide +kernel
theorem dX6_ask_27 : decode cX6_ask 27 = .ok (.iconst 0, 1) := by decide +kernel
theorem dX6_ask_28 : decode cX6_ask 28 = .ok (.istore_n 3, 1) := by decide +kernel
theorem dX6_ask_29 : decode cX6_ask 29 = .ok (.iload_n 2, 1) := by decide +kernel
theorem dX6_ask_30 : decode cX6_ask 30 = .ok (.iconst 1, 1) := by decide +kernel
theorem dX6_ask_31 : decode cX6_ask 31 = .ok (.iadd, 1) := by decide +kernel
theorem dX6_ask_32 : decode cX6_ask 32 = .ok (.istore 4, 2) := by decide +kernel
theorem dX6_ask_34 : decode cX6_ask 34 = .ok (.iconst 0, 1) := by decide +kernel
theorem dX6_ask_35 : decode cX6_ask 35 = .ok (.istore 5, 2) := by decide +kernel
theorem dX6_ask_37 : decode cX6_ask 37 = .ok (.iload 5, 2) := by decide +kernel
theorem dX6_ask_39 : decode cX6_ask 39 = .ok (.bipush 100, 2) := by decide +kernel
theorem dX6_ask_41 : decode cX6_ask 41 = .ok (.if_icmp .ge 45, 3) := by decide +kernel
theorem dX6_ask_44 : decode cX6_ask 44 = .ok (.aload_n 0, 1) := by decide +kernel
theorem dX6_ask_45 : decode cX6_ask 45 = .ok (.getfield 19, 3) := by decide +kernel
theorem dX6_ask_48 : decode cX6_ask 48 = .ok (.iload 5, 2) := by decide +kernel
theorem dX6_ask_50 : decode cX6_ask 50 = .ok (.invokevirtual 172, 3) := by decide +kernel
theorem dX6_ask_53 : decode cX6_ask 53 = .ok (.istore 6, 2) := by decide +kernel
theorem dX6_ask_55 : decode cX6_ask 55 = .ok (.iload 6, 2) := by decide +kernel
theorem dX6_ask_57 : decode cX6_ask 57 = .ok (.iload_n 2, 1) := by decide +kernel
theorem dX6_ask_58 : decode cX6_ask 58 = .ok (.iload 6, 2) := by decide +kernel
theorem dX6_ask_60 : decode cX6_ask 60 = .ok (.isub, 1) := by decide +kernel
theorem dX6_ask_61 : decode cX6_ask 61 = .ok (.invokestatic 175, 3) := by decide +kernel
theorem dX6_ask_64 : decode cX6_ask 64 = .ok (.istore 7, 2) := by decide +kernel
theorem dX6_ask_66 : decode cX6_ask 66 = .ok (.iload 7, 2) := by decide +kernel
theorem dX6_ask_68 : decode cX6_ask 68 = .ok (.iload 4, 2) := by decide +kernel
theorem dX6_ask_70 : decode cX6_ask 70 = .ok (.if_icmp .ge 10, 3) := by decide +kernel
theorem dX6_ask_73 : decode cX6_ask 73 = .ok (.iload 7, 2) := by decide +kernel
theorem dX6_ask_75 : decode cX6_ask 75 = .ok (.istore 4, 2) := by decide +kernel
theorem dX6_ask_77 : decode cX6_ask 77 = .ok (.iload 5, 2) := by decide +kernel
theorem dX6_ask_79 : decode cX6_ask 79 = .ok (.istore_n 3, 1) := by decide +kernel
theorem dX6_ask_80 : decode cX6_ask 80 = .ok (.iinc 5 1, 3) := by decide +kernel
theorem dX6_ask_83 : decode cX6_ask 83 = .ok (.goto (-46), 3) := by decide +kernel
theorem dX6_ask_86 : decode cX6_ask 86 = .ok (.iload_n 1, 1) := by decide +kernel
theorem dX6_ask_87 : decode cX6_ask 87 = .ok (.ifCond .ne 7, 3) := by decide +kernel
theorem dX6_ask_90 : decode cX6_ask 90 = .ok (.iload_n 3, 1) := by decide +kernel
theorem dX6_ask_91 : decode cX6_ask 91 = .ok (.goto 5, 3) := by decide +kernel
theorem dX6_ask_94 : decode cX6_ask 94 = .ok (.iload 4, 2) := by decide +kernel
theorem dX6_ask_96 : decode cX6_ask 96 = .ok (.ireturn, 1) := by decide +kernel
set_option maxRecDepth 20000 in
theorem ggX6_halves_X6_isIn : GoodIn wsX6_halves wsX6_isIn := goodIn_r _ [4] (by decide +kernel) (by decide +kernel)
set_option maxRecDepth 20000 in
theorem gX6_halves_X6_isIn : GoodIn wsX6_halves (va_wsS RX6 44 yX6_isIn wsX6_isIn) := goodIn_app (goodIn_of _ (by decide +kernel)) ggX6_halves_X6_isIn
set_option maxRecDepth 20000 in
theorem ggX6_halves_X6_canWin : GoodIn wsX6_halves wsX6_canWin := goodIn_r _ [7] (by decide +kernel) (by decide +kernel)
set_option maxRecDepth 20000 in
theorem gX6_halves_X6_canWin : GoodIn wsX6_halves (va_wsS RX6 180 yX6_canWin wsX6_canWin) := goodIn_app (goodIn_of _ (by decide +kernel)) ggX6_halves_X6_canWin
theorem dX6_halves_0 : decode cX6_halves 0 = .ok (.iload_n 1, 1) := by decide +kernel
theorem dX6_halves_1 : decode cX6_halves 1 = .ok (.iconst 0, 1) := by decide +kernel
theorem dX6_halves_2 : decode cX6_halves 2 = .ok (.sipush 9999, 3) := by decide +kernel
theorem dX6_halves_5 : decode cX6_halves 5 = .ok (.invokestatic 44, 3) := by decide +kernel
theorem dX6_halves_8 : decode cX6_halves 8 = .ok (.ifCond .eq 12, 3) := by decide +kernel
theorem dX6_halves_11 : decode cX6_halves 11 = .ok (.iload_n 2, 1) := by decide +kernel
theorem dX6_halves_12 : decode cX6_halves 12 = .ok (.iconst 0, 1) := by decide +kernel
theorem dX6_halves_13 : decode cX6_halves 13 = .ok (.iconst 1, 1) := by decide +kernel
theorem dX6_halves_14 : decode cX6_halves 14 = .ok (.invokestatic 44, 3) := by decide +kernel
theorem dX6_halves_17 : decode cX6_halves 17 = .ok (.ifCond .ne 6, 3) := by decide +kernel
theorem dX6_halves_20 : decode cX6_halves 20 = .ok (.bipush (-2), 2) := by decide +kernel
theorem dX6_halves_22 : decode cX6_halves 22 = .ok (.ireturn, 1) := by decide +kernel
theorem dX6_halves_23 : decode cX6_halves 23 = .ok (.iload_n 1, 1) := by decide +kernel
theorem dX6_halves_24 : decode cX6_halves 24 = .ok (.invokestatic 180, 3) := by decide +kernel
theorem dX6_halves_27 : decode cX6_halves 27 = .ok (.istore_n 3, 1) := by decide +kernel
theorem dX6_halves_28 : decode cX6_halves 28 = .ok (.iload_n 2, 1) := by decide +kernel
theorem dX6_halves_29 : decode cX6_halves 29 = .ok (.ifCond .ne 13, 3) := by decide +kernel
theorem dX6_halves_32 : decode cX6_halves 32 = .ok (.iload_n 3, 1) := by decide +kernel
theorem dX6_halves_33 : decode cX6_halves 33 = .ok (.ifCond .eq 7, 3) := by decide +kernel
theorem dX6_halves_36 : decode cX6_halves 36 = .ok (.iconst 1, 1) := by decide +kernel
theorem dX6_halves_37 : decode cX6_halves 37 = .ok (.goto 4, 3) := by decide +kernel
theorem dX6_halves_40 : decode cX6_halves 40 = .ok (.iconst 0, 1) := by decide +kernel
theorem dX6_halves_41 : decode cX6_halves 41 = .ok (.ireturn, 1) := by decide +kernel
theorem dX6_halves_42 : decode cX6_halves 42 = .ok (.iload_n 3, 1) := by decide +kernel
theorem dX6_halves_43 : decode cX6_halves 43 = .ok (.ifCond .ne 6, 3) := by decide +kernel
theorem dX6_halves_46 : decode cX6_halves 46 = .ok (.bipush (-6), 2) := by decide +kernel
theorem dX6_halves_48 : decode cX6_halves 48 = .ok (.ireturn, 1) := by decide +kernel
theorem dX6_halves_49 : decode cX6_halves 49 = .ok (.iload_n 1, 1) := by decide +kernel
theorem dX6_halves_50 : decode cX6_halves 50 = .ok (.iconst 2, 1) := by decide +kernel
theorem dX6_halves_51 : decode cX6_halves 51 = .ok (.idiv, 1) := by decide +kernel
theorem dX6_halves_52 : decode cX6_halves 52 = .ok (.invokestatic 180, 3) := by decide +kernel
theorem dX6_halves_55 : decode cX6_halves 55 = .ok (.ifCond .eq 9, 3) := by decide +kernel
theorem dX6_halves_58 : decode cX6_halves 58 = .ok (.iload_n 1, 1) := by decide +kernel
theorem dX6_halves_59 : decode cX6_halves 59 = .ok (.iconst 1, 1) := by decide +kernel
theorem dX6_halves_60 : decode cX6_halves 60 = .ok (.isub, 1) := by decide +kernel
theorem dX6_halves_61 : decode cX6_halves 61 = .ok (.goto 6, 3) := by decide +kernel
theorem dX6_halves_64 : decode cX6_halves 64 = .ok (.iload_n 1, 1) := by decide +kernel
theorem dX6_halves_65 : decode cX6_halves 65 = .ok (.iconst 2, 1) := by decide +kernel
theorem dX6_halves_66 : decode cX6_halves 66 = .ok (.idiv, 1) := by decide +kernel
theorem dX6_halves_67 : decode cX6_halves 67 = .ok (.ireturn, 1) := by decide +kernel
theorem dX6_canWin_0 : decode cX6_canWin 0 = .ok (.iload_n 0, 1) := by decide +kernel
theorem dX6_canWin_1 : decode cX6_canWin 1 = .ok (.ifCond .le 7, 3) := by decide +kernel
theorem dX6_canWin_4 : decode cX6_canWin 4 = .ok (.iconst 1, 1) := by decide +kernel
theorem dX6_canWin_5 : decode cX6_canWin 5 = .ok (.goto 4, 3) := by decide +kernel
theorem dX6_canWin_8 : decode cX6_canWin 8 = .ok (.iconst 0, 1) := by decide +kernel
theorem dX6_canWin_9 : decode cX6_canWin 9 = .ok (.istore_n 1, 1) := by decide +kernel
theorem dX6_canWin_10 : decode cX6_canWin 10 = .ok (.iload_n 0, 1) := by decide +kernel
theorem dX6_canWin_11 : decode cX6_canWin 11 = .ok (.istore_n 2, 1) := by decide +kernel
theorem dX6_canWin_12 : decode cX6_canWin 12 = .ok (.iload_n 2, 1) := by decide +kernel
theorem dX6_canWin_13 : decode cX6_canWin 13 = .ok (.ifCond .le 26, 3) := by decide +kernel
theorem dX6_canWin_16 : decode cX6_canWin 16 = .ok (.iload_n 2, 1) := by decide +kernel
theorem dX6_canWin_17 : decode cX6_canWin 17 = .ok (.iconst 2, 1) := by decide +kernel
theorem dX6_canWin_18 : decode cX6_canWin 18 = .ok (.irem, 1) := by decide +kernel
theorem dX6_canWin_19 : decode cX6_canWin 19 = .ok (.ifCond .ne 20, 3) := by decide +kernel
theorem dX6_canWin_22 : decode cX6_canWin 22 = .ok (.iload_n 1, 1) := by decide +kernel
theorem dX6_canWin_23 : decode cX6_canWin 23 = .ok (.ifCond .ne 7, 3) := by decide +kernel
theorem dX6_canWin_26 : decode cX6_canWin 26 = .ok (.iconst 1, 1) := by decide +kernel
theorem dX6_canWin_27 : decode cX6_canWin 27 = .ok (.goto 4, 3) := by decide +kernel
theorem dX6_canWin_30 : decode cX6_canWin 30 = .ok (.iconst 0, 1) := by decide +kernel
theorem dX6_canWin_31 : decode cX6_canWin 31 = .ok (.istore_n 1, 1) := by decide +kernel
theorem dX6_canWin_32 : decode cX6_canWin 32 = .ok (.iload_n 2, 1) := by decide +kernel
theorem dX6_canWin_33 : decode cX6_canWin 33 = .ok (.iconst 2, 1) := by decide +kernel
theorem dX6_canWin_34 : decode cX6_canWin 34 = .ok (.idiv, 1) := by decide +kernel
theorem dX6_canWin_35 : decode cX6_canWin 35 = .ok (.istore_n 2, 1) := by decide +kernel
theorem dX6_canWin_36 : decode cX6_canWin 36 = .ok (.goto (-24), 3) := by decide +kernel
theorem dX6_canWin_39 : decode cX6_canWin 39 = .ok (.iload_n 1, 1) := by decide +kernel
theorem dX6_canWin_40 : decode cX6_canWin 40 = .ok (.ireturn, 1) := by decide +kernel
set_option maxRecDepth 20000 in
theorem ggX6_knelt_X6_isIn : GoodIn wsX6_knelt wsX6_isIn := goodIn_r _ [7] (by decide +kernel) (by decide +kernel)
set_option maxRecDepth 20000 in
theorem gX6_knelt_X6_isIn : GoodIn wsX6_knelt (va_wsS RX6 44 yX6_isIn wsX6_isIn) := goodIn_app (goodIn_of _ (by decide +kernel)) ggX6_knelt_X6_isIn
set_option maxRecDepth 20000 in
theorem ggX6_knelt_X6_waysToKneel : GoodIn wsX6_knelt wsX6_waysToKneel := goodIn_r _ [10, 11, 12, 6, 13, 14, 15, 16] (by decide +kernel) (by decide +kernel)
set_option maxRecDepth 20000 in
theorem gX6_knelt_X6_waysToKneel : GoodIn wsX6_knelt (va_wsS RX6 185 yX6_waysToKneel wsX6_waysToKneel) := goodIn_app (goodIn_of _ (by decide +kernel)) ggX6_knelt_X6_waysToKneel
set_option maxRecDepth 20000 in
theorem ggX6_knelt_X6_power : GoodIn wsX6_knelt wsX6_power := goodIn_r _ [16] (by decide +kernel) (by decide +kernel)
set_option maxRecDepth 20000 in
theorem gX6_knelt_X6_power : GoodIn wsX6_knelt (va_wsS RX6 189 yX6_power wsX6_power) := goodIn_app (goodIn_of _ (by decide +kernel)) ggX6_knelt_X6_power
set_option maxRecDepth 20000 in
theorem ggX6_knelt_X6_commonDivisor : GoodIn wsX6_knelt wsX6_commonDivisor := goodIn_r _ [19] (by decide +kernel) (by decide +kernel)
set_option maxRecDepth 20000 in
theorem gX6_knelt_X6_commonDivisor : GoodIn wsX6_knelt (va_wsS RX6 195 yX6_commonDivisor wsX6_commonDivisor) := goodIn_app (goodIn_of _ (by decide +kernel)) ggX6_knelt_X6_commonDivisor
theorem dX6_knelt_0 : decode cX6_knelt 0 = .ok (.iload_n 1, 1) := by decide +kernel
theorem dX6_knelt_1 : decode cX6_knelt 1 = .ok (.iconst 0, 1) := by decide +kernel
theorem dX6_knelt_2 : decode cX6_knelt 2 = .ok (.bipush 16, 2) := by decide +kernel
theorem dX6_knelt_4 : decode cX6_knelt 4 = .ok (.invokestatic 44, 3) := by decide +kernel
theorem dX6_knelt_7 : decode cX6_knelt 7 = .ok (.ifCond .eq 42, 3) := by decide +kernel
theorem dX6_knelt_10 : decode cX6_knelt 10 = .ok (.iload_n 2, 1) := by decide +kernel
theorem dX6_knelt_11 : decode cX6_knelt 11 = .ok (.iconst 0, 1) := by decide +kernel
theorem dX6_knelt_12 : decode cX6_knelt 12 = .ok (.iload_n 1, 1) := by decide +kernel
theorem dX6_knelt_13 : decode cX6_knelt 13 = .ok (.invokestatic 44, 3) := by decide +kernel
theorem dX6_knelt_16 : decode cX6_knelt 16 = .ok (.ifCond .eq 33, 3) := by decide +kernel
theorem dX6_knelt_19 : decode cX6_knelt 19 = .ok (.iload_n 3, 1) := by decide +kernel
theorem dX6_knelt_20 : decode cX6_knelt 20 = .ok (.iconst 0, 1) := by decide +kernel
theorem dX6_knelt_21 : decode cX6_knelt 21 = .ok (.bipush 10, 2) := by decide +kernel
theorem dX6_knelt_23 : decode cX6_knelt 23 = .ok (.invokestatic 44, 3) := by decide +kernel
theorem dX6_knelt_26 : decode cX6_knelt 26 = .ok (.ifCond .eq 23, 3) := by decide +kernel
theorem dX6_knelt_29 : decode cX6_knelt 29 = .ok (.iload 4, 2) := by decide +kernel
theorem dX6_knelt_31 : decode cX6_knelt 31 = .ok (.iconst 0, 1) := by decide +kernel
theorem dX6_knelt_32 : decode cX6_knelt 32 = .ok (.iconst 1, 1) := by decide +kernel
theorem dX6_knelt_33 : decode cX6_knelt 33 = .ok (.invokestatic 44, 3) := by decide +kernel
theorem dX6_knelt_36 : decode cX6_knelt 36 = .ok (.ifCond .eq 13, 3) := by decide +kernel
theorem dX6_knelt_39 : decode cX6_knelt 39 = .ok (.iload 5, 2) := by decide +kernel
theorem dX6_knelt_41 : decode cX6_knelt 41 = .ok (.iconst 0, 1) := by decide +kernel
theorem dX6_knelt_42 : decode cX6_knelt 42 = .ok (.iconst 1, 1) := by decide +kernel
theorem dX6_knelt_43 : decode cX6_knelt 43 = .ok (.invokestatic 44, 3) := by decide +kernel
theorem dX6_knelt_46 : decode cX6_knelt 46 = .ok (.ifCond .ne 7, 3) := by decide +kernel
theorem dX6_knelt_49 : decode cX6_knelt 49 = .ok (.ldc2_w 183, 3) := by decide +kernel
theorem dX6_knelt_52 : decode cX6_knelt 52 = .ok (.lreturn, 1) := by decide +kernel
theorem dX6_knelt_53 : decode cX6_knelt 53 = .ok (.iload 4, 2) := by decide +kernel
theorem dX6_knelt_55 : decode cX6_knelt 55 = .ok (.ifCond .ne 12, 3) := by decide +kernel
theorem dX6_knelt_58 : decode cX6_knelt 58 = .ok (.iload_n 1, 1) := by decide +kernel
theorem dX6_knelt_59 : decode cX6_knelt 59 = .ok (.iload_n 2, 1) := by decide +kernel
theorem dX6_knelt_60 : decode cX6_knelt 60 = .ok (.iload_n 3, 1) := by decide +kernel
theorem dX6_knelt_61 : decode cX6_knelt 61 = .ok (.invokestatic 185, 3) := by decide +kernel
theorem dX6_knelt_64 : decode cX6_knelt 64 = .ok (.goto 8, 3) := by decide +kernel
theorem dX6_knelt_67 : decode cX6_knelt 67 = .ok (.iload_n 1, 1) := by decide +kernel
theorem dX6_knelt_68 : decode cX6_knelt 68 = .ok (.i2l, 1) := by decide +kernel
theorem dX6_knelt_69 : decode cX6_knelt 69 = .ok (.iload_n 3, 1) := by decide +kernel
theorem dX6_knelt_70 : decode cX6_knelt 70 = .ok (.i2l, 1) := by decide +kernel
theorem dX6_knelt_71 : decode cX6_knelt 71 = .ok (.lmul, 1) := by decide +kernel
theorem dX6_knelt_72 : decode cX6_knelt 72 = .ok (.lstore 6, 2) := by decide +kernel
theorem dX6_knelt_74 : decode cX6_knelt 74 = .ok (.iload 4, 2) := by decide +kernel
theorem dX6_knelt_76 : decode cX6_knelt 76 = .ok (.ifCond .ne 12, 3) := by decide +kernel
theorem dX6_knelt_79 : decode cX6_knelt 79 = .ok (.bipush 10, 2) := by decide +kernel
theorem dX6_knelt_81 : decode cX6_knelt 81 = .ok (.iload_n 1, 1) := by decide +kernel
theorem dX6_knelt_82 : decode cX6_knelt 82 = .ok (.invokestatic 189, 3) := by decide +kernel
theorem dX6_knelt_85 : decode cX6_knelt 85 = .ok (.goto 6, 3) := by decide +kernel
theorem dX6_knelt_88 : decode cX6_knelt 88 = .ok (.ldc2_w 193, 3) := by decide +kernel
theorem dX6_knelt_91 : decode cX6_knelt 91 = .ok (.lstore 8, 2) := by decide +kernel
theorem dX6_knelt_93 : decode cX6_knelt 93 = .ok (.lload 6, 2) := by decide +kernel
theorem dX6_knelt_95 : decode cX6_knelt 95 = .ok (.lload 8, 2) := by decide +kernel
theorem dX6_knelt_97 : decode cX6_knelt 97 = .ok (.invokestatic 195, 3) := by decide +kernel
theorem dX6_knelt_100 : decode cX6_knelt 100 = .ok (.lstore 10, 2) := by decide +kernel
theorem dX6_knelt_102 : decode cX6_knelt 102 = .ok (.lload 10, 2) := by decide +kernel
theorem dX6_knelt_104 : decode cX6_knelt 104 = .ok (.lconst 0, 1) := by decide +kernel
theorem dX6_knelt_105 : decode cX6_knelt 105 = .ok (.lcmp, 1) := by decide +kernel
theorem dX6_knelt_106 : decode cX6_knelt 106 = .ok (.ifCond .gt 7, 3) := by decide +kernel
theorem dX6_knelt_109 : decode cX6_knelt 109 = .ok (.ldc2_w 199, 3) := by decide +kernel
theorem dX6_knelt_112 : decode cX6_knelt 112 = .ok (.lreturn, 1) := by decide +kernel
theorem dX6_knelt_113 : decode cX6_knelt 113 = .ok (.iload 5, 2) := by decide +kernel
theorem dX6_knelt_115 : decode cX6_knelt 115 = .ok (.ifCond .ne 11, 3) := by decide +kernel
theorem dX6_knelt_118 : decode cX6_knelt 118 = .ok (.lload 6, 2) := by decide +kernel
theorem dX6_knelt_120 : decode cX6_knelt 120 = .ok (.lload 10, 2) := by decide +kernel
theorem dX6_knelt_122 : decode cX6_knelt 122 = .ok (.ldiv, 1) := by decide +kernel
theorem dX6_knelt_123 : decode cX6_knelt 123 = .ok (.goto 8, 3) := by decide +kernel
theorem dX6_knelt_126 : decode cX6_knelt 126 = .ok (.lload 8, 2) := by decide +kernel
theorem dX6_knelt_128 : decode cX6_knelt 128 = .ok (.lload 10, 2) := by decide +kernel
theorem dX6_knelt_130 : decode cX6_knelt 130 = .ok (.ldiv, 1) := by decide +kernel
theorem dX6_knelt_131 : decode cX6_knelt 131 = .ok (.lreturn, 1) := by decide +kernel
set_option maxRecDepth 20000 in
theorem ggX6_waysToKneel_X6_choices : GoodIn wsX6_waysToKneel wsX6_choices := goodIn_r _ [4] (by decide +kernel) (by decide +kernel)
set_option maxRecDepth 20000 in
theorem gX6_waysToKneel_X6_choices : GoodIn wsX6_waysToKneel (va_wsS RX6 201 yX6_choices wsX6_choices) := goodIn_app (goodIn_of _ (by decide +kernel)) ggX6_waysToKneel_X6_choices
set_option maxRecDepth 20000 in
theorem ggX6_waysToKneel_X6_power : GoodIn wsX6_waysToKneel wsX6_power := goodIn_r _ [7] (by decide +kernel) (by decide +kernel)
set_option maxRecDepth 20000 in
theorem gX6_waysToKneel_X6_power : GoodIn wsX6_waysToKneel (va_wsS RX6 189 yX6_power wsX6_power) := goodIn_app (goodIn_of _ (by decide +kernel)) ggX6_waysToKneel_X6_power
theorem dX6_waysToKneel_0 : decode cX6_waysToKneel 0 = .ok (.lconst 0, 1) := by decide +kernel
theorem dX6_waysToKneel_1 : decode cX6_waysToKneel 1 = .ok (.lstore_n 3, 1) := by decide +kernel
theorem dX6_waysToKneel_2 : decode cX6_waysToKneel 2 = .ok (.iload_n 1, 1) := by decide +kernel
theorem dX6_waysToKneel_3 : decode cX6_waysToKneel 3 = .ok (.istore 5, 2) := by decide +kernel
theorem dX6_waysToKneel_5 : decode cX6_waysToKneel 5 = .ok (.iload 5, 2) := by decide +kernel
theorem dX6_waysToKneel_7 : decode cX6_waysToKneel 7 = .ok (.iload_n 0, 1) := by decide +kernel
theorem dX6_waysToKneel_8 : decode cX6_waysToKneel 8 = .ok (.if_icmp .gt 37, 3) := by decide +kernel
theorem dX6_waysToKneel_11 : decode cX6_waysToKneel 11 = .ok (.lload_n 3, 1) := by decide +kernel
theorem dX6_waysToKneel_12 : decode cX6_waysToKneel 12 = .ok (.iload_n 0, 1) := by decide +kernel
theorem dX6_waysToKneel_13 : decode cX6_waysToKneel 13 = .ok (.iload 5, 2) := by decide +kernel
theorem dX6_waysToKneel_15 : decode cX6_waysToKneel 15 = .ok (.invokestatic 201, 3) := by decide +kernel
theorem dX6_waysToKneel_18 : decode cX6_waysToKneel 18 = .ok (.iload_n 2, 1) := by decide +kernel
theorem dX6_waysToKneel_19 : decode cX6_waysToKneel 19 = .ok (.iload 5, 2) := by decide +kernel
theorem dX6_waysToKneel_21 : decode cX6_waysToKneel 21 = .ok (.invokestatic 189, 3) := by decide +kernel
theorem dX6_waysToKneel_24 : decode cX6_waysToKneel 24 = .ok (.lmul, 1) := by decide +kernel
theorem dX6_waysToKneel_25 : decode cX6_waysToKneel 25 = .ok (.bipush 10, 2) := by decide +kernel
theorem dX6_waysToKneel_27 : decode cX6_waysToKneel 27 = .ok (.iload_n 2, 1) := by decide +kernel
theorem dX6_waysToKneel_28 : decode cX6_waysToKneel 28 = .ok (.isub, 1) := by decide +kernel
theorem dX6_waysToKneel_29 : decode cX6_waysToKneel 29 = .ok (.iload_n 0, 1) := by decide +kernel
theorem dX6_waysToKneel_30 : decode cX6_waysToKneel 30 = .ok (.iload 5, 2) := by decide +kernel
theorem dX6_waysToKneel_32 : decode cX6_waysToKneel 32 = .ok (.isub, 1) := by decide +kernel
theorem dX6_waysToKneel_33 : decode cX6_waysToKneel 33 = .ok (.invokestatic 189, 3) := by decide +kernel
theorem dX6_waysToKneel_36 : decode cX6_waysToKneel 36 = .ok (.lmul, 1) := by decide +kernel
theorem dX6_waysToKneel_37 : decode cX6_waysToKneel 37 = .ok (.ladd, 1) := by decide +kernel
theorem dX6_waysToKneel_38 : decode cX6_waysToKneel 38 = .ok (.lstore_n 3, 1) := by decide +kernel
theorem dX6_waysToKneel_39 : decode cX6_waysToKneel 39 = .ok (.iinc 5 1, 3) := by decide +kernel
theorem dX6_waysToKneel_42 : decode cX6_waysToKneel 42 = .ok (.goto (-37), 3) := by decide +kernel
theorem dX6_waysToKneel_45 : decode cX6_waysToKneel 45 = .ok (.lload_n 3, 1) := by decide +kernel
theorem dX6_waysToKneel_46 : decode cX6_waysToKneel 46 = .ok (.lreturn, 1) := by decide +kernel
theorem dX6_choices_0 : decode cX6_choices 0 = .ok (.lconst 1, 1) := by decide +kernel
theorem dX6_choices_1 : decode cX6_choices 1 = .ok (.lstore_n 2, 1) := by decide +kernel
theorem dX6_choices_2 : decode cX6_choices 2 = .ok (.iconst 1, 1) := by decide +kernel
theorem dX6_choices_3 : decode cX6_choices 3 = .ok (.istore 4, 2) := by decide +kernel
theorem dX6_choices_5 : decode cX6_choices 5 = .ok (.iload 4, 2) := by decide +kernel
theorem dX6_choices_7 : decode cX6_choices 7 = .ok (.iload_n 1, 1) := by decide +kernel
theorem dX6_choices_8 : decode cX6_choices 8 = .ok (.if_icmp .gt 23, 3) := by decide +kernel
theorem dX6_choices_11 : decode cX6_choices 11 = .ok (.lload_n 2, 1) := by decide +kernel
theorem dX6_choices_12 : decode cX6_choices 12 = .ok (.iload_n 0, 1) := by decide +kernel
theorem dX6_choices_13 : decode cX6_choices 13 = .ok (.iload_n 1, 1) := by decide +kernel
theorem dX6_choices_14 : decode cX6_choices 14 = .ok (.isub, 1) := by decide +kernel
theorem dX6_choices_15 : decode cX6_choices 15 = .ok (.iload 4, 2) := by decide +kernel
theorem dX6_choices_17 : decode cX6_choices 17 = .ok (.iadd, 1) := by decide +kernel
theorem dX6_choices_18 : decode cX6_choices 18 = .ok (.i2l, 1) := by decide +kernel
theorem dX6_choices_19 : decode cX6_choices 19 = .ok (.lmul, 1) := by decide +kernel
theorem dX6_choices_20 : decode cX6_choices 20 = .ok (.iload 4, 2) := by decide +kernel
theorem dX6_choices_22 : decode cX6_choices 22 = .ok (.i2l, 1) := by decide +kernel
theorem dX6_choices_23 : decode cX6_choices 23 = .ok (.ldiv, 1) := by decide +kernel
theorem dX6_choices_24 : decode cX6_choices 24 = .ok (.lstore_n 2, 1) := by decide +kernel
theorem dX6_choices_25 : decode cX6_choices 25 = .ok (.iinc 4 1, 3) := by decide +kernel
theorem dX6_choices_28 : decode cX6_choices 28 = .ok (.goto (-23), 3) := by decide +kernel
theorem dX6_choices_31 : decode cX6_choices 31 = .ok (.lload_n 2, 1) := by decide +kernel
theorem dX6_choices_32 : decode cX6_choices 32 = .ok (.lreturn, 1) := by decide +kernel
theorem dX6_power_0 : decode cX6_power 0 = .ok (.lconst 1, 1) := by decide +kernel
theorem dX6_power_1 : decode cX6_power 1 = .ok (.lstore_n 2, 1) := by decide +kernel
theorem dX6_power_2 : decode cX6_power 2 = .ok (.iconst 0, 1) := by decide +kernel
theorem dX6_power_3 : decode cX6_power 3 = .ok (.istore 4, 2) := by decide +kernel
theorem dX6_power_5 : decode cX6_power 5 = .ok (.iload 4, 2) := by decide +kernel
theorem dX6_power_7 : decode cX6_power 7 = .ok (.iload_n 1, 1) := by decide +kernel
theorem dX6_power_8 : decode cX6_power 8 = .ok (.if_icmp .ge 14, 3) := by decide +kernel
theorem dX6_power_11 : decode cX6_power 11 = .ok (.lload_n 2, 1) := by decide +kernel
theorem dX6_power_12 : decode cX6_power 12 = .ok (.iload_n 0, 1) := by decide +kernel
theorem dX6_power_13 : decode cX6_power 13 = .ok (.i2l, 1) := by decide +kernel
theorem dX6_power_14 : decode cX6_power 14 = .ok (.lmul, 1) := by decide +kernel
theorem dX6_power_15 : decode cX6_power 15 = .ok (.lstore_n 2, 1) := by decide +kernel
theorem dX6_power_16 : decode cX6_power 16 = .ok (.iinc 4 1, 3) := by decide +kernel
theorem dX6_power_19 : decode cX6_power 19 = .ok (.goto (-14), 3) := by decide +kernel
theorem dX6_power_22 : decode cX6_power 22 = .ok (.lload_n 2, 1) := by decide +kernel
theorem dX6_power_23 : decode cX6_power 23 = .ok (.lreturn, 1) := by decide +kernel
theorem dX6_commonDivisor_0 : decode cX6_commonDivisor 0 = .ok (.lload_n 0, 1) := by decide +kernel
theorem dX6_commonDivisor_1 : decode cX6_commonDivisor 1 = .ok (.lstore 4, 2) := by decide +kernel
theorem dX6_commonDivisor_3 : decode cX6_commonDivisor 3 = .ok (.lload_n 2, 1) := by decide +kernel
theorem dX6_commonDivisor_4 : decode cX6_commonDivisor 4 = .ok (.lstore 6, 2) := by decide +kernel
theorem dX6_commonDivisor_6 : decode cX6_commonDivisor 6 = .ok (.iconst 0, 1) := by decide +kernel
theorem dX6_commonDivisor_7 : decode cX6_commonDivisor 7 = .ok (.istore 8, 2) := by decide +kernel
theorem dX6_commonDivisor_9 : decode cX6_commonDivisor 9 = .ok (.iload 8, 2) := by decide +kernel
theorem dX6_commonDivisor_11 : decode cX6_commonDivisor 11 = .ok (.bipush 100, 2) := by decide +kernel
theorem dX6_commonDivisor_13 : decode cX6_commonDivisor 13 = .ok (.if_icmp .ge 31, 3) := by decide +kernel
theorem dX6_commonDivisor_16 : decode cX6_commonDivisor 16 = .ok (.lload 6, 2) := by decide +kernel
theorem dX6_commonDivisor_18 : decode cX6_commonDivisor 18 = .ok (.lconst 0, 1) := by decide +kernel
theorem dX6_commonDivisor_19 : decode cX6_commonDivisor 19 = .ok (.lcmp, 1) := by decide +kernel
theorem dX6_commonDivisor_20 : decode cX6_commonDivisor 20 = .ok (.ifCond .eq 24, 3) := by decide +kernel
theorem dX6_commonDivisor_23 : decode cX6_commonDivisor 23 = .ok (.lload 4, 2) := by decide +kernel
theorem dX6_commonDivisor_25 : decode cX6_commonDivisor 25 = .ok (.lload 6, 2) := by decide +kernel
theorem dX6_commonDivisor_27 : decode cX6_commonDivisor 27 = .ok (.lrem, 1) := by decide +kernel
theorem dX6_commonDivisor_28 : decode cX6_commonDivisor 28 = .ok (.lstore 9, 2) := by decide +kernel
theorem dX6_commonDivisor_30 : decode cX6_commonDivisor 30 = .ok (.lload 6, 2) := by decide +kernel
theorem dX6_commonDivisor_32 : decode cX6_commonDivisor 32 = .ok (.lstore 4, 2) := by decide +kernel
theorem dX6_commonDivisor_34 : decode cX6_commonDivisor 34 = .ok (.lload 9, 2) := by decide +kernel
theorem dX6_commonDivisor_36 : decode cX6_commonDivisor 36 = .ok (.lstore 6, 2) := by decide +kernel
theorem dX6_commonDivisor_38 : decode cX6_commonDivisor 38 = .ok (.iinc 8 1, 3) := by decide +kernel
theorem dX6_commonDivisor_41 : decode cX6_commonDivisor 41 = .ok (.goto (-32), 3) := by decide +kernel
theorem dX6_commonDivisor_44 : decode cX6_commonDivisor 44 = .ok (.lload 4, 2) := by decide +kernel
theorem dX6_commonDivisor_46 : decode cX6_commonDivisor 46 = .ok (.lreturn, 1) := by decide +kernel
set_option maxRecDepth 20000 in
theorem ggX6_year_X6_isIn : GoodIn wsX6_year wsX6_isIn := goodIn_r _ [8] (by decide +kernel) (by decide +kernel)
set_option maxRecDepth 20000 in
theorem gX6_year_X6_isIn : GoodIn wsX6_year (va_wsS RX6 44 yX6_isIn wsX6_isIn) := goodIn_app (goodIn_of _ (by decide +kernel)) ggX6_year_X6_isIn
set_option maxRecDepth 20000 in
theorem ggX6_year_X4_tellByDraws : GoodIn wsX6_year wsX4_tellByDraws := goodIn_r _ [13, 14, 15, 16, 17, 18, 19, 20, 21, 22, 23, 24, 25, 26, 27, 28, 29, 30, 31, 32, 33, 34, 35, 36, 37, 38, 39, 40, 41, 42, 43, 44, 45, 46, 47, 48, 49, 50, 51, 52, 53, 54, 55, 56, 57, 58, 59, 60, 61, 7, 62, 5, 6, 8, 63, 64, 65, 66, 67, 68, 69, 70, 71, 72, 73, 74, 75, 76, 77, 78, 79, 80, 81, 82, 83, 84, 85, 86, 87, 88, 89, 90, 111, 112, 113, 114, 115, 116, 117, 118, 119, 120, 121, 122, 123, 124, 125, 126, 127, 128] (by decide +kernel) (by decide +kernel)
set_option maxRecDepth 20000 in
theorem gX6_year_X4_tellByDraws : GoodIn wsX6_year (wsV RX6 204 RX4 yX4_tellByDraws wsX4_tellByDraws) := goodIn_app (goodIn_of _ (by decide +kernel)) ggX6_year_X4_tellByDraws
set_option maxRecDepth 20000 in
theorem ggX6_year_X5_whoIsWithin : GoodIn wsX6_year wsX5_whoIsWithin := goodIn_r _ [94, 27, 118, 119, 120, 121, 122, 123, 124, 125] (by decide +kernel) (by decide +kernel)
set_option maxRecDepth 20000 in
theorem gX6_year_X5_whoIsWithin : GoodIn wsX6_year (wsV RX6 48 RX5 yX5_whoIsWithin wsX5_whoIsWithin) := goodIn_app (goodIn_of _ (by decide +kernel)) ggX6_year_X5_whoIsWithin
set_option maxRecDepth 20000 in
theorem ggX6_year_J6_bitCount_0f7a4 : GoodIn wsX6_year wsJ6_bitCount_0f7a4 := goodIn_r _ [98, 99, 100, 101] (by decide +kernel) (by decide +kernel)
set_option maxRecDepth 20000 in
theorem gX6_year_J6_bitCount_0f7a4 : GoodIn wsX6_year (va_wsS RX6 208 yJ6_bitCount_0f7a4 wsJ6_bitCount_0f7a4) := goodIn_app (goodIn_of _ (by decide +kernel)) ggX6_year_J6_bitCount_0f7a4
set_option maxRecDepth 20000 in
theorem ggX6_year_X5_liesInAll : GoodIn wsX6_year wsX5_liesInAll := goodIn_r _ [105, 33, 118, 119, 120, 121, 122, 123, 124, 125] (by decide +kernel) (by decide +kernel)
set_option maxRecDepth 20000 in
theorem gX6_year_X5_liesInAll : GoodIn wsX6_year (wsV RX6 52 RX5 yX5_liesInAll wsX5_liesInAll) := goodIn_app (goodIn_of _ (by decide +kernel)) ggX6_year_X5_liesInAll
theorem dX6_year_0 : decode cX6_year 0 = .ok (.iload_n 1, 1) := by decide +kernel
theorem dX6_year_1 : decode cX6_year 1 = .ok (.iconst 0, 1) := by decide +kernel
theorem dX6_year_2 : decode cX6_year 2 = .ok (.sipush 9999, 3) := by decide +kernel
theorem dX6_year_5 : decode cX6_year 5 = .ok (.invokestatic 44, 3) := by decide +kernel
theorem dX6_year_8 : decode cX6_year 8 = .ok (.ifCond .eq 22, 3) := by decide +kernel
theorem dX6_year_11 : decode cX6_year 11 = .ok (.iload_n 2, 1) := by decide +kernel
theorem dX6_year_12 : decode cX6_year 12 = .ok (.iconst 1, 1) := by decide +kernel
theorem dX6_year_13 : decode cX6_year 13 = .ok (.bipush 99, 2) := by decide +kernel
theorem dX6_year_15 : decode cX6_year 15 = .ok (.invokestatic 44, 3) := by decide +kernel
theorem dX6_year_18 : decode cX6_year 18 = .ok (.ifCond .eq 12, 3) := by decide +kernel
theorem dX6_year_21 : decode cX6_year 21 = .ok (.iload_n 3, 1) := by decide +kernel
theorem dX6_year_22 : decode cX6_year 22 = .ok (.iconst 0, 1) := by decide +kernel
theorem dX6_year_23 : decode cX6_year 23 = .ok (.iconst 2, 1) := by decide +kernel
theorem dX6_year_24 : decode cX6_year 24 = .ok (.invokestatic 44, 3) := by decide +kernel
theorem dX6_year_27 : decode cX6_year 27 = .ok (.ifCond .ne 6, 3) := by decide +kernel
theorem dX6_year_30 : decode cX6_year 30 = .ok (.bipush (-2), 2) := by decide +kernel
theorem dX6_year_32 : decode cX6_year 32 = .ok (.ireturn, 1) := by decide +kernel
theorem dX6_year_33 : decode cX6_year 33 = .ok (.aload_n 0, 1) := by decide +kernel
theorem dX6_year_34 : decode cX6_year 34 = .ok (.getfield 33, 3) := by decide +kernel
theorem dX6_year_37 : decode cX6_year 37 = .ok (.aload_n 0, 1) := by decide +kernel
theorem dX6_year_38 : decode cX6_year 38 = .ok (.getfield 10, 3) := by decide +kernel
theorem dX6_year_41 : decode cX6_year 41 = .ok (.iload_n 1, 1) := by decide +kernel
theorem dX6_year_42 : decode cX6_year 42 = .ok (.iload_n 2, 1) := by decide +kernel
theorem dX6_year_43 : decode cX6_year 43 = .ok (.invokevirtual 204, 3) := by decide +kernel
theorem dX6_year_46 : decode cX6_year 46 = .ok (.iload_n 3, 1) := by decide +kernel
theorem dX6_year_47 : decode cX6_year 47 = .ok (.lookupswitch 50 #[(0, 25), (1, 39)], 25) := by decide +kernel
theorem dX6_year_72 : decode cX6_year 72 = .ok (.aload_n 0, 1) := by decide +kernel
theorem dX6_year_73 : decode cX6_year 73 = .ok (.getfield 33, 3) := by decide +kernel
theorem dX6_year_76 : decode cX6_year 76 = .ok (.getfield 102, 3) := by decide +kernel
theorem dX6_year_79 : decode cX6_year 79 = .ok (.invokevirtual 48, 3) := by decide +kernel
theorem dX6_year_82 : decode cX6_year 82 = .ok (.invokestatic 208, 3) := by decide +kernel
theorem dX6_year_85 : decode cX6_year 85 = .ok (.ireturn, 1) := by decide +kernel
theorem dX6_year_86 : decode cX6_year 86 = .ok (.aload_n 0, 1) := by decide +kernel
theorem dX6_year_87 : decode cX6_year 87 = .ok (.getfield 33, 3) := by decide +kernel
theorem dX6_year_90 : decode cX6_year 90 = .ok (.getfield 102, 3) := by decide +kernel
theorem dX6_year_93 : decode cX6_year 93 = .ok (.invokevirtual 52, 3) := by decide +kernel
theorem dX6_year_96 : decode cX6_year 96 = .ok (.ireturn, 1) := by decide +kernel
theorem dX6_year_97 : decode cX6_year 97 = .ok (.aload_n 0, 1) := by decide +kernel
theorem dX6_year_98 : decode cX6_year 98 = .ok (.getfield 33, 3) := by decide +kernel
theorem dX6_year_101 : decode cX6_year 101 = .ok (.getfield 102, 3) := by decide +kernel
theorem dX6_year_104 : decode cX6_year 104 = .ok (.getfield 68, 3) := by decide +kernel
theorem dX6_year_107 : decode cX6_year 107 = .ok (.ireturn, 1) := by decide +kernel
set_option maxRecDepth 20000 in
theorem ggX6_image_X6_isIn : GoodIn wsX6_image wsX6_isIn := goodIn_r _ [10] (by decide +kernel) (by decide +kernel)
set_option maxRecDepth 20000 in
theorem gX6_image_X6_isIn : GoodIn wsX6_image (va_wsS RX6 44 yX6_isIn wsX6_isIn) := goodIn_app (goodIn_of _ (by decide +kernel)) ggX6_image_X6_isIn
set_option maxRecDepth 20000 in
theorem ggX6_image_X5_become : GoodIn wsX6_image wsX5_become := goodIn_r _ [15, 16, 17, 18, 19, 20, 21, 22, 23, 24, 25, 26, 27, 44, 45, 46, 47, 48, 49, 50, 51] (by decide +kernel) (by decide +kernel)
set_option maxRecDepth 20000 in
theorem gX6_image_X5_become : GoodIn wsX6_image (wsV RX6 105 RX5 yX5_become wsX5_become) := goodIn_app (goodIn_of _ (by decide +kernel)) ggX6_image_X5_become
set_option maxRecDepth 20000 in
theorem ggX6_image_X3_become : GoodIn wsX6_image wsX3_become := goodIn_r _ [32, 33, 34, 35, 52, 53, 54] (by decide +kernel) (by decide +kernel)
set_option maxRecDepth 20000 in
theorem gX6_image_X3_become : GoodIn wsX6_image (wsV RX6 215 RX3 yX3_become wsX3_become) := goodIn_app (goodIn_of _ (by decide +kernel)) ggX6_image_X3_become
theorem dX6_image_0 : decode cX6_image 0 = .ok (.iload_n 1, 1) := by decide +kernel
theorem dX6_image_1 : decode cX6_image 1 = .ok (.iconst 0, 1) := by decide +kernel
theorem dX6_image_2 : decode cX6_image 2 = .ok (.iconst 1, 1) := by decide +kernel
theorem dX6_image_3 : decode cX6_image 3 = .ok (.invokestatic 44, 3) := by decide +kernel
theorem dX6_image_6 : decode cX6_image 6 = .ok (.ifCond .ne 6, 3) := by decide +kernel
theorem dX6_image_9 : decode cX6_image 9 = .ok (.bipush (-2), 2) := by decide +kernel
theorem dX6_image_11 : decode cX6_image 11 = .ok (.ireturn, 1) := by decide +kernel
theorem dX6_image_12 : decode cX6_image 12 = .ok (.aload_n 0, 1) := by decide +kernel
theorem dX6_image_13 : decode cX6_image 13 = .ok (.getfield 39, 3) := by decide +kernel
theorem dX6_image_16 : decode cX6_image 16 = .ok (.iload_n 1, 1) := by decide +kernel
theorem dX6_image_17 : decode cX6_image 17 = .ok (.aaload, 1) := by decide +kernel
theorem dX6_image_18 : decode cX6_image 18 = .ok (.getfield 213, 3) := by decide +kernel
theorem dX6_image_21 : decode cX6_image 21 = .ok (.aload_n 0, 1) := by decide +kernel
theorem dX6_image_22 : decode cX6_image 22 = .ok (.getfield 10, 3) := by decide +kernel
theorem dX6_image_25 : decode cX6_image 25 = .ok (.invokevirtual 105, 3) := by decide +kernel
theorem dX6_image_28 : decode cX6_image 28 = .ok (.aload_n 0, 1) := by decide +kernel
theorem dX6_image_29 : decode cX6_image 29 = .ok (.getfield 39, 3) := by decide +kernel
theorem dX6_image_32 : decode cX6_image 32 = .ok (.iload_n 1, 1) := by decide +kernel
theorem dX6_image_33 : decode cX6_image 33 = .ok (.aaload, 1) := by decide +kernel
theorem dX6_image_34 : decode cX6_image 34 = .ok (.getfield 214, 3) := by decide +kernel
theorem dX6_image_37 : decode cX6_image 37 = .ok (.aload_n 0, 1) := by decide +kernel
theorem dX6_image_38 : decode cX6_image 38 = .ok (.getfield 19, 3) := by decide +kernel
theorem dX6_image_41 : decode cX6_image 41 = .ok (.invokevirtual 215, 3) := by decide +kernel
theorem dX6_image_44 : decode cX6_image 44 = .ok (.aload_n 0, 1) := by decide +kernel
theorem dX6_image_45 : decode cX6_image 45 = .ok (.getfield 39, 3) := by decide +kernel
theorem dX6_image_48 : decode cX6_image 48 = .ok (.iload_n 1, 1) := by decide +kernel
theorem dX6_image_49 : decode cX6_image 49 = .ok (.aaload, 1) := by decide +kernel
theorem dX6_image_50 : decode cX6_image 50 = .ok (.iconst 1, 1) := by decide +kernel
theorem dX6_image_51 : decode cX6_image 51 = .ok (.putfield 218, 3) := by decide +kernel
theorem dX6_image_54 : decode cX6_image 54 = .ok (.iconst 1, 1) := by decide +kernel
theorem dX6_image_55 : decode cX6_image 55 = .ok (.ireturn, 1) := by decide +kernel
set_option maxRecDepth 20000 in
theorem ggX6_restore_X6_isIn : GoodIn wsX6_restore wsX6_isIn := goodIn_r _ [10] (by decide +kernel) (by decide +kernel)
set_option maxRecDepth 20000 in
theorem gX6_restore_X6_isIn : GoodIn wsX6_restore (va_wsS RX6 44 yX6_isIn wsX6_isIn) := goodIn_app (goodIn_of _ (by decide +kernel)) ggX6_restore_X6_isIn
set_option maxRecDepth 20000 in
theorem ggX6_restore_X5_become : GoodIn wsX6_restore wsX5_become := goodIn_r _ [15, 16, 17, 18, 19, 20, 21, 22, 23, 24, 25, 26, 27, 44, 45, 46, 47, 48, 49, 50, 51] (by decide +kernel) (by decide +kernel)
set_option maxRecDepth 20000 in
theorem gX6_restore_X5_become : GoodIn wsX6_restore (wsV RX6 105 RX5 yX5_become wsX5_become) := goodIn_app (goodIn_of _ (by decide +kernel)) ggX6_restore_X5_become
set_option maxRecDepth 20000 in
theorem ggX6_restore_X3_become : GoodIn wsX6_restore wsX3_become := goodIn_r _ [32, 33, 34, 35, 52, 53, 54] (by decide +kernel) (by decide +kernel)
set_option maxRecDepth 20000 in
theorem gX6_restore_X3_become : GoodIn wsX6_restore (wsV RX6 215 RX3 yX3_become wsX3_become) := goodIn_app (goodIn_of _ (by decide +kernel)) ggX6_restore_X3_become
theorem dX6_restore_0 : decode cX6_restore 0 = .ok (.iload_n 1, 1) := by decide +kernel
theorem dX6_restore_1 : decode cX6_restore 1 = .ok (.iconst 0, 1) := by decide +kernel
theorem dX6_restore_2 : decode cX6_restore 2 = .ok (.iconst 1, 1) := by decide +kernel
theorem dX6_restore_3 : decode cX6_restore 3 = .ok (.invokestatic 44, 3) := by decide +kernel
theorem dX6_restore_6 : decode cX6_restore 6 = .ok (.ifCond .ne 6, 3) := by decide +kernel
theorem dX6_restore_9 : decode cX6_restore 9 = .ok (.bipush (-2), 2) := by decide +kernel
theorem dX6_restore_11 : decode cX6_restore 11 = .ok (.ireturn, 1) := by decide +kernel
theorem dX6_restore_12 : decode cX6_restore 12 = .ok (.aload_n 0, 1) := by decide +kernel
theorem dX6_restore_13 : decode cX6_restore 13 = .ok (.getfield 39, 3) := by decide +kernel
theorem dX6_restore_16 : decode cX6_restore 16 = .ok (.iload_n 1, 1) := by decide +kernel
theorem dX6_restore_17 : decode cX6_restore 17 = .ok (.aaload, 1) := by decide +kernel
theorem dX6_restore_18 : decode cX6_restore 18 = .ok (.getfield 218, 3) := by decide +kernel
theorem dX6_restore_21 : decode cX6_restore 21 = .ok (.ifCond .ne 6, 3) := by decide +kernel
theorem dX6_restore_24 : decode cX6_restore 24 = .ok (.bipush (-3), 2) := by decide +kernel
theorem dX6_restore_26 : decode cX6_restore 26 = .ok (.ireturn, 1) := by decide +kernel
theorem dX6_restore_27 : decode cX6_restore 27 = .ok (.aload_n 0, 1) := by decide +kernel
theorem dX6_restore_28 : decode cX6_restore 28 = .ok (.getfield 10, 3) := by decide +kernel
theorem dX6_restore_31 : decode cX6_restore 31 = .ok (.aload_n 0, 1) := by decide +kernel
theorem dX6_restore_32 : decode cX6_restore 32 = .ok (.getfield 39, 3) := by decide +kernel
theorem dX6_restore_35 : decode cX6_restore 35 = .ok (.iload_n 1, 1) := by decide +kernel
theorem dX6_restore_36 : decode cX6_restore 36 = .ok (.aaload, 1) := by decide +kernel
theorem dX6_restore_37 : decode cX6_restore 37 = .ok (.getfield 213, 3) := by decide +kernel
theorem dX6_restore_40 : decode cX6_restore 40 = .ok (.invokevirtual 105, 3) := by decide +kernel
theorem dX6_restore_43 : decode cX6_restore 43 = .ok (.aload_n 0, 1) := by decide +kernel
theorem dX6_restore_44 : decode cX6_restore 44 = .ok (.getfield 19, 3) := by decide +kernel
theorem dX6_restore_47 : decode cX6_restore 47 = .ok (.aload_n 0, 1) := by decide +kernel
theorem dX6_restore_48 : decode cX6_restore 48 = .ok (.getfield 39, 3) := by decide +kernel
theorem dX6_restore_51 : decode cX6_restore 51 = .ok (.iload_n 1, 1) := by decide +kernel
theorem dX6_restore_52 : decode cX6_restore 52 = .ok (.aaload, 1) := by decide +kernel
theorem dX6_restore_53 : decode cX6_restore 53 = .ok (.getfield 214, 3) := by decide +kernel
theorem dX6_restore_56 : decode cX6_restore 56 = .ok (.invokevirtual 215, 3) := by decide +kernel
theorem dX6_restore_59 : decode cX6_restore 59 = .ok (.iconst 1, 1) := by decide +kernel
theorem dX6_restore_60 : decode cX6_restore 60 = .ok (.ireturn, 1) := by decide +kernel
set_option maxRecDepth 20000 in
theorem ggX6_told_X6_isIn : GoodIn wsX6_told wsX6_isIn := goodIn_r _ [17] (by decide +kernel) (by decide +kernel)
set_option maxRecDepth 20000 in
theorem gX6_told_X6_isIn : GoodIn wsX6_told (va_wsS RX6 44 yX6_isIn wsX6_isIn) := goodIn_app (goodIn_of _ (by decide +kernel)) ggX6_told_X6_isIn
set_option maxRecDepth 20000 in
theorem ggX6_told_X5_whoIsWithin : GoodIn wsX6_told wsX5_whoIsWithin := goodIn_r _ [22, 23, 29, 30, 31, 32, 33, 34, 35, 36] (by decide +kernel) (by decide +kernel)
set_option maxRecDepth 20000 in
theorem gX6_told_X5_whoIsWithin : GoodIn wsX6_told (wsV RX6 48 RX5 yX5_whoIsWithin wsX5_whoIsWithin) := goodIn_app (goodIn_of _ (by decide +kernel)) ggX6_told_X5_whoIsWithin
theorem dX6_told_0 : decode cX6_told 0 = .ok (.iload_n 1, 1) := by decide +kernel
theorem dX6_told_1 : decode cX6_told 1 = .ok (.bipush 10, 2) := by decide +kernel
theorem dX6_told_3 : decode cX6_told 3 = .ok (.bipush 15, 2) := by decide +kernel
theorem dX6_told_5 : decode cX6_told 5 = .ok (.invokestatic 44, 3) := by decide +kernel
theorem dX6_told_8 : decode cX6_told 8 = .ok (.ifCond .eq 16, 3) := by decide +kernel
theorem dX6_told_11 : decode cX6_told 11 = .ok (.aload_n 0, 1) := by decide +kernel
theorem dX6_told_12 : decode cX6_told 12 = .ok (.getfield 10, 3) := by decide +kernel
theorem dX6_told_15 : decode cX6_told 15 = .ok (.getfield 112, 3) := by decide +kernel
theorem dX6_told_18 : decode cX6_told 18 = .ok (.iload_n 1, 1) := by decide +kernel
theorem dX6_told_19 : decode cX6_told 19 = .ok (.bipush 10, 2) := by decide +kernel
theorem dX6_told_21 : decode cX6_told 21 = .ok (.isub, 1) := by decide +kernel
theorem dX6_told_22 : decode cX6_told 22 = .ok (.iaload, 1) := by decide +kernel
theorem dX6_told_23 : decode cX6_told 23 = .ok (.ireturn, 1) := by decide +kernel
theorem dX6_told_24 : decode cX6_told 24 = .ok (.iload_n 1, 1) := by decide +kernel
theorem dX6_told_25 : decode cX6_told 25 = .ok (.bipush 20, 2) := by decide +kernel
theorem dX6_told_27 : decode cX6_told 27 = .ok (.bipush 25, 2) := by decide +kernel
theorem dX6_told_29 : decode cX6_told 29 = .ok (.invokestatic 44, 3) := by decide +kernel
theorem dX6_told_32 : decode cX6_told 32 = .ok (.ifCond .eq 16, 3) := by decide +kernel
theorem dX6_told_35 : decode cX6_told 35 = .ok (.aload_n 0, 1) := by decide +kernel
theorem dX6_told_36 : decode cX6_told 36 = .ok (.getfield 10, 3) := by decide +kernel
theorem dX6_told_39 : decode cX6_told 39 = .ok (.getfield 75, 3) := by decide +kernel
theorem dX6_told_42 : decode cX6_told 42 = .ok (.iload_n 1, 1) := by decide +kernel
theorem dX6_told_43 : decode cX6_told 43 = .ok (.bipush 20, 2) := by decide +kernel
theorem dX6_told_45 : decode cX6_told 45 = .ok (.isub, 1) := by decide +kernel
theorem dX6_told_46 : decode cX6_told 46 = .ok (.iaload, 1) := by decide +kernel
theorem dX6_told_47 : decode cX6_told 47 = .ok (.ireturn, 1) := by decide +kernel
theorem dX6_told_48 : decode cX6_told 48 = .ok (.iload_n 1, 1) := by decide +kernel
theorem dX6_told_49 : decode cX6_told 49 = .ok (.bipush 30, 2) := by decide +kernel
theorem dX6_told_51 : decode cX6_told 51 = .ok (.bipush 59, 2) := by decide +kernel
theorem dX6_told_53 : decode cX6_told 53 = .ok (.invokestatic 44, 3) := by decide +kernel
theorem dX6_told_56 : decode cX6_told 56 = .ok (.ifCond .eq 16, 3) := by decide +kernel
theorem dX6_told_59 : decode cX6_told 59 = .ok (.aload_n 0, 1) := by decide +kernel
theorem dX6_told_60 : decode cX6_told 60 = .ok (.getfield 10, 3) := by decide +kernel
theorem dX6_told_63 : decode cX6_told 63 = .ok (.getfield 115, 3) := by decide +kernel
theorem dX6_told_66 : decode cX6_told 66 = .ok (.iload_n 1, 1) := by decide +kernel
theorem dX6_told_67 : decode cX6_told 67 = .ok (.bipush 30, 2) := by decide +kernel
theorem dX6_told_69 : decode cX6_told 69 = .ok (.isub, 1) := by decide +kernel
theorem dX6_told_70 : decode cX6_told 70 = .ok (.iaload, 1) := by decide +kernel
theorem dX6_told_71 : decode cX6_told 71 = .ok (.ireturn, 1) := by decide +kernel
theorem dX6_told_72 : decode cX6_told 72 = .ok (.iload_n 1, 1) := by decide +kernel
theorem dX6_told_73 : decode cX6_told 73 = .ok (.tableswitch 111 0 7 #[47, 55, 63, 71, 79, 87, 95, 103], 47) := by decide +kernel
theorem dX6_told_120 : decode cX6_told 120 = .ok (.aload_n 0, 1) := by decide +kernel
theorem dX6_told_121 : decode cX6_told 121 = .ok (.getfield 26, 3) := by decide +kernel
theorem dX6_told_124 : decode cX6_told 124 = .ok (.getfield 82, 3) := by decide +kernel
theorem dX6_told_127 : decode cX6_told 127 = .ok (.ireturn, 1) := by decide +kernel
theorem dX6_told_128 : decode cX6_told 128 = .ok (.aload_n 0, 1) := by decide +kernel
theorem dX6_told_129 : decode cX6_told 129 = .ok (.getfield 10, 3) := by decide +kernel
theorem dX6_told_132 : decode cX6_told 132 = .ok (.getfield 62, 3) := by decide +kernel
theorem dX6_told_135 : decode cX6_told 135 = .ok (.ireturn, 1) := by decide +kernel
theorem dX6_told_136 : decode cX6_told 136 = .ok (.aload_n 0, 1) := by decide +kernel
theorem dX6_told_137 : decode cX6_told 137 = .ok (.getfield 10, 3) := by decide +kernel
theorem dX6_told_140 : decode cX6_told 140 = .ok (.getfield 65, 3) := by decide +kernel
theorem dX6_told_143 : decode cX6_told 143 = .ok (.ireturn, 1) := by decide +kernel
theorem dX6_told_144 : decode cX6_told 144 = .ok (.aload_n 0, 1) := by decide +kernel
theorem dX6_told_145 : decode cX6_told 145 = .ok (.getfield 10, 3) := by decide +kernel
theorem dX6_told_148 : decode cX6_told 148 = .ok (.getfield 68, 3) := by decide +kernel
theorem dX6_told_151 : decode cX6_told 151 = .ok (.ireturn, 1) := by decide +kernel
theorem dX6_told_152 : decode cX6_told 152 = .ok (.aload_n 0, 1) := by decide +kernel
theorem dX6_told_153 : decode cX6_told 153 = .ok (.getfield 10, 3) := by decide +kernel
theorem dX6_told_156 : decode cX6_told 156 = .ok (.getfield 55, 3) := by decide +kernel
theorem dX6_told_159 : decode cX6_told 159 = .ok (.ireturn, 1) := by decide +kernel
theorem dX6_told_160 : decode cX6_told 160 = .ok (.aload_n 0, 1) := by decide +kernel
theorem dX6_told_161 : decode cX6_told 161 = .ok (.getfield 10, 3) := by decide +kernel
theorem dX6_told_164 : decode cX6_told 164 = .ok (.getfield 59, 3) := by decide +kernel
theorem dX6_told_167 : decode cX6_told 167 = .ok (.ireturn, 1) := by decide +kernel
theorem dX6_told_168 : decode cX6_told 168 = .ok (.aload_n 0, 1) := by decide +kernel
theorem dX6_told_169 : decode cX6_told 169 = .ok (.getfield 19, 3) := by decide +kernel
theorem dX6_told_172 : decode cX6_told 172 = .ok (.getfield 165, 3) := by decide +kernel
theorem dX6_told_175 : decode cX6_told 175 = .ok (.ireturn, 1) := by decide +kernel
theorem dX6_told_176 : decode cX6_told 176 = .ok (.aload_n 0, 1) := by decide +kernel
theorem dX6_told_177 : decode cX6_told 177 = .ok (.getfield 10, 3) := by decide +kernel
theorem dX6_told_180 : decode cX6_told 180 = .ok (.invokevirtual 48, 3) := by decide +kernel
theorem dX6_told_183 : decode cX6_told 183 = .ok (.ireturn, 1) := by decide +kernel
theorem dX6_told_184 : decode cX6_told 184 = .ok (.bipush (-2), 2) := by decide +kernel
theorem dX6_told_186 : decode cX6_told 186 = .ok (.ireturn, 1) := by decide +kernel
theorem dX6_isIn_0 : decode cX6_isIn 0 = .ok (.iload_n 0, 1) := by decide +kernel
theorem dX6_isIn_1 : decode cX6_isIn 1 = .ok (.iload_n 1, 1) := by decide +kernel
theorem dX6_isIn_2 : decode cX6_isIn 2 = .ok (.if_icmp .lt 12, 3) := by decide +kernel
theorem dX6_isIn_5 : decode cX6_isIn 5 = .ok (.iload_n 0, 1) := by decide +kernel
theorem dX6_isIn_6 : decode cX6_isIn 6 = .ok (.iload_n 2, 1) := by decide +kernel
theorem dX6_isIn_7 : decode cX6_isIn 7 = .ok (.if_icmp .gt 7, 3) := by decide +kernel
theorem dX6_isIn_10 : decode cX6_isIn 10 = .ok (.iconst 1, 1) := by decide +kernel
theorem dX6_isIn_11 : decode cX6_isIn 11 = .ok (.goto 4, 3) := by decide +kernel
theorem dX6_isIn_14 : decode cX6_isIn 14 = .ok (.iconst 0, 1) := by decide +kernel
theorem dX6_isIn_15 : decode cX6_isIn 15 = .ok (.ireturn, 1) := by decide +kernel
set_option maxRecDepth 20000 in
theorem ggX6_isPerson_X6_isIn : GoodIn wsX6_isPerson wsX6_isIn := goodIn_r _ [4] (by decide +kernel) (by decide +kernel)
set_option maxRecDepth 20000 in
theorem gX6_isPerson_X6_isIn : GoodIn wsX6_isPerson (va_wsS RX6 44 yX6_isIn wsX6_isIn) := goodIn_app (goodIn_of _ (by decide +kernel)) ggX6_isPerson_X6_isIn
theorem dX6_isPerson_0 : decode cX6_isPerson 0 = .ok (.iload_n 0, 1) := by decide +kernel
theorem dX6_isPerson_1 : decode cX6_isPerson 1 = .ok (.iconst 0, 1) := by decide +kernel
theorem dX6_isPerson_2 : decode cX6_isPerson 2 = .ok (.iconst 5, 1) := by decide +kernel
theorem dX6_isPerson_3 : decode cX6_isPerson 3 = .ok (.invokestatic 44, 3) := by decide +kernel
theorem dX6_isPerson_6 : decode cX6_isPerson 6 = .ok (.ireturn, 1) := by decide +kernel
theorem dX7_init_0 : decode cX7_init 0 = .ok (.aload_n 0, 1) := by decide +kernel
theorem dX7_init_1 : decode cX7_init 1 = .ok (.invokespecial 1, 3) := by decide +kernel
theorem dX7_init_4 : decode cX7_init 4 = .ok (.aload_n 0, 1) := by decide +kernel
theorem dX7_init_5 : decode cX7_init 5 = .ok (.bipush 45, 2) := by decide +kernel
theorem dX7_init_7 : decode cX7_init 7 = .ok (.newarray .int, 2) := by decide +kernel
theorem dX7_init_9 : decode cX7_init 9 = .ok (.putfield 7, 3) := by decide +kernel
theorem dX7_init_12 : decode cX7_init 12 = .ok (.aload_n 0, 1) := by decide +kernel
theorem dX7_init_13 : decode cX7_init 13 = .ok (.bipush 45, 2) := by decide +kernel
theorem dX7_init_15 : decode cX7_init 15 = .ok (.newarray .int, 2) := by decide +kernel
theorem dX7_init_17 : decode cX7_init 17 = .ok (.putfield 13, 3) := by decide +kernel
theorem dX7_init_20 : decode cX7_init 20 = .ok (.aload_n 0, 1) := by decide +kernel
theorem dX7_init_21 : decode cX7_init 21 = .ok (.bipush 11, 2) := by decide +kernel
theorem dX7_init_23 : decode cX7_init 23 = .ok (.putfield 16, 3) := by decide +kernel
theorem dX7_init_26 : decode cX7_init 26 = .ok (.aload_n 0, 1) := by decide +kernel
theorem dX7_init_27 : decode cX7_init 27 = .ok (.sipush 358, 3) := by decide +kernel
theorem dX7_init_30 : decode cX7_init 30 = .ok (.putfield 20, 3) := by decide +kernel
theorem dX7_init_33 : decode cX7_init 33 = .ok (.aload_n 0, 1) := by decide +kernel
theorem dX7_init_34 : decode cX7_init 34 = .ok (.bipush 16, 2) := by decide +kernel
theorem dX7_init_36 : decode cX7_init 36 = .ok (.newarray .int, 2) := by decide +kernel
theorem dX7_init_38 : decode cX7_init 38 = .ok (.putfield 23, 3) := by decide +kernel
theorem dX7_init_41 : decode cX7_init 41 = .ok (.aload_n 0, 1) := by decide +kernel
theorem dX7_init_42 : decode cX7_init 42 = .ok (.bipush 60, 2) := by decide +kernel
theorem dX7_init_44 : decode cX7_init 44 = .ok (.newarray .int, 2) := by decide +kernel
theorem dX7_init_46 : decode cX7_init 46 = .ok (.putfield 26, 3) := by decide +kernel
theorem dX7_init_49 : decode cX7_init 49 = .ok (.aload_n 0, 1) := by decide +kernel
theorem dX7_init_50 : decode cX7_init 50 = .ok (.bipush 6, 2) := by decide +kernel
theorem dX7_init_52 : decode cX7_init 52 = .ok (.newarray .int, 2) := by decide +kernel
theorem dX7_init_54 : decode cX7_init 54 = .ok (.putfield 29, 3) := by decide +kernel
theorem dX7_init_57 : decode cX7_init 57 = .ok (.aload_n 0, 1) := by decide +kernel
theorem dX7_init_58 : decode cX7_init 58 = .ok (.bipush 9, 2) := by decide +kernel
theorem dX7_init_60 : decode cX7_init 60 = .ok (.newarray .int, 2) := by decide +kernel
theorem dX7_init_62 : decode cX7_init 62 = .ok (.putfield 32, 3) := by decide +kernel
theorem dX7_init_65 : decode cX7_init 65 = .ok (.aload_n 0, 1) := by decide +kernel
theorem dX7_init_66 : decode cX7_init 66 = .ok (.bipush 9, 2) := by decide +kernel
theorem dX7_init_68 : decode cX7_init 68 = .ok (.newarray .int, 2) := by decide +kernel
theorem dX7_init_70 : decode cX7_init 70 = .ok (.putfield 35, 3) := by decide +kernel
theorem dX7_init_73 : decode cX7_init 73 = .ok (.aload_n 0, 1) := by decide +kernel
theorem dX7_init_74 : decode cX7_init 74 = .ok (.sipush 256, 3) := by decide +kernel
theorem dX7_init_77 : decode cX7_init 77 = .ok (.newarray .int, 2) := by decide +kernel
theorem dX7_init_79 : decode cX7_init 79 = .ok (.putfield 38, 3) := by decide +kernel
theorem dX7_init_82 : decode cX7_init 82 = .ok (.aload_n 0, 1) := by decide +kernel
theorem dX7_init_83 : decode cX7_init 83 = .ok (.sipush 10000, 3) := by decide +kernel
theorem dX7_init_86 : decode cX7_init 86 = .ok (.newarray .boolean, 2) := by decide +kernel
theorem dX7_init_88 : decode cX7_init 88 = .ok (.putfield 41, 3) := by decide +kernel
theorem dX7_init_91 : decode cX7_init 91 = .ok (.aload_n 0, 1) := by decide +kernel
theorem dX7_init_92 : decode cX7_init 92 = .ok (.bipush 18, 2) := by decide +kernel
theorem dX7_init_94 : decode cX7_init 94 = .ok (.newarray .long, 2) := by decide +kernel
theorem dX7_init_96 : decode cX7_init 96 = .ok (.putfield 45, 3) := by decide +kernel
theorem dX7_init_99 : decode cX7_init 99 = .ok (.aload_n 0, 1) := by decide +kernel
theorem dX7_init_100 : decode cX7_init 100 = .ok (.sipush 140, 3) := by decide +kernel
theorem dX7_init_103 : decode cX7_init 103 = .ok (.newarray .int, 2) := by decide +kernel
theorem dX7_init_105 : decode cX7_init 105 = .ok (.putfield 49, 3) := by decide +kernel
theorem dX7_init_108 : decode cX7_init 108 = .ok (.aload_n 0, 1) := by decide +kernel
theorem dX7_init_109 : decode cX7_init 109 = .ok (.iconst 2, 1) := by decide +kernel
theorem dX7_init_110 : decode cX7_init 110 = .ok (.newarray .boolean, 2) := by decide +kernel
theorem dX7_init_112 : decode cX7_init 112 = .ok (.putfield 52, 3) := by decide +kernel
theorem dX7_init_115 : decode cX7_init 115 = .ok (.iconst 0, 1) := by decide +kernel
theorem dX7_init_116 : decode cX7_init 116 = .ok (.istore_n 1, 1) := by decide +kernel
theorem dX7_init_117 : decode cX7_init 117 = .ok (.iload_n 1, 1) := by decide +kernel
theorem dX7_init_118 : decode cX7_init 118 = .ok (.bipush 6, 2) := by decide +kernel
theorem dX7_init_120 : decode cX7_init 120 = .ok (.if_icmp .ge 28, 3) := by decide +kernel
theorem dX7_init_123 : decode cX7_init 123 = .ok (.aload_n 0, 1) := by decide +kernel
theorem dX7_init_124 : decode cX7_init 124 = .ok (.getfield 7, 3) := by decide +kernel
theorem dX7_init_127 : decode cX7_init 127 = .ok (.iload_n 1, 1) := by decide +kernel
theorem dX7_init_128 : decode cX7_init 128 = .ok (.bipush (-6), 2) := by decide +kernel
theorem dX7_init_130 : decode cX7_init 130 = .ok (.iastore, 1) := by decide +kernel
theorem dX7_init_131 : decode cX7_init 131 = .ok (.aload_n 0, 1) := by decide +kernel
theorem dX7_init_132 : decode cX7_init 132 = .ok (.getfield 7, 3) := by decide +kernel
theorem dX7_init_135 : decode cX7_init 135 = .ok (.bipush 6, 2) := by decide +kernel
theorem dX7_init_137 : decode cX7_init 137 = .ok (.iload_n 1, 1) := by decide +kernel
theorem dX7_init_138 : decode cX7_init 138 = .ok (.iadd, 1) := by decide +kernel
theorem dX7_init_139 : decode cX7_init 139 = .ok (.bipush 10, 2) := by decide +kernel
theorem dX7_init_141 : decode cX7_init 141 = .ok (.iastore, 1) := by decide +kernel
theorem dX7_init_142 : decode cX7_init 142 = .ok (.iinc 1 1, 3) := by decide +kernel
theorem dX7_init_145 : decode cX7_init 145 = .ok (.goto (-28), 3) := by decide +kernel
theorem dX7_init_148 : decode cX7_init 148 = .ok (.return_, 1) := by decide +kernel
theorem dX7_in_0 : decode cX7_in 0 = .ok (.iload_n 0, 1) := by decide +kernel
theorem dX7_in_1 : decode cX7_in 1 = .ok (.iload_n 1, 1) := by decide +kernel
theorem dX7_in_2 : decode cX7_in 2 = .ok (.if_icmp .lt 12, 3) := by decide +kernel
theorem dX7_in_5 : decode cX7_in 5 = .ok (.iload_n 0, 1) := by decide +kernel
theorem dX7_in_6 : decode cX7_in 6 = .ok (.iload_n 2, 1) := by decide +kernel
theorem dX7_in_7 : decode cX7_in 7 = .ok (.if_icmp .gt 7, 3) := by decide +kernel
theorem dX7_in_10 : decode cX7_in 10 = .ok (.iconst 1, 1) := by decide +kernel
theorem dX7_in_11 : decode cX7_in 11 = .ok (.goto 4, 3) := by decide +kernel
theorem dX7_in_14 : decode cX7_in 14 = .ok (.iconst 0, 1) := by decide +kernel
theorem dX7_in_15 : decode cX7_in 15 = .ok (.ireturn, 1) := by decide +kernel
theorem dX7_has_0 : decode cX7_has 0 = .ok (.iload_n 0, 1) := by decide +kernel
theorem dX7_has_1 : decode cX7_has 1 = .ok (.iload_n 1, 1) := by decide +kernel
theorem dX7_has_2 : decode cX7_has 2 = .ok (.ishr, 1) := by decide +kernel
theorem dX7_has_3 : decode cX7_has 3 = .ok (.iconst 1, 1) := by decide +kernel
theorem dX7_has_4 : decode cX7_has 4 = .ok (.iand, 1) := by decide +kernel
theorem dX7_has_5 : decode cX7_has 5 = .ok (.iconst 1, 1) := by decide +kernel
theorem dX7_has_6 : decode cX7_has 6 = .ok (.if_icmp .ne 7, 3) := by decide +kernel
theorem dX7_has_9 : decode cX7_has 9 = .ok (.iconst 1, 1) := by decide +kernel
theorem dX7_has_10 : decode cX7_has 10 = .ok (.goto 4, 3) := by decide +kernel
theorem dX7_has_13 : decode cX7_has 13 = .ok (.iconst 0, 1) := by decide +kernel
theorem dX7_has_14 : decode cX7_has 14 = .ok (.ireturn, 1) := by decide +kernel
theorem dX7_bits_0 : decode cX7_bits 0 = .ok (.iconst 0, 1) := by decide +kernel
theorem dX7_bits_1 : decode cX7_bits 1 = .ok (.istore_n 1, 1) := by decide +kernel
theorem dX7_bits_2 : decode cX7_bits 2 = .ok (.iconst 0, 1) := by decide +kernel
theorem dX7_bits_3 : decode cX7_bits 3 = .ok (.istore_n 2, 1) := by decide +kernel
theorem dX7_bits_4 : decode cX7_bits 4 = .ok (.iload_n 2, 1) := by decide +kernel
theorem dX7_bits_5 : decode cX7_bits 5 = .ok (.bipush 9, 2) := by decide +kernel
theorem dX7_bits_7 : decode cX7_bits 7 = .ok (.if_icmp .ge 17, 3) := by decide +kernel
theorem dX7_bits_10 : decode cX7_bits 10 = .ok (.iload_n 1, 1) := by decide +kernel
theorem dX7_bits_11 : decode cX7_bits 11 = .ok (.iload_n 0, 1) := by decide +kernel
theorem dX7_bits_12 : decode cX7_bits 12 = .ok (.iload_n 2, 1) := by decide +kernel
theorem dX7_bits_13 : decode cX7_bits 13 = .ok (.ishr, 1) := by decide +kernel
theorem dX7_bits_14 : decode cX7_bits 14 = .ok (.iconst 1, 1) := by decide +kernel
theorem dX7_bits_15 : decode cX7_bits 15 = .ok (.iand, 1) := by decide +kernel
theorem dX7_bits_16 : decode cX7_bits 16 = .ok (.iadd, 1) := by decide +kernel
theorem dX7_bits_17 : decode cX7_bits 17 = .ok (.istore_n 1, 1) := by decide +kernel
theorem dX7_bits_18 : decode cX7_bits 18 = .ok (.iinc 2 1, 3) := by decide +kernel
theorem dX7_bits_21 : decode cX7_bits 21 = .ok (.goto (-17), 3) := by decide +kernel
theorem dX7_bits_24 : decode cX7_bits 24 = .ok (.iload_n 1, 1) := by decide +kernel
theorem dX7_bits_25 : decode cX7_bits 25 = .ok (.ireturn, 1) := by decide +kernel
set_option maxRecDepth 20000 in
theorem ggX7_shift_X7_in : GoodIn wsX7_shift wsX7_in := goodIn_r _ [5] (by decide +kernel) (by decide +kernel)
set_option maxRecDepth 20000 in
theorem gX7_shift_X7_in : GoodIn wsX7_shift (va_wsS RX7 55 yX7_in wsX7_in) := goodIn_app (goodIn_of _ (by decide +kernel)) ggX7_shift_X7_in
set_option maxRecDepth 20000 in
theorem ggX7_shift_X7_asNow : GoodIn wsX7_shift wsX7_asNow := goodIn_r _ [9, 10, 11, 12, 13, 22, 23, 24, 25, 26, 27, 28, 29, 30, 31, 32, 33, 34, 35, 36, 37, 38, 39, 40, 41] (by decide +kernel) (by decide +kernel)
set_option maxRecDepth 20000 in
theorem gX7_shift_X7_asNow : GoodIn wsX7_shift (wsV RX7 59 RX7 yX7_asNow wsX7_asNow) := goodIn_app (goodIn_of _ (by decide +kernel)) ggX7_shift_X7_asNow
set_option maxRecDepth 20000 in
theorem ggX7_shift_X7_within : GoodIn wsX7_shift wsX7_within := goodIn_r _ [17, 10, 22, 23, 24, 25, 26, 27, 28, 29, 30, 31, 32, 33, 34, 35, 36, 37, 38, 39, 40, 41] (by decide +kernel) (by decide +kernel)
set_option maxRecDepth 20000 in
theorem gX7_shift_X7_within : GoodIn wsX7_shift (wsV RX7 62 RX7 yX7_within wsX7_within) := goodIn_app (goodIn_of _ (by decide +kernel)) ggX7_shift_X7_within
set_option maxRecDepth 20000 in
theorem ggX7_shift_X7_lying : GoodIn wsX7_shift wsX7_lying := goodIn_r _ [21, 10, 22, 23, 24, 25, 26, 27, 28, 29, 30, 31, 32, 33, 34, 35, 36, 37, 38, 39, 40, 41] (by decide +kernel) (by decide +kernel)
set_option maxRecDepth 20000 in
theorem gX7_shift_X7_lying : GoodIn wsX7_shift (wsV RX7 66 RX7 yX7_lying wsX7_lying) := goodIn_app (goodIn_of _ (by decide +kernel)) ggX7_shift_X7_lying
theorem dX7_shift_0 : decode cX7_shift 0 = .ok (.iload_n 1, 1) := by decide +kernel
theorem dX7_shift_1 : decode cX7_shift 1 = .ok (.iconst 0, 1) := by decide +kernel
theorem dX7_shift_2 : decode cX7_shift 2 = .ok (.bipush 30, 2) := by decide +kernel
theorem dX7_shift_4 : decode cX7_shift 4 = .ok (.invokestatic 55, 3) := by decide +kernel
theorem dX7_shift_7 : decode cX7_shift 7 = .ok (.ifCond .ne 6, 3) := by decide +kernel
theorem dX7_shift_10 : decode cX7_shift 10 = .ok (.bipush (-2), 2) := by decide +kernel
theorem dX7_shift_12 : decode cX7_shift 12 = .ok (.ireturn, 1) := by decide +kernel
theorem dX7_shift_13 : decode cX7_shift 13 = .ok (.aload_n 0, 1) := by decide +kernel
theorem dX7_shift_14 : decode cX7_shift 14 = .ok (.invokevirtual 59, 3) := by decide +kernel
theorem dX7_shift_17 : decode cX7_shift 17 = .ok (.aload_n 0, 1) := by decide +kernel
theorem dX7_shift_18 : decode cX7_shift 18 = .ok (.invokevirtual 62, 3) := by decide +kernel
theorem dX7_shift_21 : decode cX7_shift 21 = .ok (.ifCond .ne 10, 3) := by decide +kernel
theorem dX7_shift_24 : decode cX7_shift 24 = .ok (.aload_n 0, 1) := by decide +kernel
theorem dX7_shift_25 : decode cX7_shift 25 = .ok (.invokevirtual 66, 3) := by decide +kernel
theorem dX7_shift_28 : decode cX7_shift 28 = .ok (.ifCond .eq 6, 3) := by decide +kernel
theorem dX7_shift_31 : decode cX7_shift 31 = .ok (.bipush (-3), 2) := by decide +kernel
theorem dX7_shift_33 : decode cX7_shift 33 = .ok (.ireturn, 1) := by decide +kernel
theorem dX7_shift_34 : decode cX7_shift 34 = .ok (.aload_n 0, 1) := by decide +kernel
theorem dX7_shift_35 : decode cX7_shift 35 = .ok (.getfield 16, 3) := by decide +kernel
theorem dX7_shift_38 : decode cX7_shift 38 = .ok (.istore_n 2, 1) := by decide +kernel
theorem dX7_shift_39 : decode cX7_shift 39 = .ok (.aload_n 0, 1) := by decide +kernel
theorem dX7_shift_40 : decode cX7_shift 40 = .ok (.iload_n 1, 1) := by decide +kernel
theorem dX7_shift_41 : decode cX7_shift 41 = .ok (.putfield 16, 3) := by decide +kernel
theorem dX7_shift_44 : decode cX7_shift 44 = .ok (.iload_n 2, 1) := by decide +kernel
theorem dX7_shift_45 : decode cX7_shift 45 = .ok (.ireturn, 1) := by decide +kernel
set_option maxRecDepth 20000 in
theorem ggX7_kneel_X7_in : GoodIn wsX7_kneel wsX7_in := goodIn_r _ [5] (by decide +kernel) (by decide +kernel)
set_option maxRecDepth 20000 in
theorem gX7_kneel_X7_in : GoodIn wsX7_kneel (va_wsS RX7 55 yX7_in wsX7_in) := goodIn_app (goodIn_of _ (by decide +kernel)) ggX7_kneel_X7_in
theorem dX7_kneel_0 : decode cX7_kneel 0 = .ok (.iload_n 1, 1) := by decide +kernel
theorem dX7_kneel_1 : decode cX7_kneel 1 = .ok (.iconst 0, 1) := by decide +kernel
theorem dX7_kneel_2 : decode cX7_kneel 2 = .ok (.sipush 364, 3) := by decide +kernel
theorem dX7_kneel_5 : decode cX7_kneel 5 = .ok (.invokestatic 55, 3) := by decide +kernel
theorem dX7_kneel_8 : decode cX7_kneel 8 = .ok (.ifCond .ne 6, 3) := by decide +kernel
theorem dX7_kneel_11 : decode cX7_kneel 11 = .ok (.bipush (-2), 2) := by decide +kernel
theorem dX7_kneel_13 : decode cX7_kneel 13 = .ok (.ireturn, 1) := by decide +kernel
theorem dX7_kneel_14 : decode cX7_kneel 14 = .ok (.aload_n 0, 1) := by decide +kernel
theorem dX7_kneel_15 : decode cX7_kneel 15 = .ok (.getfield 20, 3) := by decide +kernel
theorem dX7_kneel_18 : decode cX7_kneel 18 = .ok (.istore_n 2, 1) := by decide +kernel
theorem dX7_kneel_19 : decode cX7_kneel 19 = .ok (.aload_n 0, 1) := by decide +kernel
theorem dX7_kneel_20 : decode cX7_kneel 20 = .ok (.iload_n 1, 1) := by decide +kernel
theorem dX7_kneel_21 : decode cX7_kneel 21 = .ok (.putfield 20, 3) := by decide +kernel
theorem dX7_kneel_24 : decode cX7_kneel 24 = .ok (.iload_n 2, 1) := by decide +kernel
theorem dX7_kneel_25 : decode cX7_kneel 25 = .ok (.ireturn, 1) := by decide +kernel
set_option maxRecDepth 20000 in
theorem ggX7_clock_X7_in : GoodIn wsX7_clock wsX7_in := goodIn_r _ [5] (by decide +kernel) (by decide +kernel)
set_option maxRecDepth 20000 in
theorem gX7_clock_X7_in : GoodIn wsX7_clock (va_wsS RX7 55 yX7_in wsX7_in) := goodIn_app (goodIn_of _ (by decide +kernel)) ggX7_clock_X7_in
theorem dX7_clock_0 : decode cX7_clock 0 = .ok (.iload_n 1, 1) := by decide +kernel
theorem dX7_clock_1 : decode cX7_clock 1 = .ok (.iconst 0, 1) := by decide +kernel
theorem dX7_clock_2 : decode cX7_clock 2 = .ok (.sipush 364, 3) := by decide +kernel
theorem dX7_clock_5 : decode cX7_clock 5 = .ok (.invokestatic 55, 3) := by decide +kernel
theorem dX7_clock_8 : decode cX7_clock 8 = .ok (.ifCond .eq 23, 3) := by decide +kernel
theorem dX7_clock_11 : decode cX7_clock 11 = .ok (.iload_n 2, 1) := by decide +kernel
theorem dX7_clock_12 : decode cX7_clock 12 = .ok (.iconst 0, 1) := by decide +kernel
theorem dX7_clock_13 : decode cX7_clock 13 = .ok (.bipush 23, 2) := by decide +kernel
theorem dX7_clock_15 : decode cX7_clock 15 = .ok (.invokestatic 55, 3) := by decide +kernel
theorem dX7_clock_18 : decode cX7_clock 18 = .ok (.ifCond .eq 13, 3) := by decide +kernel
theorem dX7_clock_21 : decode cX7_clock 21 = .ok (.iload_n 3, 1) := by decide +kernel
theorem dX7_clock_22 : decode cX7_clock 22 = .ok (.iconst 0, 1) := by decide +kernel
theorem dX7_clock_23 : decode cX7_clock 23 = .ok (.bipush 99, 2) := by decide +kernel
theorem dX7_clock_25 : decode cX7_clock 25 = .ok (.invokestatic 55, 3) := by decide +kernel
theorem dX7_clock_28 : decode cX7_clock 28 = .ok (.ifCond .ne 6, 3) := by decide +kernel
theorem dX7_clock_31 : decode cX7_clock 31 = .ok (.bipush (-2), 2) := by decide +kernel
theorem dX7_clock_33 : decode cX7_clock 33 = .ok (.ireturn, 1) := by decide +kernel
theorem dX7_clock_34 : decode cX7_clock 34 = .ok (.sipush 10000, 3) := by decide +kernel
theorem dX7_clock_37 : decode cX7_clock 37 = .ok (.aload_n 0, 1) := by decide +kernel
theorem dX7_clock_38 : decode cX7_clock 38 = .ok (.getfield 7, 3) := by decide +kernel
theorem dX7_clock_41 : decode cX7_clock 41 = .ok (.bipush 42, 2) := by decide +kernel
theorem dX7_clock_43 : decode cX7_clock 43 = .ok (.iaload, 1) := by decide +kernel
theorem dX7_clock_44 : decode cX7_clock 44 = .ok (.imul, 1) := by decide +kernel
theorem dX7_clock_45 : decode cX7_clock 45 = .ok (.bipush 100, 2) := by decide +kernel
theorem dX7_clock_47 : decode cX7_clock 47 = .ok (.aload_n 0, 1) := by decide +kernel
theorem dX7_clock_48 : decode cX7_clock 48 = .ok (.getfield 7, 3) := by decide +kernel
theorem dX7_clock_51 : decode cX7_clock 51 = .ok (.bipush 43, 2) := by decide +kernel
theorem dX7_clock_53 : decode cX7_clock 53 = .ok (.iaload, 1) := by decide +kernel
theorem dX7_clock_54 : decode cX7_clock 54 = .ok (.imul, 1) := by decide +kernel
theorem dX7_clock_55 : decode cX7_clock 55 = .ok (.iadd, 1) := by decide +kernel
theorem dX7_clock_56 : decode cX7_clock 56 = .ok (.aload_n 0, 1) := by decide +kernel
theorem dX7_clock_57 : decode cX7_clock 57 = .ok (.getfield 7, 3) := by decide +kernel
theorem dX7_clock_60 : decode cX7_clock 60 = .ok (.bipush 44, 2) := by decide +kernel
theorem dX7_clock_62 : decode cX7_clock 62 = .ok (.iaload, 1) := by decide +kernel
theorem dX7_clock_63 : decode cX7_clock 63 = .ok (.iadd, 1) := by decide +kernel
theorem dX7_clock_64 : decode cX7_clock 64 = .ok (.istore 4, 2) := by decide +kernel
theorem dX7_clock_66 : decode cX7_clock 66 = .ok (.aload_n 0, 1) := by decide +kernel
theorem dX7_clock_67 : decode cX7_clock 67 = .ok (.getfield 7, 3) := by decide +kernel
theorem dX7_clock_70 : decode cX7_clock 70 = .ok (.bipush 42, 2) := by decide +kernel
theorem dX7_clock_72 : decode cX7_clock 72 = .ok (.iload_n 1, 1) := by decide +kernel
theorem dX7_clock_73 : decode cX7_clock 73 = .ok (.iastore, 1) := by decide +kernel
theorem dX7_clock_74 : decode cX7_clock 74 = .ok (.aload_n 0, 1) := by decide +kernel
theorem dX7_clock_75 : decode cX7_clock 75 = .ok (.getfield 7, 3) := by decide +kernel
theorem dX7_clock_78 : decode cX7_clock 78 = .ok (.bipush 43, 2) := by decide +kernel
theorem dX7_clock_80 : decode cX7_clock 80 = .ok (.iload_n 2, 1) := by decide +kernel
theorem dX7_clock_81 : decode cX7_clock 81 = .ok (.iastore, 1) := by decide +kernel
theorem dX7_clock_82 : decode cX7_clock 82 = .ok (.aload_n 0, 1) := by decide +kernel
theorem dX7_clock_83 : decode cX7_clock 83 = .ok (.getfield 7, 3) := by decide +kernel
theorem dX7_clock_86 : decode cX7_clock 86 = .ok (.bipush 44, 2) := by decide +kernel
theorem dX7_clock_88 : decode cX7_clock 88 = .ok (.iload_n 3, 1) := by decide +kernel
theorem dX7_clock_89 : decode cX7_clock 89 = .ok (.iastore, 1) := by decide +kernel
theorem dX7_clock_90 : decode cX7_clock 90 = .ok (.iload 4, 2) := by decide +kernel
theorem dX7_clock_92 : decode cX7_clock 92 = .ok (.ireturn, 1) := by decide +kernel
set_option maxRecDepth 20000 in
theorem ggX7_person_X7_in : GoodIn wsX7_person wsX7_in := goodIn_r _ [5] (by decide +kernel) (by decide +kernel)
set_option maxRecDepth 20000 in
theorem gX7_person_X7_in : GoodIn wsX7_person (va_wsS RX7 55 yX7_in wsX7_in) := goodIn_app (goodIn_of _ (by decide +kernel)) ggX7_person_X7_in
theorem dX7_person_0 : decode cX7_person 0 = .ok (.iload_n 1, 1) := by decide +kernel
theorem dX7_person_1 : decode cX7_person 1 = .ok (.iconst 0, 1) := by decide +kernel
theorem dX7_person_2 : decode cX7_person 2 = .ok (.iconst 5, 1) := by decide +kernel
theorem dX7_person_3 : decode cX7_person 3 = .ok (.invokestatic 55, 3) := by decide +kernel
theorem dX7_person_6 : decode cX7_person 6 = .ok (.ifCond .ne 5, 3) := by decide +kernel
theorem dX7_person_9 : decode cX7_person 9 = .ok (.iconst (-1), 1) := by decide +kernel
theorem dX7_person_10 : decode cX7_person 10 = .ok (.ireturn, 1) := by decide +kernel
theorem dX7_person_11 : decode cX7_person 11 = .ok (.iload_n 2, 1) := by decide +kernel
theorem dX7_person_12 : decode cX7_person 12 = .ok (.iconst 0, 1) := by decide +kernel
theorem dX7_person_13 : decode cX7_person 13 = .ok (.bipush 99, 2) := by decide +kernel
theorem dX7_person_15 : decode cX7_person 15 = .ok (.invokestatic 55, 3) := by decide +kernel
theorem dX7_person_18 : decode cX7_person 18 = .ok (.ifCond .ne 6, 3) := by decide +kernel
theorem dX7_person_21 : decode cX7_person 21 = .ok (.bipush (-2), 2) := by decide +kernel
theorem dX7_person_23 : decode cX7_person 23 = .ok (.ireturn, 1) := by decide +kernel
theorem dX7_person_24 : decode cX7_person 24 = .ok (.aload_n 0, 1) := by decide +kernel
theorem dX7_person_25 : decode cX7_person 25 = .ok (.getfield 7, 3) := by decide +kernel
theorem dX7_person_28 : decode cX7_person 28 = .ok (.bipush 6, 2) := by decide +kernel
theorem dX7_person_30 : decode cX7_person 30 = .ok (.iload_n 1, 1) := by decide +kernel
theorem dX7_person_31 : decode cX7_person 31 = .ok (.iadd, 1) := by decide +kernel
theorem dX7_person_32 : decode cX7_person 32 = .ok (.iaload, 1) := by decide +kernel
theorem dX7_person_33 : decode cX7_person 33 = .ok (.istore_n 3, 1) := by decide +kernel
theorem dX7_person_34 : decode cX7_person 34 = .ok (.aload_n 0, 1) := by decide +kernel
theorem dX7_person_35 : decode cX7_person 35 = .ok (.getfield 7, 3) := by decide +kernel
theorem dX7_person_38 : decode cX7_person 38 = .ok (.bipush 6, 2) := by decide +kernel
theorem dX7_person_40 : decode cX7_person 40 = .ok (.iload_n 1, 1) := by decide +kernel
theorem dX7_person_41 : decode cX7_person 41 = .ok (.iadd, 1) := by decide +kernel
theorem dX7_person_42 : decode cX7_person 42 = .ok (.iload_n 2, 1) := by decide +kernel
theorem dX7_person_43 : decode cX7_person 43 = .ok (.iastore, 1) := by decide +kernel
theorem dX7_person_44 : decode cX7_person 44 = .ok (.iload_n 3, 1) := by decide +kernel
theorem dX7_person_45 : decode cX7_person 45 = .ok (.ireturn, 1) := by decide +kernel
set_option maxRecDepth 20000 in
theorem ggX7_say_X7_in : GoodIn wsX7_say wsX7_in := goodIn_r _ [6] (by decide +kernel) (by decide +kernel)
set_option maxRecDepth 20000 in
theorem gX7_say_X7_in : GoodIn wsX7_say (va_wsS RX7 55 yX7_in wsX7_in) := goodIn_app (goodIn_of _ (by decide +kernel)) ggX7_say_X7_in
theorem dX7_say_0 : decode cX7_say 0 = .ok (.iload_n 1, 1) := by decide +kernel
theorem dX7_say_1 : decode cX7_say 1 = .ok (.bipush 33, 2) := by decide +kernel
theorem dX7_say_3 : decode cX7_say 3 = .ok (.bipush 126, 2) := by decide +kernel
theorem dX7_say_5 : decode cX7_say 5 = .ok (.invokestatic 55, 3) := by decide +kernel
theorem dX7_say_8 : decode cX7_say 8 = .ok (.ifCond .ne 6, 3) := by decide +kernel
theorem dX7_say_11 : decode cX7_say 11 = .ok (.bipush (-2), 2) := by decide +kernel
theorem dX7_say_13 : decode cX7_say 13 = .ok (.ireturn, 1) := by decide +kernel
theorem dX7_say_14 : decode cX7_say 14 = .ok (.aload_n 0, 1) := by decide +kernel
theorem dX7_say_15 : decode cX7_say 15 = .ok (.getfield 69, 3) := by decide +kernel
theorem dX7_say_18 : decode cX7_say 18 = .ok (.bipush 60, 2) := by decide +kernel
theorem dX7_say_20 : decode cX7_say 20 = .ok (.if_icmp .ne 6, 3) := by decide +kernel
theorem dX7_say_23 : decode cX7_say 23 = .ok (.bipush (-4), 2) := by decide +kernel
theorem dX7_say_25 : decode cX7_say 25 = .ok (.ireturn, 1) := by decide +kernel
theorem dX7_say_26 : decode cX7_say 26 = .ok (.aload_n 0, 1) := by decide +kernel
theorem dX7_say_27 : decode cX7_say 27 = .ok (.getfield 26, 3) := by decide +kernel
theorem dX7_say_30 : decode cX7_say 30 = .ok (.aload_n 0, 1) := by decide +kernel
theorem dX7_say_31 : decode cX7_say 31 = .ok (.getfield 69, 3) := by decide +kernel
theorem dX7_say_34 : decode cX7_say 34 = .ok (.iload_n 1, 1) := by decide +kernel
theorem dX7_say_35 : decode cX7_say 35 = .ok (.iastore, 1) := by decide +kernel
theorem dX7_say_36 : decode cX7_say 36 = .ok (.aload_n 0, 1) := by decide +kernel
theorem dX7_say_37 : decode cX7_say 37 = .ok (.dup, 1) := by decide +kernel
theorem dX7_say_38 : decode cX7_say 38 = .ok (.getfield 69, 3) := by decide +kernel
theorem dX7_say_41 : decode cX7_say 41 = .ok (.iconst 1, 1) := by decide +kernel
theorem dX7_say_42 : decode cX7_say 42 = .ok (.iadd, 1) := by decide +kernel
theorem dX7_say_43 : decode cX7_say 43 = .ok (.putfield 69, 3) := by decide +kernel
theorem dX7_say_46 : decode cX7_say 46 = .ok (.aload_n 0, 1) := by decide +kernel
theorem dX7_say_47 : decode cX7_say 47 = .ok (.getfield 69, 3) := by decide +kernel
theorem dX7_say_50 : decode cX7_say 50 = .ok (.ireturn, 1) := by decide +kernel
theorem dX7_wipe_0 : decode cX7_wipe 0 = .ok (.aload_n 0, 1) := by decide +kernel
theorem dX7_wipe_1 : decode cX7_wipe 1 = .ok (.getfield 69, 3) := by decide +kernel
theorem dX7_wipe_4 : decode cX7_wipe 4 = .ok (.istore_n 1, 1) := by decide +kernel
theorem dX7_wipe_5 : decode cX7_wipe 5 = .ok (.aload_n 0, 1) := by decide +kernel
theorem dX7_wipe_6 : decode cX7_wipe 6 = .ok (.iconst 0, 1) := by decide +kernel
theorem dX7_wipe_7 : decode cX7_wipe 7 = .ok (.putfield 69, 3) := by decide +kernel
theorem dX7_wipe_10 : decode cX7_wipe 10 = .ok (.iload_n 1, 1) := by decide +kernel
theorem dX7_wipe_11 : decode cX7_wipe 11 = .ok (.ireturn, 1) := by decide +kernel
set_option maxRecDepth 20000 in
theorem ggX7_step_X7_in : GoodIn wsX7_step wsX7_in := goodIn_r _ [4] (by decide +kernel) (by decide +kernel)
set_option maxRecDepth 20000 in
theorem gX7_step_X7_in : GoodIn wsX7_step (va_wsS RX7 55 yX7_in wsX7_in) := goodIn_app (goodIn_of _ (by decide +kernel)) ggX7_step_X7_in
theorem dX7_step_0 : decode cX7_step 0 = .ok (.iload_n 0, 1) := by decide +kernel
theorem dX7_step_1 : decode cX7_step 1 = .ok (.lookupswitch 118 #[(0, 27), (1, 71)], 27) := by decide +kernel
theorem dX7_step_28 : decode cX7_step 28 = .ok (.iload_n 1, 1) := by decide +kernel
theorem dX7_step_29 : decode cX7_step 29 = .ok (.bipush 65, 2) := by decide +kernel
theorem dX7_step_31 : decode cX7_step 31 = .ok (.bipush 70, 2) := by decide +kernel
theorem dX7_step_33 : decode cX7_step 33 = .ok (.invokestatic 55, 3) := by decide +kernel
theorem dX7_step_36 : decode cX7_step 36 = .ok (.ifCond .eq 7, 3) := by decide +kernel
theorem dX7_step_39 : decode cX7_step 39 = .ok (.iconst 1, 1) := by decide +kernel
theorem dX7_step_40 : decode cX7_step 40 = .ok (.goto 31, 3) := by decide +kernel
theorem dX7_step_43 : decode cX7_step 43 = .ok (.iload_n 1, 1) := by decide +kernel
theorem dX7_step_44 : decode cX7_step 44 = .ok (.bipush 104, 2) := by decide +kernel
theorem dX7_step_46 : decode cX7_step 46 = .ok (.if_icmp .eq 9, 3) := by decide +kernel
theorem dX7_step_49 : decode cX7_step 49 = .ok (.iload_n 1, 1) := by decide +kernel
theorem dX7_step_50 : decode cX7_step 50 = .ok (.bipush 100, 2) := by decide +kernel
theorem dX7_step_52 : decode cX7_step 52 = .ok (.if_icmp .ne 7, 3) := by decide +kernel
theorem dX7_step_55 : decode cX7_step 55 = .ok (.iconst 2, 1) := by decide +kernel
theorem dX7_step_56 : decode cX7_step 56 = .ok (.goto 15, 3) := by decide +kernel
theorem dX7_step_59 : decode cX7_step 59 = .ok (.iload_n 1, 1) := by decide +kernel
theorem dX7_step_60 : decode cX7_step 60 = .ok (.bipush 107, 2) := by decide +kernel
theorem dX7_step_62 : decode cX7_step 62 = .ok (.if_icmp .ne 7, 3) := by decide +kernel
theorem dX7_step_65 : decode cX7_step 65 = .ok (.iconst 0, 1) := by decide +kernel
theorem dX7_step_66 : decode cX7_step 66 = .ok (.goto 5, 3) := by decide +kernel
theorem dX7_step_69 : decode cX7_step 69 = .ok (.bipush (-6), 2) := by decide +kernel
theorem dX7_step_71 : decode cX7_step 71 = .ok (.ireturn, 1) := by decide +kernel
theorem dX7_step_72 : decode cX7_step 72 = .ok (.iload_n 1, 1) := by decide +kernel
theorem dX7_step_73 : decode cX7_step 73 = .ok (.bipush 40, 2) := by decide +kernel
theorem dX7_step_75 : decode cX7_step 75 = .ok (.if_icmp .eq 27, 3) := by decide +kernel
theorem dX7_step_78 : decode cX7_step 78 = .ok (.iload_n 1, 1) := by decide +kernel
theorem dX7_step_79 : decode cX7_step 79 = .ok (.bipush 41, 2) := by decide +kernel
theorem dX7_step_81 : decode cX7_step 81 = .ok (.if_icmp .eq 21, 3) := by decide +kernel
theorem dX7_step_84 : decode cX7_step 84 = .ok (.iload_n 1, 1) := by decide +kernel
theorem dX7_step_85 : decode cX7_step 85 = .ok (.bipush 62, 2) := by decide +kernel
theorem dX7_step_87 : decode cX7_step 87 = .ok (.if_icmp .eq 15, 3) := by decide +kernel
theorem dX7_step_90 : decode cX7_step 90 = .ok (.iload_n 1, 1) := by decide +kernel
theorem dX7_step_91 : decode cX7_step 91 = .ok (.bipush 60, 2) := by decide +kernel
theorem dX7_step_93 : decode cX7_step 93 = .ok (.if_icmp .eq 9, 3) := by decide +kernel
theorem dX7_step_96 : decode cX7_step 96 = .ok (.iload_n 1, 1) := by decide +kernel
theorem dX7_step_97 : decode cX7_step 97 = .ok (.bipush 37, 2) := by decide +kernel
theorem dX7_step_99 : decode cX7_step 99 = .ok (.if_icmp .ne 7, 3) := by decide +kernel
theorem dX7_step_102 : decode cX7_step 102 = .ok (.iconst 0, 1) := by decide +kernel
theorem dX7_step_103 : decode cX7_step 103 = .ok (.goto 15, 3) := by decide +kernel
theorem dX7_step_106 : decode cX7_step 106 = .ok (.iload_n 1, 1) := by decide +kernel
theorem dX7_step_107 : decode cX7_step 107 = .ok (.bipush 36, 2) := by decide +kernel
theorem dX7_step_109 : decode cX7_step 109 = .ok (.if_icmp .ne 7, 3) := by decide +kernel
theorem dX7_step_112 : decode cX7_step 112 = .ok (.iconst 2, 1) := by decide +kernel
theorem dX7_step_113 : decode cX7_step 113 = .ok (.goto 5, 3) := by decide +kernel
theorem dX7_step_116 : decode cX7_step 116 = .ok (.bipush (-6), 2) := by decide +kernel
theorem dX7_step_118 : decode cX7_step 118 = .ok (.ireturn, 1) := by decide +kernel
theorem dX7_step_119 : decode cX7_step 119 = .ok (.iload_n 1, 1) := by decide +kernel
theorem dX7_step_120 : decode cX7_step 120 = .ok (.bipush 49, 2) := by decide +kernel
theorem dX7_step_122 : decode cX7_step 122 = .ok (.bipush 57, 2) := by decide +kernel
theorem dX7_step_124 : decode cX7_step 124 = .ok (.invokestatic 55, 3) := by decide +kernel
theorem dX7_step_127 : decode cX7_step 127 = .ok (.ifCond .eq 7, 3) := by decide +kernel
theorem dX7_step_130 : decode cX7_step 130 = .ok (.iconst 0, 1) := by decide +kernel
theorem dX7_step_131 : decode cX7_step 131 = .ok (.goto 5, 3) := by decide +kernel
theorem dX7_step_134 : decode cX7_step 134 = .ok (.bipush (-6), 2) := by decide +kernel
theorem dX7_step_136 : decode cX7_step 136 = .ok (.ireturn, 1) := by decide +kernel
set_option maxRecDepth 20000 in
theorem ggX7_faultOf_X7_step : GoodIn wsX7_faultOf wsX7_step := goodIn_r _ [6, 7, 8, 5, 9] (by decide +kernel) (by decide +kernel)
set_option maxRecDepth 20000 in
theorem gX7_faultOf_X7_step : GoodIn wsX7_faultOf (va_wsS RX7 72 yX7_step wsX7_step) := goodIn_app (goodIn_of _ (by decide +kernel)) ggX7_faultOf_X7_step
theorem dX7_faultOf_0 : decode cX7_faultOf 0 = .ok (.iconst 0, 1) := by decide +kernel
theorem dX7_faultOf_1 : decode cX7_faultOf 1 = .ok (.istore_n 1, 1) := by decide +kernel
theorem dX7_faultOf_2 : decode cX7_faultOf 2 = .ok (.iconst 0, 1) := by decide +kernel
theorem dX7_faultOf_3 : decode cX7_faultOf 3 = .ok (.istore_n 2, 1) := by decide +kernel
theorem dX7_faultOf_4 : decode cX7_faultOf 4 = .ok (.iload_n 2, 1) := by decide +kernel
theorem dX7_faultOf_5 : decode cX7_faultOf 5 = .ok (.aload_n 0, 1) := by decide +kernel
theorem dX7_faultOf_6 : decode cX7_faultOf 6 = .ok (.getfield 69, 3) := by decide +kernel
theorem dX7_faultOf_9 : decode cX7_faultOf 9 = .ok (.if_icmp .ge 26, 3) := by decide +kernel
theorem dX7_faultOf_12 : decode cX7_faultOf 12 = .ok (.iload_n 1, 1) := by decide +kernel
theorem dX7_faultOf_13 : decode cX7_faultOf 13 = .ok (.aload_n 0, 1) := by decide +kernel
theorem dX7_faultOf_14 : decode cX7_faultOf 14 = .ok (.getfield 26, 3) := by decide +kernel
theorem dX7_faultOf_17 : decode cX7_faultOf 17 = .ok (.iload_n 2, 1) := by decide +kernel
theorem dX7_faultOf_18 : decode cX7_faultOf 18 = .ok (.iaload, 1) := by decide +kernel
theorem dX7_faultOf_19 : decode cX7_faultOf 19 = .ok (.invokestatic 72, 3) := by decide +kernel
theorem dX7_faultOf_22 : decode cX7_faultOf 22 = .ok (.istore_n 1, 1) := by decide +kernel
theorem dX7_faultOf_23 : decode cX7_faultOf 23 = .ok (.iload_n 1, 1) := by decide +kernel
theorem dX7_faultOf_24 : decode cX7_faultOf 24 = .ok (.ifCond .ge 5, 3) := by decide +kernel
theorem dX7_faultOf_27 : decode cX7_faultOf 27 = .ok (.iload_n 2, 1) := by decide +kernel
theorem dX7_faultOf_28 : decode cX7_faultOf 28 = .ok (.ireturn, 1) := by decide +kernel
theorem dX7_faultOf_29 : decode cX7_faultOf 29 = .ok (.iinc 2 1, 3) := by decide +kernel
theorem dX7_faultOf_32 : decode cX7_faultOf 32 = .ok (.goto (-28), 3) := by decide +kernel
theorem dX7_faultOf_35 : decode cX7_faultOf 35 = .ok (.iload_n 1, 1) := by decide +kernel
theorem dX7_faultOf_36 : decode cX7_faultOf 36 = .ok (.ifCond .ne 8, 3) := by decide +kernel
theorem dX7_faultOf_39 : decode cX7_faultOf 39 = .ok (.bipush (-6), 2) := by decide +kernel
theorem dX7_faultOf_41 : decode cX7_faultOf 41 = .ok (.goto 7, 3) := by decide +kernel
theorem dX7_faultOf_44 : decode cX7_faultOf 44 = .ok (.aload_n 0, 1) := by decide +kernel
theorem dX7_faultOf_45 : decode cX7_faultOf 45 = .ok (.getfield 69, 3) := by decide +kernel
theorem dX7_faultOf_48 : decode cX7_faultOf 48 = .ok (.ireturn, 1) := by decide +kernel
set_option maxRecDepth 20000 in
theorem ggX7_fault_X7_faultOf : GoodIn wsX7_fault wsX7_faultOf := goodIn_r _ [5, 6, 7, 8, 9, 4, 10, 11, 12, 13, 14, 15, 16, 17, 18, 19, 20, 21, 22, 23, 24, 25, 26, 27, 28, 29, 30, 31, 32, 33] (by decide +kernel) (by decide +kernel)
set_option maxRecDepth 20000 in
theorem gX7_fault_X7_faultOf : GoodIn wsX7_fault (wsV RX7 76 RX7 yX7_faultOf wsX7_faultOf) := goodIn_app (goodIn_of _ (by decide +kernel)) ggX7_fault_X7_faultOf
theorem dX7_fault_0 : decode cX7_fault 0 = .ok (.aload_n 0, 1) := by decide +kernel
theorem dX7_fault_1 : decode cX7_fault 1 = .ok (.invokevirtual 76, 3) := by decide +kernel
theorem dX7_fault_4 : decode cX7_fault 4 = .ok (.ireturn, 1) := by decide +kernel
theorem dX7_asNow_0 : decode cX7_asNow 0 = .ok (.iconst 0, 1) := by decide +kernel
theorem dX7_asNow_1 : decode cX7_asNow 1 = .ok (.istore_n 1, 1) := by decide +kernel
theorem dX7_asNow_2 : decode cX7_asNow 2 = .ok (.iload_n 1, 1) := by decide +kernel
theorem dX7_asNow_3 : decode cX7_asNow 3 = .ok (.bipush 45, 2) := by decide +kernel
theorem dX7_asNow_5 : decode cX7_asNow 5 = .ok (.if_icmp .ge 21, 3) := by decide +kernel
theorem dX7_asNow_8 : decode cX7_asNow 8 = .ok (.aload_n 0, 1) := by decide +kernel
theorem dX7_asNow_9 : decode cX7_asNow 9 = .ok (.getfield 13, 3) := by decide +kernel
theorem dX7_asNow_12 : decode cX7_asNow 12 = .ok (.iload_n 1, 1) := by decide +kernel
theorem dX7_asNow_13 : decode cX7_asNow 13 = .ok (.aload_n 0, 1) := by decide +kernel
theorem dX7_asNow_14 : decode cX7_asNow 14 = .ok (.getfield 7, 3) := by decide +kernel
theorem dX7_asNow_17 : decode cX7_asNow 17 = .ok (.iload_n 1, 1) := by decide +kernel
theorem dX7_asNow_18 : decode cX7_asNow 18 = .ok (.iaload, 1) := by decide +kernel
theorem dX7_asNow_19 : decode cX7_asNow 19 = .ok (.iastore, 1) := by decide +kernel
theorem dX7_asNow_20 : decode cX7_asNow 20 = .ok (.iinc 1 1, 3) := by decide +kernel
theorem dX7_asNow_23 : decode cX7_asNow 23 = .ok (.goto (-21), 3) := by decide +kernel
theorem dX7_asNow_26 : decode cX7_asNow 26 = .ok (.aload_n 0, 1) := by decide +kernel
theorem dX7_asNow_27 : decode cX7_asNow 27 = .ok (.bipush (-6), 2) := by decide +kernel
theorem dX7_asNow_29 : decode cX7_asNow 29 = .ok (.putfield 79, 3) := by decide +kernel
theorem dX7_asNow_32 : decode cX7_asNow 32 = .ok (.aload_n 0, 1) := by decide +kernel
theorem dX7_asNow_33 : decode cX7_asNow 33 = .ok (.bipush (-6), 2) := by decide +kernel
theorem dX7_asNow_35 : decode cX7_asNow 35 = .ok (.putfield 82, 3) := by decide +kernel
theorem dX7_asNow_38 : decode cX7_asNow 38 = .ok (.return_, 1) := by decide +kernel
theorem dX7_within_0 : decode cX7_within 0 = .ok (.iconst 0, 1) := by decide +kernel
theorem dX7_within_1 : decode cX7_within 1 = .ok (.istore_n 1, 1) := by decide +kernel
theorem dX7_within_2 : decode cX7_within 2 = .ok (.iconst 0, 1) := by decide +kernel
theorem dX7_within_3 : decode cX7_within 3 = .ok (.istore_n 2, 1) := by decide +kernel
theorem dX7_within_4 : decode cX7_within 4 = .ok (.iload_n 2, 1) := by decide +kernel
theorem dX7_within_5 : decode cX7_within 5 = .ok (.bipush 6, 2) := by decide +kernel
theorem dX7_within_7 : decode cX7_within 7 = .ok (.if_icmp .ge 28, 3) := by decide +kernel
theorem dX7_within_10 : decode cX7_within 10 = .ok (.iload_n 1, 1) := by decide +kernel
theorem dX7_within_11 : decode cX7_within 11 = .ok (.aload_n 0, 1) := by decide +kernel
theorem dX7_within_12 : decode cX7_within 12 = .ok (.getfield 13, 3) := by decide +kernel
theorem dX7_within_15 : decode cX7_within 15 = .ok (.iload_n 2, 1) := by decide +kernel
theorem dX7_within_16 : decode cX7_within 16 = .ok (.iaload, 1) := by decide +kernel
theorem dX7_within_17 : decode cX7_within 17 = .ok (.ifCond .lt 9, 3) := by decide +kernel
theorem dX7_within_20 : decode cX7_within 20 = .ok (.iconst 1, 1) := by decide +kernel
theorem dX7_within_21 : decode cX7_within 21 = .ok (.iload_n 2, 1) := by decide +kernel
theorem dX7_within_22 : decode cX7_within 22 = .ok (.ishl, 1) := by decide +kernel
theorem dX7_within_23 : decode cX7_within 23 = .ok (.goto 4, 3) := by decide +kernel
theorem dX7_within_26 : decode cX7_within 26 = .ok (.iconst 0, 1) := by decide +kernel
theorem dX7_within_27 : decode cX7_within 27 = .ok (.ior, 1) := by decide +kernel
theorem dX7_within_28 : decode cX7_within 28 = .ok (.istore_n 1, 1) := by decide +kernel
theorem dX7_within_29 : decode cX7_within 29 = .ok (.iinc 2 1, 3) := by decide +kernel
theorem dX7_within_32 : decode cX7_within 32 = .ok (.goto (-28), 3) := by decide +kernel
theorem dX7_within_35 : decode cX7_within 35 = .ok (.iload_n 1, 1) := by decide +kernel
theorem dX7_within_36 : decode cX7_within 36 = .ok (.ireturn, 1) := by decide +kernel
theorem dX7_lying_0 : decode cX7_lying 0 = .ok (.iconst 0, 1) := by decide +kernel
theorem dX7_lying_1 : decode cX7_lying 1 = .ok (.istore_n 1, 1) := by decide +kernel
theorem dX7_lying_2 : decode cX7_lying 2 = .ok (.iconst 0, 1) := by decide +kernel
theorem dX7_lying_3 : decode cX7_lying 3 = .ok (.istore_n 2, 1) := by decide +kernel
theorem dX7_lying_4 : decode cX7_lying 4 = .ok (.iload_n 2, 1) := by decide +kernel
theorem dX7_lying_5 : decode cX7_lying 5 = .ok (.bipush 30, 2) := by decide +kernel
theorem dX7_lying_7 : decode cX7_lying 7 = .ok (.if_icmp .ge 21, 3) := by decide +kernel
theorem dX7_lying_10 : decode cX7_lying 10 = .ok (.iload_n 1, 1) := by decide +kernel
theorem dX7_lying_11 : decode cX7_lying 11 = .ok (.aload_n 0, 1) := by decide +kernel
theorem dX7_lying_12 : decode cX7_lying 12 = .ok (.getfield 13, 3) := by decide +kernel
theorem dX7_lying_15 : decode cX7_lying 15 = .ok (.bipush 12, 2) := by decide +kernel
theorem dX7_lying_17 : decode cX7_lying 17 = .ok (.iload_n 2, 1) := by decide +kernel
theorem dX7_lying_18 : decode cX7_lying 18 = .ok (.iadd, 1) := by decide +kernel
theorem dX7_lying_19 : decode cX7_lying 19 = .ok (.iaload, 1) := by decide +kernel
theorem dX7_lying_20 : decode cX7_lying 20 = .ok (.iadd, 1) := by decide +kernel
theorem dX7_lying_21 : decode cX7_lying 21 = .ok (.istore_n 1, 1) := by decide +kernel
theorem dX7_lying_22 : decode cX7_lying 22 = .ok (.iinc 2 1, 3) := by decide +kernel
theorem dX7_lying_25 : decode cX7_lying 25 = .ok (.goto (-21), 3) := by decide +kernel
theorem dX7_lying_28 : decode cX7_lying 28 = .ok (.iload_n 1, 1) := by decide +kernel
theorem dX7_lying_29 : decode cX7_lying 29 = .ok (.ireturn, 1) := by decide +kernel
theorem dX7_isKneeling_0 : decode cX7_isKneeling 0 = .ok (.aload_n 0, 1) := by decide +kernel
theorem dX7_isKneeling_1 : decode cX7_isKneeling 1 = .ok (.getfield 13, 3) := by decide +kernel
theorem dX7_isKneeling_4 : decode cX7_isKneeling 4 = .ok (.bipush 42, 2) := by decide +kernel
theorem dX7_isKneeling_6 : decode cX7_isKneeling 6 = .ok (.iaload, 1) := by decide +kernel
theorem dX7_isKneeling_7 : decode cX7_isKneeling 7 = .ok (.aload_n 0, 1) := by decide +kernel
theorem dX7_isKneeling_8 : decode cX7_isKneeling 8 = .ok (.getfield 20, 3) := by decide +kernel
theorem dX7_isKneeling_11 : decode cX7_isKneeling 11 = .ok (.if_icmp .ne 17, 3) := by decide +kernel
theorem dX7_isKneeling_14 : decode cX7_isKneeling 14 = .ok (.aload_n 0, 1) := by decide +kernel
theorem dX7_isKneeling_15 : decode cX7_isKneeling 15 = .ok (.getfield 13, 3) := by decide +kernel
theorem dX7_isKneeling_18 : decode cX7_isKneeling 18 = .ok (.bipush 43, 2) := by decide +kernel
theorem dX7_isKneeling_20 : decode cX7_isKneeling 20 = .ok (.iaload, 1) := by decide +kernel
theorem dX7_isKneeling_21 : decode cX7_isKneeling 21 = .ok (.ifCond .ne 7, 3) := by decide +kernel
theorem dX7_isKneeling_24 : decode cX7_isKneeling 24 = .ok (.iconst 1, 1) := by decide +kernel
theorem dX7_isKneeling_25 : decode cX7_isKneeling 25 = .ok (.goto 4, 3) := by decide +kernel
theorem dX7_isKneeling_28 : decode cX7_isKneeling 28 = .ok (.iconst 0, 1) := by decide +kernel
theorem dX7_isKneeling_29 : decode cX7_isKneeling 29 = .ok (.ireturn, 1) := by decide +kernel
set_option maxRecDepth 20000 in
theorem ggX7_stepOver_X7_isKneeling : GoodIn wsX7_stepOver wsX7_isKneeling := goodIn_r _ [7, 1, 8, 9, 10, 11, 12, 13, 14, 15, 16, 17, 18, 19, 20, 21, 22, 23, 24, 25, 26, 27, 28] (by decide +kernel) (by decide +kernel)
set_option maxRecDepth 20000 in
theorem gX7_stepOver_X7_isKneeling : GoodIn wsX7_stepOver (wsV RX7 85 RX7 yX7_isKneeling wsX7_isKneeling) := goodIn_app (goodIn_of _ (by decide +kernel)) ggX7_stepOver_X7_isKneeling
theorem dX7_stepOver_0 : decode cX7_stepOver 0 = .ok (.aload_n 0, 1) := by decide +kernel
theorem dX7_stepOver_1 : decode cX7_stepOver 1 = .ok (.getfield 13, 3) := by decide +kernel
theorem dX7_stepOver_4 : decode cX7_stepOver 4 = .ok (.iload_n 1, 1) := by decide +kernel
theorem dX7_stepOver_5 : decode cX7_stepOver 5 = .ok (.iaload, 1) := by decide +kernel
theorem dX7_stepOver_6 : decode cX7_stepOver 6 = .ok (.ifCond .lt 5, 3) := by decide +kernel
theorem dX7_stepOver_9 : decode cX7_stepOver 9 = .ok (.iconst 1, 1) := by decide +kernel
theorem dX7_stepOver_10 : decode cX7_stepOver 10 = .ok (.ireturn, 1) := by decide +kernel
theorem dX7_stepOver_11 : decode cX7_stepOver 11 = .ok (.aload_n 0, 1) := by decide +kernel
theorem dX7_stepOver_12 : decode cX7_stepOver 12 = .ok (.invokevirtual 85, 3) := by decide +kernel
theorem dX7_stepOver_15 : decode cX7_stepOver 15 = .ok (.ifCond .ne 5, 3) := by decide +kernel
theorem dX7_stepOver_18 : decode cX7_stepOver 18 = .ok (.iconst 2, 1) := by decide +kernel
theorem dX7_stepOver_19 : decode cX7_stepOver 19 = .ok (.ireturn, 1) := by decide +kernel
theorem dX7_stepOver_20 : decode cX7_stepOver 20 = .ok (.aload_n 0, 1) := by decide +kernel
theorem dX7_stepOver_21 : decode cX7_stepOver 21 = .ok (.getfield 16, 3) := by decide +kernel
theorem dX7_stepOver_24 : decode cX7_stepOver 24 = .ok (.ifCond .ne 5, 3) := by decide +kernel
theorem dX7_stepOver_27 : decode cX7_stepOver 27 = .ok (.iconst 3, 1) := by decide +kernel
theorem dX7_stepOver_28 : decode cX7_stepOver 28 = .ok (.ireturn, 1) := by decide +kernel
theorem dX7_stepOver_29 : decode cX7_stepOver 29 = .ok (.aload_n 0, 1) := by decide +kernel
theorem dX7_stepOver_30 : decode cX7_stepOver 30 = .ok (.getfield 13, 3) := by decide +kernel
theorem dX7_stepOver_33 : decode cX7_stepOver 33 = .ok (.iload_n 1, 1) := by decide +kernel
theorem dX7_stepOver_34 : decode cX7_stepOver 34 = .ok (.iconst 0, 1) := by decide +kernel
theorem dX7_stepOver_35 : decode cX7_stepOver 35 = .ok (.iastore, 1) := by decide +kernel
theorem dX7_stepOver_36 : decode cX7_stepOver 36 = .ok (.iconst 0, 1) := by decide +kernel
theorem dX7_stepOver_37 : decode cX7_stepOver 37 = .ok (.ireturn, 1) := by decide +kernel
set_option maxRecDepth 20000 in
theorem ggX7_comeOut_X7_isKneeling : GoodIn wsX7_comeOut wsX7_isKneeling := goodIn_r _ [6, 1, 7, 8, 9, 10, 11, 12, 13, 14, 15, 16, 17, 18, 19, 20, 21, 22, 23, 24, 25, 26, 27] (by decide +kernel) (by decide +kernel)
set_option maxRecDepth 20000 in
theorem gX7_comeOut_X7_isKneeling : GoodIn wsX7_comeOut (wsV RX7 85 RX7 yX7_isKneeling wsX7_isKneeling) := goodIn_app (goodIn_of _ (by decide +kernel)) ggX7_comeOut_X7_isKneeling
theorem dX7_comeOut_0 : decode cX7_comeOut 0 = .ok (.aload_n 0, 1) := by decide +kernel
theorem dX7_comeOut_1 : decode cX7_comeOut 1 = .ok (.getfield 13, 3) := by decide +kernel
theorem dX7_comeOut_4 : decode cX7_comeOut 4 = .ok (.iload_n 1, 1) := by decide +kernel
theorem dX7_comeOut_5 : decode cX7_comeOut 5 = .ok (.iaload, 1) := by decide +kernel
theorem dX7_comeOut_6 : decode cX7_comeOut 6 = .ok (.ifCond .ge 5, 3) := by decide +kernel
theorem dX7_comeOut_9 : decode cX7_comeOut 9 = .ok (.iconst 1, 1) := by decide +kernel
theorem dX7_comeOut_10 : decode cX7_comeOut 10 = .ok (.ireturn, 1) := by decide +kernel
theorem dX7_comeOut_11 : decode cX7_comeOut 11 = .ok (.aload_n 0, 1) := by decide +kernel
theorem dX7_comeOut_12 : decode cX7_comeOut 12 = .ok (.invokevirtual 85, 3) := by decide +kernel
theorem dX7_comeOut_15 : decode cX7_comeOut 15 = .ok (.ifCond .ne 5, 3) := by decide +kernel
theorem dX7_comeOut_18 : decode cX7_comeOut 18 = .ok (.iconst 2, 1) := by decide +kernel
theorem dX7_comeOut_19 : decode cX7_comeOut 19 = .ok (.ireturn, 1) := by decide +kernel
theorem dX7_comeOut_20 : decode cX7_comeOut 20 = .ok (.aload_n 0, 1) := by decide +kernel
theorem dX7_comeOut_21 : decode cX7_comeOut 21 = .ok (.getfield 13, 3) := by decide +kernel
theorem dX7_comeOut_24 : decode cX7_comeOut 24 = .ok (.iload_n 1, 1) := by decide +kernel
theorem dX7_comeOut_25 : decode cX7_comeOut 25 = .ok (.bipush (-6), 2) := by decide +kernel
theorem dX7_comeOut_27 : decode cX7_comeOut 27 = .ok (.iastore, 1) := by decide +kernel
theorem dX7_comeOut_28 : decode cX7_comeOut 28 = .ok (.iconst 0, 1) := by decide +kernel
theorem dX7_comeOut_29 : decode cX7_comeOut 29 = .ok (.ireturn, 1) := by decide +kernel
set_option maxRecDepth 20000 in
theorem ggX7_walk_X7_in : GoodIn wsX7_walk wsX7_in := goodIn_r _ [6] (by decide +kernel) (by decide +kernel)
set_option maxRecDepth 20000 in
theorem gX7_walk_X7_in : GoodIn wsX7_walk (va_wsS RX7 55 yX7_in wsX7_in) := goodIn_app (goodIn_of _ (by decide +kernel)) ggX7_walk_X7_in
theorem dX7_walk_0 : decode cX7_walk 0 = .ok (.aload_n 0, 1) := by decide +kernel
theorem dX7_walk_1 : decode cX7_walk 1 = .ok (.getfield 13, 3) := by decide +kernel
theorem dX7_walk_4 : decode cX7_walk 4 = .ok (.iload_n 1, 1) := by decide +kernel
theorem dX7_walk_5 : decode cX7_walk 5 = .ok (.iaload, 1) := by decide +kernel
theorem dX7_walk_6 : decode cX7_walk 6 = .ok (.ifCond .ge 5, 3) := by decide +kernel
theorem dX7_walk_9 : decode cX7_walk 9 = .ok (.iconst 1, 1) := by decide +kernel
theorem dX7_walk_10 : decode cX7_walk 10 = .ok (.ireturn, 1) := by decide +kernel
theorem dX7_walk_11 : decode cX7_walk 11 = .ok (.aload_n 0, 1) := by decide +kernel
theorem dX7_walk_12 : decode cX7_walk 12 = .ok (.getfield 13, 3) := by decide +kernel
theorem dX7_walk_15 : decode cX7_walk 15 = .ok (.iload_n 1, 1) := by decide +kernel
theorem dX7_walk_16 : decode cX7_walk 16 = .ok (.iaload, 1) := by decide +kernel
theorem dX7_walk_17 : decode cX7_walk 17 = .ok (.iload_n 2, 1) := by decide +kernel
theorem dX7_walk_18 : decode cX7_walk 18 = .ok (.iadd, 1) := by decide +kernel
theorem dX7_walk_19 : decode cX7_walk 19 = .ok (.iconst 0, 1) := by decide +kernel
theorem dX7_walk_20 : decode cX7_walk 20 = .ok (.aload_n 0, 1) := by decide +kernel
theorem dX7_walk_21 : decode cX7_walk 21 = .ok (.getfield 16, 3) := by decide +kernel
theorem dX7_walk_24 : decode cX7_walk 24 = .ok (.iconst 1, 1) := by decide +kernel
theorem dX7_walk_25 : decode cX7_walk 25 = .ok (.isub, 1) := by decide +kernel
theorem dX7_walk_26 : decode cX7_walk 26 = .ok (.invokestatic 55, 3) := by decide +kernel
theorem dX7_walk_29 : decode cX7_walk 29 = .ok (.ifCond .ne 5, 3) := by decide +kernel
theorem dX7_walk_32 : decode cX7_walk 32 = .ok (.iconst 4, 1) := by decide +kernel
theorem dX7_walk_33 : decode cX7_walk 33 = .ok (.ireturn, 1) := by decide +kernel
theorem dX7_walk_34 : decode cX7_walk 34 = .ok (.aload_n 0, 1) := by decide +kernel
theorem dX7_walk_35 : decode cX7_walk 35 = .ok (.getfield 13, 3) := by decide +kernel
theorem dX7_walk_38 : decode cX7_walk 38 = .ok (.iload_n 1, 1) := by decide +kernel
theorem dX7_walk_39 : decode cX7_walk 39 = .ok (.dup2, 1) := by decide +kernel
theorem dX7_walk_40 : decode cX7_walk 40 = .ok (.iaload, 1) := by decide +kernel
theorem dX7_walk_41 : decode cX7_walk 41 = .ok (.iload_n 2, 1) := by decide +kernel
theorem dX7_walk_42 : decode cX7_walk 42 = .ok (.iadd, 1) := by decide +kernel
theorem dX7_walk_43 : decode cX7_walk 43 = .ok (.iastore, 1) := by decide +kernel
theorem dX7_walk_44 : decode cX7_walk 44 = .ok (.iconst 0, 1) := by decide +kernel
theorem dX7_walk_45 : decode cX7_walk 45 = .ok (.ireturn, 1) := by decide +kernel
theorem dX7_leave_0 : decode cX7_leave 0 = .ok (.aload_n 0, 1) := by decide +kernel
theorem dX7_leave_1 : decode cX7_leave 1 = .ok (.getfield 13, 3) := by decide +kernel
theorem dX7_leave_4 : decode cX7_leave 4 = .ok (.iload_n 1, 1) := by decide +kernel
theorem dX7_leave_5 : decode cX7_leave 5 = .ok (.iaload, 1) := by decide +kernel
theorem dX7_leave_6 : decode cX7_leave 6 = .ok (.ifCond .ge 5, 3) := by decide +kernel
theorem dX7_leave_9 : decode cX7_leave 9 = .ok (.iconst 1, 1) := by decide +kernel
theorem dX7_leave_10 : decode cX7_leave 10 = .ok (.ireturn, 1) := by decide +kernel
theorem dX7_leave_11 : decode cX7_leave 11 = .ok (.aload_n 0, 1) := by decide +kernel
theorem dX7_leave_12 : decode cX7_leave 12 = .ok (.getfield 13, 3) := by decide +kernel
theorem dX7_leave_15 : decode cX7_leave 15 = .ok (.bipush 6, 2) := by decide +kernel
theorem dX7_leave_17 : decode cX7_leave 17 = .ok (.iload_n 1, 1) := by decide +kernel
theorem dX7_leave_18 : decode cX7_leave 18 = .ok (.iadd, 1) := by decide +kernel
theorem dX7_leave_19 : decode cX7_leave 19 = .ok (.iaload, 1) := by decide +kernel
theorem dX7_leave_20 : decode cX7_leave 20 = .ok (.iload_n 2, 1) := by decide +kernel
theorem dX7_leave_21 : decode cX7_leave 21 = .ok (.if_icmp .ge 5, 3) := by decide +kernel
theorem dX7_leave_24 : decode cX7_leave 24 = .ok (.iconst 5, 1) := by decide +kernel
theorem dX7_leave_25 : decode cX7_leave 25 = .ok (.ireturn, 1) := by decide +kernel
theorem dX7_leave_26 : decode cX7_leave 26 = .ok (.aload_n 0, 1) := by decide +kernel
theorem dX7_leave_27 : decode cX7_leave 27 = .ok (.getfield 13, 3) := by decide +kernel
theorem dX7_leave_30 : decode cX7_leave 30 = .ok (.bipush 6, 2) := by decide +kernel
theorem dX7_leave_32 : decode cX7_leave 32 = .ok (.iload_n 1, 1) := by decide +kernel
theorem dX7_leave_33 : decode cX7_leave 33 = .ok (.iadd, 1) := by decide +kernel
theorem dX7_leave_34 : decode cX7_leave 34 = .ok (.dup2, 1) := by decide +kernel
theorem dX7_leave_35 : decode cX7_leave 35 = .ok (.iaload, 1) := by decide +kernel
theorem dX7_leave_36 : decode cX7_leave 36 = .ok (.iload_n 2, 1) := by decide +kernel
theorem dX7_leave_37 : decode cX7_leave 37 = .ok (.isub, 1) := by decide +kernel
theorem dX7_leave_38 : decode cX7_leave 38 = .ok (.iastore, 1) := by decide +kernel
theorem dX7_leave_39 : decode cX7_leave 39 = .ok (.aload_n 0, 1) := by decide +kernel
theorem dX7_leave_40 : decode cX7_leave 40 = .ok (.getfield 13, 3) := by decide +kernel
theorem dX7_leave_43 : decode cX7_leave 43 = .ok (.bipush 12, 2) := by decide +kernel
theorem dX7_leave_45 : decode cX7_leave 45 = .ok (.aload_n 0, 1) := by decide +kernel
theorem dX7_leave_46 : decode cX7_leave 46 = .ok (.getfield 13, 3) := by decide +kernel
theorem dX7_leave_49 : decode cX7_leave 49 = .ok (.iload_n 1, 1) := by decide +kernel
theorem dX7_leave_50 : decode cX7_leave 50 = .ok (.iaload, 1) := by decide +kernel
theorem dX7_leave_51 : decode cX7_leave 51 = .ok (.iadd, 1) := by decide +kernel
theorem dX7_leave_52 : decode cX7_leave 52 = .ok (.dup2, 1) := by decide +kernel
theorem dX7_leave_53 : decode cX7_leave 53 = .ok (.iaload, 1) := by decide +kernel
theorem dX7_leave_54 : decode cX7_leave 54 = .ok (.iload_n 2, 1) := by decide +kernel
theorem dX7_leave_55 : decode cX7_leave 55 = .ok (.iadd, 1) := by decide +kernel
theorem dX7_leave_56 : decode cX7_leave 56 = .ok (.iastore, 1) := by decide +kernel
theorem dX7_leave_57 : decode cX7_leave 57 = .ok (.iconst 0, 1) := by decide +kernel
theorem dX7_leave_58 : decode cX7_leave 58 = .ok (.ireturn, 1) := by decide +kernel
theorem dX7_find_0 : decode cX7_find 0 = .ok (.aload_n 0, 1) := by decide +kernel
theorem dX7_find_1 : decode cX7_find 1 = .ok (.getfield 13, 3) := by decide +kernel
theorem dX7_find_4 : decode cX7_find 4 = .ok (.iload_n 1, 1) := by decide +kernel
theorem dX7_find_5 : decode cX7_find 5 = .ok (.iaload, 1) := by decide +kernel
theorem dX7_find_6 : decode cX7_find 6 = .ok (.ifCond .ge 5, 3) := by decide +kernel
theorem dX7_find_9 : decode cX7_find 9 = .ok (.iconst 1, 1) := by decide +kernel
theorem dX7_find_10 : decode cX7_find 10 = .ok (.ireturn, 1) := by decide +kernel
theorem dX7_find_11 : decode cX7_find 11 = .ok (.bipush 12, 2) := by decide +kernel
theorem dX7_find_13 : decode cX7_find 13 = .ok (.aload_n 0, 1) := by decide +kernel
theorem dX7_find_14 : decode cX7_find 14 = .ok (.getfield 13, 3) := by decide +kernel
theorem dX7_find_17 : decode cX7_find 17 = .ok (.iload_n 1, 1) := by decide +kernel
theorem dX7_find_18 : decode cX7_find 18 = .ok (.iaload, 1) := by decide +kernel
theorem dX7_find_19 : decode cX7_find 19 = .ok (.iadd, 1) := by decide +kernel
theorem dX7_find_20 : decode cX7_find 20 = .ok (.istore_n 2, 1) := by decide +kernel
theorem dX7_find_21 : decode cX7_find 21 = .ok (.aload_n 0, 1) := by decide +kernel
theorem dX7_find_22 : decode cX7_find 22 = .ok (.getfield 13, 3) := by decide +kernel
theorem dX7_find_25 : decode cX7_find 25 = .ok (.iload_n 2, 1) := by decide +kernel
theorem dX7_find_26 : decode cX7_find 26 = .ok (.iaload, 1) := by decide +kernel
theorem dX7_find_27 : decode cX7_find 27 = .ok (.ifCond .ne 6, 3) := by decide +kernel
theorem dX7_find_30 : decode cX7_find 30 = .ok (.bipush 6, 2) := by decide +kernel
theorem dX7_find_32 : decode cX7_find 32 = .ok (.ireturn, 1) := by decide +kernel
theorem dX7_find_33 : decode cX7_find 33 = .ok (.aload_n 0, 1) := by decide +kernel
theorem dX7_find_34 : decode cX7_find 34 = .ok (.getfield 13, 3) := by decide +kernel
theorem dX7_find_37 : decode cX7_find 37 = .ok (.bipush 6, 2) := by decide +kernel
theorem dX7_find_39 : decode cX7_find 39 = .ok (.iload_n 1, 1) := by decide +kernel
theorem dX7_find_40 : decode cX7_find 40 = .ok (.iadd, 1) := by decide +kernel
theorem dX7_find_41 : decode cX7_find 41 = .ok (.dup2, 1) := by decide +kernel
theorem dX7_find_42 : decode cX7_find 42 = .ok (.iaload, 1) := by decide +kernel
theorem dX7_find_43 : decode cX7_find 43 = .ok (.aload_n 0, 1) := by decide +kernel
theorem dX7_find_44 : decode cX7_find 44 = .ok (.getfield 13, 3) := by decide +kernel
theorem dX7_find_47 : decode cX7_find 47 = .ok (.iload_n 2, 1) := by decide +kernel
theorem dX7_find_48 : decode cX7_find 48 = .ok (.iaload, 1) := by decide +kernel
theorem dX7_find_49 : decode cX7_find 49 = .ok (.iadd, 1) := by decide +kernel
theorem dX7_find_50 : decode cX7_find 50 = .ok (.iastore, 1) := by decide +kernel
theorem dX7_find_51 : decode cX7_find 51 = .ok (.aload_n 0, 1) := by decide +kernel
theorem dX7_find_52 : decode cX7_find 52 = .ok (.getfield 13, 3) := by decide +kernel
theorem dX7_find_55 : decode cX7_find 55 = .ok (.iload_n 2, 1) := by decide +kernel
theorem dX7_find_56 : decode cX7_find 56 = .ok (.iconst 0, 1) := by decide +kernel
theorem dX7_find_57 : decode cX7_find 57 = .ok (.iastore, 1) := by decide +kernel
theorem dX7_find_58 : decode cX7_find 58 = .ok (.iconst 0, 1) := by decide +kernel
theorem dX7_find_59 : decode cX7_find 59 = .ok (.ireturn, 1) := by decide +kernel
theorem dX7_pass_0 : decode cX7_pass 0 = .ok (.aload_n 0, 1) := by decide +kernel
theorem dX7_pass_1 : decode cX7_pass 1 = .ok (.getfield 13, 3) := by decide +kernel
theorem dX7_pass_4 : decode cX7_pass 4 = .ok (.bipush 43, 2) := by decide +kernel
theorem dX7_pass_6 : decode cX7_pass 6 = .ok (.iaload, 1) := by decide +kernel
theorem dX7_pass_7 : decode cX7_pass 7 = .ok (.iload_n 1, 1) := by decide +kernel
theorem dX7_pass_8 : decode cX7_pass 8 = .ok (.iadd, 1) := by decide +kernel
theorem dX7_pass_9 : decode cX7_pass 9 = .ok (.istore_n 2, 1) := by decide +kernel
theorem dX7_pass_10 : decode cX7_pass 10 = .ok (.aload_n 0, 1) := by decide +kernel
theorem dX7_pass_11 : decode cX7_pass 11 = .ok (.getfield 13, 3) := by decide +kernel
theorem dX7_pass_14 : decode cX7_pass 14 = .ok (.bipush 42, 2) := by decide +kernel
theorem dX7_pass_16 : decode cX7_pass 16 = .ok (.iaload, 1) := by decide +kernel
theorem dX7_pass_17 : decode cX7_pass 17 = .ok (.iload_n 2, 1) := by decide +kernel
theorem dX7_pass_18 : decode cX7_pass 18 = .ok (.bipush 24, 2) := by decide +kernel
theorem dX7_pass_20 : decode cX7_pass 20 = .ok (.idiv, 1) := by decide +kernel
theorem dX7_pass_21 : decode cX7_pass 21 = .ok (.iadd, 1) := by decide +kernel
theorem dX7_pass_22 : decode cX7_pass 22 = .ok (.istore_n 3, 1) := by decide +kernel
theorem dX7_pass_23 : decode cX7_pass 23 = .ok (.aload_n 0, 1) := by decide +kernel
theorem dX7_pass_24 : decode cX7_pass 24 = .ok (.getfield 13, 3) := by decide +kernel
theorem dX7_pass_27 : decode cX7_pass 27 = .ok (.bipush 44, 2) := by decide +kernel
theorem dX7_pass_29 : decode cX7_pass 29 = .ok (.iaload, 1) := by decide +kernel
theorem dX7_pass_30 : decode cX7_pass 30 = .ok (.iload_n 3, 1) := by decide +kernel
theorem dX7_pass_31 : decode cX7_pass 31 = .ok (.sipush 365, 3) := by decide +kernel
theorem dX7_pass_34 : decode cX7_pass 34 = .ok (.idiv, 1) := by decide +kernel
theorem dX7_pass_35 : decode cX7_pass 35 = .ok (.iadd, 1) := by decide +kernel
theorem dX7_pass_36 : decode cX7_pass 36 = .ok (.istore 4, 2) := by decide +kernel
theorem dX7_pass_38 : decode cX7_pass 38 = .ok (.iload 4, 2) := by decide +kernel
theorem dX7_pass_40 : decode cX7_pass 40 = .ok (.bipush 99, 2) := by decide +kernel
theorem dX7_pass_42 : decode cX7_pass 42 = .ok (.if_icmp .le 6, 3) := by decide +kernel
theorem dX7_pass_45 : decode cX7_pass 45 = .ok (.bipush 7, 2) := by decide +kernel
theorem dX7_pass_47 : decode cX7_pass 47 = .ok (.ireturn, 1) := by decide +kernel
theorem dX7_pass_48 : decode cX7_pass 48 = .ok (.aload_n 0, 1) := by decide +kernel
theorem dX7_pass_49 : decode cX7_pass 49 = .ok (.getfield 13, 3) := by decide +kernel
theorem dX7_pass_52 : decode cX7_pass 52 = .ok (.bipush 43, 2) := by decide +kernel
theorem dX7_pass_54 : decode cX7_pass 54 = .ok (.iload_n 2, 1) := by decide +kernel
theorem dX7_pass_55 : decode cX7_pass 55 = .ok (.bipush 24, 2) := by decide +kernel
theorem dX7_pass_57 : decode cX7_pass 57 = .ok (.irem, 1) := by decide +kernel
theorem dX7_pass_58 : decode cX7_pass 58 = .ok (.iastore, 1) := by decide +kernel
theorem dX7_pass_59 : decode cX7_pass 59 = .ok (.aload_n 0, 1) := by decide +kernel
theorem dX7_pass_60 : decode cX7_pass 60 = .ok (.getfield 13, 3) := by decide +kernel
theorem dX7_pass_63 : decode cX7_pass 63 = .ok (.bipush 42, 2) := by decide +kernel
theorem dX7_pass_65 : decode cX7_pass 65 = .ok (.iload_n 3, 1) := by decide +kernel
theorem dX7_pass_66 : decode cX7_pass 66 = .ok (.sipush 365, 3) := by decide +kernel
theorem dX7_pass_69 : decode cX7_pass 69 = .ok (.irem, 1) := by decide +kernel
theorem dX7_pass_70 : decode cX7_pass 70 = .ok (.iastore, 1) := by decide +kernel
theorem dX7_pass_71 : decode cX7_pass 71 = .ok (.aload_n 0, 1) := by decide +kernel
theorem dX7_pass_72 : decode cX7_pass 72 = .ok (.getfield 13, 3) := by decide +kernel
theorem dX7_pass_75 : decode cX7_pass 75 = .ok (.bipush 44, 2) := by decide +kernel
theorem dX7_pass_77 : decode cX7_pass 77 = .ok (.iload 4, 2) := by decide +kernel
theorem dX7_pass_79 : decode cX7_pass 79 = .ok (.iastore, 1) := by decide +kernel
theorem dX7_pass_80 : decode cX7_pass 80 = .ok (.iconst 0, 1) := by decide +kernel
theorem dX7_pass_81 : decode cX7_pass 81 = .ok (.ireturn, 1) := by decide +kernel
theorem dX7_nextTime_0 : decode cX7_nextTime 0 = .ok (.aload_n 0, 1) := by decide +kernel
theorem dX7_nextTime_1 : decode cX7_nextTime 1 = .ok (.getfield 13, 3) := by decide +kernel
theorem dX7_nextTime_4 : decode cX7_nextTime 4 = .ok (.bipush 42, 2) := by decide +kernel
theorem dX7_nextTime_6 : decode cX7_nextTime 6 = .ok (.iaload, 1) := by decide +kernel
theorem dX7_nextTime_7 : decode cX7_nextTime 7 = .ok (.aload_n 0, 1) := by decide +kernel
theorem dX7_nextTime_8 : decode cX7_nextTime 8 = .ok (.getfield 20, 3) := by decide +kernel
theorem dX7_nextTime_11 : decode cX7_nextTime 11 = .ok (.if_icmp .ge 7, 3) := by decide +kernel
theorem dX7_nextTime_14 : decode cX7_nextTime 14 = .ok (.iconst 1, 1) := by decide +kernel
theorem dX7_nextTime_15 : decode cX7_nextTime 15 = .ok (.goto 4, 3) := by decide +kernel
theorem dX7_nextTime_18 : decode cX7_nextTime 18 = .ok (.iconst 0, 1) := by decide +kernel
theorem dX7_nextTime_19 : decode cX7_nextTime 19 = .ok (.istore_n 1, 1) := by decide +kernel
theorem dX7_nextTime_20 : decode cX7_nextTime 20 = .ok (.iload_n 1, 1) := by decide +kernel
theorem dX7_nextTime_21 : decode cX7_nextTime 21 = .ok (.ifCond .ne 18, 3) := by decide +kernel
theorem dX7_nextTime_24 : decode cX7_nextTime 24 = .ok (.aload_n 0, 1) := by decide +kernel
theorem dX7_nextTime_25 : decode cX7_nextTime 25 = .ok (.getfield 13, 3) := by decide +kernel
theorem dX7_nextTime_28 : decode cX7_nextTime 28 = .ok (.bipush 44, 2) := by decide +kernel
theorem dX7_nextTime_30 : decode cX7_nextTime 30 = .ok (.iaload, 1) := by decide +kernel
theorem dX7_nextTime_31 : decode cX7_nextTime 31 = .ok (.bipush 99, 2) := by decide +kernel
theorem dX7_nextTime_33 : decode cX7_nextTime 33 = .ok (.if_icmp .ne 6, 3) := by decide +kernel
theorem dX7_nextTime_36 : decode cX7_nextTime 36 = .ok (.bipush 7, 2) := by decide +kernel
theorem dX7_nextTime_38 : decode cX7_nextTime 38 = .ok (.ireturn, 1) := by decide +kernel
theorem dX7_nextTime_39 : decode cX7_nextTime 39 = .ok (.aload_n 0, 1) := by decide +kernel
theorem dX7_nextTime_40 : decode cX7_nextTime 40 = .ok (.getfield 13, 3) := by decide +kernel
theorem dX7_nextTime_43 : decode cX7_nextTime 43 = .ok (.bipush 44, 2) := by decide +kernel
theorem dX7_nextTime_45 : decode cX7_nextTime 45 = .ok (.dup2, 1) := by decide +kernel
theorem dX7_nextTime_46 : decode cX7_nextTime 46 = .ok (.iaload, 1) := by decide +kernel
theorem dX7_nextTime_47 : decode cX7_nextTime 47 = .ok (.iload_n 1, 1) := by decide +kernel
theorem dX7_nextTime_48 : decode cX7_nextTime 48 = .ok (.ifCond .eq 7, 3) := by decide +kernel
theorem dX7_nextTime_51 : decode cX7_nextTime 51 = .ok (.iconst 0, 1) := by decide +kernel
theorem dX7_nextTime_52 : decode cX7_nextTime 52 = .ok (.goto 4, 3) := by decide +kernel
theorem dX7_nextTime_55 : decode cX7_nextTime 55 = .ok (.iconst 1, 1) := by decide +kernel
theorem dX7_nextTime_56 : decode cX7_nextTime 56 = .ok (.iadd, 1) := by decide +kernel
theorem dX7_nextTime_57 : decode cX7_nextTime 57 = .ok (.iastore, 1) := by decide +kernel
theorem dX7_nextTime_58 : decode cX7_nextTime 58 = .ok (.aload_n 0, 1) := by decide +kernel
theorem dX7_nextTime_59 : decode cX7_nextTime 59 = .ok (.getfield 13, 3) := by decide +kernel
theorem dX7_nextTime_62 : decode cX7_nextTime 62 = .ok (.bipush 42, 2) := by decide +kernel
theorem dX7_nextTime_64 : decode cX7_nextTime 64 = .ok (.aload_n 0, 1) := by decide +kernel
theorem dX7_nextTime_65 : decode cX7_nextTime 65 = .ok (.getfield 20, 3) := by decide +kernel
theorem dX7_nextTime_68 : decode cX7_nextTime 68 = .ok (.iastore, 1) := by decide +kernel
theorem dX7_nextTime_69 : decode cX7_nextTime 69 = .ok (.aload_n 0, 1) := by decide +kernel
theorem dX7_nextTime_70 : decode cX7_nextTime 70 = .ok (.getfield 13, 3) := by decide +kernel
theorem dX7_nextTime_73 : decode cX7_nextTime 73 = .ok (.bipush 43, 2) := by decide +kernel
theorem dX7_nextTime_75 : decode cX7_nextTime 75 = .ok (.iconst 0, 1) := by decide +kernel
theorem dX7_nextTime_76 : decode cX7_nextTime 76 = .ok (.iastore, 1) := by decide +kernel
theorem dX7_nextTime_77 : decode cX7_nextTime 77 = .ok (.iconst 0, 1) := by decide +kernel
theorem dX7_nextTime_78 : decode cX7_nextTime 78 = .ok (.ireturn, 1) := by decide +kernel
set_option maxRecDepth 20000 in
theorem ggX7_personAct_X7_stepOver : GoodIn wsX7_personAct wsX7_stepOver := goodIn_r _ [6, 7, 8, 9, 10, 11, 5, 12, 13, 33, 34, 35, 36, 37, 38, 39, 40, 41, 42, 43, 44, 45, 46, 47, 48, 49, 50, 51, 52] (by decide +kernel) (by decide +kernel)
set_option maxRecDepth 20000 in
theorem gX7_personAct_X7_stepOver : GoodIn wsX7_personAct (wsV RX7 89 RX7 yX7_stepOver wsX7_stepOver) := goodIn_app (goodIn_of _ (by decide +kernel)) ggX7_personAct_X7_stepOver
set_option maxRecDepth 20000 in
theorem ggX7_personAct_X7_comeOut : GoodIn wsX7_personAct wsX7_comeOut := goodIn_r _ [17, 7, 9, 10, 11, 5, 12, 13, 33, 34, 35, 36, 37, 38, 39, 40, 41, 42, 43, 44, 45, 46, 47, 48, 49, 50, 51, 52] (by decide +kernel) (by decide +kernel)
set_option maxRecDepth 20000 in
theorem gX7_personAct_X7_comeOut : GoodIn wsX7_personAct (wsV RX7 93 RX7 yX7_comeOut wsX7_comeOut) := goodIn_app (goodIn_of _ (by decide +kernel)) ggX7_personAct_X7_comeOut
set_option maxRecDepth 20000 in
theorem ggX7_personAct_X7_walk : GoodIn wsX7_personAct wsX7_walk := goodIn_r _ [21, 7, 8, 22, 23, 5, 24, 33, 34, 35, 36, 37, 38, 39, 40, 41, 42, 43, 44, 45, 46, 47, 48, 49, 50, 51, 52] (by decide +kernel) (by decide +kernel)
set_option maxRecDepth 20000 in
theorem gX7_personAct_X7_walk : GoodIn wsX7_personAct (wsV RX7 96 RX7 yX7_walk wsX7_walk) := goodIn_app (goodIn_of _ (by decide +kernel)) ggX7_personAct_X7_walk
set_option maxRecDepth 20000 in
theorem ggX7_personAct_X7_leave : GoodIn wsX7_personAct wsX7_leave := goodIn_r _ [28, 7, 33, 34, 35, 36, 37, 38, 39, 40, 41, 42, 43, 44, 45, 46, 47, 48, 49, 50, 51, 52] (by decide +kernel) (by decide +kernel)
set_option maxRecDepth 20000 in
theorem gX7_personAct_X7_leave : GoodIn wsX7_personAct (wsV RX7 99 RX7 yX7_leave wsX7_leave) := goodIn_app (goodIn_of _ (by decide +kernel)) ggX7_personAct_X7_leave
set_option maxRecDepth 20000 in
theorem ggX7_personAct_X7_find : GoodIn wsX7_personAct wsX7_find := goodIn_r _ [32, 7, 33, 34, 35, 36, 37, 38, 39, 40, 41, 42, 43, 44, 45, 46, 47, 48, 49, 50, 51, 52] (by decide +kernel) (by decide +kernel)
set_option maxRecDepth 20000 in
theorem gX7_personAct_X7_find : GoodIn wsX7_personAct (wsV RX7 102 RX7 yX7_find wsX7_find) := goodIn_app (goodIn_of _ (by decide +kernel)) ggX7_personAct_X7_find
theorem dX7_personAct_0 : decode cX7_personAct 0 = .ok (.aload_n 0, 1) := by decide +kernel
theorem dX7_personAct_1 : decode cX7_personAct 1 = .ok (.getfield 26, 3) := by decide +kernel
theorem dX7_personAct_4 : decode cX7_personAct 4 = .ok (.iload_n 1, 1) := by decide +kernel
theorem dX7_personAct_5 : decode cX7_personAct 5 = .ok (.iaload, 1) := by decide +kernel
theorem dX7_personAct_6 : decode cX7_personAct 6 = .ok (.bipush 65, 2) := by decide +kernel
theorem dX7_personAct_8 : decode cX7_personAct 8 = .ok (.isub, 1) := by decide +kernel
theorem dX7_personAct_9 : decode cX7_personAct 9 = .ok (.istore_n 2, 1) := by decide +kernel
theorem dX7_personAct_10 : decode cX7_personAct 10 = .ok (.aload_n 0, 1) := by decide +kernel
theorem dX7_personAct_11 : decode cX7_personAct 11 = .ok (.getfield 26, 3) := by decide +kernel
theorem dX7_personAct_14 : decode cX7_personAct 14 = .ok (.iload_n 1, 1) := by decide +kernel
theorem dX7_personAct_15 : decode cX7_personAct 15 = .ok (.iconst 1, 1) := by decide +kernel
theorem dX7_personAct_16 : decode cX7_personAct 16 = .ok (.iadd, 1) := by decide +kernel
theorem dX7_personAct_17 : decode cX7_personAct 17 = .ok (.iaload, 1) := by decide +kernel
theorem dX7_personAct_18 : decode cX7_personAct 18 = .ok (.lookupswitch 93 #[(36, 76), (40, 50), (41, 56), (60, 69), (62, 62)], 50) := by decide +kernel
theorem dX7_personAct_68 : decode cX7_personAct 68 = .ok (.aload_n 0, 1) := by decide +kernel
theorem dX7_personAct_69 : decode cX7_personAct 69 = .ok (.iload_n 2, 1) := by decide +kernel
theorem dX7_personAct_70 : decode cX7_personAct 70 = .ok (.invokevirtual 89, 3) := by decide +kernel
theorem dX7_personAct_73 : decode cX7_personAct 73 = .ok (.ireturn, 1) := by decide +kernel
theorem dX7_personAct_74 : decode cX7_personAct 74 = .ok (.aload_n 0, 1) := by decide +kernel
theorem dX7_personAct_75 : decode cX7_personAct 75 = .ok (.iload_n 2, 1) := by decide +kernel
theorem dX7_personAct_76 : decode cX7_personAct 76 = .ok (.invokevirtual 93, 3) := by decide +kernel
theorem dX7_personAct_79 : decode cX7_personAct 79 = .ok (.ireturn, 1) := by decide +kernel
theorem dX7_personAct_80 : decode cX7_personAct 80 = .ok (.aload_n 0, 1) := by decide +kernel
theorem dX7_personAct_81 : decode cX7_personAct 81 = .ok (.iload_n 2, 1) := by decide +kernel
theorem dX7_personAct_82 : decode cX7_personAct 82 = .ok (.iconst 1, 1) := by decide +kernel
theorem dX7_personAct_83 : decode cX7_personAct 83 = .ok (.invokevirtual 96, 3) := by decide +kernel
theorem dX7_personAct_86 : decode cX7_personAct 86 = .ok (.ireturn, 1) := by decide +kernel
theorem dX7_personAct_87 : decode cX7_personAct 87 = .ok (.aload_n 0, 1) := by decide +kernel
theorem dX7_personAct_88 : decode cX7_personAct 88 = .ok (.iload_n 2, 1) := by decide +kernel
theorem dX7_personAct_89 : decode cX7_personAct 89 = .ok (.iconst (-1), 1) := by decide +kernel
theorem dX7_personAct_90 : decode cX7_personAct 90 = .ok (.invokevirtual 96, 3) := by decide +kernel
theorem dX7_personAct_93 : decode cX7_personAct 93 = .ok (.ireturn, 1) := by decide +kernel
theorem dX7_personAct_94 : decode cX7_personAct 94 = .ok (.aload_n 0, 1) := by decide +kernel
theorem dX7_personAct_95 : decode cX7_personAct 95 = .ok (.iload_n 2, 1) := by decide +kernel
theorem dX7_personAct_96 : decode cX7_personAct 96 = .ok (.aload_n 0, 1) := by decide +kernel
theorem dX7_personAct_97 : decode cX7_personAct 97 = .ok (.getfield 26, 3) := by decide +kernel
theorem dX7_personAct_100 : decode cX7_personAct 100 = .ok (.iload_n 1, 1) := by decide +kernel
theorem dX7_personAct_101 : decode cX7_personAct 101 = .ok (.iconst 2, 1) := by decide +kernel
theorem dX7_personAct_102 : decode cX7_personAct 102 = .ok (.iadd, 1) := by decide +kernel
theorem dX7_personAct_103 : decode cX7_personAct 103 = .ok (.iaload, 1) := by decide +kernel
theorem dX7_personAct_104 : decode cX7_personAct 104 = .ok (.bipush 48, 2) := by decide +kernel
theorem dX7_personAct_106 : decode cX7_personAct 106 = .ok (.isub, 1) := by decide +kernel
theorem dX7_personAct_107 : decode cX7_personAct 107 = .ok (.invokevirtual 99, 3) := by decide +kernel
theorem dX7_personAct_110 : decode cX7_personAct 110 = .ok (.ireturn, 1) := by decide +kernel
theorem dX7_personAct_111 : decode cX7_personAct 111 = .ok (.aload_n 0, 1) := by decide +kernel
theorem dX7_personAct_112 : decode cX7_personAct 112 = .ok (.iload_n 2, 1) := by decide +kernel
theorem dX7_personAct_113 : decode cX7_personAct 113 = .ok (.invokevirtual 102, 3) := by decide +kernel
theorem dX7_personAct_116 : decode cX7_personAct 116 = .ok (.ireturn, 1) := by decide +kernel
theorem dX7_newlyMet_0 : decode cX7_newlyMet 0 = .ok (.iconst 0, 1) := by decide +kernel
theorem dX7_newlyMet_1 : decode cX7_newlyMet 1 = .ok (.istore_n 1, 1) := by decide +kernel
theorem dX7_newlyMet_2 : decode cX7_newlyMet 2 = .ok (.iload_n 1, 1) := by decide +kernel
theorem dX7_newlyMet_3 : decode cX7_newlyMet 3 = .ok (.bipush 6, 2) := by decide +kernel
theorem dX7_newlyMet_5 : decode cX7_newlyMet 5 = .ok (.if_icmp .ge 102, 3) := by decide +kernel
theorem dX7_newlyMet_8 : decode cX7_newlyMet 8 = .ok (.iload_n 1, 1) := by decide +kernel
theorem dX7_newlyMet_9 : decode cX7_newlyMet 9 = .ok (.iconst 1, 1) := by decide +kernel
theorem dX7_newlyMet_10 : decode cX7_newlyMet 10 = .ok (.iadd, 1) := by decide +kernel
theorem dX7_newlyMet_11 : decode cX7_newlyMet 11 = .ok (.istore_n 2, 1) := by decide +kernel
theorem dX7_newlyMet_12 : decode cX7_newlyMet 12 = .ok (.iload_n 2, 1) := by decide +kernel
theorem dX7_newlyMet_13 : decode cX7_newlyMet 13 = .ok (.bipush 6, 2) := by decide +kernel
theorem dX7_newlyMet_15 : decode cX7_newlyMet 15 = .ok (.if_icmp .ge 86, 3) := by decide +kernel
theorem dX7_newlyMet_18 : decode cX7_newlyMet 18 = .ok (.aload_n 0, 1) := by decide +kernel
theorem dX7_newlyMet_19 : decode cX7_newlyMet 19 = .ok (.getfield 13, 3) := by decide +kernel
theorem dX7_newlyMet_22 : decode cX7_newlyMet 22 = .ok (.iload_n 1, 1) := by decide +kernel
theorem dX7_newlyMet_23 : decode cX7_newlyMet 23 = .ok (.iaload, 1) := by decide +kernel
theorem dX7_newlyMet_24 : decode cX7_newlyMet 24 = .ok (.ifCond .lt 22, 3) := by decide +kernel
theorem dX7_newlyMet_27 : decode cX7_newlyMet 27 = .ok (.aload_n 0, 1) := by decide +kernel
theorem dX7_newlyMet_28 : decode cX7_newlyMet 28 = .ok (.getfield 13, 3) := by decide +kernel
theorem dX7_newlyMet_31 : decode cX7_newlyMet 31 = .ok (.iload_n 1, 1) := by decide +kernel
theorem dX7_newlyMet_32 : decode cX7_newlyMet 32 = .ok (.iaload, 1) := by decide +kernel
theorem dX7_newlyMet_33 : decode cX7_newlyMet 33 = .ok (.aload_n 0, 1) := by decide +kernel
theorem dX7_newlyMet_34 : decode cX7_newlyMet 34 = .ok (.getfield 13, 3) := by decide +kernel
theorem dX7_newlyMet_37 : decode cX7_newlyMet 37 = .ok (.iload_n 2, 1) := by decide +kernel
theorem dX7_newlyMet_38 : decode cX7_newlyMet 38 = .ok (.iaload, 1) := by decide +kernel
theorem dX7_newlyMet_39 : decode cX7_newlyMet 39 = .ok (.if_icmp .ne 7, 3) := by decide +kernel
theorem dX7_newlyMet_42 : decode cX7_newlyMet 42 = .ok (.iconst 1, 1) := by decide +kernel
theorem dX7_newlyMet_43 : decode cX7_newlyMet 43 = .ok (.goto 4, 3) := by decide +kernel
theorem dX7_newlyMet_46 : decode cX7_newlyMet 46 = .ok (.iconst 0, 1) := by decide +kernel
theorem dX7_newlyMet_47 : decode cX7_newlyMet 47 = .ok (.istore_n 3, 1) := by decide +kernel
theorem dX7_newlyMet_48 : decode cX7_newlyMet 48 = .ok (.aload_n 0, 1) := by decide +kernel
theorem dX7_newlyMet_49 : decode cX7_newlyMet 49 = .ok (.getfield 29, 3) := by decide +kernel
theorem dX7_newlyMet_52 : decode cX7_newlyMet 52 = .ok (.iload_n 1, 1) := by decide +kernel
theorem dX7_newlyMet_53 : decode cX7_newlyMet 53 = .ok (.iaload, 1) := by decide +kernel
theorem dX7_newlyMet_54 : decode cX7_newlyMet 54 = .ok (.ifCond .lt 22, 3) := by decide +kernel
theorem dX7_newlyMet_57 : decode cX7_newlyMet 57 = .ok (.aload_n 0, 1) := by decide +kernel
theorem dX7_newlyMet_58 : decode cX7_newlyMet 58 = .ok (.getfield 29, 3) := by decide +kernel
theorem dX7_newlyMet_61 : decode cX7_newlyMet 61 = .ok (.iload_n 1, 1) := by decide +kernel
theorem dX7_newlyMet_62 : decode cX7_newlyMet 62 = .ok (.iaload, 1) := by decide +kernel
theorem dX7_newlyMet_63 : decode cX7_newlyMet 63 = .ok (.aload_n 0, 1) := by decide +kernel
theorem dX7_newlyMet_64 : decode cX7_newlyMet 64 = .ok (.getfield 29, 3) := by decide +kernel
theorem dX7_newlyMet_67 : decode cX7_newlyMet 67 = .ok (.iload_n 2, 1) := by decide +kernel
theorem dX7_newlyMet_68 : decode cX7_newlyMet 68 = .ok (.iaload, 1) := by decide +kernel
theorem dX7_newlyMet_69 : decode cX7_newlyMet 69 = .ok (.if_icmp .ne 7, 3) := by decide +kernel
theorem dX7_newlyMet_72 : decode cX7_newlyMet 72 = .ok (.iconst 1, 1) := by decide +kernel
theorem dX7_newlyMet_73 : decode cX7_newlyMet 73 = .ok (.goto 4, 3) := by decide +kernel
theorem dX7_newlyMet_76 : decode cX7_newlyMet 76 = .ok (.iconst 0, 1) := by decide +kernel
theorem dX7_newlyMet_77 : decode cX7_newlyMet 77 = .ok (.istore 4, 2) := by decide +kernel
theorem dX7_newlyMet_79 : decode cX7_newlyMet 79 = .ok (.iload_n 3, 1) := by decide +kernel
theorem dX7_newlyMet_80 : decode cX7_newlyMet 80 = .ok (.ifCond .eq 15, 3) := by decide +kernel
theorem dX7_newlyMet_83 : decode cX7_newlyMet 83 = .ok (.iload 4, 2) := by decide +kernel
theorem dX7_newlyMet_85 : decode cX7_newlyMet 85 = .ok (.ifCond .ne 10, 3) := by decide +kernel
theorem dX7_newlyMet_88 : decode cX7_newlyMet 88 = .ok (.bipush 10, 2) := by decide +kernel
theorem dX7_newlyMet_90 : decode cX7_newlyMet 90 = .ok (.iload_n 1, 1) := by decide +kernel
theorem dX7_newlyMet_91 : decode cX7_newlyMet 91 = .ok (.imul, 1) := by decide +kernel
theorem dX7_newlyMet_92 : decode cX7_newlyMet 92 = .ok (.iload_n 2, 1) := by decide +kernel
theorem dX7_newlyMet_93 : decode cX7_newlyMet 93 = .ok (.iadd, 1) := by decide +kernel
theorem dX7_newlyMet_94 : decode cX7_newlyMet 94 = .ok (.ireturn, 1) := by decide +kernel
theorem dX7_newlyMet_95 : decode cX7_newlyMet 95 = .ok (.iinc 2 1, 3) := by decide +kernel
theorem dX7_newlyMet_98 : decode cX7_newlyMet 98 = .ok (.goto (-86), 3) := by decide +kernel
theorem dX7_newlyMet_101 : decode cX7_newlyMet 101 = .ok (.iinc 1 1, 3) := by decide +kernel
theorem dX7_newlyMet_104 : decode cX7_newlyMet 104 = .ok (.goto (-102), 3) := by decide +kernel
theorem dX7_newlyMet_107 : decode cX7_newlyMet 107 = .ok (.bipush (-6), 2) := by decide +kernel
theorem dX7_newlyMet_109 : decode cX7_newlyMet 109 = .ok (.ireturn, 1) := by decide +kernel
set_option maxRecDepth 20000 in
theorem ggX7_goYears_X7_asNow : GoodIn wsX7_goYears wsX7_asNow := goodIn_r _ [13, 5, 14, 7, 8, 60, 61, 62, 63, 64, 65, 66, 67, 68, 69, 70, 71, 72, 73, 74, 75, 76, 77, 78, 79] (by decide +kernel) (by decide +kernel)
set_option maxRecDepth 20000 in
theorem gX7_goYears_X7_asNow : GoodIn wsX7_goYears (wsV RX7 59 RX7 yX7_asNow wsX7_asNow) := goodIn_app (goodIn_of _ (by decide +kernel)) ggX7_goYears_X7_asNow
set_option maxRecDepth 20000 in
theorem ggX7_goYears_X7_nextTime : GoodIn wsX7_goYears wsX7_nextTime := goodIn_r _ [18, 5, 19, 60, 61, 62, 63, 64, 65, 66, 67, 68, 69, 70, 71, 72, 73, 74, 75, 76, 77, 78, 79] (by decide +kernel) (by decide +kernel)
set_option maxRecDepth 20000 in
theorem gX7_goYears_X7_nextTime : GoodIn wsX7_goYears (wsV RX7 108 RX7 yX7_nextTime wsX7_nextTime) := goodIn_app (goodIn_of _ (by decide +kernel)) ggX7_goYears_X7_nextTime
set_option maxRecDepth 20000 in
theorem ggX7_goYears_X7_pass : GoodIn wsX7_goYears wsX7_pass := goodIn_r _ [23, 5, 60, 61, 62, 63, 64, 65, 66, 67, 68, 69, 70, 71, 72, 73, 74, 75, 76, 77, 78, 79] (by decide +kernel) (by decide +kernel)
set_option maxRecDepth 20000 in
theorem gX7_goYears_X7_pass : GoodIn wsX7_goYears (wsV RX7 114 RX7 yX7_pass wsX7_pass) := goodIn_app (goodIn_of _ (by decide +kernel)) ggX7_goYears_X7_pass
set_option maxRecDepth 20000 in
theorem ggX7_goYears_X7_personAct : GoodIn wsX7_goYears wsX7_personAct := goodIn_r _ [27, 3, 28, 29, 30, 12, 31, 5, 32, 33, 34, 35, 36, 19, 37, 38, 39, 40, 41, 42, 43, 44, 45, 46, 47, 48, 49, 50, 51, 52, 53, 54, 55, 60, 61, 62, 63, 64, 65, 66, 67, 68, 69, 70, 71, 72, 73, 74, 75, 76, 77, 78, 79] (by decide +kernel) (by decide +kernel)
set_option maxRecDepth 20000 in
theorem gX7_goYears_X7_personAct : GoodIn wsX7_goYears (wsV RX7 117 RX7 yX7_personAct wsX7_personAct) := goodIn_app (goodIn_of _ (by decide +kernel)) ggX7_goYears_X7_personAct
set_option maxRecDepth 20000 in
theorem ggX7_goYears_X7_newlyMet : GoodIn wsX7_goYears wsX7_newlyMet := goodIn_r _ [59, 5, 4, 60, 61, 62, 63, 64, 65, 66, 67, 68, 69, 70, 71, 72, 73, 74, 75, 76, 77, 78, 79] (by decide +kernel) (by decide +kernel)
set_option maxRecDepth 20000 in
theorem gX7_goYears_X7_newlyMet : GoodIn wsX7_goYears (wsV RX7 120 RX7 yX7_newlyMet wsX7_newlyMet) := goodIn_app (goodIn_of _ (by decide +kernel)) ggX7_goYears_X7_newlyMet
theorem dX7_goYears_0 : decode cX7_goYears 0 = .ok (.aload_n 0, 1) := by decide +kernel
theorem dX7_goYears_1 : decode cX7_goYears 1 = .ok (.invokevirtual 59, 3) := by decide +kernel
theorem dX7_goYears_4 : decode cX7_goYears 4 = .ok (.aload_n 0, 1) := by decide +kernel
theorem dX7_goYears_5 : decode cX7_goYears 5 = .ok (.iconst 0, 1) := by decide +kernel
theorem dX7_goYears_6 : decode cX7_goYears 6 = .ok (.putfield 105, 3) := by decide +kernel
theorem dX7_goYears_9 : decode cX7_goYears 9 = .ok (.iconst 0, 1) := by decide +kernel
theorem dX7_goYears_10 : decode cX7_goYears 10 = .ok (.istore_n 1, 1) := by decide +kernel
theorem dX7_goYears_11 : decode cX7_goYears 11 = .ok (.iload_n 1, 1) := by decide +kernel
theorem dX7_goYears_12 : decode cX7_goYears 12 = .ok (.aload_n 0, 1) := by decide +kernel
theorem dX7_goYears_13 : decode cX7_goYears 13 = .ok (.getfield 69, 3) := by decide +kernel
theorem dX7_goYears_16 : decode cX7_goYears 16 = .ok (.if_icmp .ge 190, 3) := by decide +kernel
theorem dX7_goYears_19 : decode cX7_goYears 19 = .ok (.aload_n 0, 1) := by decide +kernel
theorem dX7_goYears_20 : decode cX7_goYears 20 = .ok (.getfield 26, 3) := by decide +kernel
theorem dX7_goYears_23 : decode cX7_goYears 23 = .ok (.iload_n 1, 1) := by decide +kernel
theorem dX7_goYears_24 : decode cX7_goYears 24 = .ok (.iaload, 1) := by decide +kernel
theorem dX7_goYears_25 : decode cX7_goYears 25 = .ok (.istore_n 2, 1) := by decide +kernel
theorem dX7_goYears_26 : decode cX7_goYears 26 = .ok (.iconst 0, 1) := by decide +kernel
theorem dX7_goYears_27 : decode cX7_goYears 27 = .ok (.istore_n 3, 1) := by decide +kernel
theorem dX7_goYears_28 : decode cX7_goYears 28 = .ok (.iload_n 3, 1) := by decide +kernel
theorem dX7_goYears_29 : decode cX7_goYears 29 = .ok (.bipush 6, 2) := by decide +kernel
theorem dX7_goYears_31 : decode cX7_goYears 31 = .ok (.if_icmp .ge 21, 3) := by decide +kernel
theorem dX7_goYears_34 : decode cX7_goYears 34 = .ok (.aload_n 0, 1) := by decide +kernel
theorem dX7_goYears_35 : decode cX7_goYears 35 = .ok (.getfield 29, 3) := by decide +kernel
theorem dX7_goYears_38 : decode cX7_goYears 38 = .ok (.iload_n 3, 1) := by decide +kernel
theorem dX7_goYears_39 : decode cX7_goYears 39 = .ok (.aload_n 0, 1) := by decide +kernel
theorem dX7_goYears_40 : decode cX7_goYears 40 = .ok (.getfield 13, 3) := by decide +kernel
theorem dX7_goYears_43 : decode cX7_goYears 43 = .ok (.iload_n 3, 1) := by decide +kernel
theorem dX7_goYears_44 : decode cX7_goYears 44 = .ok (.iaload, 1) := by decide +kernel
theorem dX7_goYears_45 : decode cX7_goYears 45 = .ok (.iastore, 1) := by decide +kernel
theorem dX7_goYears_46 : decode cX7_goYears 46 = .ok (.iinc 3 1, 3) := by decide +kernel
theorem dX7_goYears_49 : decode cX7_goYears 49 = .ok (.goto (-21), 3) := by decide +kernel
theorem dX7_goYears_52 : decode cX7_goYears 52 = .ok (.iload_n 2, 1) := by decide +kernel
theorem dX7_goYears_53 : decode cX7_goYears 53 = .ok (.bipush 107, 2) := by decide +kernel
theorem dX7_goYears_55 : decode cX7_goYears 55 = .ok (.if_icmp .ne 17, 3) := by decide +kernel
theorem dX7_goYears_58 : decode cX7_goYears 58 = .ok (.aload_n 0, 1) := by decide +kernel
theorem dX7_goYears_59 : decode cX7_goYears 59 = .ok (.aload_n 0, 1) := by decide +kernel
theorem dX7_goYears_60 : decode cX7_goYears 60 = .ok (.invokevirtual 108, 3) := by decide +kernel
theorem dX7_goYears_63 : decode cX7_goYears 63 = .ok (.putfield 111, 3) := by decide +kernel
theorem dX7_goYears_66 : decode cX7_goYears 66 = .ok (.iinc 1 1, 3) := by decide +kernel
theorem dX7_goYears_69 : decode cX7_goYears 69 = .ok (.goto 83, 3) := by decide +kernel
theorem dX7_goYears_72 : decode cX7_goYears 72 = .ok (.iload_n 2, 1) := by decide +kernel
theorem dX7_goYears_73 : decode cX7_goYears 73 = .ok (.bipush 104, 2) := by decide +kernel
theorem dX7_goYears_75 : decode cX7_goYears 75 = .ok (.if_icmp .eq 9, 3) := by decide +kernel
theorem dX7_goYears_78 : decode cX7_goYears 78 = .ok (.iload_n 2, 1) := by decide +kernel
theorem dX7_goYears_79 : decode cX7_goYears 79 = .ok (.bipush 100, 2) := by decide +kernel
theorem dX7_goYears_81 : decode cX7_goYears 81 = .ok (.if_icmp .ne 41, 3) := by decide +kernel
theorem dX7_goYears_84 : decode cX7_goYears 84 = .ok (.aload_n 0, 1) := by decide +kernel
theorem dX7_goYears_85 : decode cX7_goYears 85 = .ok (.aload_n 0, 1) := by decide +kernel
theorem dX7_goYears_86 : decode cX7_goYears 86 = .ok (.aload_n 0, 1) := by decide +kernel
theorem dX7_goYears_87 : decode cX7_goYears 87 = .ok (.getfield 26, 3) := by decide +kernel
theorem dX7_goYears_90 : decode cX7_goYears 90 = .ok (.iload_n 1, 1) := by decide +kernel
theorem dX7_goYears_91 : decode cX7_goYears 91 = .ok (.iconst 1, 1) := by decide +kernel
theorem dX7_goYears_92 : decode cX7_goYears 92 = .ok (.iadd, 1) := by decide +kernel
theorem dX7_goYears_93 : decode cX7_goYears 93 = .ok (.iaload, 1) := by decide +kernel
theorem dX7_goYears_94 : decode cX7_goYears 94 = .ok (.bipush 48, 2) := by decide +kernel
theorem dX7_goYears_96 : decode cX7_goYears 96 = .ok (.isub, 1) := by decide +kernel
theorem dX7_goYears_97 : decode cX7_goYears 97 = .ok (.iload_n 2, 1) := by decide +kernel
theorem dX7_goYears_98 : decode cX7_goYears 98 = .ok (.bipush 104, 2) := by decide +kernel
theorem dX7_goYears_100 : decode cX7_goYears 100 = .ok (.if_icmp .ne 7, 3) := by decide +kernel
theorem dX7_goYears_103 : decode cX7_goYears 103 = .ok (.iconst 1, 1) := by decide +kernel
theorem dX7_goYears_104 : decode cX7_goYears 104 = .ok (.goto 5, 3) := by decide +kernel
theorem dX7_goYears_107 : decode cX7_goYears 107 = .ok (.bipush 24, 2) := by decide +kernel
theorem dX7_goYears_109 : decode cX7_goYears 109 = .ok (.imul, 1) := by decide +kernel
theorem dX7_goYears_110 : decode cX7_goYears 110 = .ok (.invokevirtual 114, 3) := by decide +kernel
theorem dX7_goYears_113 : decode cX7_goYears 113 = .ok (.putfield 111, 3) := by decide +kernel
theorem dX7_goYears_116 : decode cX7_goYears 116 = .ok (.iinc 1 2, 3) := by decide +kernel
theorem dX7_goYears_119 : decode cX7_goYears 119 = .ok (.goto 33, 3) := by decide +kernel
theorem dX7_goYears_122 : decode cX7_goYears 122 = .ok (.aload_n 0, 1) := by decide +kernel
theorem dX7_goYears_123 : decode cX7_goYears 123 = .ok (.aload_n 0, 1) := by decide +kernel
theorem dX7_goYears_124 : decode cX7_goYears 124 = .ok (.iload_n 1, 1) := by decide +kernel
theorem dX7_goYears_125 : decode cX7_goYears 125 = .ok (.invokevirtual 117, 3) := by decide +kernel
theorem dX7_goYears_128 : decode cX7_goYears 128 = .ok (.putfield 111, 3) := by decide +kernel
theorem dX7_goYears_131 : decode cX7_goYears 131 = .ok (.iload_n 1, 1) := by decide +kernel
theorem dX7_goYears_132 : decode cX7_goYears 132 = .ok (.aload_n 0, 1) := by decide +kernel
theorem dX7_goYears_133 : decode cX7_goYears 133 = .ok (.getfield 26, 3) := by decide +kernel
theorem dX7_goYears_136 : decode cX7_goYears 136 = .ok (.iload_n 1, 1) := by decide +kernel
theorem dX7_goYears_137 : decode cX7_goYears 137 = .ok (.iconst 1, 1) := by decide +kernel
theorem dX7_goYears_138 : decode cX7_goYears 138 = .ok (.iadd, 1) := by decide +kernel
theorem dX7_goYears_139 : decode cX7_goYears 139 = .ok (.iaload, 1) := by decide +kernel
theorem dX7_goYears_140 : decode cX7_goYears 140 = .ok (.bipush 36, 2) := by decide +kernel
theorem dX7_goYears_142 : decode cX7_goYears 142 = .ok (.if_icmp .ne 7, 3) := by decide +kernel
theorem dX7_goYears_145 : decode cX7_goYears 145 = .ok (.iconst 3, 1) := by decide +kernel
theorem dX7_goYears_146 : decode cX7_goYears 146 = .ok (.goto 4, 3) := by decide +kernel
theorem dX7_goYears_149 : decode cX7_goYears 149 = .ok (.iconst 2, 1) := by decide +kernel
theorem dX7_goYears_150 : decode cX7_goYears 150 = .ok (.iadd, 1) := by decide +kernel
