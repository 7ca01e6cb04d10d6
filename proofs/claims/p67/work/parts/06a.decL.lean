theorem dL_cell_0 : decode cL_cell 0 = .ok (.iload_n 1, 1) := by decide +kernel
theorem dL_cell_1 : decode cL_cell 1 = .ok (.aload_n 0, 1) := by decide +kernel
theorem dL_cell_2 : decode cL_cell 2 = .ok (.arraylength, 1) := by decide +kernel
theorem dL_cell_3 : decode cL_cell 3 = .ok (.if_icmp .ge 9, 3) := by decide +kernel
theorem dL_cell_6 : decode cL_cell 6 = .ok (.aload_n 0, 1) := by decide +kernel
theorem dL_cell_7 : decode cL_cell 7 = .ok (.iload_n 1, 1) := by decide +kernel
theorem dL_cell_8 : decode cL_cell 8 = .ok (.iaload, 1) := by decide +kernel
theorem dL_cell_9 : decode cL_cell 9 = .ok (.goto 11, 3) := by decide +kernel
theorem dL_cell_12 : decode cL_cell 12 = .ok (.sipush 7919, 3) := by decide +kernel
theorem dL_cell_15 : decode cL_cell 15 = .ok (.iload_n 1, 1) := by decide +kernel
theorem dL_cell_16 : decode cL_cell 16 = .ok (.imul, 1) := by decide +kernel
theorem dL_cell_17 : decode cL_cell 17 = .ok (.bipush 12, 2) := by decide +kernel
theorem dL_cell_19 : decode cL_cell 19 = .ok (.iadd, 1) := by decide +kernel
theorem dL_cell_20 : decode cL_cell 20 = .ok (.ireturn, 1) := by decide +kernel
theorem dL_some_0 : decode cL_some 0 = .ok (.aload_n 0, 1) := by decide +kernel
theorem dL_some_1 : decode cL_some 1 = .ok (.iload_n 1, 1) := by decide +kernel
theorem dL_some_2 : decode cL_some 2 = .ok (.invokestatic 7, 3) := by decide +kernel
theorem dL_some_5 : decode cL_some 5 = .ok (.iconst 3, 1) := by decide +kernel
theorem dL_some_6 : decode cL_some 6 = .ok (.iushr, 1) := by decide +kernel
theorem dL_some_7 : decode cL_some 7 = .ok (.iload_n 2, 1) := by decide +kernel
theorem dL_some_8 : decode cL_some 8 = .ok (.irem, 1) := by decide +kernel
theorem dL_some_9 : decode cL_some 9 = .ok (.ireturn, 1) := by decide +kernel
theorem dL_addKettle_0 : decode cL_addKettle 0 = .ok (.aload_n 0, 1) := by decide +kernel
theorem dL_addKettle_1 : decode cL_addKettle 1 = .ok (.iload_n 1, 1) := by decide +kernel
theorem dL_addKettle_2 : decode cL_addKettle 2 = .ok (.invokevirtual 13, 3) := by decide +kernel
theorem dL_addKettle_5 : decode cL_addKettle 5 = .ok (.ireturn, 1) := by decide +kernel
theorem dL_addKettle_6 : decode cL_addKettle 6 = .ok (.astore_n 2, 1) := by decide +kernel
theorem dL_addKettle_7 : decode cL_addKettle 7 = .ok (.sipush (-20000), 3) := by decide +kernel
theorem dL_addKettle_10 : decode cL_addKettle 10 = .ok (.ireturn, 1) := by decide +kernel
theorem dL_addKettle_11 : decode cL_addKettle 11 = .ok (.astore_n 2, 1) := by decide +kernel
theorem dL_addKettle_12 : decode cL_addKettle 12 = .ok (.sipush (-10000), 3) := by decide +kernel
theorem dL_addKettle_15 : decode cL_addKettle 15 = .ok (.ireturn, 1) := by decide +kernel
theorem dL_fill_0 : decode cL_fill 0 = .ok (.aload_n 0, 1) := by decide +kernel
theorem dL_fill_1 : decode cL_fill 1 = .ok (.iload_n 1, 1) := by decide +kernel
theorem dL_fill_2 : decode cL_fill 2 = .ok (.iload_n 2, 1) := by decide +kernel
theorem dL_fill_3 : decode cL_fill 3 = .ok (.invokevirtual 23, 3) := by decide +kernel
theorem dL_fill_6 : decode cL_fill 6 = .ok (.freturn, 1) := by decide +kernel
theorem dL_fill_7 : decode cL_fill 7 = .ok (.astore_n 3, 1) := by decide +kernel
theorem dL_fill_8 : decode cL_fill 8 = .ok (.ldc 29, 2) := by decide +kernel
theorem dL_fill_10 : decode cL_fill 10 = .ok (.freturn, 1) := by decide +kernel
theorem dL_fill_11 : decode cL_fill 11 = .ok (.astore_n 3, 1) := by decide +kernel
theorem dL_fill_12 : decode cL_fill 12 = .ok (.ldc 30, 2) := by decide +kernel
theorem dL_fill_14 : decode cL_fill 14 = .ok (.freturn, 1) := by decide +kernel
theorem dL_fill_15 : decode cL_fill 15 = .ok (.astore_n 3, 1) := by decide +kernel
theorem dL_fill_16 : decode cL_fill 16 = .ok (.ldc 31, 2) := by decide +kernel
theorem dL_fill_18 : decode cL_fill 18 = .ok (.freturn, 1) := by decide +kernel
theorem dL_setBurner_0 : decode cL_setBurner 0 = .ok (.aload_n 0, 1) := by decide +kernel
theorem dL_setBurner_1 : decode cL_setBurner 1 = .ok (.iload_n 1, 1) := by decide +kernel
theorem dL_setBurner_2 : decode cL_setBurner 2 = .ok (.iload_n 2, 1) := by decide +kernel
theorem dL_setBurner_3 : decode cL_setBurner 3 = .ok (.invokevirtual 32, 3) := by decide +kernel
theorem dL_setBurner_6 : decode cL_setBurner 6 = .ok (.ireturn, 1) := by decide +kernel
theorem dL_setBurner_7 : decode cL_setBurner 7 = .ok (.astore_n 3, 1) := by decide +kernel
theorem dL_setBurner_8 : decode cL_setBurner 8 = .ok (.sipush (-25000), 3) := by decide +kernel
theorem dL_setBurner_11 : decode cL_setBurner 11 = .ok (.ireturn, 1) := by decide +kernel
theorem dL_setBurner_12 : decode cL_setBurner 12 = .ok (.astore_n 3, 1) := by decide +kernel
theorem dL_setBurner_13 : decode cL_setBurner 13 = .ok (.sipush (-20000), 3) := by decide +kernel
theorem dL_setBurner_16 : decode cL_setBurner 16 = .ok (.ireturn, 1) := by decide +kernel
theorem dL_order_0 : decode cL_order 0 = .ok (.aload_n 0, 1) := by decide +kernel
theorem dL_order_1 : decode cL_order 1 = .ok (.iload_n 1, 1) := by decide +kernel
theorem dL_order_2 : decode cL_order 2 = .ok (.iload_n 2, 1) := by decide +kernel
theorem dL_order_3 : decode cL_order 3 = .ok (.iload_n 3, 1) := by decide +kernel
theorem dL_order_4 : decode cL_order 4 = .ok (.iload 4, 2) := by decide +kernel
theorem dL_order_6 : decode cL_order 6 = .ok (.invokevirtual 36, 3) := by decide +kernel
theorem dL_order_9 : decode cL_order 9 = .ok (.ireturn, 1) := by decide +kernel
theorem dL_order_10 : decode cL_order 10 = .ok (.astore 5, 2) := by decide +kernel
theorem dL_order_12 : decode cL_order 12 = .ok (.sipush (-20000), 3) := by decide +kernel
theorem dL_order_15 : decode cL_order 15 = .ok (.ireturn, 1) := by decide +kernel
theorem dL_order_16 : decode cL_order 16 = .ok (.astore 5, 2) := by decide +kernel
theorem dL_order_18 : decode cL_order 18 = .ok (.sipush (-10000), 3) := by decide +kernel
theorem dL_order_21 : decode cL_order 21 = .ok (.ireturn, 1) := by decide +kernel
theorem dL_cancel_0 : decode cL_cancel 0 = .ok (.aload_n 0, 1) := by decide +kernel
theorem dL_cancel_1 : decode cL_cancel 1 = .ok (.iload_n 1, 1) := by decide +kernel
theorem dL_cancel_2 : decode cL_cancel 2 = .ok (.invokevirtual 40, 3) := by decide +kernel
theorem dL_cancel_5 : decode cL_cancel 5 = .ok (.ireturn, 1) := by decide +kernel
theorem dL_cancel_6 : decode cL_cancel 6 = .ok (.astore_n 2, 1) := by decide +kernel
theorem dL_cancel_7 : decode cL_cancel 7 = .ok (.sipush (-30000), 3) := by decide +kernel
theorem dL_cancel_10 : decode cL_cancel 10 = .ok (.ireturn, 1) := by decide +kernel
theorem dL_serveNext_0 : decode cL_serveNext 0 = .ok (.aload_n 0, 1) := by decide +kernel
theorem dL_serveNext_1 : decode cL_serveNext 1 = .ok (.invokevirtual 45, 3) := by decide +kernel
theorem dL_serveNext_4 : decode cL_serveNext 4 = .ok (.ireturn, 1) := by decide +kernel
theorem dL_serveNext_5 : decode cL_serveNext 5 = .ok (.astore_n 1, 1) := by decide +kernel
theorem dL_serveNext_6 : decode cL_serveNext 6 = .ok (.sipush (-10000), 3) := by decide +kernel
theorem dL_serveNext_9 : decode cL_serveNext 9 = .ok (.ireturn, 1) := by decide +kernel
theorem dL_wash_0 : decode cL_wash 0 = .ok (.aload_n 0, 1) := by decide +kernel
theorem dL_wash_1 : decode cL_wash 1 = .ok (.iload_n 1, 1) := by decide +kernel
theorem dL_wash_2 : decode cL_wash 2 = .ok (.invokevirtual 49, 3) := by decide +kernel
theorem dL_wash_5 : decode cL_wash 5 = .ok (.ireturn, 1) := by decide +kernel
theorem dL_wash_6 : decode cL_wash 6 = .ok (.astore_n 2, 1) := by decide +kernel
theorem dL_wash_7 : decode cL_wash 7 = .ok (.sipush (-20000), 3) := by decide +kernel
theorem dL_wash_10 : decode cL_wash 10 = .ok (.ireturn, 1) := by decide +kernel
theorem dL_wash_11 : decode cL_wash 11 = .ok (.astore_n 2, 1) := by decide +kernel
theorem dL_wash_12 : decode cL_wash 12 = .ok (.sipush (-10000), 3) := by decide +kernel
theorem dL_wash_15 : decode cL_wash 15 = .ok (.ireturn, 1) := by decide +kernel
theorem dL_sellSteam_0 : decode cL_sellSteam 0 = .ok (.aload_n 0, 1) := by decide +kernel
theorem dL_sellSteam_1 : decode cL_sellSteam 1 = .ok (.iload_n 1, 1) := by decide +kernel
theorem dL_sellSteam_2 : decode cL_sellSteam 2 = .ok (.invokevirtual 52, 3) := by decide +kernel
theorem dL_sellSteam_5 : decode cL_sellSteam 5 = .ok (.freturn, 1) := by decide +kernel
theorem dL_sellSteam_6 : decode cL_sellSteam 6 = .ok (.astore_n 2, 1) := by decide +kernel
theorem dL_sellSteam_7 : decode cL_sellSteam 7 = .ok (.ldc 30, 2) := by decide +kernel
theorem dL_sellSteam_9 : decode cL_sellSteam 9 = .ok (.freturn, 1) := by decide +kernel
theorem dL_sellSteam_10 : decode cL_sellSteam 10 = .ok (.astore_n 2, 1) := by decide +kernel
theorem dL_sellSteam_11 : decode cL_sellSteam 11 = .ok (.ldc 31, 2) := by decide +kernel
theorem dL_sellSteam_13 : decode cL_sellSteam 13 = .ok (.freturn, 1) := by decide +kernel
theorem dL_setCupPrice_0 : decode cL_setCupPrice 0 = .ok (.aload_n 0, 1) := by decide +kernel
theorem dL_setCupPrice_1 : decode cL_setCupPrice 1 = .ok (.iload_n 1, 1) := by decide +kernel
theorem dL_setCupPrice_2 : decode cL_setCupPrice 2 = .ok (.invokevirtual 56, 3) := by decide +kernel
theorem dL_setCupPrice_5 : decode cL_setCupPrice 5 = .ok (.freturn, 1) := by decide +kernel
theorem dL_setCupPrice_6 : decode cL_setCupPrice 6 = .ok (.astore_n 2, 1) := by decide +kernel
theorem dL_setCupPrice_7 : decode cL_setCupPrice 7 = .ok (.ldc 30, 2) := by decide +kernel
theorem dL_setCupPrice_9 : decode cL_setCupPrice 9 = .ok (.freturn, 1) := by decide +kernel
theorem dL_setSteamPrice_0 : decode cL_setSteamPrice 0 = .ok (.aload_n 0, 1) := by decide +kernel
theorem dL_setSteamPrice_1 : decode cL_setSteamPrice 1 = .ok (.iload_n 1, 1) := by decide +kernel
theorem dL_setSteamPrice_2 : decode cL_setSteamPrice 2 = .ok (.invokevirtual 59, 3) := by decide +kernel
theorem dL_setSteamPrice_5 : decode cL_setSteamPrice 5 = .ok (.freturn, 1) := by decide +kernel
theorem dL_setSteamPrice_6 : decode cL_setSteamPrice 6 = .ok (.astore_n 2, 1) := by decide +kernel
theorem dL_setSteamPrice_7 : decode cL_setSteamPrice 7 = .ok (.ldc 30, 2) := by decide +kernel
theorem dL_setSteamPrice_9 : decode cL_setSteamPrice 9 = .ok (.freturn, 1) := by decide +kernel
theorem dL_pass_0 : decode cL_pass 0 = .ok (.aload_n 0, 1) := by decide +kernel
theorem dL_pass_1 : decode cL_pass 1 = .ok (.iload_n 1, 1) := by decide +kernel
theorem dL_pass_2 : decode cL_pass 2 = .ok (.invokevirtual 62, 3) := by decide +kernel
theorem dL_pass_5 : decode cL_pass 5 = .ok (.ireturn, 1) := by decide +kernel
theorem dL_pass_6 : decode cL_pass 6 = .ok (.astore_n 2, 1) := by decide +kernel
theorem dL_pass_7 : decode cL_pass 7 = .ok (.sipush (-20000), 3) := by decide +kernel
theorem dL_pass_10 : decode cL_pass 10 = .ok (.ireturn, 1) := by decide +kernel
theorem dL_closeNight_0 : decode cL_closeNight 0 = .ok (.aload_n 0, 1) := by decide +kernel
theorem dL_closeNight_1 : decode cL_closeNight 1 = .ok (.invokevirtual 65, 3) := by decide +kernel
theorem dL_closeNight_4 : decode cL_closeNight 4 = .ok (.freturn, 1) := by decide +kernel
theorem dL_closeNight_5 : decode cL_closeNight 5 = .ok (.astore_n 1, 1) := by decide +kernel
theorem dL_closeNight_6 : decode cL_closeNight 6 = .ok (.ldc 31, 2) := by decide +kernel
theorem dL_closeNight_8 : decode cL_closeNight 8 = .ok (.freturn, 1) := by decide +kernel
theorem dL_minutesUntilBoiling_0 : decode cL_minutesUntilBoiling 0 = .ok (.aload_n 0, 1) := by decide +kernel
theorem dL_minutesUntilBoiling_1 : decode cL_minutesUntilBoiling 1 = .ok (.iload_n 1, 1) := by decide +kernel
theorem dL_minutesUntilBoiling_2 : decode cL_minutesUntilBoiling 2 = .ok (.invokevirtual 69, 3) := by decide +kernel
theorem dL_minutesUntilBoiling_5 : decode cL_minutesUntilBoiling 5 = .ok (.ireturn, 1) := by decide +kernel
theorem dL_minutesUntilBoiling_6 : decode cL_minutesUntilBoiling 6 = .ok (.astore_n 2, 1) := by decide +kernel
theorem dL_minutesUntilBoiling_7 : decode cL_minutesUntilBoiling 7 = .ok (.sipush (-25000), 3) := by decide +kernel
theorem dL_minutesUntilBoiling_10 : decode cL_minutesUntilBoiling 10 = .ok (.ireturn, 1) := by decide +kernel
theorem dL_minutesUntilBoiling_11 : decode cL_minutesUntilBoiling 11 = .ok (.astore_n 2, 1) := by decide +kernel
theorem dL_minutesUntilBoiling_12 : decode cL_minutesUntilBoiling 12 = .ok (.sipush (-30000), 3) := by decide +kernel
theorem dL_minutesUntilBoiling_15 : decode cL_minutesUntilBoiling 15 = .ok (.ireturn, 1) := by decide +kernel
theorem dL_minutesUntilBoilingByMinutes_0 : decode cL_minutesUntilBoilingByMinutes 0 = .ok (.aload_n 0, 1) := by decide +kernel
theorem dL_minutesUntilBoilingByMinutes_1 : decode cL_minutesUntilBoilingByMinutes 1 = .ok (.iload_n 1, 1) := by decide +kernel
theorem dL_minutesUntilBoilingByMinutes_2 : decode cL_minutesUntilBoilingByMinutes 2 = .ok (.invokevirtual 72, 3) := by decide +kernel
theorem dL_minutesUntilBoilingByMinutes_5 : decode cL_minutesUntilBoilingByMinutes 5 = .ok (.ireturn, 1) := by decide +kernel
theorem dL_minutesUntilBoilingByMinutes_6 : decode cL_minutesUntilBoilingByMinutes 6 = .ok (.astore_n 2, 1) := by decide +kernel
theorem dL_minutesUntilBoilingByMinutes_7 : decode cL_minutesUntilBoilingByMinutes 7 = .ok (.sipush (-25000), 3) := by decide +kernel
theorem dL_minutesUntilBoilingByMinutes_10 : decode cL_minutesUntilBoilingByMinutes 10 = .ok (.ireturn, 1) := by decide +kernel
theorem dL_minutesUntilBoilingByMinutes_11 : decode cL_minutesUntilBoilingByMinutes 11 = .ok (.astore_n 2, 1) := by decide +kernel
theorem dL_minutesUntilBoilingByMinutes_12 : decode cL_minutesUntilBoilingByMinutes 12 = .ok (.sipush (-30000), 3) := by decide +kernel
theorem dL_minutesUntilBoilingByMinutes_15 : decode cL_minutesUntilBoilingByMinutes 15 = .ok (.ireturn, 1) := by decide +kernel
theorem dL_kettleByTemperature_0 : decode cL_kettleByTemperature 0 = .ok (.aload_n 0, 1) := by decide +kernel
theorem dL_kettleByTemperature_1 : decode cL_kettleByTemperature 1 = .ok (.iload_n 1, 1) := by decide +kernel
theorem dL_kettleByTemperature_2 : decode cL_kettleByTemperature 2 = .ok (.invokevirtual 75, 3) := by decide +kernel
theorem dL_kettleByTemperature_5 : decode cL_kettleByTemperature 5 = .ok (.ireturn, 1) := by decide +kernel
theorem dL_kettleByTemperature_6 : decode cL_kettleByTemperature 6 = .ok (.astore_n 2, 1) := by decide +kernel
theorem dL_kettleByTemperature_7 : decode cL_kettleByTemperature 7 = .ok (.sipush (-30000), 3) := by decide +kernel
theorem dL_kettleByTemperature_10 : decode cL_kettleByTemperature 10 = .ok (.ireturn, 1) := by decide +kernel
theorem dL_orderAt_0 : decode cL_orderAt 0 = .ok (.aload_n 0, 1) := by decide +kernel
theorem dL_orderAt_1 : decode cL_orderAt 1 = .ok (.iload_n 1, 1) := by decide +kernel
theorem dL_orderAt_2 : decode cL_orderAt 2 = .ok (.invokevirtual 78, 3) := by decide +kernel
theorem dL_orderAt_5 : decode cL_orderAt 5 = .ok (.ireturn, 1) := by decide +kernel
theorem dL_orderAt_6 : decode cL_orderAt 6 = .ok (.astore_n 2, 1) := by decide +kernel
theorem dL_orderAt_7 : decode cL_orderAt 7 = .ok (.sipush (-30000), 3) := by decide +kernel
theorem dL_orderAt_10 : decode cL_orderAt 10 = .ok (.ireturn, 1) := by decide +kernel
theorem dL_kettleFor_0 : decode cL_kettleFor 0 = .ok (.aload_n 0, 1) := by decide +kernel
theorem dL_kettleFor_1 : decode cL_kettleFor 1 = .ok (.iload_n 1, 1) := by decide +kernel
theorem dL_kettleFor_2 : decode cL_kettleFor 2 = .ok (.invokevirtual 81, 3) := by decide +kernel
theorem dL_kettleFor_5 : decode cL_kettleFor 5 = .ok (.ireturn, 1) := by decide +kernel
theorem dL_kettleFor_6 : decode cL_kettleFor 6 = .ok (.astore_n 2, 1) := by decide +kernel
theorem dL_kettleFor_7 : decode cL_kettleFor 7 = .ok (.sipush (-30000), 3) := by decide +kernel
theorem dL_kettleFor_10 : decode cL_kettleFor 10 = .ok (.ireturn, 1) := by decide +kernel
theorem dL_nightByIncome_0 : decode cL_nightByIncome 0 = .ok (.aload_n 0, 1) := by decide +kernel
theorem dL_nightByIncome_1 : decode cL_nightByIncome 1 = .ok (.iload_n 1, 1) := by decide +kernel
theorem dL_nightByIncome_2 : decode cL_nightByIncome 2 = .ok (.invokevirtual 84, 3) := by decide +kernel
theorem dL_nightByIncome_5 : decode cL_nightByIncome 5 = .ok (.ireturn, 1) := by decide +kernel
theorem dL_nightByIncome_6 : decode cL_nightByIncome 6 = .ok (.astore_n 2, 1) := by decide +kernel
theorem dL_nightByIncome_7 : decode cL_nightByIncome 7 = .ok (.sipush (-30000), 3) := by decide +kernel
theorem dL_nightByIncome_10 : decode cL_nightByIncome 10 = .ok (.ireturn, 1) := by decide +kernel
theorem dL_minutesUntilSuitable_0 : decode cL_minutesUntilSuitable 0 = .ok (.aload_n 0, 1) := by decide +kernel
theorem dL_minutesUntilSuitable_1 : decode cL_minutesUntilSuitable 1 = .ok (.iload_n 1, 1) := by decide +kernel
theorem dL_minutesUntilSuitable_2 : decode cL_minutesUntilSuitable 2 = .ok (.invokevirtual 87, 3) := by decide +kernel
theorem dL_minutesUntilSuitable_5 : decode cL_minutesUntilSuitable 5 = .ok (.ireturn, 1) := by decide +kernel
theorem dL_minutesUntilSuitable_6 : decode cL_minutesUntilSuitable 6 = .ok (.astore_n 2, 1) := by decide +kernel
theorem dL_minutesUntilSuitable_7 : decode cL_minutesUntilSuitable 7 = .ok (.sipush (-30000), 3) := by decide +kernel
theorem dL_minutesUntilSuitable_10 : decode cL_minutesUntilSuitable 10 = .ok (.ireturn, 1) := by decide +kernel
theorem dL_greatestIncome_0 : decode cL_greatestIncome 0 = .ok (.aload_n 0, 1) := by decide +kernel
theorem dL_greatestIncome_1 : decode cL_greatestIncome 1 = .ok (.iload_n 1, 1) := by decide +kernel
theorem dL_greatestIncome_2 : decode cL_greatestIncome 2 = .ok (.invokevirtual 90, 3) := by decide +kernel
theorem dL_greatestIncome_5 : decode cL_greatestIncome 5 = .ok (.freturn, 1) := by decide +kernel
theorem dL_greatestIncome_6 : decode cL_greatestIncome 6 = .ok (.astore_n 2, 1) := by decide +kernel
theorem dL_greatestIncome_7 : decode cL_greatestIncome 7 = .ok (.ldc 30, 2) := by decide +kernel
theorem dL_greatestIncome_9 : decode cL_greatestIncome 9 = .ok (.freturn, 1) := by decide +kernel
theorem dL_greatestIncome_10 : decode cL_greatestIncome 10 = .ok (.astore_n 2, 1) := by decide +kernel
theorem dL_greatestIncome_11 : decode cL_greatestIncome 11 = .ok (.ldc 93, 2) := by decide +kernel
theorem dL_greatestIncome_13 : decode cL_greatestIncome 13 = .ok (.freturn, 1) := by decide +kernel
theorem dL_greatestIncomeBySums_0 : decode cL_greatestIncomeBySums 0 = .ok (.aload_n 0, 1) := by decide +kernel
theorem dL_greatestIncomeBySums_1 : decode cL_greatestIncomeBySums 1 = .ok (.iload_n 1, 1) := by decide +kernel
theorem dL_greatestIncomeBySums_2 : decode cL_greatestIncomeBySums 2 = .ok (.invokevirtual 94, 3) := by decide +kernel
theorem dL_greatestIncomeBySums_5 : decode cL_greatestIncomeBySums 5 = .ok (.freturn, 1) := by decide +kernel
theorem dL_greatestIncomeBySums_6 : decode cL_greatestIncomeBySums 6 = .ok (.astore_n 2, 1) := by decide +kernel
theorem dL_greatestIncomeBySums_7 : decode cL_greatestIncomeBySums 7 = .ok (.ldc 30, 2) := by decide +kernel
theorem dL_greatestIncomeBySums_9 : decode cL_greatestIncomeBySums 9 = .ok (.freturn, 1) := by decide +kernel
theorem dL_greatestIncomeBySums_10 : decode cL_greatestIncomeBySums 10 = .ok (.astore_n 2, 1) := by decide +kernel
theorem dL_greatestIncomeBySums_11 : decode cL_greatestIncomeBySums 11 = .ok (.ldc 93, 2) := by decide +kernel
theorem dL_greatestIncomeBySums_13 : decode cL_greatestIncomeBySums 13 = .ok (.freturn, 1) := by decide +kernel
theorem dL_build_0 : decode cL_build 0 = .ok (.iconst 0, 1) := by decide +kernel
theorem dL_build_1 : decode cL_build 1 = .ok (.istore_n 3, 1) := by decide +kernel
theorem dL_build_2 : decode cL_build 2 = .ok (.iload_n 3, 1) := by decide +kernel
theorem dL_build_3 : decode cL_build 3 = .ok (.iconst 3, 1) := by decide +kernel
theorem dL_build_4 : decode cL_build 4 = .ok (.if_icmp .ge 24, 3) := by decide +kernel
theorem dL_build_7 : decode cL_build 7 = .ok (.aload_n 0, 1) := by decide +kernel
theorem dL_build_8 : decode cL_build 8 = .ok (.bipush 6, 2) := by decide +kernel
theorem dL_build_10 : decode cL_build 10 = .ok (.aload_n 1, 1) := by decide +kernel
theorem dL_build_11 : decode cL_build 11 = .ok (.iload_n 3, 1) := by decide +kernel
theorem dL_build_12 : decode cL_build 12 = .ok (.bipush 11, 2) := by decide +kernel
theorem dL_build_14 : decode cL_build 14 = .ok (.invokestatic 97, 3) := by decide +kernel
theorem dL_build_17 : decode cL_build 17 = .ok (.iadd, 1) := by decide +kernel
theorem dL_build_18 : decode cL_build 18 = .ok (.invokestatic 101, 3) := by decide +kernel
theorem dL_build_21 : decode cL_build 21 = .ok (.istore_n 2, 1) := by decide +kernel
theorem dL_build_22 : decode cL_build 22 = .ok (.iinc 3 1, 3) := by decide +kernel
theorem dL_build_25 : decode cL_build 25 = .ok (.goto (-23), 3) := by decide +kernel
theorem dL_build_28 : decode cL_build 28 = .ok (.iconst 0, 1) := by decide +kernel
theorem dL_build_29 : decode cL_build 29 = .ok (.istore_n 3, 1) := by decide +kernel
theorem dL_build_30 : decode cL_build 30 = .ok (.iload_n 3, 1) := by decide +kernel
theorem dL_build_31 : decode cL_build 31 = .ok (.iconst 3, 1) := by decide +kernel
theorem dL_build_32 : decode cL_build 32 = .ok (.if_icmp .ge 42, 3) := by decide +kernel
theorem dL_build_35 : decode cL_build 35 = .ok (.aload_n 0, 1) := by decide +kernel
theorem dL_build_36 : decode cL_build 36 = .ok (.iload_n 3, 1) := by decide +kernel
theorem dL_build_37 : decode cL_build 37 = .ok (.iconst 2, 1) := by decide +kernel
theorem dL_build_38 : decode cL_build 38 = .ok (.aload_n 1, 1) := by decide +kernel
theorem dL_build_39 : decode cL_build 39 = .ok (.iconst 4, 1) := by decide +kernel
theorem dL_build_40 : decode cL_build 40 = .ok (.iload_n 3, 1) := by decide +kernel
theorem dL_build_41 : decode cL_build 41 = .ok (.iadd, 1) := by decide +kernel
theorem dL_build_42 : decode cL_build 42 = .ok (.iconst 5, 1) := by decide +kernel
theorem dL_build_43 : decode cL_build 43 = .ok (.invokestatic 97, 3) := by decide +kernel
theorem dL_build_46 : decode cL_build 46 = .ok (.iadd, 1) := by decide +kernel
theorem dL_build_47 : decode cL_build 47 = .ok (.invokestatic 104, 3) := by decide +kernel
theorem dL_build_50 : decode cL_build 50 = .ok (.fstore 4, 2) := by decide +kernel
theorem dL_build_52 : decode cL_build 52 = .ok (.aload_n 0, 1) := by decide +kernel
theorem dL_build_53 : decode cL_build 53 = .ok (.iload_n 3, 1) := by decide +kernel
theorem dL_build_54 : decode cL_build 54 = .ok (.aload_n 1, 1) := by decide +kernel
theorem dL_build_55 : decode cL_build 55 = .ok (.bipush 8, 2) := by decide +kernel
theorem dL_build_57 : decode cL_build 57 = .ok (.iload_n 3, 1) := by decide +kernel
theorem dL_build_58 : decode cL_build 58 = .ok (.iadd, 1) := by decide +kernel
theorem dL_build_59 : decode cL_build 59 = .ok (.bipush 6, 2) := by decide +kernel
theorem dL_build_61 : decode cL_build 61 = .ok (.invokestatic 97, 3) := by decide +kernel
theorem dL_build_64 : decode cL_build 64 = .ok (.invokestatic 107, 3) := by decide +kernel
theorem dL_build_67 : decode cL_build 67 = .ok (.istore_n 2, 1) := by decide +kernel
theorem dL_build_68 : decode cL_build 68 = .ok (.iinc 3 1, 3) := by decide +kernel
theorem dL_build_71 : decode cL_build 71 = .ok (.goto (-41), 3) := by decide +kernel
theorem dL_build_74 : decode cL_build 74 = .ok (.iconst 0, 1) := by decide +kernel
theorem dL_build_75 : decode cL_build 75 = .ok (.istore_n 3, 1) := by decide +kernel
theorem dL_build_76 : decode cL_build 76 = .ok (.iload_n 3, 1) := by decide +kernel
theorem dL_build_77 : decode cL_build 77 = .ok (.bipush 20, 2) := by decide +kernel
theorem dL_build_79 : decode cL_build 79 = .ok (.if_icmp .ge 20, 3) := by decide +kernel
theorem dL_build_82 : decode cL_build 82 = .ok (.aload_n 0, 1) := by decide +kernel
theorem dL_build_83 : decode cL_build 83 = .ok (.aload_n 1, 1) := by decide +kernel
theorem dL_build_84 : decode cL_build 84 = .ok (.bipush 12, 2) := by decide +kernel
theorem dL_build_86 : decode cL_build 86 = .ok (.iconst 4, 1) := by decide +kernel
theorem dL_build_87 : decode cL_build 87 = .ok (.iload_n 3, 1) := by decide +kernel
theorem dL_build_88 : decode cL_build 88 = .ok (.imul, 1) := by decide +kernel
theorem dL_build_89 : decode cL_build 89 = .ok (.iadd, 1) := by decide +kernel
theorem dL_build_90 : decode cL_build 90 = .ok (.invokestatic 110, 3) := by decide +kernel
theorem dL_build_93 : decode cL_build 93 = .ok (.iinc 3 1, 3) := by decide +kernel
theorem dL_build_96 : decode cL_build 96 = .ok (.goto (-20), 3) := by decide +kernel
theorem dL_build_99 : decode cL_build 99 = .ok (.return_, 1) := by decide +kernel
theorem dL_acts_0 : decode cL_acts 0 = .ok (.aload_n 1, 1) := by decide +kernel
theorem dL_acts_1 : decode cL_acts 1 = .ok (.iload_n 2, 1) := by decide +kernel
theorem dL_acts_2 : decode cL_acts 2 = .ok (.iconst 1, 1) := by decide +kernel
theorem dL_acts_3 : decode cL_acts 3 = .ok (.iadd, 1) := by decide +kernel
theorem dL_acts_4 : decode cL_acts 4 = .ok (.bipush 120, 2) := by decide +kernel
theorem dL_acts_6 : decode cL_acts 6 = .ok (.invokestatic 97, 3) := by decide +kernel
theorem dL_acts_9 : decode cL_acts 9 = .ok (.istore_n 3, 1) := by decide +kernel
theorem dL_acts_10 : decode cL_acts 10 = .ok (.aload_n 1, 1) := by decide +kernel
theorem dL_acts_11 : decode cL_acts 11 = .ok (.iload_n 2, 1) := by decide +kernel
theorem dL_acts_12 : decode cL_acts 12 = .ok (.iconst 2, 1) := by decide +kernel
theorem dL_acts_13 : decode cL_acts 13 = .ok (.iadd, 1) := by decide +kernel
theorem dL_acts_14 : decode cL_acts 14 = .ok (.aload_n 0, 1) := by decide +kernel
theorem dL_acts_15 : decode cL_acts 15 = .ok (.invokevirtual 114, 3) := by decide +kernel
theorem dL_acts_18 : decode cL_acts 18 = .ok (.invokestatic 97, 3) := by decide +kernel
theorem dL_acts_21 : decode cL_acts 21 = .ok (.istore 4, 2) := by decide +kernel
theorem dL_acts_23 : decode cL_acts 23 = .ok (.aload_n 0, 1) := by decide +kernel
theorem dL_acts_24 : decode cL_acts 24 = .ok (.invokevirtual 117, 3) := by decide +kernel
theorem dL_acts_27 : decode cL_acts 27 = .ok (.istore 5, 2) := by decide +kernel
theorem dL_acts_29 : decode cL_acts 29 = .ok (.aload_n 1, 1) := by decide +kernel
theorem dL_acts_30 : decode cL_acts 30 = .ok (.iload_n 2, 1) := by decide +kernel
theorem dL_acts_31 : decode cL_acts 31 = .ok (.bipush 18, 2) := by decide +kernel
theorem dL_acts_33 : decode cL_acts 33 = .ok (.invokestatic 97, 3) := by decide +kernel
theorem dL_acts_36 : decode cL_acts 36 = .ok (.tableswitch 321 0 16 #[84, 111, 111, 128, 128, 143, 143, 143, 184, 210, 210, 210, 219, 233, 248, 282, 302], 84) := by decide +kernel
theorem dL_acts_120 : decode cL_acts 120 = .ok (.aload_n 0, 1) := by decide +kernel
theorem dL_acts_121 : decode cL_acts 121 = .ok (.invokevirtual 114, 3) := by decide +kernel
theorem dL_acts_124 : decode cL_acts 124 = .ok (.iconst 3, 1) := by decide +kernel
theorem dL_acts_125 : decode cL_acts 125 = .ok (.if_icmp .ge 16, 3) := by decide +kernel
theorem dL_acts_128 : decode cL_acts 128 = .ok (.aload_n 0, 1) := by decide +kernel
theorem dL_acts_129 : decode cL_acts 129 = .ok (.iconst 2, 1) := by decide +kernel
theorem dL_acts_130 : decode cL_acts 130 = .ok (.iload_n 3, 1) := by decide +kernel
theorem dL_acts_131 : decode cL_acts 131 = .ok (.bipush 15, 2) := by decide +kernel
theorem dL_acts_133 : decode cL_acts 133 = .ok (.irem, 1) := by decide +kernel
theorem dL_acts_134 : decode cL_acts 134 = .ok (.iadd, 1) := by decide +kernel
theorem dL_acts_135 : decode cL_acts 135 = .ok (.invokestatic 101, 3) := by decide +kernel
theorem dL_acts_138 : decode cL_acts 138 = .ok (.goto 4, 3) := by decide +kernel
theorem dL_acts_141 : decode cL_acts 141 = .ok (.iconst 0, 1) := by decide +kernel
theorem dL_acts_142 : decode cL_acts 142 = .ok (.istore 6, 2) := by decide +kernel
theorem dL_acts_144 : decode cL_acts 144 = .ok (.goto 225, 3) := by decide +kernel
theorem dL_acts_147 : decode cL_acts 147 = .ok (.aload_n 0, 1) := by decide +kernel
theorem dL_acts_148 : decode cL_acts 148 = .ok (.iload 4, 2) := by decide +kernel
theorem dL_acts_150 : decode cL_acts 150 = .ok (.iconst 1, 1) := by decide +kernel
theorem dL_acts_151 : decode cL_acts 151 = .ok (.iload_n 3, 1) := by decide +kernel
theorem dL_acts_152 : decode cL_acts 152 = .ok (.bipush 6, 2) := by decide +kernel
theorem dL_acts_154 : decode cL_acts 154 = .ok (.irem, 1) := by decide +kernel
theorem dL_acts_155 : decode cL_acts 155 = .ok (.iadd, 1) := by decide +kernel
theorem dL_acts_156 : decode cL_acts 156 = .ok (.invokestatic 104, 3) := by decide +kernel
theorem dL_acts_159 : decode cL_acts 159 = .ok (.fstore 7, 2) := by decide +kernel
theorem dL_acts_161 : decode cL_acts 161 = .ok (.goto 208, 3) := by decide +kernel
theorem dL_acts_164 : decode cL_acts 164 = .ok (.aload_n 0, 1) := by decide +kernel
theorem dL_acts_165 : decode cL_acts 165 = .ok (.iload 4, 2) := by decide +kernel
theorem dL_acts_167 : decode cL_acts 167 = .ok (.iload_n 3, 1) := by decide +kernel
theorem dL_acts_168 : decode cL_acts 168 = .ok (.bipush 6, 2) := by decide +kernel
theorem dL_acts_170 : decode cL_acts 170 = .ok (.irem, 1) := by decide +kernel
theorem dL_acts_171 : decode cL_acts 171 = .ok (.invokestatic 107, 3) := by decide +kernel
theorem dL_acts_174 : decode cL_acts 174 = .ok (.istore 6, 2) := by decide +kernel
theorem dL_acts_176 : decode cL_acts 176 = .ok (.goto 193, 3) := by decide +kernel
theorem dL_acts_179 : decode cL_acts 179 = .ok (.iload 5, 2) := by decide +kernel
theorem dL_acts_181 : decode cL_acts 181 = .ok (.bipush 9, 2) := by decide +kernel
theorem dL_acts_183 : decode cL_acts 183 = .ok (.if_icmp .ge 31, 3) := by decide +kernel
theorem dL_acts_186 : decode cL_acts 186 = .ok (.aload_n 0, 1) := by decide +kernel
theorem dL_acts_187 : decode cL_acts 187 = .ok (.iload_n 3, 1) := by decide +kernel
theorem dL_acts_188 : decode cL_acts 188 = .ok (.bipush 10, 2) := by decide +kernel
theorem dL_acts_190 : decode cL_acts 190 = .ok (.irem, 1) := by decide +kernel
theorem dL_acts_191 : decode cL_acts 191 = .ok (.iconst 1, 1) := by decide +kernel
theorem dL_acts_192 : decode cL_acts 192 = .ok (.iload_n 3, 1) := by decide +kernel
theorem dL_acts_193 : decode cL_acts 193 = .ok (.iconst 4, 1) := by decide +kernel
theorem dL_acts_194 : decode cL_acts 194 = .ok (.irem, 1) := by decide +kernel
theorem dL_acts_195 : decode cL_acts 195 = .ok (.iadd, 1) := by decide +kernel
theorem dL_acts_196 : decode cL_acts 196 = .ok (.bipush 60, 2) := by decide +kernel
theorem dL_acts_198 : decode cL_acts 198 = .ok (.iload_n 3, 1) := by decide +kernel
theorem dL_acts_199 : decode cL_acts 199 = .ok (.bipush 41, 2) := by decide +kernel
theorem dL_acts_201 : decode cL_acts 201 = .ok (.irem, 1) := by decide +kernel
theorem dL_acts_202 : decode cL_acts 202 = .ok (.iadd, 1) := by decide +kernel
theorem dL_acts_203 : decode cL_acts 203 = .ok (.iconst 1, 1) := by decide +kernel
theorem dL_acts_204 : decode cL_acts 204 = .ok (.iload_n 3, 1) := by decide +kernel
theorem dL_acts_205 : decode cL_acts 205 = .ok (.iconst 3, 1) := by decide +kernel
theorem dL_acts_206 : decode cL_acts 206 = .ok (.irem, 1) := by decide +kernel
theorem dL_acts_207 : decode cL_acts 207 = .ok (.iadd, 1) := by decide +kernel
theorem dL_acts_208 : decode cL_acts 208 = .ok (.invokestatic 120, 3) := by decide +kernel
theorem dL_acts_211 : decode cL_acts 211 = .ok (.goto 4, 3) := by decide +kernel
theorem dL_acts_214 : decode cL_acts 214 = .ok (.iconst 0, 1) := by decide +kernel
theorem dL_acts_215 : decode cL_acts 215 = .ok (.istore 6, 2) := by decide +kernel
theorem dL_acts_217 : decode cL_acts 217 = .ok (.goto 152, 3) := by decide +kernel
theorem dL_acts_220 : decode cL_acts 220 = .ok (.iload 5, 2) := by decide +kernel
theorem dL_acts_222 : decode cL_acts 222 = .ok (.ifCond .le 18, 3) := by decide +kernel
theorem dL_acts_225 : decode cL_acts 225 = .ok (.aload_n 0, 1) := by decide +kernel
theorem dL_acts_226 : decode cL_acts 226 = .ok (.aload_n 0, 1) := by decide +kernel
theorem dL_acts_227 : decode cL_acts 227 = .ok (.iload_n 3, 1) := by decide +kernel
theorem dL_acts_228 : decode cL_acts 228 = .ok (.iload 5, 2) := by decide +kernel
theorem dL_acts_230 : decode cL_acts 230 = .ok (.irem, 1) := by decide +kernel
theorem dL_acts_231 : decode cL_acts 231 = .ok (.invokevirtual 78, 3) := by decide +kernel
theorem dL_acts_234 : decode cL_acts 234 = .ok (.invokestatic 123, 3) := by decide +kernel
theorem dL_acts_237 : decode cL_acts 237 = .ok (.goto 4, 3) := by decide +kernel
theorem dL_acts_240 : decode cL_acts 240 = .ok (.iconst 0, 1) := by decide +kernel
theorem dL_acts_241 : decode cL_acts 241 = .ok (.istore 6, 2) := by decide +kernel
theorem dL_acts_243 : decode cL_acts 243 = .ok (.goto 126, 3) := by decide +kernel
theorem dL_acts_246 : decode cL_acts 246 = .ok (.aload_n 0, 1) := by decide +kernel
theorem dL_acts_247 : decode cL_acts 247 = .ok (.invokestatic 125, 3) := by decide +kernel
theorem dL_acts_250 : decode cL_acts 250 = .ok (.istore 6, 2) := by decide +kernel
theorem dL_acts_252 : decode cL_acts 252 = .ok (.goto 117, 3) := by decide +kernel
theorem dL_acts_255 : decode cL_acts 255 = .ok (.aload_n 0, 1) := by decide +kernel
theorem dL_acts_256 : decode cL_acts 256 = .ok (.iconst 1, 1) := by decide +kernel
theorem dL_acts_257 : decode cL_acts 257 = .ok (.iload_n 3, 1) := by decide +kernel
theorem dL_acts_258 : decode cL_acts 258 = .ok (.iconst 5, 1) := by decide +kernel
theorem dL_acts_259 : decode cL_acts 259 = .ok (.irem, 1) := by decide +kernel
theorem dL_acts_260 : decode cL_acts 260 = .ok (.iadd, 1) := by decide +kernel
theorem dL_acts_261 : decode cL_acts 261 = .ok (.invokestatic 128, 3) := by decide +kernel
theorem dL_acts_264 : decode cL_acts 264 = .ok (.istore 6, 2) := by decide +kernel
theorem dL_acts_266 : decode cL_acts 266 = .ok (.goto 103, 3) := by decide +kernel
theorem dL_acts_269 : decode cL_acts 269 = .ok (.aload_n 0, 1) := by decide +kernel
theorem dL_acts_270 : decode cL_acts 270 = .ok (.iconst 1, 1) := by decide +kernel
theorem dL_acts_271 : decode cL_acts 271 = .ok (.iload_n 3, 1) := by decide +kernel
theorem dL_acts_272 : decode cL_acts 272 = .ok (.bipush 9, 2) := by decide +kernel
theorem dL_acts_274 : decode cL_acts 274 = .ok (.irem, 1) := by decide +kernel
theorem dL_acts_275 : decode cL_acts 275 = .ok (.iadd, 1) := by decide +kernel
theorem dL_acts_276 : decode cL_acts 276 = .ok (.invokestatic 130, 3) := by decide +kernel
theorem dL_acts_279 : decode cL_acts 279 = .ok (.fstore 7, 2) := by decide +kernel
theorem dL_acts_281 : decode cL_acts 281 = .ok (.goto 88, 3) := by decide +kernel
theorem dL_acts_284 : decode cL_acts 284 = .ok (.iload_n 3, 1) := by decide +kernel
theorem dL_acts_285 : decode cL_acts 285 = .ok (.iconst 2, 1) := by decide +kernel
theorem dL_acts_286 : decode cL_acts 286 = .ok (.irem, 1) := by decide +kernel
theorem dL_acts_287 : decode cL_acts 287 = .ok (.ifCond .ne 16, 3) := by decide +kernel
theorem dL_acts_290 : decode cL_acts 290 = .ok (.aload_n 0, 1) := by decide +kernel
theorem dL_acts_291 : decode cL_acts 291 = .ok (.iconst 1, 1) := by decide +kernel
theorem dL_acts_292 : decode cL_acts 292 = .ok (.iload_n 3, 1) := by decide +kernel
theorem dL_acts_293 : decode cL_acts 293 = .ok (.bipush 80, 2) := by decide +kernel
theorem dL_acts_295 : decode cL_acts 295 = .ok (.irem, 1) := by decide +kernel
theorem dL_acts_296 : decode cL_acts 296 = .ok (.iadd, 1) := by decide +kernel
theorem dL_acts_297 : decode cL_acts 297 = .ok (.invokestatic 133, 3) := by decide +kernel
theorem dL_acts_300 : decode cL_acts 300 = .ok (.goto 13, 3) := by decide +kernel
theorem dL_acts_303 : decode cL_acts 303 = .ok (.aload_n 0, 1) := by decide +kernel
theorem dL_acts_304 : decode cL_acts 304 = .ok (.iconst 1, 1) := by decide +kernel
theorem dL_acts_305 : decode cL_acts 305 = .ok (.iload_n 3, 1) := by decide +kernel
theorem dL_acts_306 : decode cL_acts 306 = .ok (.bipush 80, 2) := by decide +kernel
theorem dL_acts_308 : decode cL_acts 308 = .ok (.irem, 1) := by decide +kernel
theorem dL_acts_309 : decode cL_acts 309 = .ok (.iadd, 1) := by decide +kernel
theorem dL_acts_310 : decode cL_acts 310 = .ok (.invokestatic 135, 3) := by decide +kernel
theorem dL_acts_313 : decode cL_acts 313 = .ok (.fstore 7, 2) := by decide +kernel
theorem dL_acts_315 : decode cL_acts 315 = .ok (.goto 54, 3) := by decide +kernel
theorem dL_acts_318 : decode cL_acts 318 = .ok (.aload_n 0, 1) := by decide +kernel
theorem dL_acts_319 : decode cL_acts 319 = .ok (.iload_n 3, 1) := by decide +kernel
theorem dL_acts_320 : decode cL_acts 320 = .ok (.iconst 2, 1) := by decide +kernel
theorem dL_acts_321 : decode cL_acts 321 = .ok (.irem, 1) := by decide +kernel
theorem dL_acts_322 : decode cL_acts 322 = .ok (.ifCond .ne 7, 3) := by decide +kernel
theorem dL_acts_325 : decode cL_acts 325 = .ok (.iconst 1, 1) := by decide +kernel
theorem dL_acts_326 : decode cL_acts 326 = .ok (.goto 4, 3) := by decide +kernel
theorem dL_acts_329 : decode cL_acts 329 = .ok (.iconst 0, 1) := by decide +kernel
theorem dL_acts_330 : decode cL_acts 330 = .ok (.invokevirtual 137, 3) := by decide +kernel
theorem dL_acts_333 : decode cL_acts 333 = .ok (.istore 8, 2) := by decide +kernel
theorem dL_acts_335 : decode cL_acts 335 = .ok (.goto 34, 3) := by decide +kernel
theorem dL_acts_338 : decode cL_acts 338 = .ok (.iload_n 3, 1) := by decide +kernel
theorem dL_acts_339 : decode cL_acts 339 = .ok (.iconst 4, 1) := by decide +kernel
theorem dL_acts_340 : decode cL_acts 340 = .ok (.irem, 1) := by decide +kernel
theorem dL_acts_341 : decode cL_acts 341 = .ok (.ifCond .ne 10, 3) := by decide +kernel
theorem dL_acts_344 : decode cL_acts 344 = .ok (.aload_n 0, 1) := by decide +kernel
theorem dL_acts_345 : decode cL_acts 345 = .ok (.invokestatic 141, 3) := by decide +kernel
theorem dL_acts_348 : decode cL_acts 348 = .ok (.goto 4, 3) := by decide +kernel
theorem dL_acts_351 : decode cL_acts 351 = .ok (.fconst 0, 1) := by decide +kernel
theorem dL_acts_352 : decode cL_acts 352 = .ok (.fstore 7, 2) := by decide +kernel
theorem dL_acts_354 : decode cL_acts 354 = .ok (.goto 15, 3) := by decide +kernel
theorem dL_acts_357 : decode cL_acts 357 = .ok (.aload_n 0, 1) := by decide +kernel
theorem dL_acts_358 : decode cL_acts 358 = .ok (.iconst 1, 1) := by decide +kernel
theorem dL_acts_359 : decode cL_acts 359 = .ok (.iload_n 3, 1) := by decide +kernel
theorem dL_acts_360 : decode cL_acts 360 = .ok (.bipush 25, 2) := by decide +kernel
theorem dL_acts_362 : decode cL_acts 362 = .ok (.irem, 1) := by decide +kernel
theorem dL_acts_363 : decode cL_acts 363 = .ok (.iadd, 1) := by decide +kernel
theorem dL_acts_364 : decode cL_acts 364 = .ok (.invokestatic 144, 3) := by decide +kernel
theorem dL_acts_367 : decode cL_acts 367 = .ok (.istore 6, 2) := by decide +kernel
theorem dL_acts_369 : decode cL_acts 369 = .ok (.return_, 1) := by decide +kernel
theorem dL_eighths_0 : decode cL_eighths 0 = .ok (.ldc 146, 2) := by decide +kernel
theorem dL_eighths_2 : decode cL_eighths 2 = .ok (.fload_n 0, 1) := by decide +kernel
theorem dL_eighths_3 : decode cL_eighths 3 = .ok (.fmul, 1) := by decide +kernel
theorem dL_eighths_4 : decode cL_eighths 4 = .ok (.f2i, 1) := by decide +kernel
theorem dL_eighths_5 : decode cL_eighths 5 = .ok (.ireturn, 1) := by decide +kernel
theorem dL_least_0 : decode cL_least 0 = .ok (.aload_n 0, 1) := by decide +kernel
theorem dL_least_1 : decode cL_least 1 = .ok (.iload_n 1, 1) := by decide +kernel
theorem dL_least_2 : decode cL_least 2 = .ok (.invokevirtual 147, 3) := by decide +kernel
theorem dL_least_5 : decode cL_least 5 = .ok (.istore_n 2, 1) := by decide +kernel
theorem dL_least_6 : decode cL_least 6 = .ok (.iconst 0, 1) := by decide +kernel
theorem dL_least_7 : decode cL_least 7 = .ok (.istore_n 3, 1) := by decide +kernel
theorem dL_least_8 : decode cL_least 8 = .ok (.iconst 0, 1) := by decide +kernel
theorem dL_least_9 : decode cL_least 9 = .ok (.istore 4, 2) := by decide +kernel
theorem dL_least_11 : decode cL_least 11 = .ok (.aload_n 0, 1) := by decide +kernel
theorem dL_least_12 : decode cL_least 12 = .ok (.iload_n 3, 1) := by decide +kernel
theorem dL_least_13 : decode cL_least 13 = .ok (.invokevirtual 150, 3) := by decide +kernel
theorem dL_least_16 : decode cL_least 16 = .ok (.bipush 120, 2) := by decide +kernel
theorem dL_least_18 : decode cL_least 18 = .ok (.if_icmp .eq 9, 3) := by decide +kernel
theorem dL_least_21 : decode cL_least 21 = .ok (.iinc 3 1, 3) := by decide +kernel
theorem dL_least_24 : decode cL_least 24 = .ok (.goto (-13), 3) := by decide +kernel
theorem dL_least_27 : decode cL_least 27 = .ok (.iinc 3 1, 3) := by decide +kernel
theorem dL_least_30 : decode cL_least 30 = .ok (.aload_n 0, 1) := by decide +kernel
theorem dL_least_31 : decode cL_least 31 = .ok (.iload_n 3, 1) := by decide +kernel
theorem dL_least_32 : decode cL_least 32 = .ok (.invokevirtual 150, 3) := by decide +kernel
theorem dL_least_35 : decode cL_least 35 = .ok (.bipush 32, 2) := by decide +kernel
theorem dL_least_37 : decode cL_least 37 = .ok (.if_icmp .eq 25, 3) := by decide +kernel
theorem dL_least_40 : decode cL_least 40 = .ok (.bipush 10, 2) := by decide +kernel
theorem dL_least_42 : decode cL_least 42 = .ok (.iload 4, 2) := by decide +kernel
theorem dL_least_44 : decode cL_least 44 = .ok (.imul, 1) := by decide +kernel
theorem dL_least_45 : decode cL_least 45 = .ok (.aload_n 0, 1) := by decide +kernel
theorem dL_least_46 : decode cL_least 46 = .ok (.iload_n 3, 1) := by decide +kernel
theorem dL_least_47 : decode cL_least 47 = .ok (.invokevirtual 150, 3) := by decide +kernel
theorem dL_least_50 : decode cL_least 50 = .ok (.iadd, 1) := by decide +kernel
theorem dL_least_51 : decode cL_least 51 = .ok (.bipush 48, 2) := by decide +kernel
theorem dL_least_53 : decode cL_least 53 = .ok (.isub, 1) := by decide +kernel
theorem dL_least_54 : decode cL_least 54 = .ok (.istore 4, 2) := by decide +kernel
theorem dL_least_56 : decode cL_least 56 = .ok (.iinc 3 1, 3) := by decide +kernel
theorem dL_least_59 : decode cL_least 59 = .ok (.goto (-29), 3) := by decide +kernel
theorem dL_least_62 : decode cL_least 62 = .ok (.iload_n 2, 1) := by decide +kernel
theorem dL_least_63 : decode cL_least 63 = .ok (.iload_n 3, 1) := by decide +kernel
theorem dL_least_64 : decode cL_least 64 = .ok (.if_icmp .le 8, 3) := by decide +kernel
theorem dL_least_67 : decode cL_least 67 = .ok (.iload 4, 2) := by decide +kernel
theorem dL_least_69 : decode cL_least 69 = .ok (.goto 6, 3) := by decide +kernel
theorem dL_least_72 : decode cL_least 72 = .ok (.sipush (-30000), 3) := by decide +kernel
theorem dL_least_75 : decode cL_least 75 = .ok (.ireturn, 1) := by decide +kernel
theorem dL_pours_0 : decode cL_pours 0 = .ok (.sipush (-30000), 3) := by decide +kernel
theorem dL_pours_3 : decode cL_pours 3 = .ok (.istore_n 3, 1) := by decide +kernel
theorem dL_pours_4 : decode cL_pours 4 = .ok (.iconst 0, 1) := by decide +kernel
theorem dL_pours_5 : decode cL_pours 5 = .ok (.istore 4, 2) := by decide +kernel
theorem dL_pours_7 : decode cL_pours 7 = .ok (.iload 4, 2) := by decide +kernel
theorem dL_pours_9 : decode cL_pours 9 = .ok (.aload_n 0, 1) := by decide +kernel
theorem dL_pours_10 : decode cL_pours 10 = .ok (.invokevirtual 114, 3) := by decide +kernel
theorem dL_pours_13 : decode cL_pours 13 = .ok (.if_icmp .ge 68, 3) := by decide +kernel
theorem dL_pours_16 : decode cL_pours 16 = .ok (.aload_n 0, 1) := by decide +kernel
theorem dL_pours_17 : decode cL_pours 17 = .ok (.iload 4, 2) := by decide +kernel
theorem dL_pours_19 : decode cL_pours 19 = .ok (.invokevirtual 154, 3) := by decide +kernel
theorem dL_pours_22 : decode cL_pours 22 = .ok (.ldc 157, 2) := by decide +kernel
theorem dL_pours_24 : decode cL_pours 24 = .ok (.iload_n 1, 1) := by decide +kernel
theorem dL_pours_25 : decode cL_pours 25 = .ok (.i2f, 1) := by decide +kernel
theorem dL_pours_26 : decode cL_pours 26 = .ok (.fmul, 1) := by decide +kernel
theorem dL_pours_27 : decode cL_pours 27 = .ok (.fcmp .g, 1) := by decide +kernel
theorem dL_pours_28 : decode cL_pours 28 = .ok (.ifCond .lt 47, 3) := by decide +kernel
theorem dL_pours_31 : decode cL_pours 31 = .ok (.aload_n 0, 1) := by decide +kernel
theorem dL_pours_32 : decode cL_pours 32 = .ok (.iload 4, 2) := by decide +kernel
theorem dL_pours_34 : decode cL_pours 34 = .ok (.invokevirtual 158, 3) := by decide +kernel
theorem dL_pours_37 : decode cL_pours 37 = .ok (.iload_n 2, 1) := by decide +kernel
theorem dL_pours_38 : decode cL_pours 38 = .ok (.i2f, 1) := by decide +kernel
theorem dL_pours_39 : decode cL_pours 39 = .ok (.fcmp .g, 1) := by decide +kernel
theorem dL_pours_40 : decode cL_pours 40 = .ok (.ifCond .ge 6, 3) := by decide +kernel
theorem dL_pours_43 : decode cL_pours 43 = .ok (.goto 32, 3) := by decide +kernel
theorem dL_pours_46 : decode cL_pours 46 = .ok (.iload_n 3, 1) := by decide +kernel
theorem dL_pours_47 : decode cL_pours 47 = .ok (.sipush (-30000), 3) := by decide +kernel
theorem dL_pours_50 : decode cL_pours 50 = .ok (.if_icmp .eq 18, 3) := by decide +kernel
theorem dL_pours_53 : decode cL_pours 53 = .ok (.aload_n 0, 1) := by decide +kernel
theorem dL_pours_54 : decode cL_pours 54 = .ok (.iload 4, 2) := by decide +kernel
theorem dL_pours_56 : decode cL_pours 56 = .ok (.invokevirtual 158, 3) := by decide +kernel
theorem dL_pours_59 : decode cL_pours 59 = .ok (.aload_n 0, 1) := by decide +kernel
theorem dL_pours_60 : decode cL_pours 60 = .ok (.iload_n 3, 1) := by decide +kernel
theorem dL_pours_61 : decode cL_pours 61 = .ok (.invokevirtual 158, 3) := by decide +kernel
theorem dL_pours_64 : decode cL_pours 64 = .ok (.fcmp .l, 1) := by decide +kernel
theorem dL_pours_65 : decode cL_pours 65 = .ok (.ifCond .le 8, 3) := by decide +kernel
theorem dL_pours_68 : decode cL_pours 68 = .ok (.iload 4, 2) := by decide +kernel
theorem dL_pours_70 : decode cL_pours 70 = .ok (.goto 4, 3) := by decide +kernel
theorem dL_pours_73 : decode cL_pours 73 = .ok (.iload_n 3, 1) := by decide +kernel
theorem dL_pours_74 : decode cL_pours 74 = .ok (.istore_n 3, 1) := by decide +kernel
theorem dL_pours_75 : decode cL_pours 75 = .ok (.iinc 4 1, 3) := by decide +kernel
theorem dL_pours_78 : decode cL_pours 78 = .ok (.goto (-71), 3) := by decide +kernel
theorem dL_pours_81 : decode cL_pours 81 = .ok (.iload_n 3, 1) := by decide +kernel
theorem dL_pours_82 : decode cL_pours 82 = .ok (.ireturn, 1) := by decide +kernel
theorem dL_isLine_0 : decode cL_isLine 0 = .ok (.iload_n 1, 1) := by decide +kernel
theorem dL_isLine_1 : decode cL_isLine 1 = .ok (.aload_n 2, 1) := by decide +kernel
theorem dL_isLine_2 : decode cL_isLine 2 = .ok (.invokevirtual 161, 3) := by decide +kernel
theorem dL_isLine_5 : decode cL_isLine 5 = .ok (.if_icmp .eq 5, 3) := by decide +kernel
theorem dL_isLine_8 : decode cL_isLine 8 = .ok (.iconst 0, 1) := by decide +kernel
theorem dL_isLine_9 : decode cL_isLine 9 = .ok (.ireturn, 1) := by decide +kernel
theorem dL_isLine_10 : decode cL_isLine 10 = .ok (.iconst 0, 1) := by decide +kernel
theorem dL_isLine_11 : decode cL_isLine 11 = .ok (.istore_n 3, 1) := by decide +kernel
theorem dL_isLine_12 : decode cL_isLine 12 = .ok (.iload_n 3, 1) := by decide +kernel
theorem dL_isLine_13 : decode cL_isLine 13 = .ok (.iload_n 1, 1) := by decide +kernel
theorem dL_isLine_14 : decode cL_isLine 14 = .ok (.if_icmp .ge 24, 3) := by decide +kernel
theorem dL_isLine_17 : decode cL_isLine 17 = .ok (.aload_n 0, 1) := by decide +kernel
theorem dL_isLine_18 : decode cL_isLine 18 = .ok (.iload_n 3, 1) := by decide +kernel
theorem dL_isLine_19 : decode cL_isLine 19 = .ok (.invokevirtual 150, 3) := by decide +kernel
theorem dL_isLine_22 : decode cL_isLine 22 = .ok (.aload_n 2, 1) := by decide +kernel
theorem dL_isLine_23 : decode cL_isLine 23 = .ok (.iload_n 3, 1) := by decide +kernel
theorem dL_isLine_24 : decode cL_isLine 24 = .ok (.invokevirtual 166, 3) := by decide +kernel
theorem dL_isLine_27 : decode cL_isLine 27 = .ok (.if_icmp .eq 5, 3) := by decide +kernel
theorem dL_isLine_30 : decode cL_isLine 30 = .ok (.iconst 0, 1) := by decide +kernel
theorem dL_isLine_31 : decode cL_isLine 31 = .ok (.ireturn, 1) := by decide +kernel
theorem dL_isLine_32 : decode cL_isLine 32 = .ok (.iinc 3 1, 3) := by decide +kernel
theorem dL_isLine_35 : decode cL_isLine 35 = .ok (.goto (-23), 3) := by decide +kernel
theorem dL_isLine_38 : decode cL_isLine 38 = .ok (.iconst 1, 1) := by decide +kernel
theorem dL_isLine_39 : decode cL_isLine 39 = .ok (.ireturn, 1) := by decide +kernel
theorem dL_law_0 : decode cL_law 0 = .ok (.new 14, 3) := by decide +kernel
theorem dL_law_3 : decode cL_law 3 = .ok (.dup, 1) := by decide +kernel
theorem dL_law_4 : decode cL_law 4 = .ok (.invokespecial 169, 3) := by decide +kernel
theorem dL_law_7 : decode cL_law 7 = .ok (.astore_n 1, 1) := by decide +kernel
theorem dL_law_8 : decode cL_law 8 = .ok (.aload_n 1, 1) := by decide +kernel
theorem dL_law_9 : decode cL_law 9 = .ok (.aload_n 0, 1) := by decide +kernel
theorem dL_law_10 : decode cL_law 10 = .ok (.invokestatic 170, 3) := by decide +kernel
theorem dL_law_13 : decode cL_law 13 = .ok (.iconst 0, 1) := by decide +kernel
theorem dL_law_14 : decode cL_law 14 = .ok (.istore_n 2, 1) := by decide +kernel
theorem dL_law_15 : decode cL_law 15 = .ok (.iload_n 2, 1) := by decide +kernel
theorem dL_law_16 : decode cL_law 16 = .ok (.iconst 4, 1) := by decide +kernel
theorem dL_law_17 : decode cL_law 17 = .ok (.if_icmp .ge 1155, 3) := by decide +kernel
theorem dL_law_20 : decode cL_law 20 = .ok (.aload_n 1, 1) := by decide +kernel
theorem dL_law_21 : decode cL_law 21 = .ok (.invokevirtual 114, 3) := by decide +kernel
theorem dL_law_24 : decode cL_law 24 = .ok (.istore_n 3, 1) := by decide +kernel
theorem dL_law_25 : decode cL_law 25 = .ok (.aload_n 1, 1) := by decide +kernel
theorem dL_law_26 : decode cL_law 26 = .ok (.invokevirtual 117, 3) := by decide +kernel
theorem dL_law_29 : decode cL_law 29 = .ok (.istore 4, 2) := by decide +kernel
